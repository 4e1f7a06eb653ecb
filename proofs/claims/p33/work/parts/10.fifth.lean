/-- J6_bitCount_0f7a4 -/
theorem hd_J6_bitCount_0f7a4 : yJ6_bitCount_0f7a4.cls = yJ6_bitCount_0f7a4.cls ∧ yJ6_bitCount_0f7a4.cls ≠ "java/lang/invoke/MethodHandle" ∧ yJ6_bitCount_0f7a4.cls ≠ "java/lang/invoke/VarHandle" ∧ (parseMethodDescriptor yJ6_bitCount_0f7a4.desc).map (fun d => d.parameters.length) = some 1 := by decide +kernel
def fJ6_bitCount_0f7a4 (a0 : Int32) : Int32 := (((((((a0 - (((a0.toUInt32 >>> ((1 : Int32).toUInt32 &&& Int32.toUInt32 31)).toInt32) &&& 1431655765)) &&& 858993459) + ((((a0 - (((a0.toUInt32 >>> ((1 : Int32).toUInt32 &&& Int32.toUInt32 31)).toInt32) &&& 1431655765)).toUInt32 >>> ((2 : Int32).toUInt32 &&& Int32.toUInt32 31)).toInt32) &&& 858993459)) + (((((a0 - (((a0.toUInt32 >>> ((1 : Int32).toUInt32 &&& Int32.toUInt32 31)).toInt32) &&& 1431655765)) &&& 858993459) + ((((a0 - (((a0.toUInt32 >>> ((1 : Int32).toUInt32 &&& Int32.toUInt32 31)).toInt32) &&& 1431655765)).toUInt32 >>> ((2 : Int32).toUInt32 &&& Int32.toUInt32 31)).toInt32) &&& 858993459)).toUInt32 >>> ((4 : Int32).toUInt32 &&& Int32.toUInt32 31)).toInt32)) &&& 252645135) + (((((((a0 - (((a0.toUInt32 >>> ((1 : Int32).toUInt32 &&& Int32.toUInt32 31)).toInt32) &&& 1431655765)) &&& 858993459) + ((((a0 - (((a0.toUInt32 >>> ((1 : Int32).toUInt32 &&& Int32.toUInt32 31)).toInt32) &&& 1431655765)).toUInt32 >>> ((2 : Int32).toUInt32 &&& Int32.toUInt32 31)).toInt32) &&& 858993459)) + (((((a0 - (((a0.toUInt32 >>> ((1 : Int32).toUInt32 &&& Int32.toUInt32 31)).toInt32) &&& 1431655765)) &&& 858993459) + ((((a0 - (((a0.toUInt32 >>> ((1 : Int32).toUInt32 &&& Int32.toUInt32 31)).toInt32) &&& 1431655765)).toUInt32 >>> ((2 : Int32).toUInt32 &&& Int32.toUInt32 31)).toInt32) &&& 858993459)).toUInt32 >>> ((4 : Int32).toUInt32 &&& Int32.toUInt32 31)).toInt32)) &&& 252645135).toUInt32 >>> ((8 : Int32).toUInt32 &&& Int32.toUInt32 31)).toInt32)) + ((((((((a0 - (((a0.toUInt32 >>> ((1 : Int32).toUInt32 &&& Int32.toUInt32 31)).toInt32) &&& 1431655765)) &&& 858993459) + ((((a0 - (((a0.toUInt32 >>> ((1 : Int32).toUInt32 &&& Int32.toUInt32 31)).toInt32) &&& 1431655765)).toUInt32 >>> ((2 : Int32).toUInt32 &&& Int32.toUInt32 31)).toInt32) &&& 858993459)) + (((((a0 - (((a0.toUInt32 >>> ((1 : Int32).toUInt32 &&& Int32.toUInt32 31)).toInt32) &&& 1431655765)) &&& 858993459) + ((((a0 - (((a0.toUInt32 >>> ((1 : Int32).toUInt32 &&& Int32.toUInt32 31)).toInt32) &&& 1431655765)).toUInt32 >>> ((2 : Int32).toUInt32 &&& Int32.toUInt32 31)).toInt32) &&& 858993459)).toUInt32 >>> ((4 : Int32).toUInt32 &&& Int32.toUInt32 31)).toInt32)) &&& 252645135) + (((((((a0 - (((a0.toUInt32 >>> ((1 : Int32).toUInt32 &&& Int32.toUInt32 31)).toInt32) &&& 1431655765)) &&& 858993459) + ((((a0 - (((a0.toUInt32 >>> ((1 : Int32).toUInt32 &&& Int32.toUInt32 31)).toInt32) &&& 1431655765)).toUInt32 >>> ((2 : Int32).toUInt32 &&& Int32.toUInt32 31)).toInt32) &&& 858993459)) + (((((a0 - (((a0.toUInt32 >>> ((1 : Int32).toUInt32 &&& Int32.toUInt32 31)).toInt32) &&& 1431655765)) &&& 858993459) + ((((a0 - (((a0.toUInt32 >>> ((1 : Int32).toUInt32 &&& Int32.toUInt32 31)).toInt32) &&& 1431655765)).toUInt32 >>> ((2 : Int32).toUInt32 &&& Int32.toUInt32 31)).toInt32) &&& 858993459)).toUInt32 >>> ((4 : Int32).toUInt32 &&& Int32.toUInt32 31)).toInt32)) &&& 252645135).toUInt32 >>> ((8 : Int32).toUInt32 &&& Int32.toUInt32 31)).toInt32)).toUInt32 >>> ((16 : Int32).toUInt32 &&& Int32.toUInt32 31)).toInt32)) &&& 63
set_option maxHeartbeats 400000 in
set_option maxRecDepth 100000 in
theorem mJ6_bitCount_0f7a4 (l : Launch) (D : va_G) (cA : ClassId) (ad : Nat → Nat) (τ ρ π γ : Sg) (a0 : Int32) : Met l yJ6_bitCount_0f7a4 (wM yJ6_bitCount_0f7a4 cJ6_bitCount_0f7a4 1 (some .int)) ({ frames := 0, cells := 0, slots := 0, locals := 0 }) (va_Pc [.int a0] (pS D cA ad τ ρ π γ)) (QcRead (fJ6_bitCount_0f7a4 a0)) 0 0 noA := by
  refine sy_of (by decide) (Nat.le_of_ble_eq_true rfl) ?_
  intro p e s m below meth c ls C hr hlk hK hN hP hl
  obtain ⟨hx, hb, hml, hown, hts⟩ := id C
  have htA : ∀ w ∈ wA, w.before ([.int a0] : List Value).toArray s = true := fun w h => hts w (List.mem_cons_of_mem _ h)
  have hl : lv_has ls 1 [(0, .int a0)] := hl
  refine lv_iload_n hx hb dJ6_bitCount_0f7a4_0 rfl (lv_at hl 0 rfl) ?_
  refine lv_iload_n hx hb dJ6_bitCount_0f7a4_1 rfl (lv_at hl 0 rfl) ?_
  refine lv_iconst (v := 1) hx hb dJ6_bitCount_0f7a4_2 (by decide) ?_
  refine lv_iushr (v := ((a0.toUInt32 >>> ((1 : Int32).toUInt32 &&& Int32.toUInt32 31)).toInt32)) hx hb dJ6_bitCount_0f7a4_3 rfl ?_
  refine lv_ldcw (v := 1431655765) hx hb hown (htA _ kw_440) dJ6_bitCount_0f7a4_4 ?_
  refine lv_iand hx hb dJ6_bitCount_0f7a4_7 ?_
  refine lv_isub hx hb dJ6_bitCount_0f7a4_8 ?_
  refine lv_istore_n (lv' := [(0, .int (a0 - (((a0.toUInt32 >>> ((1 : Int32).toUInt32 &&& Int32.toUInt32 31)).toInt32) &&& 1431655765)))]) hx hb dJ6_bitCount_0f7a4_9 rfl hl (by decide) rfl (fun ls hl => ?_)
  refine lv_iload_n hx hb dJ6_bitCount_0f7a4_10 rfl (lv_at hl 0 rfl) ?_
  refine lv_ldcw (v := 858993459) hx hb hown (htA _ kw_441) dJ6_bitCount_0f7a4_11 ?_
  refine lv_iand hx hb dJ6_bitCount_0f7a4_14 ?_
  refine lv_iload_n hx hb dJ6_bitCount_0f7a4_15 rfl (lv_at hl 0 rfl) ?_
  refine lv_iconst (v := 2) hx hb dJ6_bitCount_0f7a4_16 (by decide) ?_
  refine lv_iushr (v := (((a0 - (((a0.toUInt32 >>> ((1 : Int32).toUInt32 &&& Int32.toUInt32 31)).toInt32) &&& 1431655765)).toUInt32 >>> ((2 : Int32).toUInt32 &&& Int32.toUInt32 31)).toInt32)) hx hb dJ6_bitCount_0f7a4_17 rfl ?_
  refine lv_ldcw (v := 858993459) hx hb hown (htA _ kw_441) dJ6_bitCount_0f7a4_18 ?_
  refine lv_iand hx hb dJ6_bitCount_0f7a4_21 ?_
  refine lv_iadd hx hb dJ6_bitCount_0f7a4_22 ?_
  refine lv_istore_n (lv' := [(0, .int (((a0 - (((a0.toUInt32 >>> ((1 : Int32).toUInt32 &&& Int32.toUInt32 31)).toInt32) &&& 1431655765)) &&& 858993459) + ((((a0 - (((a0.toUInt32 >>> ((1 : Int32).toUInt32 &&& Int32.toUInt32 31)).toInt32) &&& 1431655765)).toUInt32 >>> ((2 : Int32).toUInt32 &&& Int32.toUInt32 31)).toInt32) &&& 858993459)))]) hx hb dJ6_bitCount_0f7a4_23 rfl hl (by decide) rfl (fun ls hl => ?_)
  refine lv_iload_n hx hb dJ6_bitCount_0f7a4_24 rfl (lv_at hl 0 rfl) ?_
  refine lv_iload_n hx hb dJ6_bitCount_0f7a4_25 rfl (lv_at hl 0 rfl) ?_
  refine lv_iconst (v := 4) hx hb dJ6_bitCount_0f7a4_26 (by decide) ?_
  refine lv_iushr (v := (((((a0 - (((a0.toUInt32 >>> ((1 : Int32).toUInt32 &&& Int32.toUInt32 31)).toInt32) &&& 1431655765)) &&& 858993459) + ((((a0 - (((a0.toUInt32 >>> ((1 : Int32).toUInt32 &&& Int32.toUInt32 31)).toInt32) &&& 1431655765)).toUInt32 >>> ((2 : Int32).toUInt32 &&& Int32.toUInt32 31)).toInt32) &&& 858993459)).toUInt32 >>> ((4 : Int32).toUInt32 &&& Int32.toUInt32 31)).toInt32)) hx hb dJ6_bitCount_0f7a4_27 rfl ?_
  refine lv_iadd hx hb dJ6_bitCount_0f7a4_28 ?_
  refine lv_ldcw (v := 252645135) hx hb hown (htA _ kw_442) dJ6_bitCount_0f7a4_29 ?_
  refine lv_iand hx hb dJ6_bitCount_0f7a4_32 ?_
  refine lv_istore_n (lv' := [(0, .int (((((a0 - (((a0.toUInt32 >>> ((1 : Int32).toUInt32 &&& Int32.toUInt32 31)).toInt32) &&& 1431655765)) &&& 858993459) + ((((a0 - (((a0.toUInt32 >>> ((1 : Int32).toUInt32 &&& Int32.toUInt32 31)).toInt32) &&& 1431655765)).toUInt32 >>> ((2 : Int32).toUInt32 &&& Int32.toUInt32 31)).toInt32) &&& 858993459)) + (((((a0 - (((a0.toUInt32 >>> ((1 : Int32).toUInt32 &&& Int32.toUInt32 31)).toInt32) &&& 1431655765)) &&& 858993459) + ((((a0 - (((a0.toUInt32 >>> ((1 : Int32).toUInt32 &&& Int32.toUInt32 31)).toInt32) &&& 1431655765)).toUInt32 >>> ((2 : Int32).toUInt32 &&& Int32.toUInt32 31)).toInt32) &&& 858993459)).toUInt32 >>> ((4 : Int32).toUInt32 &&& Int32.toUInt32 31)).toInt32)) &&& 252645135))]) hx hb dJ6_bitCount_0f7a4_33 rfl hl (by decide) rfl (fun ls hl => ?_)
  refine lv_iload_n hx hb dJ6_bitCount_0f7a4_34 rfl (lv_at hl 0 rfl) ?_
  refine lv_iload_n hx hb dJ6_bitCount_0f7a4_35 rfl (lv_at hl 0 rfl) ?_
  refine lv_bipush (v := 8) hx hb dJ6_bitCount_0f7a4_36 (by decide) ?_
  refine lv_iushr (v := (((((((a0 - (((a0.toUInt32 >>> ((1 : Int32).toUInt32 &&& Int32.toUInt32 31)).toInt32) &&& 1431655765)) &&& 858993459) + ((((a0 - (((a0.toUInt32 >>> ((1 : Int32).toUInt32 &&& Int32.toUInt32 31)).toInt32) &&& 1431655765)).toUInt32 >>> ((2 : Int32).toUInt32 &&& Int32.toUInt32 31)).toInt32) &&& 858993459)) + (((((a0 - (((a0.toUInt32 >>> ((1 : Int32).toUInt32 &&& Int32.toUInt32 31)).toInt32) &&& 1431655765)) &&& 858993459) + ((((a0 - (((a0.toUInt32 >>> ((1 : Int32).toUInt32 &&& Int32.toUInt32 31)).toInt32) &&& 1431655765)).toUInt32 >>> ((2 : Int32).toUInt32 &&& Int32.toUInt32 31)).toInt32) &&& 858993459)).toUInt32 >>> ((4 : Int32).toUInt32 &&& Int32.toUInt32 31)).toInt32)) &&& 252645135).toUInt32 >>> ((8 : Int32).toUInt32 &&& Int32.toUInt32 31)).toInt32)) hx hb dJ6_bitCount_0f7a4_38 rfl ?_
  refine lv_iadd hx hb dJ6_bitCount_0f7a4_39 ?_
  refine lv_istore_n (lv' := [(0, .int ((((((a0 - (((a0.toUInt32 >>> ((1 : Int32).toUInt32 &&& Int32.toUInt32 31)).toInt32) &&& 1431655765)) &&& 858993459) + ((((a0 - (((a0.toUInt32 >>> ((1 : Int32).toUInt32 &&& Int32.toUInt32 31)).toInt32) &&& 1431655765)).toUInt32 >>> ((2 : Int32).toUInt32 &&& Int32.toUInt32 31)).toInt32) &&& 858993459)) + (((((a0 - (((a0.toUInt32 >>> ((1 : Int32).toUInt32 &&& Int32.toUInt32 31)).toInt32) &&& 1431655765)) &&& 858993459) + ((((a0 - (((a0.toUInt32 >>> ((1 : Int32).toUInt32 &&& Int32.toUInt32 31)).toInt32) &&& 1431655765)).toUInt32 >>> ((2 : Int32).toUInt32 &&& Int32.toUInt32 31)).toInt32) &&& 858993459)).toUInt32 >>> ((4 : Int32).toUInt32 &&& Int32.toUInt32 31)).toInt32)) &&& 252645135) + (((((((a0 - (((a0.toUInt32 >>> ((1 : Int32).toUInt32 &&& Int32.toUInt32 31)).toInt32) &&& 1431655765)) &&& 858993459) + ((((a0 - (((a0.toUInt32 >>> ((1 : Int32).toUInt32 &&& Int32.toUInt32 31)).toInt32) &&& 1431655765)).toUInt32 >>> ((2 : Int32).toUInt32 &&& Int32.toUInt32 31)).toInt32) &&& 858993459)) + (((((a0 - (((a0.toUInt32 >>> ((1 : Int32).toUInt32 &&& Int32.toUInt32 31)).toInt32) &&& 1431655765)) &&& 858993459) + ((((a0 - (((a0.toUInt32 >>> ((1 : Int32).toUInt32 &&& Int32.toUInt32 31)).toInt32) &&& 1431655765)).toUInt32 >>> ((2 : Int32).toUInt32 &&& Int32.toUInt32 31)).toInt32) &&& 858993459)).toUInt32 >>> ((4 : Int32).toUInt32 &&& Int32.toUInt32 31)).toInt32)) &&& 252645135).toUInt32 >>> ((8 : Int32).toUInt32 &&& Int32.toUInt32 31)).toInt32)))]) hx hb dJ6_bitCount_0f7a4_40 rfl hl (by decide) rfl (fun ls hl => ?_)
  refine lv_iload_n hx hb dJ6_bitCount_0f7a4_41 rfl (lv_at hl 0 rfl) ?_
  refine lv_iload_n hx hb dJ6_bitCount_0f7a4_42 rfl (lv_at hl 0 rfl) ?_
  refine lv_bipush (v := 16) hx hb dJ6_bitCount_0f7a4_43 (by decide) ?_
  refine lv_iushr (v := ((((((((a0 - (((a0.toUInt32 >>> ((1 : Int32).toUInt32 &&& Int32.toUInt32 31)).toInt32) &&& 1431655765)) &&& 858993459) + ((((a0 - (((a0.toUInt32 >>> ((1 : Int32).toUInt32 &&& Int32.toUInt32 31)).toInt32) &&& 1431655765)).toUInt32 >>> ((2 : Int32).toUInt32 &&& Int32.toUInt32 31)).toInt32) &&& 858993459)) + (((((a0 - (((a0.toUInt32 >>> ((1 : Int32).toUInt32 &&& Int32.toUInt32 31)).toInt32) &&& 1431655765)) &&& 858993459) + ((((a0 - (((a0.toUInt32 >>> ((1 : Int32).toUInt32 &&& Int32.toUInt32 31)).toInt32) &&& 1431655765)).toUInt32 >>> ((2 : Int32).toUInt32 &&& Int32.toUInt32 31)).toInt32) &&& 858993459)).toUInt32 >>> ((4 : Int32).toUInt32 &&& Int32.toUInt32 31)).toInt32)) &&& 252645135) + (((((((a0 - (((a0.toUInt32 >>> ((1 : Int32).toUInt32 &&& Int32.toUInt32 31)).toInt32) &&& 1431655765)) &&& 858993459) + ((((a0 - (((a0.toUInt32 >>> ((1 : Int32).toUInt32 &&& Int32.toUInt32 31)).toInt32) &&& 1431655765)).toUInt32 >>> ((2 : Int32).toUInt32 &&& Int32.toUInt32 31)).toInt32) &&& 858993459)) + (((((a0 - (((a0.toUInt32 >>> ((1 : Int32).toUInt32 &&& Int32.toUInt32 31)).toInt32) &&& 1431655765)) &&& 858993459) + ((((a0 - (((a0.toUInt32 >>> ((1 : Int32).toUInt32 &&& Int32.toUInt32 31)).toInt32) &&& 1431655765)).toUInt32 >>> ((2 : Int32).toUInt32 &&& Int32.toUInt32 31)).toInt32) &&& 858993459)).toUInt32 >>> ((4 : Int32).toUInt32 &&& Int32.toUInt32 31)).toInt32)) &&& 252645135).toUInt32 >>> ((8 : Int32).toUInt32 &&& Int32.toUInt32 31)).toInt32)).toUInt32 >>> ((16 : Int32).toUInt32 &&& Int32.toUInt32 31)).toInt32)) hx hb dJ6_bitCount_0f7a4_45 rfl ?_
  refine lv_iadd hx hb dJ6_bitCount_0f7a4_46 ?_
  refine lv_istore_n (lv' := [(0, .int (((((((a0 - (((a0.toUInt32 >>> ((1 : Int32).toUInt32 &&& Int32.toUInt32 31)).toInt32) &&& 1431655765)) &&& 858993459) + ((((a0 - (((a0.toUInt32 >>> ((1 : Int32).toUInt32 &&& Int32.toUInt32 31)).toInt32) &&& 1431655765)).toUInt32 >>> ((2 : Int32).toUInt32 &&& Int32.toUInt32 31)).toInt32) &&& 858993459)) + (((((a0 - (((a0.toUInt32 >>> ((1 : Int32).toUInt32 &&& Int32.toUInt32 31)).toInt32) &&& 1431655765)) &&& 858993459) + ((((a0 - (((a0.toUInt32 >>> ((1 : Int32).toUInt32 &&& Int32.toUInt32 31)).toInt32) &&& 1431655765)).toUInt32 >>> ((2 : Int32).toUInt32 &&& Int32.toUInt32 31)).toInt32) &&& 858993459)).toUInt32 >>> ((4 : Int32).toUInt32 &&& Int32.toUInt32 31)).toInt32)) &&& 252645135) + (((((((a0 - (((a0.toUInt32 >>> ((1 : Int32).toUInt32 &&& Int32.toUInt32 31)).toInt32) &&& 1431655765)) &&& 858993459) + ((((a0 - (((a0.toUInt32 >>> ((1 : Int32).toUInt32 &&& Int32.toUInt32 31)).toInt32) &&& 1431655765)).toUInt32 >>> ((2 : Int32).toUInt32 &&& Int32.toUInt32 31)).toInt32) &&& 858993459)) + (((((a0 - (((a0.toUInt32 >>> ((1 : Int32).toUInt32 &&& Int32.toUInt32 31)).toInt32) &&& 1431655765)) &&& 858993459) + ((((a0 - (((a0.toUInt32 >>> ((1 : Int32).toUInt32 &&& Int32.toUInt32 31)).toInt32) &&& 1431655765)).toUInt32 >>> ((2 : Int32).toUInt32 &&& Int32.toUInt32 31)).toInt32) &&& 858993459)).toUInt32 >>> ((4 : Int32).toUInt32 &&& Int32.toUInt32 31)).toInt32)) &&& 252645135).toUInt32 >>> ((8 : Int32).toUInt32 &&& Int32.toUInt32 31)).toInt32)) + ((((((((a0 - (((a0.toUInt32 >>> ((1 : Int32).toUInt32 &&& Int32.toUInt32 31)).toInt32) &&& 1431655765)) &&& 858993459) + ((((a0 - (((a0.toUInt32 >>> ((1 : Int32).toUInt32 &&& Int32.toUInt32 31)).toInt32) &&& 1431655765)).toUInt32 >>> ((2 : Int32).toUInt32 &&& Int32.toUInt32 31)).toInt32) &&& 858993459)) + (((((a0 - (((a0.toUInt32 >>> ((1 : Int32).toUInt32 &&& Int32.toUInt32 31)).toInt32) &&& 1431655765)) &&& 858993459) + ((((a0 - (((a0.toUInt32 >>> ((1 : Int32).toUInt32 &&& Int32.toUInt32 31)).toInt32) &&& 1431655765)).toUInt32 >>> ((2 : Int32).toUInt32 &&& Int32.toUInt32 31)).toInt32) &&& 858993459)).toUInt32 >>> ((4 : Int32).toUInt32 &&& Int32.toUInt32 31)).toInt32)) &&& 252645135) + (((((((a0 - (((a0.toUInt32 >>> ((1 : Int32).toUInt32 &&& Int32.toUInt32 31)).toInt32) &&& 1431655765)) &&& 858993459) + ((((a0 - (((a0.toUInt32 >>> ((1 : Int32).toUInt32 &&& Int32.toUInt32 31)).toInt32) &&& 1431655765)).toUInt32 >>> ((2 : Int32).toUInt32 &&& Int32.toUInt32 31)).toInt32) &&& 858993459)) + (((((a0 - (((a0.toUInt32 >>> ((1 : Int32).toUInt32 &&& Int32.toUInt32 31)).toInt32) &&& 1431655765)) &&& 858993459) + ((((a0 - (((a0.toUInt32 >>> ((1 : Int32).toUInt32 &&& Int32.toUInt32 31)).toInt32) &&& 1431655765)).toUInt32 >>> ((2 : Int32).toUInt32 &&& Int32.toUInt32 31)).toInt32) &&& 858993459)).toUInt32 >>> ((4 : Int32).toUInt32 &&& Int32.toUInt32 31)).toInt32)) &&& 252645135).toUInt32 >>> ((8 : Int32).toUInt32 &&& Int32.toUInt32 31)).toInt32)).toUInt32 >>> ((16 : Int32).toUInt32 &&& Int32.toUInt32 31)).toInt32)))]) hx hb dJ6_bitCount_0f7a4_47 rfl hl (by decide) rfl (fun ls hl => ?_)
  refine lv_iload_n hx hb dJ6_bitCount_0f7a4_48 rfl (lv_at hl 0 rfl) ?_
  refine lv_bipush (v := 63) hx hb dJ6_bitCount_0f7a4_49 (by decide) ?_
  refine lv_iand hx hb dJ6_bitCount_0f7a4_51 ?_
  have e9 : (((((((a0 - (((a0.toUInt32 >>> ((1 : Int32).toUInt32 &&& Int32.toUInt32 31)).toInt32) &&& 1431655765)) &&& 858993459) + ((((a0 - (((a0.toUInt32 >>> ((1 : Int32).toUInt32 &&& Int32.toUInt32 31)).toInt32) &&& 1431655765)).toUInt32 >>> ((2 : Int32).toUInt32 &&& Int32.toUInt32 31)).toInt32) &&& 858993459)) + (((((a0 - (((a0.toUInt32 >>> ((1 : Int32).toUInt32 &&& Int32.toUInt32 31)).toInt32) &&& 1431655765)) &&& 858993459) + ((((a0 - (((a0.toUInt32 >>> ((1 : Int32).toUInt32 &&& Int32.toUInt32 31)).toInt32) &&& 1431655765)).toUInt32 >>> ((2 : Int32).toUInt32 &&& Int32.toUInt32 31)).toInt32) &&& 858993459)).toUInt32 >>> ((4 : Int32).toUInt32 &&& Int32.toUInt32 31)).toInt32)) &&& 252645135) + (((((((a0 - (((a0.toUInt32 >>> ((1 : Int32).toUInt32 &&& Int32.toUInt32 31)).toInt32) &&& 1431655765)) &&& 858993459) + ((((a0 - (((a0.toUInt32 >>> ((1 : Int32).toUInt32 &&& Int32.toUInt32 31)).toInt32) &&& 1431655765)).toUInt32 >>> ((2 : Int32).toUInt32 &&& Int32.toUInt32 31)).toInt32) &&& 858993459)) + (((((a0 - (((a0.toUInt32 >>> ((1 : Int32).toUInt32 &&& Int32.toUInt32 31)).toInt32) &&& 1431655765)) &&& 858993459) + ((((a0 - (((a0.toUInt32 >>> ((1 : Int32).toUInt32 &&& Int32.toUInt32 31)).toInt32) &&& 1431655765)).toUInt32 >>> ((2 : Int32).toUInt32 &&& Int32.toUInt32 31)).toInt32) &&& 858993459)).toUInt32 >>> ((4 : Int32).toUInt32 &&& Int32.toUInt32 31)).toInt32)) &&& 252645135).toUInt32 >>> ((8 : Int32).toUInt32 &&& Int32.toUInt32 31)).toInt32)) + ((((((((a0 - (((a0.toUInt32 >>> ((1 : Int32).toUInt32 &&& Int32.toUInt32 31)).toInt32) &&& 1431655765)) &&& 858993459) + ((((a0 - (((a0.toUInt32 >>> ((1 : Int32).toUInt32 &&& Int32.toUInt32 31)).toInt32) &&& 1431655765)).toUInt32 >>> ((2 : Int32).toUInt32 &&& Int32.toUInt32 31)).toInt32) &&& 858993459)) + (((((a0 - (((a0.toUInt32 >>> ((1 : Int32).toUInt32 &&& Int32.toUInt32 31)).toInt32) &&& 1431655765)) &&& 858993459) + ((((a0 - (((a0.toUInt32 >>> ((1 : Int32).toUInt32 &&& Int32.toUInt32 31)).toInt32) &&& 1431655765)).toUInt32 >>> ((2 : Int32).toUInt32 &&& Int32.toUInt32 31)).toInt32) &&& 858993459)).toUInt32 >>> ((4 : Int32).toUInt32 &&& Int32.toUInt32 31)).toInt32)) &&& 252645135) + (((((((a0 - (((a0.toUInt32 >>> ((1 : Int32).toUInt32 &&& Int32.toUInt32 31)).toInt32) &&& 1431655765)) &&& 858993459) + ((((a0 - (((a0.toUInt32 >>> ((1 : Int32).toUInt32 &&& Int32.toUInt32 31)).toInt32) &&& 1431655765)).toUInt32 >>> ((2 : Int32).toUInt32 &&& Int32.toUInt32 31)).toInt32) &&& 858993459)) + (((((a0 - (((a0.toUInt32 >>> ((1 : Int32).toUInt32 &&& Int32.toUInt32 31)).toInt32) &&& 1431655765)) &&& 858993459) + ((((a0 - (((a0.toUInt32 >>> ((1 : Int32).toUInt32 &&& Int32.toUInt32 31)).toInt32) &&& 1431655765)).toUInt32 >>> ((2 : Int32).toUInt32 &&& Int32.toUInt32 31)).toInt32) &&& 858993459)).toUInt32 >>> ((4 : Int32).toUInt32 &&& Int32.toUInt32 31)).toInt32)) &&& 252645135).toUInt32 >>> ((8 : Int32).toUInt32 &&& Int32.toUInt32 31)).toInt32)).toUInt32 >>> ((16 : Int32).toUInt32 &&& Int32.toUInt32 31)).toInt32)) &&& 63 = fJ6_bitCount_0f7a4 a0 := rfl
  exact sy_ret hx hb hr hlk e9 dJ6_bitCount_0f7a4_52
/-- X7_isWithin -/
theorem hd_X7_isWithin : yX7_isWithin.cls = yX7_isWithin.cls ∧ yX7_isWithin.cls ≠ "java/lang/invoke/MethodHandle" ∧ yX7_isWithin.cls ≠ "java/lang/invoke/VarHandle" ∧ (parseMethodDescriptor yX7_isWithin.desc).map (fun d => d.parameters.length) = some 3 := by decide +kernel
def f7_isWithin (a0 : Int32) (a1 : Int32) (a2 : Int32) : Int32 := (if a0 < a1 then 0 else (if a2 < a0 then 0 else 1))
set_option maxHeartbeats 400000 in
set_option maxRecDepth 100000 in
theorem m7_isWithin (l : Launch) (D : va_G) (cA : ClassId) (ad : Nat → Nat) (τ ρ π γ : Sg) (a0 : Int32) (a1 : Int32) (a2 : Int32) : Met l yX7_isWithin (wM yX7_isWithin cX7_isWithin 3 (some .boolean)) ({ frames := 0, cells := 0, slots := 0, locals := 0 }) (va_Pc [.int a0, .int a1, .int a2] (pS D cA ad τ ρ π γ)) (QcRead (f7_isWithin a0 a1 a2)) 0 0 noA := by
  refine sy_of (by decide) (Nat.le_of_ble_eq_true rfl) ?_
  intro p e s m below meth c ls C hr hlk hK hN hP hl
  obtain ⟨hx, hb, hml, hown, hts⟩ := id C
  have htA : ∀ w ∈ wA, w.before ([.int a0, .int a1, .int a2] : List Value).toArray s = true := fun w h => hts w (List.mem_cons_of_mem _ h)
  have hl : lv_has ls 3 [(0, .int a0), (1, .int a1), (2, .int a2)] := hl
  refine lv_iload_n hx hb dX7_isWithin_0 rfl (lv_at hl 0 rfl) ?_
  refine lv_iload_n hx hb dX7_isWithin_1 rfl (lv_at hl 1 rfl) ?_
  refine lv_icmp_lt (tgt := 14) hx hb dX7_isWithin_2 (by decide) (fun c_1 => ?_) (fun c_1 => ?_)
  · refine lv_iconst (v := 0) hx hb dX7_isWithin_14 (by decide) ?_
    have e9 : 0 = f7_isWithin a0 a1 a2 := by unfold f7_isWithin; (try rw [if_pos c_1])
    exact sy_retZ hx hb hr hlk rfl e9 dX7_isWithin_15
  · refine lv_iload_n hx hb dX7_isWithin_5 rfl (lv_at hl 0 rfl) ?_
    refine lv_iload_n hx hb dX7_isWithin_6 rfl (lv_at hl 2 rfl) ?_
    refine lv_icmp_gt (tgt := 14) hx hb dX7_isWithin_7 (by decide) (fun c_2 => ?_) (fun c_2 => ?_)
    · refine lv_iconst (v := 0) hx hb dX7_isWithin_14 (by decide) ?_
      have e9 : 0 = f7_isWithin a0 a1 a2 := by unfold f7_isWithin; (try rw [if_neg c_1]); (try rw [if_pos c_2])
      exact sy_retZ hx hb hr hlk rfl e9 dX7_isWithin_15
    · refine lv_iconst (v := 1) hx hb dX7_isWithin_10 (by decide) ?_
      refine lv_goto (tgt := 15) hx hb dX7_isWithin_11 (by decide) ?_
      have e9 : 1 = f7_isWithin a0 a1 a2 := by unfold f7_isWithin; (try rw [if_neg c_1]); (try rw [if_neg c_2])
      exact sy_retZ hx hb hr hlk rfl e9 dX7_isWithin_15
theorem within_spec {x lo hi : Int32} (h : ¬ (f7_isWithin x lo hi) = 0) : lo ≤ x ∧ x ≤ hi := by
  unfold f7_isWithin at h
  by_cases h1 : x < lo
  · rw [if_pos h1] at h; exact absurd rfl h
  by_cases h2 : hi < x
  · rw [if_neg h1, if_pos h2] at h; exact absurd rfl h
  · exact ⟨Int32.not_lt.mp h1, Int32.not_lt.mp h2⟩
theorem within_mul {x y : Int32} (h1 : ¬ (f7_isWithin x 2 8) = 0) (h2 : ¬ (f7_isWithin y 2 8) = 0) : 0 ≤ x * y := by
  have a := within_spec h1
  have b := within_spec h2
  rw [Int32.le_iff_toInt_le, Int32.le_iff_toInt_le] at a b
  have e2 : (2 : Int32).toInt = 2 := by decide
  have e8 : (8 : Int32).toInt = 8 := by decide
  rw [e2, e8] at a b
  have e := mul_add_toInt (x := x) (y := 0) (w := y) (by omega) (by omega) (by decide) (by decide) (by omega) (by omega)
  have h7 : 0 ≤ x.toInt * y.toInt := Int.mul_nonneg (by omega) (by omega)
  rw [Int32.le_iff_toInt_le, Int32.toInt_zero]
  have e0 : x * y + 0 = x * y := Int32.add_zero _
  rw [e0, Int32.toInt_zero] at e
  omega
/-- X6_grainMany -/
theorem hd_X6_grainMany : yX6_grainMany.cls = yX6_grainMany.cls ∧ yX6_grainMany.cls ≠ "java/lang/invoke/MethodHandle" ∧ yX6_grainMany.cls ≠ "java/lang/invoke/VarHandle" ∧ (parseMethodDescriptor yX6_grainMany.desc).map (fun d => d.parameters.length) = some 0 := by decide +kernel
def f6_grainMany (γ : Sg) : Int32 := f2_many γ 0
set_option maxHeartbeats 400000 in
set_option maxRecDepth 100000 in
theorem m6_grainMany (l : Launch) (D : va_G) (cA : ClassId) (ad : Nat → Nat) (τ ρ π γ : Sg) : Met l yX6_grainMany (wM yX6_grainMany cX6_grainMany 1 (some .int)) ({ frames := 1, cells := 0, slots := 0, locals := 20 }) (va_Pc [.ref (ad 4)] (pS D cA ad τ ρ π γ)) (QcRead (f6_grainMany γ)) 0 0 noA := by
  refine sy_of (by decide) (Nat.le_of_ble_eq_true rfl) ?_
  intro p e s m below meth c ls C hr hlk hK hN hP hl
  obtain ⟨hx, hb, hml, hown, hts⟩ := id C
  have htA : ∀ w ∈ wA, w.before ([.ref (ad 4)] : List Value).toArray s = true := fun w h => hts w (List.mem_cons_of_mem _ h)
  have hl : lv_has ls 1 [(0, .ref (ad 4))] := hl
  refine lv_aload_n hx hb dX6_grainMany_0 rfl (lv_at hl 0 rfl) ?_
  refine gX6_2 hx hb htA hown hK hP dX6_grainMany_1 ?_
  refine sy_cv (rest := []) C hK hN hP (m2_many l D cA ad τ ρ π γ 0 (by decide)) (5) 4 rfl rfl kw_247 kw_248 kw_249 kw_81 kw_250 hd_X2_many ⟨Nat.le_of_ble_eq_true rfl, Nat.le_of_ble_eq_true rfl⟩ rfl rfl rfl hl.1 rfl (Nat.le_of_ble_eq_true rfl) dX6_grainMany_4 ⟨Nat.zero_le _, Nat.zero_le _⟩ ?_
  have e9 : f2_many γ 0 = f6_grainMany γ := rfl
  exact sy_ret hx hb hr hlk e9 dX6_grainMany_7
/-- X6_seenMany -/
theorem hd_X6_seenMany : yX6_seenMany.cls = yX6_seenMany.cls ∧ yX6_seenMany.cls ≠ "java/lang/invoke/MethodHandle" ∧ yX6_seenMany.cls ≠ "java/lang/invoke/VarHandle" ∧ (parseMethodDescriptor yX6_seenMany.desc).map (fun d => d.parameters.length) = some 0 := by decide +kernel
def f6_seenMany (γ : Sg) : Int32 := f2_many γ 1
set_option maxHeartbeats 400000 in
set_option maxRecDepth 100000 in
theorem m6_seenMany (l : Launch) (D : va_G) (cA : ClassId) (ad : Nat → Nat) (τ ρ π γ : Sg) : Met l yX6_seenMany (wM yX6_seenMany cX6_seenMany 1 (some .int)) ({ frames := 1, cells := 0, slots := 0, locals := 20 }) (va_Pc [.ref (ad 4)] (pS D cA ad τ ρ π γ)) (QcRead (f6_seenMany γ)) 0 0 noA := by
  refine sy_of (by decide) (Nat.le_of_ble_eq_true rfl) ?_
  intro p e s m below meth c ls C hr hlk hK hN hP hl
  obtain ⟨hx, hb, hml, hown, hts⟩ := id C
  have htA : ∀ w ∈ wA, w.before ([.ref (ad 4)] : List Value).toArray s = true := fun w h => hts w (List.mem_cons_of_mem _ h)
  have hl : lv_has ls 1 [(0, .ref (ad 4))] := hl
  refine lv_aload_n hx hb dX6_seenMany_0 rfl (lv_at hl 0 rfl) ?_
  refine gX6_3 hx hb htA hown hK hP dX6_seenMany_1 ?_
  refine sy_cv (rest := []) C hK hN hP (m2_many l D cA ad τ ρ π γ 1 (by decide)) (6) 4 rfl rfl kw_247 kw_248 kw_249 kw_81 kw_250 hd_X2_many ⟨Nat.le_of_ble_eq_true rfl, Nat.le_of_ble_eq_true rfl⟩ rfl rfl rfl hl.1 rfl (Nat.le_of_ble_eq_true rfl) dX6_seenMany_4 ⟨Nat.zero_le _, Nat.zero_le _⟩ ?_
  have e9 : f2_many γ 1 = f6_seenMany γ := rfl
  exact sy_ret hx hb hr hlk e9 dX6_seenMany_7
/-- X6_sizeByArea -/
theorem hd_X6_sizeByArea : yX6_sizeByArea.cls = yX6_sizeByArea.cls ∧ yX6_sizeByArea.cls ≠ "java/lang/invoke/MethodHandle" ∧ yX6_sizeByArea.cls ≠ "java/lang/invoke/VarHandle" ∧ (parseMethodDescriptor yX6_sizeByArea.desc).map (fun d => d.parameters.length) = some 0 := by decide +kernel
def f6_sizeByArea (τ : Sg) (π : Sg) (γ : Sg) : Int32 := f2_sizeByArea τ π γ 1
set_option maxHeartbeats 400000 in
set_option maxRecDepth 100000 in
theorem m6_sizeByArea (l : Launch) (D : va_G) (cA : ClassId) (ad : Nat → Nat) (τ ρ π γ : Sg) : Met l yX6_sizeByArea (wM yX6_sizeByArea cX6_sizeByArea 1 (some .int)) ({ frames := 3, cells := 0, slots := 0, locals := 64 }) (va_Pc [.ref (ad 4)] (pS D cA ad τ ρ π γ)) (QcRead (f6_sizeByArea τ π γ)) 0 0 noA := by
  refine sy_of (by decide) (Nat.le_of_ble_eq_true rfl) ?_
  intro p e s m below meth c ls C hr hlk hK hN hP hl
  obtain ⟨hx, hb, hml, hown, hts⟩ := id C
  have htA : ∀ w ∈ wA, w.before ([.ref (ad 4)] : List Value).toArray s = true := fun w h => hts w (List.mem_cons_of_mem _ h)
  have hl : lv_has ls 1 [(0, .ref (ad 4))] := hl
  refine lv_aload_n hx hb dX6_sizeByArea_0 rfl (lv_at hl 0 rfl) ?_
  refine gX6_3 hx hb htA hown hK hP dX6_sizeByArea_1 ?_
  refine lv_aload_n hx hb dX6_sizeByArea_4 rfl (lv_at hl 0 rfl) ?_
  refine gX6_5 hx hb htA hown hK hP dX6_sizeByArea_5 ?_
  refine sy_cv (rest := []) C hK hN hP (m2_sizeByArea l D cA ad τ ρ π γ 1 (by decide)) (6) 4 rfl rfl kw_386 kw_387 kw_388 kw_81 kw_389 hd_X2_sizeByArea ⟨Nat.le_of_ble_eq_true rfl, Nat.le_of_ble_eq_true rfl⟩ rfl rfl rfl hl.1 rfl (Nat.le_of_ble_eq_true rfl) dX6_sizeByArea_8 ⟨Nat.zero_le _, Nat.zero_le _⟩ ?_
  have e9 : f2_sizeByArea τ π γ 1 = f6_sizeByArea τ π γ := rfl
  exact sy_ret hx hb hr hlk e9 dX6_sizeByArea_11
/-- X6_cutsOf -/
theorem hd_X6_cutsOf : yX6_cutsOf.cls = yX6_cutsOf.cls ∧ yX6_cutsOf.cls ≠ "java/lang/invoke/MethodHandle" ∧ yX6_cutsOf.cls ≠ "java/lang/invoke/VarHandle" ∧ (parseMethodDescriptor yX6_cutsOf.desc).map (fun d => d.parameters.length) = some 1 := by decide +kernel
def f6_cutsOf_L4 (τ : Sg) (ρ : Sg) (π : Sg) (x1 : Int32) : Nat → Int32 → Int32 → Int32 × Int32
  | 0, x2, x3 => (x2, x3)
  | n + 1, x2, x3 => (if (f5_lineCells τ x1) ≤ x3 then (x2, x3) else (if (f4_isSeen ρ (f3_markAt π (f5_lineCell τ x1 (x3 - 1))) (f3_markAt π (f5_lineCell τ x1 x3)) (f4_etchNow ρ)) = 0 then (f6_cutsOf_L4 τ ρ π x1 n x2 (x3 + 1)) else (f6_cutsOf_L4 τ ρ π x1 n (x2 + 1) (x3 + 1))))
theorem f6_cutsOf_L4_s (τ : Sg) (ρ : Sg) (π : Sg) (x1 : Int32) (n : Nat) (x2 : Int32) (x3 : Int32) : f6_cutsOf_L4 τ ρ π x1 (n + 1) x2 x3 = (if (f5_lineCells τ x1) ≤ x3 then (x2, x3) else (if (f4_isSeen ρ (f3_markAt π (f5_lineCell τ x1 (x3 - 1))) (f3_markAt π (f5_lineCell τ x1 x3)) (f4_etchNow ρ)) = 0 then (f6_cutsOf_L4 τ ρ π x1 n x2 (x3 + 1)) else (f6_cutsOf_L4 τ ρ π x1 n (x2 + 1) (x3 + 1)))) := rfl
def f6_cutsOf (τ : Sg) (ρ : Sg) (π : Sg) (a1 : Int32) : Int32 := (f6_cutsOf_L4 τ ρ π a1 8589934592 0 1).1
set_option maxHeartbeats 400000 in
set_option maxRecDepth 100000 in
theorem m6_cutsOf (l : Launch) (D : va_G) (cA : ClassId) (ad : Nat → Nat) (τ ρ π γ : Sg) (a1 : Int32) : Met l yX6_cutsOf (wM yX6_cutsOf cX6_cutsOf 5 (some .int)) ({ frames := 2, cells := 0, slots := 0, locals := 45 }) (va_Pc [.ref (ad 4), .int a1] (pS D cA ad τ ρ π γ)) (QcRead (f6_cutsOf τ ρ π a1)) 0 0 noA := by
  refine sy_of (by decide) (Nat.le_of_ble_eq_true rfl) ?_
  intro p e s m below meth c ls C hr hlk hK hN hP hl
  obtain ⟨hx, hb, hml, hown, hts⟩ := id C
  have htA : ∀ w ∈ wA, w.before ([.ref (ad 4), .int a1] : List Value).toArray s = true := fun w h => hts w (List.mem_cons_of_mem _ h)
  have hl : lv_has ls 5 [(0, .ref (ad 4)), (1, .int a1)] := hl
  refine lv_iconst (v := 0) hx hb dX6_cutsOf_0 (by decide) ?_
  refine lv_istore_n (lv' := [(2, .int 0), (0, .ref (ad 4)), (1, .int a1)]) hx hb dX6_cutsOf_1 rfl hl (by decide) rfl (fun ls hl => ?_)
  refine lv_iconst (v := 1) hx hb dX6_cutsOf_2 (by decide) ?_
  refine lv_istore_n (lv' := [(3, .int 1), (2, .int 0), (0, .ref (ad 4)), (1, .int a1)]) hx hb dX6_cutsOf_3 rfl hl (by decide) rfl (fun ls hl => ?_)
  have hL4 : ∀ (x1 : Int32) (n : Nat) (x2 : Int32) (x3 : Int32), nm x3 (f5_lineCells τ x1) < n → ∀ ls : Array Slot, lv_has ls 5 [(0, .ref (ad 4)), (1, .int x1), (2, .int x2), (3, .int x3)] → (∀ ls : Array Slot, lv_has ls 5 [(0, .ref (ad 4)), (1, .int x1), (2, .int ((f6_cutsOf_L4 τ ρ π x1 n x2 x3).1)), (3, .int ((f6_cutsOf_L4 τ ρ π x1 n x2 x3).2))] → W p l e ({ frames := 2, cells := 0, slots := 0, locals := 45 }) s m ([.ref (ad 4), .int a1] : List Value).toArray below meth c s.heap [] 0 0 (MQ below (QcRead (f6_cutsOf τ ρ π a1)) ([.ref (ad 4), .int a1] : List Value).toArray s 0 0 noA) (F0 m 80 ls [])) → W p l e ({ frames := 2, cells := 0, slots := 0, locals := 45 }) s m ([.ref (ad 4), .int a1] : List Value).toArray below meth c s.heap [] 0 0 (MQ below (QcRead (f6_cutsOf τ ρ π a1)) ([.ref (ad 4), .int a1] : List Value).toArray s 0 0 noA) (F0 m 4 ls []) := by
    intro x1 n
    induction n with
    | zero =>
      intro x2 x3 hn
      exact absurd hn (Nat.not_lt_zero _)
    | succ n ih =>
      intro x2 x3 hn ls hl kk
      refine lv_iload_n hx hb dX6_cutsOf_4 rfl (lv_at hl 3 rfl) ?_
      refine lv_aload_n hx hb dX6_cutsOf_5 rfl (lv_at hl 0 rfl) ?_
      refine gX6_0 hx hb htA hown hK hP dX6_cutsOf_6 ?_
      refine lv_iload_n hx hb dX6_cutsOf_9 rfl (lv_at hl 1 rfl) ?_
      refine sy_cv (rest := [.int x3]) C hK hN hP (m5_lineCells l D cA ad τ ρ π γ x1) (1) 7 rfl rfl kw_407 kw_408 kw_409 kw_16 kw_410 hd_X5_lineCells ⟨Nat.le_of_ble_eq_true rfl, Nat.le_of_ble_eq_true rfl⟩ rfl rfl rfl hl.1 rfl (Nat.le_of_ble_eq_true rfl) dX6_cutsOf_10 ⟨Nat.zero_le _, Nat.zero_le _⟩ ?_
      refine lv_icmp_ge (tgt := 80) hx hb dX6_cutsOf_13 (by decide) (fun c_1 => ?_) (fun c_1 => ?_)
      · have e9 : f6_cutsOf_L4 τ ρ π x1 (n + 1) x2 x3 = (x2, x3) := by rw [f6_cutsOf_L4_s]; (try rw [if_pos c_1])
        rw [e9] at kk
        exact kk ls (lv_sub hl [0, 1, 2, 3] rfl)
      · refine lv_aload_n hx hb dX6_cutsOf_16 rfl (lv_at hl 0 rfl) ?_
        refine gX6_5 hx hb htA hown hK hP dX6_cutsOf_17 ?_
        refine lv_aload_n hx hb dX6_cutsOf_20 rfl (lv_at hl 0 rfl) ?_
        refine gX6_0 hx hb htA hown hK hP dX6_cutsOf_21 ?_
        refine lv_iload_n hx hb dX6_cutsOf_24 rfl (lv_at hl 1 rfl) ?_
        refine lv_iload_n hx hb dX6_cutsOf_25 rfl (lv_at hl 3 rfl) ?_
        refine lv_iconst (v := 1) hx hb dX6_cutsOf_26 (by decide) ?_
        refine lv_isub hx hb dX6_cutsOf_27 ?_
        refine sy_cv (rest := [.ref (ad 3)]) C hK hN hP (m5_lineCell l D cA ad τ ρ π γ x1 (x3 - 1)) (1) 7 rfl rfl kw_411 kw_412 kw_413 kw_16 kw_414 hd_X5_lineCell ⟨Nat.le_of_ble_eq_true rfl, Nat.le_of_ble_eq_true rfl⟩ rfl rfl rfl hl.1 rfl (Nat.le_of_ble_eq_true rfl) dX6_cutsOf_28 ⟨Nat.zero_le _, Nat.zero_le _⟩ ?_
        refine sy_cv (rest := []) C hK hN hP (m3_markAt l D cA ad τ ρ π γ (f5_lineCell τ x1 (x3 - 1))) (3) 5 rfl rfl kw_271 kw_206 kw_207 kw_24 kw_208 hd_X3_markAt ⟨Nat.le_of_ble_eq_true rfl, Nat.le_of_ble_eq_true rfl⟩ rfl rfl rfl hl.1 rfl (Nat.le_of_ble_eq_true rfl) dX6_cutsOf_31 ⟨Nat.zero_le _, Nat.zero_le _⟩ ?_
        refine lv_istore (lv' := [(4, .int (f3_markAt π (f5_lineCell τ x1 (x3 - 1)))), (0, .ref (ad 4)), (1, .int x1), (2, .int x2), (3, .int x3)]) hx hb dX6_cutsOf_34 hl (by decide) rfl (fun ls hl => ?_)
        refine lv_aload_n hx hb dX6_cutsOf_36 rfl (lv_at hl 1 rfl) ?_
        refine gX6_1 hx hb htA hown hK hP dX6_cutsOf_37 ?_
        refine lv_iload hx hb dX6_cutsOf_40 (lv_at hl 0 rfl) ?_
        refine lv_aload_n hx hb dX6_cutsOf_42 rfl (lv_at hl 1 rfl) ?_
        refine gX6_5 hx hb htA hown hK hP dX6_cutsOf_43 ?_
        refine lv_aload_n hx hb dX6_cutsOf_46 rfl (lv_at hl 1 rfl) ?_
        refine gX6_0 hx hb htA hown hK hP dX6_cutsOf_47 ?_
        refine lv_iload_n hx hb dX6_cutsOf_50 rfl (lv_at hl 2 rfl) ?_
        refine lv_iload_n hx hb dX6_cutsOf_51 rfl (lv_at hl 4 rfl) ?_
        refine sy_cv (rest := [.ref (ad 3), .int (f3_markAt π (f5_lineCell τ x1 (x3 - 1))), .ref (ad 2)]) C hK hN hP (m5_lineCell l D cA ad τ ρ π γ x1 x3) (1) 7 rfl rfl kw_411 kw_412 kw_413 kw_16 kw_414 hd_X5_lineCell ⟨Nat.le_of_ble_eq_true rfl, Nat.le_of_ble_eq_true rfl⟩ rfl rfl rfl hl.1 rfl (Nat.le_of_ble_eq_true rfl) dX6_cutsOf_52 ⟨Nat.zero_le _, Nat.zero_le _⟩ ?_
        refine sy_cv (rest := [.int (f3_markAt π (f5_lineCell τ x1 (x3 - 1))), .ref (ad 2)]) C hK hN hP (m3_markAt l D cA ad τ ρ π γ (f5_lineCell τ x1 x3)) (3) 5 rfl rfl kw_271 kw_206 kw_207 kw_24 kw_208 hd_X3_markAt ⟨Nat.le_of_ble_eq_true rfl, Nat.le_of_ble_eq_true rfl⟩ rfl rfl rfl hl.1 rfl (Nat.le_of_ble_eq_true rfl) dX6_cutsOf_55 ⟨Nat.zero_le _, Nat.zero_le _⟩ ?_
        refine lv_aload_n hx hb dX6_cutsOf_58 rfl (lv_at hl 1 rfl) ?_
        refine gX6_1 hx hb htA hown hK hP dX6_cutsOf_59 ?_
        refine sy_cv (rest := [.int (f3_markAt π (f5_lineCell τ x1 x3)), .int (f3_markAt π (f5_lineCell τ x1 (x3 - 1))), .ref (ad 2)]) C hK hN hP (m4_etchNow l D cA ad τ ρ π γ) (2) 6 rfl rfl kw_239 kw_240 kw_241 kw_20 kw_242 hd_X4_etchNow ⟨Nat.le_of_ble_eq_true rfl, Nat.le_of_ble_eq_true rfl⟩ rfl rfl rfl hl.1 rfl (Nat.le_of_ble_eq_true rfl) dX6_cutsOf_62 ⟨Nat.zero_le _, Nat.zero_le _⟩ ?_
        refine sy_cv (rest := []) C hK hN hP (m4_isSeen l D cA ad τ ρ π γ (f3_markAt π (f5_lineCell τ x1 (x3 - 1))) (f3_markAt π (f5_lineCell τ x1 x3)) (f4_etchNow ρ)) (2) 6 rfl rfl kw_415 kw_232 kw_233 kw_20 kw_234 hd_X4_isSeen ⟨Nat.le_of_ble_eq_true rfl, Nat.le_of_ble_eq_true rfl⟩ rfl rfl rfl hl.1 rfl (Nat.le_of_ble_eq_true rfl) dX6_cutsOf_65 ⟨Nat.zero_le _, Nat.zero_le _⟩ ?_
        refine lv_if_eq (tgt := 74) hx hb dX6_cutsOf_68 (by decide) (fun c_2 => ?_) (fun c_2 => ?_)
        · refine lv_iinc (v := x3 + 1) (lv' := [(3, .int (x3 + 1)), (4, .int (f3_markAt π (f5_lineCell τ x1 (x3 - 1)))), (0, .ref (ad 4)), (1, .int x1), (2, .int x2)]) hx hb dX6_cutsOf_74 hl (k := 4) rfl (by rfl) (by decide) rfl (fun ls hl => ?_)
          refine lv_goto (tgt := 4) hx hb dX6_cutsOf_77 (by decide) ?_
          have e9 : f6_cutsOf_L4 τ ρ π x1 (n + 1) x2 x3 = f6_cutsOf_L4 τ ρ π x1 n x2 (x3 + 1) := by rw [f6_cutsOf_L4_s]; (try rw [if_neg c_1]); (try rw [if_pos c_2])
          rw [e9] at kk
          exact ih x2 (x3 + 1) (nm_dec (Int32.not_le.mp c_1) hn)  ls (lv_sub hl [2, 3, 4, 0] rfl) kk
        · refine lv_iinc (v := x2 + 1) (lv' := [(2, .int (x2 + 1)), (4, .int (f3_markAt π (f5_lineCell τ x1 (x3 - 1)))), (0, .ref (ad 4)), (1, .int x1), (3, .int x3)]) hx hb dX6_cutsOf_71 hl (k := 3) rfl (by rfl) (by decide) rfl (fun ls hl => ?_)
          refine lv_iinc (v := x3 + 1) (lv' := [(3, .int (x3 + 1)), (2, .int (x2 + 1)), (4, .int (f3_markAt π (f5_lineCell τ x1 (x3 - 1)))), (0, .ref (ad 4)), (1, .int x1)]) hx hb dX6_cutsOf_74 hl (k := 4) rfl (by rfl) (by decide) rfl (fun ls hl => ?_)
          refine lv_goto (tgt := 4) hx hb dX6_cutsOf_77 (by decide) ?_
          have e9 : f6_cutsOf_L4 τ ρ π x1 (n + 1) x2 x3 = f6_cutsOf_L4 τ ρ π x1 n (x2 + 1) (x3 + 1) := by rw [f6_cutsOf_L4_s]; (try rw [if_neg c_1]); (try rw [if_neg c_2])
          rw [e9] at kk
          exact ih (x2 + 1) (x3 + 1) (nm_dec (Int32.not_le.mp c_1) hn)  ls (lv_sub hl [3, 4, 1, 0] rfl) kk
  refine hL4 a1 8589934592 0 1 (nm_lt _ _) ls (lv_sub hl [2, 3, 1, 0] rfl) (fun ls hl => ?_)
  refine lv_iload_n hx hb dX6_cutsOf_80 rfl (lv_at hl 2 rfl) ?_
  have e9 : (f6_cutsOf_L4 τ ρ π a1 8589934592 0 1).1 = f6_cutsOf τ ρ π a1 := rfl
  exact sy_ret hx hb hr hlk e9 dX6_cutsOf_81
/-- X6_allCuts -/
theorem hd_X6_allCuts : yX6_allCuts.cls = yX6_allCuts.cls ∧ yX6_allCuts.cls ≠ "java/lang/invoke/MethodHandle" ∧ yX6_allCuts.cls ≠ "java/lang/invoke/VarHandle" ∧ (parseMethodDescriptor yX6_allCuts.desc).map (fun d => d.parameters.length) = some 0 := by decide +kernel
def f6_allCuts_L4 (τ : Sg) (ρ : Sg) (π : Sg) : Nat → Int32 → Int32 → Int32 × Int32
  | 0, x1, x2 => (x1, x2)
  | n + 1, x1, x2 => (if (f5_lines τ) ≤ x2 then (x1, x2) else (f6_allCuts_L4 τ ρ π n (x1 + (f6_cutsOf τ ρ π x2)) (x2 + 1)))
theorem f6_allCuts_L4_s (τ : Sg) (ρ : Sg) (π : Sg) (n : Nat) (x1 : Int32) (x2 : Int32) : f6_allCuts_L4 τ ρ π (n + 1) x1 x2 = (if (f5_lines τ) ≤ x2 then (x1, x2) else (f6_allCuts_L4 τ ρ π n (x1 + (f6_cutsOf τ ρ π x2)) (x2 + 1))) := rfl
def f6_allCuts (τ : Sg) (ρ : Sg) (π : Sg) : Int32 := (f6_allCuts_L4 τ ρ π 8589934592 0 0).1
set_option maxHeartbeats 400000 in
set_option maxRecDepth 100000 in
theorem m6_allCuts (l : Launch) (D : va_G) (cA : ClassId) (ad : Nat → Nat) (τ ρ π γ : Sg) : Met l yX6_allCuts (wM yX6_allCuts cX6_allCuts 3 (some .int)) ({ frames := 3, cells := 0, slots := 0, locals := 69 }) (va_Pc [.ref (ad 4)] (pS D cA ad τ ρ π γ)) (QcRead (f6_allCuts τ ρ π)) 0 0 noA := by
  refine sy_of (by decide) (Nat.le_of_ble_eq_true rfl) ?_
  intro p e s m below meth c ls C hr hlk hK hN hP hl
  obtain ⟨hx, hb, hml, hown, hts⟩ := id C
  have htA : ∀ w ∈ wA, w.before ([.ref (ad 4)] : List Value).toArray s = true := fun w h => hts w (List.mem_cons_of_mem _ h)
  have hl : lv_has ls 3 [(0, .ref (ad 4))] := hl
  refine lv_iconst (v := 0) hx hb dX6_allCuts_0 (by decide) ?_
  refine lv_istore_n (lv' := [(1, .int 0), (0, .ref (ad 4))]) hx hb dX6_allCuts_1 rfl hl (by decide) rfl (fun ls hl => ?_)
  refine lv_iconst (v := 0) hx hb dX6_allCuts_2 (by decide) ?_
  refine lv_istore_n (lv' := [(2, .int 0), (1, .int 0), (0, .ref (ad 4))]) hx hb dX6_allCuts_3 rfl hl (by decide) rfl (fun ls hl => ?_)
  have hL4 : ∀ (n : Nat) (x1 : Int32) (x2 : Int32), nm x2 (f5_lines τ) < n → ∀ ls : Array Slot, lv_has ls 3 [(0, .ref (ad 4)), (1, .int x1), (2, .int x2)] → (∀ ls : Array Slot, lv_has ls 3 [(0, .ref (ad 4)), (1, .int ((f6_allCuts_L4 τ ρ π n x1 x2).1)), (2, .int ((f6_allCuts_L4 τ ρ π n x1 x2).2))] → W p l e ({ frames := 3, cells := 0, slots := 0, locals := 69 }) s m ([.ref (ad 4)] : List Value).toArray below meth c s.heap [] 0 0 (MQ below (QcRead (f6_allCuts τ ρ π)) ([.ref (ad 4)] : List Value).toArray s 0 0 noA) (F0 m 29 ls [])) → W p l e ({ frames := 3, cells := 0, slots := 0, locals := 69 }) s m ([.ref (ad 4)] : List Value).toArray below meth c s.heap [] 0 0 (MQ below (QcRead (f6_allCuts τ ρ π)) ([.ref (ad 4)] : List Value).toArray s 0 0 noA) (F0 m 4 ls []) := by
    intro  n
    induction n with
    | zero =>
      intro x1 x2 hn
      exact absurd hn (Nat.not_lt_zero _)
    | succ n ih =>
      intro x1 x2 hn ls hl kk
      refine lv_iload_n hx hb dX6_allCuts_4 rfl (lv_at hl 2 rfl) ?_
      refine lv_aload_n hx hb dX6_allCuts_5 rfl (lv_at hl 0 rfl) ?_
      refine gX6_0 hx hb htA hown hK hP dX6_allCuts_6 ?_
      refine sy_cv (rest := [.int x2]) C hK hN hP (m5_lines l D cA ad τ ρ π γ) (1) 7 rfl rfl kw_399 kw_400 kw_401 kw_16 kw_402 hd_X5_lines ⟨Nat.le_of_ble_eq_true rfl, Nat.le_of_ble_eq_true rfl⟩ rfl rfl rfl hl.1 rfl (Nat.le_of_ble_eq_true rfl) dX6_allCuts_9 ⟨Nat.zero_le _, Nat.zero_le _⟩ ?_
      refine lv_icmp_ge (tgt := 29) hx hb dX6_allCuts_12 (by decide) (fun c_1 => ?_) (fun c_1 => ?_)
      · have e9 : f6_allCuts_L4 τ ρ π (n + 1) x1 x2 = (x1, x2) := by rw [f6_allCuts_L4_s]; (try rw [if_pos c_1])
        rw [e9] at kk
        exact kk ls (lv_sub hl [0, 1, 2] rfl)
      · refine lv_iload_n hx hb dX6_allCuts_15 rfl (lv_at hl 1 rfl) ?_
        refine lv_aload_n hx hb dX6_allCuts_16 rfl (lv_at hl 0 rfl) ?_
        refine lv_iload_n hx hb dX6_allCuts_17 rfl (lv_at hl 2 rfl) ?_
        refine sy_cv (rest := [.int x1]) C hK hN hP (m6_cutsOf l D cA ad τ ρ π γ x2) (4) 8 rfl rfl kw_403 kw_404 kw_405 kw_29 kw_406 hd_X6_cutsOf ⟨Nat.le_of_ble_eq_true rfl, Nat.le_of_ble_eq_true rfl⟩ rfl rfl rfl hl.1 rfl (Nat.le_of_ble_eq_true rfl) dX6_allCuts_18 ⟨Nat.zero_le _, Nat.zero_le _⟩ ?_
        refine lv_iadd hx hb dX6_allCuts_21 ?_
        refine lv_istore_n (lv' := [(1, .int (x1 + (f6_cutsOf τ ρ π x2))), (0, .ref (ad 4)), (2, .int x2)]) hx hb dX6_allCuts_22 rfl hl (by decide) rfl (fun ls hl => ?_)
        refine lv_iinc (v := x2 + 1) (lv' := [(2, .int (x2 + 1)), (1, .int (x1 + (f6_cutsOf τ ρ π x2))), (0, .ref (ad 4))]) hx hb dX6_allCuts_23 hl (k := 2) rfl (by rfl) (by decide) rfl (fun ls hl => ?_)
        refine lv_goto (tgt := 4) hx hb dX6_allCuts_26 (by decide) ?_
        have e9 : f6_allCuts_L4 τ ρ π (n + 1) x1 x2 = f6_allCuts_L4 τ ρ π n (x1 + (f6_cutsOf τ ρ π x2)) (x2 + 1) := by rw [f6_allCuts_L4_s]; (try rw [if_neg c_1])
        rw [e9] at kk
        exact ih (x1 + (f6_cutsOf τ ρ π x2)) (x2 + 1) (nm_dec (Int32.not_le.mp c_1) hn)  ls (lv_sub hl [2, 1, 0] rfl) kk
  refine hL4 8589934592 0 0 (nm_lt _ _) ls (lv_sub hl [2, 1, 0] rfl) (fun ls hl => ?_)
  refine lv_iload_n hx hb dX6_allCuts_29 rfl (lv_at hl 1 rfl) ?_
  have e9 : (f6_allCuts_L4 τ ρ π 8589934592 0 0).1 = f6_allCuts τ ρ π := rfl
  exact sy_ret hx hb hr hlk e9 dX6_allCuts_30
/-- X6_sizeByLines -/
theorem hd_X6_sizeByLines : yX6_sizeByLines.cls = yX6_sizeByLines.cls ∧ yX6_sizeByLines.cls ≠ "java/lang/invoke/MethodHandle" ∧ yX6_sizeByLines.cls ≠ "java/lang/invoke/VarHandle" ∧ (parseMethodDescriptor yX6_sizeByLines.desc).map (fun d => d.parameters.length) = some 0 := by decide +kernel
def f6_sizeByLines (τ : Sg) (ρ : Sg) (π : Sg) : Int32 := (if ((f6_allCuts τ ρ π) + (f5_lines τ)) ≤ 0 then 0 else (200 * (f5_cells τ)) / ((f6_allCuts τ ρ π) + (f5_lines τ)))
set_option maxHeartbeats 400000 in
set_option maxRecDepth 100000 in
theorem m6_sizeByLines (l : Launch) (D : va_G) (cA : ClassId) (ad : Nat → Nat) (τ ρ π γ : Sg) : Met l yX6_sizeByLines (wM yX6_sizeByLines cX6_sizeByLines 2 (some .int)) ({ frames := 4, cells := 0, slots := 0, locals := 91 }) (va_Pc [.ref (ad 4)] (pS D cA ad τ ρ π γ)) (QcRead (f6_sizeByLines τ ρ π)) 0 0 noA := by
  refine sy_of (by decide) (Nat.le_of_ble_eq_true rfl) ?_
  intro p e s m below meth c ls C hr hlk hK hN hP hl
  obtain ⟨hx, hb, hml, hown, hts⟩ := id C
  have htA : ∀ w ∈ wA, w.before ([.ref (ad 4)] : List Value).toArray s = true := fun w h => hts w (List.mem_cons_of_mem _ h)
  have hl : lv_has ls 2 [(0, .ref (ad 4))] := hl
  refine lv_aload_n hx hb dX6_sizeByLines_0 rfl (lv_at hl 0 rfl) ?_
  refine sy_cv (rest := []) C hK hN hP (m6_allCuts l D cA ad τ ρ π γ) (4) 8 rfl rfl kw_395 kw_396 kw_397 kw_29 kw_398 hd_X6_allCuts ⟨Nat.le_of_ble_eq_true rfl, Nat.le_of_ble_eq_true rfl⟩ rfl rfl rfl hl.1 rfl (Nat.le_of_ble_eq_true rfl) dX6_sizeByLines_1 ⟨Nat.zero_le _, Nat.zero_le _⟩ ?_
  refine lv_aload_n hx hb dX6_sizeByLines_4 rfl (lv_at hl 0 rfl) ?_
  refine gX6_0 hx hb htA hown hK hP dX6_sizeByLines_5 ?_
  refine sy_cv (rest := [.int (f6_allCuts τ ρ π)]) C hK hN hP (m5_lines l D cA ad τ ρ π γ) (1) 7 rfl rfl kw_399 kw_400 kw_401 kw_16 kw_402 hd_X5_lines ⟨Nat.le_of_ble_eq_true rfl, Nat.le_of_ble_eq_true rfl⟩ rfl rfl rfl hl.1 rfl (Nat.le_of_ble_eq_true rfl) dX6_sizeByLines_8 ⟨Nat.zero_le _, Nat.zero_le _⟩ ?_
  refine lv_iadd hx hb dX6_sizeByLines_11 ?_
  refine lv_istore_n (lv' := [(1, .int ((f6_allCuts τ ρ π) + (f5_lines τ))), (0, .ref (ad 4))]) hx hb dX6_sizeByLines_12 rfl hl (by decide) rfl (fun ls hl => ?_)
  refine lv_iload_n hx hb dX6_sizeByLines_13 rfl (lv_at hl 0 rfl) ?_
  refine lv_if_le (tgt := 33) hx hb dX6_sizeByLines_14 (by decide) (fun c_1 => ?_) (fun c_1 => ?_)
  · refine lv_iconst (v := 0) hx hb dX6_sizeByLines_33 (by decide) ?_
    have e9 : 0 = f6_sizeByLines τ ρ π := by unfold f6_sizeByLines; (try rw [if_pos c_1])
    exact sy_ret hx hb hr hlk e9 dX6_sizeByLines_34
  · refine lv_sipush (v := 200) hx hb dX6_sizeByLines_17 (by decide) ?_
    refine lv_aload_n hx hb dX6_sizeByLines_20 rfl (lv_at hl 1 rfl) ?_
    refine gX6_0 hx hb htA hown hK hP dX6_sizeByLines_21 ?_
    refine sy_cv (rest := [.int 200]) C hK hN hP (m5_cells l D cA ad τ ρ π γ) (1) 7 rfl rfl kw_375 kw_184 kw_185 kw_16 kw_186 hd_X5_cells ⟨Nat.le_of_ble_eq_true rfl, Nat.le_of_ble_eq_true rfl⟩ rfl rfl rfl hl.1 rfl (Nat.le_of_ble_eq_true rfl) dX6_sizeByLines_24 ⟨Nat.zero_le _, Nat.zero_le _⟩ ?_
    refine lv_imul hx hb dX6_sizeByLines_27 ?_
    refine lv_iload_n hx hb dX6_sizeByLines_28 rfl (lv_at hl 0 rfl) ?_
    refine lv_idiv hx hb dX6_sizeByLines_29 (ne_pos (Int32.not_le.mp c_1)) ?_
    refine lv_goto (tgt := 34) hx hb dX6_sizeByLines_30 (by decide) ?_
    have e9 : (200 * (f5_cells τ)) / ((f6_allCuts τ ρ π) + (f5_lines τ)) = f6_sizeByLines τ ρ π := by unfold f6_sizeByLines; (try rw [if_neg c_1])
    exact sy_ret hx hb hr hlk e9 dX6_sizeByLines_34
/-- X6_sizeByChart -/
theorem hd_X6_sizeByChart : yX6_sizeByChart.cls = yX6_sizeByChart.cls ∧ yX6_sizeByChart.cls ≠ "java/lang/invoke/MethodHandle" ∧ yX6_sizeByChart.cls ≠ "java/lang/invoke/VarHandle" ∧ (parseMethodDescriptor yX6_sizeByChart.desc).map (fun d => d.parameters.length) = some 0 := by decide +kernel
def f6_sizeByChart_L4 (γ : Sg) : Nat → Int32 → Int32 → Int32 × Int32
  | 0, x1, x2 => (x1, x2)
  | n + 1, x1, x2 => (if (f2_many γ 1) ≤ x2 then (x1, x2) else (if 64 ≤ x2 then (x1, x2) else (f6_sizeByChart_L4 γ n (x1 + 1) (x2 * 2))))
theorem f6_sizeByChart_L4_s (γ : Sg) (n : Nat) (x1 : Int32) (x2 : Int32) : f6_sizeByChart_L4 γ (n + 1) x1 x2 = (if (f2_many γ 1) ≤ x2 then (x1, x2) else (if 64 ≤ x2 then (x1, x2) else (f6_sizeByChart_L4 γ n (x1 + 1) (x2 * 2)))) := rfl
def f6_sizeByChart (γ : Sg) : Int32 := (f6_sizeByChart_L4 γ 8589934592 0 1).1
set_option maxHeartbeats 400000 in
set_option maxRecDepth 100000 in
theorem m6_sizeByChart (l : Launch) (D : va_G) (cA : ClassId) (ad : Nat → Nat) (τ ρ π γ : Sg) : Met l yX6_sizeByChart (wM yX6_sizeByChart cX6_sizeByChart 3 (some .int)) ({ frames := 1, cells := 0, slots := 0, locals := 20 }) (va_Pc [.ref (ad 4)] (pS D cA ad τ ρ π γ)) (QcRead (f6_sizeByChart γ)) 0 0 noA := by
  refine sy_of (by decide) (Nat.le_of_ble_eq_true rfl) ?_
  intro p e s m below meth c ls C hr hlk hK hN hP hl
  obtain ⟨hx, hb, hml, hown, hts⟩ := id C
  have htA : ∀ w ∈ wA, w.before ([.ref (ad 4)] : List Value).toArray s = true := fun w h => hts w (List.mem_cons_of_mem _ h)
  have hl : lv_has ls 3 [(0, .ref (ad 4))] := hl
  refine lv_iconst (v := 0) hx hb dX6_sizeByChart_0 (by decide) ?_
  refine lv_istore_n (lv' := [(1, .int 0), (0, .ref (ad 4))]) hx hb dX6_sizeByChart_1 rfl hl (by decide) rfl (fun ls hl => ?_)
  refine lv_iconst (v := 1) hx hb dX6_sizeByChart_2 (by decide) ?_
  refine lv_istore_n (lv' := [(2, .int 1), (1, .int 0), (0, .ref (ad 4))]) hx hb dX6_sizeByChart_3 rfl hl (by decide) rfl (fun ls hl => ?_)
  have hL4 : ∀ (n : Nat) (x1 : Int32) (x2 : Int32), 0 < x2 → nm x2 64 < n → ∀ ls : Array Slot, lv_has ls 3 [(0, .ref (ad 4)), (1, .int x1), (2, .int x2)] → (∀ ls : Array Slot, lv_has ls 3 [(0, .ref (ad 4)), (1, .int ((f6_sizeByChart_L4 γ n x1 x2).1)), (2, .int ((f6_sizeByChart_L4 γ n x1 x2).2))] → W p l e ({ frames := 1, cells := 0, slots := 0, locals := 20 }) s m ([.ref (ad 4)] : List Value).toArray below meth c s.heap [] 0 0 (MQ below (QcRead (f6_sizeByChart γ)) ([.ref (ad 4)] : List Value).toArray s 0 0 noA) (F0 m 31 ls [])) → W p l e ({ frames := 1, cells := 0, slots := 0, locals := 20 }) s m ([.ref (ad 4)] : List Value).toArray below meth c s.heap [] 0 0 (MQ below (QcRead (f6_sizeByChart γ)) ([.ref (ad 4)] : List Value).toArray s 0 0 noA) (F0 m 4 ls []) := by
    intro  n
    induction n with
    | zero =>
      intro x1 x2 hy hn
      exact absurd hn (Nat.not_lt_zero _)
    | succ n ih =>
      intro x1 x2 hy hn ls hl kk
      refine lv_iload_n hx hb dX6_sizeByChart_4 rfl (lv_at hl 2 rfl) ?_
      refine lv_aload_n hx hb dX6_sizeByChart_5 rfl (lv_at hl 0 rfl) ?_
      refine gX6_3 hx hb htA hown hK hP dX6_sizeByChart_6 ?_
      refine sy_cv (rest := [.int x2]) C hK hN hP (m2_many l D cA ad τ ρ π γ 1 (by decide)) (6) 4 rfl rfl kw_247 kw_248 kw_249 kw_81 kw_250 hd_X2_many ⟨Nat.le_of_ble_eq_true rfl, Nat.le_of_ble_eq_true rfl⟩ rfl rfl rfl hl.1 rfl (Nat.le_of_ble_eq_true rfl) dX6_sizeByChart_9 ⟨Nat.zero_le _, Nat.zero_le _⟩ ?_
      refine lv_icmp_ge (tgt := 31) hx hb dX6_sizeByChart_12 (by decide) (fun c_1 => ?_) (fun c_1 => ?_)
      · have e9 : f6_sizeByChart_L4 γ (n + 1) x1 x2 = (x1, x2) := by rw [f6_sizeByChart_L4_s]; (try rw [if_pos c_1])
        rw [e9] at kk
        exact kk ls (lv_sub hl [0, 1, 2] rfl)
      · refine lv_iload_n hx hb dX6_sizeByChart_15 rfl (lv_at hl 2 rfl) ?_
        refine lv_bipush (v := 64) hx hb dX6_sizeByChart_16 (by decide) ?_
        refine lv_icmp_ge (tgt := 31) hx hb dX6_sizeByChart_18 (by decide) (fun c_2 => ?_) (fun c_2 => ?_)
        · have e9 : f6_sizeByChart_L4 γ (n + 1) x1 x2 = (x1, x2) := by rw [f6_sizeByChart_L4_s]; (try rw [if_neg c_1]); (try rw [if_pos c_2])
          rw [e9] at kk
          exact kk ls (lv_sub hl [0, 1, 2] rfl)
        · refine lv_iinc (v := x1 + 1) (lv' := [(1, .int (x1 + 1)), (0, .ref (ad 4)), (2, .int x2)]) hx hb dX6_sizeByChart_21 hl (k := 1) rfl (by rfl) (by decide) rfl (fun ls hl => ?_)
          refine lv_iload_n hx hb dX6_sizeByChart_24 rfl (lv_at hl 2 rfl) ?_
          refine lv_iconst (v := 2) hx hb dX6_sizeByChart_25 (by decide) ?_
          refine lv_imul hx hb dX6_sizeByChart_26 ?_
          refine lv_istore_n (lv' := [(2, .int (x2 * 2)), (1, .int (x1 + 1)), (0, .ref (ad 4))]) hx hb dX6_sizeByChart_27 rfl hl (by decide) rfl (fun ls hl => ?_)
          refine lv_goto (tgt := 4) hx hb dX6_sizeByChart_28 (by decide) ?_
          have e9 : f6_sizeByChart_L4 γ (n + 1) x1 x2 = f6_sizeByChart_L4 γ n (x1 + 1) (x2 * 2) := by rw [f6_sizeByChart_L4_s]; (try rw [if_neg c_1]); (try rw [if_neg c_2])
          rw [e9] at kk
          exact ih (x1 + 1) (x2 * 2) (dbl_pos hy (Int32.not_le.mp c_2)) (dbl_dec hy (Int32.not_le.mp c_2) hn)  ls (lv_sub hl [2, 1, 0] rfl) kk
  refine hL4 8589934592 0 1 (by decide) (nm_lt _ _) ls (lv_sub hl [2, 1, 0] rfl) (fun ls hl => ?_)
  refine lv_iload_n hx hb dX6_sizeByChart_31 rfl (lv_at hl 1 rfl) ?_
  have e9 : (f6_sizeByChart_L4 γ 8589934592 0 1).1 = f6_sizeByChart γ := rfl
  exact sy_ret hx hb hr hlk e9 dX6_sizeByChart_32
/-- X6_marksOfSquare -/
theorem hd_X6_marksOfSquare : yX6_marksOfSquare.cls = yX6_marksOfSquare.cls ∧ yX6_marksOfSquare.cls ≠ "java/lang/invoke/MethodHandle" ∧ yX6_marksOfSquare.cls ≠ "java/lang/invoke/VarHandle" ∧ (parseMethodDescriptor yX6_marksOfSquare.desc).map (fun d => d.parameters.length) = some 1 := by decide +kernel
def f6_marksOfSquare (τ : Sg) (π : Sg) (a1 : Int32) : Int32 := ((((1 <<< ((f3_markAt π a1) &&& 31)) ||| (1 <<< ((f3_markAt π (a1 - 1)) &&& 31))) ||| (1 <<< ((f3_markAt π (a1 - (f5_wide τ))) &&& 31))) ||| (1 <<< ((f3_markAt π ((a1 - (f5_wide τ)) - 1)) &&& 31))) &&& (-2)
set_option maxHeartbeats 400000 in
set_option maxRecDepth 100000 in
theorem m6_marksOfSquare (l : Launch) (D : va_G) (cA : ClassId) (ad : Nat → Nat) (τ ρ π γ : Sg) (a1 : Int32) : Met l yX6_marksOfSquare (wM yX6_marksOfSquare cX6_marksOfSquare 4 (some .int)) ({ frames := 1, cells := 0, slots := 0, locals := 21 }) (va_Pc [.ref (ad 4), .int a1] (pS D cA ad τ ρ π γ)) (QcRead (f6_marksOfSquare τ π a1)) 0 0 noA := by
  refine sy_of (by decide) (Nat.le_of_ble_eq_true rfl) ?_
  intro p e s m below meth c ls C hr hlk hK hN hP hl
  obtain ⟨hx, hb, hml, hown, hts⟩ := id C
  have htA : ∀ w ∈ wA, w.before ([.ref (ad 4), .int a1] : List Value).toArray s = true := fun w h => hts w (List.mem_cons_of_mem _ h)
  have hl : lv_has ls 4 [(0, .ref (ad 4)), (1, .int a1)] := hl
  refine lv_iload_n hx hb dX6_marksOfSquare_0 rfl (lv_at hl 1 rfl) ?_
  refine lv_aload_n hx hb dX6_marksOfSquare_1 rfl (lv_at hl 0 rfl) ?_
  refine gX6_0 hx hb htA hown hK hP dX6_marksOfSquare_2 ?_
  refine sy_cv (rest := [.int a1]) C hK hN hP (m5_wide l D cA ad τ ρ π γ) (1) 7 rfl rfl kw_428 kw_429 kw_430 kw_16 kw_431 hd_X5_wide ⟨Nat.le_of_ble_eq_true rfl, Nat.le_of_ble_eq_true rfl⟩ rfl rfl rfl hl.1 rfl (Nat.le_of_ble_eq_true rfl) dX6_marksOfSquare_5 ⟨Nat.zero_le _, Nat.zero_le _⟩ ?_
  refine lv_isub hx hb dX6_marksOfSquare_8 ?_
  refine lv_istore_n (lv' := [(2, .int (a1 - (f5_wide τ))), (0, .ref (ad 4)), (1, .int a1)]) hx hb dX6_marksOfSquare_9 rfl hl (by decide) rfl (fun ls hl => ?_)
  refine lv_iconst (v := 1) hx hb dX6_marksOfSquare_10 (by decide) ?_
  refine lv_aload_n hx hb dX6_marksOfSquare_11 rfl (lv_at hl 1 rfl) ?_
  refine gX6_5 hx hb htA hown hK hP dX6_marksOfSquare_12 ?_
  refine lv_iload_n hx hb dX6_marksOfSquare_15 rfl (lv_at hl 2 rfl) ?_
  refine sy_cv (rest := [.int 1]) C hK hN hP (m3_markAt l D cA ad τ ρ π γ a1) (3) 5 rfl rfl kw_271 kw_206 kw_207 kw_24 kw_208 hd_X3_markAt ⟨Nat.le_of_ble_eq_true rfl, Nat.le_of_ble_eq_true rfl⟩ rfl rfl rfl hl.1 rfl (Nat.le_of_ble_eq_true rfl) dX6_marksOfSquare_16 ⟨Nat.zero_le _, Nat.zero_le _⟩ ?_
  refine lv_ishl hx hb dX6_marksOfSquare_19 ?_
  refine lv_iconst (v := 1) hx hb dX6_marksOfSquare_20 (by decide) ?_
  refine lv_aload_n hx hb dX6_marksOfSquare_21 rfl (lv_at hl 1 rfl) ?_
  refine gX6_5 hx hb htA hown hK hP dX6_marksOfSquare_22 ?_
  refine lv_iload_n hx hb dX6_marksOfSquare_25 rfl (lv_at hl 2 rfl) ?_
  refine lv_iconst (v := 1) hx hb dX6_marksOfSquare_26 (by decide) ?_
  refine lv_isub hx hb dX6_marksOfSquare_27 ?_
  refine sy_cv (rest := [.int 1, .int (1 <<< ((f3_markAt π a1) &&& 31))]) C hK hN hP (m3_markAt l D cA ad τ ρ π γ (a1 - 1)) (3) 5 rfl rfl kw_271 kw_206 kw_207 kw_24 kw_208 hd_X3_markAt ⟨Nat.le_of_ble_eq_true rfl, Nat.le_of_ble_eq_true rfl⟩ rfl rfl rfl hl.1 rfl (Nat.le_of_ble_eq_true rfl) dX6_marksOfSquare_28 ⟨Nat.zero_le _, Nat.zero_le _⟩ ?_
  refine lv_ishl hx hb dX6_marksOfSquare_31 ?_
  refine lv_ior hx hb dX6_marksOfSquare_32 ?_
  refine lv_iconst (v := 1) hx hb dX6_marksOfSquare_33 (by decide) ?_
  refine lv_aload_n hx hb dX6_marksOfSquare_34 rfl (lv_at hl 1 rfl) ?_
  refine gX6_5 hx hb htA hown hK hP dX6_marksOfSquare_35 ?_
  refine lv_iload_n hx hb dX6_marksOfSquare_38 rfl (lv_at hl 0 rfl) ?_
  refine sy_cv (rest := [.int 1, .int ((1 <<< ((f3_markAt π a1) &&& 31)) ||| (1 <<< ((f3_markAt π (a1 - 1)) &&& 31)))]) C hK hN hP (m3_markAt l D cA ad τ ρ π γ (a1 - (f5_wide τ))) (3) 5 rfl rfl kw_271 kw_206 kw_207 kw_24 kw_208 hd_X3_markAt ⟨Nat.le_of_ble_eq_true rfl, Nat.le_of_ble_eq_true rfl⟩ rfl rfl rfl hl.1 rfl (Nat.le_of_ble_eq_true rfl) dX6_marksOfSquare_39 ⟨Nat.zero_le _, Nat.zero_le _⟩ ?_
  refine lv_ishl hx hb dX6_marksOfSquare_42 ?_
  refine lv_ior hx hb dX6_marksOfSquare_43 ?_
  refine lv_iconst (v := 1) hx hb dX6_marksOfSquare_44 (by decide) ?_
  refine lv_aload_n hx hb dX6_marksOfSquare_45 rfl (lv_at hl 1 rfl) ?_
  refine gX6_5 hx hb htA hown hK hP dX6_marksOfSquare_46 ?_
  refine lv_iload_n hx hb dX6_marksOfSquare_49 rfl (lv_at hl 0 rfl) ?_
  refine lv_iconst (v := 1) hx hb dX6_marksOfSquare_50 (by decide) ?_
  refine lv_isub hx hb dX6_marksOfSquare_51 ?_
  refine sy_cv (rest := [.int 1, .int (((1 <<< ((f3_markAt π a1) &&& 31)) ||| (1 <<< ((f3_markAt π (a1 - 1)) &&& 31))) ||| (1 <<< ((f3_markAt π (a1 - (f5_wide τ))) &&& 31)))]) C hK hN hP (m3_markAt l D cA ad τ ρ π γ ((a1 - (f5_wide τ)) - 1)) (3) 5 rfl rfl kw_271 kw_206 kw_207 kw_24 kw_208 hd_X3_markAt ⟨Nat.le_of_ble_eq_true rfl, Nat.le_of_ble_eq_true rfl⟩ rfl rfl rfl hl.1 rfl (Nat.le_of_ble_eq_true rfl) dX6_marksOfSquare_52 ⟨Nat.zero_le _, Nat.zero_le _⟩ ?_
  refine lv_ishl hx hb dX6_marksOfSquare_55 ?_
  refine lv_ior hx hb dX6_marksOfSquare_56 ?_
  refine lv_istore_n (lv' := [(3, .int ((((1 <<< ((f3_markAt π a1) &&& 31)) ||| (1 <<< ((f3_markAt π (a1 - 1)) &&& 31))) ||| (1 <<< ((f3_markAt π (a1 - (f5_wide τ))) &&& 31))) ||| (1 <<< ((f3_markAt π ((a1 - (f5_wide τ)) - 1)) &&& 31)))), (2, .int (a1 - (f5_wide τ))), (0, .ref (ad 4)), (1, .int a1)]) hx hb dX6_marksOfSquare_57 rfl hl (by decide) rfl (fun ls hl => ?_)
  refine lv_iload_n hx hb dX6_marksOfSquare_58 rfl (lv_at hl 0 rfl) ?_
  refine lv_bipush (v := (-2)) hx hb dX6_marksOfSquare_59 (by decide) ?_
  refine lv_iand hx hb dX6_marksOfSquare_61 ?_
  have e9 : ((((1 <<< ((f3_markAt π a1) &&& 31)) ||| (1 <<< ((f3_markAt π (a1 - 1)) &&& 31))) ||| (1 <<< ((f3_markAt π (a1 - (f5_wide τ))) &&& 31))) ||| (1 <<< ((f3_markAt π ((a1 - (f5_wide τ)) - 1)) &&& 31))) &&& (-2) = f6_marksOfSquare τ π a1 := rfl
  exact sy_ret hx hb hr hlk e9 dX6_marksOfSquare_62
/-- X6_junctions -/
theorem hd_X6_junctions : yX6_junctions.cls = yX6_junctions.cls ∧ yX6_junctions.cls ≠ "java/lang/invoke/MethodHandle" ∧ yX6_junctions.cls ≠ "java/lang/invoke/VarHandle" ∧ (parseMethodDescriptor yX6_junctions.desc).map (fun d => d.parameters.length) = some 0 := by decide +kernel
def f6_junctions_L17 (τ : Sg) (π : Sg) (x2 : Int32) : Nat → Int32 → Int32 → Int32 × Int32
  | 0, x1, x3 => (x1, x3)
  | n + 1, x1, x3 => (if (f5_wide τ) ≤ x3 then (x1, x3) else (if (fJ6_bitCount_0f7a4 (f6_marksOfSquare τ π ((x2 * (f5_wide τ)) + x3))) < 3 then (f6_junctions_L17 τ π x2 n x1 (x3 + 1)) else (f6_junctions_L17 τ π x2 n (x1 + 1) (x3 + 1))))
theorem f6_junctions_L17_s (τ : Sg) (π : Sg) (x2 : Int32) (n : Nat) (x1 : Int32) (x3 : Int32) : f6_junctions_L17 τ π x2 (n + 1) x1 x3 = (if (f5_wide τ) ≤ x3 then (x1, x3) else (if (fJ6_bitCount_0f7a4 (f6_marksOfSquare τ π ((x2 * (f5_wide τ)) + x3))) < 3 then (f6_junctions_L17 τ π x2 n x1 (x3 + 1)) else (f6_junctions_L17 τ π x2 n (x1 + 1) (x3 + 1)))) := rfl
def f6_junctions_L4 (τ : Sg) (π : Sg) : Nat → Int32 → Int32 → Int32 × Int32
  | 0, x1, x2 => (x1, x2)
  | n + 1, x1, x2 => (if (f5_high τ) ≤ x2 then (x1, x2) else (f6_junctions_L4 τ π n ((f6_junctions_L17 τ π x2 8589934592 x1 1).1) (x2 + 1)))
theorem f6_junctions_L4_s (τ : Sg) (π : Sg) (n : Nat) (x1 : Int32) (x2 : Int32) : f6_junctions_L4 τ π (n + 1) x1 x2 = (if (f5_high τ) ≤ x2 then (x1, x2) else (f6_junctions_L4 τ π n ((f6_junctions_L17 τ π x2 8589934592 x1 1).1) (x2 + 1))) := rfl
def f6_junctions (τ : Sg) (π : Sg) : Int32 := (f6_junctions_L4 τ π 8589934592 0 1).1
set_option maxHeartbeats 400000 in
set_option maxRecDepth 100000 in
theorem m6_junctions (l : Launch) (D : va_G) (cA : ClassId) (ad : Nat → Nat) (τ ρ π γ : Sg) : Met l yX6_junctions (wM yX6_junctions cX6_junctions 4 (some .int)) ({ frames := 2, cells := 0, slots := 0, locals := 44 }) (va_Pc [.ref (ad 4)] (pS D cA ad τ ρ π γ)) (QcRead (f6_junctions τ π)) 0 0 noA := by
  refine sy_of (by decide) (Nat.le_of_ble_eq_true rfl) ?_
  intro p e s m below meth c ls C hr hlk hK hN hP hl
  obtain ⟨hx, hb, hml, hown, hts⟩ := id C
  have htA : ∀ w ∈ wA, w.before ([.ref (ad 4)] : List Value).toArray s = true := fun w h => hts w (List.mem_cons_of_mem _ h)
  have hl : lv_has ls 4 [(0, .ref (ad 4))] := hl
  refine lv_iconst (v := 0) hx hb dX6_junctions_0 (by decide) ?_
  refine lv_istore_n (lv' := [(1, .int 0), (0, .ref (ad 4))]) hx hb dX6_junctions_1 rfl hl (by decide) rfl (fun ls hl => ?_)
  refine lv_iconst (v := 1) hx hb dX6_junctions_2 (by decide) ?_
  refine lv_istore_n (lv' := [(2, .int 1), (1, .int 0), (0, .ref (ad 4))]) hx hb dX6_junctions_3 rfl hl (by decide) rfl (fun ls hl => ?_)
  have hL4 : ∀ (n : Nat) (x1 : Int32) (x2 : Int32), nm x2 (f5_high τ) < n → ∀ ls : Array Slot, lv_has ls 4 [(0, .ref (ad 4)), (1, .int x1), (2, .int x2)] → (∀ ls : Array Slot, lv_has ls 4 [(0, .ref (ad 4)), (1, .int ((f6_junctions_L4 τ π n x1 x2).1)), (2, .int ((f6_junctions_L4 τ π n x1 x2).2))] → W p l e ({ frames := 2, cells := 0, slots := 0, locals := 44 }) s m ([.ref (ad 4)] : List Value).toArray below meth c s.heap [] 0 0 (MQ below (QcRead (f6_junctions τ π)) ([.ref (ad 4)] : List Value).toArray s 0 0 noA) (F0 m 65 ls [])) → W p l e ({ frames := 2, cells := 0, slots := 0, locals := 44 }) s m ([.ref (ad 4)] : List Value).toArray below meth c s.heap [] 0 0 (MQ below (QcRead (f6_junctions τ π)) ([.ref (ad 4)] : List Value).toArray s 0 0 noA) (F0 m 4 ls []) := by
    intro  n
    induction n with
    | zero =>
      intro x1 x2 hn
      exact absurd hn (Nat.not_lt_zero _)
    | succ n ih =>
      intro x1 x2 hn ls hl kk
      refine lv_iload_n hx hb dX6_junctions_4 rfl (lv_at hl 2 rfl) ?_
      refine lv_aload_n hx hb dX6_junctions_5 rfl (lv_at hl 0 rfl) ?_
      refine gX6_0 hx hb htA hown hK hP dX6_junctions_6 ?_
      refine sy_cv (rest := [.int x2]) C hK hN hP (m5_high l D cA ad τ ρ π γ) (1) 7 rfl rfl kw_424 kw_425 kw_426 kw_16 kw_427 hd_X5_high ⟨Nat.le_of_ble_eq_true rfl, Nat.le_of_ble_eq_true rfl⟩ rfl rfl rfl hl.1 rfl (Nat.le_of_ble_eq_true rfl) dX6_junctions_9 ⟨Nat.zero_le _, Nat.zero_le _⟩ ?_
      refine lv_icmp_ge (tgt := 65) hx hb dX6_junctions_12 (by decide) (fun c_1 => ?_) (fun c_1 => ?_)
      · have e9 : f6_junctions_L4 τ π (n + 1) x1 x2 = (x1, x2) := by rw [f6_junctions_L4_s]; (try rw [if_pos c_1])
        rw [e9] at kk
        exact kk ls (lv_sub hl [0, 1, 2] rfl)
      · refine lv_iconst (v := 1) hx hb dX6_junctions_15 (by decide) ?_
        refine lv_istore_n (lv' := [(3, .int 1), (0, .ref (ad 4)), (1, .int x1), (2, .int x2)]) hx hb dX6_junctions_16 rfl hl (by decide) rfl (fun ls hl => ?_)
        have hL17 : ∀ (x2 : Int32) (n : Nat) (x1 : Int32) (x3 : Int32), nm x3 (f5_wide τ) < n → ∀ ls : Array Slot, lv_has ls 4 [(0, .ref (ad 4)), (1, .int x1), (2, .int x2), (3, .int x3)] → (∀ ls : Array Slot, lv_has ls 4 [(0, .ref (ad 4)), (1, .int ((f6_junctions_L17 τ π x2 n x1 x3).1)), (2, .int x2), (3, .int ((f6_junctions_L17 τ π x2 n x1 x3).2))] → W p l e ({ frames := 2, cells := 0, slots := 0, locals := 44 }) s m ([.ref (ad 4)] : List Value).toArray below meth c s.heap [] 0 0 (MQ below (QcRead (f6_junctions τ π)) ([.ref (ad 4)] : List Value).toArray s 0 0 noA) (F0 m 59 ls [])) → W p l e ({ frames := 2, cells := 0, slots := 0, locals := 44 }) s m ([.ref (ad 4)] : List Value).toArray below meth c s.heap [] 0 0 (MQ below (QcRead (f6_junctions τ π)) ([.ref (ad 4)] : List Value).toArray s 0 0 noA) (F0 m 17 ls []) := by
          intro x2 n
          induction n with
          | zero =>
            intro x1 x3 hn
            exact absurd hn (Nat.not_lt_zero _)
          | succ n ih =>
            intro x1 x3 hn ls hl kk
            refine lv_iload_n hx hb dX6_junctions_17 rfl (lv_at hl 3 rfl) ?_
            refine lv_aload_n hx hb dX6_junctions_18 rfl (lv_at hl 0 rfl) ?_
            refine gX6_0 hx hb htA hown hK hP dX6_junctions_19 ?_
            refine sy_cv (rest := [.int x3]) C hK hN hP (m5_wide l D cA ad τ ρ π γ) (1) 7 rfl rfl kw_428 kw_429 kw_430 kw_16 kw_431 hd_X5_wide ⟨Nat.le_of_ble_eq_true rfl, Nat.le_of_ble_eq_true rfl⟩ rfl rfl rfl hl.1 rfl (Nat.le_of_ble_eq_true rfl) dX6_junctions_22 ⟨Nat.zero_le _, Nat.zero_le _⟩ ?_
            refine lv_icmp_ge (tgt := 59) hx hb dX6_junctions_25 (by decide) (fun c_2 => ?_) (fun c_2 => ?_)
            · have e9 : f6_junctions_L17 τ π x2 (n + 1) x1 x3 = (x1, x3) := by rw [f6_junctions_L17_s]; (try rw [if_pos c_2])
              rw [e9] at kk
              exact kk ls (lv_sub hl [0, 1, 2, 3] rfl)
            · refine lv_aload_n hx hb dX6_junctions_28 rfl (lv_at hl 0 rfl) ?_
              refine lv_iload_n hx hb dX6_junctions_29 rfl (lv_at hl 2 rfl) ?_
              refine lv_aload_n hx hb dX6_junctions_30 rfl (lv_at hl 0 rfl) ?_
              refine gX6_0 hx hb htA hown hK hP dX6_junctions_31 ?_
              refine sy_cv (rest := [.int x2, .ref (ad 4)]) C hK hN hP (m5_wide l D cA ad τ ρ π γ) (1) 7 rfl rfl kw_428 kw_429 kw_430 kw_16 kw_431 hd_X5_wide ⟨Nat.le_of_ble_eq_true rfl, Nat.le_of_ble_eq_true rfl⟩ rfl rfl rfl hl.1 rfl (Nat.le_of_ble_eq_true rfl) dX6_junctions_34 ⟨Nat.zero_le _, Nat.zero_le _⟩ ?_
              refine lv_imul hx hb dX6_junctions_37 ?_
              refine lv_iload_n hx hb dX6_junctions_38 rfl (lv_at hl 3 rfl) ?_
              refine lv_iadd hx hb dX6_junctions_39 ?_
              refine sy_cv (rest := []) C hK hN hP (m6_marksOfSquare l D cA ad τ ρ π γ ((x2 * (f5_wide τ)) + x3)) (4) 8 rfl rfl kw_432 kw_433 kw_434 kw_29 kw_435 hd_X6_marksOfSquare ⟨Nat.le_of_ble_eq_true rfl, Nat.le_of_ble_eq_true rfl⟩ rfl rfl rfl hl.1 rfl (Nat.le_of_ble_eq_true rfl) dX6_junctions_40 ⟨Nat.zero_le _, Nat.zero_le _⟩ ?_
              refine sy_cs (rest := []) C hK hN hP (mJ6_bitCount_0f7a4 l D cA ad τ ρ π γ (f6_marksOfSquare τ π ((x2 * (f5_wide τ)) + x3))) kw_436 kw_437 kw_438 kw_439 hd_J6_bitCount_0f7a4 ⟨Nat.le_of_ble_eq_true rfl, Nat.le_of_ble_eq_true rfl⟩ rfl rfl rfl hl.1 rfl (Nat.le_of_ble_eq_true rfl) dX6_junctions_43 ⟨Nat.zero_le _, Nat.zero_le _⟩ ?_
              refine lv_iconst (v := 3) hx hb dX6_junctions_46 (by decide) ?_
              refine lv_icmp_lt (tgt := 53) hx hb dX6_junctions_47 (by decide) (fun c_3 => ?_) (fun c_3 => ?_)
              · refine lv_iinc (v := x3 + 1) (lv' := [(3, .int (x3 + 1)), (0, .ref (ad 4)), (1, .int x1), (2, .int x2)]) hx hb dX6_junctions_53 hl (k := 3) rfl (by rfl) (by decide) rfl (fun ls hl => ?_)
                refine lv_goto (tgt := 17) hx hb dX6_junctions_56 (by decide) ?_
                have e9 : f6_junctions_L17 τ π x2 (n + 1) x1 x3 = f6_junctions_L17 τ π x2 n x1 (x3 + 1) := by rw [f6_junctions_L17_s]; (try rw [if_neg c_2]); (try rw [if_pos c_3])
                rw [e9] at kk
                exact ih x1 (x3 + 1) (nm_dec (Int32.not_le.mp c_2) hn)  ls (lv_sub hl [1, 2, 3, 0] rfl) kk
              · refine lv_iinc (v := x1 + 1) (lv' := [(1, .int (x1 + 1)), (0, .ref (ad 4)), (2, .int x2), (3, .int x3)]) hx hb dX6_junctions_50 hl (k := 1) rfl (by rfl) (by decide) rfl (fun ls hl => ?_)
                refine lv_iinc (v := x3 + 1) (lv' := [(3, .int (x3 + 1)), (1, .int (x1 + 1)), (0, .ref (ad 4)), (2, .int x2)]) hx hb dX6_junctions_53 hl (k := 3) rfl (by rfl) (by decide) rfl (fun ls hl => ?_)
                refine lv_goto (tgt := 17) hx hb dX6_junctions_56 (by decide) ?_
                have e9 : f6_junctions_L17 τ π x2 (n + 1) x1 x3 = f6_junctions_L17 τ π x2 n (x1 + 1) (x3 + 1) := by rw [f6_junctions_L17_s]; (try rw [if_neg c_2]); (try rw [if_neg c_3])
                rw [e9] at kk
                exact ih (x1 + 1) (x3 + 1) (nm_dec (Int32.not_le.mp c_2) hn)  ls (lv_sub hl [2, 1, 3, 0] rfl) kk
        refine hL17 x2 8589934592 x1 1 (nm_lt _ _) ls (lv_sub hl [1, 2, 3, 0] rfl) (fun ls hl => ?_)
        refine lv_iinc (v := x2 + 1) (lv' := [(2, .int (x2 + 1)), (0, .ref (ad 4)), (1, .int ((f6_junctions_L17 τ π x2 8589934592 x1 1).1)), (3, .int ((f6_junctions_L17 τ π x2 8589934592 x1 1).2))]) hx hb dX6_junctions_59 hl (k := 2) rfl (by rfl) (by decide) rfl (fun ls hl => ?_)
        refine lv_goto (tgt := 4) hx hb dX6_junctions_62 (by decide) ?_
        have e9 : f6_junctions_L4 τ π (n + 1) x1 x2 = f6_junctions_L4 τ π n ((f6_junctions_L17 τ π x2 8589934592 x1 1).1) (x2 + 1) := by rw [f6_junctions_L4_s]; (try rw [if_neg c_1])
        rw [e9] at kk
        exact ih ((f6_junctions_L17 τ π x2 8589934592 x1 1).1) (x2 + 1) (nm_dec (Int32.not_le.mp c_1) hn)  ls (lv_sub hl [1, 2, 0] rfl) kk
  refine hL4 8589934592 0 1 (nm_lt _ _) ls (lv_sub hl [2, 1, 0] rfl) (fun ls hl => ?_)
  refine lv_iload_n hx hb dX6_junctions_65 rfl (lv_at hl 1 rfl) ?_
  have e9 : (f6_junctions_L4 τ π 8589934592 0 1).1 = f6_junctions τ π := rfl
  exact sy_ret hx hb hr hlk e9 dX6_junctions_66
/-- X6_strength -/
theorem hd_X6_strength : yX6_strength.cls = yX6_strength.cls ∧ yX6_strength.cls ≠ "java/lang/invoke/MethodHandle" ∧ yX6_strength.cls ≠ "java/lang/invoke/VarHandle" ∧ (parseMethodDescriptor yX6_strength.desc).map (fun d => d.parameters.length) = some 0 := by decide +kernel
def f6_strength (τ : Sg) (ρ : Sg) (π : Sg) : Int32 := (if (f5_cells τ) ≤ 0 then (((20 + 0) + (4 * (f3_particles τ π))) + (3 * (f3_hardCells τ π))) + ((f3_allWork τ π) / 2) else (((20 + ((100 * (f6_allCuts τ ρ π)) / (f5_cells τ))) + (4 * (f3_particles τ π))) + (3 * (f3_hardCells τ π))) + ((f3_allWork τ π) / 2))
set_option maxHeartbeats 400000 in
set_option maxRecDepth 100000 in
theorem m6_strength (l : Launch) (D : va_G) (cA : ClassId) (ad : Nat → Nat) (τ ρ π γ : Sg) : Met l yX6_strength (wM yX6_strength cX6_strength 3 (some .int)) ({ frames := 4, cells := 0, slots := 0, locals := 91 }) (va_Pc [.ref (ad 4)] (pS D cA ad τ ρ π γ)) (QcRead (f6_strength τ ρ π)) 0 0 noA := by
  refine sy_of (by decide) (Nat.le_of_ble_eq_true rfl) ?_
  intro p e s m below meth c ls C hr hlk hK hN hP hl
  obtain ⟨hx, hb, hml, hown, hts⟩ := id C
  have htA : ∀ w ∈ wA, w.before ([.ref (ad 4)] : List Value).toArray s = true := fun w h => hts w (List.mem_cons_of_mem _ h)
  have hl : lv_has ls 3 [(0, .ref (ad 4))] := hl
  refine lv_aload_n hx hb dX6_strength_0 rfl (lv_at hl 0 rfl) ?_
  refine gX6_0 hx hb htA hown hK hP dX6_strength_1 ?_
  refine sy_cv (rest := []) C hK hN hP (m5_cells l D cA ad τ ρ π γ) (1) 7 rfl rfl kw_375 kw_184 kw_185 kw_16 kw_186 hd_X5_cells ⟨Nat.le_of_ble_eq_true rfl, Nat.le_of_ble_eq_true rfl⟩ rfl rfl rfl hl.1 rfl (Nat.le_of_ble_eq_true rfl) dX6_strength_4 ⟨Nat.zero_le _, Nat.zero_le _⟩ ?_
  refine lv_istore_n (lv' := [(1, .int (f5_cells τ)), (0, .ref (ad 4))]) hx hb dX6_strength_7 rfl hl (by decide) rfl (fun ls hl => ?_)
  refine lv_iload_n hx hb dX6_strength_8 rfl (lv_at hl 0 rfl) ?_
  refine lv_if_le (tgt := 24) hx hb dX6_strength_9 (by decide) (fun c_1 => ?_) (fun c_1 => ?_)
  · refine lv_iconst (v := 0) hx hb dX6_strength_24 (by decide) ?_
    refine lv_istore_n (lv' := [(2, .int 0), (1, .int (f5_cells τ)), (0, .ref (ad 4))]) hx hb dX6_strength_25 rfl hl (by decide) rfl (fun ls hl => ?_)
    refine lv_bipush (v := 20) hx hb dX6_strength_26 (by decide) ?_
    refine lv_iload_n hx hb dX6_strength_28 rfl (lv_at hl 0 rfl) ?_
    refine lv_iadd hx hb dX6_strength_29 ?_
    refine lv_iconst (v := 4) hx hb dX6_strength_30 (by decide) ?_
    refine lv_aload_n hx hb dX6_strength_31 rfl (lv_at hl 2 rfl) ?_
    refine gX6_5 hx hb htA hown hK hP dX6_strength_32 ?_
    refine sy_cv (rest := [.int 4, .int (20 + 0)]) C hK hN hP (m3_particles l D cA ad τ ρ π γ) (3) 5 rfl rfl kw_447 kw_317 kw_318 kw_24 kw_319 hd_X3_particles ⟨Nat.le_of_ble_eq_true rfl, Nat.le_of_ble_eq_true rfl⟩ rfl rfl rfl hl.1 rfl (Nat.le_of_ble_eq_true rfl) dX6_strength_35 ⟨Nat.zero_le _, Nat.zero_le _⟩ ?_
    refine lv_imul hx hb dX6_strength_38 ?_
    refine lv_iadd hx hb dX6_strength_39 ?_
    refine lv_iconst (v := 3) hx hb dX6_strength_40 (by decide) ?_
    refine lv_aload_n hx hb dX6_strength_41 rfl (lv_at hl 2 rfl) ?_
    refine gX6_5 hx hb htA hown hK hP dX6_strength_42 ?_
    refine sy_cv (rest := [.int 3, .int ((20 + 0) + (4 * (f3_particles τ π)))]) C hK hN hP (m3_hardCells l D cA ad τ ρ π γ) (3) 5 rfl rfl kw_448 kw_449 kw_450 kw_24 kw_451 hd_X3_hardCells ⟨Nat.le_of_ble_eq_true rfl, Nat.le_of_ble_eq_true rfl⟩ rfl rfl rfl hl.1 rfl (Nat.le_of_ble_eq_true rfl) dX6_strength_45 ⟨Nat.zero_le _, Nat.zero_le _⟩ ?_
    refine lv_imul hx hb dX6_strength_48 ?_
    refine lv_iadd hx hb dX6_strength_49 ?_
    refine lv_aload_n hx hb dX6_strength_50 rfl (lv_at hl 2 rfl) ?_
    refine gX6_5 hx hb htA hown hK hP dX6_strength_51 ?_
    refine sy_cv (rest := [.int (((20 + 0) + (4 * (f3_particles τ π))) + (3 * (f3_hardCells τ π)))]) C hK hN hP (m3_allWork l D cA ad τ ρ π γ) (3) 5 rfl rfl kw_452 kw_383 kw_384 kw_24 kw_385 hd_X3_allWork ⟨Nat.le_of_ble_eq_true rfl, Nat.le_of_ble_eq_true rfl⟩ rfl rfl rfl hl.1 rfl (Nat.le_of_ble_eq_true rfl) dX6_strength_54 ⟨Nat.zero_le _, Nat.zero_le _⟩ ?_
    refine lv_iconst (v := 2) hx hb dX6_strength_57 (by decide) ?_
    refine lv_idiv hx hb dX6_strength_58 (by decide) ?_
    refine lv_iadd hx hb dX6_strength_59 ?_
    have e9 : (((20 + 0) + (4 * (f3_particles τ π))) + (3 * (f3_hardCells τ π))) + ((f3_allWork τ π) / 2) = f6_strength τ ρ π := by unfold f6_strength; (try rw [if_pos c_1])
    exact sy_ret hx hb hr hlk e9 dX6_strength_60
  · refine lv_bipush (v := 100) hx hb dX6_strength_12 (by decide) ?_
    refine lv_aload_n hx hb dX6_strength_14 rfl (lv_at hl 1 rfl) ?_
    refine sy_cv (rest := [.int 100]) C hK hN hP (m6_allCuts l D cA ad τ ρ π γ) (4) 8 rfl rfl kw_395 kw_396 kw_397 kw_29 kw_398 hd_X6_allCuts ⟨Nat.le_of_ble_eq_true rfl, Nat.le_of_ble_eq_true rfl⟩ rfl rfl rfl hl.1 rfl (Nat.le_of_ble_eq_true rfl) dX6_strength_15 ⟨Nat.zero_le _, Nat.zero_le _⟩ ?_
    refine lv_imul hx hb dX6_strength_18 ?_
    refine lv_iload_n hx hb dX6_strength_19 rfl (lv_at hl 0 rfl) ?_
    refine lv_idiv hx hb dX6_strength_20 (ne_pos (Int32.not_le.mp c_1)) ?_
    refine lv_goto (tgt := 25) hx hb dX6_strength_21 (by decide) ?_
    refine lv_istore_n (lv' := [(2, .int ((100 * (f6_allCuts τ ρ π)) / (f5_cells τ))), (1, .int (f5_cells τ)), (0, .ref (ad 4))]) hx hb dX6_strength_25 rfl hl (by decide) rfl (fun ls hl => ?_)
    refine lv_bipush (v := 20) hx hb dX6_strength_26 (by decide) ?_
    refine lv_iload_n hx hb dX6_strength_28 rfl (lv_at hl 0 rfl) ?_
    refine lv_iadd hx hb dX6_strength_29 ?_
    refine lv_iconst (v := 4) hx hb dX6_strength_30 (by decide) ?_
    refine lv_aload_n hx hb dX6_strength_31 rfl (lv_at hl 2 rfl) ?_
    refine gX6_5 hx hb htA hown hK hP dX6_strength_32 ?_
    refine sy_cv (rest := [.int 4, .int (20 + ((100 * (f6_allCuts τ ρ π)) / (f5_cells τ)))]) C hK hN hP (m3_particles l D cA ad τ ρ π γ) (3) 5 rfl rfl kw_447 kw_317 kw_318 kw_24 kw_319 hd_X3_particles ⟨Nat.le_of_ble_eq_true rfl, Nat.le_of_ble_eq_true rfl⟩ rfl rfl rfl hl.1 rfl (Nat.le_of_ble_eq_true rfl) dX6_strength_35 ⟨Nat.zero_le _, Nat.zero_le _⟩ ?_
    refine lv_imul hx hb dX6_strength_38 ?_
    refine lv_iadd hx hb dX6_strength_39 ?_
    refine lv_iconst (v := 3) hx hb dX6_strength_40 (by decide) ?_
    refine lv_aload_n hx hb dX6_strength_41 rfl (lv_at hl 2 rfl) ?_
    refine gX6_5 hx hb htA hown hK hP dX6_strength_42 ?_
    refine sy_cv (rest := [.int 3, .int ((20 + ((100 * (f6_allCuts τ ρ π)) / (f5_cells τ))) + (4 * (f3_particles τ π)))]) C hK hN hP (m3_hardCells l D cA ad τ ρ π γ) (3) 5 rfl rfl kw_448 kw_449 kw_450 kw_24 kw_451 hd_X3_hardCells ⟨Nat.le_of_ble_eq_true rfl, Nat.le_of_ble_eq_true rfl⟩ rfl rfl rfl hl.1 rfl (Nat.le_of_ble_eq_true rfl) dX6_strength_45 ⟨Nat.zero_le _, Nat.zero_le _⟩ ?_
    refine lv_imul hx hb dX6_strength_48 ?_
    refine lv_iadd hx hb dX6_strength_49 ?_
    refine lv_aload_n hx hb dX6_strength_50 rfl (lv_at hl 2 rfl) ?_
    refine gX6_5 hx hb htA hown hK hP dX6_strength_51 ?_
    refine sy_cv (rest := [.int (((20 + ((100 * (f6_allCuts τ ρ π)) / (f5_cells τ))) + (4 * (f3_particles τ π))) + (3 * (f3_hardCells τ π)))]) C hK hN hP (m3_allWork l D cA ad τ ρ π γ) (3) 5 rfl rfl kw_452 kw_383 kw_384 kw_24 kw_385 hd_X3_allWork ⟨Nat.le_of_ble_eq_true rfl, Nat.le_of_ble_eq_true rfl⟩ rfl rfl rfl hl.1 rfl (Nat.le_of_ble_eq_true rfl) dX6_strength_54 ⟨Nat.zero_le _, Nat.zero_le _⟩ ?_
    refine lv_iconst (v := 2) hx hb dX6_strength_57 (by decide) ?_
    refine lv_idiv hx hb dX6_strength_58 (by decide) ?_
    refine lv_iadd hx hb dX6_strength_59 ?_
    have e9 : (((20 + ((100 * (f6_allCuts τ ρ π)) / (f5_cells τ))) + (4 * (f3_particles τ π))) + (3 * (f3_hardCells τ π))) + ((f3_allWork τ π) / 2) = f6_strength τ ρ π := by unfold f6_strength; (try rw [if_neg c_1])
    exact sy_ret hx hb hr hlk e9 dX6_strength_60
/-- X6_metalNumber -/
theorem hd_X6_metalNumber : yX6_metalNumber.cls = yX6_metalNumber.cls ∧ yX6_metalNumber.cls ≠ "java/lang/invoke/MethodHandle" ∧ yX6_metalNumber.cls ≠ "java/lang/invoke/VarHandle" ∧ (parseMethodDescriptor yX6_metalNumber.desc).map (fun d => d.parameters.length) = some 1 := by decide +kernel
def f6_metalNumber (τ : Sg) (ρ : Sg) (π : Sg) (γ : Sg) (a1 : Int32) : Int32 := (if (f5_cells τ) = 0 then (if a1 = 14 then f3_drawnEver π else 0) else (if a1 = 0 then f3_energy τ ρ π else (if a1 = 1 then f2_many γ 0 else (if a1 = 2 then f2_many γ 1 else (if a1 = 3 then f2_sizeByArea τ π γ 1 else (if a1 = 4 then f6_sizeByLines τ ρ π else (if a1 = 5 then f6_sizeByChart γ else (if a1 = 6 then (f2_sizeByArea τ π γ 0) - (f2_sizeByArea τ π γ 1) else (if a1 = 7 then f6_junctions τ π else (if a1 = 8 then f6_strength τ ρ π else (if a1 = 9 then f6_allCuts τ ρ π else (if a1 = 10 then f3_particles τ π else (if a1 = 11 then f3_hardCells τ π else (if a1 = 12 then f3_allWork τ π else (if a1 = 13 then f5_cells τ else (if a1 = 14 then f3_drawnEver π else (if a1 = 15 then f2_greatestSize γ 0 else 0)))))))))))))))))
set_option maxHeartbeats 400000 in
set_option maxRecDepth 100000 in
theorem m6_metalNumber (l : Launch) (D : va_G) (cA : ClassId) (ad : Nat → Nat) (τ ρ π γ : Sg) (hT : Ok τ) (a1 : Int32) : Met l yX6_metalNumber (wM yX6_metalNumber cX6_metalNumber 2 (some .int)) ({ frames := 5, cells := 0, slots := 0, locals := 113 }) (va_Pc [.ref (ad 4), .int a1] (pS D cA ad τ ρ π γ)) (QcRead (f6_metalNumber τ ρ π γ a1)) 0 0 noA := by
  refine sy_of (by decide) (Nat.le_of_ble_eq_true rfl) ?_
  intro p e s m below meth c ls C hr hlk hK hN hP hl
  obtain ⟨hx, hb, hml, hown, hts⟩ := id C
  have htA : ∀ w ∈ wA, w.before ([.ref (ad 4), .int a1] : List Value).toArray s = true := fun w h => hts w (List.mem_cons_of_mem _ h)
  have hl : lv_has ls 2 [(0, .ref (ad 4)), (1, .int a1)] := hl
  refine lv_aload_n hx hb dX6_metalNumber_0 rfl (lv_at hl 0 rfl) ?_
  refine gX6_0 hx hb htA hown hK hP dX6_metalNumber_1 ?_
  refine sy_cv (rest := []) C hK hN hP (m5_cells l D cA ad τ ρ π γ) (1) 7 rfl rfl kw_375 kw_184 kw_185 kw_16 kw_186 hd_X5_cells ⟨Nat.le_of_ble_eq_true rfl, Nat.le_of_ble_eq_true rfl⟩ rfl rfl rfl hl.1 rfl (Nat.le_of_ble_eq_true rfl) dX6_metalNumber_4 ⟨Nat.zero_le _, Nat.zero_le _⟩ ?_
  refine lv_if_ne (tgt := 28) hx hb dX6_metalNumber_7 (by decide) (fun c_1 => ?_) (fun c_1 => ?_)
  · refine lv_iload_n hx hb dX6_metalNumber_28 rfl (lv_at hl 1 rfl) ?_
    by_cases c_2 : a1 = 0
    · refine lv_tableIn (tgt := 108) hx hb dX6_metalNumber_29 (by rw [c_2]; decide) (by rw [c_2]; decide) (by rw [c_2]; rfl) (by decide) ?_
      refine lv_aload_n hx hb dX6_metalNumber_108 rfl (lv_at hl 0 rfl) ?_
      refine gX6_5 hx hb htA hown hK hP dX6_metalNumber_109 ?_
      refine sy_cv (rest := []) C hK hN hP (m3_energy l D cA ad τ ρ π γ hT) (3) 5 rfl rfl kw_377 kw_378 kw_379 kw_24 kw_380 hd_X3_energy ⟨Nat.le_of_ble_eq_true rfl, Nat.le_of_ble_eq_true rfl⟩ rfl rfl rfl hl.1 rfl (Nat.le_of_ble_eq_true rfl) dX6_metalNumber_112 ⟨Nat.zero_le _, Nat.zero_le _⟩ ?_
      have e9 : f3_energy τ ρ π = f6_metalNumber τ ρ π γ a1 := by unfold f6_metalNumber; (try rw [if_neg c_1]); (try rw [if_pos c_2])
      exact sy_ret hx hb hr hlk e9 dX6_metalNumber_115
    by_cases c_3 : a1 = 1
    · refine lv_tableIn (tgt := 116) hx hb dX6_metalNumber_29 (by rw [c_3]; decide) (by rw [c_3]; decide) (by rw [c_3]; rfl) (by decide) ?_
      refine lv_aload_n hx hb dX6_metalNumber_116 rfl (lv_at hl 0 rfl) ?_
      refine gX6_2 hx hb htA hown hK hP dX6_metalNumber_117 ?_
      refine sy_cv (rest := []) C hK hN hP (m2_many l D cA ad τ ρ π γ 0 (by decide)) (5) 4 rfl rfl kw_247 kw_248 kw_249 kw_81 kw_250 hd_X2_many ⟨Nat.le_of_ble_eq_true rfl, Nat.le_of_ble_eq_true rfl⟩ rfl rfl rfl hl.1 rfl (Nat.le_of_ble_eq_true rfl) dX6_metalNumber_120 ⟨Nat.zero_le _, Nat.zero_le _⟩ ?_
      have e9 : f2_many γ 0 = f6_metalNumber τ ρ π γ a1 := by unfold f6_metalNumber; (try rw [if_neg c_1]); (try rw [if_neg c_2]); (try rw [if_pos c_3])
      exact sy_ret hx hb hr hlk e9 dX6_metalNumber_123
    by_cases c_4 : a1 = 2
    · refine lv_tableIn (tgt := 124) hx hb dX6_metalNumber_29 (by rw [c_4]; decide) (by rw [c_4]; decide) (by rw [c_4]; rfl) (by decide) ?_
      refine lv_aload_n hx hb dX6_metalNumber_124 rfl (lv_at hl 0 rfl) ?_
      refine gX6_3 hx hb htA hown hK hP dX6_metalNumber_125 ?_
      refine sy_cv (rest := []) C hK hN hP (m2_many l D cA ad τ ρ π γ 1 (by decide)) (6) 4 rfl rfl kw_247 kw_248 kw_249 kw_81 kw_250 hd_X2_many ⟨Nat.le_of_ble_eq_true rfl, Nat.le_of_ble_eq_true rfl⟩ rfl rfl rfl hl.1 rfl (Nat.le_of_ble_eq_true rfl) dX6_metalNumber_128 ⟨Nat.zero_le _, Nat.zero_le _⟩ ?_
      have e9 : f2_many γ 1 = f6_metalNumber τ ρ π γ a1 := by unfold f6_metalNumber; (try rw [if_neg c_1]); (try rw [if_neg c_2]); (try rw [if_neg c_3]); (try rw [if_pos c_4])
      exact sy_ret hx hb hr hlk e9 dX6_metalNumber_131
    by_cases c_5 : a1 = 3
    · refine lv_tableIn (tgt := 132) hx hb dX6_metalNumber_29 (by rw [c_5]; decide) (by rw [c_5]; decide) (by rw [c_5]; rfl) (by decide) ?_
      refine lv_aload_n hx hb dX6_metalNumber_132 rfl (lv_at hl 0 rfl) ?_
      refine gX6_3 hx hb htA hown hK hP dX6_metalNumber_133 ?_
      refine lv_aload_n hx hb dX6_metalNumber_136 rfl (lv_at hl 0 rfl) ?_
      refine gX6_5 hx hb htA hown hK hP dX6_metalNumber_137 ?_
      refine sy_cv (rest := []) C hK hN hP (m2_sizeByArea l D cA ad τ ρ π γ 1 (by decide)) (6) 4 rfl rfl kw_386 kw_387 kw_388 kw_81 kw_389 hd_X2_sizeByArea ⟨Nat.le_of_ble_eq_true rfl, Nat.le_of_ble_eq_true rfl⟩ rfl rfl rfl hl.1 rfl (Nat.le_of_ble_eq_true rfl) dX6_metalNumber_140 ⟨Nat.zero_le _, Nat.zero_le _⟩ ?_
      have e9 : f2_sizeByArea τ π γ 1 = f6_metalNumber τ ρ π γ a1 := by unfold f6_metalNumber; (try rw [if_neg c_1]); (try rw [if_neg c_2]); (try rw [if_neg c_3]); (try rw [if_neg c_4]); (try rw [if_pos c_5])
      exact sy_ret hx hb hr hlk e9 dX6_metalNumber_143
    by_cases c_6 : a1 = 4
    · refine lv_tableIn (tgt := 144) hx hb dX6_metalNumber_29 (by rw [c_6]; decide) (by rw [c_6]; decide) (by rw [c_6]; rfl) (by decide) ?_
      refine lv_aload_n hx hb dX6_metalNumber_144 rfl (lv_at hl 0 rfl) ?_
      refine sy_cv (rest := []) C hK hN hP (m6_sizeByLines l D cA ad τ ρ π γ) (4) 8 rfl rfl kw_391 kw_392 kw_393 kw_29 kw_394 hd_X6_sizeByLines ⟨Nat.le_of_ble_eq_true rfl, Nat.le_of_ble_eq_true rfl⟩ rfl rfl rfl hl.1 rfl (Nat.le_of_ble_eq_true rfl) dX6_metalNumber_145 ⟨Nat.zero_le _, Nat.zero_le _⟩ ?_
      have e9 : f6_sizeByLines τ ρ π = f6_metalNumber τ ρ π γ a1 := by unfold f6_metalNumber; (try rw [if_neg c_1]); (try rw [if_neg c_2]); (try rw [if_neg c_3]); (try rw [if_neg c_4]); (try rw [if_neg c_5]); (try rw [if_pos c_6])
      exact sy_ret hx hb hr hlk e9 dX6_metalNumber_148
    by_cases c_7 : a1 = 5
    · refine lv_tableIn (tgt := 149) hx hb dX6_metalNumber_29 (by rw [c_7]; decide) (by rw [c_7]; decide) (by rw [c_7]; rfl) (by decide) ?_
      refine lv_aload_n hx hb dX6_metalNumber_149 rfl (lv_at hl 0 rfl) ?_
      refine sy_cv (rest := []) C hK hN hP (m6_sizeByChart l D cA ad τ ρ π γ) (4) 8 rfl rfl kw_416 kw_417 kw_418 kw_29 kw_419 hd_X6_sizeByChart ⟨Nat.le_of_ble_eq_true rfl, Nat.le_of_ble_eq_true rfl⟩ rfl rfl rfl hl.1 rfl (Nat.le_of_ble_eq_true rfl) dX6_metalNumber_150 ⟨Nat.zero_le _, Nat.zero_le _⟩ ?_
      have e9 : f6_sizeByChart γ = f6_metalNumber τ ρ π γ a1 := by unfold f6_metalNumber; (try rw [if_neg c_1]); (try rw [if_neg c_2]); (try rw [if_neg c_3]); (try rw [if_neg c_4]); (try rw [if_neg c_5]); (try rw [if_neg c_6]); (try rw [if_pos c_7])
      exact sy_ret hx hb hr hlk e9 dX6_metalNumber_153
    by_cases c_8 : a1 = 6
    · refine lv_tableIn (tgt := 154) hx hb dX6_metalNumber_29 (by rw [c_8]; decide) (by rw [c_8]; decide) (by rw [c_8]; rfl) (by decide) ?_
      refine lv_aload_n hx hb dX6_metalNumber_154 rfl (lv_at hl 0 rfl) ?_
      refine gX6_2 hx hb htA hown hK hP dX6_metalNumber_155 ?_
      refine lv_aload_n hx hb dX6_metalNumber_158 rfl (lv_at hl 0 rfl) ?_
      refine gX6_5 hx hb htA hown hK hP dX6_metalNumber_159 ?_
      refine sy_cv (rest := []) C hK hN hP (m2_sizeByArea l D cA ad τ ρ π γ 0 (by decide)) (5) 4 rfl rfl kw_386 kw_387 kw_388 kw_81 kw_389 hd_X2_sizeByArea ⟨Nat.le_of_ble_eq_true rfl, Nat.le_of_ble_eq_true rfl⟩ rfl rfl rfl hl.1 rfl (Nat.le_of_ble_eq_true rfl) dX6_metalNumber_162 ⟨Nat.zero_le _, Nat.zero_le _⟩ ?_
      refine lv_aload_n hx hb dX6_metalNumber_165 rfl (lv_at hl 0 rfl) ?_
      refine gX6_3 hx hb htA hown hK hP dX6_metalNumber_166 ?_
      refine lv_aload_n hx hb dX6_metalNumber_169 rfl (lv_at hl 0 rfl) ?_
      refine gX6_5 hx hb htA hown hK hP dX6_metalNumber_170 ?_
      refine sy_cv (rest := [.int (f2_sizeByArea τ π γ 0)]) C hK hN hP (m2_sizeByArea l D cA ad τ ρ π γ 1 (by decide)) (6) 4 rfl rfl kw_386 kw_387 kw_388 kw_81 kw_389 hd_X2_sizeByArea ⟨Nat.le_of_ble_eq_true rfl, Nat.le_of_ble_eq_true rfl⟩ rfl rfl rfl hl.1 rfl (Nat.le_of_ble_eq_true rfl) dX6_metalNumber_173 ⟨Nat.zero_le _, Nat.zero_le _⟩ ?_
      refine lv_isub hx hb dX6_metalNumber_176 ?_
      have e9 : (f2_sizeByArea τ π γ 0) - (f2_sizeByArea τ π γ 1) = f6_metalNumber τ ρ π γ a1 := by unfold f6_metalNumber; (try rw [if_neg c_1]); (try rw [if_neg c_2]); (try rw [if_neg c_3]); (try rw [if_neg c_4]); (try rw [if_neg c_5]); (try rw [if_neg c_6]); (try rw [if_neg c_7]); (try rw [if_pos c_8])
      exact sy_ret hx hb hr hlk e9 dX6_metalNumber_177
    by_cases c_9 : a1 = 7
    · refine lv_tableIn (tgt := 178) hx hb dX6_metalNumber_29 (by rw [c_9]; decide) (by rw [c_9]; decide) (by rw [c_9]; rfl) (by decide) ?_
      refine lv_aload_n hx hb dX6_metalNumber_178 rfl (lv_at hl 0 rfl) ?_
      refine sy_cv (rest := []) C hK hN hP (m6_junctions l D cA ad τ ρ π γ) (4) 8 rfl rfl kw_420 kw_421 kw_422 kw_29 kw_423 hd_X6_junctions ⟨Nat.le_of_ble_eq_true rfl, Nat.le_of_ble_eq_true rfl⟩ rfl rfl rfl hl.1 rfl (Nat.le_of_ble_eq_true rfl) dX6_metalNumber_179 ⟨Nat.zero_le _, Nat.zero_le _⟩ ?_
      have e9 : f6_junctions τ π = f6_metalNumber τ ρ π γ a1 := by unfold f6_metalNumber; (try rw [if_neg c_1]); (try rw [if_neg c_2]); (try rw [if_neg c_3]); (try rw [if_neg c_4]); (try rw [if_neg c_5]); (try rw [if_neg c_6]); (try rw [if_neg c_7]); (try rw [if_neg c_8]); (try rw [if_pos c_9])
      exact sy_ret hx hb hr hlk e9 dX6_metalNumber_182
    by_cases c_10 : a1 = 8
    · refine lv_tableIn (tgt := 183) hx hb dX6_metalNumber_29 (by rw [c_10]; decide) (by rw [c_10]; decide) (by rw [c_10]; rfl) (by decide) ?_
      refine lv_aload_n hx hb dX6_metalNumber_183 rfl (lv_at hl 0 rfl) ?_
      refine sy_cv (rest := []) C hK hN hP (m6_strength l D cA ad τ ρ π γ) (4) 8 rfl rfl kw_443 kw_444 kw_445 kw_29 kw_446 hd_X6_strength ⟨Nat.le_of_ble_eq_true rfl, Nat.le_of_ble_eq_true rfl⟩ rfl rfl rfl hl.1 rfl (Nat.le_of_ble_eq_true rfl) dX6_metalNumber_184 ⟨Nat.zero_le _, Nat.zero_le _⟩ ?_
      have e9 : f6_strength τ ρ π = f6_metalNumber τ ρ π γ a1 := by unfold f6_metalNumber; (try rw [if_neg c_1]); (try rw [if_neg c_2]); (try rw [if_neg c_3]); (try rw [if_neg c_4]); (try rw [if_neg c_5]); (try rw [if_neg c_6]); (try rw [if_neg c_7]); (try rw [if_neg c_8]); (try rw [if_neg c_9]); (try rw [if_pos c_10])
      exact sy_ret hx hb hr hlk e9 dX6_metalNumber_187
    by_cases c_11 : a1 = 9
    · refine lv_tableIn (tgt := 188) hx hb dX6_metalNumber_29 (by rw [c_11]; decide) (by rw [c_11]; decide) (by rw [c_11]; rfl) (by decide) ?_
      refine lv_aload_n hx hb dX6_metalNumber_188 rfl (lv_at hl 0 rfl) ?_
      refine sy_cv (rest := []) C hK hN hP (m6_allCuts l D cA ad τ ρ π γ) (4) 8 rfl rfl kw_395 kw_396 kw_397 kw_29 kw_398 hd_X6_allCuts ⟨Nat.le_of_ble_eq_true rfl, Nat.le_of_ble_eq_true rfl⟩ rfl rfl rfl hl.1 rfl (Nat.le_of_ble_eq_true rfl) dX6_metalNumber_189 ⟨Nat.zero_le _, Nat.zero_le _⟩ ?_
      have e9 : f6_allCuts τ ρ π = f6_metalNumber τ ρ π γ a1 := by unfold f6_metalNumber; (try rw [if_neg c_1]); (try rw [if_neg c_2]); (try rw [if_neg c_3]); (try rw [if_neg c_4]); (try rw [if_neg c_5]); (try rw [if_neg c_6]); (try rw [if_neg c_7]); (try rw [if_neg c_8]); (try rw [if_neg c_9]); (try rw [if_neg c_10]); (try rw [if_pos c_11])
      exact sy_ret hx hb hr hlk e9 dX6_metalNumber_192
    by_cases c_12 : a1 = 10
    · refine lv_tableIn (tgt := 193) hx hb dX6_metalNumber_29 (by rw [c_12]; decide) (by rw [c_12]; decide) (by rw [c_12]; rfl) (by decide) ?_
      refine lv_aload_n hx hb dX6_metalNumber_193 rfl (lv_at hl 0 rfl) ?_
      refine gX6_5 hx hb htA hown hK hP dX6_metalNumber_194 ?_
      refine sy_cv (rest := []) C hK hN hP (m3_particles l D cA ad τ ρ π γ) (3) 5 rfl rfl kw_447 kw_317 kw_318 kw_24 kw_319 hd_X3_particles ⟨Nat.le_of_ble_eq_true rfl, Nat.le_of_ble_eq_true rfl⟩ rfl rfl rfl hl.1 rfl (Nat.le_of_ble_eq_true rfl) dX6_metalNumber_197 ⟨Nat.zero_le _, Nat.zero_le _⟩ ?_
      have e9 : f3_particles τ π = f6_metalNumber τ ρ π γ a1 := by unfold f6_metalNumber; (try rw [if_neg c_1]); (try rw [if_neg c_2]); (try rw [if_neg c_3]); (try rw [if_neg c_4]); (try rw [if_neg c_5]); (try rw [if_neg c_6]); (try rw [if_neg c_7]); (try rw [if_neg c_8]); (try rw [if_neg c_9]); (try rw [if_neg c_10]); (try rw [if_neg c_11]); (try rw [if_pos c_12])
      exact sy_ret hx hb hr hlk e9 dX6_metalNumber_200
    by_cases c_13 : a1 = 11
    · refine lv_tableIn (tgt := 201) hx hb dX6_metalNumber_29 (by rw [c_13]; decide) (by rw [c_13]; decide) (by rw [c_13]; rfl) (by decide) ?_
      refine lv_aload_n hx hb dX6_metalNumber_201 rfl (lv_at hl 0 rfl) ?_
      refine gX6_5 hx hb htA hown hK hP dX6_metalNumber_202 ?_
      refine sy_cv (rest := []) C hK hN hP (m3_hardCells l D cA ad τ ρ π γ) (3) 5 rfl rfl kw_448 kw_449 kw_450 kw_24 kw_451 hd_X3_hardCells ⟨Nat.le_of_ble_eq_true rfl, Nat.le_of_ble_eq_true rfl⟩ rfl rfl rfl hl.1 rfl (Nat.le_of_ble_eq_true rfl) dX6_metalNumber_205 ⟨Nat.zero_le _, Nat.zero_le _⟩ ?_
      have e9 : f3_hardCells τ π = f6_metalNumber τ ρ π γ a1 := by unfold f6_metalNumber; (try rw [if_neg c_1]); (try rw [if_neg c_2]); (try rw [if_neg c_3]); (try rw [if_neg c_4]); (try rw [if_neg c_5]); (try rw [if_neg c_6]); (try rw [if_neg c_7]); (try rw [if_neg c_8]); (try rw [if_neg c_9]); (try rw [if_neg c_10]); (try rw [if_neg c_11]); (try rw [if_neg c_12]); (try rw [if_pos c_13])
      exact sy_ret hx hb hr hlk e9 dX6_metalNumber_208
    by_cases c_14 : a1 = 12
    · refine lv_tableIn (tgt := 209) hx hb dX6_metalNumber_29 (by rw [c_14]; decide) (by rw [c_14]; decide) (by rw [c_14]; rfl) (by decide) ?_
      refine lv_aload_n hx hb dX6_metalNumber_209 rfl (lv_at hl 0 rfl) ?_
      refine gX6_5 hx hb htA hown hK hP dX6_metalNumber_210 ?_
      refine sy_cv (rest := []) C hK hN hP (m3_allWork l D cA ad τ ρ π γ) (3) 5 rfl rfl kw_452 kw_383 kw_384 kw_24 kw_385 hd_X3_allWork ⟨Nat.le_of_ble_eq_true rfl, Nat.le_of_ble_eq_true rfl⟩ rfl rfl rfl hl.1 rfl (Nat.le_of_ble_eq_true rfl) dX6_metalNumber_213 ⟨Nat.zero_le _, Nat.zero_le _⟩ ?_
      have e9 : f3_allWork τ π = f6_metalNumber τ ρ π γ a1 := by unfold f6_metalNumber; (try rw [if_neg c_1]); (try rw [if_neg c_2]); (try rw [if_neg c_3]); (try rw [if_neg c_4]); (try rw [if_neg c_5]); (try rw [if_neg c_6]); (try rw [if_neg c_7]); (try rw [if_neg c_8]); (try rw [if_neg c_9]); (try rw [if_neg c_10]); (try rw [if_neg c_11]); (try rw [if_neg c_12]); (try rw [if_neg c_13]); (try rw [if_pos c_14])
      exact sy_ret hx hb hr hlk e9 dX6_metalNumber_216
    by_cases c_15 : a1 = 13
    · refine lv_tableIn (tgt := 217) hx hb dX6_metalNumber_29 (by rw [c_15]; decide) (by rw [c_15]; decide) (by rw [c_15]; rfl) (by decide) ?_
      refine lv_aload_n hx hb dX6_metalNumber_217 rfl (lv_at hl 0 rfl) ?_
      refine gX6_0 hx hb htA hown hK hP dX6_metalNumber_218 ?_
      refine sy_cv (rest := []) C hK hN hP (m5_cells l D cA ad τ ρ π γ) (1) 7 rfl rfl kw_375 kw_184 kw_185 kw_16 kw_186 hd_X5_cells ⟨Nat.le_of_ble_eq_true rfl, Nat.le_of_ble_eq_true rfl⟩ rfl rfl rfl hl.1 rfl (Nat.le_of_ble_eq_true rfl) dX6_metalNumber_221 ⟨Nat.zero_le _, Nat.zero_le _⟩ ?_
      have e9 : f5_cells τ = f6_metalNumber τ ρ π γ a1 := by unfold f6_metalNumber; (try rw [if_neg c_1]); (try rw [if_neg c_2]); (try rw [if_neg c_3]); (try rw [if_neg c_4]); (try rw [if_neg c_5]); (try rw [if_neg c_6]); (try rw [if_neg c_7]); (try rw [if_neg c_8]); (try rw [if_neg c_9]); (try rw [if_neg c_10]); (try rw [if_neg c_11]); (try rw [if_neg c_12]); (try rw [if_neg c_13]); (try rw [if_neg c_14]); (try rw [if_pos c_15])
      exact sy_ret hx hb hr hlk e9 dX6_metalNumber_224
    by_cases c_16 : a1 = 14
    · refine lv_tableIn (tgt := 225) hx hb dX6_metalNumber_29 (by rw [c_16]; decide) (by rw [c_16]; decide) (by rw [c_16]; rfl) (by decide) ?_
      refine lv_aload_n hx hb dX6_metalNumber_225 rfl (lv_at hl 0 rfl) ?_
      refine gX6_5 hx hb htA hown hK hP dX6_metalNumber_226 ?_
      refine sy_cv (rest := []) C hK hN hP (m3_drawnEver l D cA ad τ ρ π γ) (3) 5 rfl rfl kw_376 kw_147 kw_148 kw_24 kw_149 hd_X3_drawnEver ⟨Nat.le_of_ble_eq_true rfl, Nat.le_of_ble_eq_true rfl⟩ rfl rfl rfl hl.1 rfl (Nat.le_of_ble_eq_true rfl) dX6_metalNumber_229 ⟨Nat.zero_le _, Nat.zero_le _⟩ ?_
      have e9 : f3_drawnEver π = f6_metalNumber τ ρ π γ a1 := by unfold f6_metalNumber; (try rw [if_neg c_1]); (try rw [if_neg c_2]); (try rw [if_neg c_3]); (try rw [if_neg c_4]); (try rw [if_neg c_5]); (try rw [if_neg c_6]); (try rw [if_neg c_7]); (try rw [if_neg c_8]); (try rw [if_neg c_9]); (try rw [if_neg c_10]); (try rw [if_neg c_11]); (try rw [if_neg c_12]); (try rw [if_neg c_13]); (try rw [if_neg c_14]); (try rw [if_neg c_15]); (try rw [if_pos c_16])
      exact sy_ret hx hb hr hlk e9 dX6_metalNumber_232
    by_cases c_17 : a1 = 15
    · refine lv_tableIn (tgt := 233) hx hb dX6_metalNumber_29 (by rw [c_17]; decide) (by rw [c_17]; decide) (by rw [c_17]; rfl) (by decide) ?_
      refine lv_aload_n hx hb dX6_metalNumber_233 rfl (lv_at hl 0 rfl) ?_
      refine gX6_2 hx hb htA hown hK hP dX6_metalNumber_234 ?_
      refine sy_cv (rest := []) C hK hN hP (m2_greatestSize l D cA ad τ ρ π γ 0 (by decide)) (5) 4 rfl rfl kw_453 kw_454 kw_455 kw_81 kw_456 hd_X2_greatestSize ⟨Nat.le_of_ble_eq_true rfl, Nat.le_of_ble_eq_true rfl⟩ rfl rfl rfl hl.1 rfl (Nat.le_of_ble_eq_true rfl) dX6_metalNumber_237 ⟨Nat.zero_le _, Nat.zero_le _⟩ ?_
      have e9 : f2_greatestSize γ 0 = f6_metalNumber τ ρ π γ a1 := by unfold f6_metalNumber; (try rw [if_neg c_1]); (try rw [if_neg c_2]); (try rw [if_neg c_3]); (try rw [if_neg c_4]); (try rw [if_neg c_5]); (try rw [if_neg c_6]); (try rw [if_neg c_7]); (try rw [if_neg c_8]); (try rw [if_neg c_9]); (try rw [if_neg c_10]); (try rw [if_neg c_11]); (try rw [if_neg c_12]); (try rw [if_neg c_13]); (try rw [if_neg c_14]); (try rw [if_neg c_15]); (try rw [if_neg c_16]); (try rw [if_pos c_17])
      exact sy_ret hx hb hr hlk e9 dX6_metalNumber_240
    have nc_2 : ¬ a1.toInt = 0 := ne_toInt c_2
    have nc_3 : ¬ a1.toInt = 1 := ne_toInt c_3
    have nc_4 : ¬ a1.toInt = 2 := ne_toInt c_4
    have nc_5 : ¬ a1.toInt = 3 := ne_toInt c_5
    have nc_6 : ¬ a1.toInt = 4 := ne_toInt c_6
    have nc_7 : ¬ a1.toInt = 5 := ne_toInt c_7
    have nc_8 : ¬ a1.toInt = 6 := ne_toInt c_8
    have nc_9 : ¬ a1.toInt = 7 := ne_toInt c_9
    have nc_10 : ¬ a1.toInt = 8 := ne_toInt c_10
    have nc_11 : ¬ a1.toInt = 9 := ne_toInt c_11
    have nc_12 : ¬ a1.toInt = 10 := ne_toInt c_12
    have nc_13 : ¬ a1.toInt = 11 := ne_toInt c_13
    have nc_14 : ¬ a1.toInt = 12 := ne_toInt c_14
    have nc_15 : ¬ a1.toInt = 13 := ne_toInt c_15
    have nc_16 : ¬ a1.toInt = 14 := ne_toInt c_16
    have nc_17 : ¬ a1.toInt = 15 := ne_toInt c_17
    refine lv_tableOut (tgt := 241) hx hb dX6_metalNumber_29 (by omega) (by decide) ?_
    refine lv_iconst (v := 0) hx hb dX6_metalNumber_241 (by decide) ?_
    have e9 : 0 = f6_metalNumber τ ρ π γ a1 := by unfold f6_metalNumber; (try rw [if_neg c_1]); (try rw [if_neg c_2]); (try rw [if_neg c_3]); (try rw [if_neg c_4]); (try rw [if_neg c_5]); (try rw [if_neg c_6]); (try rw [if_neg c_7]); (try rw [if_neg c_8]); (try rw [if_neg c_9]); (try rw [if_neg c_10]); (try rw [if_neg c_11]); (try rw [if_neg c_12]); (try rw [if_neg c_13]); (try rw [if_neg c_14]); (try rw [if_neg c_15]); (try rw [if_neg c_16]); (try rw [if_neg c_17])
    exact sy_ret hx hb hr hlk e9 dX6_metalNumber_242
  · refine lv_iload_n hx hb dX6_metalNumber_10 rfl (lv_at hl 1 rfl) ?_
    refine lv_bipush (v := 14) hx hb dX6_metalNumber_11 (by decide) ?_
    refine lv_icmp_ne (tgt := 26) hx hb dX6_metalNumber_13 (by decide) (fun c_18 => ?_) (fun c_18 => ?_)
    · refine lv_iconst (v := 0) hx hb dX6_metalNumber_26 (by decide) ?_
      have e9 : 0 = f6_metalNumber τ ρ π γ a1 := by unfold f6_metalNumber; (try rw [if_pos c_1]); (try rw [if_neg c_18])
      exact sy_ret hx hb hr hlk e9 dX6_metalNumber_27
    · refine lv_aload_n hx hb dX6_metalNumber_16 rfl (lv_at hl 0 rfl) ?_
      refine gX6_5 hx hb htA hown hK hP dX6_metalNumber_17 ?_
      refine sy_cv (rest := []) C hK hN hP (m3_drawnEver l D cA ad τ ρ π γ) (3) 5 rfl rfl kw_376 kw_147 kw_148 kw_24 kw_149 hd_X3_drawnEver ⟨Nat.le_of_ble_eq_true rfl, Nat.le_of_ble_eq_true rfl⟩ rfl rfl rfl hl.1 rfl (Nat.le_of_ble_eq_true rfl) dX6_metalNumber_20 ⟨Nat.zero_le _, Nat.zero_le _⟩ ?_
      refine lv_goto (tgt := 27) hx hb dX6_metalNumber_23 (by decide) ?_
      have e9 : f3_drawnEver π = f6_metalNumber τ ρ π γ a1 := by unfold f6_metalNumber; (try rw [if_pos c_1]); (try rw [if_pos c_18])
      exact sy_ret hx hb hr hlk e9 dX6_metalNumber_27
/-- X6_othersBeside -/
theorem hd_X6_othersBeside : yX6_othersBeside.cls = yX6_othersBeside.cls ∧ yX6_othersBeside.cls ≠ "java/lang/invoke/MethodHandle" ∧ yX6_othersBeside.cls ≠ "java/lang/invoke/VarHandle" ∧ (parseMethodDescriptor yX6_othersBeside.desc).map (fun d => d.parameters.length) = some 1 := by decide +kernel
def f6_othersBeside_L4 (τ : Sg) (π : Sg) (x1 : Int32) : Nat → Int32 → Int32 → Int32 × Int32
  | 0, x2, x3 => (x2, x3)
  | n + 1, x2, x3 => (if (f5_besideMany τ x1) ≤ x3 then (x2, x3) else (if (f3_markAt π (f5_beside τ x1 x3)) = 0 then (f6_othersBeside_L4 τ π x1 n x2 (x3 + 1)) else (if (f3_markAt π (f5_beside τ x1 x3)) = (f3_markAt π x1) then (f6_othersBeside_L4 τ π x1 n x2 (x3 + 1)) else (f6_othersBeside_L4 τ π x1 n (x2 + 1) (x3 + 1)))))
theorem f6_othersBeside_L4_s (τ : Sg) (π : Sg) (x1 : Int32) (n : Nat) (x2 : Int32) (x3 : Int32) : f6_othersBeside_L4 τ π x1 (n + 1) x2 x3 = (if (f5_besideMany τ x1) ≤ x3 then (x2, x3) else (if (f3_markAt π (f5_beside τ x1 x3)) = 0 then (f6_othersBeside_L4 τ π x1 n x2 (x3 + 1)) else (if (f3_markAt π (f5_beside τ x1 x3)) = (f3_markAt π x1) then (f6_othersBeside_L4 τ π x1 n x2 (x3 + 1)) else (f6_othersBeside_L4 τ π x1 n (x2 + 1) (x3 + 1))))) := rfl
def f6_othersBeside (τ : Sg) (π : Sg) (a1 : Int32) : Int32 := (f6_othersBeside_L4 τ π a1 8589934592 0 0).1
set_option maxHeartbeats 400000 in
set_option maxRecDepth 100000 in
theorem m6_othersBeside (l : Launch) (D : va_G) (cA : ClassId) (ad : Nat → Nat) (τ ρ π γ : Sg) (hT : Ok τ) (a1 : Int32) : Met l yX6_othersBeside (wM yX6_othersBeside cX6_othersBeside 5 (some .int)) ({ frames := 1, cells := 0, slots := 0, locals := 22 }) (va_Pc [.ref (ad 4), .int a1] (pS D cA ad τ ρ π γ)) (QcRead (f6_othersBeside τ π a1)) 0 0 noA := by
  refine sy_of (by decide) (Nat.le_of_ble_eq_true rfl) ?_
  intro p e s m below meth c ls C hr hlk hK hN hP hl
  obtain ⟨hx, hb, hml, hown, hts⟩ := id C
  have htA : ∀ w ∈ wA, w.before ([.ref (ad 4), .int a1] : List Value).toArray s = true := fun w h => hts w (List.mem_cons_of_mem _ h)
  have hl : lv_has ls 5 [(0, .ref (ad 4)), (1, .int a1)] := hl
  refine lv_iconst (v := 0) hx hb dX6_othersBeside_0 (by decide) ?_
  refine lv_istore_n (lv' := [(2, .int 0), (0, .ref (ad 4)), (1, .int a1)]) hx hb dX6_othersBeside_1 rfl hl (by decide) rfl (fun ls hl => ?_)
  refine lv_iconst (v := 0) hx hb dX6_othersBeside_2 (by decide) ?_
  refine lv_istore_n (lv' := [(3, .int 0), (2, .int 0), (0, .ref (ad 4)), (1, .int a1)]) hx hb dX6_othersBeside_3 rfl hl (by decide) rfl (fun ls hl => ?_)
  have hL4 : ∀ (x1 : Int32) (n : Nat) (x2 : Int32) (x3 : Int32), nm x3 (f5_besideMany τ x1) < n → ∀ ls : Array Slot, lv_has ls 5 [(0, .ref (ad 4)), (1, .int x1), (2, .int x2), (3, .int x3)] → (∀ ls : Array Slot, lv_has ls 5 [(0, .ref (ad 4)), (1, .int x1), (2, .int ((f6_othersBeside_L4 τ π x1 n x2 x3).1)), (3, .int ((f6_othersBeside_L4 τ π x1 n x2 x3).2))] → W p l e ({ frames := 1, cells := 0, slots := 0, locals := 22 }) s m ([.ref (ad 4), .int a1] : List Value).toArray below meth c s.heap [] 0 0 (MQ below (QcRead (f6_othersBeside τ π a1)) ([.ref (ad 4), .int a1] : List Value).toArray s 0 0 noA) (F0 m 61 ls [])) → W p l e ({ frames := 1, cells := 0, slots := 0, locals := 22 }) s m ([.ref (ad 4), .int a1] : List Value).toArray below meth c s.heap [] 0 0 (MQ below (QcRead (f6_othersBeside τ π a1)) ([.ref (ad 4), .int a1] : List Value).toArray s 0 0 noA) (F0 m 4 ls []) := by
    intro x1 n
    induction n with
    | zero =>
      intro x2 x3 hn
      exact absurd hn (Nat.not_lt_zero _)
    | succ n ih =>
      intro x2 x3 hn ls hl kk
      refine lv_iload_n hx hb dX6_othersBeside_4 rfl (lv_at hl 3 rfl) ?_
      refine lv_aload_n hx hb dX6_othersBeside_5 rfl (lv_at hl 0 rfl) ?_
      refine gX6_0 hx hb htA hown hK hP dX6_othersBeside_6 ?_
      refine lv_iload_n hx hb dX6_othersBeside_9 rfl (lv_at hl 1 rfl) ?_
      refine sy_cv (rest := [.int x3]) C hK hN hP (m5_besideMany l D cA ad τ ρ π γ hT x1) (1) 7 rfl rfl kw_284 kw_220 kw_221 kw_16 kw_222 hd_X5_besideMany ⟨Nat.le_of_ble_eq_true rfl, Nat.le_of_ble_eq_true rfl⟩ rfl rfl rfl hl.1 rfl (Nat.le_of_ble_eq_true rfl) dX6_othersBeside_10 ⟨Nat.zero_le _, Nat.zero_le _⟩ ?_
      refine lv_icmp_ge (tgt := 61) hx hb dX6_othersBeside_13 (by decide) (fun c_1 => ?_) (fun c_1 => ?_)
      · have e9 : f6_othersBeside_L4 τ π x1 (n + 1) x2 x3 = (x2, x3) := by rw [f6_othersBeside_L4_s]; (try rw [if_pos c_1])
        rw [e9] at kk
        exact kk ls (lv_sub hl [0, 1, 2, 3] rfl)
      · refine lv_aload_n hx hb dX6_othersBeside_16 rfl (lv_at hl 0 rfl) ?_
        refine gX6_5 hx hb htA hown hK hP dX6_othersBeside_17 ?_
        refine lv_aload_n hx hb dX6_othersBeside_20 rfl (lv_at hl 0 rfl) ?_
        refine gX6_0 hx hb htA hown hK hP dX6_othersBeside_21 ?_
        refine lv_iload_n hx hb dX6_othersBeside_24 rfl (lv_at hl 1 rfl) ?_
        refine lv_iload_n hx hb dX6_othersBeside_25 rfl (lv_at hl 3 rfl) ?_
        refine sy_cv (rest := [.ref (ad 3)]) C hK hN hP (m5_beside l D cA ad τ ρ π γ hT x1 x3) (1) 7 rfl rfl kw_285 kw_224 kw_225 kw_16 kw_226 hd_X5_beside ⟨Nat.le_of_ble_eq_true rfl, Nat.le_of_ble_eq_true rfl⟩ rfl rfl rfl hl.1 rfl (Nat.le_of_ble_eq_true rfl) dX6_othersBeside_26 ⟨Nat.zero_le _, Nat.zero_le _⟩ ?_
        refine sy_cv (rest := []) C hK hN hP (m3_markAt l D cA ad τ ρ π γ (f5_beside τ x1 x3)) (3) 5 rfl rfl kw_271 kw_206 kw_207 kw_24 kw_208 hd_X3_markAt ⟨Nat.le_of_ble_eq_true rfl, Nat.le_of_ble_eq_true rfl⟩ rfl rfl rfl hl.1 rfl (Nat.le_of_ble_eq_true rfl) dX6_othersBeside_29 ⟨Nat.zero_le _, Nat.zero_le _⟩ ?_
        refine lv_istore (lv' := [(4, .int (f3_markAt π (f5_beside τ x1 x3))), (0, .ref (ad 4)), (1, .int x1), (2, .int x2), (3, .int x3)]) hx hb dX6_othersBeside_32 hl (by decide) rfl (fun ls hl => ?_)
        refine lv_iload hx hb dX6_othersBeside_34 (lv_at hl 0 rfl) ?_
        refine lv_if_eq (tgt := 55) hx hb dX6_othersBeside_36 (by decide) (fun c_2 => ?_) (fun c_2 => ?_)
        · refine lv_iinc (v := x3 + 1) (lv' := [(3, .int (x3 + 1)), (4, .int (f3_markAt π (f5_beside τ x1 x3))), (0, .ref (ad 4)), (1, .int x1), (2, .int x2)]) hx hb dX6_othersBeside_55 hl (k := 4) rfl (by rfl) (by decide) rfl (fun ls hl => ?_)
          refine lv_goto (tgt := 4) hx hb dX6_othersBeside_58 (by decide) ?_
          have e9 : f6_othersBeside_L4 τ π x1 (n + 1) x2 x3 = f6_othersBeside_L4 τ π x1 n x2 (x3 + 1) := by rw [f6_othersBeside_L4_s]; (try rw [if_neg c_1]); (try rw [if_pos c_2])
          rw [e9] at kk
          exact ih x2 (x3 + 1) (nm_dec (Int32.not_le.mp c_1) hn)  ls (lv_sub hl [2, 3, 4, 0] rfl) kk
        · refine lv_iload hx hb dX6_othersBeside_39 (lv_at hl 0 rfl) ?_
          refine lv_aload_n hx hb dX6_othersBeside_41 rfl (lv_at hl 1 rfl) ?_
          refine gX6_5 hx hb htA hown hK hP dX6_othersBeside_42 ?_
          refine lv_iload_n hx hb dX6_othersBeside_45 rfl (lv_at hl 2 rfl) ?_
          refine sy_cv (rest := [.int (f3_markAt π (f5_beside τ x1 x3))]) C hK hN hP (m3_markAt l D cA ad τ ρ π γ x1) (3) 5 rfl rfl kw_271 kw_206 kw_207 kw_24 kw_208 hd_X3_markAt ⟨Nat.le_of_ble_eq_true rfl, Nat.le_of_ble_eq_true rfl⟩ rfl rfl rfl hl.1 rfl (Nat.le_of_ble_eq_true rfl) dX6_othersBeside_46 ⟨Nat.zero_le _, Nat.zero_le _⟩ ?_
          refine lv_icmp_eq (tgt := 55) hx hb dX6_othersBeside_49 (by decide) (fun c_3 => ?_) (fun c_3 => ?_)
          · refine lv_iinc (v := x3 + 1) (lv' := [(3, .int (x3 + 1)), (4, .int (f3_markAt π (f5_beside τ x1 x3))), (0, .ref (ad 4)), (1, .int x1), (2, .int x2)]) hx hb dX6_othersBeside_55 hl (k := 4) rfl (by rfl) (by decide) rfl (fun ls hl => ?_)
            refine lv_goto (tgt := 4) hx hb dX6_othersBeside_58 (by decide) ?_
            have e9 : f6_othersBeside_L4 τ π x1 (n + 1) x2 x3 = f6_othersBeside_L4 τ π x1 n x2 (x3 + 1) := by rw [f6_othersBeside_L4_s]; (try rw [if_neg c_1]); (try rw [if_neg c_2]); (try rw [if_pos c_3])
            rw [e9] at kk
            exact ih x2 (x3 + 1) (nm_dec (Int32.not_le.mp c_1) hn)  ls (lv_sub hl [2, 3, 4, 0] rfl) kk
          · refine lv_iinc (v := x2 + 1) (lv' := [(2, .int (x2 + 1)), (4, .int (f3_markAt π (f5_beside τ x1 x3))), (0, .ref (ad 4)), (1, .int x1), (3, .int x3)]) hx hb dX6_othersBeside_52 hl (k := 3) rfl (by rfl) (by decide) rfl (fun ls hl => ?_)
            refine lv_iinc (v := x3 + 1) (lv' := [(3, .int (x3 + 1)), (2, .int (x2 + 1)), (4, .int (f3_markAt π (f5_beside τ x1 x3))), (0, .ref (ad 4)), (1, .int x1)]) hx hb dX6_othersBeside_55 hl (k := 4) rfl (by rfl) (by decide) rfl (fun ls hl => ?_)
            refine lv_goto (tgt := 4) hx hb dX6_othersBeside_58 (by decide) ?_
            have e9 : f6_othersBeside_L4 τ π x1 (n + 1) x2 x3 = f6_othersBeside_L4 τ π x1 n (x2 + 1) (x3 + 1) := by rw [f6_othersBeside_L4_s]; (try rw [if_neg c_1]); (try rw [if_neg c_2]); (try rw [if_neg c_3])
            rw [e9] at kk
            exact ih (x2 + 1) (x3 + 1) (nm_dec (Int32.not_le.mp c_1) hn)  ls (lv_sub hl [3, 4, 1, 0] rfl) kk
  refine hL4 a1 8589934592 0 0 (nm_lt _ _) ls (lv_sub hl [2, 3, 1, 0] rfl) (fun ls hl => ?_)
  refine lv_iload_n hx hb dX6_othersBeside_61 rfl (lv_at hl 2 rfl) ?_
  have e9 : (f6_othersBeside_L4 τ π a1 8589934592 0 0).1 = f6_othersBeside τ π a1 := rfl
  exact sy_ret hx hb hr hlk e9 dX6_othersBeside_62
/-- X6_cellNumber -/
theorem hd_X6_cellNumber : yX6_cellNumber.cls = yX6_cellNumber.cls ∧ yX6_cellNumber.cls ≠ "java/lang/invoke/MethodHandle" ∧ yX6_cellNumber.cls ≠ "java/lang/invoke/VarHandle" ∧ (parseMethodDescriptor yX6_cellNumber.desc).map (fun d => d.parameters.length) = some 2 := by decide +kernel
def f6_cellNumber (τ : Sg) (ρ : Sg) (π : Sg) (γ : Sg) (a1 : Int32) (a2 : Int32) : Int32 := (if a2 = 0 then f3_markAt π a1 else (if a2 = 1 then f3_workAt π a1 else (if a2 = 2 then f3_hardAt π a1 else (if a2 = 3 then f6_othersBeside τ π a1 else (if a2 = 4 then f2_at τ γ 0 a1 else (if a2 = 5 then f3_misfitAround τ ρ π a1 else 0))))))
set_option maxHeartbeats 400000 in
set_option maxRecDepth 100000 in
theorem m6_cellNumber (l : Launch) (D : va_G) (cA : ClassId) (ad : Nat → Nat) (τ ρ π γ : Sg) (hT : Ok τ) (a1 : Int32) (a2 : Int32) : Met l yX6_cellNumber (wM yX6_cellNumber cX6_cellNumber 3 (some .int)) ({ frames := 2, cells := 0, slots := 0, locals := 46 }) (va_Pc [.ref (ad 4), .int a1, .int a2] (pS D cA ad τ ρ π γ)) (QcRead (f6_cellNumber τ ρ π γ a1 a2)) 0 0 noA := by
  refine sy_of (by decide) (Nat.le_of_ble_eq_true rfl) ?_
  intro p e s m below meth c ls C hr hlk hK hN hP hl
  obtain ⟨hx, hb, hml, hown, hts⟩ := id C
  have htA : ∀ w ∈ wA, w.before ([.ref (ad 4), .int a1, .int a2] : List Value).toArray s = true := fun w h => hts w (List.mem_cons_of_mem _ h)
  have hl : lv_has ls 3 [(0, .ref (ad 4)), (1, .int a1), (2, .int a2)] := hl
  refine lv_iload_n hx hb dX6_cellNumber_0 rfl (lv_at hl 2 rfl) ?_
  by_cases c_1 : a2 = 0
  · refine lv_tableIn (tgt := 40) hx hb dX6_cellNumber_1 (by rw [c_1]; decide) (by rw [c_1]; decide) (by rw [c_1]; rfl) (by decide) ?_
    refine lv_aload_n hx hb dX6_cellNumber_40 rfl (lv_at hl 0 rfl) ?_
    refine gX6_5 hx hb htA hown hK hP dX6_cellNumber_41 ?_
    refine lv_iload_n hx hb dX6_cellNumber_44 rfl (lv_at hl 1 rfl) ?_
    refine sy_cv (rest := []) C hK hN hP (m3_markAt l D cA ad τ ρ π γ a1) (3) 5 rfl rfl kw_271 kw_206 kw_207 kw_24 kw_208 hd_X3_markAt ⟨Nat.le_of_ble_eq_true rfl, Nat.le_of_ble_eq_true rfl⟩ rfl rfl rfl hl.1 rfl (Nat.le_of_ble_eq_true rfl) dX6_cellNumber_45 ⟨Nat.zero_le _, Nat.zero_le _⟩ ?_
    have e9 : f3_markAt π a1 = f6_cellNumber τ ρ π γ a1 a2 := by unfold f6_cellNumber; (try rw [if_pos c_1])
    exact sy_ret hx hb hr hlk e9 dX6_cellNumber_48
  by_cases c_2 : a2 = 1
  · refine lv_tableIn (tgt := 49) hx hb dX6_cellNumber_1 (by rw [c_2]; decide) (by rw [c_2]; decide) (by rw [c_2]; rfl) (by decide) ?_
    refine lv_aload_n hx hb dX6_cellNumber_49 rfl (lv_at hl 0 rfl) ?_
    refine gX6_5 hx hb htA hown hK hP dX6_cellNumber_50 ?_
    refine lv_iload_n hx hb dX6_cellNumber_53 rfl (lv_at hl 1 rfl) ?_
    refine sy_cv (rest := []) C hK hN hP (m3_workAt l D cA ad τ ρ π γ a1) (3) 5 rfl rfl kw_272 kw_273 kw_274 kw_24 kw_275 hd_X3_workAt ⟨Nat.le_of_ble_eq_true rfl, Nat.le_of_ble_eq_true rfl⟩ rfl rfl rfl hl.1 rfl (Nat.le_of_ble_eq_true rfl) dX6_cellNumber_54 ⟨Nat.zero_le _, Nat.zero_le _⟩ ?_
    have e9 : f3_workAt π a1 = f6_cellNumber τ ρ π γ a1 a2 := by unfold f6_cellNumber; (try rw [if_neg c_1]); (try rw [if_pos c_2])
    exact sy_ret hx hb hr hlk e9 dX6_cellNumber_57
  by_cases c_3 : a2 = 2
  · refine lv_tableIn (tgt := 58) hx hb dX6_cellNumber_1 (by rw [c_3]; decide) (by rw [c_3]; decide) (by rw [c_3]; rfl) (by decide) ?_
    refine lv_aload_n hx hb dX6_cellNumber_58 rfl (lv_at hl 0 rfl) ?_
    refine gX6_5 hx hb htA hown hK hP dX6_cellNumber_59 ?_
    refine lv_iload_n hx hb dX6_cellNumber_62 rfl (lv_at hl 1 rfl) ?_
    refine sy_cv (rest := []) C hK hN hP (m3_hardAt l D cA ad τ ρ π γ a1) (3) 5 rfl rfl kw_276 kw_277 kw_278 kw_24 kw_279 hd_X3_hardAt ⟨Nat.le_of_ble_eq_true rfl, Nat.le_of_ble_eq_true rfl⟩ rfl rfl rfl hl.1 rfl (Nat.le_of_ble_eq_true rfl) dX6_cellNumber_63 ⟨Nat.zero_le _, Nat.zero_le _⟩ ?_
    have e9 : f3_hardAt π a1 = f6_cellNumber τ ρ π γ a1 a2 := by unfold f6_cellNumber; (try rw [if_neg c_1]); (try rw [if_neg c_2]); (try rw [if_pos c_3])
    exact sy_ret hx hb hr hlk e9 dX6_cellNumber_66
  by_cases c_4 : a2 = 3
  · refine lv_tableIn (tgt := 67) hx hb dX6_cellNumber_1 (by rw [c_4]; decide) (by rw [c_4]; decide) (by rw [c_4]; rfl) (by decide) ?_
    refine lv_aload_n hx hb dX6_cellNumber_67 rfl (lv_at hl 0 rfl) ?_
    refine lv_iload_n hx hb dX6_cellNumber_68 rfl (lv_at hl 1 rfl) ?_
    refine sy_cv (rest := []) C hK hN hP (m6_othersBeside l D cA ad τ ρ π γ hT a1) (4) 8 rfl rfl kw_280 kw_281 kw_282 kw_29 kw_283 hd_X6_othersBeside ⟨Nat.le_of_ble_eq_true rfl, Nat.le_of_ble_eq_true rfl⟩ rfl rfl rfl hl.1 rfl (Nat.le_of_ble_eq_true rfl) dX6_cellNumber_69 ⟨Nat.zero_le _, Nat.zero_le _⟩ ?_
    have e9 : f6_othersBeside τ π a1 = f6_cellNumber τ ρ π γ a1 a2 := by unfold f6_cellNumber; (try rw [if_neg c_1]); (try rw [if_neg c_2]); (try rw [if_neg c_3]); (try rw [if_pos c_4])
    exact sy_ret hx hb hr hlk e9 dX6_cellNumber_72
  by_cases c_5 : a2 = 4
  · refine lv_tableIn (tgt := 73) hx hb dX6_cellNumber_1 (by rw [c_5]; decide) (by rw [c_5]; decide) (by rw [c_5]; rfl) (by decide) ?_
    refine lv_aload_n hx hb dX6_cellNumber_73 rfl (lv_at hl 0 rfl) ?_
    refine gX6_2 hx hb htA hown hK hP dX6_cellNumber_74 ?_
    refine lv_iload_n hx hb dX6_cellNumber_77 rfl (lv_at hl 1 rfl) ?_
    refine sy_cv (rest := []) C hK hN hP (m2_at l D cA ad τ ρ π γ hT 0 (by decide) a1) (5) 4 rfl rfl kw_286 kw_210 kw_211 kw_81 kw_212 hd_X2_at ⟨Nat.le_of_ble_eq_true rfl, Nat.le_of_ble_eq_true rfl⟩ rfl rfl rfl hl.1 rfl (Nat.le_of_ble_eq_true rfl) dX6_cellNumber_78 ⟨Nat.zero_le _, Nat.zero_le _⟩ ?_
    have e9 : f2_at τ γ 0 a1 = f6_cellNumber τ ρ π γ a1 a2 := by unfold f6_cellNumber; (try rw [if_neg c_1]); (try rw [if_neg c_2]); (try rw [if_neg c_3]); (try rw [if_neg c_4]); (try rw [if_pos c_5])
    exact sy_ret hx hb hr hlk e9 dX6_cellNumber_81
  by_cases c_6 : a2 = 5
  · refine lv_tableIn (tgt := 82) hx hb dX6_cellNumber_1 (by rw [c_6]; decide) (by rw [c_6]; decide) (by rw [c_6]; rfl) (by decide) ?_
    refine lv_aload_n hx hb dX6_cellNumber_82 rfl (lv_at hl 0 rfl) ?_
    refine gX6_5 hx hb htA hown hK hP dX6_cellNumber_83 ?_
    refine lv_iload_n hx hb dX6_cellNumber_86 rfl (lv_at hl 1 rfl) ?_
    refine sy_cv (rest := []) C hK hN hP (m3_misfitAround l D cA ad τ ρ π γ hT a1) (3) 5 rfl rfl kw_287 kw_288 kw_289 kw_24 kw_290 hd_X3_misfitAround ⟨Nat.le_of_ble_eq_true rfl, Nat.le_of_ble_eq_true rfl⟩ rfl rfl rfl hl.1 rfl (Nat.le_of_ble_eq_true rfl) dX6_cellNumber_87 ⟨Nat.zero_le _, Nat.zero_le _⟩ ?_
    have e9 : f3_misfitAround τ ρ π a1 = f6_cellNumber τ ρ π γ a1 a2 := by unfold f6_cellNumber; (try rw [if_neg c_1]); (try rw [if_neg c_2]); (try rw [if_neg c_3]); (try rw [if_neg c_4]); (try rw [if_neg c_5]); (try rw [if_pos c_6])
    exact sy_ret hx hb hr hlk e9 dX6_cellNumber_90
  have nc_1 : ¬ a2.toInt = 0 := ne_toInt c_1
  have nc_2 : ¬ a2.toInt = 1 := ne_toInt c_2
  have nc_3 : ¬ a2.toInt = 2 := ne_toInt c_3
  have nc_4 : ¬ a2.toInt = 3 := ne_toInt c_4
  have nc_5 : ¬ a2.toInt = 4 := ne_toInt c_5
  have nc_6 : ¬ a2.toInt = 5 := ne_toInt c_6
  refine lv_tableOut (tgt := 91) hx hb dX6_cellNumber_1 (by omega) (by decide) ?_
  refine lv_iconst (v := 0) hx hb dX6_cellNumber_91 (by decide) ?_
  have e9 : 0 = f6_cellNumber τ ρ π γ a1 a2 := by unfold f6_cellNumber; (try rw [if_neg c_1]); (try rw [if_neg c_2]); (try rw [if_neg c_3]); (try rw [if_neg c_4]); (try rw [if_neg c_5]); (try rw [if_neg c_6])
  exact sy_ret hx hb hr hlk e9 dX6_cellNumber_92
/-- X6_roundOf -/
theorem hd_X6_roundOf : yX6_roundOf.cls = yX6_roundOf.cls ∧ yX6_roundOf.cls ≠ "java/lang/invoke/MethodHandle" ∧ yX6_roundOf.cls ≠ "java/lang/invoke/VarHandle" ∧ (parseMethodDescriptor yX6_roundOf.desc).map (fun d => d.parameters.length) = some 1 := by decide +kernel
def f6_roundOf_L18 (τ : Sg) (γ : Sg) (x1 : Int32) (x3 : Int32) : Nat → Int32 → Int32 → Int32 × Int32
  | 0, x2, x4 => (x2, x4)
  | n + 1, x2, x4 => (if (f5_besideMany τ x3) ≤ x4 then (x2, x4) else (if (f2_at τ γ 0 x3) = x1 then (if (f2_at τ γ 0 (f5_beside τ x3 x4)) = x1 then (f6_roundOf_L18 τ γ x1 x3 n x2 (x4 + 1)) else (f6_roundOf_L18 τ γ x1 x3 n (x2 + 1) (x4 + 1))) else (f6_roundOf_L18 τ γ x1 x3 n x2 (x4 + 1))))
theorem f6_roundOf_L18_s (τ : Sg) (γ : Sg) (x1 : Int32) (x3 : Int32) (n : Nat) (x2 : Int32) (x4 : Int32) : f6_roundOf_L18 τ γ x1 x3 (n + 1) x2 x4 = (if (f5_besideMany τ x3) ≤ x4 then (x2, x4) else (if (f2_at τ γ 0 x3) = x1 then (if (f2_at τ γ 0 (f5_beside τ x3 x4)) = x1 then (f6_roundOf_L18 τ γ x1 x3 n x2 (x4 + 1)) else (f6_roundOf_L18 τ γ x1 x3 n (x2 + 1) (x4 + 1))) else (f6_roundOf_L18 τ γ x1 x3 n x2 (x4 + 1)))) := rfl
def f6_roundOf_L4 (τ : Sg) (γ : Sg) (x1 : Int32) : Nat → Int32 → Int32 → Int32 × Int32
  | 0, x2, x3 => (x2, x3)
  | n + 1, x2, x3 => (if (f5_cells τ) ≤ x3 then (x2, x3) else (f6_roundOf_L4 τ γ x1 n ((f6_roundOf_L18 τ γ x1 x3 8589934592 x2 0).1) (x3 + 1)))
theorem f6_roundOf_L4_s (τ : Sg) (γ : Sg) (x1 : Int32) (n : Nat) (x2 : Int32) (x3 : Int32) : f6_roundOf_L4 τ γ x1 (n + 1) x2 x3 = (if (f5_cells τ) ≤ x3 then (x2, x3) else (f6_roundOf_L4 τ γ x1 n ((f6_roundOf_L18 τ γ x1 x3 8589934592 x2 0).1) (x3 + 1))) := rfl
def f6_roundOf (τ : Sg) (γ : Sg) (a1 : Int32) : Int32 := (f6_roundOf_L4 τ γ a1 8589934592 0 0).1
set_option maxHeartbeats 400000 in
set_option maxRecDepth 100000 in
theorem m6_roundOf (l : Launch) (D : va_G) (cA : ClassId) (ad : Nat → Nat) (τ ρ π γ : Sg) (hT : Ok τ) (a1 : Int32) : Met l yX6_roundOf (wM yX6_roundOf cX6_roundOf 5 (some .int)) ({ frames := 2, cells := 0, slots := 0, locals := 42 }) (va_Pc [.ref (ad 4), .int a1] (pS D cA ad τ ρ π γ)) (QcRead (f6_roundOf τ γ a1)) 0 0 noA := by
  refine sy_of (by decide) (Nat.le_of_ble_eq_true rfl) ?_
  intro p e s m below meth c ls C hr hlk hK hN hP hl
  obtain ⟨hx, hb, hml, hown, hts⟩ := id C
  have htA : ∀ w ∈ wA, w.before ([.ref (ad 4), .int a1] : List Value).toArray s = true := fun w h => hts w (List.mem_cons_of_mem _ h)
  have hl : lv_has ls 5 [(0, .ref (ad 4)), (1, .int a1)] := hl
  refine lv_iconst (v := 0) hx hb dX6_roundOf_0 (by decide) ?_
  refine lv_istore_n (lv' := [(2, .int 0), (0, .ref (ad 4)), (1, .int a1)]) hx hb dX6_roundOf_1 rfl hl (by decide) rfl (fun ls hl => ?_)
  refine lv_iconst (v := 0) hx hb dX6_roundOf_2 (by decide) ?_
  refine lv_istore_n (lv' := [(3, .int 0), (2, .int 0), (0, .ref (ad 4)), (1, .int a1)]) hx hb dX6_roundOf_3 rfl hl (by decide) rfl (fun ls hl => ?_)
  have hL4 : ∀ (x1 : Int32) (n : Nat) (x2 : Int32) (x3 : Int32), nm x3 (f5_cells τ) < n → ∀ ls : Array Slot, lv_has ls 5 [(0, .ref (ad 4)), (1, .int x1), (2, .int x2), (3, .int x3)] → (∀ ls : Array Slot, lv_has ls 5 [(0, .ref (ad 4)), (1, .int x1), (2, .int ((f6_roundOf_L4 τ γ x1 n x2 x3).1)), (3, .int ((f6_roundOf_L4 τ γ x1 n x2 x3).2))] → W p l e ({ frames := 2, cells := 0, slots := 0, locals := 42 }) s m ([.ref (ad 4), .int a1] : List Value).toArray below meth c s.heap [] 0 0 (MQ below (QcRead (f6_roundOf τ γ a1)) ([.ref (ad 4), .int a1] : List Value).toArray s 0 0 noA) (F0 m 79 ls [])) → W p l e ({ frames := 2, cells := 0, slots := 0, locals := 42 }) s m ([.ref (ad 4), .int a1] : List Value).toArray below meth c s.heap [] 0 0 (MQ below (QcRead (f6_roundOf τ γ a1)) ([.ref (ad 4), .int a1] : List Value).toArray s 0 0 noA) (F0 m 4 ls []) := by
    intro x1 n
    induction n with
    | zero =>
      intro x2 x3 hn
      exact absurd hn (Nat.not_lt_zero _)
    | succ n ih =>
      intro x2 x3 hn ls hl kk
      refine lv_iload_n hx hb dX6_roundOf_4 rfl (lv_at hl 3 rfl) ?_
      refine lv_aload_n hx hb dX6_roundOf_5 rfl (lv_at hl 0 rfl) ?_
      refine gX6_0 hx hb htA hown hK hP dX6_roundOf_6 ?_
      refine sy_cv (rest := [.int x3]) C hK hN hP (m5_cells l D cA ad τ ρ π γ) (1) 7 rfl rfl kw_375 kw_184 kw_185 kw_16 kw_186 hd_X5_cells ⟨Nat.le_of_ble_eq_true rfl, Nat.le_of_ble_eq_true rfl⟩ rfl rfl rfl hl.1 rfl (Nat.le_of_ble_eq_true rfl) dX6_roundOf_9 ⟨Nat.zero_le _, Nat.zero_le _⟩ ?_
      refine lv_icmp_ge (tgt := 79) hx hb dX6_roundOf_12 (by decide) (fun c_1 => ?_) (fun c_1 => ?_)
      · have e9 : f6_roundOf_L4 τ γ x1 (n + 1) x2 x3 = (x2, x3) := by rw [f6_roundOf_L4_s]; (try rw [if_pos c_1])
        rw [e9] at kk
        exact kk ls (lv_sub hl [0, 1, 2, 3] rfl)
      · refine lv_iconst (v := 0) hx hb dX6_roundOf_15 (by decide) ?_
        refine lv_istore (lv' := [(4, .int 0), (0, .ref (ad 4)), (1, .int x1), (2, .int x2), (3, .int x3)]) hx hb dX6_roundOf_16 hl (by decide) rfl (fun ls hl => ?_)
        have hL18 : ∀ (x1 : Int32) (x3 : Int32) (n : Nat) (x2 : Int32) (x4 : Int32), nm x4 (f5_besideMany τ x3) < n → ∀ ls : Array Slot, lv_has ls 5 [(0, .ref (ad 4)), (1, .int x1), (2, .int x2), (3, .int x3), (4, .int x4)] → (∀ ls : Array Slot, lv_has ls 5 [(0, .ref (ad 4)), (1, .int x1), (2, .int ((f6_roundOf_L18 τ γ x1 x3 n x2 x4).1)), (3, .int x3), (4, .int ((f6_roundOf_L18 τ γ x1 x3 n x2 x4).2))] → W p l e ({ frames := 2, cells := 0, slots := 0, locals := 42 }) s m ([.ref (ad 4), .int a1] : List Value).toArray below meth c s.heap [] 0 0 (MQ below (QcRead (f6_roundOf τ γ a1)) ([.ref (ad 4), .int a1] : List Value).toArray s 0 0 noA) (F0 m 73 ls [])) → W p l e ({ frames := 2, cells := 0, slots := 0, locals := 42 }) s m ([.ref (ad 4), .int a1] : List Value).toArray below meth c s.heap [] 0 0 (MQ below (QcRead (f6_roundOf τ γ a1)) ([.ref (ad 4), .int a1] : List Value).toArray s 0 0 noA) (F0 m 18 ls []) := by
          intro x1 x3 n
          induction n with
          | zero =>
            intro x2 x4 hn
            exact absurd hn (Nat.not_lt_zero _)
          | succ n ih =>
            intro x2 x4 hn ls hl kk
            refine lv_iload hx hb dX6_roundOf_18 (lv_at hl 4 rfl) ?_
            refine lv_aload_n hx hb dX6_roundOf_20 rfl (lv_at hl 0 rfl) ?_
            refine gX6_0 hx hb htA hown hK hP dX6_roundOf_21 ?_
            refine lv_iload_n hx hb dX6_roundOf_24 rfl (lv_at hl 3 rfl) ?_
            refine sy_cv (rest := [.int x4]) C hK hN hP (m5_besideMany l D cA ad τ ρ π γ hT x3) (1) 7 rfl rfl kw_284 kw_220 kw_221 kw_16 kw_222 hd_X5_besideMany ⟨Nat.le_of_ble_eq_true rfl, Nat.le_of_ble_eq_true rfl⟩ rfl rfl rfl hl.1 rfl (Nat.le_of_ble_eq_true rfl) dX6_roundOf_25 ⟨Nat.zero_le _, Nat.zero_le _⟩ ?_
            refine lv_icmp_ge (tgt := 73) hx hb dX6_roundOf_28 (by decide) (fun c_2 => ?_) (fun c_2 => ?_)
            · have e9 : f6_roundOf_L18 τ γ x1 x3 (n + 1) x2 x4 = (x2, x4) := by rw [f6_roundOf_L18_s]; (try rw [if_pos c_2])
              rw [e9] at kk
              exact kk ls (lv_sub hl [0, 1, 2, 3, 4] rfl)
            · refine lv_aload_n hx hb dX6_roundOf_31 rfl (lv_at hl 0 rfl) ?_
              refine gX6_2 hx hb htA hown hK hP dX6_roundOf_32 ?_
              refine lv_iload_n hx hb dX6_roundOf_35 rfl (lv_at hl 3 rfl) ?_
              refine sy_cv (rest := []) C hK hN hP (m2_at l D cA ad τ ρ π γ hT 0 (by decide) x3) (5) 4 rfl rfl kw_286 kw_210 kw_211 kw_81 kw_212 hd_X2_at ⟨Nat.le_of_ble_eq_true rfl, Nat.le_of_ble_eq_true rfl⟩ rfl rfl rfl hl.1 rfl (Nat.le_of_ble_eq_true rfl) dX6_roundOf_36 ⟨Nat.zero_le _, Nat.zero_le _⟩ ?_
              refine lv_iload_n hx hb dX6_roundOf_39 rfl (lv_at hl 1 rfl) ?_
              refine lv_icmp_ne (tgt := 67) hx hb dX6_roundOf_40 (by decide) (fun c_3 => ?_) (fun c_3 => ?_)
              · refine lv_iinc (v := x4 + 1) (lv' := [(4, .int (x4 + 1)), (0, .ref (ad 4)), (1, .int x1), (2, .int x2), (3, .int x3)]) hx hb dX6_roundOf_67 hl (k := 4) rfl (by rfl) (by decide) rfl (fun ls hl => ?_)
                refine lv_goto (tgt := 18) hx hb dX6_roundOf_70 (by decide) ?_
                have e9 : f6_roundOf_L18 τ γ x1 x3 (n + 1) x2 x4 = f6_roundOf_L18 τ γ x1 x3 n x2 (x4 + 1) := by rw [f6_roundOf_L18_s]; (try rw [if_neg c_2]); (try rw [if_neg c_3])
                rw [e9] at kk
                exact ih x2 (x4 + 1) (nm_dec (Int32.not_le.mp c_2) hn)  ls (lv_sub hl [1, 2, 3, 4, 0] rfl) kk
              · refine lv_aload_n hx hb dX6_roundOf_43 rfl (lv_at hl 0 rfl) ?_
                refine gX6_2 hx hb htA hown hK hP dX6_roundOf_44 ?_
                refine lv_aload_n hx hb dX6_roundOf_47 rfl (lv_at hl 0 rfl) ?_
                refine gX6_0 hx hb htA hown hK hP dX6_roundOf_48 ?_
                refine lv_iload_n hx hb dX6_roundOf_51 rfl (lv_at hl 3 rfl) ?_
                refine lv_iload hx hb dX6_roundOf_52 (lv_at hl 4 rfl) ?_
                refine sy_cv (rest := [.ref (ad 5)]) C hK hN hP (m5_beside l D cA ad τ ρ π γ hT x3 x4) (1) 7 rfl rfl kw_285 kw_224 kw_225 kw_16 kw_226 hd_X5_beside ⟨Nat.le_of_ble_eq_true rfl, Nat.le_of_ble_eq_true rfl⟩ rfl rfl rfl hl.1 rfl (Nat.le_of_ble_eq_true rfl) dX6_roundOf_54 ⟨Nat.zero_le _, Nat.zero_le _⟩ ?_
                refine sy_cv (rest := []) C hK hN hP (m2_at l D cA ad τ ρ π γ hT 0 (by decide) (f5_beside τ x3 x4)) (5) 4 rfl rfl kw_286 kw_210 kw_211 kw_81 kw_212 hd_X2_at ⟨Nat.le_of_ble_eq_true rfl, Nat.le_of_ble_eq_true rfl⟩ rfl rfl rfl hl.1 rfl (Nat.le_of_ble_eq_true rfl) dX6_roundOf_57 ⟨Nat.zero_le _, Nat.zero_le _⟩ ?_
                refine lv_iload_n hx hb dX6_roundOf_60 rfl (lv_at hl 1 rfl) ?_
                refine lv_icmp_eq (tgt := 67) hx hb dX6_roundOf_61 (by decide) (fun c_4 => ?_) (fun c_4 => ?_)
                · refine lv_iinc (v := x4 + 1) (lv' := [(4, .int (x4 + 1)), (0, .ref (ad 4)), (1, .int x1), (2, .int x2), (3, .int x3)]) hx hb dX6_roundOf_67 hl (k := 4) rfl (by rfl) (by decide) rfl (fun ls hl => ?_)
                  refine lv_goto (tgt := 18) hx hb dX6_roundOf_70 (by decide) ?_
                  have e9 : f6_roundOf_L18 τ γ x1 x3 (n + 1) x2 x4 = f6_roundOf_L18 τ γ x1 x3 n x2 (x4 + 1) := by rw [f6_roundOf_L18_s]; (try rw [if_neg c_2]); (try rw [if_pos c_3]); (try rw [if_pos c_4])
                  rw [e9] at kk
                  exact ih x2 (x4 + 1) (nm_dec (Int32.not_le.mp c_2) hn)  ls (lv_sub hl [1, 2, 3, 4, 0] rfl) kk
                · refine lv_iinc (v := x2 + 1) (lv' := [(2, .int (x2 + 1)), (0, .ref (ad 4)), (1, .int x1), (3, .int x3), (4, .int x4)]) hx hb dX6_roundOf_64 hl (k := 2) rfl (by rfl) (by decide) rfl (fun ls hl => ?_)
                  refine lv_iinc (v := x4 + 1) (lv' := [(4, .int (x4 + 1)), (2, .int (x2 + 1)), (0, .ref (ad 4)), (1, .int x1), (3, .int x3)]) hx hb dX6_roundOf_67 hl (k := 4) rfl (by rfl) (by decide) rfl (fun ls hl => ?_)
                  refine lv_goto (tgt := 18) hx hb dX6_roundOf_70 (by decide) ?_
                  have e9 : f6_roundOf_L18 τ γ x1 x3 (n + 1) x2 x4 = f6_roundOf_L18 τ γ x1 x3 n (x2 + 1) (x4 + 1) := by rw [f6_roundOf_L18_s]; (try rw [if_neg c_2]); (try rw [if_pos c_3]); (try rw [if_neg c_4])
                  rw [e9] at kk
                  exact ih (x2 + 1) (x4 + 1) (nm_dec (Int32.not_le.mp c_2) hn)  ls (lv_sub hl [2, 3, 1, 4, 0] rfl) kk
        refine hL18 x1 x3 8589934592 x2 0 (nm_lt _ _) ls (lv_sub hl [1, 2, 3, 4, 0] rfl) (fun ls hl => ?_)
        refine lv_iinc (v := x3 + 1) (lv' := [(3, .int (x3 + 1)), (0, .ref (ad 4)), (1, .int x1), (2, .int ((f6_roundOf_L18 τ γ x1 x3 8589934592 x2 0).1)), (4, .int ((f6_roundOf_L18 τ γ x1 x3 8589934592 x2 0).2))]) hx hb dX6_roundOf_73 hl (k := 3) rfl (by rfl) (by decide) rfl (fun ls hl => ?_)
        refine lv_goto (tgt := 4) hx hb dX6_roundOf_76 (by decide) ?_
        have e9 : f6_roundOf_L4 τ γ x1 (n + 1) x2 x3 = f6_roundOf_L4 τ γ x1 n ((f6_roundOf_L18 τ γ x1 x3 8589934592 x2 0).1) (x3 + 1) := by rw [f6_roundOf_L4_s]; (try rw [if_neg c_1])
        rw [e9] at kk
        exact ih ((f6_roundOf_L18 τ γ x1 x3 8589934592 x2 0).1) (x3 + 1) (nm_dec (Int32.not_le.mp c_1) hn)  ls (lv_sub hl [1, 2, 3, 0] rfl) kk
  refine hL4 a1 8589934592 0 0 (nm_lt _ _) ls (lv_sub hl [2, 3, 1, 0] rfl) (fun ls hl => ?_)
  refine lv_iload_n hx hb dX6_roundOf_79 rfl (lv_at hl 2 rfl) ?_
  have e9 : (f6_roundOf_L4 τ γ a1 8589934592 0 0).1 = f6_roundOf τ γ a1 := rfl
  exact sy_ret hx hb hr hlk e9 dX6_roundOf_80
/-- X6_bordersOf -/
theorem hd_X6_bordersOf : yX6_bordersOf.cls = yX6_bordersOf.cls ∧ yX6_bordersOf.cls ≠ "java/lang/invoke/MethodHandle" ∧ yX6_bordersOf.cls ≠ "java/lang/invoke/VarHandle" ∧ (parseMethodDescriptor yX6_bordersOf.desc).map (fun d => d.parameters.length) = some 1 := by decide +kernel
def f6_bordersOf_L41 (τ : Sg) (x1 : Int32) (x3 : Int32) : Nat → Sg → Int32 → Int32 → Int32 × Int32 × Sg
  | 0, γ_41, x2, x4 => (x2, x4, γ_41)
  | n + 1, γ_41, x2, x4 => (if (f5_besideMany τ x3) ≤ x4 then (x2, x4, γ_41) else (if (f2_at τ γ_41 0 (f5_beside τ x3 x4)) < 0 then (f6_bordersOf_L41 τ x1 x3 n γ_41 x2 (x4 + 1)) else (if 64 ≤ (f2_at τ γ_41 0 (f5_beside τ x3 x4)) then (f6_bordersOf_L41 τ x1 x3 n γ_41 x2 (x4 + 1)) else (if (f2_at τ γ_41 0 (f5_beside τ x3 x4)) = x1 then (f6_bordersOf_L41 τ x1 x3 n γ_41 x2 (x4 + 1)) else (if (γ_41.2 10 (f2_at τ γ_41 0 (f5_beside τ x3 x4)).toNatClampNeg) = 0 then (f6_bordersOf_L41 τ x1 x3 n (sa γ_41 10 (f2_at τ γ_41 0 (f5_beside τ x3 x4)).toNatClampNeg 1) (x2 + 1) (x4 + 1)) else (f6_bordersOf_L41 τ x1 x3 n γ_41 x2 (x4 + 1)))))))
theorem f6_bordersOf_L41_s (τ : Sg) (x1 : Int32) (x3 : Int32) (n : Nat) (γ_41 : Sg) (x2 : Int32) (x4 : Int32) : f6_bordersOf_L41 τ x1 x3 (n + 1) γ_41 x2 x4 = (if (f5_besideMany τ x3) ≤ x4 then (x2, x4, γ_41) else (if (f2_at τ γ_41 0 (f5_beside τ x3 x4)) < 0 then (f6_bordersOf_L41 τ x1 x3 n γ_41 x2 (x4 + 1)) else (if 64 ≤ (f2_at τ γ_41 0 (f5_beside τ x3 x4)) then (f6_bordersOf_L41 τ x1 x3 n γ_41 x2 (x4 + 1)) else (if (f2_at τ γ_41 0 (f5_beside τ x3 x4)) = x1 then (f6_bordersOf_L41 τ x1 x3 n γ_41 x2 (x4 + 1)) else (if (γ_41.2 10 (f2_at τ γ_41 0 (f5_beside τ x3 x4)).toNatClampNeg) = 0 then (f6_bordersOf_L41 τ x1 x3 n (sa γ_41 10 (f2_at τ γ_41 0 (f5_beside τ x3 x4)).toNatClampNeg 1) (x2 + 1) (x4 + 1)) else (f6_bordersOf_L41 τ x1 x3 n γ_41 x2 (x4 + 1))))))) := rfl
def f6_bordersOf_L12 (τ : Sg) (x1 : Int32) : Nat → Sg → Int32 → Int32 → Int32 × Int32 × Sg
  | 0, γ_12, x2, x3 => (x2, x3, γ_12)
  | n + 1, γ_12, x2, x3 => (if (f5_cells τ) ≤ x3 then (x2, x3, γ_12) else (if (f2_at τ γ_12 0 x3) = x1 then (f6_bordersOf_L12 τ x1 n ((f6_bordersOf_L41 τ x1 x3 8589934592 γ_12 x2 0).2.2) ((f6_bordersOf_L41 τ x1 x3 8589934592 γ_12 x2 0).1) (x3 + 1)) else (f6_bordersOf_L12 τ x1 n γ_12 x2 (x3 + 1))))
theorem f6_bordersOf_L12_s (τ : Sg) (x1 : Int32) (n : Nat) (γ_12 : Sg) (x2 : Int32) (x3 : Int32) : f6_bordersOf_L12 τ x1 (n + 1) γ_12 x2 x3 = (if (f5_cells τ) ≤ x3 then (x2, x3, γ_12) else (if (f2_at τ γ_12 0 x3) = x1 then (f6_bordersOf_L12 τ x1 n ((f6_bordersOf_L41 τ x1 x3 8589934592 γ_12 x2 0).2.2) ((f6_bordersOf_L41 τ x1 x3 8589934592 γ_12 x2 0).1) (x3 + 1)) else (f6_bordersOf_L12 τ x1 n γ_12 x2 (x3 + 1)))) := rfl
def f6_bordersOf (τ : Sg) (γ : Sg) (a1 : Int32) : Int32 × Sg := ((f6_bordersOf_L12 τ a1 8589934592 (saf γ 10 (fillF (γ.2 10) 64 0)) 0 0).1, ((f6_bordersOf_L12 τ a1 8589934592 (saf γ 10 (fillF (γ.2 10) 64 0)) 0 0).2.2))
set_option maxHeartbeats 400000 in
set_option maxRecDepth 100000 in
theorem m6_bordersOf (l : Launch) (D : va_G) (cA : ClassId) (ad : Nat → Nat) (had : Apart ad) (τ ρ π γ : Sg) (hT : Ok τ) (a1 : Int32) : Met l yX6_bordersOf (wM yX6_bordersOf cX6_bordersOf 6 (some .int)) ({ frames := 2, cells := 0, slots := 0, locals := 42 }) (va_Pc [.ref (ad 4), .int a1] (pS D cA ad τ ρ π γ)) (qV D cA ad τ ρ π ((f6_bordersOf τ γ a1).2) (some (.int ((f6_bordersOf τ γ a1).1)))) 0 0 (aS ad) := by
  refine sy_of (by decide) (Nat.le_of_ble_eq_true rfl) ?_
  intro p e s m below meth c ls C hr hlk hK hN hP hl
  obtain ⟨hx, hb, hml, hown, hts⟩ := id C
  have htA : ∀ w ∈ wA, w.before ([.ref (ad 4), .int a1] : List Value).toArray s = true := fun w h => hts w (List.mem_cons_of_mem _ h)
  have hl : lv_has ls 6 [(0, .ref (ad 4)), (1, .int a1)] := hl
  have hS : va_S (aS ad) s.heap s.heap [] := va_S.rf
  refine lv_aload_n hx hb dX6_bordersOf_0 rfl (lv_at hl 0 rfl) ?_
  refine gX6_4 hx hb htA hown hK hP dX6_bordersOf_1 ?_
  refine lv_iconst (v := 0) hx hb dX6_bordersOf_4 (by decide) ?_
  refine sy_csM (rest := []) (st1 := []) C hK hN (by have h9 := hP; rw [← wF_24] at h9; exact h9) (fun _ h => h) hS (mJ7_fill l D cA (fun f9 => wS cA ad τ ρ π (saf γ 10 f9)) (24) (ad 24) 64 (by decide) (wFa_24) (wFs_24) (fun _ => wS_D had _ _ _ _ (fun _ h => h)) _ 0) kw_574 kw_53 kw_54 kw_55 hd_J7_fill ⟨Nat.le_of_ble_eq_true rfl, Nat.le_of_ble_eq_true rfl⟩ rfl rfl rfl hl.1 rfl (Nat.le_of_ble_eq_true rfl) dX6_bordersOf_5 ⟨Nat.zero_le _, Nat.zero_le _⟩ rfl (fun H locs hP hS => ?_)
  refine lv_iconst (v := 0) hx hb dX6_bordersOf_8 (by decide) ?_
  refine lv_istore_n (lv' := [(2, .int 0), (0, .ref (ad 4)), (1, .int a1)]) hx hb dX6_bordersOf_9 rfl hl (by decide) rfl (fun ls hl => ?_)
  refine lv_iconst (v := 0) hx hb dX6_bordersOf_10 (by decide) ?_
  refine lv_istore_n (lv' := [(3, .int 0), (2, .int 0), (0, .ref (ad 4)), (1, .int a1)]) hx hb dX6_bordersOf_11 rfl hl (by decide) rfl (fun ls hl => ?_)
  have hL12 : ∀ (x1 : Int32) (n : Nat) (γ_12 : Sg) (x2 : Int32) (x3 : Int32), nm x3 (f5_cells τ) < n → ∀ (H : Heap) (locs : List Loc), va_P D vwCl (wS cA ad τ ρ π γ_12) H → va_S (aS ad) s.heap H locs → ∀ ls : Array Slot, lv_has ls 6 [(0, .ref (ad 4)), (1, .int x1), (2, .int x2), (3, .int x3)] → (∀ (H : Heap) (locs : List Loc), va_P D vwCl (wS cA ad τ ρ π ((f6_bordersOf_L12 τ x1 n γ_12 x2 x3).2.2)) H → va_S (aS ad) s.heap H locs → ∀ ls : Array Slot, lv_has ls 6 [(0, .ref (ad 4)), (1, .int x1), (2, .int ((f6_bordersOf_L12 τ x1 n γ_12 x2 x3).1)), (3, .int ((f6_bordersOf_L12 τ x1 n γ_12 x2 x3).2.1))] → W p l e ({ frames := 2, cells := 0, slots := 0, locals := 42 }) s m ([.ref (ad 4), .int a1] : List Value).toArray below meth c H locs 0 0 (MQ below (qV D cA ad τ ρ π ((f6_bordersOf τ γ a1).2) (some (.int ((f6_bordersOf τ γ a1).1)))) ([.ref (ad 4), .int a1] : List Value).toArray s 0 0 (aS ad)) (F0 m 124 ls [])) → W p l e ({ frames := 2, cells := 0, slots := 0, locals := 42 }) s m ([.ref (ad 4), .int a1] : List Value).toArray below meth c H locs 0 0 (MQ below (qV D cA ad τ ρ π ((f6_bordersOf τ γ a1).2) (some (.int ((f6_bordersOf τ γ a1).1)))) ([.ref (ad 4), .int a1] : List Value).toArray s 0 0 (aS ad)) (F0 m 12 ls []) := by
    intro x1 n
    induction n with
    | zero =>
      intro γ_12 x2 x3 hn
      exact absurd hn (Nat.not_lt_zero _)
    | succ n ih =>
      intro γ_12 x2 x3 hn H locs hP hS ls hl kk
      refine lv_iload_n hx hb dX6_bordersOf_12 rfl (lv_at hl 3 rfl) ?_
      refine lv_aload_n hx hb dX6_bordersOf_13 rfl (lv_at hl 0 rfl) ?_
      refine gX6_0 hx hb htA hown hK hP dX6_bordersOf_14 ?_
      refine sy_cv (rest := [.int x3]) C hK hN hP (m5_cells l D cA ad τ ρ π γ_12) (1) 7 rfl rfl kw_375 kw_184 kw_185 kw_16 kw_186 hd_X5_cells ⟨Nat.le_of_ble_eq_true rfl, Nat.le_of_ble_eq_true rfl⟩ rfl rfl rfl hl.1 rfl (Nat.le_of_ble_eq_true rfl) dX6_bordersOf_17 ⟨Nat.zero_le _, Nat.zero_le _⟩ ?_
      refine lv_icmp_ge (tgt := 124) hx hb dX6_bordersOf_20 (by decide) (fun c_1 => ?_) (fun c_1 => ?_)
      · have e9 : f6_bordersOf_L12 τ x1 (n + 1) γ_12 x2 x3 = (x2, x3, γ_12) := by rw [f6_bordersOf_L12_s]; (try rw [if_pos c_1])
        rw [e9] at kk
        exact kk _ _ hP hS ls (lv_sub hl [0, 1, 2, 3] rfl)
      · refine lv_aload_n hx hb dX6_bordersOf_23 rfl (lv_at hl 0 rfl) ?_
        refine gX6_2 hx hb htA hown hK hP dX6_bordersOf_24 ?_
        refine lv_iload_n hx hb dX6_bordersOf_27 rfl (lv_at hl 3 rfl) ?_
        refine sy_cv (rest := []) C hK hN hP (m2_at l D cA ad τ ρ π γ_12 hT 0 (by decide) x3) (5) 4 rfl rfl kw_286 kw_210 kw_211 kw_81 kw_212 hd_X2_at ⟨Nat.le_of_ble_eq_true rfl, Nat.le_of_ble_eq_true rfl⟩ rfl rfl rfl hl.1 rfl (Nat.le_of_ble_eq_true rfl) dX6_bordersOf_28 ⟨Nat.zero_le _, Nat.zero_le _⟩ ?_
        refine lv_iload_n hx hb dX6_bordersOf_31 rfl (lv_at hl 1 rfl) ?_
        refine lv_icmp_eq (tgt := 38) hx hb dX6_bordersOf_32 (by decide) (fun c_2 => ?_) (fun c_2 => ?_)
        · refine lv_iconst (v := 0) hx hb dX6_bordersOf_38 (by decide) ?_
          refine lv_istore (lv' := [(4, .int 0), (0, .ref (ad 4)), (1, .int x1), (2, .int x2), (3, .int x3)]) hx hb dX6_bordersOf_39 hl (by decide) rfl (fun ls hl => ?_)
          have hL41 : ∀ (x1 : Int32) (x3 : Int32) (n : Nat) (γ_41 : Sg) (x2 : Int32) (x4 : Int32), nm x4 (f5_besideMany τ x3) < n → ∀ (H : Heap) (locs : List Loc), va_P D vwCl (wS cA ad τ ρ π γ_41) H → va_S (aS ad) s.heap H locs → ∀ ls : Array Slot, lv_has ls 6 [(0, .ref (ad 4)), (1, .int x1), (2, .int x2), (3, .int x3), (4, .int x4)] → (∀ (H : Heap) (locs : List Loc), va_P D vwCl (wS cA ad τ ρ π ((f6_bordersOf_L41 τ x1 x3 n γ_41 x2 x4).2.2)) H → va_S (aS ad) s.heap H locs → ∀ ls : Array Slot, lv_has ls 6 [(0, .ref (ad 4)), (1, .int x1), (2, .int ((f6_bordersOf_L41 τ x1 x3 n γ_41 x2 x4).1)), (3, .int x3), (4, .int ((f6_bordersOf_L41 τ x1 x3 n γ_41 x2 x4).2.1))] → W p l e ({ frames := 2, cells := 0, slots := 0, locals := 42 }) s m ([.ref (ad 4), .int a1] : List Value).toArray below meth c H locs 0 0 (MQ below (qV D cA ad τ ρ π ((f6_bordersOf τ γ a1).2) (some (.int ((f6_bordersOf τ γ a1).1)))) ([.ref (ad 4), .int a1] : List Value).toArray s 0 0 (aS ad)) (F0 m 118 ls [])) → W p l e ({ frames := 2, cells := 0, slots := 0, locals := 42 }) s m ([.ref (ad 4), .int a1] : List Value).toArray below meth c H locs 0 0 (MQ below (qV D cA ad τ ρ π ((f6_bordersOf τ γ a1).2) (some (.int ((f6_bordersOf τ γ a1).1)))) ([.ref (ad 4), .int a1] : List Value).toArray s 0 0 (aS ad)) (F0 m 41 ls []) := by
            intro x1 x3 n
            induction n with
            | zero =>
              intro γ_41 x2 x4 hn
              exact absurd hn (Nat.not_lt_zero _)
            | succ n ih =>
              intro γ_41 x2 x4 hn H locs hP hS ls hl kk
              refine lv_iload hx hb dX6_bordersOf_41 (lv_at hl 4 rfl) ?_
              refine lv_aload_n hx hb dX6_bordersOf_43 rfl (lv_at hl 0 rfl) ?_
              refine gX6_0 hx hb htA hown hK hP dX6_bordersOf_44 ?_
              refine lv_iload_n hx hb dX6_bordersOf_47 rfl (lv_at hl 3 rfl) ?_
              refine sy_cv (rest := [.int x4]) C hK hN hP (m5_besideMany l D cA ad τ ρ π γ_41 hT x3) (1) 7 rfl rfl kw_284 kw_220 kw_221 kw_16 kw_222 hd_X5_besideMany ⟨Nat.le_of_ble_eq_true rfl, Nat.le_of_ble_eq_true rfl⟩ rfl rfl rfl hl.1 rfl (Nat.le_of_ble_eq_true rfl) dX6_bordersOf_48 ⟨Nat.zero_le _, Nat.zero_le _⟩ ?_
              refine lv_icmp_ge (tgt := 118) hx hb dX6_bordersOf_51 (by decide) (fun c_3 => ?_) (fun c_3 => ?_)
              · have e9 : f6_bordersOf_L41 τ x1 x3 (n + 1) γ_41 x2 x4 = (x2, x4, γ_41) := by rw [f6_bordersOf_L41_s]; (try rw [if_pos c_3])
                rw [e9] at kk
                exact kk _ _ hP hS ls (lv_sub hl [0, 1, 2, 3, 4] rfl)
              · refine lv_aload_n hx hb dX6_bordersOf_54 rfl (lv_at hl 0 rfl) ?_
                refine gX6_2 hx hb htA hown hK hP dX6_bordersOf_55 ?_
                refine lv_aload_n hx hb dX6_bordersOf_58 rfl (lv_at hl 0 rfl) ?_
                refine gX6_0 hx hb htA hown hK hP dX6_bordersOf_59 ?_
                refine lv_iload_n hx hb dX6_bordersOf_62 rfl (lv_at hl 3 rfl) ?_
                refine lv_iload hx hb dX6_bordersOf_63 (lv_at hl 4 rfl) ?_
                refine sy_cv (rest := [.ref (ad 5)]) C hK hN hP (m5_beside l D cA ad τ ρ π γ_41 hT x3 x4) (1) 7 rfl rfl kw_285 kw_224 kw_225 kw_16 kw_226 hd_X5_beside ⟨Nat.le_of_ble_eq_true rfl, Nat.le_of_ble_eq_true rfl⟩ rfl rfl rfl hl.1 rfl (Nat.le_of_ble_eq_true rfl) dX6_bordersOf_65 ⟨Nat.zero_le _, Nat.zero_le _⟩ ?_
                refine sy_cv (rest := []) C hK hN hP (m2_at l D cA ad τ ρ π γ_41 hT 0 (by decide) (f5_beside τ x3 x4)) (5) 4 rfl rfl kw_286 kw_210 kw_211 kw_81 kw_212 hd_X2_at ⟨Nat.le_of_ble_eq_true rfl, Nat.le_of_ble_eq_true rfl⟩ rfl rfl rfl hl.1 rfl (Nat.le_of_ble_eq_true rfl) dX6_bordersOf_68 ⟨Nat.zero_le _, Nat.zero_le _⟩ ?_
                refine lv_istore (lv' := [(5, .int (f2_at τ γ_41 0 (f5_beside τ x3 x4))), (0, .ref (ad 4)), (1, .int x1), (2, .int x2), (3, .int x3), (4, .int x4)]) hx hb dX6_bordersOf_71 hl (by decide) rfl (fun ls hl => ?_)
                refine lv_iload hx hb dX6_bordersOf_73 (lv_at hl 0 rfl) ?_
                refine lv_if_lt (tgt := 112) hx hb dX6_bordersOf_75 (by decide) (fun c_4 => ?_) (fun c_4 => ?_)
                · refine lv_iinc (v := x4 + 1) (lv' := [(4, .int (x4 + 1)), (5, .int (f2_at τ γ_41 0 (f5_beside τ x3 x4))), (0, .ref (ad 4)), (1, .int x1), (2, .int x2), (3, .int x3)]) hx hb dX6_bordersOf_112 hl (k := 5) rfl (by rfl) (by decide) rfl (fun ls hl => ?_)
                  refine lv_goto (tgt := 41) hx hb dX6_bordersOf_115 (by decide) ?_
                  have e9 : f6_bordersOf_L41 τ x1 x3 (n + 1) γ_41 x2 x4 = f6_bordersOf_L41 τ x1 x3 n γ_41 x2 (x4 + 1) := by rw [f6_bordersOf_L41_s]; (try rw [if_neg c_3]); (try rw [if_pos c_4])
                  rw [e9] at kk
                  exact ih γ_41 x2 (x4 + 1) (nm_dec (Int32.not_le.mp c_3) hn) _ _ hP hS ls (lv_sub hl [2, 3, 4, 5, 0] rfl) kk
                · refine lv_iload hx hb dX6_bordersOf_78 (lv_at hl 0 rfl) ?_
                  refine lv_bipush (v := 64) hx hb dX6_bordersOf_80 (by decide) ?_
                  refine lv_icmp_ge (tgt := 112) hx hb dX6_bordersOf_82 (by decide) (fun c_5 => ?_) (fun c_5 => ?_)
                  · refine lv_iinc (v := x4 + 1) (lv' := [(4, .int (x4 + 1)), (5, .int (f2_at τ γ_41 0 (f5_beside τ x3 x4))), (0, .ref (ad 4)), (1, .int x1), (2, .int x2), (3, .int x3)]) hx hb dX6_bordersOf_112 hl (k := 5) rfl (by rfl) (by decide) rfl (fun ls hl => ?_)
                    refine lv_goto (tgt := 41) hx hb dX6_bordersOf_115 (by decide) ?_
                    have e9 : f6_bordersOf_L41 τ x1 x3 (n + 1) γ_41 x2 x4 = f6_bordersOf_L41 τ x1 x3 n γ_41 x2 (x4 + 1) := by rw [f6_bordersOf_L41_s]; (try rw [if_neg c_3]); (try rw [if_neg c_4]); (try rw [if_pos c_5])
                    rw [e9] at kk
                    exact ih γ_41 x2 (x4 + 1) (nm_dec (Int32.not_le.mp c_3) hn) _ _ hP hS ls (lv_sub hl [2, 3, 4, 5, 0] rfl) kk
                  · refine lv_iload hx hb dX6_bordersOf_85 (lv_at hl 0 rfl) ?_
                    refine lv_iload_n hx hb dX6_bordersOf_87 rfl (lv_at hl 2 rfl) ?_
                    refine lv_icmp_eq (tgt := 112) hx hb dX6_bordersOf_88 (by decide) (fun c_6 => ?_) (fun c_6 => ?_)
                    · refine lv_iinc (v := x4 + 1) (lv' := [(4, .int (x4 + 1)), (5, .int (f2_at τ γ_41 0 (f5_beside τ x3 x4))), (0, .ref (ad 4)), (1, .int x1), (2, .int x2), (3, .int x3)]) hx hb dX6_bordersOf_112 hl (k := 5) rfl (by rfl) (by decide) rfl (fun ls hl => ?_)
                      refine lv_goto (tgt := 41) hx hb dX6_bordersOf_115 (by decide) ?_
                      have e9 : f6_bordersOf_L41 τ x1 x3 (n + 1) γ_41 x2 x4 = f6_bordersOf_L41 τ x1 x3 n γ_41 x2 (x4 + 1) := by rw [f6_bordersOf_L41_s]; (try rw [if_neg c_3]); (try rw [if_neg c_4]); (try rw [if_neg c_5]); (try rw [if_pos c_6])
                      rw [e9] at kk
                      exact ih γ_41 x2 (x4 + 1) (nm_dec (Int32.not_le.mp c_3) hn) _ _ hP hS ls (lv_sub hl [2, 3, 4, 5, 0] rfl) kk
                    · refine lv_aload_n hx hb dX6_bordersOf_91 rfl (lv_at hl 1 rfl) ?_
                      refine gX6_4 hx hb htA hown hK hP dX6_bordersOf_92 ?_
                      refine lv_iload hx hb dX6_bordersOf_95 (lv_at hl 0 rfl) ?_
                      refine sy_iald hx hb hK hP (24) wAt_24 (vin_lt c_4 (Int32.not_le.mp c_5) (by decide)) dX6_bordersOf_97 ?_
                      refine lv_if_ne (tgt := 112) hx hb dX6_bordersOf_98 (by decide) (fun c_7 => ?_) (fun c_7 => ?_)
                      · refine lv_iinc (v := x4 + 1) (lv' := [(4, .int (x4 + 1)), (5, .int (f2_at τ γ_41 0 (f5_beside τ x3 x4))), (0, .ref (ad 4)), (1, .int x1), (2, .int x2), (3, .int x3)]) hx hb dX6_bordersOf_112 hl (k := 5) rfl (by rfl) (by decide) rfl (fun ls hl => ?_)
                        refine lv_goto (tgt := 41) hx hb dX6_bordersOf_115 (by decide) ?_
                        have e9 : f6_bordersOf_L41 τ x1 x3 (n + 1) γ_41 x2 x4 = f6_bordersOf_L41 τ x1 x3 n γ_41 x2 (x4 + 1) := by rw [f6_bordersOf_L41_s]; (try rw [if_neg c_3]); (try rw [if_neg c_4]); (try rw [if_neg c_5]); (try rw [if_neg c_6]); (try rw [if_neg c_7])
                        rw [e9] at kk
                        exact ih γ_41 x2 (x4 + 1) (nm_dec (Int32.not_le.mp c_3) hn) _ _ hP hS ls (lv_sub hl [2, 3, 4, 5, 0] rfl) kk
                      · refine lv_aload_n hx hb dX6_bordersOf_101 rfl (lv_at hl 1 rfl) ?_
                        refine gX6_4 hx hb htA hown hK hP dX6_bordersOf_102 ?_
                        refine lv_iload hx hb dX6_bordersOf_105 (lv_at hl 0 rfl) ?_
                        refine lv_iconst (v := 1) hx hb dX6_bordersOf_107 (by decide) ?_
                        refine sy_iast (τ' := τ) (ρ' := ρ) (π' := π) (γ' := (sa γ_41 10 (f2_at τ γ_41 0 (f5_beside τ x3 x4)).toNatClampNeg 1)) hx hb hK hP had (fun _ h => h) hS (24) wAt_24 wSt_24 (vin_lt c_4 (Int32.not_le.mp c_5) (by decide)) dX6_bordersOf_108 (fun H locs hP hS => ?_)
                        refine lv_iinc (v := x2 + 1) (lv' := [(2, .int (x2 + 1)), (5, .int (f2_at τ γ_41 0 (f5_beside τ x3 x4))), (0, .ref (ad 4)), (1, .int x1), (3, .int x3), (4, .int x4)]) hx hb dX6_bordersOf_109 hl (k := 3) rfl (by rfl) (by decide) rfl (fun ls hl => ?_)
                        refine lv_iinc (v := x4 + 1) (lv' := [(4, .int (x4 + 1)), (2, .int (x2 + 1)), (5, .int (f2_at τ γ_41 0 (f5_beside τ x3 x4))), (0, .ref (ad 4)), (1, .int x1), (3, .int x3)]) hx hb dX6_bordersOf_112 hl (k := 5) rfl (by rfl) (by decide) rfl (fun ls hl => ?_)
                        refine lv_goto (tgt := 41) hx hb dX6_bordersOf_115 (by decide) ?_
                        have e9 : f6_bordersOf_L41 τ x1 x3 (n + 1) γ_41 x2 x4 = f6_bordersOf_L41 τ x1 x3 n (sa γ_41 10 (f2_at τ γ_41 0 (f5_beside τ x3 x4)).toNatClampNeg 1) (x2 + 1) (x4 + 1) := by rw [f6_bordersOf_L41_s]; (try rw [if_neg c_3]); (try rw [if_neg c_4]); (try rw [if_neg c_5]); (try rw [if_neg c_6]); (try rw [if_pos c_7])
                        rw [e9] at kk
                        exact ih (sa γ_41 10 (f2_at τ γ_41 0 (f5_beside τ x3 x4)).toNatClampNeg 1) (x2 + 1) (x4 + 1) (nm_dec (Int32.not_le.mp c_3) hn) _ _ hP hS ls (lv_sub hl [3, 4, 1, 5, 0] rfl) kk
          refine hL41 x1 x3 8589934592 γ_12 x2 0 (nm_lt _ _) _ _ hP hS ls (lv_sub hl [1, 2, 3, 4, 0] rfl) (fun H locs hP hS ls hl => ?_)
          refine lv_iinc (v := x3 + 1) (lv' := [(3, .int (x3 + 1)), (0, .ref (ad 4)), (1, .int x1), (2, .int ((f6_bordersOf_L41 τ x1 x3 8589934592 γ_12 x2 0).1)), (4, .int ((f6_bordersOf_L41 τ x1 x3 8589934592 γ_12 x2 0).2.1))]) hx hb dX6_bordersOf_118 hl (k := 3) rfl (by rfl) (by decide) rfl (fun ls hl => ?_)
          refine lv_goto (tgt := 12) hx hb dX6_bordersOf_121 (by decide) ?_
          have e9 : f6_bordersOf_L12 τ x1 (n + 1) γ_12 x2 x3 = f6_bordersOf_L12 τ x1 n ((f6_bordersOf_L41 τ x1 x3 8589934592 γ_12 x2 0).2.2) ((f6_bordersOf_L41 τ x1 x3 8589934592 γ_12 x2 0).1) (x3 + 1) := by rw [f6_bordersOf_L12_s]; (try rw [if_neg c_1]); (try rw [if_pos c_2])
          rw [e9] at kk
          exact ih ((f6_bordersOf_L41 τ x1 x3 8589934592 γ_12 x2 0).2.2) ((f6_bordersOf_L41 τ x1 x3 8589934592 γ_12 x2 0).1) (x3 + 1) (nm_dec (Int32.not_le.mp c_1) hn) _ _ hP hS ls (lv_sub hl [1, 2, 3, 0] rfl) kk
        · refine lv_goto (tgt := 118) hx hb dX6_bordersOf_35 (by decide) ?_
          refine lv_iinc (v := x3 + 1) (lv' := [(3, .int (x3 + 1)), (0, .ref (ad 4)), (1, .int x1), (2, .int x2)]) hx hb dX6_bordersOf_118 hl (k := 3) rfl (by rfl) (by decide) rfl (fun ls hl => ?_)
          refine lv_goto (tgt := 12) hx hb dX6_bordersOf_121 (by decide) ?_
          have e9 : f6_bordersOf_L12 τ x1 (n + 1) γ_12 x2 x3 = f6_bordersOf_L12 τ x1 n γ_12 x2 (x3 + 1) := by rw [f6_bordersOf_L12_s]; (try rw [if_neg c_1]); (try rw [if_neg c_2])
          rw [e9] at kk
          exact ih γ_12 x2 (x3 + 1) (nm_dec (Int32.not_le.mp c_1) hn) _ _ hP hS ls (lv_sub hl [1, 2, 3, 0] rfl) kk
  refine hL12 a1 8589934592 (saf γ 10 (fillF (γ.2 10) 64 0)) 0 0 (nm_lt _ _) _ _ hP hS ls (lv_sub hl [2, 3, 1, 0] rfl) (fun H locs hP hS ls hl => ?_)
  refine lv_iload_n hx hb dX6_bordersOf_124 rfl (lv_at hl 2 rfl) ?_
  have e9 : ((f6_bordersOf_L12 τ a1 8589934592 (saf γ 10 (fillF (γ.2 10) 64 0)) 0 0).1, ((f6_bordersOf_L12 τ a1 8589934592 (saf γ 10 (fillF (γ.2 10) 64 0)) 0 0).2.2)) = f6_bordersOf τ γ a1 := rfl
  exact sy_retVI hx hb hr hlk hP hS rfl (by rw [← e9]) (by rw [← e9]) dX6_bordersOf_125
theorem bo41_1 {τ : Sg} {x1 x3 : Int32} : ∀ (n : Nat) (γ : Sg) (x2 x4 : Int32), (f6_bordersOf_L41 τ x1 x3 n γ x2 x4).2.2.1 = γ.1 := by
  intro n
  induction n with
  | zero => intro γ x2 x4; rfl
  | succ n ih =>
    intro γ x2 x4
    rw [f6_bordersOf_L41_s]
    (repeat' split) <;> first | rfl | exact (ih _ _ _).trans rfl
theorem bo12_1 {τ : Sg} {x1 : Int32} : ∀ (n : Nat) (γ : Sg) (x2 x3 : Int32), (f6_bordersOf_L12 τ x1 n γ x2 x3).2.2.1 = γ.1 := by
  intro n
  induction n with
  | zero => intro γ x2 x3; rfl
  | succ n ih =>
    intro γ x2 x3
    rw [f6_bordersOf_L12_s]
    (repeat' split) <;> first | rfl | exact (ih _ _ _).trans rfl | exact (ih _ _ _).trans ((bo41_1 _ _ _ _).trans rfl)
theorem bordersOf_1 {τ γ : Sg} {x1 : Int32} : (f6_bordersOf τ γ x1).2.1 = γ.1 := (bo12_1 _ _ _ _).trans rfl
/-- X6_workOf -/
theorem hd_X6_workOf : yX6_workOf.cls = yX6_workOf.cls ∧ yX6_workOf.cls ≠ "java/lang/invoke/MethodHandle" ∧ yX6_workOf.cls ≠ "java/lang/invoke/VarHandle" ∧ (parseMethodDescriptor yX6_workOf.desc).map (fun d => d.parameters.length) = some 1 := by decide +kernel
def f6_workOf_L4 (τ : Sg) (π : Sg) (γ : Sg) (x1 : Int32) : Nat → Int32 → Int32 → Int32 × Int32
  | 0, x2, x3 => (x2, x3)
  | n + 1, x2, x3 => (if (f5_cells τ) ≤ x3 then (x2, x3) else (if (f2_at τ γ 0 x3) = x1 then (f6_workOf_L4 τ π γ x1 n (x2 + (f3_workAt π x3)) (x3 + 1)) else (f6_workOf_L4 τ π γ x1 n (x2 + 0) (x3 + 1))))
theorem f6_workOf_L4_s (τ : Sg) (π : Sg) (γ : Sg) (x1 : Int32) (n : Nat) (x2 : Int32) (x3 : Int32) : f6_workOf_L4 τ π γ x1 (n + 1) x2 x3 = (if (f5_cells τ) ≤ x3 then (x2, x3) else (if (f2_at τ γ 0 x3) = x1 then (f6_workOf_L4 τ π γ x1 n (x2 + (f3_workAt π x3)) (x3 + 1)) else (f6_workOf_L4 τ π γ x1 n (x2 + 0) (x3 + 1)))) := rfl
def f6_workOf (τ : Sg) (π : Sg) (γ : Sg) (a1 : Int32) : Int32 := (f6_workOf_L4 τ π γ a1 8589934592 0 0).1
set_option maxHeartbeats 400000 in
set_option maxRecDepth 100000 in
theorem m6_workOf (l : Launch) (D : va_G) (cA : ClassId) (ad : Nat → Nat) (τ ρ π γ : Sg) (hT : Ok τ) (a1 : Int32) : Met l yX6_workOf (wM yX6_workOf cX6_workOf 4 (some .int)) ({ frames := 2, cells := 0, slots := 0, locals := 42 }) (va_Pc [.ref (ad 4), .int a1] (pS D cA ad τ ρ π γ)) (QcRead (f6_workOf τ π γ a1)) 0 0 noA := by
  refine sy_of (by decide) (Nat.le_of_ble_eq_true rfl) ?_
  intro p e s m below meth c ls C hr hlk hK hN hP hl
  obtain ⟨hx, hb, hml, hown, hts⟩ := id C
  have htA : ∀ w ∈ wA, w.before ([.ref (ad 4), .int a1] : List Value).toArray s = true := fun w h => hts w (List.mem_cons_of_mem _ h)
  have hl : lv_has ls 4 [(0, .ref (ad 4)), (1, .int a1)] := hl
  refine lv_iconst (v := 0) hx hb dX6_workOf_0 (by decide) ?_
  refine lv_istore_n (lv' := [(2, .int 0), (0, .ref (ad 4)), (1, .int a1)]) hx hb dX6_workOf_1 rfl hl (by decide) rfl (fun ls hl => ?_)
  refine lv_iconst (v := 0) hx hb dX6_workOf_2 (by decide) ?_
  refine lv_istore_n (lv' := [(3, .int 0), (2, .int 0), (0, .ref (ad 4)), (1, .int a1)]) hx hb dX6_workOf_3 rfl hl (by decide) rfl (fun ls hl => ?_)
  have hL4 : ∀ (x1 : Int32) (n : Nat) (x2 : Int32) (x3 : Int32), nm x3 (f5_cells τ) < n → ∀ ls : Array Slot, lv_has ls 4 [(0, .ref (ad 4)), (1, .int x1), (2, .int x2), (3, .int x3)] → (∀ ls : Array Slot, lv_has ls 4 [(0, .ref (ad 4)), (1, .int x1), (2, .int ((f6_workOf_L4 τ π γ x1 n x2 x3).1)), (3, .int ((f6_workOf_L4 τ π γ x1 n x2 x3).2))] → W p l e ({ frames := 2, cells := 0, slots := 0, locals := 42 }) s m ([.ref (ad 4), .int a1] : List Value).toArray below meth c s.heap [] 0 0 (MQ below (QcRead (f6_workOf τ π γ a1)) ([.ref (ad 4), .int a1] : List Value).toArray s 0 0 noA) (F0 m 48 ls [])) → W p l e ({ frames := 2, cells := 0, slots := 0, locals := 42 }) s m ([.ref (ad 4), .int a1] : List Value).toArray below meth c s.heap [] 0 0 (MQ below (QcRead (f6_workOf τ π γ a1)) ([.ref (ad 4), .int a1] : List Value).toArray s 0 0 noA) (F0 m 4 ls []) := by
    intro x1 n
    induction n with
    | zero =>
      intro x2 x3 hn
      exact absurd hn (Nat.not_lt_zero _)
    | succ n ih =>
      intro x2 x3 hn ls hl kk
      refine lv_iload_n hx hb dX6_workOf_4 rfl (lv_at hl 3 rfl) ?_
      refine lv_aload_n hx hb dX6_workOf_5 rfl (lv_at hl 0 rfl) ?_
      refine gX6_0 hx hb htA hown hK hP dX6_workOf_6 ?_
      refine sy_cv (rest := [.int x3]) C hK hN hP (m5_cells l D cA ad τ ρ π γ) (1) 7 rfl rfl kw_375 kw_184 kw_185 kw_16 kw_186 hd_X5_cells ⟨Nat.le_of_ble_eq_true rfl, Nat.le_of_ble_eq_true rfl⟩ rfl rfl rfl hl.1 rfl (Nat.le_of_ble_eq_true rfl) dX6_workOf_9 ⟨Nat.zero_le _, Nat.zero_le _⟩ ?_
      refine lv_icmp_ge (tgt := 48) hx hb dX6_workOf_12 (by decide) (fun c_1 => ?_) (fun c_1 => ?_)
      · have e9 : f6_workOf_L4 τ π γ x1 (n + 1) x2 x3 = (x2, x3) := by rw [f6_workOf_L4_s]; (try rw [if_pos c_1])
        rw [e9] at kk
        exact kk ls (lv_sub hl [0, 1, 2, 3] rfl)
      · refine lv_iload_n hx hb dX6_workOf_15 rfl (lv_at hl 2 rfl) ?_
        refine lv_aload_n hx hb dX6_workOf_16 rfl (lv_at hl 0 rfl) ?_
        refine gX6_2 hx hb htA hown hK hP dX6_workOf_17 ?_
        refine lv_iload_n hx hb dX6_workOf_20 rfl (lv_at hl 3 rfl) ?_
        refine sy_cv (rest := [.int x2]) C hK hN hP (m2_at l D cA ad τ ρ π γ hT 0 (by decide) x3) (5) 4 rfl rfl kw_286 kw_210 kw_211 kw_81 kw_212 hd_X2_at ⟨Nat.le_of_ble_eq_true rfl, Nat.le_of_ble_eq_true rfl⟩ rfl rfl rfl hl.1 rfl (Nat.le_of_ble_eq_true rfl) dX6_workOf_21 ⟨Nat.zero_le _, Nat.zero_le _⟩ ?_
        refine lv_iload_n hx hb dX6_workOf_24 rfl (lv_at hl 1 rfl) ?_
        refine lv_icmp_ne (tgt := 39) hx hb dX6_workOf_25 (by decide) (fun c_2 => ?_) (fun c_2 => ?_)
        · refine lv_iconst (v := 0) hx hb dX6_workOf_39 (by decide) ?_
          refine lv_iadd hx hb dX6_workOf_40 ?_
          refine lv_istore_n (lv' := [(2, .int (x2 + 0)), (0, .ref (ad 4)), (1, .int x1), (3, .int x3)]) hx hb dX6_workOf_41 rfl hl (by decide) rfl (fun ls hl => ?_)
          refine lv_iinc (v := x3 + 1) (lv' := [(3, .int (x3 + 1)), (2, .int (x2 + 0)), (0, .ref (ad 4)), (1, .int x1)]) hx hb dX6_workOf_42 hl (k := 3) rfl (by rfl) (by decide) rfl (fun ls hl => ?_)
          refine lv_goto (tgt := 4) hx hb dX6_workOf_45 (by decide) ?_
          have e9 : f6_workOf_L4 τ π γ x1 (n + 1) x2 x3 = f6_workOf_L4 τ π γ x1 n (x2 + 0) (x3 + 1) := by rw [f6_workOf_L4_s]; (try rw [if_neg c_1]); (try rw [if_neg c_2])
          rw [e9] at kk
          exact ih (x2 + 0) (x3 + 1) (nm_dec (Int32.not_le.mp c_1) hn)  ls (lv_sub hl [2, 3, 1, 0] rfl) kk
        · refine lv_aload_n hx hb dX6_workOf_28 rfl (lv_at hl 0 rfl) ?_
          refine gX6_5 hx hb htA hown hK hP dX6_workOf_29 ?_
          refine lv_iload_n hx hb dX6_workOf_32 rfl (lv_at hl 3 rfl) ?_
          refine sy_cv (rest := [.int x2]) C hK hN hP (m3_workAt l D cA ad τ ρ π γ x3) (3) 5 rfl rfl kw_272 kw_273 kw_274 kw_24 kw_275 hd_X3_workAt ⟨Nat.le_of_ble_eq_true rfl, Nat.le_of_ble_eq_true rfl⟩ rfl rfl rfl hl.1 rfl (Nat.le_of_ble_eq_true rfl) dX6_workOf_33 ⟨Nat.zero_le _, Nat.zero_le _⟩ ?_
          refine lv_goto (tgt := 40) hx hb dX6_workOf_36 (by decide) ?_
          refine lv_iadd hx hb dX6_workOf_40 ?_
          refine lv_istore_n (lv' := [(2, .int (x2 + (f3_workAt π x3))), (0, .ref (ad 4)), (1, .int x1), (3, .int x3)]) hx hb dX6_workOf_41 rfl hl (by decide) rfl (fun ls hl => ?_)
          refine lv_iinc (v := x3 + 1) (lv' := [(3, .int (x3 + 1)), (2, .int (x2 + (f3_workAt π x3))), (0, .ref (ad 4)), (1, .int x1)]) hx hb dX6_workOf_42 hl (k := 3) rfl (by rfl) (by decide) rfl (fun ls hl => ?_)
          refine lv_goto (tgt := 4) hx hb dX6_workOf_45 (by decide) ?_
          have e9 : f6_workOf_L4 τ π γ x1 (n + 1) x2 x3 = f6_workOf_L4 τ π γ x1 n (x2 + (f3_workAt π x3)) (x3 + 1) := by rw [f6_workOf_L4_s]; (try rw [if_neg c_1]); (try rw [if_pos c_2])
          rw [e9] at kk
          exact ih (x2 + (f3_workAt π x3)) (x3 + 1) (nm_dec (Int32.not_le.mp c_1) hn)  ls (lv_sub hl [2, 3, 1, 0] rfl) kk
  refine hL4 a1 8589934592 0 0 (nm_lt _ _) ls (lv_sub hl [2, 3, 1, 0] rfl) (fun ls hl => ?_)
  refine lv_iload_n hx hb dX6_workOf_48 rfl (lv_at hl 2 rfl) ?_
  have e9 : (f6_workOf_L4 τ π γ a1 8589934592 0 0).1 = f6_workOf τ π γ a1 := rfl
  exact sy_ret hx hb hr hlk e9 dX6_workOf_49
/-- X6_hardOf -/
theorem hd_X6_hardOf : yX6_hardOf.cls = yX6_hardOf.cls ∧ yX6_hardOf.cls ≠ "java/lang/invoke/MethodHandle" ∧ yX6_hardOf.cls ≠ "java/lang/invoke/VarHandle" ∧ (parseMethodDescriptor yX6_hardOf.desc).map (fun d => d.parameters.length) = some 1 := by decide +kernel
def f6_hardOf_L4 (τ : Sg) (π : Sg) (γ : Sg) (x1 : Int32) : Nat → Int32 → Int32 → Int32 × Int32
  | 0, x2, x3 => (x2, x3)
  | n + 1, x2, x3 => (if (f5_cells τ) ≤ x3 then (x2, x3) else (if (f2_at τ γ 0 x3) = x1 then (f6_hardOf_L4 τ π γ x1 n (x2 + (f3_hardAt π x3)) (x3 + 1)) else (f6_hardOf_L4 τ π γ x1 n (x2 + 0) (x3 + 1))))
theorem f6_hardOf_L4_s (τ : Sg) (π : Sg) (γ : Sg) (x1 : Int32) (n : Nat) (x2 : Int32) (x3 : Int32) : f6_hardOf_L4 τ π γ x1 (n + 1) x2 x3 = (if (f5_cells τ) ≤ x3 then (x2, x3) else (if (f2_at τ γ 0 x3) = x1 then (f6_hardOf_L4 τ π γ x1 n (x2 + (f3_hardAt π x3)) (x3 + 1)) else (f6_hardOf_L4 τ π γ x1 n (x2 + 0) (x3 + 1)))) := rfl
def f6_hardOf (τ : Sg) (π : Sg) (γ : Sg) (a1 : Int32) : Int32 := (f6_hardOf_L4 τ π γ a1 8589934592 0 0).1
set_option maxHeartbeats 400000 in
set_option maxRecDepth 100000 in
theorem m6_hardOf (l : Launch) (D : va_G) (cA : ClassId) (ad : Nat → Nat) (τ ρ π γ : Sg) (hT : Ok τ) (a1 : Int32) : Met l yX6_hardOf (wM yX6_hardOf cX6_hardOf 4 (some .int)) ({ frames := 2, cells := 0, slots := 0, locals := 42 }) (va_Pc [.ref (ad 4), .int a1] (pS D cA ad τ ρ π γ)) (QcRead (f6_hardOf τ π γ a1)) 0 0 noA := by
  refine sy_of (by decide) (Nat.le_of_ble_eq_true rfl) ?_
  intro p e s m below meth c ls C hr hlk hK hN hP hl
  obtain ⟨hx, hb, hml, hown, hts⟩ := id C
  have htA : ∀ w ∈ wA, w.before ([.ref (ad 4), .int a1] : List Value).toArray s = true := fun w h => hts w (List.mem_cons_of_mem _ h)
  have hl : lv_has ls 4 [(0, .ref (ad 4)), (1, .int a1)] := hl
  refine lv_iconst (v := 0) hx hb dX6_hardOf_0 (by decide) ?_
  refine lv_istore_n (lv' := [(2, .int 0), (0, .ref (ad 4)), (1, .int a1)]) hx hb dX6_hardOf_1 rfl hl (by decide) rfl (fun ls hl => ?_)
  refine lv_iconst (v := 0) hx hb dX6_hardOf_2 (by decide) ?_
  refine lv_istore_n (lv' := [(3, .int 0), (2, .int 0), (0, .ref (ad 4)), (1, .int a1)]) hx hb dX6_hardOf_3 rfl hl (by decide) rfl (fun ls hl => ?_)
  have hL4 : ∀ (x1 : Int32) (n : Nat) (x2 : Int32) (x3 : Int32), nm x3 (f5_cells τ) < n → ∀ ls : Array Slot, lv_has ls 4 [(0, .ref (ad 4)), (1, .int x1), (2, .int x2), (3, .int x3)] → (∀ ls : Array Slot, lv_has ls 4 [(0, .ref (ad 4)), (1, .int x1), (2, .int ((f6_hardOf_L4 τ π γ x1 n x2 x3).1)), (3, .int ((f6_hardOf_L4 τ π γ x1 n x2 x3).2))] → W p l e ({ frames := 2, cells := 0, slots := 0, locals := 42 }) s m ([.ref (ad 4), .int a1] : List Value).toArray below meth c s.heap [] 0 0 (MQ below (QcRead (f6_hardOf τ π γ a1)) ([.ref (ad 4), .int a1] : List Value).toArray s 0 0 noA) (F0 m 48 ls [])) → W p l e ({ frames := 2, cells := 0, slots := 0, locals := 42 }) s m ([.ref (ad 4), .int a1] : List Value).toArray below meth c s.heap [] 0 0 (MQ below (QcRead (f6_hardOf τ π γ a1)) ([.ref (ad 4), .int a1] : List Value).toArray s 0 0 noA) (F0 m 4 ls []) := by
    intro x1 n
    induction n with
    | zero =>
      intro x2 x3 hn
      exact absurd hn (Nat.not_lt_zero _)
    | succ n ih =>
      intro x2 x3 hn ls hl kk
      refine lv_iload_n hx hb dX6_hardOf_4 rfl (lv_at hl 3 rfl) ?_
      refine lv_aload_n hx hb dX6_hardOf_5 rfl (lv_at hl 0 rfl) ?_
      refine gX6_0 hx hb htA hown hK hP dX6_hardOf_6 ?_
      refine sy_cv (rest := [.int x3]) C hK hN hP (m5_cells l D cA ad τ ρ π γ) (1) 7 rfl rfl kw_375 kw_184 kw_185 kw_16 kw_186 hd_X5_cells ⟨Nat.le_of_ble_eq_true rfl, Nat.le_of_ble_eq_true rfl⟩ rfl rfl rfl hl.1 rfl (Nat.le_of_ble_eq_true rfl) dX6_hardOf_9 ⟨Nat.zero_le _, Nat.zero_le _⟩ ?_
      refine lv_icmp_ge (tgt := 48) hx hb dX6_hardOf_12 (by decide) (fun c_1 => ?_) (fun c_1 => ?_)
      · have e9 : f6_hardOf_L4 τ π γ x1 (n + 1) x2 x3 = (x2, x3) := by rw [f6_hardOf_L4_s]; (try rw [if_pos c_1])
        rw [e9] at kk
        exact kk ls (lv_sub hl [0, 1, 2, 3] rfl)
      · refine lv_iload_n hx hb dX6_hardOf_15 rfl (lv_at hl 2 rfl) ?_
        refine lv_aload_n hx hb dX6_hardOf_16 rfl (lv_at hl 0 rfl) ?_
        refine gX6_2 hx hb htA hown hK hP dX6_hardOf_17 ?_
        refine lv_iload_n hx hb dX6_hardOf_20 rfl (lv_at hl 3 rfl) ?_
        refine sy_cv (rest := [.int x2]) C hK hN hP (m2_at l D cA ad τ ρ π γ hT 0 (by decide) x3) (5) 4 rfl rfl kw_286 kw_210 kw_211 kw_81 kw_212 hd_X2_at ⟨Nat.le_of_ble_eq_true rfl, Nat.le_of_ble_eq_true rfl⟩ rfl rfl rfl hl.1 rfl (Nat.le_of_ble_eq_true rfl) dX6_hardOf_21 ⟨Nat.zero_le _, Nat.zero_le _⟩ ?_
        refine lv_iload_n hx hb dX6_hardOf_24 rfl (lv_at hl 1 rfl) ?_
        refine lv_icmp_ne (tgt := 39) hx hb dX6_hardOf_25 (by decide) (fun c_2 => ?_) (fun c_2 => ?_)
        · refine lv_iconst (v := 0) hx hb dX6_hardOf_39 (by decide) ?_
          refine lv_iadd hx hb dX6_hardOf_40 ?_
          refine lv_istore_n (lv' := [(2, .int (x2 + 0)), (0, .ref (ad 4)), (1, .int x1), (3, .int x3)]) hx hb dX6_hardOf_41 rfl hl (by decide) rfl (fun ls hl => ?_)
          refine lv_iinc (v := x3 + 1) (lv' := [(3, .int (x3 + 1)), (2, .int (x2 + 0)), (0, .ref (ad 4)), (1, .int x1)]) hx hb dX6_hardOf_42 hl (k := 3) rfl (by rfl) (by decide) rfl (fun ls hl => ?_)
          refine lv_goto (tgt := 4) hx hb dX6_hardOf_45 (by decide) ?_
          have e9 : f6_hardOf_L4 τ π γ x1 (n + 1) x2 x3 = f6_hardOf_L4 τ π γ x1 n (x2 + 0) (x3 + 1) := by rw [f6_hardOf_L4_s]; (try rw [if_neg c_1]); (try rw [if_neg c_2])
          rw [e9] at kk
          exact ih (x2 + 0) (x3 + 1) (nm_dec (Int32.not_le.mp c_1) hn)  ls (lv_sub hl [2, 3, 1, 0] rfl) kk
        · refine lv_aload_n hx hb dX6_hardOf_28 rfl (lv_at hl 0 rfl) ?_
          refine gX6_5 hx hb htA hown hK hP dX6_hardOf_29 ?_
          refine lv_iload_n hx hb dX6_hardOf_32 rfl (lv_at hl 3 rfl) ?_
          refine sy_cv (rest := [.int x2]) C hK hN hP (m3_hardAt l D cA ad τ ρ π γ x3) (3) 5 rfl rfl kw_276 kw_277 kw_278 kw_24 kw_279 hd_X3_hardAt ⟨Nat.le_of_ble_eq_true rfl, Nat.le_of_ble_eq_true rfl⟩ rfl rfl rfl hl.1 rfl (Nat.le_of_ble_eq_true rfl) dX6_hardOf_33 ⟨Nat.zero_le _, Nat.zero_le _⟩ ?_
          refine lv_goto (tgt := 40) hx hb dX6_hardOf_36 (by decide) ?_
          refine lv_iadd hx hb dX6_hardOf_40 ?_
          refine lv_istore_n (lv' := [(2, .int (x2 + (f3_hardAt π x3))), (0, .ref (ad 4)), (1, .int x1), (3, .int x3)]) hx hb dX6_hardOf_41 rfl hl (by decide) rfl (fun ls hl => ?_)
          refine lv_iinc (v := x3 + 1) (lv' := [(3, .int (x3 + 1)), (2, .int (x2 + (f3_hardAt π x3))), (0, .ref (ad 4)), (1, .int x1)]) hx hb dX6_hardOf_42 hl (k := 3) rfl (by rfl) (by decide) rfl (fun ls hl => ?_)
          refine lv_goto (tgt := 4) hx hb dX6_hardOf_45 (by decide) ?_
          have e9 : f6_hardOf_L4 τ π γ x1 (n + 1) x2 x3 = f6_hardOf_L4 τ π γ x1 n (x2 + (f3_hardAt π x3)) (x3 + 1) := by rw [f6_hardOf_L4_s]; (try rw [if_neg c_1]); (try rw [if_pos c_2])
          rw [e9] at kk
          exact ih (x2 + (f3_hardAt π x3)) (x3 + 1) (nm_dec (Int32.not_le.mp c_1) hn)  ls (lv_sub hl [2, 3, 1, 0] rfl) kk
  refine hL4 a1 8589934592 0 0 (nm_lt _ _) ls (lv_sub hl [2, 3, 1, 0] rfl) (fun ls hl => ?_)
  refine lv_iload_n hx hb dX6_hardOf_48 rfl (lv_at hl 2 rfl) ?_
  have e9 : (f6_hardOf_L4 τ π γ a1 8589934592 0 0).1 = f6_hardOf τ π γ a1 := rfl
  exact sy_ret hx hb hr hlk e9 dX6_hardOf_49
/-- X6_grainNumber -/
theorem hd_X6_grainNumber : yX6_grainNumber.cls = yX6_grainNumber.cls ∧ yX6_grainNumber.cls ≠ "java/lang/invoke/MethodHandle" ∧ yX6_grainNumber.cls ≠ "java/lang/invoke/VarHandle" ∧ (parseMethodDescriptor yX6_grainNumber.desc).map (fun d => d.parameters.length) = some 2 := by decide +kernel
def f6_grainNumber (τ : Sg) (π : Sg) (γ : Sg) (a1 : Int32) (a2 : Int32) : Int32 × Sg := (if a2 = 0 then (f3_markAt π (f2_firstOf γ 0 a1), γ) else (if a2 = 1 then (f2_sizeOf γ 0 a1, γ) else (if a2 = 2 then (f6_roundOf τ γ a1, γ) else (if a2 = 3 then ((f6_bordersOf τ γ a1).1, ((f6_bordersOf τ γ a1).2)) else (if a2 = 4 then (f2_firstOf γ 0 a1, γ) else (if a2 = 5 then (f6_workOf τ π γ a1, γ) else (if a2 = 6 then (f6_hardOf τ π γ a1, γ) else (0, γ))))))))
set_option maxHeartbeats 400000 in
set_option maxRecDepth 100000 in
theorem m6_grainNumber (l : Launch) (D : va_G) (cA : ClassId) (ad : Nat → Nat) (had : Apart ad) (τ ρ π γ : Sg) (hT : Ok τ) (a1 : Int32) (a2 : Int32) : Met l yX6_grainNumber (wM yX6_grainNumber cX6_grainNumber 3 (some .int)) ({ frames := 3, cells := 0, slots := 0, locals := 67 }) (va_Pc [.ref (ad 4), .int a1, .int a2] (pS D cA ad τ ρ π γ)) (qV D cA ad τ ρ π ((f6_grainNumber τ π γ a1 a2).2) (some (.int ((f6_grainNumber τ π γ a1 a2).1)))) 0 0 (aS ad) := by
  refine sy_of (by decide) (Nat.le_of_ble_eq_true rfl) ?_
  intro p e s m below meth c ls C hr hlk hK hN hP hl
  obtain ⟨hx, hb, hml, hown, hts⟩ := id C
  have htA : ∀ w ∈ wA, w.before ([.ref (ad 4), .int a1, .int a2] : List Value).toArray s = true := fun w h => hts w (List.mem_cons_of_mem _ h)
  have hl : lv_has ls 3 [(0, .ref (ad 4)), (1, .int a1), (2, .int a2)] := hl
  have hS : va_S (aS ad) s.heap s.heap [] := va_S.rf
  refine lv_iload_n hx hb dX6_grainNumber_0 rfl (lv_at hl 2 rfl) ?_
  by_cases c_1 : a2 = 0
  · refine lv_tableIn (tgt := 44) hx hb dX6_grainNumber_1 (by rw [c_1]; decide) (by rw [c_1]; decide) (by rw [c_1]; rfl) (by decide) ?_
    refine lv_aload_n hx hb dX6_grainNumber_44 rfl (lv_at hl 0 rfl) ?_
    refine gX6_5 hx hb htA hown hK hP dX6_grainNumber_45 ?_
    refine lv_aload_n hx hb dX6_grainNumber_48 rfl (lv_at hl 0 rfl) ?_
    refine gX6_2 hx hb htA hown hK hP dX6_grainNumber_49 ?_
    refine lv_iload_n hx hb dX6_grainNumber_52 rfl (lv_at hl 1 rfl) ?_
    refine sy_cv (rest := [.ref (ad 3)]) C hK hN hP (m2_firstOf l D cA ad τ ρ π γ 0 (by decide) a1) (5) 4 rfl rfl kw_561 kw_562 kw_563 kw_81 kw_564 hd_X2_firstOf ⟨Nat.le_of_ble_eq_true rfl, Nat.le_of_ble_eq_true rfl⟩ rfl rfl rfl hl.1 rfl (Nat.le_of_ble_eq_true rfl) dX6_grainNumber_53 ⟨Nat.zero_le _, Nat.zero_le _⟩ ?_
    refine sy_cv (rest := []) C hK hN hP (m3_markAt l D cA ad τ ρ π γ (f2_firstOf γ 0 a1)) (3) 5 rfl rfl kw_271 kw_206 kw_207 kw_24 kw_208 hd_X3_markAt ⟨Nat.le_of_ble_eq_true rfl, Nat.le_of_ble_eq_true rfl⟩ rfl rfl rfl hl.1 rfl (Nat.le_of_ble_eq_true rfl) dX6_grainNumber_56 ⟨Nat.zero_le _, Nat.zero_le _⟩ ?_
    have e9 : (f3_markAt π (f2_firstOf γ 0 a1), γ) = f6_grainNumber τ π γ a1 a2 := by unfold f6_grainNumber; (try rw [if_pos c_1])
    exact sy_retVI hx hb hr hlk hP hS rfl (by rw [← e9]) (by rw [← e9]) dX6_grainNumber_59
  by_cases c_2 : a2 = 1
  · refine lv_tableIn (tgt := 60) hx hb dX6_grainNumber_1 (by rw [c_2]; decide) (by rw [c_2]; decide) (by rw [c_2]; rfl) (by decide) ?_
    refine lv_aload_n hx hb dX6_grainNumber_60 rfl (lv_at hl 0 rfl) ?_
    refine gX6_2 hx hb htA hown hK hP dX6_grainNumber_61 ?_
    refine lv_iload_n hx hb dX6_grainNumber_64 rfl (lv_at hl 1 rfl) ?_
    refine sy_cv (rest := []) C hK hN hP (m2_sizeOf l D cA ad τ ρ π γ 0 (by decide) a1) (5) 4 rfl rfl kw_565 kw_461 kw_462 kw_81 kw_463 hd_X2_sizeOf ⟨Nat.le_of_ble_eq_true rfl, Nat.le_of_ble_eq_true rfl⟩ rfl rfl rfl hl.1 rfl (Nat.le_of_ble_eq_true rfl) dX6_grainNumber_65 ⟨Nat.zero_le _, Nat.zero_le _⟩ ?_
    have e9 : (f2_sizeOf γ 0 a1, γ) = f6_grainNumber τ π γ a1 a2 := by unfold f6_grainNumber; (try rw [if_neg c_1]); (try rw [if_pos c_2])
    exact sy_retVI hx hb hr hlk hP hS rfl (by rw [← e9]) (by rw [← e9]) dX6_grainNumber_68
  by_cases c_3 : a2 = 2
  · refine lv_tableIn (tgt := 69) hx hb dX6_grainNumber_1 (by rw [c_3]; decide) (by rw [c_3]; decide) (by rw [c_3]; rfl) (by decide) ?_
    refine lv_aload_n hx hb dX6_grainNumber_69 rfl (lv_at hl 0 rfl) ?_
    refine lv_iload_n hx hb dX6_grainNumber_70 rfl (lv_at hl 1 rfl) ?_
    refine sy_cv (rest := []) C hK hN hP (m6_roundOf l D cA ad τ ρ π γ hT a1) (4) 8 rfl rfl kw_566 kw_567 kw_568 kw_29 kw_569 hd_X6_roundOf ⟨Nat.le_of_ble_eq_true rfl, Nat.le_of_ble_eq_true rfl⟩ rfl rfl rfl hl.1 rfl (Nat.le_of_ble_eq_true rfl) dX6_grainNumber_71 ⟨Nat.zero_le _, Nat.zero_le _⟩ ?_
    have e9 : (f6_roundOf τ γ a1, γ) = f6_grainNumber τ π γ a1 a2 := by unfold f6_grainNumber; (try rw [if_neg c_1]); (try rw [if_neg c_2]); (try rw [if_pos c_3])
    exact sy_retVI hx hb hr hlk hP hS rfl (by rw [← e9]) (by rw [← e9]) dX6_grainNumber_74
  by_cases c_4 : a2 = 3
  · refine lv_tableIn (tgt := 75) hx hb dX6_grainNumber_1 (by rw [c_4]; decide) (by rw [c_4]; decide) (by rw [c_4]; rfl) (by decide) ?_
    refine lv_aload_n hx hb dX6_grainNumber_75 rfl (lv_at hl 0 rfl) ?_
    refine lv_iload_n hx hb dX6_grainNumber_76 rfl (lv_at hl 1 rfl) ?_
    refine sy_cvM (rest := []) (st1 := [.int ((f6_bordersOf τ γ a1).1)]) C hK hN hP (fun _ h => h) hS (m6_bordersOf l D cA ad had τ ρ π γ hT a1) (4) 8 rfl rfl kw_570 kw_571 kw_572 kw_29 kw_573 hd_X6_bordersOf ⟨Nat.le_of_ble_eq_true rfl, Nat.le_of_ble_eq_true rfl⟩ rfl rfl rfl hl.1 rfl (Nat.le_of_ble_eq_true rfl) dX6_grainNumber_77 ⟨Nat.zero_le _, Nat.zero_le _⟩ rfl (fun H locs hP hS => ?_)
    have e9 : ((f6_bordersOf τ γ a1).1, ((f6_bordersOf τ γ a1).2)) = f6_grainNumber τ π γ a1 a2 := by unfold f6_grainNumber; (try rw [if_neg c_1]); (try rw [if_neg c_2]); (try rw [if_neg c_3]); (try rw [if_pos c_4])
    exact sy_retVI hx hb hr hlk hP hS rfl (by rw [← e9]) (by rw [← e9]) dX6_grainNumber_80
  by_cases c_5 : a2 = 4
  · refine lv_tableIn (tgt := 81) hx hb dX6_grainNumber_1 (by rw [c_5]; decide) (by rw [c_5]; decide) (by rw [c_5]; rfl) (by decide) ?_
    refine lv_aload_n hx hb dX6_grainNumber_81 rfl (lv_at hl 0 rfl) ?_
    refine gX6_2 hx hb htA hown hK hP dX6_grainNumber_82 ?_
    refine lv_iload_n hx hb dX6_grainNumber_85 rfl (lv_at hl 1 rfl) ?_
    refine sy_cv (rest := []) C hK hN hP (m2_firstOf l D cA ad τ ρ π γ 0 (by decide) a1) (5) 4 rfl rfl kw_561 kw_562 kw_563 kw_81 kw_564 hd_X2_firstOf ⟨Nat.le_of_ble_eq_true rfl, Nat.le_of_ble_eq_true rfl⟩ rfl rfl rfl hl.1 rfl (Nat.le_of_ble_eq_true rfl) dX6_grainNumber_86 ⟨Nat.zero_le _, Nat.zero_le _⟩ ?_
    have e9 : (f2_firstOf γ 0 a1, γ) = f6_grainNumber τ π γ a1 a2 := by unfold f6_grainNumber; (try rw [if_neg c_1]); (try rw [if_neg c_2]); (try rw [if_neg c_3]); (try rw [if_neg c_4]); (try rw [if_pos c_5])
    exact sy_retVI hx hb hr hlk hP hS rfl (by rw [← e9]) (by rw [← e9]) dX6_grainNumber_89
  by_cases c_6 : a2 = 5
  · refine lv_tableIn (tgt := 90) hx hb dX6_grainNumber_1 (by rw [c_6]; decide) (by rw [c_6]; decide) (by rw [c_6]; rfl) (by decide) ?_
    refine lv_aload_n hx hb dX6_grainNumber_90 rfl (lv_at hl 0 rfl) ?_
    refine lv_iload_n hx hb dX6_grainNumber_91 rfl (lv_at hl 1 rfl) ?_
    refine sy_cv (rest := []) C hK hN hP (m6_workOf l D cA ad τ ρ π γ hT a1) (4) 8 rfl rfl kw_575 kw_576 kw_577 kw_29 kw_578 hd_X6_workOf ⟨Nat.le_of_ble_eq_true rfl, Nat.le_of_ble_eq_true rfl⟩ rfl rfl rfl hl.1 rfl (Nat.le_of_ble_eq_true rfl) dX6_grainNumber_92 ⟨Nat.zero_le _, Nat.zero_le _⟩ ?_
    have e9 : (f6_workOf τ π γ a1, γ) = f6_grainNumber τ π γ a1 a2 := by unfold f6_grainNumber; (try rw [if_neg c_1]); (try rw [if_neg c_2]); (try rw [if_neg c_3]); (try rw [if_neg c_4]); (try rw [if_neg c_5]); (try rw [if_pos c_6])
    exact sy_retVI hx hb hr hlk hP hS rfl (by rw [← e9]) (by rw [← e9]) dX6_grainNumber_95
  by_cases c_7 : a2 = 6
  · refine lv_tableIn (tgt := 96) hx hb dX6_grainNumber_1 (by rw [c_7]; decide) (by rw [c_7]; decide) (by rw [c_7]; rfl) (by decide) ?_
    refine lv_aload_n hx hb dX6_grainNumber_96 rfl (lv_at hl 0 rfl) ?_
    refine lv_iload_n hx hb dX6_grainNumber_97 rfl (lv_at hl 1 rfl) ?_
    refine sy_cv (rest := []) C hK hN hP (m6_hardOf l D cA ad τ ρ π γ hT a1) (4) 8 rfl rfl kw_579 kw_580 kw_581 kw_29 kw_582 hd_X6_hardOf ⟨Nat.le_of_ble_eq_true rfl, Nat.le_of_ble_eq_true rfl⟩ rfl rfl rfl hl.1 rfl (Nat.le_of_ble_eq_true rfl) dX6_grainNumber_98 ⟨Nat.zero_le _, Nat.zero_le _⟩ ?_
    have e9 : (f6_hardOf τ π γ a1, γ) = f6_grainNumber τ π γ a1 a2 := by unfold f6_grainNumber; (try rw [if_neg c_1]); (try rw [if_neg c_2]); (try rw [if_neg c_3]); (try rw [if_neg c_4]); (try rw [if_neg c_5]); (try rw [if_neg c_6]); (try rw [if_pos c_7])
    exact sy_retVI hx hb hr hlk hP hS rfl (by rw [← e9]) (by rw [← e9]) dX6_grainNumber_101
  have nc_1 : ¬ a2.toInt = 0 := ne_toInt c_1
  have nc_2 : ¬ a2.toInt = 1 := ne_toInt c_2
  have nc_3 : ¬ a2.toInt = 2 := ne_toInt c_3
  have nc_4 : ¬ a2.toInt = 3 := ne_toInt c_4
  have nc_5 : ¬ a2.toInt = 4 := ne_toInt c_5
  have nc_6 : ¬ a2.toInt = 5 := ne_toInt c_6
  have nc_7 : ¬ a2.toInt = 6 := ne_toInt c_7
  refine lv_tableOut (tgt := 102) hx hb dX6_grainNumber_1 (by omega) (by decide) ?_
  refine lv_iconst (v := 0) hx hb dX6_grainNumber_102 (by decide) ?_
  have e9 : (0, γ) = f6_grainNumber τ π γ a1 a2 := by unfold f6_grainNumber; (try rw [if_neg c_1]); (try rw [if_neg c_2]); (try rw [if_neg c_3]); (try rw [if_neg c_4]); (try rw [if_neg c_5]); (try rw [if_neg c_6]); (try rw [if_neg c_7])
  exact sy_retVI hx hb hr hlk hP hS rfl (by rw [← e9]) (by rw [← e9]) dX6_grainNumber_103
theorem grainNumber_1 {τ π γ : Sg} {x1 x2 : Int32} : (f6_grainNumber τ π γ x1 x2).2.1 = γ.1 := by
  unfold f6_grainNumber
  (repeat' split) <;> first | rfl | exact bordersOf_1
/-- X6_grainsBordering -/
theorem hd_X6_grainsBordering : yX6_grainsBordering.cls = yX6_grainsBordering.cls ∧ yX6_grainsBordering.cls ≠ "java/lang/invoke/MethodHandle" ∧ yX6_grainsBordering.cls ≠ "java/lang/invoke/VarHandle" ∧ (parseMethodDescriptor yX6_grainsBordering.desc).map (fun d => d.parameters.length) = some 1 := by decide +kernel
def f6_grainsBordering_L4 (τ : Sg) (x1 : Int32) : Nat → Sg → Int32 → Int32 → Int32 × Int32 × Sg
  | 0, γ_4, x2, x3 => (x2, x3, γ_4)
  | n + 1, γ_4, x2, x3 => (if (f2_many γ_4 0) ≤ x3 then (x2, x3, γ_4) else (if ((f6_bordersOf τ γ_4 x3).1) = x1 then (f6_grainsBordering_L4 τ x1 n ((f6_bordersOf τ γ_4 x3).2) (x2 + 1) (x3 + 1)) else (f6_grainsBordering_L4 τ x1 n ((f6_bordersOf τ γ_4 x3).2) x2 (x3 + 1))))
theorem f6_grainsBordering_L4_s (τ : Sg) (x1 : Int32) (n : Nat) (γ_4 : Sg) (x2 : Int32) (x3 : Int32) : f6_grainsBordering_L4 τ x1 (n + 1) γ_4 x2 x3 = (if (f2_many γ_4 0) ≤ x3 then (x2, x3, γ_4) else (if ((f6_bordersOf τ γ_4 x3).1) = x1 then (f6_grainsBordering_L4 τ x1 n ((f6_bordersOf τ γ_4 x3).2) (x2 + 1) (x3 + 1)) else (f6_grainsBordering_L4 τ x1 n ((f6_bordersOf τ γ_4 x3).2) x2 (x3 + 1)))) := rfl
def f6_grainsBordering (τ : Sg) (γ : Sg) (a1 : Int32) : Int32 × Sg := ((f6_grainsBordering_L4 τ a1 8589934592 γ 0 0).1, ((f6_grainsBordering_L4 τ a1 8589934592 γ 0 0).2.2))
set_option maxHeartbeats 400000 in
set_option maxRecDepth 100000 in
theorem m6_grainsBordering (l : Launch) (D : va_G) (cA : ClassId) (ad : Nat → Nat) (had : Apart ad) (τ ρ π γ : Sg) (hT : Ok τ) (a1 : Int32) : Met l yX6_grainsBordering (wM yX6_grainsBordering cX6_grainsBordering 4 (some .int)) ({ frames := 3, cells := 0, slots := 0, locals := 67 }) (va_Pc [.ref (ad 4), .int a1] (pS D cA ad τ ρ π γ)) (qV D cA ad τ ρ π ((f6_grainsBordering τ γ a1).2) (some (.int ((f6_grainsBordering τ γ a1).1)))) 0 0 (aS ad) := by
  refine sy_of (by decide) (Nat.le_of_ble_eq_true rfl) ?_
  intro p e s m below meth c ls C hr hlk hK hN hP hl
  obtain ⟨hx, hb, hml, hown, hts⟩ := id C
  have htA : ∀ w ∈ wA, w.before ([.ref (ad 4), .int a1] : List Value).toArray s = true := fun w h => hts w (List.mem_cons_of_mem _ h)
  have hl : lv_has ls 4 [(0, .ref (ad 4)), (1, .int a1)] := hl
  have hS : va_S (aS ad) s.heap s.heap [] := va_S.rf
  refine lv_iconst (v := 0) hx hb dX6_grainsBordering_0 (by decide) ?_
  refine lv_istore_n (lv' := [(2, .int 0), (0, .ref (ad 4)), (1, .int a1)]) hx hb dX6_grainsBordering_1 rfl hl (by decide) rfl (fun ls hl => ?_)
  refine lv_iconst (v := 0) hx hb dX6_grainsBordering_2 (by decide) ?_
  refine lv_istore_n (lv' := [(3, .int 0), (2, .int 0), (0, .ref (ad 4)), (1, .int a1)]) hx hb dX6_grainsBordering_3 rfl hl (by decide) rfl (fun ls hl => ?_)
  have hL4 : ∀ (x1 : Int32) (n : Nat) (γ_4 : Sg) (x2 : Int32) (x3 : Int32), nm x3 (f2_many γ_4 0) < n → ∀ (H : Heap) (locs : List Loc), va_P D vwCl (wS cA ad τ ρ π γ_4) H → va_S (aS ad) s.heap H locs → ∀ ls : Array Slot, lv_has ls 4 [(0, .ref (ad 4)), (1, .int x1), (2, .int x2), (3, .int x3)] → (∀ (H : Heap) (locs : List Loc), va_P D vwCl (wS cA ad τ ρ π ((f6_grainsBordering_L4 τ x1 n γ_4 x2 x3).2.2)) H → va_S (aS ad) s.heap H locs → ∀ ls : Array Slot, lv_has ls 4 [(0, .ref (ad 4)), (1, .int x1), (2, .int ((f6_grainsBordering_L4 τ x1 n γ_4 x2 x3).1)), (3, .int ((f6_grainsBordering_L4 τ x1 n γ_4 x2 x3).2.1))] → W p l e ({ frames := 3, cells := 0, slots := 0, locals := 67 }) s m ([.ref (ad 4), .int a1] : List Value).toArray below meth c H locs 0 0 (MQ below (qV D cA ad τ ρ π ((f6_grainsBordering τ γ a1).2) (some (.int ((f6_grainsBordering τ γ a1).1)))) ([.ref (ad 4), .int a1] : List Value).toArray s 0 0 (aS ad)) (F0 m 33 ls [])) → W p l e ({ frames := 3, cells := 0, slots := 0, locals := 67 }) s m ([.ref (ad 4), .int a1] : List Value).toArray below meth c H locs 0 0 (MQ below (qV D cA ad τ ρ π ((f6_grainsBordering τ γ a1).2) (some (.int ((f6_grainsBordering τ γ a1).1)))) ([.ref (ad 4), .int a1] : List Value).toArray s 0 0 (aS ad)) (F0 m 4 ls []) := by
    intro x1 n
    induction n with
    | zero =>
      intro γ_4 x2 x3 hn
      exact absurd hn (Nat.not_lt_zero _)
    | succ n ih =>
      intro γ_4 x2 x3 hn H locs hP hS ls hl kk
      refine lv_iload_n hx hb dX6_grainsBordering_4 rfl (lv_at hl 3 rfl) ?_
      refine lv_aload_n hx hb dX6_grainsBordering_5 rfl (lv_at hl 0 rfl) ?_
      refine gX6_2 hx hb htA hown hK hP dX6_grainsBordering_6 ?_
      refine sy_cv (rest := [.int x3]) C hK hN hP (m2_many l D cA ad τ ρ π γ_4 0 (by decide)) (5) 4 rfl rfl kw_247 kw_248 kw_249 kw_81 kw_250 hd_X2_many ⟨Nat.le_of_ble_eq_true rfl, Nat.le_of_ble_eq_true rfl⟩ rfl rfl rfl hl.1 rfl (Nat.le_of_ble_eq_true rfl) dX6_grainsBordering_9 ⟨Nat.zero_le _, Nat.zero_le _⟩ ?_
      refine lv_icmp_ge (tgt := 33) hx hb dX6_grainsBordering_12 (by decide) (fun c_1 => ?_) (fun c_1 => ?_)
      · have e9 : f6_grainsBordering_L4 τ x1 (n + 1) γ_4 x2 x3 = (x2, x3, γ_4) := by rw [f6_grainsBordering_L4_s]; (try rw [if_pos c_1])
        rw [e9] at kk
        exact kk _ _ hP hS ls (lv_sub hl [0, 1, 2, 3] rfl)
      · refine lv_aload_n hx hb dX6_grainsBordering_15 rfl (lv_at hl 0 rfl) ?_
        refine lv_iload_n hx hb dX6_grainsBordering_16 rfl (lv_at hl 3 rfl) ?_
        refine sy_cvM (rest := []) (st1 := [.int ((f6_bordersOf τ γ_4 x3).1)]) C hK hN hP (fun _ h => h) hS (m6_bordersOf l D cA ad had τ ρ π γ_4 hT x3) (4) 8 rfl rfl kw_570 kw_571 kw_572 kw_29 kw_573 hd_X6_bordersOf ⟨Nat.le_of_ble_eq_true rfl, Nat.le_of_ble_eq_true rfl⟩ rfl rfl rfl hl.1 rfl (Nat.le_of_ble_eq_true rfl) dX6_grainsBordering_17 ⟨Nat.zero_le _, Nat.zero_le _⟩ rfl (fun H locs hP hS => ?_)
        refine lv_iload_n hx hb dX6_grainsBordering_20 rfl (lv_at hl 1 rfl) ?_
        refine lv_icmp_ne (tgt := 27) hx hb dX6_grainsBordering_21 (by decide) (fun c_2 => ?_) (fun c_2 => ?_)
        · refine lv_iinc (v := x3 + 1) (lv' := [(3, .int (x3 + 1)), (0, .ref (ad 4)), (1, .int x1), (2, .int x2)]) hx hb dX6_grainsBordering_27 hl (k := 3) rfl (by rfl) (by decide) rfl (fun ls hl => ?_)
          refine lv_goto (tgt := 4) hx hb dX6_grainsBordering_30 (by decide) ?_
          have e9 : f6_grainsBordering_L4 τ x1 (n + 1) γ_4 x2 x3 = f6_grainsBordering_L4 τ x1 n ((f6_bordersOf τ γ_4 x3).2) x2 (x3 + 1) := by rw [f6_grainsBordering_L4_s]; (try rw [if_neg c_1]); (try rw [if_neg c_2])
          rw [e9] at kk
          exact ih ((f6_bordersOf τ γ_4 x3).2) x2 (x3 + 1) (by unfold f2_many; rw [bordersOf_1]; exact nm_dec (Int32.not_le.mp c_1) hn) _ _ hP hS ls (lv_sub hl [1, 2, 3, 0] rfl) kk
        · refine lv_iinc (v := x2 + 1) (lv' := [(2, .int (x2 + 1)), (0, .ref (ad 4)), (1, .int x1), (3, .int x3)]) hx hb dX6_grainsBordering_24 hl (k := 2) rfl (by rfl) (by decide) rfl (fun ls hl => ?_)
          refine lv_iinc (v := x3 + 1) (lv' := [(3, .int (x3 + 1)), (2, .int (x2 + 1)), (0, .ref (ad 4)), (1, .int x1)]) hx hb dX6_grainsBordering_27 hl (k := 3) rfl (by rfl) (by decide) rfl (fun ls hl => ?_)
          refine lv_goto (tgt := 4) hx hb dX6_grainsBordering_30 (by decide) ?_
          have e9 : f6_grainsBordering_L4 τ x1 (n + 1) γ_4 x2 x3 = f6_grainsBordering_L4 τ x1 n ((f6_bordersOf τ γ_4 x3).2) (x2 + 1) (x3 + 1) := by rw [f6_grainsBordering_L4_s]; (try rw [if_neg c_1]); (try rw [if_pos c_2])
          rw [e9] at kk
          exact ih ((f6_bordersOf τ γ_4 x3).2) (x2 + 1) (x3 + 1) (by unfold f2_many; rw [bordersOf_1]; exact nm_dec (Int32.not_le.mp c_1) hn) _ _ hP hS ls (lv_sub hl [2, 3, 1, 0] rfl) kk
  refine hL4 a1 8589934592 γ 0 0 (nm_lt _ _) _ _ hP hS ls (lv_sub hl [2, 3, 1, 0] rfl) (fun H locs hP hS ls hl => ?_)
  refine lv_iload_n hx hb dX6_grainsBordering_33 rfl (lv_at hl 2 rfl) ?_
  have e9 : ((f6_grainsBordering_L4 τ a1 8589934592 γ 0 0).1, ((f6_grainsBordering_L4 τ a1 8589934592 γ 0 0).2.2)) = f6_grainsBordering τ γ a1 := rfl
  exact sy_retVI hx hb hr hlk hP hS rfl (by rw [← e9]) (by rw [← e9]) dX6_grainsBordering_34
/-- X6_textureOf -/
theorem hd_X6_textureOf : yX6_textureOf.cls = yX6_textureOf.cls ∧ yX6_textureOf.cls ≠ "java/lang/invoke/MethodHandle" ∧ yX6_textureOf.cls ≠ "java/lang/invoke/VarHandle" ∧ (parseMethodDescriptor yX6_textureOf.desc).map (fun d => d.parameters.length) = some 1 := by decide +kernel
def f6_textureOf_L4 (τ : Sg) (π : Sg) (x1 : Int32) : Nat → Int32 → Int32 → Int32 × Int32
  | 0, x2, x3 => (x2, x3)
  | n + 1, x2, x3 => (if (f5_cells τ) ≤ x3 then (x2, x3) else (if (f3_markAt π x3) = x1 then (f6_textureOf_L4 τ π x1 n (x2 + 1) (x3 + 1)) else (f6_textureOf_L4 τ π x1 n x2 (x3 + 1))))
theorem f6_textureOf_L4_s (τ : Sg) (π : Sg) (x1 : Int32) (n : Nat) (x2 : Int32) (x3 : Int32) : f6_textureOf_L4 τ π x1 (n + 1) x2 x3 = (if (f5_cells τ) ≤ x3 then (x2, x3) else (if (f3_markAt π x3) = x1 then (f6_textureOf_L4 τ π x1 n (x2 + 1) (x3 + 1)) else (f6_textureOf_L4 τ π x1 n x2 (x3 + 1)))) := rfl
def f6_textureOf (τ : Sg) (π : Sg) (a1 : Int32) : Int32 := (if (f5_cells τ) ≤ 0 then 0 else (1000 * ((f6_textureOf_L4 τ π a1 8589934592 0 0).1)) / (f5_cells τ))
set_option maxHeartbeats 400000 in
set_option maxRecDepth 100000 in
theorem m6_textureOf (l : Launch) (D : va_G) (cA : ClassId) (ad : Nat → Nat) (τ ρ π γ : Sg) (a1 : Int32) : Met l yX6_textureOf (wM yX6_textureOf cX6_textureOf 4 (some .int)) ({ frames := 1, cells := 0, slots := 0, locals := 21 }) (va_Pc [.ref (ad 4), .int a1] (pS D cA ad τ ρ π γ)) (QcRead (f6_textureOf τ π a1)) 0 0 noA := by
  refine sy_of (by decide) (Nat.le_of_ble_eq_true rfl) ?_
  intro p e s m below meth c ls C hr hlk hK hN hP hl
  obtain ⟨hx, hb, hml, hown, hts⟩ := id C
  have htA : ∀ w ∈ wA, w.before ([.ref (ad 4), .int a1] : List Value).toArray s = true := fun w h => hts w (List.mem_cons_of_mem _ h)
  have hl : lv_has ls 4 [(0, .ref (ad 4)), (1, .int a1)] := hl
  refine lv_iconst (v := 0) hx hb dX6_textureOf_0 (by decide) ?_
  refine lv_istore_n (lv' := [(2, .int 0), (0, .ref (ad 4)), (1, .int a1)]) hx hb dX6_textureOf_1 rfl hl (by decide) rfl (fun ls hl => ?_)
  refine lv_iconst (v := 0) hx hb dX6_textureOf_2 (by decide) ?_
  refine lv_istore_n (lv' := [(3, .int 0), (2, .int 0), (0, .ref (ad 4)), (1, .int a1)]) hx hb dX6_textureOf_3 rfl hl (by decide) rfl (fun ls hl => ?_)
  have hL4 : ∀ (x1 : Int32) (n : Nat) (x2 : Int32) (x3 : Int32), nm x3 (f5_cells τ) < n → ∀ ls : Array Slot, lv_has ls 4 [(0, .ref (ad 4)), (1, .int x1), (2, .int x2), (3, .int x3)] → (∀ ls : Array Slot, lv_has ls 4 [(0, .ref (ad 4)), (1, .int x1), (2, .int ((f6_textureOf_L4 τ π x1 n x2 x3).1)), (3, .int ((f6_textureOf_L4 τ π x1 n x2 x3).2))] → W p l e ({ frames := 1, cells := 0, slots := 0, locals := 21 }) s m ([.ref (ad 4), .int a1] : List Value).toArray below meth c s.heap [] 0 0 (MQ below (QcRead (f6_textureOf τ π a1)) ([.ref (ad 4), .int a1] : List Value).toArray s 0 0 noA) (F0 m 36 ls [])) → W p l e ({ frames := 1, cells := 0, slots := 0, locals := 21 }) s m ([.ref (ad 4), .int a1] : List Value).toArray below meth c s.heap [] 0 0 (MQ below (QcRead (f6_textureOf τ π a1)) ([.ref (ad 4), .int a1] : List Value).toArray s 0 0 noA) (F0 m 4 ls []) := by
    intro x1 n
    induction n with
    | zero =>
      intro x2 x3 hn
      exact absurd hn (Nat.not_lt_zero _)
    | succ n ih =>
      intro x2 x3 hn ls hl kk
      refine lv_iload_n hx hb dX6_textureOf_4 rfl (lv_at hl 3 rfl) ?_
      refine lv_aload_n hx hb dX6_textureOf_5 rfl (lv_at hl 0 rfl) ?_
      refine gX6_0 hx hb htA hown hK hP dX6_textureOf_6 ?_
      refine sy_cv (rest := [.int x3]) C hK hN hP (m5_cells l D cA ad τ ρ π γ) (1) 7 rfl rfl kw_375 kw_184 kw_185 kw_16 kw_186 hd_X5_cells ⟨Nat.le_of_ble_eq_true rfl, Nat.le_of_ble_eq_true rfl⟩ rfl rfl rfl hl.1 rfl (Nat.le_of_ble_eq_true rfl) dX6_textureOf_9 ⟨Nat.zero_le _, Nat.zero_le _⟩ ?_
      refine lv_icmp_ge (tgt := 36) hx hb dX6_textureOf_12 (by decide) (fun c_1 => ?_) (fun c_1 => ?_)
      · have e9 : f6_textureOf_L4 τ π x1 (n + 1) x2 x3 = (x2, x3) := by rw [f6_textureOf_L4_s]; (try rw [if_pos c_1])
        rw [e9] at kk
        exact kk ls (lv_sub hl [0, 1, 2, 3] rfl)
      · refine lv_aload_n hx hb dX6_textureOf_15 rfl (lv_at hl 0 rfl) ?_
        refine gX6_5 hx hb htA hown hK hP dX6_textureOf_16 ?_
        refine lv_iload_n hx hb dX6_textureOf_19 rfl (lv_at hl 3 rfl) ?_
        refine sy_cv (rest := []) C hK hN hP (m3_markAt l D cA ad τ ρ π γ x3) (3) 5 rfl rfl kw_271 kw_206 kw_207 kw_24 kw_208 hd_X3_markAt ⟨Nat.le_of_ble_eq_true rfl, Nat.le_of_ble_eq_true rfl⟩ rfl rfl rfl hl.1 rfl (Nat.le_of_ble_eq_true rfl) dX6_textureOf_20 ⟨Nat.zero_le _, Nat.zero_le _⟩ ?_
        refine lv_iload_n hx hb dX6_textureOf_23 rfl (lv_at hl 1 rfl) ?_
        refine lv_icmp_ne (tgt := 30) hx hb dX6_textureOf_24 (by decide) (fun c_2 => ?_) (fun c_2 => ?_)
        · refine lv_iinc (v := x3 + 1) (lv' := [(3, .int (x3 + 1)), (0, .ref (ad 4)), (1, .int x1), (2, .int x2)]) hx hb dX6_textureOf_30 hl (k := 3) rfl (by rfl) (by decide) rfl (fun ls hl => ?_)
          refine lv_goto (tgt := 4) hx hb dX6_textureOf_33 (by decide) ?_
          have e9 : f6_textureOf_L4 τ π x1 (n + 1) x2 x3 = f6_textureOf_L4 τ π x1 n x2 (x3 + 1) := by rw [f6_textureOf_L4_s]; (try rw [if_neg c_1]); (try rw [if_neg c_2])
          rw [e9] at kk
          exact ih x2 (x3 + 1) (nm_dec (Int32.not_le.mp c_1) hn)  ls (lv_sub hl [1, 2, 3, 0] rfl) kk
        · refine lv_iinc (v := x2 + 1) (lv' := [(2, .int (x2 + 1)), (0, .ref (ad 4)), (1, .int x1), (3, .int x3)]) hx hb dX6_textureOf_27 hl (k := 2) rfl (by rfl) (by decide) rfl (fun ls hl => ?_)
          refine lv_iinc (v := x3 + 1) (lv' := [(3, .int (x3 + 1)), (2, .int (x2 + 1)), (0, .ref (ad 4)), (1, .int x1)]) hx hb dX6_textureOf_30 hl (k := 3) rfl (by rfl) (by decide) rfl (fun ls hl => ?_)
          refine lv_goto (tgt := 4) hx hb dX6_textureOf_33 (by decide) ?_
          have e9 : f6_textureOf_L4 τ π x1 (n + 1) x2 x3 = f6_textureOf_L4 τ π x1 n (x2 + 1) (x3 + 1) := by rw [f6_textureOf_L4_s]; (try rw [if_neg c_1]); (try rw [if_pos c_2])
          rw [e9] at kk
          exact ih (x2 + 1) (x3 + 1) (nm_dec (Int32.not_le.mp c_1) hn)  ls (lv_sub hl [2, 3, 1, 0] rfl) kk
  refine hL4 a1 8589934592 0 0 (nm_lt _ _) ls (lv_sub hl [2, 3, 1, 0] rfl) (fun ls hl => ?_)
  refine lv_aload_n hx hb dX6_textureOf_36 rfl (lv_at hl 0 rfl) ?_
  refine gX6_0 hx hb htA hown hK hP dX6_textureOf_37 ?_
  refine sy_cv (rest := []) C hK hN hP (m5_cells l D cA ad τ ρ π γ) (1) 7 rfl rfl kw_375 kw_184 kw_185 kw_16 kw_186 hd_X5_cells ⟨Nat.le_of_ble_eq_true rfl, Nat.le_of_ble_eq_true rfl⟩ rfl rfl rfl hl.1 rfl (Nat.le_of_ble_eq_true rfl) dX6_textureOf_40 ⟨Nat.zero_le _, Nat.zero_le _⟩ ?_
  refine lv_if_le (tgt := 62) hx hb dX6_textureOf_43 (by decide) (fun c_3 => ?_) (fun c_3 => ?_)
  · refine lv_iconst (v := 0) hx hb dX6_textureOf_62 (by decide) ?_
    have e9 : 0 = f6_textureOf τ π a1 := by unfold f6_textureOf; (try rw [if_pos c_3])
    exact sy_ret hx hb hr hlk e9 dX6_textureOf_63
  · refine lv_sipush (v := 1000) hx hb dX6_textureOf_46 (by decide) ?_
    refine lv_iload_n hx hb dX6_textureOf_49 rfl (lv_at hl 2 rfl) ?_
    refine lv_imul hx hb dX6_textureOf_50 ?_
    refine lv_aload_n hx hb dX6_textureOf_51 rfl (lv_at hl 0 rfl) ?_
    refine gX6_0 hx hb htA hown hK hP dX6_textureOf_52 ?_
    refine sy_cv (rest := [.int (1000 * ((f6_textureOf_L4 τ π a1 8589934592 0 0).1))]) C hK hN hP (m5_cells l D cA ad τ ρ π γ) (1) 7 rfl rfl kw_375 kw_184 kw_185 kw_16 kw_186 hd_X5_cells ⟨Nat.le_of_ble_eq_true rfl, Nat.le_of_ble_eq_true rfl⟩ rfl rfl rfl hl.1 rfl (Nat.le_of_ble_eq_true rfl) dX6_textureOf_55 ⟨Nat.zero_le _, Nat.zero_le _⟩ ?_
    refine lv_idiv hx hb dX6_textureOf_58 (ne_pos (Int32.not_le.mp c_3)) ?_
    refine lv_goto (tgt := 63) hx hb dX6_textureOf_59 (by decide) ?_
    have e9 : (1000 * ((f6_textureOf_L4 τ π a1 8589934592 0 0).1)) / (f5_cells τ) = f6_textureOf τ π a1 := by unfold f6_textureOf; (try rw [if_neg c_3])
    exact sy_ret hx hb hr hlk e9 dX6_textureOf_63
/-- X6_signOf -/
theorem hd_X6_signOf : yX6_signOf.cls = yX6_signOf.cls ∧ yX6_signOf.cls ≠ "java/lang/invoke/MethodHandle" ∧ yX6_signOf.cls ≠ "java/lang/invoke/VarHandle" ∧ (parseMethodDescriptor yX6_signOf.desc).map (fun d => d.parameters.length) = some 2 := by decide +kernel
def f6_signOf (τ : Sg) (π : Sg) (γ : Sg) (a1 : Int32) (a2 : Int32) : Int32 := (if (f3_markAt π a1) = 0 then 42 else (if a2 = 0 then ((48 + (f3_markAt π a1)).toUInt32 % 65536).toInt32 else (if (f3_hardAt π a1) = 1 then 35 else ((48 + (f2_leastMarkOf γ 1 (f2_at τ γ 1 a1))).toUInt32 % 65536).toInt32)))
set_option maxHeartbeats 400000 in
set_option maxRecDepth 100000 in
theorem m6_signOf (l : Launch) (D : va_G) (cA : ClassId) (ad : Nat → Nat) (τ ρ π γ : Sg) (hT : Ok τ) (a1 : Int32) (a2 : Int32) : Met l yX6_signOf (wM yX6_signOf cX6_signOf 4 (some .char)) ({ frames := 2, cells := 0, slots := 0, locals := 42 }) (va_Pc [.ref (ad 4), .int a1, .int a2] (pS D cA ad τ ρ π γ)) (QcRead (f6_signOf τ π γ a1 a2)) 0 0 noA := by
  refine sy_of (by decide) (Nat.le_of_ble_eq_true rfl) ?_
  intro p e s m below meth c ls C hr hlk hK hN hP hl
  obtain ⟨hx, hb, hml, hown, hts⟩ := id C
  have htA : ∀ w ∈ wA, w.before ([.ref (ad 4), .int a1, .int a2] : List Value).toArray s = true := fun w h => hts w (List.mem_cons_of_mem _ h)
  have hl : lv_has ls 4 [(0, .ref (ad 4)), (1, .int a1), (2, .int a2)] := hl
  refine lv_aload_n hx hb dX6_signOf_0 rfl (lv_at hl 0 rfl) ?_
  refine gX6_5 hx hb htA hown hK hP dX6_signOf_1 ?_
  refine lv_iload_n hx hb dX6_signOf_4 rfl (lv_at hl 1 rfl) ?_
  refine sy_cv (rest := []) C hK hN hP (m3_markAt l D cA ad τ ρ π γ a1) (3) 5 rfl rfl kw_271 kw_206 kw_207 kw_24 kw_208 hd_X3_markAt ⟨Nat.le_of_ble_eq_true rfl, Nat.le_of_ble_eq_true rfl⟩ rfl rfl rfl hl.1 rfl (Nat.le_of_ble_eq_true rfl) dX6_signOf_5 ⟨Nat.zero_le _, Nat.zero_le _⟩ ?_
  refine lv_istore_n (lv' := [(3, .int (f3_markAt π a1)), (0, .ref (ad 4)), (1, .int a1), (2, .int a2)]) hx hb dX6_signOf_8 rfl hl (by decide) rfl (fun ls hl => ?_)
  refine lv_iload_n hx hb dX6_signOf_9 rfl (lv_at hl 0 rfl) ?_
  refine lv_if_ne (tgt := 16) hx hb dX6_signOf_10 (by decide) (fun c_1 => ?_) (fun c_1 => ?_)
  · refine lv_iload_n hx hb dX6_signOf_16 rfl (lv_at hl 3 rfl) ?_
    refine lv_if_eq (tgt := 35) hx hb dX6_signOf_17 (by decide) (fun c_2 => ?_) (fun c_2 => ?_)
    · refine lv_bipush (v := 48) hx hb dX6_signOf_35 (by decide) ?_
      refine lv_iload_n hx hb dX6_signOf_37 rfl (lv_at hl 3 rfl) ?_
      refine lv_if_eq (tgt := 59) hx hb dX6_signOf_38 (by decide) (fun c_3 => ?_) (fun c_3 => ?_)
      · refine lv_iload_n hx hb dX6_signOf_59 rfl (lv_at hl 0 rfl) ?_
        refine lv_iadd hx hb dX6_signOf_60 ?_
        refine lv_i2c (v := ((48 + (f3_markAt π a1)).toUInt32 % 65536).toInt32) hx hb dX6_signOf_61 rfl ?_
        have e9 : ((48 + (f3_markAt π a1)).toUInt32 % 65536).toInt32 = f6_signOf τ π γ a1 a2 := by unfold f6_signOf; (try rw [if_neg c_1]); (try rw [if_pos c_2]); (try rw [if_pos c_3])
        exact sy_retZ hx hb hr hlk nar_i2c e9 dX6_signOf_62
      · exact absurd c_2 c_3
    · refine lv_aload_n hx hb dX6_signOf_20 rfl (lv_at hl 1 rfl) ?_
      refine gX6_5 hx hb htA hown hK hP dX6_signOf_21 ?_
      refine lv_iload_n hx hb dX6_signOf_24 rfl (lv_at hl 2 rfl) ?_
      refine sy_cv (rest := []) C hK hN hP (m3_hardAt l D cA ad τ ρ π γ a1) (3) 5 rfl rfl kw_276 kw_277 kw_278 kw_24 kw_279 hd_X3_hardAt ⟨Nat.le_of_ble_eq_true rfl, Nat.le_of_ble_eq_true rfl⟩ rfl rfl rfl hl.1 rfl (Nat.le_of_ble_eq_true rfl) dX6_signOf_25 ⟨Nat.zero_le _, Nat.zero_le _⟩ ?_
      refine lv_iconst (v := 1) hx hb dX6_signOf_28 (by decide) ?_
      refine lv_icmp_ne (tgt := 35) hx hb dX6_signOf_29 (by decide) (fun c_4 => ?_) (fun c_4 => ?_)
      · refine lv_bipush (v := 48) hx hb dX6_signOf_35 (by decide) ?_
        refine lv_iload_n hx hb dX6_signOf_37 rfl (lv_at hl 3 rfl) ?_
        refine lv_if_eq (tgt := 59) hx hb dX6_signOf_38 (by decide) (fun c_5 => ?_) (fun c_5 => ?_)
        · exact absurd c_5 c_2
        · refine lv_aload_n hx hb dX6_signOf_41 rfl (lv_at hl 1 rfl) ?_
          refine gX6_3 hx hb htA hown hK hP dX6_signOf_42 ?_
          refine lv_aload_n hx hb dX6_signOf_45 rfl (lv_at hl 1 rfl) ?_
          refine gX6_3 hx hb htA hown hK hP dX6_signOf_46 ?_
          refine lv_iload_n hx hb dX6_signOf_49 rfl (lv_at hl 2 rfl) ?_
          refine sy_cv (rest := [.ref (ad 6), .int 48]) C hK hN hP (m2_at l D cA ad τ ρ π γ hT 1 (by decide) a1) (6) 4 rfl rfl kw_286 kw_210 kw_211 kw_81 kw_212 hd_X2_at ⟨Nat.le_of_ble_eq_true rfl, Nat.le_of_ble_eq_true rfl⟩ rfl rfl rfl hl.1 rfl (Nat.le_of_ble_eq_true rfl) dX6_signOf_50 ⟨Nat.zero_le _, Nat.zero_le _⟩ ?_
          refine sy_cv (rest := [.int 48]) C hK hN hP (m2_leastMarkOf l D cA ad τ ρ π γ 1 (by decide) (f2_at τ γ 1 a1)) (6) 4 rfl rfl kw_733 kw_734 kw_735 kw_81 kw_736 hd_X2_leastMarkOf ⟨Nat.le_of_ble_eq_true rfl, Nat.le_of_ble_eq_true rfl⟩ rfl rfl rfl hl.1 rfl (Nat.le_of_ble_eq_true rfl) dX6_signOf_53 ⟨Nat.zero_le _, Nat.zero_le _⟩ ?_
          refine lv_goto (tgt := 60) hx hb dX6_signOf_56 (by decide) ?_
          refine lv_iadd hx hb dX6_signOf_60 ?_
          refine lv_i2c (v := ((48 + (f2_leastMarkOf γ 1 (f2_at τ γ 1 a1))).toUInt32 % 65536).toInt32) hx hb dX6_signOf_61 rfl ?_
          have e9 : ((48 + (f2_leastMarkOf γ 1 (f2_at τ γ 1 a1))).toUInt32 % 65536).toInt32 = f6_signOf τ π γ a1 a2 := by unfold f6_signOf; (try rw [if_neg c_1]); (try rw [if_neg c_2]); (try rw [if_neg c_4]); (try rw [if_neg c_5])
          exact sy_retZ hx hb hr hlk nar_i2c e9 dX6_signOf_62
      · refine lv_bipush (v := 35) hx hb dX6_signOf_32 (by decide) ?_
        have e9 : 35 = f6_signOf τ π γ a1 a2 := by unfold f6_signOf; (try rw [if_neg c_1]); (try rw [if_neg c_2]); (try rw [if_pos c_4])
        exact sy_retZ hx hb hr hlk rfl e9 dX6_signOf_34
  · refine lv_bipush (v := 42) hx hb dX6_signOf_13 (by decide) ?_
    have e9 : 42 = f6_signOf τ π γ a1 a2 := by unfold f6_signOf; (try rw [if_pos c_1])
    exact sy_retZ hx hb hr hlk rfl e9 dX6_signOf_15
/-- X6_seenPairs -/
theorem hd_X6_seenPairs : yX6_seenPairs.cls = yX6_seenPairs.cls ∧ yX6_seenPairs.cls ≠ "java/lang/invoke/MethodHandle" ∧ yX6_seenPairs.cls ≠ "java/lang/invoke/VarHandle" ∧ (parseMethodDescriptor yX6_seenPairs.desc).map (fun d => d.parameters.length) = some 0 := by decide +kernel
def f6_seenPairs_L27 (τ : Sg) (ρ : Sg) (π : Sg) (x2 : Int32) (x3 : Int32) : Nat → Int32 → Int32 → Int32 × Int32
  | 0, x1, x4 => (x1, x4)
  | n + 1, x1, x4 => (if (f5_besideMany τ x2) ≤ x4 then (x1, x4) else (if (f4_isSeen ρ x3 (f3_markAt π (f5_beside τ x2 x4)) (f4_etchNow ρ)) = 0 then (f6_seenPairs_L27 τ ρ π x2 x3 n x1 (x4 + 1)) else (f6_seenPairs_L27 τ ρ π x2 x3 n (x1 + 1) (x4 + 1))))
theorem f6_seenPairs_L27_s (τ : Sg) (ρ : Sg) (π : Sg) (x2 : Int32) (x3 : Int32) (n : Nat) (x1 : Int32) (x4 : Int32) : f6_seenPairs_L27 τ ρ π x2 x3 (n + 1) x1 x4 = (if (f5_besideMany τ x2) ≤ x4 then (x1, x4) else (if (f4_isSeen ρ x3 (f3_markAt π (f5_beside τ x2 x4)) (f4_etchNow ρ)) = 0 then (f6_seenPairs_L27 τ ρ π x2 x3 n x1 (x4 + 1)) else (f6_seenPairs_L27 τ ρ π x2 x3 n (x1 + 1) (x4 + 1)))) := rfl
def f6_seenPairs_L4 (τ : Sg) (ρ : Sg) (π : Sg) : Nat → Int32 → Int32 → Int32 × Int32
  | 0, x1, x2 => (x1, x2)
  | n + 1, x1, x2 => (if (f5_cells τ) ≤ x2 then (x1, x2) else (f6_seenPairs_L4 τ ρ π n ((f6_seenPairs_L27 τ ρ π x2 (f3_markAt π x2) 8589934592 x1 0).1) (x2 + 1)))
theorem f6_seenPairs_L4_s (τ : Sg) (ρ : Sg) (π : Sg) (n : Nat) (x1 : Int32) (x2 : Int32) : f6_seenPairs_L4 τ ρ π (n + 1) x1 x2 = (if (f5_cells τ) ≤ x2 then (x1, x2) else (f6_seenPairs_L4 τ ρ π n ((f6_seenPairs_L27 τ ρ π x2 (f3_markAt π x2) 8589934592 x1 0).1) (x2 + 1))) := rfl
def f6_seenPairs (τ : Sg) (ρ : Sg) (π : Sg) : Int32 := ((f6_seenPairs_L4 τ ρ π 8589934592 0 0).1) / 2
set_option maxHeartbeats 400000 in
set_option maxRecDepth 100000 in
theorem m6_seenPairs (l : Launch) (D : va_G) (cA : ClassId) (ad : Nat → Nat) (τ ρ π γ : Sg) (hT : Ok τ) : Met l yX6_seenPairs (wM yX6_seenPairs cX6_seenPairs 5 (some .int)) ({ frames := 2, cells := 0, slots := 0, locals := 45 }) (va_Pc [.ref (ad 4)] (pS D cA ad τ ρ π γ)) (QcRead (f6_seenPairs τ ρ π)) 0 0 noA := by
  refine sy_of (by decide) (Nat.le_of_ble_eq_true rfl) ?_
  intro p e s m below meth c ls C hr hlk hK hN hP hl
  obtain ⟨hx, hb, hml, hown, hts⟩ := id C
  have htA : ∀ w ∈ wA, w.before ([.ref (ad 4)] : List Value).toArray s = true := fun w h => hts w (List.mem_cons_of_mem _ h)
  have hl : lv_has ls 5 [(0, .ref (ad 4))] := hl
  refine lv_iconst (v := 0) hx hb dX6_seenPairs_0 (by decide) ?_
  refine lv_istore_n (lv' := [(1, .int 0), (0, .ref (ad 4))]) hx hb dX6_seenPairs_1 rfl hl (by decide) rfl (fun ls hl => ?_)
  refine lv_iconst (v := 0) hx hb dX6_seenPairs_2 (by decide) ?_
  refine lv_istore_n (lv' := [(2, .int 0), (1, .int 0), (0, .ref (ad 4))]) hx hb dX6_seenPairs_3 rfl hl (by decide) rfl (fun ls hl => ?_)
  have hL4 : ∀ (n : Nat) (x1 : Int32) (x2 : Int32), nm x2 (f5_cells τ) < n → ∀ ls : Array Slot, lv_has ls 5 [(0, .ref (ad 4)), (1, .int x1), (2, .int x2)] → (∀ ls : Array Slot, lv_has ls 5 [(0, .ref (ad 4)), (1, .int ((f6_seenPairs_L4 τ ρ π n x1 x2).1)), (2, .int ((f6_seenPairs_L4 τ ρ π n x1 x2).2))] → W p l e ({ frames := 2, cells := 0, slots := 0, locals := 45 }) s m ([.ref (ad 4)] : List Value).toArray below meth c s.heap [] 0 0 (MQ below (QcRead (f6_seenPairs τ ρ π)) ([.ref (ad 4)] : List Value).toArray s 0 0 noA) (F0 m 90 ls [])) → W p l e ({ frames := 2, cells := 0, slots := 0, locals := 45 }) s m ([.ref (ad 4)] : List Value).toArray below meth c s.heap [] 0 0 (MQ below (QcRead (f6_seenPairs τ ρ π)) ([.ref (ad 4)] : List Value).toArray s 0 0 noA) (F0 m 4 ls []) := by
    intro  n
    induction n with
    | zero =>
      intro x1 x2 hn
      exact absurd hn (Nat.not_lt_zero _)
    | succ n ih =>
      intro x1 x2 hn ls hl kk
      refine lv_iload_n hx hb dX6_seenPairs_4 rfl (lv_at hl 2 rfl) ?_
      refine lv_aload_n hx hb dX6_seenPairs_5 rfl (lv_at hl 0 rfl) ?_
      refine gX6_0 hx hb htA hown hK hP dX6_seenPairs_6 ?_
      refine sy_cv (rest := [.int x2]) C hK hN hP (m5_cells l D cA ad τ ρ π γ) (1) 7 rfl rfl kw_375 kw_184 kw_185 kw_16 kw_186 hd_X5_cells ⟨Nat.le_of_ble_eq_true rfl, Nat.le_of_ble_eq_true rfl⟩ rfl rfl rfl hl.1 rfl (Nat.le_of_ble_eq_true rfl) dX6_seenPairs_9 ⟨Nat.zero_le _, Nat.zero_le _⟩ ?_
      refine lv_icmp_ge (tgt := 90) hx hb dX6_seenPairs_12 (by decide) (fun c_1 => ?_) (fun c_1 => ?_)
      · have e9 : f6_seenPairs_L4 τ ρ π (n + 1) x1 x2 = (x1, x2) := by rw [f6_seenPairs_L4_s]; (try rw [if_pos c_1])
        rw [e9] at kk
        exact kk ls (lv_sub hl [0, 1, 2] rfl)
      · refine lv_aload_n hx hb dX6_seenPairs_15 rfl (lv_at hl 0 rfl) ?_
        refine gX6_5 hx hb htA hown hK hP dX6_seenPairs_16 ?_
        refine lv_iload_n hx hb dX6_seenPairs_19 rfl (lv_at hl 2 rfl) ?_
        refine sy_cv (rest := []) C hK hN hP (m3_markAt l D cA ad τ ρ π γ x2) (3) 5 rfl rfl kw_271 kw_206 kw_207 kw_24 kw_208 hd_X3_markAt ⟨Nat.le_of_ble_eq_true rfl, Nat.le_of_ble_eq_true rfl⟩ rfl rfl rfl hl.1 rfl (Nat.le_of_ble_eq_true rfl) dX6_seenPairs_20 ⟨Nat.zero_le _, Nat.zero_le _⟩ ?_
        refine lv_istore_n (lv' := [(3, .int (f3_markAt π x2)), (0, .ref (ad 4)), (1, .int x1), (2, .int x2)]) hx hb dX6_seenPairs_23 rfl hl (by decide) rfl (fun ls hl => ?_)
        refine lv_iconst (v := 0) hx hb dX6_seenPairs_24 (by decide) ?_
        refine lv_istore (lv' := [(4, .int 0), (3, .int (f3_markAt π x2)), (0, .ref (ad 4)), (1, .int x1), (2, .int x2)]) hx hb dX6_seenPairs_25 hl (by decide) rfl (fun ls hl => ?_)
        have hL27 : ∀ (x2 : Int32) (x3 : Int32) (n : Nat) (x1 : Int32) (x4 : Int32), nm x4 (f5_besideMany τ x2) < n → ∀ ls : Array Slot, lv_has ls 5 [(0, .ref (ad 4)), (1, .int x1), (2, .int x2), (3, .int x3), (4, .int x4)] → (∀ ls : Array Slot, lv_has ls 5 [(0, .ref (ad 4)), (1, .int ((f6_seenPairs_L27 τ ρ π x2 x3 n x1 x4).1)), (2, .int x2), (3, .int x3), (4, .int ((f6_seenPairs_L27 τ ρ π x2 x3 n x1 x4).2))] → W p l e ({ frames := 2, cells := 0, slots := 0, locals := 45 }) s m ([.ref (ad 4)] : List Value).toArray below meth c s.heap [] 0 0 (MQ below (QcRead (f6_seenPairs τ ρ π)) ([.ref (ad 4)] : List Value).toArray s 0 0 noA) (F0 m 84 ls [])) → W p l e ({ frames := 2, cells := 0, slots := 0, locals := 45 }) s m ([.ref (ad 4)] : List Value).toArray below meth c s.heap [] 0 0 (MQ below (QcRead (f6_seenPairs τ ρ π)) ([.ref (ad 4)] : List Value).toArray s 0 0 noA) (F0 m 27 ls []) := by
          intro x2 x3 n
          induction n with
          | zero =>
            intro x1 x4 hn
            exact absurd hn (Nat.not_lt_zero _)
          | succ n ih =>
            intro x1 x4 hn ls hl kk
            refine lv_iload hx hb dX6_seenPairs_27 (lv_at hl 4 rfl) ?_
            refine lv_aload_n hx hb dX6_seenPairs_29 rfl (lv_at hl 0 rfl) ?_
            refine gX6_0 hx hb htA hown hK hP dX6_seenPairs_30 ?_
            refine lv_iload_n hx hb dX6_seenPairs_33 rfl (lv_at hl 2 rfl) ?_
            refine sy_cv (rest := [.int x4]) C hK hN hP (m5_besideMany l D cA ad τ ρ π γ hT x2) (1) 7 rfl rfl kw_284 kw_220 kw_221 kw_16 kw_222 hd_X5_besideMany ⟨Nat.le_of_ble_eq_true rfl, Nat.le_of_ble_eq_true rfl⟩ rfl rfl rfl hl.1 rfl (Nat.le_of_ble_eq_true rfl) dX6_seenPairs_34 ⟨Nat.zero_le _, Nat.zero_le _⟩ ?_
            refine lv_icmp_ge (tgt := 84) hx hb dX6_seenPairs_37 (by decide) (fun c_2 => ?_) (fun c_2 => ?_)
            · have e9 : f6_seenPairs_L27 τ ρ π x2 x3 (n + 1) x1 x4 = (x1, x4) := by rw [f6_seenPairs_L27_s]; (try rw [if_pos c_2])
              rw [e9] at kk
              exact kk ls (lv_sub hl [0, 1, 2, 3, 4] rfl)
            · refine lv_aload_n hx hb dX6_seenPairs_40 rfl (lv_at hl 0 rfl) ?_
              refine gX6_1 hx hb htA hown hK hP dX6_seenPairs_41 ?_
              refine lv_iload_n hx hb dX6_seenPairs_44 rfl (lv_at hl 3 rfl) ?_
              refine lv_aload_n hx hb dX6_seenPairs_45 rfl (lv_at hl 0 rfl) ?_
              refine gX6_5 hx hb htA hown hK hP dX6_seenPairs_46 ?_
              refine lv_aload_n hx hb dX6_seenPairs_49 rfl (lv_at hl 0 rfl) ?_
              refine gX6_0 hx hb htA hown hK hP dX6_seenPairs_50 ?_
              refine lv_iload_n hx hb dX6_seenPairs_53 rfl (lv_at hl 2 rfl) ?_
              refine lv_iload hx hb dX6_seenPairs_54 (lv_at hl 4 rfl) ?_
              refine sy_cv (rest := [.ref (ad 3), .int x3, .ref (ad 2)]) C hK hN hP (m5_beside l D cA ad τ ρ π γ hT x2 x4) (1) 7 rfl rfl kw_285 kw_224 kw_225 kw_16 kw_226 hd_X5_beside ⟨Nat.le_of_ble_eq_true rfl, Nat.le_of_ble_eq_true rfl⟩ rfl rfl rfl hl.1 rfl (Nat.le_of_ble_eq_true rfl) dX6_seenPairs_56 ⟨Nat.zero_le _, Nat.zero_le _⟩ ?_
              refine sy_cv (rest := [.int x3, .ref (ad 2)]) C hK hN hP (m3_markAt l D cA ad τ ρ π γ (f5_beside τ x2 x4)) (3) 5 rfl rfl kw_271 kw_206 kw_207 kw_24 kw_208 hd_X3_markAt ⟨Nat.le_of_ble_eq_true rfl, Nat.le_of_ble_eq_true rfl⟩ rfl rfl rfl hl.1 rfl (Nat.le_of_ble_eq_true rfl) dX6_seenPairs_59 ⟨Nat.zero_le _, Nat.zero_le _⟩ ?_
              refine lv_aload_n hx hb dX6_seenPairs_62 rfl (lv_at hl 0 rfl) ?_
              refine gX6_1 hx hb htA hown hK hP dX6_seenPairs_63 ?_
              refine sy_cv (rest := [.int (f3_markAt π (f5_beside τ x2 x4)), .int x3, .ref (ad 2)]) C hK hN hP (m4_etchNow l D cA ad τ ρ π γ) (2) 6 rfl rfl kw_239 kw_240 kw_241 kw_20 kw_242 hd_X4_etchNow ⟨Nat.le_of_ble_eq_true rfl, Nat.le_of_ble_eq_true rfl⟩ rfl rfl rfl hl.1 rfl (Nat.le_of_ble_eq_true rfl) dX6_seenPairs_66 ⟨Nat.zero_le _, Nat.zero_le _⟩ ?_
              refine sy_cv (rest := []) C hK hN hP (m4_isSeen l D cA ad τ ρ π γ x3 (f3_markAt π (f5_beside τ x2 x4)) (f4_etchNow ρ)) (2) 6 rfl rfl kw_415 kw_232 kw_233 kw_20 kw_234 hd_X4_isSeen ⟨Nat.le_of_ble_eq_true rfl, Nat.le_of_ble_eq_true rfl⟩ rfl rfl rfl hl.1 rfl (Nat.le_of_ble_eq_true rfl) dX6_seenPairs_69 ⟨Nat.zero_le _, Nat.zero_le _⟩ ?_
              refine lv_if_eq (tgt := 78) hx hb dX6_seenPairs_72 (by decide) (fun c_3 => ?_) (fun c_3 => ?_)
              · refine lv_iinc (v := x4 + 1) (lv' := [(4, .int (x4 + 1)), (0, .ref (ad 4)), (1, .int x1), (2, .int x2), (3, .int x3)]) hx hb dX6_seenPairs_78 hl (k := 4) rfl (by rfl) (by decide) rfl (fun ls hl => ?_)
                refine lv_goto (tgt := 27) hx hb dX6_seenPairs_81 (by decide) ?_
                have e9 : f6_seenPairs_L27 τ ρ π x2 x3 (n + 1) x1 x4 = f6_seenPairs_L27 τ ρ π x2 x3 n x1 (x4 + 1) := by rw [f6_seenPairs_L27_s]; (try rw [if_neg c_2]); (try rw [if_pos c_3])
                rw [e9] at kk
                exact ih x1 (x4 + 1) (nm_dec (Int32.not_le.mp c_2) hn)  ls (lv_sub hl [1, 2, 3, 4, 0] rfl) kk
              · refine lv_iinc (v := x1 + 1) (lv' := [(1, .int (x1 + 1)), (0, .ref (ad 4)), (2, .int x2), (3, .int x3), (4, .int x4)]) hx hb dX6_seenPairs_75 hl (k := 1) rfl (by rfl) (by decide) rfl (fun ls hl => ?_)
                refine lv_iinc (v := x4 + 1) (lv' := [(4, .int (x4 + 1)), (1, .int (x1 + 1)), (0, .ref (ad 4)), (2, .int x2), (3, .int x3)]) hx hb dX6_seenPairs_78 hl (k := 4) rfl (by rfl) (by decide) rfl (fun ls hl => ?_)
                refine lv_goto (tgt := 27) hx hb dX6_seenPairs_81 (by decide) ?_
                have e9 : f6_seenPairs_L27 τ ρ π x2 x3 (n + 1) x1 x4 = f6_seenPairs_L27 τ ρ π x2 x3 n (x1 + 1) (x4 + 1) := by rw [f6_seenPairs_L27_s]; (try rw [if_neg c_2]); (try rw [if_neg c_3])
                rw [e9] at kk
                exact ih (x1 + 1) (x4 + 1) (nm_dec (Int32.not_le.mp c_2) hn)  ls (lv_sub hl [2, 1, 3, 4, 0] rfl) kk
        refine hL27 x2 (f3_markAt π x2) 8589934592 x1 0 (nm_lt _ _) ls (lv_sub hl [2, 3, 4, 1, 0] rfl) (fun ls hl => ?_)
        refine lv_iinc (v := x2 + 1) (lv' := [(2, .int (x2 + 1)), (0, .ref (ad 4)), (1, .int ((f6_seenPairs_L27 τ ρ π x2 (f3_markAt π x2) 8589934592 x1 0).1)), (3, .int (f3_markAt π x2)), (4, .int ((f6_seenPairs_L27 τ ρ π x2 (f3_markAt π x2) 8589934592 x1 0).2))]) hx hb dX6_seenPairs_84 hl (k := 2) rfl (by rfl) (by decide) rfl (fun ls hl => ?_)
        refine lv_goto (tgt := 4) hx hb dX6_seenPairs_87 (by decide) ?_
        have e9 : f6_seenPairs_L4 τ ρ π (n + 1) x1 x2 = f6_seenPairs_L4 τ ρ π n ((f6_seenPairs_L27 τ ρ π x2 (f3_markAt π x2) 8589934592 x1 0).1) (x2 + 1) := by rw [f6_seenPairs_L4_s]; (try rw [if_neg c_1])
        rw [e9] at kk
        exact ih ((f6_seenPairs_L27 τ ρ π x2 (f3_markAt π x2) 8589934592 x1 0).1) (x2 + 1) (nm_dec (Int32.not_le.mp c_1) hn)  ls (lv_sub hl [1, 2, 0] rfl) kk
  refine hL4 8589934592 0 0 (nm_lt _ _) ls (lv_sub hl [2, 1, 0] rfl) (fun ls hl => ?_)
  refine lv_iload_n hx hb dX6_seenPairs_90 rfl (lv_at hl 1 rfl) ?_
  refine lv_iconst (v := 2) hx hb dX6_seenPairs_91 (by decide) ?_
  refine lv_idiv hx hb dX6_seenPairs_92 (by decide) ?_
  have e9 : ((f6_seenPairs_L4 τ ρ π 8589934592 0 0).1) / 2 = f6_seenPairs τ ρ π := rfl
  exact sy_ret hx hb hr hlk e9 dX6_seenPairs_93
/-- X6_areCellsSound -/
theorem hd_X6_areCellsSound : yX6_areCellsSound.cls = yX6_areCellsSound.cls ∧ yX6_areCellsSound.cls ≠ "java/lang/invoke/MethodHandle" ∧ yX6_areCellsSound.cls ≠ "java/lang/invoke/VarHandle" ∧ (parseMethodDescriptor yX6_areCellsSound.desc).map (fun d => d.parameters.length) = some 0 := by decide +kernel
def f6_areCellsSound_L2 (τ : Sg) (π : Sg) : Nat → Int32 → (Int32) ⊕ (Int32)
  | 0, x1 => .inr x1
  | n + 1, x1 => (if (f5_cells τ) ≤ x1 then .inr x1 else (if (f3_workAt π x1) = 0 then (if (f3_hardAt π x1) = 0 then (if (f7_isWithin (f3_workAt π x1) 0 20) = 0 then .inl 0 else (if (f3_markAt π x1) = 0 then (f6_areCellsSound_L2 τ π n (x1 + 1)) else (f6_areCellsSound_L2 τ π n (x1 + 1)))) else (if (f7_isWithin (f3_workAt π x1) 0 20) = 0 then .inl 0 else (if (f3_markAt π x1) = 0 then .inl 0 else (f6_areCellsSound_L2 τ π n (x1 + 1))))) else (if (f7_isWithin (f3_workAt π x1) 0 20) = 0 then .inl 0 else (if (f3_markAt π x1) = 0 then .inl 0 else (f6_areCellsSound_L2 τ π n (x1 + 1))))))
theorem f6_areCellsSound_L2_s (τ : Sg) (π : Sg) (n : Nat) (x1 : Int32) : f6_areCellsSound_L2 τ π (n + 1) x1 = (if (f5_cells τ) ≤ x1 then .inr x1 else (if (f3_workAt π x1) = 0 then (if (f3_hardAt π x1) = 0 then (if (f7_isWithin (f3_workAt π x1) 0 20) = 0 then .inl 0 else (if (f3_markAt π x1) = 0 then (f6_areCellsSound_L2 τ π n (x1 + 1)) else (f6_areCellsSound_L2 τ π n (x1 + 1)))) else (if (f7_isWithin (f3_workAt π x1) 0 20) = 0 then .inl 0 else (if (f3_markAt π x1) = 0 then .inl 0 else (f6_areCellsSound_L2 τ π n (x1 + 1))))) else (if (f7_isWithin (f3_workAt π x1) 0 20) = 0 then .inl 0 else (if (f3_markAt π x1) = 0 then .inl 0 else (f6_areCellsSound_L2 τ π n (x1 + 1)))))) := rfl
def f6_areCellsSound (τ : Sg) (π : Sg) : Int32 := (match f6_areCellsSound_L2 τ π 8589934592 0 with | .inl r => r | .inr t => 1)
set_option maxHeartbeats 400000 in
set_option maxRecDepth 100000 in
theorem m6_areCellsSound (l : Launch) (D : va_G) (cA : ClassId) (ad : Nat → Nat) (τ ρ π γ : Sg) : Met l yX6_areCellsSound (wM yX6_areCellsSound cX6_areCellsSound 4 (some .boolean)) ({ frames := 1, cells := 0, slots := 0, locals := 22 }) (va_Pc [.ref (ad 4)] (pS D cA ad τ ρ π γ)) (QcRead (f6_areCellsSound τ π)) 0 0 noA := by
  refine sy_of (by decide) (Nat.le_of_ble_eq_true rfl) ?_
  intro p e s m below meth c ls C hr hlk hK hN hP hl
  obtain ⟨hx, hb, hml, hown, hts⟩ := id C
  have htA : ∀ w ∈ wA, w.before ([.ref (ad 4)] : List Value).toArray s = true := fun w h => hts w (List.mem_cons_of_mem _ h)
  have hl : lv_has ls 4 [(0, .ref (ad 4))] := hl
  refine lv_iconst (v := 0) hx hb dX6_areCellsSound_0 (by decide) ?_
  refine lv_istore_n (lv' := [(1, .int 0), (0, .ref (ad 4))]) hx hb dX6_areCellsSound_1 rfl hl (by decide) rfl (fun ls hl => ?_)
  have hL2 : ∀ (n : Nat) (x1 : Int32), nm x1 (f5_cells τ) < n → ∀ ls : Array Slot, lv_has ls 4 [(0, .ref (ad 4)), (1, .int x1)] → (∀ t, f6_areCellsSound_L2 τ π n x1 = .inr t → ∀ ls : Array Slot, lv_has ls 4 [(0, .ref (ad 4)), (1, .int t)] → W p l e ({ frames := 1, cells := 0, slots := 0, locals := 22 }) s m ([.ref (ad 4)] : List Value).toArray below meth c s.heap [] 0 0 (MQ below (QcRead (f6_areCellsSound τ π)) ([.ref (ad 4)] : List Value).toArray s 0 0 noA) (F0 m 76 ls [])) → (∀ r, f6_areCellsSound_L2 τ π n x1 = .inl r → r = f6_areCellsSound τ π) → W p l e ({ frames := 1, cells := 0, slots := 0, locals := 22 }) s m ([.ref (ad 4)] : List Value).toArray below meth c s.heap [] 0 0 (MQ below (QcRead (f6_areCellsSound τ π)) ([.ref (ad 4)] : List Value).toArray s 0 0 noA) (F0 m 2 ls []) := by
    intro  n
    induction n with
    | zero =>
      intro x1 hn
      exact absurd hn (Nat.not_lt_zero _)
    | succ n ih =>
      intro x1 hn ls hl kk kr
      refine lv_iload_n hx hb dX6_areCellsSound_2 rfl (lv_at hl 1 rfl) ?_
      refine lv_aload_n hx hb dX6_areCellsSound_3 rfl (lv_at hl 0 rfl) ?_
      refine gX6_0 hx hb htA hown hK hP dX6_areCellsSound_4 ?_
      refine sy_cv (rest := [.int x1]) C hK hN hP (m5_cells l D cA ad τ ρ π γ) (1) 7 rfl rfl kw_375 kw_184 kw_185 kw_16 kw_186 hd_X5_cells ⟨Nat.le_of_ble_eq_true rfl, Nat.le_of_ble_eq_true rfl⟩ rfl rfl rfl hl.1 rfl (Nat.le_of_ble_eq_true rfl) dX6_areCellsSound_7 ⟨Nat.zero_le _, Nat.zero_le _⟩ ?_
      refine lv_icmp_ge (tgt := 76) hx hb dX6_areCellsSound_10 (by decide) (fun c_1 => ?_) (fun c_1 => ?_)
      · have e9 : f6_areCellsSound_L2 τ π (n + 1) x1 = .inr x1 := by rw [f6_areCellsSound_L2_s]; (try rw [if_pos c_1])
        exact kk _ e9 ls (lv_sub hl [0, 1] rfl)
      · refine lv_aload_n hx hb dX6_areCellsSound_13 rfl (lv_at hl 0 rfl) ?_
        refine gX6_5 hx hb htA hown hK hP dX6_areCellsSound_14 ?_
        refine lv_iload_n hx hb dX6_areCellsSound_17 rfl (lv_at hl 1 rfl) ?_
        refine sy_cv (rest := []) C hK hN hP (m3_workAt l D cA ad τ ρ π γ x1) (3) 5 rfl rfl kw_272 kw_273 kw_274 kw_24 kw_275 hd_X3_workAt ⟨Nat.le_of_ble_eq_true rfl, Nat.le_of_ble_eq_true rfl⟩ rfl rfl rfl hl.1 rfl (Nat.le_of_ble_eq_true rfl) dX6_areCellsSound_18 ⟨Nat.zero_le _, Nat.zero_le _⟩ ?_
        refine lv_istore_n (lv' := [(2, .int (f3_workAt π x1)), (0, .ref (ad 4)), (1, .int x1)]) hx hb dX6_areCellsSound_21 rfl hl (by decide) rfl (fun ls hl => ?_)
        refine lv_iload_n hx hb dX6_areCellsSound_22 rfl (lv_at hl 0 rfl) ?_
        refine lv_if_ne (tgt := 41) hx hb dX6_areCellsSound_23 (by decide) (fun c_2 => ?_) (fun c_2 => ?_)
        · refine lv_iconst (v := 0) hx hb dX6_areCellsSound_41 (by decide) ?_
          refine lv_istore_n (lv' := [(3, .int 0), (2, .int (f3_workAt π x1)), (0, .ref (ad 4)), (1, .int x1)]) hx hb dX6_areCellsSound_42 rfl hl (by decide) rfl (fun ls hl => ?_)
          refine lv_iload_n hx hb dX6_areCellsSound_43 rfl (lv_at hl 1 rfl) ?_
          refine lv_iconst (v := 0) hx hb dX6_areCellsSound_44 (by decide) ?_
          refine lv_bipush (v := 20) hx hb dX6_areCellsSound_45 (by decide) ?_
          refine sy_csN (rest := []) C hK hN hP (m7_isWithin l D cA ad τ ρ π γ (f3_workAt π x1) 0 20) kw_140 kw_7 kw_141 hd_X7_isWithin ⟨Nat.le_of_ble_eq_true rfl, Nat.le_of_ble_eq_true rfl⟩ rfl rfl rfl hl.1 rfl (Nat.le_of_ble_eq_true rfl) dX6_areCellsSound_47 ⟨Nat.zero_le _, Nat.zero_le _⟩ ?_
          refine lv_if_eq (tgt := 68) hx hb dX6_areCellsSound_50 (by decide) (fun c_3 => ?_) (fun c_3 => ?_)
          · refine lv_iconst (v := 0) hx hb dX6_areCellsSound_68 (by decide) ?_
            have e9 : f6_areCellsSound_L2 τ π (n + 1) x1 = .inl 0 := by rw [f6_areCellsSound_L2_s]; (try rw [if_neg c_1]); (try rw [if_neg c_2]); (try rw [if_pos c_3])
            exact sy_retZ hx hb hr hlk rfl (kr _ e9) dX6_areCellsSound_69
          · refine lv_aload_n hx hb dX6_areCellsSound_53 rfl (lv_at hl 2 rfl) ?_
            refine gX6_5 hx hb htA hown hK hP dX6_areCellsSound_54 ?_
            refine lv_iload_n hx hb dX6_areCellsSound_57 rfl (lv_at hl 3 rfl) ?_
            refine sy_cv (rest := []) C hK hN hP (m3_markAt l D cA ad τ ρ π γ x1) (3) 5 rfl rfl kw_271 kw_206 kw_207 kw_24 kw_208 hd_X3_markAt ⟨Nat.le_of_ble_eq_true rfl, Nat.le_of_ble_eq_true rfl⟩ rfl rfl rfl hl.1 rfl (Nat.le_of_ble_eq_true rfl) dX6_areCellsSound_58 ⟨Nat.zero_le _, Nat.zero_le _⟩ ?_
            refine lv_if_ne (tgt := 70) hx hb dX6_areCellsSound_61 (by decide) (fun c_4 => ?_) (fun c_4 => ?_)
            · refine lv_iinc (v := x1 + 1) (lv' := [(1, .int (x1 + 1)), (3, .int 0), (2, .int (f3_workAt π x1)), (0, .ref (ad 4))]) hx hb dX6_areCellsSound_70 hl (k := 3) rfl (by rfl) (by decide) rfl (fun ls hl => ?_)
              refine lv_goto (tgt := 2) hx hb dX6_areCellsSound_73 (by decide) ?_
              have e9 : f6_areCellsSound_L2 τ π (n + 1) x1 = f6_areCellsSound_L2 τ π n (x1 + 1) := by rw [f6_areCellsSound_L2_s]; (try rw [if_neg c_1]); (try rw [if_neg c_2]); (try rw [if_neg c_3]); (try rw [if_neg c_4])
              rw [e9] at kk
              rw [e9] at kr
              exact ih (x1 + 1) (nm_dec (Int32.not_le.mp c_1) hn)  ls (lv_sub hl [3, 0] rfl) kk kr
            · refine lv_iload_n hx hb dX6_areCellsSound_64 rfl (lv_at hl 0 rfl) ?_
              refine lv_if_ne (tgt := 70) hx hb dX6_areCellsSound_65 (by decide) (fun c_5 => ?_) (fun c_5 => ?_)
              · exact absurd c_5 (by decide)
              · refine lv_iconst (v := 0) hx hb dX6_areCellsSound_68 (by decide) ?_
                have e9 : f6_areCellsSound_L2 τ π (n + 1) x1 = .inl 0 := by rw [f6_areCellsSound_L2_s]; (try rw [if_neg c_1]); (try rw [if_neg c_2]); (try rw [if_neg c_3]); (try rw [if_pos c_4]); (try rw [if_pos c_5])
                exact sy_retZ hx hb hr hlk rfl (kr _ e9) dX6_areCellsSound_69
        · refine lv_aload_n hx hb dX6_areCellsSound_26 rfl (lv_at hl 1 rfl) ?_
          refine gX6_5 hx hb htA hown hK hP dX6_areCellsSound_27 ?_
          refine lv_iload_n hx hb dX6_areCellsSound_30 rfl (lv_at hl 2 rfl) ?_
          refine sy_cv (rest := []) C hK hN hP (m3_hardAt l D cA ad τ ρ π γ x1) (3) 5 rfl rfl kw_276 kw_277 kw_278 kw_24 kw_279 hd_X3_hardAt ⟨Nat.le_of_ble_eq_true rfl, Nat.le_of_ble_eq_true rfl⟩ rfl rfl rfl hl.1 rfl (Nat.le_of_ble_eq_true rfl) dX6_areCellsSound_31 ⟨Nat.zero_le _, Nat.zero_le _⟩ ?_
          refine lv_if_ne (tgt := 41) hx hb dX6_areCellsSound_34 (by decide) (fun c_6 => ?_) (fun c_6 => ?_)
          · refine lv_iconst (v := 0) hx hb dX6_areCellsSound_41 (by decide) ?_
            refine lv_istore_n (lv' := [(3, .int 0), (2, .int (f3_workAt π x1)), (0, .ref (ad 4)), (1, .int x1)]) hx hb dX6_areCellsSound_42 rfl hl (by decide) rfl (fun ls hl => ?_)
            refine lv_iload_n hx hb dX6_areCellsSound_43 rfl (lv_at hl 1 rfl) ?_
            refine lv_iconst (v := 0) hx hb dX6_areCellsSound_44 (by decide) ?_
            refine lv_bipush (v := 20) hx hb dX6_areCellsSound_45 (by decide) ?_
            refine sy_csN (rest := []) C hK hN hP (m7_isWithin l D cA ad τ ρ π γ (f3_workAt π x1) 0 20) kw_140 kw_7 kw_141 hd_X7_isWithin ⟨Nat.le_of_ble_eq_true rfl, Nat.le_of_ble_eq_true rfl⟩ rfl rfl rfl hl.1 rfl (Nat.le_of_ble_eq_true rfl) dX6_areCellsSound_47 ⟨Nat.zero_le _, Nat.zero_le _⟩ ?_
            refine lv_if_eq (tgt := 68) hx hb dX6_areCellsSound_50 (by decide) (fun c_7 => ?_) (fun c_7 => ?_)
            · refine lv_iconst (v := 0) hx hb dX6_areCellsSound_68 (by decide) ?_
              have e9 : f6_areCellsSound_L2 τ π (n + 1) x1 = .inl 0 := by rw [f6_areCellsSound_L2_s]; (try rw [if_neg c_1]); (try rw [if_pos c_2]); (try rw [if_neg c_6]); (try rw [if_pos c_7])
              exact sy_retZ hx hb hr hlk rfl (kr _ e9) dX6_areCellsSound_69
            · refine lv_aload_n hx hb dX6_areCellsSound_53 rfl (lv_at hl 2 rfl) ?_
              refine gX6_5 hx hb htA hown hK hP dX6_areCellsSound_54 ?_
              refine lv_iload_n hx hb dX6_areCellsSound_57 rfl (lv_at hl 3 rfl) ?_
              refine sy_cv (rest := []) C hK hN hP (m3_markAt l D cA ad τ ρ π γ x1) (3) 5 rfl rfl kw_271 kw_206 kw_207 kw_24 kw_208 hd_X3_markAt ⟨Nat.le_of_ble_eq_true rfl, Nat.le_of_ble_eq_true rfl⟩ rfl rfl rfl hl.1 rfl (Nat.le_of_ble_eq_true rfl) dX6_areCellsSound_58 ⟨Nat.zero_le _, Nat.zero_le _⟩ ?_
              refine lv_if_ne (tgt := 70) hx hb dX6_areCellsSound_61 (by decide) (fun c_8 => ?_) (fun c_8 => ?_)
              · refine lv_iinc (v := x1 + 1) (lv' := [(1, .int (x1 + 1)), (3, .int 0), (2, .int (f3_workAt π x1)), (0, .ref (ad 4))]) hx hb dX6_areCellsSound_70 hl (k := 3) rfl (by rfl) (by decide) rfl (fun ls hl => ?_)
                refine lv_goto (tgt := 2) hx hb dX6_areCellsSound_73 (by decide) ?_
                have e9 : f6_areCellsSound_L2 τ π (n + 1) x1 = f6_areCellsSound_L2 τ π n (x1 + 1) := by rw [f6_areCellsSound_L2_s]; (try rw [if_neg c_1]); (try rw [if_pos c_2]); (try rw [if_neg c_6]); (try rw [if_neg c_7]); (try rw [if_neg c_8])
                rw [e9] at kk
                rw [e9] at kr
                exact ih (x1 + 1) (nm_dec (Int32.not_le.mp c_1) hn)  ls (lv_sub hl [3, 0] rfl) kk kr
              · refine lv_iload_n hx hb dX6_areCellsSound_64 rfl (lv_at hl 0 rfl) ?_
                refine lv_if_ne (tgt := 70) hx hb dX6_areCellsSound_65 (by decide) (fun c_9 => ?_) (fun c_9 => ?_)
                · exact absurd c_9 (by decide)
                · refine lv_iconst (v := 0) hx hb dX6_areCellsSound_68 (by decide) ?_
                  have e9 : f6_areCellsSound_L2 τ π (n + 1) x1 = .inl 0 := by rw [f6_areCellsSound_L2_s]; (try rw [if_neg c_1]); (try rw [if_pos c_2]); (try rw [if_neg c_6]); (try rw [if_neg c_7]); (try rw [if_pos c_8]); (try rw [if_pos c_9])
                  exact sy_retZ hx hb hr hlk rfl (kr _ e9) dX6_areCellsSound_69
          · refine lv_iconst (v := 1) hx hb dX6_areCellsSound_37 (by decide) ?_
            refine lv_goto (tgt := 42) hx hb dX6_areCellsSound_38 (by decide) ?_
            refine lv_istore_n (lv' := [(3, .int 1), (2, .int (f3_workAt π x1)), (0, .ref (ad 4)), (1, .int x1)]) hx hb dX6_areCellsSound_42 rfl hl (by decide) rfl (fun ls hl => ?_)
            refine lv_iload_n hx hb dX6_areCellsSound_43 rfl (lv_at hl 1 rfl) ?_
            refine lv_iconst (v := 0) hx hb dX6_areCellsSound_44 (by decide) ?_
            refine lv_bipush (v := 20) hx hb dX6_areCellsSound_45 (by decide) ?_
            refine sy_csN (rest := []) C hK hN hP (m7_isWithin l D cA ad τ ρ π γ (f3_workAt π x1) 0 20) kw_140 kw_7 kw_141 hd_X7_isWithin ⟨Nat.le_of_ble_eq_true rfl, Nat.le_of_ble_eq_true rfl⟩ rfl rfl rfl hl.1 rfl (Nat.le_of_ble_eq_true rfl) dX6_areCellsSound_47 ⟨Nat.zero_le _, Nat.zero_le _⟩ ?_
            refine lv_if_eq (tgt := 68) hx hb dX6_areCellsSound_50 (by decide) (fun c_10 => ?_) (fun c_10 => ?_)
            · refine lv_iconst (v := 0) hx hb dX6_areCellsSound_68 (by decide) ?_
              have e9 : f6_areCellsSound_L2 τ π (n + 1) x1 = .inl 0 := by rw [f6_areCellsSound_L2_s]; (try rw [if_neg c_1]); (try rw [if_pos c_2]); (try rw [if_pos c_6]); (try rw [if_pos c_10])
              exact sy_retZ hx hb hr hlk rfl (kr _ e9) dX6_areCellsSound_69
            · refine lv_aload_n hx hb dX6_areCellsSound_53 rfl (lv_at hl 2 rfl) ?_
              refine gX6_5 hx hb htA hown hK hP dX6_areCellsSound_54 ?_
              refine lv_iload_n hx hb dX6_areCellsSound_57 rfl (lv_at hl 3 rfl) ?_
              refine sy_cv (rest := []) C hK hN hP (m3_markAt l D cA ad τ ρ π γ x1) (3) 5 rfl rfl kw_271 kw_206 kw_207 kw_24 kw_208 hd_X3_markAt ⟨Nat.le_of_ble_eq_true rfl, Nat.le_of_ble_eq_true rfl⟩ rfl rfl rfl hl.1 rfl (Nat.le_of_ble_eq_true rfl) dX6_areCellsSound_58 ⟨Nat.zero_le _, Nat.zero_le _⟩ ?_
              refine lv_if_ne (tgt := 70) hx hb dX6_areCellsSound_61 (by decide) (fun c_11 => ?_) (fun c_11 => ?_)
              · refine lv_iinc (v := x1 + 1) (lv' := [(1, .int (x1 + 1)), (3, .int 1), (2, .int (f3_workAt π x1)), (0, .ref (ad 4))]) hx hb dX6_areCellsSound_70 hl (k := 3) rfl (by rfl) (by decide) rfl (fun ls hl => ?_)
                refine lv_goto (tgt := 2) hx hb dX6_areCellsSound_73 (by decide) ?_
                have e9 : f6_areCellsSound_L2 τ π (n + 1) x1 = f6_areCellsSound_L2 τ π n (x1 + 1) := by rw [f6_areCellsSound_L2_s]; (try rw [if_neg c_1]); (try rw [if_pos c_2]); (try rw [if_pos c_6]); (try rw [if_neg c_10]); (try rw [if_neg c_11])
                rw [e9] at kk
                rw [e9] at kr
                exact ih (x1 + 1) (nm_dec (Int32.not_le.mp c_1) hn)  ls (lv_sub hl [3, 0] rfl) kk kr
              · refine lv_iload_n hx hb dX6_areCellsSound_64 rfl (lv_at hl 0 rfl) ?_
                refine lv_if_ne (tgt := 70) hx hb dX6_areCellsSound_65 (by decide) (fun c_12 => ?_) (fun c_12 => ?_)
                · refine lv_iinc (v := x1 + 1) (lv' := [(1, .int (x1 + 1)), (3, .int 1), (2, .int (f3_workAt π x1)), (0, .ref (ad 4))]) hx hb dX6_areCellsSound_70 hl (k := 3) rfl (by rfl) (by decide) rfl (fun ls hl => ?_)
                  refine lv_goto (tgt := 2) hx hb dX6_areCellsSound_73 (by decide) ?_
                  have e9 : f6_areCellsSound_L2 τ π (n + 1) x1 = f6_areCellsSound_L2 τ π n (x1 + 1) := by rw [f6_areCellsSound_L2_s]; (try rw [if_neg c_1]); (try rw [if_pos c_2]); (try rw [if_pos c_6]); (try rw [if_neg c_10]); (try rw [if_pos c_11]); (try rw [if_neg c_12])
                  rw [e9] at kk
                  rw [e9] at kr
                  exact ih (x1 + 1) (nm_dec (Int32.not_le.mp c_1) hn)  ls (lv_sub hl [3, 0] rfl) kk kr
                · exact absurd c_12 (by decide)
  refine hL2 8589934592 0 (nm_lt _ _) ls (lv_sub hl [1, 0] rfl) (fun t ht_12 ls hl => ?_) (fun r ht_12 => ?_)
  · refine lv_iconst (v := 1) hx hb dX6_areCellsSound_76 (by decide) ?_
    have e9 : 1 = f6_areCellsSound τ π := by unfold f6_areCellsSound; (try rw [ht_12])
    exact sy_retZ hx hb hr hlk rfl e9 dX6_areCellsSound_77
  · unfold f6_areCellsSound; (try rw [ht_12])
/-- X6_isAllSound -/
theorem hd_X6_isAllSound : yX6_isAllSound.cls = yX6_isAllSound.cls ∧ yX6_isAllSound.cls ≠ "java/lang/invoke/MethodHandle" ∧ yX6_isAllSound.cls ≠ "java/lang/invoke/VarHandle" ∧ (parseMethodDescriptor yX6_isAllSound.desc).map (fun d => d.parameters.length) = some 0 := by decide +kernel
def f6_isAllSound_L10 (τ : Sg) (ρ : Sg) (π : Sg) (γ : Sg) : Nat → Int32 → Int32 → Int32 × Int32
  | 0, x1, x2 => (x1, x2)
  | n + 1, x1, x2 => (if (f2_many γ 0) ≤ x2 then (x1, x2) else (f6_isAllSound_L10 τ ρ π γ n (x1 + (f2_sizeOf γ 0 x2)) (x2 + 1)))
theorem f6_isAllSound_L10_s (τ : Sg) (ρ : Sg) (π : Sg) (γ : Sg) (n : Nat) (x1 : Int32) (x2 : Int32) : f6_isAllSound_L10 τ ρ π γ (n + 1) x1 x2 = (if (f2_many γ 0) ≤ x2 then (x1, x2) else (f6_isAllSound_L10 τ ρ π γ n (x1 + (f2_sizeOf γ 0 x2)) (x2 + 1))) := rfl
def f6_isAllSound (τ : Sg) (ρ : Sg) (π : Sg) (γ : Sg) : Int32 := (if ((f6_isAllSound_L10 τ ρ π γ 8589934592 (f3_particles τ π) 0).1) = (f5_cells τ) then (if (f2_many γ 0) < (f2_many γ 1) then 0 else (if (f6_areCellsSound τ π) = 0 then 0 else (if (f3_energy τ ρ π) < 0 then 0 else (if (f6_allCuts τ ρ π) = (f6_seenPairs τ ρ π) then 1 else 0)))) else 0)
set_option maxHeartbeats 400000 in
set_option maxRecDepth 100000 in
theorem m6_isAllSound (l : Launch) (D : va_G) (cA : ClassId) (ad : Nat → Nat) (τ ρ π γ : Sg) (hT : Ok τ) : Met l yX6_isAllSound (wM yX6_isAllSound cX6_isAllSound 3 (some .boolean)) ({ frames := 4, cells := 0, slots := 0, locals := 91 }) (va_Pc [.ref (ad 4)] (pS D cA ad τ ρ π γ)) (QcRead (f6_isAllSound τ ρ π γ)) 0 0 noA := by
  refine sy_of (by decide) (Nat.le_of_ble_eq_true rfl) ?_
  intro p e s m below meth c ls C hr hlk hK hN hP hl
  obtain ⟨hx, hb, hml, hown, hts⟩ := id C
  have htA : ∀ w ∈ wA, w.before ([.ref (ad 4)] : List Value).toArray s = true := fun w h => hts w (List.mem_cons_of_mem _ h)
  have hl : lv_has ls 3 [(0, .ref (ad 4))] := hl
  refine lv_aload_n hx hb dX6_isAllSound_0 rfl (lv_at hl 0 rfl) ?_
  refine gX6_5 hx hb htA hown hK hP dX6_isAllSound_1 ?_
  refine sy_cv (rest := []) C hK hN hP (m3_particles l D cA ad τ ρ π γ) (3) 5 rfl rfl kw_447 kw_317 kw_318 kw_24 kw_319 hd_X3_particles ⟨Nat.le_of_ble_eq_true rfl, Nat.le_of_ble_eq_true rfl⟩ rfl rfl rfl hl.1 rfl (Nat.le_of_ble_eq_true rfl) dX6_isAllSound_4 ⟨Nat.zero_le _, Nat.zero_le _⟩ ?_
  refine lv_istore_n (lv' := [(1, .int (f3_particles τ π)), (0, .ref (ad 4))]) hx hb dX6_isAllSound_7 rfl hl (by decide) rfl (fun ls hl => ?_)
  refine lv_iconst (v := 0) hx hb dX6_isAllSound_8 (by decide) ?_
  refine lv_istore_n (lv' := [(2, .int 0), (1, .int (f3_particles τ π)), (0, .ref (ad 4))]) hx hb dX6_isAllSound_9 rfl hl (by decide) rfl (fun ls hl => ?_)
  have hL10 : ∀ (n : Nat) (x1 : Int32) (x2 : Int32), nm x2 (f2_many γ 0) < n → ∀ ls : Array Slot, lv_has ls 3 [(0, .ref (ad 4)), (1, .int x1), (2, .int x2)] → (∀ ls : Array Slot, lv_has ls 3 [(0, .ref (ad 4)), (1, .int ((f6_isAllSound_L10 τ ρ π γ n x1 x2).1)), (2, .int ((f6_isAllSound_L10 τ ρ π γ n x1 x2).2))] → W p l e ({ frames := 4, cells := 0, slots := 0, locals := 91 }) s m ([.ref (ad 4)] : List Value).toArray below meth c s.heap [] 0 0 (MQ below (QcRead (f6_isAllSound τ ρ π γ)) ([.ref (ad 4)] : List Value).toArray s 0 0 noA) (F0 m 38 ls [])) → W p l e ({ frames := 4, cells := 0, slots := 0, locals := 91 }) s m ([.ref (ad 4)] : List Value).toArray below meth c s.heap [] 0 0 (MQ below (QcRead (f6_isAllSound τ ρ π γ)) ([.ref (ad 4)] : List Value).toArray s 0 0 noA) (F0 m 10 ls []) := by
    intro  n
    induction n with
    | zero =>
      intro x1 x2 hn
      exact absurd hn (Nat.not_lt_zero _)
    | succ n ih =>
      intro x1 x2 hn ls hl kk
      refine lv_iload_n hx hb dX6_isAllSound_10 rfl (lv_at hl 2 rfl) ?_
      refine lv_aload_n hx hb dX6_isAllSound_11 rfl (lv_at hl 0 rfl) ?_
      refine gX6_2 hx hb htA hown hK hP dX6_isAllSound_12 ?_
      refine sy_cv (rest := [.int x2]) C hK hN hP (m2_many l D cA ad τ ρ π γ 0 (by decide)) (5) 4 rfl rfl kw_247 kw_248 kw_249 kw_81 kw_250 hd_X2_many ⟨Nat.le_of_ble_eq_true rfl, Nat.le_of_ble_eq_true rfl⟩ rfl rfl rfl hl.1 rfl (Nat.le_of_ble_eq_true rfl) dX6_isAllSound_15 ⟨Nat.zero_le _, Nat.zero_le _⟩ ?_
      refine lv_icmp_ge (tgt := 38) hx hb dX6_isAllSound_18 (by decide) (fun c_1 => ?_) (fun c_1 => ?_)
      · have e9 : f6_isAllSound_L10 τ ρ π γ (n + 1) x1 x2 = (x1, x2) := by rw [f6_isAllSound_L10_s]; (try rw [if_pos c_1])
        rw [e9] at kk
        exact kk ls (lv_sub hl [0, 1, 2] rfl)
      · refine lv_iload_n hx hb dX6_isAllSound_21 rfl (lv_at hl 1 rfl) ?_
        refine lv_aload_n hx hb dX6_isAllSound_22 rfl (lv_at hl 0 rfl) ?_
        refine gX6_2 hx hb htA hown hK hP dX6_isAllSound_23 ?_
        refine lv_iload_n hx hb dX6_isAllSound_26 rfl (lv_at hl 2 rfl) ?_
        refine sy_cv (rest := [.int x1]) C hK hN hP (m2_sizeOf l D cA ad τ ρ π γ 0 (by decide) x2) (5) 4 rfl rfl kw_565 kw_461 kw_462 kw_81 kw_463 hd_X2_sizeOf ⟨Nat.le_of_ble_eq_true rfl, Nat.le_of_ble_eq_true rfl⟩ rfl rfl rfl hl.1 rfl (Nat.le_of_ble_eq_true rfl) dX6_isAllSound_27 ⟨Nat.zero_le _, Nat.zero_le _⟩ ?_
        refine lv_iadd hx hb dX6_isAllSound_30 ?_
        refine lv_istore_n (lv' := [(1, .int (x1 + (f2_sizeOf γ 0 x2))), (0, .ref (ad 4)), (2, .int x2)]) hx hb dX6_isAllSound_31 rfl hl (by decide) rfl (fun ls hl => ?_)
        refine lv_iinc (v := x2 + 1) (lv' := [(2, .int (x2 + 1)), (1, .int (x1 + (f2_sizeOf γ 0 x2))), (0, .ref (ad 4))]) hx hb dX6_isAllSound_32 hl (k := 2) rfl (by rfl) (by decide) rfl (fun ls hl => ?_)
        refine lv_goto (tgt := 10) hx hb dX6_isAllSound_35 (by decide) ?_
        have e9 : f6_isAllSound_L10 τ ρ π γ (n + 1) x1 x2 = f6_isAllSound_L10 τ ρ π γ n (x1 + (f2_sizeOf γ 0 x2)) (x2 + 1) := by rw [f6_isAllSound_L10_s]; (try rw [if_neg c_1])
        rw [e9] at kk
        exact ih (x1 + (f2_sizeOf γ 0 x2)) (x2 + 1) (nm_dec (Int32.not_le.mp c_1) hn)  ls (lv_sub hl [2, 1, 0] rfl) kk
  refine hL10 8589934592 (f3_particles τ π) 0 (nm_lt _ _) ls (lv_sub hl [2, 1, 0] rfl) (fun ls hl => ?_)
  refine lv_iload_n hx hb dX6_isAllSound_38 rfl (lv_at hl 1 rfl) ?_
  refine lv_aload_n hx hb dX6_isAllSound_39 rfl (lv_at hl 0 rfl) ?_
  refine gX6_0 hx hb htA hown hK hP dX6_isAllSound_40 ?_
  refine sy_cv (rest := [.int ((f6_isAllSound_L10 τ ρ π γ 8589934592 (f3_particles τ π) 0).1)]) C hK hN hP (m5_cells l D cA ad τ ρ π γ) (1) 7 rfl rfl kw_375 kw_184 kw_185 kw_16 kw_186 hd_X5_cells ⟨Nat.le_of_ble_eq_true rfl, Nat.le_of_ble_eq_true rfl⟩ rfl rfl rfl hl.1 rfl (Nat.le_of_ble_eq_true rfl) dX6_isAllSound_43 ⟨Nat.zero_le _, Nat.zero_le _⟩ ?_
  refine lv_icmp_ne (tgt := 98) hx hb dX6_isAllSound_46 (by decide) (fun c_2 => ?_) (fun c_2 => ?_)
  · refine lv_iconst (v := 0) hx hb dX6_isAllSound_98 (by decide) ?_
    have e9 : 0 = f6_isAllSound τ ρ π γ := by unfold f6_isAllSound; (try rw [if_neg c_2])
    exact sy_retZ hx hb hr hlk rfl e9 dX6_isAllSound_99
  · refine lv_aload_n hx hb dX6_isAllSound_49 rfl (lv_at hl 0 rfl) ?_
    refine gX6_3 hx hb htA hown hK hP dX6_isAllSound_50 ?_
    refine sy_cv (rest := []) C hK hN hP (m2_many l D cA ad τ ρ π γ 1 (by decide)) (6) 4 rfl rfl kw_247 kw_248 kw_249 kw_81 kw_250 hd_X2_many ⟨Nat.le_of_ble_eq_true rfl, Nat.le_of_ble_eq_true rfl⟩ rfl rfl rfl hl.1 rfl (Nat.le_of_ble_eq_true rfl) dX6_isAllSound_53 ⟨Nat.zero_le _, Nat.zero_le _⟩ ?_
    refine lv_aload_n hx hb dX6_isAllSound_56 rfl (lv_at hl 0 rfl) ?_
    refine gX6_2 hx hb htA hown hK hP dX6_isAllSound_57 ?_
    refine sy_cv (rest := [.int (f2_many γ 1)]) C hK hN hP (m2_many l D cA ad τ ρ π γ 0 (by decide)) (5) 4 rfl rfl kw_247 kw_248 kw_249 kw_81 kw_250 hd_X2_many ⟨Nat.le_of_ble_eq_true rfl, Nat.le_of_ble_eq_true rfl⟩ rfl rfl rfl hl.1 rfl (Nat.le_of_ble_eq_true rfl) dX6_isAllSound_60 ⟨Nat.zero_le _, Nat.zero_le _⟩ ?_
    refine lv_icmp_gt (tgt := 98) hx hb dX6_isAllSound_63 (by decide) (fun c_3 => ?_) (fun c_3 => ?_)
    · refine lv_iconst (v := 0) hx hb dX6_isAllSound_98 (by decide) ?_
      have e9 : 0 = f6_isAllSound τ ρ π γ := by unfold f6_isAllSound; (try rw [if_pos c_2]); (try rw [if_pos c_3])
      exact sy_retZ hx hb hr hlk rfl e9 dX6_isAllSound_99
    · refine lv_aload_n hx hb dX6_isAllSound_66 rfl (lv_at hl 0 rfl) ?_
      refine sy_cv (rest := []) C hK hN hP (m6_areCellsSound l D cA ad τ ρ π γ) (4) 8 rfl rfl kw_832 kw_833 kw_834 kw_29 kw_835 hd_X6_areCellsSound ⟨Nat.le_of_ble_eq_true rfl, Nat.le_of_ble_eq_true rfl⟩ rfl rfl rfl hl.1 rfl (Nat.le_of_ble_eq_true rfl) dX6_isAllSound_67 ⟨Nat.zero_le _, Nat.zero_le _⟩ ?_
      refine lv_if_eq (tgt := 98) hx hb dX6_isAllSound_70 (by decide) (fun c_4 => ?_) (fun c_4 => ?_)
      · refine lv_iconst (v := 0) hx hb dX6_isAllSound_98 (by decide) ?_
        have e9 : 0 = f6_isAllSound τ ρ π γ := by unfold f6_isAllSound; (try rw [if_pos c_2]); (try rw [if_neg c_3]); (try rw [if_pos c_4])
        exact sy_retZ hx hb hr hlk rfl e9 dX6_isAllSound_99
      · refine lv_aload_n hx hb dX6_isAllSound_73 rfl (lv_at hl 0 rfl) ?_
        refine gX6_5 hx hb htA hown hK hP dX6_isAllSound_74 ?_
        refine sy_cv (rest := []) C hK hN hP (m3_energy l D cA ad τ ρ π γ hT) (3) 5 rfl rfl kw_377 kw_378 kw_379 kw_24 kw_380 hd_X3_energy ⟨Nat.le_of_ble_eq_true rfl, Nat.le_of_ble_eq_true rfl⟩ rfl rfl rfl hl.1 rfl (Nat.le_of_ble_eq_true rfl) dX6_isAllSound_77 ⟨Nat.zero_le _, Nat.zero_le _⟩ ?_
        refine lv_if_lt (tgt := 98) hx hb dX6_isAllSound_80 (by decide) (fun c_5 => ?_) (fun c_5 => ?_)
        · refine lv_iconst (v := 0) hx hb dX6_isAllSound_98 (by decide) ?_
          have e9 : 0 = f6_isAllSound τ ρ π γ := by unfold f6_isAllSound; (try rw [if_pos c_2]); (try rw [if_neg c_3]); (try rw [if_neg c_4]); (try rw [if_pos c_5])
          exact sy_retZ hx hb hr hlk rfl e9 dX6_isAllSound_99
        · refine lv_aload_n hx hb dX6_isAllSound_83 rfl (lv_at hl 0 rfl) ?_
          refine sy_cv (rest := []) C hK hN hP (m6_allCuts l D cA ad τ ρ π γ) (4) 8 rfl rfl kw_395 kw_396 kw_397 kw_29 kw_398 hd_X6_allCuts ⟨Nat.le_of_ble_eq_true rfl, Nat.le_of_ble_eq_true rfl⟩ rfl rfl rfl hl.1 rfl (Nat.le_of_ble_eq_true rfl) dX6_isAllSound_84 ⟨Nat.zero_le _, Nat.zero_le _⟩ ?_
          refine lv_aload_n hx hb dX6_isAllSound_87 rfl (lv_at hl 0 rfl) ?_
          refine sy_cv (rest := [.int (f6_allCuts τ ρ π)]) C hK hN hP (m6_seenPairs l D cA ad τ ρ π γ hT) (4) 8 rfl rfl kw_836 kw_837 kw_838 kw_29 kw_839 hd_X6_seenPairs ⟨Nat.le_of_ble_eq_true rfl, Nat.le_of_ble_eq_true rfl⟩ rfl rfl rfl hl.1 rfl (Nat.le_of_ble_eq_true rfl) dX6_isAllSound_88 ⟨Nat.zero_le _, Nat.zero_le _⟩ ?_
          refine lv_icmp_ne (tgt := 98) hx hb dX6_isAllSound_91 (by decide) (fun c_6 => ?_) (fun c_6 => ?_)
          · refine lv_iconst (v := 0) hx hb dX6_isAllSound_98 (by decide) ?_
            have e9 : 0 = f6_isAllSound τ ρ π γ := by unfold f6_isAllSound; (try rw [if_pos c_2]); (try rw [if_neg c_3]); (try rw [if_neg c_4]); (try rw [if_neg c_5]); (try rw [if_neg c_6])
            exact sy_retZ hx hb hr hlk rfl e9 dX6_isAllSound_99
          · refine lv_iconst (v := 1) hx hb dX6_isAllSound_94 (by decide) ?_
            refine lv_goto (tgt := 99) hx hb dX6_isAllSound_95 (by decide) ?_
            have e9 : 1 = f6_isAllSound τ ρ π γ := by unfold f6_isAllSound; (try rw [if_pos c_2]); (try rw [if_neg c_3]); (try rw [if_neg c_4]); (try rw [if_neg c_5]); (try rw [if_pos c_6])
            exact sy_retZ hx hb hr hlk rfl e9 dX6_isAllSound_99
theorem nar_sound {τ ρ π γ : Sg} : narrow .boolean (.int (f6_isAllSound τ ρ π γ)) = .int (f6_isAllSound τ ρ π γ) := by
  unfold f6_isAllSound
  (repeat' split) <;> rfl

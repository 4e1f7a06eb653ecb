/-- X7_areTwoMarks -/
theorem hd_X7_areTwoMarks : yX7_areTwoMarks.cls = yX7_areTwoMarks.cls ∧ yX7_areTwoMarks.cls ≠ "java/lang/invoke/MethodHandle" ∧ yX7_areTwoMarks.cls ≠ "java/lang/invoke/VarHandle" ∧ (parseMethodDescriptor yX7_areTwoMarks.desc).map (fun d => d.parameters.length) = some 2 := by decide +kernel
def f7_areTwoMarks (a0 : Int32) (a1 : Int32) : Int32 := (if (f7_isWithin a0 1 9) = 0 then 0 else (if (f7_isWithin a1 1 9) = 0 then 0 else (if a0 = a1 then 0 else 1)))
set_option maxHeartbeats 400000 in
set_option maxRecDepth 100000 in
theorem m7_areTwoMarks (l : Launch) (D : va_G) (cA : ClassId) (ad : Nat → Nat) (τ ρ π γ : Sg) (a0 : Int32) (a1 : Int32) : Met l yX7_areTwoMarks (wM yX7_areTwoMarks cX7_areTwoMarks 2 (some .boolean)) ({ frames := 1, cells := 0, slots := 0, locals := 22 }) (va_Pc [.int a0, .int a1] (pS D cA ad τ ρ π γ)) (QcRead (f7_areTwoMarks a0 a1)) 0 0 noA := by
  refine sy_of (by decide) (Nat.le_of_ble_eq_true rfl) ?_
  intro p e s m below meth c ls C hr hlk hK hN hP hl
  obtain ⟨hx, hb, hml, hown, hts⟩ := id C
  have htA : ∀ w ∈ wA, w.before ([.int a0, .int a1] : List Value).toArray s = true := fun w h => hts w (List.mem_cons_of_mem _ h)
  have hl : lv_has ls 2 [(0, .int a0), (1, .int a1)] := hl
  refine lv_iload_n hx hb dX7_areTwoMarks_0 rfl (lv_at hl 0 rfl) ?_
  refine lv_iconst (v := 1) hx hb dX7_areTwoMarks_1 (by decide) ?_
  refine lv_bipush (v := 9) hx hb dX7_areTwoMarks_2 (by decide) ?_
  refine sy_cs (rest := []) C hK hN hP (m7_isWithin l D cA ad τ ρ π γ a0 1 9) kw_139 kw_140 kw_7 kw_141 hd_X7_isWithin ⟨Nat.le_of_ble_eq_true rfl, Nat.le_of_ble_eq_true rfl⟩ rfl rfl rfl hl.1 rfl (Nat.le_of_ble_eq_true rfl) dX7_areTwoMarks_4 ⟨Nat.zero_le _, Nat.zero_le _⟩ ?_
  refine lv_if_eq (tgt := 29) hx hb dX7_areTwoMarks_7 (by decide) (fun c_1 => ?_) (fun c_1 => ?_)
  · refine lv_iconst (v := 0) hx hb dX7_areTwoMarks_29 (by decide) ?_
    have e9 : 0 = f7_areTwoMarks a0 a1 := by unfold f7_areTwoMarks; (try rw [if_pos c_1])
    exact sy_retZ hx hb hr hlk rfl e9 dX7_areTwoMarks_30
  · refine lv_iload_n hx hb dX7_areTwoMarks_10 rfl (lv_at hl 1 rfl) ?_
    refine lv_iconst (v := 1) hx hb dX7_areTwoMarks_11 (by decide) ?_
    refine lv_bipush (v := 9) hx hb dX7_areTwoMarks_12 (by decide) ?_
    refine sy_cs (rest := []) C hK hN hP (m7_isWithin l D cA ad τ ρ π γ a1 1 9) kw_139 kw_140 kw_7 kw_141 hd_X7_isWithin ⟨Nat.le_of_ble_eq_true rfl, Nat.le_of_ble_eq_true rfl⟩ rfl rfl rfl hl.1 rfl (Nat.le_of_ble_eq_true rfl) dX7_areTwoMarks_14 ⟨Nat.zero_le _, Nat.zero_le _⟩ ?_
    refine lv_if_eq (tgt := 29) hx hb dX7_areTwoMarks_17 (by decide) (fun c_2 => ?_) (fun c_2 => ?_)
    · refine lv_iconst (v := 0) hx hb dX7_areTwoMarks_29 (by decide) ?_
      have e9 : 0 = f7_areTwoMarks a0 a1 := by unfold f7_areTwoMarks; (try rw [if_neg c_1]); (try rw [if_pos c_2])
      exact sy_retZ hx hb hr hlk rfl e9 dX7_areTwoMarks_30
    · refine lv_iload_n hx hb dX7_areTwoMarks_20 rfl (lv_at hl 0 rfl) ?_
      refine lv_iload_n hx hb dX7_areTwoMarks_21 rfl (lv_at hl 1 rfl) ?_
      refine lv_icmp_eq (tgt := 29) hx hb dX7_areTwoMarks_22 (by decide) (fun c_3 => ?_) (fun c_3 => ?_)
      · refine lv_iconst (v := 0) hx hb dX7_areTwoMarks_29 (by decide) ?_
        have e9 : 0 = f7_areTwoMarks a0 a1 := by unfold f7_areTwoMarks; (try rw [if_neg c_1]); (try rw [if_neg c_2]); (try rw [if_pos c_3])
        exact sy_retZ hx hb hr hlk rfl e9 dX7_areTwoMarks_30
      · refine lv_iconst (v := 1) hx hb dX7_areTwoMarks_25 (by decide) ?_
        refine lv_goto (tgt := 30) hx hb dX7_areTwoMarks_26 (by decide) ?_
        have e9 : 1 = f7_areTwoMarks a0 a1 := by unfold f7_areTwoMarks; (try rw [if_neg c_1]); (try rw [if_neg c_2]); (try rw [if_neg c_3])
        exact sy_retZ hx hb hr hlk rfl e9 dX7_areTwoMarks_30
/-- X7_isCooling -/
theorem hd_X7_isCooling : yX7_isCooling.cls = yX7_isCooling.cls ∧ yX7_isCooling.cls ≠ "java/lang/invoke/MethodHandle" ∧ yX7_isCooling.cls ≠ "java/lang/invoke/VarHandle" ∧ (parseMethodDescriptor yX7_isCooling.desc).map (fun d => d.parameters.length) = some 2 := by decide +kernel
def f7_isCooling (a0 : Int32) (a1 : Int32) : Int32 := (if (f7_isWithin a0 0 9) = 0 then 0 else (if (f7_isWithin a1 0 a0) = 0 then 0 else 1))
set_option maxHeartbeats 400000 in
set_option maxRecDepth 100000 in
theorem m7_isCooling (l : Launch) (D : va_G) (cA : ClassId) (ad : Nat → Nat) (τ ρ π γ : Sg) (a0 : Int32) (a1 : Int32) : Met l yX7_isCooling (wM yX7_isCooling cX7_isCooling 2 (some .boolean)) ({ frames := 1, cells := 0, slots := 0, locals := 22 }) (va_Pc [.int a0, .int a1] (pS D cA ad τ ρ π γ)) (QcRead (f7_isCooling a0 a1)) 0 0 noA := by
  refine sy_of (by decide) (Nat.le_of_ble_eq_true rfl) ?_
  intro p e s m below meth c ls C hr hlk hK hN hP hl
  obtain ⟨hx, hb, hml, hown, hts⟩ := id C
  have htA : ∀ w ∈ wA, w.before ([.int a0, .int a1] : List Value).toArray s = true := fun w h => hts w (List.mem_cons_of_mem _ h)
  have hl : lv_has ls 2 [(0, .int a0), (1, .int a1)] := hl
  refine lv_iload_n hx hb dX7_isCooling_0 rfl (lv_at hl 0 rfl) ?_
  refine lv_iconst (v := 0) hx hb dX7_isCooling_1 (by decide) ?_
  refine lv_bipush (v := 9) hx hb dX7_isCooling_2 (by decide) ?_
  refine sy_cs (rest := []) C hK hN hP (m7_isWithin l D cA ad τ ρ π γ a0 0 9) kw_139 kw_140 kw_7 kw_141 hd_X7_isWithin ⟨Nat.le_of_ble_eq_true rfl, Nat.le_of_ble_eq_true rfl⟩ rfl rfl rfl hl.1 rfl (Nat.le_of_ble_eq_true rfl) dX7_isCooling_4 ⟨Nat.zero_le _, Nat.zero_le _⟩ ?_
  refine lv_if_eq (tgt := 23) hx hb dX7_isCooling_7 (by decide) (fun c_1 => ?_) (fun c_1 => ?_)
  · refine lv_iconst (v := 0) hx hb dX7_isCooling_23 (by decide) ?_
    have e9 : 0 = f7_isCooling a0 a1 := by unfold f7_isCooling; (try rw [if_pos c_1])
    exact sy_retZ hx hb hr hlk rfl e9 dX7_isCooling_24
  · refine lv_iload_n hx hb dX7_isCooling_10 rfl (lv_at hl 1 rfl) ?_
    refine lv_iconst (v := 0) hx hb dX7_isCooling_11 (by decide) ?_
    refine lv_iload_n hx hb dX7_isCooling_12 rfl (lv_at hl 0 rfl) ?_
    refine sy_cs (rest := []) C hK hN hP (m7_isWithin l D cA ad τ ρ π γ a1 0 a0) kw_139 kw_140 kw_7 kw_141 hd_X7_isWithin ⟨Nat.le_of_ble_eq_true rfl, Nat.le_of_ble_eq_true rfl⟩ rfl rfl rfl hl.1 rfl (Nat.le_of_ble_eq_true rfl) dX7_isCooling_13 ⟨Nat.zero_le _, Nat.zero_le _⟩ ?_
    refine lv_if_eq (tgt := 23) hx hb dX7_isCooling_16 (by decide) (fun c_2 => ?_) (fun c_2 => ?_)
    · refine lv_iconst (v := 0) hx hb dX7_isCooling_23 (by decide) ?_
      have e9 : 0 = f7_isCooling a0 a1 := by unfold f7_isCooling; (try rw [if_neg c_1]); (try rw [if_pos c_2])
      exact sy_retZ hx hb hr hlk rfl e9 dX7_isCooling_24
    · refine lv_iconst (v := 1) hx hb dX7_isCooling_19 (by decide) ?_
      refine lv_goto (tgt := 24) hx hb dX7_isCooling_20 (by decide) ?_
      have e9 : 1 = f7_isCooling a0 a1 := by unfold f7_isCooling; (try rw [if_neg c_1]); (try rw [if_neg c_2])
      exact sy_retZ hx hb hr hlk rfl e9 dX7_isCooling_24
theorem cooling_nonneg {x y : Int32} (h : ¬ (f7_isCooling x y) = 0) : 0 ≤ y := by
  unfold f7_isCooling at h
  by_cases h1 : (f7_isWithin x 0 9) = 0
  · first | (rw [if_pos h1] at h; exact absurd rfl h)
  by_cases h2 : (f7_isWithin y 0 x) = 0
  · rw [if_neg h1, if_pos h2] at h; exact absurd rfl h
  exact (within_spec h2).1
/-- X7_isProgramme -/
theorem hd_X7_isProgramme : yX7_isProgramme.cls = yX7_isProgramme.cls ∧ yX7_isProgramme.cls ≠ "java/lang/invoke/MethodHandle" ∧ yX7_isProgramme.cls ≠ "java/lang/invoke/VarHandle" ∧ (parseMethodDescriptor yX7_isProgramme.desc).map (fun d => d.parameters.length) = some 1 := by decide +kernel
def f7_isProgramme_L18  (x0 : Int32) : Nat → Int32 → Int32 → (Int32) ⊕ (Int32 × Int32)
  | 0, x1, x2 => .inr (x1, x2)
  | n + 1, x1, x2 => (if x2 ≤ 0 then .inr (x1, x2) else (if ((x0 / x2) - (x0 / x2) / 6 * 6) ≤ 0 then (if x1 = 0 then (f7_isProgramme_L18 x0 n 0 (x2 / 6)) else .inl 0) else (if x1 = 0 then (f7_isProgramme_L18 x0 n 1 (x2 / 6)) else (f7_isProgramme_L18 x0 n 1 (x2 / 6)))))
theorem f7_isProgramme_L18_s  (x0 : Int32) (n : Nat) (x1 : Int32) (x2 : Int32) : f7_isProgramme_L18 x0 (n + 1) x1 x2 = (if x2 ≤ 0 then .inr (x1, x2) else (if ((x0 / x2) - (x0 / x2) / 6 * 6) ≤ 0 then (if x1 = 0 then (f7_isProgramme_L18 x0 n 0 (x2 / 6)) else .inl 0) else (if x1 = 0 then (f7_isProgramme_L18 x0 n 1 (x2 / 6)) else (f7_isProgramme_L18 x0 n 1 (x2 / 6))))) := rfl
def f7_isProgramme (a0 : Int32) : Int32 := (if (f7_isWithin a0 0 215) = 0 then 0 else (match f7_isProgramme_L18 a0 8589934592 0 36 with | .inl r => r | .inr t => 1))
set_option maxHeartbeats 400000 in
set_option maxRecDepth 100000 in
theorem m7_isProgramme (l : Launch) (D : va_G) (cA : ClassId) (ad : Nat → Nat) (τ ρ π γ : Sg) (a0 : Int32) : Met l yX7_isProgramme (wM yX7_isProgramme cX7_isProgramme 4 (some .boolean)) ({ frames := 1, cells := 0, slots := 0, locals := 22 }) (va_Pc [.int a0] (pS D cA ad τ ρ π γ)) (QcRead (f7_isProgramme a0)) 0 0 noA := by
  refine sy_of (by decide) (Nat.le_of_ble_eq_true rfl) ?_
  intro p e s m below meth c ls C hr hlk hK hN hP hl
  obtain ⟨hx, hb, hml, hown, hts⟩ := id C
  have htA : ∀ w ∈ wA, w.before ([.int a0] : List Value).toArray s = true := fun w h => hts w (List.mem_cons_of_mem _ h)
  have hl : lv_has ls 4 [(0, .int a0)] := hl
  refine lv_iload_n hx hb dX7_isProgramme_0 rfl (lv_at hl 0 rfl) ?_
  refine lv_iconst (v := 0) hx hb dX7_isProgramme_1 (by decide) ?_
  refine lv_sipush (v := 215) hx hb dX7_isProgramme_2 (by decide) ?_
  refine sy_cs (rest := []) C hK hN hP (m7_isWithin l D cA ad τ ρ π γ a0 0 215) kw_139 kw_140 kw_7 kw_141 hd_X7_isWithin ⟨Nat.le_of_ble_eq_true rfl, Nat.le_of_ble_eq_true rfl⟩ rfl rfl rfl hl.1 rfl (Nat.le_of_ble_eq_true rfl) dX7_isProgramme_5 ⟨Nat.zero_le _, Nat.zero_le _⟩ ?_
  refine lv_if_ne (tgt := 13) hx hb dX7_isProgramme_8 (by decide) (fun c_1 => ?_) (fun c_1 => ?_)
  · refine lv_iconst (v := 0) hx hb dX7_isProgramme_13 (by decide) ?_
    refine lv_istore_n (lv' := [(1, .int 0), (0, .int a0)]) hx hb dX7_isProgramme_14 rfl hl (by decide) rfl (fun ls hl => ?_)
    refine lv_bipush (v := 36) hx hb dX7_isProgramme_15 (by decide) ?_
    refine lv_istore_n (lv' := [(2, .int 36), (1, .int 0), (0, .int a0)]) hx hb dX7_isProgramme_17 rfl hl (by decide) rfl (fun ls hl => ?_)
    have hL18 : ∀ (x0 : Int32) (n : Nat) (x1 : Int32) (x2 : Int32), x2.toInt.toNat < n → ∀ ls : Array Slot, lv_has ls 4 [(0, .int x0), (1, .int x1), (2, .int x2)] → (∀ t, f7_isProgramme_L18 x0 n x1 x2 = .inr t → ∀ ls : Array Slot, lv_has ls 4 [(0, .int x0), (1, .int t.1), (2, .int t.2)] → W p l e ({ frames := 1, cells := 0, slots := 0, locals := 22 }) s m ([.int a0] : List Value).toArray below meth c s.heap [] 0 0 (MQ below (QcRead (f7_isProgramme a0)) ([.int a0] : List Value).toArray s 0 0 noA) (F0 m 69 ls [])) → (∀ r, f7_isProgramme_L18 x0 n x1 x2 = .inl r → r = f7_isProgramme a0) → W p l e ({ frames := 1, cells := 0, slots := 0, locals := 22 }) s m ([.int a0] : List Value).toArray below meth c s.heap [] 0 0 (MQ below (QcRead (f7_isProgramme a0)) ([.int a0] : List Value).toArray s 0 0 noA) (F0 m 18 ls []) := by
      intro x0 n
      induction n with
      | zero =>
        intro x1 x2 hn
        exact absurd hn (Nat.not_lt_zero _)
      | succ n ih =>
        intro x1 x2 hn ls hl kk kr
        refine lv_iload_n hx hb dX7_isProgramme_18 rfl (lv_at hl 2 rfl) ?_
        refine lv_if_le (tgt := 69) hx hb dX7_isProgramme_19 (by decide) (fun c_2 => ?_) (fun c_2 => ?_)
        · have e9 : f7_isProgramme_L18 x0 (n + 1) x1 x2 = .inr (x1, x2) := by rw [f7_isProgramme_L18_s]; (try rw [if_pos c_2])
          exact kk _ e9 ls (lv_sub hl [0, 1, 2] rfl)
        · refine lv_iload_n hx hb dX7_isProgramme_22 rfl (lv_at hl 0 rfl) ?_
          refine lv_iload_n hx hb dX7_isProgramme_23 rfl (lv_at hl 2 rfl) ?_
          refine lv_idiv hx hb dX7_isProgramme_24 (ne_pos (Int32.not_le.mp c_2)) ?_
          refine lv_bipush (v := 6) hx hb dX7_isProgramme_25 (by decide) ?_
          refine lv_irem hx hb dX7_isProgramme_27 (by decide) ?_
          refine lv_if_le (tgt := 35) hx hb dX7_isProgramme_28 (by decide) (fun c_3 => ?_) (fun c_3 => ?_)
          · refine lv_iconst (v := 0) hx hb dX7_isProgramme_35 (by decide) ?_
            refine lv_istore_n (lv' := [(3, .int 0), (0, .int x0), (1, .int x1), (2, .int x2)]) hx hb dX7_isProgramme_36 rfl hl (by decide) rfl (fun ls hl => ?_)
            refine lv_iload_n hx hb dX7_isProgramme_37 rfl (lv_at hl 2 rfl) ?_
            refine lv_if_eq (tgt := 47) hx hb dX7_isProgramme_38 (by decide) (fun c_4 => ?_) (fun c_4 => ?_)
            · refine lv_iload_n hx hb dX7_isProgramme_47 rfl (lv_at hl 2 rfl) ?_
              refine lv_if_ne (tgt := 55) hx hb dX7_isProgramme_48 (by decide) (fun c_5 => ?_) (fun c_5 => ?_)
              · exact absurd c_4 c_5
              · refine lv_iload_n hx hb dX7_isProgramme_51 rfl (lv_at hl 0 rfl) ?_
                refine lv_if_eq (tgt := 59) hx hb dX7_isProgramme_52 (by decide) (fun c_6 => ?_) (fun c_6 => ?_)
                · refine lv_iconst (v := 0) hx hb dX7_isProgramme_59 (by decide) ?_
                  refine lv_istore_n (lv' := [(1, .int 0), (3, .int 0), (0, .int x0), (2, .int x2)]) hx hb dX7_isProgramme_60 rfl hl (by decide) rfl (fun ls hl => ?_)
                  refine lv_iload_n hx hb dX7_isProgramme_61 rfl (lv_at hl 3 rfl) ?_
                  refine lv_bipush (v := 6) hx hb dX7_isProgramme_62 (by decide) ?_
                  refine lv_idiv hx hb dX7_isProgramme_64 (by decide) ?_
                  refine lv_istore_n (lv' := [(2, .int (x2 / 6)), (1, .int 0), (3, .int 0), (0, .int x0)]) hx hb dX7_isProgramme_65 rfl hl (by decide) rfl (fun ls hl => ?_)
                  refine lv_goto (tgt := 18) hx hb dX7_isProgramme_66 (by decide) ?_
                  have e9 : f7_isProgramme_L18 x0 (n + 1) x1 x2 = f7_isProgramme_L18 x0 n 0 (x2 / 6) := by rw [f7_isProgramme_L18_s]; (try rw [if_neg c_2]); (try rw [if_pos c_3]); (try rw [if_pos c_4]); (try rw [if_pos c_5]); (try rw [if_pos c_6])
                  rw [e9] at kk
                  rw [e9] at kr
                  exact ih 0 (x2 / 6) (div6_dec (Int32.not_le.mp c_2) hn)  ls (lv_sub hl [3, 1, 0] rfl) kk kr
                · exact absurd c_6 (by decide)
            · refine lv_iload_n hx hb dX7_isProgramme_41 rfl (lv_at hl 0 rfl) ?_
              refine lv_if_ne (tgt := 47) hx hb dX7_isProgramme_42 (by decide) (fun c_7 => ?_) (fun c_7 => ?_)
              · exact absurd c_7 (by decide)
              · refine lv_iconst (v := 0) hx hb dX7_isProgramme_45 (by decide) ?_
                have e9 : f7_isProgramme_L18 x0 (n + 1) x1 x2 = .inl 0 := by rw [f7_isProgramme_L18_s]; (try rw [if_neg c_2]); (try rw [if_pos c_3]); (try rw [if_neg c_4]); (try rw [if_pos c_7])
                exact sy_retZ hx hb hr hlk rfl (kr _ e9) dX7_isProgramme_46
          · refine lv_iconst (v := 1) hx hb dX7_isProgramme_31 (by decide) ?_
            refine lv_goto (tgt := 36) hx hb dX7_isProgramme_32 (by decide) ?_
            refine lv_istore_n (lv' := [(3, .int 1), (0, .int x0), (1, .int x1), (2, .int x2)]) hx hb dX7_isProgramme_36 rfl hl (by decide) rfl (fun ls hl => ?_)
            refine lv_iload_n hx hb dX7_isProgramme_37 rfl (lv_at hl 2 rfl) ?_
            refine lv_if_eq (tgt := 47) hx hb dX7_isProgramme_38 (by decide) (fun c_8 => ?_) (fun c_8 => ?_)
            · refine lv_iload_n hx hb dX7_isProgramme_47 rfl (lv_at hl 2 rfl) ?_
              refine lv_if_ne (tgt := 55) hx hb dX7_isProgramme_48 (by decide) (fun c_9 => ?_) (fun c_9 => ?_)
              · exact absurd c_8 c_9
              · refine lv_iload_n hx hb dX7_isProgramme_51 rfl (lv_at hl 0 rfl) ?_
                refine lv_if_eq (tgt := 59) hx hb dX7_isProgramme_52 (by decide) (fun c_10 => ?_) (fun c_10 => ?_)
                · exact absurd c_10 (by decide)
                · refine lv_iconst (v := 1) hx hb dX7_isProgramme_55 (by decide) ?_
                  refine lv_goto (tgt := 60) hx hb dX7_isProgramme_56 (by decide) ?_
                  refine lv_istore_n (lv' := [(1, .int 1), (3, .int 1), (0, .int x0), (2, .int x2)]) hx hb dX7_isProgramme_60 rfl hl (by decide) rfl (fun ls hl => ?_)
                  refine lv_iload_n hx hb dX7_isProgramme_61 rfl (lv_at hl 3 rfl) ?_
                  refine lv_bipush (v := 6) hx hb dX7_isProgramme_62 (by decide) ?_
                  refine lv_idiv hx hb dX7_isProgramme_64 (by decide) ?_
                  refine lv_istore_n (lv' := [(2, .int (x2 / 6)), (1, .int 1), (3, .int 1), (0, .int x0)]) hx hb dX7_isProgramme_65 rfl hl (by decide) rfl (fun ls hl => ?_)
                  refine lv_goto (tgt := 18) hx hb dX7_isProgramme_66 (by decide) ?_
                  have e9 : f7_isProgramme_L18 x0 (n + 1) x1 x2 = f7_isProgramme_L18 x0 n 1 (x2 / 6) := by rw [f7_isProgramme_L18_s]; (try rw [if_neg c_2]); (try rw [if_neg c_3]); (try rw [if_pos c_8]); (try rw [if_pos c_9]); (try rw [if_neg c_10])
                  rw [e9] at kk
                  rw [e9] at kr
                  exact ih 1 (x2 / 6) (div6_dec (Int32.not_le.mp c_2) hn)  ls (lv_sub hl [3, 1, 0] rfl) kk kr
            · refine lv_iload_n hx hb dX7_isProgramme_41 rfl (lv_at hl 0 rfl) ?_
              refine lv_if_ne (tgt := 47) hx hb dX7_isProgramme_42 (by decide) (fun c_11 => ?_) (fun c_11 => ?_)
              · refine lv_iload_n hx hb dX7_isProgramme_47 rfl (lv_at hl 2 rfl) ?_
                refine lv_if_ne (tgt := 55) hx hb dX7_isProgramme_48 (by decide) (fun c_12 => ?_) (fun c_12 => ?_)
                · refine lv_iconst (v := 1) hx hb dX7_isProgramme_55 (by decide) ?_
                  refine lv_goto (tgt := 60) hx hb dX7_isProgramme_56 (by decide) ?_
                  refine lv_istore_n (lv' := [(1, .int 1), (3, .int 1), (0, .int x0), (2, .int x2)]) hx hb dX7_isProgramme_60 rfl hl (by decide) rfl (fun ls hl => ?_)
                  refine lv_iload_n hx hb dX7_isProgramme_61 rfl (lv_at hl 3 rfl) ?_
                  refine lv_bipush (v := 6) hx hb dX7_isProgramme_62 (by decide) ?_
                  refine lv_idiv hx hb dX7_isProgramme_64 (by decide) ?_
                  refine lv_istore_n (lv' := [(2, .int (x2 / 6)), (1, .int 1), (3, .int 1), (0, .int x0)]) hx hb dX7_isProgramme_65 rfl hl (by decide) rfl (fun ls hl => ?_)
                  refine lv_goto (tgt := 18) hx hb dX7_isProgramme_66 (by decide) ?_
                  have e9 : f7_isProgramme_L18 x0 (n + 1) x1 x2 = f7_isProgramme_L18 x0 n 1 (x2 / 6) := by rw [f7_isProgramme_L18_s]; (try rw [if_neg c_2]); (try rw [if_neg c_3]); (try rw [if_neg c_8]); (try rw [if_neg c_11]); (try rw [if_neg c_12])
                  rw [e9] at kk
                  rw [e9] at kr
                  exact ih 1 (x2 / 6) (div6_dec (Int32.not_le.mp c_2) hn)  ls (lv_sub hl [3, 1, 0] rfl) kk kr
                · exact absurd c_12 c_8
              · exact absurd c_11 (by decide)
    refine hL18 a0 8589934592 0 36 (nmd_lt' _) ls (lv_sub hl [2, 1, 0] rfl) (fun t ht_12 ls hl => ?_) (fun r ht_12 => ?_)
    · refine lv_iconst (v := 1) hx hb dX7_isProgramme_69 (by decide) ?_
      have e9 : 1 = f7_isProgramme a0 := by unfold f7_isProgramme; (try rw [if_neg c_1]); (try rw [ht_12])
      exact sy_retZ hx hb hr hlk rfl e9 dX7_isProgramme_70
    · unfold f7_isProgramme; (try rw [if_neg c_1]); (try rw [ht_12])
  · refine lv_iconst (v := 0) hx hb dX7_isProgramme_11 (by decide) ?_
    have e9 : 0 = f7_isProgramme a0 := by unfold f7_isProgramme; (try rw [if_pos c_1])
    exact sy_retZ hx hb hr hlk rfl e9 dX7_isProgramme_12
/-- X7_lattice -/
theorem hd_X7_lattice : yX7_lattice.cls = yX7_lattice.cls ∧ yX7_lattice.cls ≠ "java/lang/invoke/MethodHandle" ∧ yX7_lattice.cls ≠ "java/lang/invoke/VarHandle" ∧ (parseMethodDescriptor yX7_lattice.desc).map (fun d => d.parameters.length) = some 3 := by decide +kernel
def f7_lattice (τ : Sg) (ρ : Sg) (π : Sg) (γ : Sg) (a1 : Int32) (a2 : Int32) (a3 : Int32) : Int32 × Sg × Sg × Sg := (if (f7_isWithin a1 2 8) = 0 then (0, τ, π, γ) else (if (f7_isWithin a2 2 8) = 0 then (0, τ, π, γ) else (if (f7_isWithin a3 1 9) = 0 then (0, τ, π, γ) else (f6_grainMany (f6_look (f5_layOut τ a1 a2) ρ (f3_castAnew (f5_layOut τ a1 a2) π a3) γ), (f5_layOut τ a1 a2), (f3_castAnew (f5_layOut τ a1 a2) π a3), (f6_look (f5_layOut τ a1 a2) ρ (f3_castAnew (f5_layOut τ a1 a2) π a3) γ)))))
set_option maxHeartbeats 400000 in
set_option maxRecDepth 100000 in
theorem m7_lattice (l : Launch) (D : va_G) (cA : ClassId) (ad : Nat → Nat) (had : Apart ad) (τ ρ π γ : Sg) (hT : Ok τ) (a1 : Int32) (a2 : Int32) (a3 : Int32) (hpre_0 : ¬ ((f7_isWithin a1 2 8) = 0)) (hpre_1 : ¬ (¬ (f7_isWithin a1 2 8) = 0 ∧ (f7_isWithin a2 2 8) = 0)) (hpre_2 : ¬ (¬ (f7_isWithin a1 2 8) = 0 ∧ ¬ (f7_isWithin a2 2 8) = 0 ∧ (f7_isWithin a3 1 9) = 0)) : Met l yX7_lattice (wM yX7_lattice cX7_lattice 4 (some .int)) ({ frames := 5, cells := 0, slots := 0, locals := 118 }) (va_Pc [.ref (ad 0), .int a1, .int a2, .int a3] (pS D cA ad τ ρ π γ)) (qV D cA ad ((f7_lattice τ ρ π γ a1 a2 a3).2.1) ρ ((f7_lattice τ ρ π γ a1 a2 a3).2.2.1) ((f7_lattice τ ρ π γ a1 a2 a3).2.2.2) (some (.int ((f7_lattice τ ρ π γ a1 a2 a3).1)))) 0 0 (aS ad) := by
  refine sy_of (by decide) (Nat.le_of_ble_eq_true rfl) ?_
  intro p e s m below meth c ls C hr hlk hK hN hP hl
  obtain ⟨hx, hb, hml, hown, hts⟩ := id C
  have htA : ∀ w ∈ wA, w.before ([.ref (ad 0), .int a1, .int a2, .int a3] : List Value).toArray s = true := fun w h => hts w (List.mem_cons_of_mem _ h)
  have hl : lv_has ls 4 [(0, .ref (ad 0)), (1, .int a1), (2, .int a2), (3, .int a3)] := hl
  have hS : va_S (aS ad) s.heap s.heap [] := va_S.rf
  refine lv_iload_n hx hb dX7_lattice_0 rfl (lv_at hl 1 rfl) ?_
  refine lv_iconst (v := 2) hx hb dX7_lattice_1 (by decide) ?_
  refine lv_bipush (v := 8) hx hb dX7_lattice_2 (by decide) ?_
  refine sy_cs (rest := []) C hK hN hP (m7_isWithin l D cA ad τ ρ π γ a1 2 8) kw_139 kw_140 kw_7 kw_141 hd_X7_isWithin ⟨Nat.le_of_ble_eq_true rfl, Nat.le_of_ble_eq_true rfl⟩ rfl rfl rfl hl.1 rfl (Nat.le_of_ble_eq_true rfl) dX7_lattice_4 ⟨Nat.zero_le _, Nat.zero_le _⟩ ?_
  refine lv_if_eq (tgt := 30) hx hb dX7_lattice_7 (by decide) (fun c_1 => ?_) (fun c_1 => ?_)
  · exact absurd c_1 hpre_0
  · refine lv_iload_n hx hb dX7_lattice_10 rfl (lv_at hl 2 rfl) ?_
    refine lv_iconst (v := 2) hx hb dX7_lattice_11 (by decide) ?_
    refine lv_bipush (v := 8) hx hb dX7_lattice_12 (by decide) ?_
    refine sy_cs (rest := []) C hK hN hP (m7_isWithin l D cA ad τ ρ π γ a2 2 8) kw_139 kw_140 kw_7 kw_141 hd_X7_isWithin ⟨Nat.le_of_ble_eq_true rfl, Nat.le_of_ble_eq_true rfl⟩ rfl rfl rfl hl.1 rfl (Nat.le_of_ble_eq_true rfl) dX7_lattice_14 ⟨Nat.zero_le _, Nat.zero_le _⟩ ?_
    refine lv_if_eq (tgt := 30) hx hb dX7_lattice_17 (by decide) (fun c_2 => ?_) (fun c_2 => ?_)
    · exact absurd ⟨c_1, c_2⟩ hpre_1
    · refine lv_iload_n hx hb dX7_lattice_20 rfl (lv_at hl 3 rfl) ?_
      refine lv_iconst (v := 1) hx hb dX7_lattice_21 (by decide) ?_
      refine lv_bipush (v := 9) hx hb dX7_lattice_22 (by decide) ?_
      refine sy_cs (rest := []) C hK hN hP (m7_isWithin l D cA ad τ ρ π γ a3 1 9) kw_139 kw_140 kw_7 kw_141 hd_X7_isWithin ⟨Nat.le_of_ble_eq_true rfl, Nat.le_of_ble_eq_true rfl⟩ rfl rfl rfl hl.1 rfl (Nat.le_of_ble_eq_true rfl) dX7_lattice_24 ⟨Nat.zero_le _, Nat.zero_le _⟩ ?_
      refine lv_if_ne (tgt := 38) hx hb dX7_lattice_27 (by decide) (fun c_3 => ?_) (fun c_3 => ?_)
      · refine lv_aload_n hx hb dX7_lattice_38 rfl (lv_at hl 0 rfl) ?_
        refine gX7_0 hx hb htA hown hK hP dX7_lattice_39 ?_
        refine lv_iload_n hx hb dX7_lattice_42 rfl (lv_at hl 1 rfl) ?_
        refine lv_iload_n hx hb dX7_lattice_43 rfl (lv_at hl 2 rfl) ?_
        refine sy_cvM (rest := []) (st1 := []) C hK hN hP (fun _ h => h) hS (m5_layOut l D cA ad had τ ρ π γ hT a1 a2 (within_mul c_1 c_2)) (1) 7 rfl rfl kw_154 kw_155 kw_156 kw_16 kw_157 hd_X5_layOut ⟨Nat.le_of_ble_eq_true rfl, Nat.le_of_ble_eq_true rfl⟩ rfl rfl rfl hl.1 rfl (Nat.le_of_ble_eq_true rfl) dX7_lattice_44 ⟨Nat.zero_le _, Nat.zero_le _⟩ rfl (fun H locs hP hS => ?_)
        refine lv_aload_n hx hb dX7_lattice_47 rfl (lv_at hl 0 rfl) ?_
        refine gX7_2 hx hb htA hown hK hP dX7_lattice_48 ?_
        refine lv_iload_n hx hb dX7_lattice_51 rfl (lv_at hl 3 rfl) ?_
        refine sy_cvM (rest := []) (st1 := []) C hK hN hP (fun _ h => h) hS (m3_castAnew l D cA ad had (f5_layOut τ a1 a2) ρ π γ a3) (3) 5 rfl rfl kw_178 kw_179 kw_180 kw_24 kw_181 hd_X3_castAnew ⟨Nat.le_of_ble_eq_true rfl, Nat.le_of_ble_eq_true rfl⟩ rfl rfl rfl hl.1 rfl (Nat.le_of_ble_eq_true rfl) dX7_lattice_52 ⟨Nat.zero_le _, Nat.zero_le _⟩ rfl (fun H locs hP hS => ?_)
        refine lv_aload_n hx hb dX7_lattice_55 rfl (lv_at hl 0 rfl) ?_
        refine gX7_4 hx hb htA hown hK hP dX7_lattice_56 ?_
        refine lv_aload_n hx hb dX7_lattice_59 rfl (lv_at hl 0 rfl) ?_
        refine gX7_2 hx hb htA hown hK hP dX7_lattice_60 ?_
        refine sy_cvM (rest := []) (st1 := []) C hK hN hP (fun _ h => h) hS (m6_look l D cA ad had (f5_layOut τ a1 a2) ρ (f3_castAnew (f5_layOut τ a1 a2) π a3) γ (Ok_layOut (within_mul c_1 c_2))) (4) 8 rfl rfl kw_195 kw_196 kw_197 kw_29 kw_198 hd_X6_look ⟨Nat.le_of_ble_eq_true rfl, Nat.le_of_ble_eq_true rfl⟩ rfl rfl rfl hl.1 rfl (Nat.le_of_ble_eq_true rfl) dX7_lattice_63 ⟨Nat.zero_le _, Nat.zero_le _⟩ rfl (fun H locs hP hS => ?_)
        refine lv_aload_n hx hb dX7_lattice_66 rfl (lv_at hl 0 rfl) ?_
        refine gX7_4 hx hb htA hown hK hP dX7_lattice_67 ?_
        refine sy_cv (rest := []) C hK hN hP (m6_grainMany l D cA ad (f5_layOut τ a1 a2) ρ (f3_castAnew (f5_layOut τ a1 a2) π a3) (f6_look (f5_layOut τ a1 a2) ρ (f3_castAnew (f5_layOut τ a1 a2) π a3) γ)) (4) 8 rfl rfl kw_243 kw_244 kw_245 kw_29 kw_246 hd_X6_grainMany ⟨Nat.le_of_ble_eq_true rfl, Nat.le_of_ble_eq_true rfl⟩ rfl rfl rfl hl.1 rfl (Nat.le_of_ble_eq_true rfl) dX7_lattice_70 ⟨Nat.zero_le _, Nat.zero_le _⟩ ?_
        have e9 : (f6_grainMany (f6_look (f5_layOut τ a1 a2) ρ (f3_castAnew (f5_layOut τ a1 a2) π a3) γ), (f5_layOut τ a1 a2), (f3_castAnew (f5_layOut τ a1 a2) π a3), (f6_look (f5_layOut τ a1 a2) ρ (f3_castAnew (f5_layOut τ a1 a2) π a3) γ)) = f7_lattice τ ρ π γ a1 a2 a3 := by unfold f7_lattice; (try rw [if_neg c_1]); (try rw [if_neg c_2]); (try rw [if_neg c_3])
        exact sy_retVI hx hb hr hlk hP hS rfl (by rw [← e9]) (by rw [← e9]) dX7_lattice_73
      · exact absurd ⟨c_1, c_2, c_3⟩ hpre_2
/-- X7_seed -/
theorem hd_X7_seed : yX7_seed.cls = yX7_seed.cls ∧ yX7_seed.cls ≠ "java/lang/invoke/MethodHandle" ∧ yX7_seed.cls ≠ "java/lang/invoke/VarHandle" ∧ (parseMethodDescriptor yX7_seed.desc).map (fun d => d.parameters.length) = some 1 := by decide +kernel
def f7_seed (π : Sg) (a1 : Int32) : Int32 × Sg := (if (f7_isWithin a1 0 999) = 0 then (0, π) else (f3_drawnEver (f3_beginRow π a1), (f3_beginRow π a1)))
set_option maxHeartbeats 400000 in
set_option maxRecDepth 100000 in
theorem m7_seed (l : Launch) (D : va_G) (cA : ClassId) (ad : Nat → Nat) (had : Apart ad) (τ ρ π γ : Sg) (a1 : Int32) (hpre_0 : ¬ ((f7_isWithin a1 0 999) = 0)) : Met l yX7_seed (wM yX7_seed cX7_seed 2 (some .int)) ({ frames := 1, cells := 0, slots := 0, locals := 22 }) (va_Pc [.ref (ad 0), .int a1] (pS D cA ad τ ρ π γ)) (qV D cA ad τ ρ ((f7_seed π a1).2) γ (some (.int ((f7_seed π a1).1)))) 0 0 (aS ad) := by
  refine sy_of (by decide) (Nat.le_of_ble_eq_true rfl) ?_
  intro p e s m below meth c ls C hr hlk hK hN hP hl
  obtain ⟨hx, hb, hml, hown, hts⟩ := id C
  have htA : ∀ w ∈ wA, w.before ([.ref (ad 0), .int a1] : List Value).toArray s = true := fun w h => hts w (List.mem_cons_of_mem _ h)
  have hl : lv_has ls 2 [(0, .ref (ad 0)), (1, .int a1)] := hl
  have hS : va_S (aS ad) s.heap s.heap [] := va_S.rf
  refine lv_iload_n hx hb dX7_seed_0 rfl (lv_at hl 1 rfl) ?_
  refine lv_iconst (v := 0) hx hb dX7_seed_1 (by decide) ?_
  refine lv_sipush (v := 999) hx hb dX7_seed_2 (by decide) ?_
  refine sy_cs (rest := []) C hK hN hP (m7_isWithin l D cA ad τ ρ π γ a1 0 999) kw_139 kw_140 kw_7 kw_141 hd_X7_isWithin ⟨Nat.le_of_ble_eq_true rfl, Nat.le_of_ble_eq_true rfl⟩ rfl rfl rfl hl.1 rfl (Nat.le_of_ble_eq_true rfl) dX7_seed_5 ⟨Nat.zero_le _, Nat.zero_le _⟩ ?_
  refine lv_if_ne (tgt := 19) hx hb dX7_seed_8 (by decide) (fun c_1 => ?_) (fun c_1 => ?_)
  · refine lv_aload_n hx hb dX7_seed_19 rfl (lv_at hl 0 rfl) ?_
    refine gX7_2 hx hb htA hown hK hP dX7_seed_20 ?_
    refine lv_iload_n hx hb dX7_seed_23 rfl (lv_at hl 1 rfl) ?_
    refine sy_cvM (rest := []) (st1 := []) C hK hN hP (fun _ h => h) hS (m3_beginRow l D cA ad had τ ρ π γ a1) (3) 5 rfl rfl kw_142 kw_143 kw_144 kw_24 kw_145 hd_X3_beginRow ⟨Nat.le_of_ble_eq_true rfl, Nat.le_of_ble_eq_true rfl⟩ rfl rfl rfl hl.1 rfl (Nat.le_of_ble_eq_true rfl) dX7_seed_24 ⟨Nat.zero_le _, Nat.zero_le _⟩ rfl (fun H locs hP hS => ?_)
    refine lv_aload_n hx hb dX7_seed_27 rfl (lv_at hl 0 rfl) ?_
    refine gX7_2 hx hb htA hown hK hP dX7_seed_28 ?_
    refine sy_cv (rest := []) C hK hN hP (m3_drawnEver l D cA ad τ ρ (f3_beginRow π a1) γ) (3) 5 rfl rfl kw_146 kw_147 kw_148 kw_24 kw_149 hd_X3_drawnEver ⟨Nat.le_of_ble_eq_true rfl, Nat.le_of_ble_eq_true rfl⟩ rfl rfl rfl hl.1 rfl (Nat.le_of_ble_eq_true rfl) dX7_seed_31 ⟨Nat.zero_le _, Nat.zero_le _⟩ ?_
    have e9 : (f3_drawnEver (f3_beginRow π a1), (f3_beginRow π a1)) = f7_seed π a1 := by unfold f7_seed; (try rw [if_neg c_1])
    exact sy_retVI hx hb hr hlk hP hS rfl (by rw [← e9]) (by rw [← e9]) dX7_seed_34
  · exact absurd c_1 hpre_0
/-- X7_pin -/
theorem hd_X7_pin : yX7_pin.cls = yX7_pin.cls ∧ yX7_pin.cls ≠ "java/lang/invoke/MethodHandle" ∧ yX7_pin.cls ≠ "java/lang/invoke/VarHandle" ∧ (parseMethodDescriptor yX7_pin.desc).map (fun d => d.parameters.length) = some 1 := by decide +kernel
def f7_pin (τ : Sg) (π : Sg) (a1 : Int32) : Int32 × Sg := (if (f5_holds τ a1) = 0 then (0, π) else (if (f3_markAt π a1) = 0 then (0, π) else (f3_particles τ (f3_putHard (f3_putWork (f3_putMark π a1 0) a1 0) a1 0), (f3_putHard (f3_putWork (f3_putMark π a1 0) a1 0) a1 0))))
set_option maxHeartbeats 400000 in
set_option maxRecDepth 100000 in
theorem m7_pin (l : Launch) (D : va_G) (cA : ClassId) (ad : Nat → Nat) (had : Apart ad) (τ ρ π γ : Sg) (a1 : Int32) (hpre_0 : ¬ (¬ (f5_holds τ a1) = 0 ∧ (f3_markAt π a1) = 0)) (hpre_1 : ¬ ((f5_holds τ a1) = 0)) : Met l yX7_pin (wM yX7_pin cX7_pin 2 (some .int)) ({ frames := 2, cells := 0, slots := 0, locals := 43 }) (va_Pc [.ref (ad 0), .int a1] (pS D cA ad τ ρ π γ)) (qV D cA ad τ ρ ((f7_pin τ π a1).2) γ (some (.int ((f7_pin τ π a1).1)))) 0 0 (aS ad) := by
  refine sy_of (by decide) (Nat.le_of_ble_eq_true rfl) ?_
  intro p e s m below meth c ls C hr hlk hK hN hP hl
  obtain ⟨hx, hb, hml, hown, hts⟩ := id C
  have htA : ∀ w ∈ wA, w.before ([.ref (ad 0), .int a1] : List Value).toArray s = true := fun w h => hts w (List.mem_cons_of_mem _ h)
  have hl : lv_has ls 2 [(0, .ref (ad 0)), (1, .int a1)] := hl
  have hS : va_S (aS ad) s.heap s.heap [] := va_S.rf
  refine lv_aload_n hx hb dX7_pin_0 rfl (lv_at hl 0 rfl) ?_
  refine gX7_0 hx hb htA hown hK hP dX7_pin_1 ?_
  refine lv_iload_n hx hb dX7_pin_4 rfl (lv_at hl 1 rfl) ?_
  refine sy_cv (rest := []) C hK hN hP (m5_holds l D cA ad τ ρ π γ a1) (1) 7 rfl rfl kw_266 kw_175 kw_176 kw_16 kw_177 hd_X5_holds ⟨Nat.le_of_ble_eq_true rfl, Nat.le_of_ble_eq_true rfl⟩ rfl rfl rfl hl.1 rfl (Nat.le_of_ble_eq_true rfl) dX7_pin_5 ⟨Nat.zero_le _, Nat.zero_le _⟩ ?_
  refine lv_if_ne (tgt := 19) hx hb dX7_pin_8 (by decide) (fun c_1 => ?_) (fun c_1 => ?_)
  · refine lv_aload_n hx hb dX7_pin_19 rfl (lv_at hl 0 rfl) ?_
    refine gX7_2 hx hb htA hown hK hP dX7_pin_20 ?_
    refine lv_iload_n hx hb dX7_pin_23 rfl (lv_at hl 1 rfl) ?_
    refine sy_cv (rest := []) C hK hN hP (m3_markAt l D cA ad τ ρ π γ a1) (3) 5 rfl rfl kw_301 kw_206 kw_207 kw_24 kw_208 hd_X3_markAt ⟨Nat.le_of_ble_eq_true rfl, Nat.le_of_ble_eq_true rfl⟩ rfl rfl rfl hl.1 rfl (Nat.le_of_ble_eq_true rfl) dX7_pin_24 ⟨Nat.zero_le _, Nat.zero_le _⟩ ?_
    refine lv_if_ne (tgt := 38) hx hb dX7_pin_27 (by decide) (fun c_2 => ?_) (fun c_2 => ?_)
    · refine lv_aload_n hx hb dX7_pin_38 rfl (lv_at hl 0 rfl) ?_
      refine gX7_2 hx hb htA hown hK hP dX7_pin_39 ?_
      refine lv_iload_n hx hb dX7_pin_42 rfl (lv_at hl 1 rfl) ?_
      refine lv_iconst (v := 0) hx hb dX7_pin_43 (by decide) ?_
      refine sy_cvM (rest := []) (st1 := []) C hK hN hP (fun _ h => h) hS (m3_putMark l D cA ad had τ ρ π γ a1 0) (3) 5 rfl rfl kw_311 kw_192 kw_193 kw_24 kw_194 hd_X3_putMark ⟨Nat.le_of_ble_eq_true rfl, Nat.le_of_ble_eq_true rfl⟩ rfl rfl rfl hl.1 rfl (Nat.le_of_ble_eq_true rfl) dX7_pin_44 ⟨Nat.zero_le _, Nat.zero_le _⟩ rfl (fun H locs hP hS => ?_)
      refine lv_aload_n hx hb dX7_pin_47 rfl (lv_at hl 0 rfl) ?_
      refine gX7_2 hx hb htA hown hK hP dX7_pin_48 ?_
      refine lv_iload_n hx hb dX7_pin_51 rfl (lv_at hl 1 rfl) ?_
      refine lv_iconst (v := 0) hx hb dX7_pin_52 (by decide) ?_
      refine sy_cvM (rest := []) (st1 := []) C hK hN hP (fun _ h => h) hS (m3_putWork l D cA ad had τ ρ (f3_putMark π a1 0) γ a1 0) (3) 5 rfl rfl kw_303 kw_304 kw_305 kw_24 kw_306 hd_X3_putWork ⟨Nat.le_of_ble_eq_true rfl, Nat.le_of_ble_eq_true rfl⟩ rfl rfl rfl hl.1 rfl (Nat.le_of_ble_eq_true rfl) dX7_pin_53 ⟨Nat.zero_le _, Nat.zero_le _⟩ rfl (fun H locs hP hS => ?_)
      refine lv_aload_n hx hb dX7_pin_56 rfl (lv_at hl 0 rfl) ?_
      refine gX7_2 hx hb htA hown hK hP dX7_pin_57 ?_
      refine lv_iload_n hx hb dX7_pin_60 rfl (lv_at hl 1 rfl) ?_
      refine lv_iconst (v := 0) hx hb dX7_pin_61 (by decide) ?_
      refine sy_cvM (rest := []) (st1 := []) C hK hN hP (fun _ h => h) hS (m3_putHard l D cA ad had τ ρ (f3_putWork (f3_putMark π a1 0) a1 0) γ a1 0) (3) 5 rfl rfl kw_312 kw_313 kw_314 kw_24 kw_315 hd_X3_putHard ⟨Nat.le_of_ble_eq_true rfl, Nat.le_of_ble_eq_true rfl⟩ rfl rfl rfl hl.1 rfl (Nat.le_of_ble_eq_true rfl) dX7_pin_62 ⟨Nat.zero_le _, Nat.zero_le _⟩ rfl (fun H locs hP hS => ?_)
      refine lv_aload_n hx hb dX7_pin_65 rfl (lv_at hl 0 rfl) ?_
      refine gX7_2 hx hb htA hown hK hP dX7_pin_66 ?_
      refine sy_cv (rest := []) C hK hN hP (m3_particles l D cA ad τ ρ (f3_putHard (f3_putWork (f3_putMark π a1 0) a1 0) a1 0) γ) (3) 5 rfl rfl kw_316 kw_317 kw_318 kw_24 kw_319 hd_X3_particles ⟨Nat.le_of_ble_eq_true rfl, Nat.le_of_ble_eq_true rfl⟩ rfl rfl rfl hl.1 rfl (Nat.le_of_ble_eq_true rfl) dX7_pin_69 ⟨Nat.zero_le _, Nat.zero_le _⟩ ?_
      have e9 : (f3_particles τ (f3_putHard (f3_putWork (f3_putMark π a1 0) a1 0) a1 0), (f3_putHard (f3_putWork (f3_putMark π a1 0) a1 0) a1 0)) = f7_pin τ π a1 := by unfold f7_pin; (try rw [if_neg c_1]); (try rw [if_neg c_2])
      exact sy_retVI hx hb hr hlk hP hS rfl (by rw [← e9]) (by rw [← e9]) dX7_pin_72
    · exact absurd ⟨c_1, c_2⟩ hpre_0
  · exact absurd c_1 hpre_1
/-- X7_work -/
theorem hd_X7_work : yX7_work.cls = yX7_work.cls ∧ yX7_work.cls ≠ "java/lang/invoke/MethodHandle" ∧ yX7_work.cls ≠ "java/lang/invoke/VarHandle" ∧ (parseMethodDescriptor yX7_work.desc).map (fun d => d.parameters.length) = some 2 := by decide +kernel
def f7_work (τ : Sg) (π : Sg) (a1 : Int32) (a2 : Int32) : Int32 × Sg := (if (f5_holds τ a1) = 0 then (0, π) else (if (f7_isWithin a2 0 20) = 0 then (0, π) else (if (f3_markAt π a1) = 0 then (if a2 = 0 then (f3_workAt π a1, (f3_putWork π a1 a2)) else (0, π)) else (f3_workAt π a1, (f3_putWork π a1 a2)))))
set_option maxHeartbeats 400000 in
set_option maxRecDepth 100000 in
theorem m7_work (l : Launch) (D : va_G) (cA : ClassId) (ad : Nat → Nat) (had : Apart ad) (τ ρ π γ : Sg) (a1 : Int32) (a2 : Int32) (hpre_0 : ¬ (¬ (f5_holds τ a1) = 0 ∧ ¬ (f7_isWithin a2 0 20) = 0 ∧ (f3_markAt π a1) = 0 ∧ ¬ a2 = 0)) (hpre_1 : ¬ (¬ (f5_holds τ a1) = 0 ∧ (f7_isWithin a2 0 20) = 0)) (hpre_2 : ¬ ((f5_holds τ a1) = 0)) : Met l yX7_work (wM yX7_work cX7_work 4 (some .int)) ({ frames := 1, cells := 0, slots := 0, locals := 22 }) (va_Pc [.ref (ad 0), .int a1, .int a2] (pS D cA ad τ ρ π γ)) (qV D cA ad τ ρ ((f7_work τ π a1 a2).2) γ (some (.int ((f7_work τ π a1 a2).1)))) 0 0 (aS ad) := by
  refine sy_of (by decide) (Nat.le_of_ble_eq_true rfl) ?_
  intro p e s m below meth c ls C hr hlk hK hN hP hl
  obtain ⟨hx, hb, hml, hown, hts⟩ := id C
  have htA : ∀ w ∈ wA, w.before ([.ref (ad 0), .int a1, .int a2] : List Value).toArray s = true := fun w h => hts w (List.mem_cons_of_mem _ h)
  have hl : lv_has ls 4 [(0, .ref (ad 0)), (1, .int a1), (2, .int a2)] := hl
  have hS : va_S (aS ad) s.heap s.heap [] := va_S.rf
  refine lv_aload_n hx hb dX7_work_0 rfl (lv_at hl 0 rfl) ?_
  refine gX7_0 hx hb htA hown hK hP dX7_work_1 ?_
  refine lv_iload_n hx hb dX7_work_4 rfl (lv_at hl 1 rfl) ?_
  refine sy_cv (rest := []) C hK hN hP (m5_holds l D cA ad τ ρ π γ a1) (1) 7 rfl rfl kw_266 kw_175 kw_176 kw_16 kw_177 hd_X5_holds ⟨Nat.le_of_ble_eq_true rfl, Nat.le_of_ble_eq_true rfl⟩ rfl rfl rfl hl.1 rfl (Nat.le_of_ble_eq_true rfl) dX7_work_5 ⟨Nat.zero_le _, Nat.zero_le _⟩ ?_
  refine lv_if_ne (tgt := 19) hx hb dX7_work_8 (by decide) (fun c_1 => ?_) (fun c_1 => ?_)
  · refine lv_iload_n hx hb dX7_work_19 rfl (lv_at hl 2 rfl) ?_
    refine lv_iconst (v := 0) hx hb dX7_work_20 (by decide) ?_
    refine lv_bipush (v := 20) hx hb dX7_work_21 (by decide) ?_
    refine sy_cs (rest := []) C hK hN hP (m7_isWithin l D cA ad τ ρ π γ a2 0 20) kw_139 kw_140 kw_7 kw_141 hd_X7_isWithin ⟨Nat.le_of_ble_eq_true rfl, Nat.le_of_ble_eq_true rfl⟩ rfl rfl rfl hl.1 rfl (Nat.le_of_ble_eq_true rfl) dX7_work_23 ⟨Nat.zero_le _, Nat.zero_le _⟩ ?_
    refine lv_if_ne (tgt := 37) hx hb dX7_work_26 (by decide) (fun c_2 => ?_) (fun c_2 => ?_)
    · refine lv_aload_n hx hb dX7_work_37 rfl (lv_at hl 0 rfl) ?_
      refine gX7_2 hx hb htA hown hK hP dX7_work_38 ?_
      refine lv_iload_n hx hb dX7_work_41 rfl (lv_at hl 1 rfl) ?_
      refine sy_cv (rest := []) C hK hN hP (m3_markAt l D cA ad τ ρ π γ a1) (3) 5 rfl rfl kw_301 kw_206 kw_207 kw_24 kw_208 hd_X3_markAt ⟨Nat.le_of_ble_eq_true rfl, Nat.le_of_ble_eq_true rfl⟩ rfl rfl rfl hl.1 rfl (Nat.le_of_ble_eq_true rfl) dX7_work_42 ⟨Nat.zero_le _, Nat.zero_le _⟩ ?_
      refine lv_if_ne (tgt := 60) hx hb dX7_work_45 (by decide) (fun c_3 => ?_) (fun c_3 => ?_)
      · refine lv_aload_n hx hb dX7_work_60 rfl (lv_at hl 0 rfl) ?_
        refine gX7_2 hx hb htA hown hK hP dX7_work_61 ?_
        refine lv_iload_n hx hb dX7_work_64 rfl (lv_at hl 1 rfl) ?_
        refine sy_cv (rest := []) C hK hN hP (m3_workAt l D cA ad τ ρ π γ a1) (3) 5 rfl rfl kw_302 kw_273 kw_274 kw_24 kw_275 hd_X3_workAt ⟨Nat.le_of_ble_eq_true rfl, Nat.le_of_ble_eq_true rfl⟩ rfl rfl rfl hl.1 rfl (Nat.le_of_ble_eq_true rfl) dX7_work_65 ⟨Nat.zero_le _, Nat.zero_le _⟩ ?_
        refine lv_istore_n (lv' := [(3, .int (f3_workAt π a1)), (0, .ref (ad 0)), (1, .int a1), (2, .int a2)]) hx hb dX7_work_68 rfl hl (by decide) rfl (fun ls hl => ?_)
        refine lv_aload_n hx hb dX7_work_69 rfl (lv_at hl 1 rfl) ?_
        refine gX7_2 hx hb htA hown hK hP dX7_work_70 ?_
        refine lv_iload_n hx hb dX7_work_73 rfl (lv_at hl 2 rfl) ?_
        refine lv_iload_n hx hb dX7_work_74 rfl (lv_at hl 3 rfl) ?_
        refine sy_cvM (rest := []) (st1 := []) C hK hN hP (fun _ h => h) hS (m3_putWork l D cA ad had τ ρ π γ a1 a2) (3) 5 rfl rfl kw_303 kw_304 kw_305 kw_24 kw_306 hd_X3_putWork ⟨Nat.le_of_ble_eq_true rfl, Nat.le_of_ble_eq_true rfl⟩ rfl rfl rfl hl.1 rfl (Nat.le_of_ble_eq_true rfl) dX7_work_75 ⟨Nat.zero_le _, Nat.zero_le _⟩ rfl (fun H locs hP hS => ?_)
        refine lv_iload_n hx hb dX7_work_78 rfl (lv_at hl 0 rfl) ?_
        have e9 : (f3_workAt π a1, (f3_putWork π a1 a2)) = f7_work τ π a1 a2 := by unfold f7_work; (try rw [if_neg c_1]); (try rw [if_neg c_2]); (try rw [if_neg c_3])
        exact sy_retVI hx hb hr hlk hP hS rfl (by rw [← e9]) (by rw [← e9]) dX7_work_79
      · refine lv_iload_n hx hb dX7_work_48 rfl (lv_at hl 2 rfl) ?_
        refine lv_if_eq (tgt := 60) hx hb dX7_work_49 (by decide) (fun c_4 => ?_) (fun c_4 => ?_)
        · refine lv_aload_n hx hb dX7_work_60 rfl (lv_at hl 0 rfl) ?_
          refine gX7_2 hx hb htA hown hK hP dX7_work_61 ?_
          refine lv_iload_n hx hb dX7_work_64 rfl (lv_at hl 1 rfl) ?_
          refine sy_cv (rest := []) C hK hN hP (m3_workAt l D cA ad τ ρ π γ a1) (3) 5 rfl rfl kw_302 kw_273 kw_274 kw_24 kw_275 hd_X3_workAt ⟨Nat.le_of_ble_eq_true rfl, Nat.le_of_ble_eq_true rfl⟩ rfl rfl rfl hl.1 rfl (Nat.le_of_ble_eq_true rfl) dX7_work_65 ⟨Nat.zero_le _, Nat.zero_le _⟩ ?_
          refine lv_istore_n (lv' := [(3, .int (f3_workAt π a1)), (0, .ref (ad 0)), (1, .int a1), (2, .int a2)]) hx hb dX7_work_68 rfl hl (by decide) rfl (fun ls hl => ?_)
          refine lv_aload_n hx hb dX7_work_69 rfl (lv_at hl 1 rfl) ?_
          refine gX7_2 hx hb htA hown hK hP dX7_work_70 ?_
          refine lv_iload_n hx hb dX7_work_73 rfl (lv_at hl 2 rfl) ?_
          refine lv_iload_n hx hb dX7_work_74 rfl (lv_at hl 3 rfl) ?_
          refine sy_cvM (rest := []) (st1 := []) C hK hN hP (fun _ h => h) hS (m3_putWork l D cA ad had τ ρ π γ a1 a2) (3) 5 rfl rfl kw_303 kw_304 kw_305 kw_24 kw_306 hd_X3_putWork ⟨Nat.le_of_ble_eq_true rfl, Nat.le_of_ble_eq_true rfl⟩ rfl rfl rfl hl.1 rfl (Nat.le_of_ble_eq_true rfl) dX7_work_75 ⟨Nat.zero_le _, Nat.zero_le _⟩ rfl (fun H locs hP hS => ?_)
          refine lv_iload_n hx hb dX7_work_78 rfl (lv_at hl 0 rfl) ?_
          have e9 : (f3_workAt π a1, (f3_putWork π a1 a2)) = f7_work τ π a1 a2 := by unfold f7_work; (try rw [if_neg c_1]); (try rw [if_neg c_2]); (try rw [if_pos c_3]); (try rw [if_pos c_4])
          exact sy_retVI hx hb hr hlk hP hS rfl (by rw [← e9]) (by rw [← e9]) dX7_work_79
        · exact absurd ⟨c_1, c_2, c_3, c_4⟩ hpre_0
    · exact absurd ⟨c_1, c_2⟩ hpre_1
  · exact absurd c_1 hpre_2
/-- X7_misfit -/
theorem hd_X7_misfit : yX7_misfit.cls = yX7_misfit.cls ∧ yX7_misfit.cls ≠ "java/lang/invoke/MethodHandle" ∧ yX7_misfit.cls ≠ "java/lang/invoke/VarHandle" ∧ (parseMethodDescriptor yX7_misfit.desc).map (fun d => d.parameters.length) = some 3 := by decide +kernel
def f7_misfit (ρ : Sg) (a1 : Int32) (a2 : Int32) (a3 : Int32) : Int32 × Sg := (if (f7_areTwoMarks a1 a2) = 0 then (0, ρ) else (if (f7_isWithin a3 1 9) = 0 then (0, ρ) else (f4_misfitOf ρ a1 a2, (f4_putMisfit ρ a1 a2 a3))))
set_option maxHeartbeats 400000 in
set_option maxRecDepth 100000 in
theorem m7_misfit (l : Launch) (D : va_G) (cA : ClassId) (ad : Nat → Nat) (had : Apart ad) (τ ρ π γ : Sg) (a1 : Int32) (a2 : Int32) (a3 : Int32) (hpre_0 : ¬ ((f7_areTwoMarks a1 a2) = 0)) (hpre_1 : ¬ (¬ (f7_areTwoMarks a1 a2) = 0 ∧ (f7_isWithin a3 1 9) = 0)) : Met l yX7_misfit (wM yX7_misfit cX7_misfit 5 (some .int)) ({ frames := 2, cells := 0, slots := 0, locals := 43 }) (va_Pc [.ref (ad 0), .int a1, .int a2, .int a3] (pS D cA ad τ ρ π γ)) (qV D cA ad τ ((f7_misfit ρ a1 a2 a3).2) π γ (some (.int ((f7_misfit ρ a1 a2 a3).1)))) 0 0 (aS ad) := by
  refine sy_of (by decide) (Nat.le_of_ble_eq_true rfl) ?_
  intro p e s m below meth c ls C hr hlk hK hN hP hl
  obtain ⟨hx, hb, hml, hown, hts⟩ := id C
  have htA : ∀ w ∈ wA, w.before ([.ref (ad 0), .int a1, .int a2, .int a3] : List Value).toArray s = true := fun w h => hts w (List.mem_cons_of_mem _ h)
  have hl : lv_has ls 5 [(0, .ref (ad 0)), (1, .int a1), (2, .int a2), (3, .int a3)] := hl
  have hS : va_S (aS ad) s.heap s.heap [] := va_S.rf
  refine lv_iload_n hx hb dX7_misfit_0 rfl (lv_at hl 1 rfl) ?_
  refine lv_iload_n hx hb dX7_misfit_1 rfl (lv_at hl 2 rfl) ?_
  refine sy_cs (rest := []) C hK hN hP (m7_areTwoMarks l D cA ad τ ρ π γ a1 a2) kw_255 kw_256 kw_7 kw_257 hd_X7_areTwoMarks ⟨Nat.le_of_ble_eq_true rfl, Nat.le_of_ble_eq_true rfl⟩ rfl rfl rfl hl.1 rfl (Nat.le_of_ble_eq_true rfl) dX7_misfit_2 ⟨Nat.zero_le _, Nat.zero_le _⟩ ?_
  refine lv_if_eq (tgt := 18) hx hb dX7_misfit_5 (by decide) (fun c_1 => ?_) (fun c_1 => ?_)
  · exact absurd c_1 hpre_0
  · refine lv_iload_n hx hb dX7_misfit_8 rfl (lv_at hl 3 rfl) ?_
    refine lv_iconst (v := 1) hx hb dX7_misfit_9 (by decide) ?_
    refine lv_bipush (v := 9) hx hb dX7_misfit_10 (by decide) ?_
    refine sy_cs (rest := []) C hK hN hP (m7_isWithin l D cA ad τ ρ π γ a3 1 9) kw_139 kw_140 kw_7 kw_141 hd_X7_isWithin ⟨Nat.le_of_ble_eq_true rfl, Nat.le_of_ble_eq_true rfl⟩ rfl rfl rfl hl.1 rfl (Nat.le_of_ble_eq_true rfl) dX7_misfit_12 ⟨Nat.zero_le _, Nat.zero_le _⟩ ?_
    refine lv_if_ne (tgt := 26) hx hb dX7_misfit_15 (by decide) (fun c_2 => ?_) (fun c_2 => ?_)
    · refine lv_aload_n hx hb dX7_misfit_26 rfl (lv_at hl 0 rfl) ?_
      refine gX7_1 hx hb htA hown hK hP dX7_misfit_27 ?_
      refine lv_iload_n hx hb dX7_misfit_30 rfl (lv_at hl 1 rfl) ?_
      refine lv_iload_n hx hb dX7_misfit_31 rfl (lv_at hl 2 rfl) ?_
      refine sy_cv (rest := []) C hK hN hP (m4_misfitOf l D cA ad τ ρ π γ a1 a2) (2) 6 rfl rfl kw_258 kw_236 kw_237 kw_20 kw_238 hd_X4_misfitOf ⟨Nat.le_of_ble_eq_true rfl, Nat.le_of_ble_eq_true rfl⟩ rfl rfl rfl hl.1 rfl (Nat.le_of_ble_eq_true rfl) dX7_misfit_32 ⟨Nat.zero_le _, Nat.zero_le _⟩ ?_
      refine lv_istore (lv' := [(4, .int (f4_misfitOf ρ a1 a2)), (0, .ref (ad 0)), (1, .int a1), (2, .int a2), (3, .int a3)]) hx hb dX7_misfit_35 hl (by decide) rfl (fun ls hl => ?_)
      refine lv_aload_n hx hb dX7_misfit_37 rfl (lv_at hl 1 rfl) ?_
      refine gX7_1 hx hb htA hown hK hP dX7_misfit_38 ?_
      refine lv_iload_n hx hb dX7_misfit_41 rfl (lv_at hl 2 rfl) ?_
      refine lv_iload_n hx hb dX7_misfit_42 rfl (lv_at hl 3 rfl) ?_
      refine lv_iload_n hx hb dX7_misfit_43 rfl (lv_at hl 4 rfl) ?_
      refine sy_cvM (rest := []) (st1 := []) C hK hN hP (fun _ h => h) hS (m4_putMisfit l D cA ad had τ ρ π γ a1 a2 a3) (2) 6 rfl rfl kw_259 kw_57 kw_58 kw_20 kw_59 hd_X4_putMisfit ⟨Nat.le_of_ble_eq_true rfl, Nat.le_of_ble_eq_true rfl⟩ rfl rfl rfl hl.1 rfl (Nat.le_of_ble_eq_true rfl) dX7_misfit_44 ⟨Nat.zero_le _, Nat.zero_le _⟩ rfl (fun H locs hP hS => ?_)
      refine lv_iload hx hb dX7_misfit_47 (lv_at hl 0 rfl) ?_
      have e9 : (f4_misfitOf ρ a1 a2, (f4_putMisfit ρ a1 a2 a3)) = f7_misfit ρ a1 a2 a3 := by unfold f7_misfit; (try rw [if_neg c_1]); (try rw [if_neg c_2])
      exact sy_retVI hx hb hr hlk hP hS rfl (by rw [← e9]) (by rw [← e9]) dX7_misfit_49
    · exact absurd ⟨c_1, c_2⟩ hpre_1
/-- X7_etch -/
theorem hd_X7_etch : yX7_etch.cls = yX7_etch.cls ∧ yX7_etch.cls ≠ "java/lang/invoke/MethodHandle" ∧ yX7_etch.cls ≠ "java/lang/invoke/VarHandle" ∧ (parseMethodDescriptor yX7_etch.desc).map (fun d => d.parameters.length) = some 1 := by decide +kernel
def f7_etch (τ : Sg) (ρ : Sg) (π : Sg) (γ : Sg) (a1 : Int32) : Int32 × Sg × Sg := (if (f7_isWithin a1 1 9) = 0 then (0, ρ, γ) else (f6_seenMany (f6_look τ (f4_putEtch ρ a1) π γ), (f4_putEtch ρ a1), (f6_look τ (f4_putEtch ρ a1) π γ)))
set_option maxHeartbeats 400000 in
set_option maxRecDepth 100000 in
theorem m7_etch (l : Launch) (D : va_G) (cA : ClassId) (ad : Nat → Nat) (had : Apart ad) (τ ρ π γ : Sg) (hT : Ok τ) (a1 : Int32) (hpre_0 : ¬ ((f7_isWithin a1 1 9) = 0)) : Met l yX7_etch (wM yX7_etch cX7_etch 2 (some .int)) ({ frames := 5, cells := 0, slots := 0, locals := 118 }) (va_Pc [.ref (ad 0), .int a1] (pS D cA ad τ ρ π γ)) (qV D cA ad τ ((f7_etch τ ρ π γ a1).2.1) π ((f7_etch τ ρ π γ a1).2.2) (some (.int ((f7_etch τ ρ π γ a1).1)))) 0 0 (aS ad) := by
  refine sy_of (by decide) (Nat.le_of_ble_eq_true rfl) ?_
  intro p e s m below meth c ls C hr hlk hK hN hP hl
  obtain ⟨hx, hb, hml, hown, hts⟩ := id C
  have htA : ∀ w ∈ wA, w.before ([.ref (ad 0), .int a1] : List Value).toArray s = true := fun w h => hts w (List.mem_cons_of_mem _ h)
  have hl : lv_has ls 2 [(0, .ref (ad 0)), (1, .int a1)] := hl
  have hS : va_S (aS ad) s.heap s.heap [] := va_S.rf
  refine lv_iload_n hx hb dX7_etch_0 rfl (lv_at hl 1 rfl) ?_
  refine lv_iconst (v := 1) hx hb dX7_etch_1 (by decide) ?_
  refine lv_bipush (v := 9) hx hb dX7_etch_2 (by decide) ?_
  refine sy_cs (rest := []) C hK hN hP (m7_isWithin l D cA ad τ ρ π γ a1 1 9) kw_139 kw_140 kw_7 kw_141 hd_X7_isWithin ⟨Nat.le_of_ble_eq_true rfl, Nat.le_of_ble_eq_true rfl⟩ rfl rfl rfl hl.1 rfl (Nat.le_of_ble_eq_true rfl) dX7_etch_4 ⟨Nat.zero_le _, Nat.zero_le _⟩ ?_
  refine lv_if_ne (tgt := 18) hx hb dX7_etch_7 (by decide) (fun c_1 => ?_) (fun c_1 => ?_)
  · refine lv_aload_n hx hb dX7_etch_18 rfl (lv_at hl 0 rfl) ?_
    refine gX7_1 hx hb htA hown hK hP dX7_etch_19 ?_
    refine lv_iload_n hx hb dX7_etch_22 rfl (lv_at hl 1 rfl) ?_
    refine sy_cvM (rest := []) (st1 := []) C hK hN hP (fun _ h => h) hS (m4_putEtch l D cA ad had τ ρ π γ a1) (2) 6 rfl rfl kw_324 kw_325 kw_326 kw_20 kw_327 hd_X4_putEtch ⟨Nat.le_of_ble_eq_true rfl, Nat.le_of_ble_eq_true rfl⟩ rfl rfl rfl hl.1 rfl (Nat.le_of_ble_eq_true rfl) dX7_etch_23 ⟨Nat.zero_le _, Nat.zero_le _⟩ rfl (fun H locs hP hS => ?_)
    refine lv_aload_n hx hb dX7_etch_26 rfl (lv_at hl 0 rfl) ?_
    refine gX7_4 hx hb htA hown hK hP dX7_etch_27 ?_
    refine lv_aload_n hx hb dX7_etch_30 rfl (lv_at hl 0 rfl) ?_
    refine gX7_2 hx hb htA hown hK hP dX7_etch_31 ?_
    refine sy_cvM (rest := []) (st1 := []) C hK hN hP (fun _ h => h) hS (m6_look l D cA ad had τ (f4_putEtch ρ a1) π γ hT) (4) 8 rfl rfl kw_195 kw_196 kw_197 kw_29 kw_198 hd_X6_look ⟨Nat.le_of_ble_eq_true rfl, Nat.le_of_ble_eq_true rfl⟩ rfl rfl rfl hl.1 rfl (Nat.le_of_ble_eq_true rfl) dX7_etch_34 ⟨Nat.zero_le _, Nat.zero_le _⟩ rfl (fun H locs hP hS => ?_)
    refine lv_aload_n hx hb dX7_etch_37 rfl (lv_at hl 0 rfl) ?_
    refine gX7_4 hx hb htA hown hK hP dX7_etch_38 ?_
    refine sy_cv (rest := []) C hK hN hP (m6_seenMany l D cA ad τ (f4_putEtch ρ a1) π (f6_look τ (f4_putEtch ρ a1) π γ)) (4) 8 rfl rfl kw_328 kw_329 kw_330 kw_29 kw_331 hd_X6_seenMany ⟨Nat.le_of_ble_eq_true rfl, Nat.le_of_ble_eq_true rfl⟩ rfl rfl rfl hl.1 rfl (Nat.le_of_ble_eq_true rfl) dX7_etch_41 ⟨Nat.zero_le _, Nat.zero_le _⟩ ?_
    have e9 : (f6_seenMany (f6_look τ (f4_putEtch ρ a1) π γ), (f4_putEtch ρ a1), (f6_look τ (f4_putEtch ρ a1) π γ)) = f7_etch τ ρ π γ a1 := by unfold f7_etch; (try rw [if_neg c_1])
    exact sy_retVI hx hb hr hlk hP hS rfl (by rw [← e9]) (by rw [← e9]) dX7_etch_44
  · exact absurd c_1 hpre_0
/-- X7_heat -/
theorem hd_X7_heat : yX7_heat.cls = yX7_heat.cls ∧ yX7_heat.cls ≠ "java/lang/invoke/MethodHandle" ∧ yX7_heat.cls ≠ "java/lang/invoke/VarHandle" ∧ (parseMethodDescriptor yX7_heat.desc).map (fun d => d.parameters.length) = some 2 := by decide +kernel
def f7_heat (τ : Sg) (ρ : Sg) (π : Sg) (a1 : Int32) (a2 : Int32) : Int32 × Sg := (if (f7_isWithin a1 0 9) = 0 then (0, π) else (if (f7_isWithin a2 1 12) = 0 then (0, π) else ((f3_sweepOften τ ρ π a1 a2).1, ((f3_sweepOften τ ρ π a1 a2).2))))
set_option maxHeartbeats 400000 in
set_option maxRecDepth 100000 in
theorem m7_heat (l : Launch) (D : va_G) (cA : ClassId) (ad : Nat → Nat) (had : Apart ad) (τ ρ π γ : Sg) (hT : Ok τ) (a1 : Int32) (a2 : Int32) (hpre_0 : ¬ ((f7_isWithin a1 0 9) = 0)) (hpre_1 : ¬ (¬ (f7_isWithin a1 0 9) = 0 ∧ (f7_isWithin a2 1 12) = 0)) : Met l yX7_heat (wM yX7_heat cX7_heat 3 (some .int)) ({ frames := 4, cells := 0, slots := 0, locals := 100 }) (va_Pc [.ref (ad 0), .int a1, .int a2] (pS D cA ad τ ρ π γ)) (qV D cA ad τ ρ ((f7_heat τ ρ π a1 a2).2) γ (some (.int ((f7_heat τ ρ π a1 a2).1)))) 0 0 (aS ad) := by
  refine sy_of (by decide) (Nat.le_of_ble_eq_true rfl) ?_
  intro p e s m below meth c ls C hr hlk hK hN hP hl
  obtain ⟨hx, hb, hml, hown, hts⟩ := id C
  have htA : ∀ w ∈ wA, w.before ([.ref (ad 0), .int a1, .int a2] : List Value).toArray s = true := fun w h => hts w (List.mem_cons_of_mem _ h)
  have hl : lv_has ls 3 [(0, .ref (ad 0)), (1, .int a1), (2, .int a2)] := hl
  have hS : va_S (aS ad) s.heap s.heap [] := va_S.rf
  refine lv_iload_n hx hb dX7_heat_0 rfl (lv_at hl 1 rfl) ?_
  refine lv_iconst (v := 0) hx hb dX7_heat_1 (by decide) ?_
  refine lv_bipush (v := 9) hx hb dX7_heat_2 (by decide) ?_
  refine sy_cs (rest := []) C hK hN hP (m7_isWithin l D cA ad τ ρ π γ a1 0 9) kw_139 kw_140 kw_7 kw_141 hd_X7_isWithin ⟨Nat.le_of_ble_eq_true rfl, Nat.le_of_ble_eq_true rfl⟩ rfl rfl rfl hl.1 rfl (Nat.le_of_ble_eq_true rfl) dX7_heat_4 ⟨Nat.zero_le _, Nat.zero_le _⟩ ?_
  refine lv_if_eq (tgt := 20) hx hb dX7_heat_7 (by decide) (fun c_1 => ?_) (fun c_1 => ?_)
  · exact absurd c_1 hpre_0
  · refine lv_iload_n hx hb dX7_heat_10 rfl (lv_at hl 2 rfl) ?_
    refine lv_iconst (v := 1) hx hb dX7_heat_11 (by decide) ?_
    refine lv_bipush (v := 12) hx hb dX7_heat_12 (by decide) ?_
    refine sy_cs (rest := []) C hK hN hP (m7_isWithin l D cA ad τ ρ π γ a2 1 12) kw_139 kw_140 kw_7 kw_141 hd_X7_isWithin ⟨Nat.le_of_ble_eq_true rfl, Nat.le_of_ble_eq_true rfl⟩ rfl rfl rfl hl.1 rfl (Nat.le_of_ble_eq_true rfl) dX7_heat_14 ⟨Nat.zero_le _, Nat.zero_le _⟩ ?_
    refine lv_if_ne (tgt := 28) hx hb dX7_heat_17 (by decide) (fun c_2 => ?_) (fun c_2 => ?_)
    · refine lv_aload_n hx hb dX7_heat_28 rfl (lv_at hl 0 rfl) ?_
      refine gX7_2 hx hb htA hown hK hP dX7_heat_29 ?_
      refine lv_iload_n hx hb dX7_heat_32 rfl (lv_at hl 1 rfl) ?_
      refine lv_iload_n hx hb dX7_heat_33 rfl (lv_at hl 2 rfl) ?_
      refine sy_cvM (rest := []) (st1 := [.int ((f3_sweepOften τ ρ π a1 a2).1)]) C hK hN hP (fun _ h => h) hS (m3_sweepOften l D cA ad had τ ρ π γ hT a1 a2) (3) 5 rfl rfl kw_475 kw_476 kw_477 kw_24 kw_478 hd_X3_sweepOften ⟨Nat.le_of_ble_eq_true rfl, Nat.le_of_ble_eq_true rfl⟩ rfl rfl rfl hl.1 rfl (Nat.le_of_ble_eq_true rfl) dX7_heat_34 ⟨Nat.zero_le _, Nat.zero_le _⟩ rfl (fun H locs hP hS => ?_)
      have e9 : ((f3_sweepOften τ ρ π a1 a2).1, ((f3_sweepOften τ ρ π a1 a2).2)) = f7_heat τ ρ π a1 a2 := by unfold f7_heat; (try rw [if_neg c_1]); (try rw [if_neg c_2])
      exact sy_retVI hx hb hr hlk hP hS rfl (by rw [← e9]) (by rw [← e9]) dX7_heat_37
    · exact absurd ⟨c_1, c_2⟩ hpre_1
/-- X7_roll -/
theorem hd_X7_roll : yX7_roll.cls = yX7_roll.cls ∧ yX7_roll.cls ≠ "java/lang/invoke/MethodHandle" ∧ yX7_roll.cls ≠ "java/lang/invoke/VarHandle" ∧ (parseMethodDescriptor yX7_roll.desc).map (fun d => d.parameters.length) = some 1 := by decide +kernel
def f7_roll_L20 (τ : Sg) (x1 : Int32) : Nat → Sg → Int32 → Int32 × Sg
  | 0, π_20, x2 => (x2, π_20)
  | n + 1, π_20, x2 => (if x1 ≤ x2 then (x2, π_20) else (f7_roll_L20 τ x1 n (f3_rollOnce τ π_20) (x2 + 1)))
theorem f7_roll_L20_s (τ : Sg) (x1 : Int32) (n : Nat) (π_20 : Sg) (x2 : Int32) : f7_roll_L20 τ x1 (n + 1) π_20 x2 = (if x1 ≤ x2 then (x2, π_20) else (f7_roll_L20 τ x1 n (f3_rollOnce τ π_20) (x2 + 1))) := rfl
def f7_roll (τ : Sg) (π : Sg) (a1 : Int32) : Int32 × Sg := (if (f7_isWithin a1 1 9) = 0 then (0, π) else (f3_allWork τ ((f7_roll_L20 τ a1 8589934592 π 0).2), ((f7_roll_L20 τ a1 8589934592 π 0).2)))
set_option maxHeartbeats 400000 in
set_option maxRecDepth 100000 in
theorem m7_roll (l : Launch) (D : va_G) (cA : ClassId) (ad : Nat → Nat) (had : Apart ad) (τ ρ π γ : Sg) (a1 : Int32) (hpre_0 : ¬ ((f7_isWithin a1 1 9) = 0)) : Met l yX7_roll (wM yX7_roll cX7_roll 3 (some .int)) ({ frames := 2, cells := 0, slots := 0, locals := 45 }) (va_Pc [.ref (ad 0), .int a1] (pS D cA ad τ ρ π γ)) (qV D cA ad τ ρ ((f7_roll τ π a1).2) γ (some (.int ((f7_roll τ π a1).1)))) 0 0 (aS ad) := by
  refine sy_of (by decide) (Nat.le_of_ble_eq_true rfl) ?_
  intro p e s m below meth c ls C hr hlk hK hN hP hl
  obtain ⟨hx, hb, hml, hown, hts⟩ := id C
  have htA : ∀ w ∈ wA, w.before ([.ref (ad 0), .int a1] : List Value).toArray s = true := fun w h => hts w (List.mem_cons_of_mem _ h)
  have hl : lv_has ls 3 [(0, .ref (ad 0)), (1, .int a1)] := hl
  have hS : va_S (aS ad) s.heap s.heap [] := va_S.rf
  refine lv_iload_n hx hb dX7_roll_0 rfl (lv_at hl 1 rfl) ?_
  refine lv_iconst (v := 1) hx hb dX7_roll_1 (by decide) ?_
  refine lv_bipush (v := 9) hx hb dX7_roll_2 (by decide) ?_
  refine sy_cs (rest := []) C hK hN hP (m7_isWithin l D cA ad τ ρ π γ a1 1 9) kw_139 kw_140 kw_7 kw_141 hd_X7_isWithin ⟨Nat.le_of_ble_eq_true rfl, Nat.le_of_ble_eq_true rfl⟩ rfl rfl rfl hl.1 rfl (Nat.le_of_ble_eq_true rfl) dX7_roll_4 ⟨Nat.zero_le _, Nat.zero_le _⟩ ?_
  refine lv_if_ne (tgt := 18) hx hb dX7_roll_7 (by decide) (fun c_1 => ?_) (fun c_1 => ?_)
  · refine lv_iconst (v := 0) hx hb dX7_roll_18 (by decide) ?_
    refine lv_istore_n (lv' := [(2, .int 0), (0, .ref (ad 0)), (1, .int a1)]) hx hb dX7_roll_19 rfl hl (by decide) rfl (fun ls hl => ?_)
    have hL20 : ∀ (x1 : Int32) (n : Nat) (π_20 : Sg) (x2 : Int32), nm x2 x1 < n → ∀ (H : Heap) (locs : List Loc), va_P D vwCl (wS cA ad τ ρ π_20 γ) H → va_S (aS ad) s.heap H locs → ∀ ls : Array Slot, lv_has ls 3 [(0, .ref (ad 0)), (1, .int x1), (2, .int x2)] → (∀ (H : Heap) (locs : List Loc), va_P D vwCl (wS cA ad τ ρ ((f7_roll_L20 τ x1 n π_20 x2).2) γ) H → va_S (aS ad) s.heap H locs → ∀ ls : Array Slot, lv_has ls 3 [(0, .ref (ad 0)), (1, .int x1), (2, .int ((f7_roll_L20 τ x1 n π_20 x2).1))] → W p l e ({ frames := 2, cells := 0, slots := 0, locals := 45 }) s m ([.ref (ad 0), .int a1] : List Value).toArray below meth c H locs 0 0 (MQ below (qV D cA ad τ ρ ((f7_roll τ π a1).2) γ (some (.int ((f7_roll τ π a1).1)))) ([.ref (ad 0), .int a1] : List Value).toArray s 0 0 (aS ad)) (F0 m 38 ls [])) → W p l e ({ frames := 2, cells := 0, slots := 0, locals := 45 }) s m ([.ref (ad 0), .int a1] : List Value).toArray below meth c H locs 0 0 (MQ below (qV D cA ad τ ρ ((f7_roll τ π a1).2) γ (some (.int ((f7_roll τ π a1).1)))) ([.ref (ad 0), .int a1] : List Value).toArray s 0 0 (aS ad)) (F0 m 20 ls []) := by
      intro x1 n
      induction n with
      | zero =>
        intro π_20 x2 hn
        exact absurd hn (Nat.not_lt_zero _)
      | succ n ih =>
        intro π_20 x2 hn H locs hP hS ls hl kk
        refine lv_iload_n hx hb dX7_roll_20 rfl (lv_at hl 2 rfl) ?_
        refine lv_iload_n hx hb dX7_roll_21 rfl (lv_at hl 1 rfl) ?_
        refine lv_icmp_ge (tgt := 38) hx hb dX7_roll_22 (by decide) (fun c_2 => ?_) (fun c_2 => ?_)
        · have e9 : f7_roll_L20 τ x1 (n + 1) π_20 x2 = (x2, π_20) := by rw [f7_roll_L20_s]; (try rw [if_pos c_2])
          rw [e9] at kk
          exact kk _ _ hP hS ls (lv_sub hl [0, 1, 2] rfl)
        · refine lv_aload_n hx hb dX7_roll_25 rfl (lv_at hl 0 rfl) ?_
          refine gX7_2 hx hb htA hown hK hP dX7_roll_26 ?_
          refine sy_cvM (rest := []) (st1 := []) C hK hN hP (fun _ h => h) hS (m3_rollOnce l D cA ad had τ ρ π_20 γ) (3) 5 rfl rfl kw_505 kw_506 kw_507 kw_24 kw_508 hd_X3_rollOnce ⟨Nat.le_of_ble_eq_true rfl, Nat.le_of_ble_eq_true rfl⟩ rfl rfl rfl hl.1 rfl (Nat.le_of_ble_eq_true rfl) dX7_roll_29 ⟨Nat.zero_le _, Nat.zero_le _⟩ rfl (fun H locs hP hS => ?_)
          refine lv_iinc (v := x2 + 1) (lv' := [(2, .int (x2 + 1)), (0, .ref (ad 0)), (1, .int x1)]) hx hb dX7_roll_32 hl (k := 2) rfl (by rfl) (by decide) rfl (fun ls hl => ?_)
          refine lv_goto (tgt := 20) hx hb dX7_roll_35 (by decide) ?_
          have e9 : f7_roll_L20 τ x1 (n + 1) π_20 x2 = f7_roll_L20 τ x1 n (f3_rollOnce τ π_20) (x2 + 1) := by rw [f7_roll_L20_s]; (try rw [if_neg c_2])
          rw [e9] at kk
          exact ih (f3_rollOnce τ π_20) (x2 + 1) (nm_dec (Int32.not_le.mp c_2) hn) _ _ hP hS ls (lv_sub hl [1, 2, 0] rfl) kk
    refine hL20 a1 8589934592 π 0 (nm_lt _ _) _ _ hP hS ls (lv_sub hl [1, 2, 0] rfl) (fun H locs hP hS ls hl => ?_)
    refine lv_aload_n hx hb dX7_roll_38 rfl (lv_at hl 0 rfl) ?_
    refine gX7_2 hx hb htA hown hK hP dX7_roll_39 ?_
    refine sy_cv (rest := []) C hK hN hP (m3_allWork l D cA ad τ ρ ((f7_roll_L20 τ a1 8589934592 π 0).2) γ) (3) 5 rfl rfl kw_510 kw_383 kw_384 kw_24 kw_385 hd_X3_allWork ⟨Nat.le_of_ble_eq_true rfl, Nat.le_of_ble_eq_true rfl⟩ rfl rfl rfl hl.1 rfl (Nat.le_of_ble_eq_true rfl) dX7_roll_42 ⟨Nat.zero_le _, Nat.zero_le _⟩ ?_
    have e9 : (f3_allWork τ ((f7_roll_L20 τ a1 8589934592 π 0).2), ((f7_roll_L20 τ a1 8589934592 π 0).2)) = f7_roll τ π a1 := by unfold f7_roll; (try rw [if_neg c_1])
    exact sy_retVI hx hb hr hlk hP hS rfl (by rw [← e9]) (by rw [← e9]) dX7_roll_45
  · exact absurd c_1 hpre_0
/-- X7_born -/
theorem hd_X7_born : yX7_born.cls = yX7_born.cls ∧ yX7_born.cls ≠ "java/lang/invoke/MethodHandle" ∧ yX7_born.cls ≠ "java/lang/invoke/VarHandle" ∧ (parseMethodDescriptor yX7_born.desc).map (fun d => d.parameters.length) = some 1 := by decide +kernel
def f7_born (τ : Sg) (π : Sg) (a1 : Int32) : Int32 × Sg := (if (f7_isWithin a1 1 20) = 0 then (0, π) else ((f3_bear τ π a1).1, ((f3_bear τ π a1).2)))
set_option maxHeartbeats 400000 in
set_option maxRecDepth 100000 in
theorem m7_born (l : Launch) (D : va_G) (cA : ClassId) (ad : Nat → Nat) (had : Apart ad) (τ ρ π γ : Sg) (hT : Ok τ) (a1 : Int32) (hpre_0 : ¬ ((f7_isWithin a1 1 20) = 0)) : Met l yX7_born (wM yX7_born cX7_born 2 (some .int)) ({ frames := 3, cells := 0, slots := 0, locals := 70 }) (va_Pc [.ref (ad 0), .int a1] (pS D cA ad τ ρ π γ)) (qV D cA ad τ ρ ((f7_born τ π a1).2) γ (some (.int ((f7_born τ π a1).1)))) 0 0 (aS ad) := by
  refine sy_of (by decide) (Nat.le_of_ble_eq_true rfl) ?_
  intro p e s m below meth c ls C hr hlk hK hN hP hl
  obtain ⟨hx, hb, hml, hown, hts⟩ := id C
  have htA : ∀ w ∈ wA, w.before ([.ref (ad 0), .int a1] : List Value).toArray s = true := fun w h => hts w (List.mem_cons_of_mem _ h)
  have hl : lv_has ls 2 [(0, .ref (ad 0)), (1, .int a1)] := hl
  have hS : va_S (aS ad) s.heap s.heap [] := va_S.rf
  refine lv_iload_n hx hb dX7_born_0 rfl (lv_at hl 1 rfl) ?_
  refine lv_iconst (v := 1) hx hb dX7_born_1 (by decide) ?_
  refine lv_bipush (v := 20) hx hb dX7_born_2 (by decide) ?_
  refine sy_cs (rest := []) C hK hN hP (m7_isWithin l D cA ad τ ρ π γ a1 1 20) kw_139 kw_140 kw_7 kw_141 hd_X7_isWithin ⟨Nat.le_of_ble_eq_true rfl, Nat.le_of_ble_eq_true rfl⟩ rfl rfl rfl hl.1 rfl (Nat.le_of_ble_eq_true rfl) dX7_born_4 ⟨Nat.zero_le _, Nat.zero_le _⟩ ?_
  refine lv_if_ne (tgt := 18) hx hb dX7_born_7 (by decide) (fun c_1 => ?_) (fun c_1 => ?_)
  · refine lv_aload_n hx hb dX7_born_18 rfl (lv_at hl 0 rfl) ?_
    refine gX7_2 hx hb htA hown hK hP dX7_born_19 ?_
    refine lv_iload_n hx hb dX7_born_22 rfl (lv_at hl 1 rfl) ?_
    refine sy_cvM (rest := []) (st1 := [.int ((f3_bear τ π a1).1)]) C hK hN hP (fun _ h => h) hS (m3_bear l D cA ad had τ ρ π γ hT a1) (3) 5 rfl rfl kw_515 kw_516 kw_517 kw_24 kw_518 hd_X3_bear ⟨Nat.le_of_ble_eq_true rfl, Nat.le_of_ble_eq_true rfl⟩ rfl rfl rfl hl.1 rfl (Nat.le_of_ble_eq_true rfl) dX7_born_23 ⟨Nat.zero_le _, Nat.zero_le _⟩ rfl (fun H locs hP hS => ?_)
    have e9 : ((f3_bear τ π a1).1, ((f3_bear τ π a1).2)) = f7_born τ π a1 := by unfold f7_born; (try rw [if_neg c_1])
    exact sy_retVI hx hb hr hlk hP hS rfl (by rw [← e9]) (by rw [← e9]) dX7_born_26
  · exact absurd c_1 hpre_0
/-- X7_curve -/
theorem hd_X7_curve : yX7_curve.cls = yX7_curve.cls ∧ yX7_curve.cls ≠ "java/lang/invoke/MethodHandle" ∧ yX7_curve.cls ≠ "java/lang/invoke/VarHandle" ∧ (parseMethodDescriptor yX7_curve.desc).map (fun d => d.parameters.length) = some 2 := by decide +kernel
def f7_curve (ρ : Sg) (a1 : Int32) (a2 : Int32) : Int32 × Sg := (if (f7_isWithin a1 0 9) = 0 then (0, ρ) else (if (f7_isWithin a2 1 99) = 0 then (0, ρ) else (f4_timeAt ρ a1, (f4_putTime ρ a1 a2))))
set_option maxHeartbeats 400000 in
set_option maxRecDepth 100000 in
theorem m7_curve (l : Launch) (D : va_G) (cA : ClassId) (ad : Nat → Nat) (had : Apart ad) (τ ρ π γ : Sg) (a1 : Int32) (a2 : Int32) (hpre_0 : ¬ ((f7_isWithin a1 0 9) = 0)) (hpre_1 : ¬ (¬ (f7_isWithin a1 0 9) = 0 ∧ (f7_isWithin a2 1 99) = 0)) : Met l yX7_curve (wM yX7_curve cX7_curve 4 (some .int)) ({ frames := 1, cells := 0, slots := 0, locals := 22 }) (va_Pc [.ref (ad 0), .int a1, .int a2] (pS D cA ad τ ρ π γ)) (qV D cA ad τ ((f7_curve ρ a1 a2).2) π γ (some (.int ((f7_curve ρ a1 a2).1)))) 0 0 (aS ad) := by
  refine sy_of (by decide) (Nat.le_of_ble_eq_true rfl) ?_
  intro p e s m below meth c ls C hr hlk hK hN hP hl
  obtain ⟨hx, hb, hml, hown, hts⟩ := id C
  have htA : ∀ w ∈ wA, w.before ([.ref (ad 0), .int a1, .int a2] : List Value).toArray s = true := fun w h => hts w (List.mem_cons_of_mem _ h)
  have hl : lv_has ls 4 [(0, .ref (ad 0)), (1, .int a1), (2, .int a2)] := hl
  have hS : va_S (aS ad) s.heap s.heap [] := va_S.rf
  refine lv_iload_n hx hb dX7_curve_0 rfl (lv_at hl 1 rfl) ?_
  refine lv_iconst (v := 0) hx hb dX7_curve_1 (by decide) ?_
  refine lv_bipush (v := 9) hx hb dX7_curve_2 (by decide) ?_
  refine sy_cs (rest := []) C hK hN hP (m7_isWithin l D cA ad τ ρ π γ a1 0 9) kw_139 kw_140 kw_7 kw_141 hd_X7_isWithin ⟨Nat.le_of_ble_eq_true rfl, Nat.le_of_ble_eq_true rfl⟩ rfl rfl rfl hl.1 rfl (Nat.le_of_ble_eq_true rfl) dX7_curve_4 ⟨Nat.zero_le _, Nat.zero_le _⟩ ?_
  refine lv_if_eq (tgt := 20) hx hb dX7_curve_7 (by decide) (fun c_1 => ?_) (fun c_1 => ?_)
  · exact absurd c_1 hpre_0
  · refine lv_iload_n hx hb dX7_curve_10 rfl (lv_at hl 2 rfl) ?_
    refine lv_iconst (v := 1) hx hb dX7_curve_11 (by decide) ?_
    refine lv_bipush (v := 99) hx hb dX7_curve_12 (by decide) ?_
    refine sy_cs (rest := []) C hK hN hP (m7_isWithin l D cA ad τ ρ π γ a2 1 99) kw_139 kw_140 kw_7 kw_141 hd_X7_isWithin ⟨Nat.le_of_ble_eq_true rfl, Nat.le_of_ble_eq_true rfl⟩ rfl rfl rfl hl.1 rfl (Nat.le_of_ble_eq_true rfl) dX7_curve_14 ⟨Nat.zero_le _, Nat.zero_le _⟩ ?_
    refine lv_if_ne (tgt := 28) hx hb dX7_curve_17 (by decide) (fun c_2 => ?_) (fun c_2 => ?_)
    · refine lv_aload_n hx hb dX7_curve_28 rfl (lv_at hl 0 rfl) ?_
      refine gX7_1 hx hb htA hown hK hP dX7_curve_29 ?_
      refine lv_iload_n hx hb dX7_curve_32 rfl (lv_at hl 1 rfl) ?_
      refine sy_cv (rest := []) C hK hN hP (m4_timeAt l D cA ad τ ρ π γ a1) (2) 6 rfl rfl kw_336 kw_337 kw_338 kw_20 kw_339 hd_X4_timeAt ⟨Nat.le_of_ble_eq_true rfl, Nat.le_of_ble_eq_true rfl⟩ rfl rfl rfl hl.1 rfl (Nat.le_of_ble_eq_true rfl) dX7_curve_33 ⟨Nat.zero_le _, Nat.zero_le _⟩ ?_
      refine lv_istore_n (lv' := [(3, .int (f4_timeAt ρ a1)), (0, .ref (ad 0)), (1, .int a1), (2, .int a2)]) hx hb dX7_curve_36 rfl hl (by decide) rfl (fun ls hl => ?_)
      refine lv_aload_n hx hb dX7_curve_37 rfl (lv_at hl 1 rfl) ?_
      refine gX7_1 hx hb htA hown hK hP dX7_curve_38 ?_
      refine lv_iload_n hx hb dX7_curve_41 rfl (lv_at hl 2 rfl) ?_
      refine lv_iload_n hx hb dX7_curve_42 rfl (lv_at hl 3 rfl) ?_
      refine sy_cvM (rest := []) (st1 := []) C hK hN hP (fun _ h => h) hS (m4_putTime l D cA ad had τ ρ π γ a1 a2) (2) 6 rfl rfl kw_340 kw_341 kw_342 kw_20 kw_343 hd_X4_putTime ⟨Nat.le_of_ble_eq_true rfl, Nat.le_of_ble_eq_true rfl⟩ rfl rfl rfl hl.1 rfl (Nat.le_of_ble_eq_true rfl) dX7_curve_43 ⟨Nat.zero_le _, Nat.zero_le _⟩ rfl (fun H locs hP hS => ?_)
      refine lv_iload_n hx hb dX7_curve_46 rfl (lv_at hl 0 rfl) ?_
      have e9 : (f4_timeAt ρ a1, (f4_putTime ρ a1 a2)) = f7_curve ρ a1 a2 := by unfold f7_curve; (try rw [if_neg c_1]); (try rw [if_neg c_2])
      exact sy_retVI hx hb hr hlk hP hS rfl (by rw [← e9]) (by rw [← e9]) dX7_curve_47
    · exact absurd ⟨c_1, c_2⟩ hpre_1
/-- X7_cool -/
theorem hd_X7_cool : yX7_cool.cls = yX7_cool.cls ∧ yX7_cool.cls ≠ "java/lang/invoke/MethodHandle" ∧ yX7_cool.cls ≠ "java/lang/invoke/VarHandle" ∧ (parseMethodDescriptor yX7_cool.desc).map (fun d => d.parameters.length) = some 3 := by decide +kernel
def f7_cool (τ : Sg) (ρ : Sg) (π : Sg) (a1 : Int32) (a2 : Int32) (a3 : Int32) : Int32 × Sg := (if (f7_isCooling a1 a2) = 0 then (0, π) else (if (f7_isWithin a3 1 50) = 0 then (0, π) else ((f3_coolDown τ ρ π a1 a2 a3).1, ((f3_coolDown τ ρ π a1 a2 a3).2))))
set_option maxHeartbeats 400000 in
set_option maxRecDepth 100000 in
theorem m7_cool (l : Launch) (D : va_G) (cA : ClassId) (ad : Nat → Nat) (had : Apart ad) (τ ρ π γ : Sg) (a1 : Int32) (a2 : Int32) (a3 : Int32) (hpre_0 : ¬ ((f7_isCooling a1 a2) = 0)) (hpre_1 : ¬ (¬ (f7_isCooling a1 a2) = 0 ∧ (f7_isWithin a3 1 50) = 0)) : Met l yX7_cool (wM yX7_cool cX7_cool 4 (some .int)) ({ frames := 3, cells := 0, slots := 0, locals := 73 }) (va_Pc [.ref (ad 0), .int a1, .int a2, .int a3] (pS D cA ad τ ρ π γ)) (qV D cA ad τ ρ ((f7_cool τ ρ π a1 a2 a3).2) γ (some (.int ((f7_cool τ ρ π a1 a2 a3).1)))) 0 0 (aS ad) := by
  refine sy_of (by decide) (Nat.le_of_ble_eq_true rfl) ?_
  intro p e s m below meth c ls C hr hlk hK hN hP hl
  obtain ⟨hx, hb, hml, hown, hts⟩ := id C
  have htA : ∀ w ∈ wA, w.before ([.ref (ad 0), .int a1, .int a2, .int a3] : List Value).toArray s = true := fun w h => hts w (List.mem_cons_of_mem _ h)
  have hl : lv_has ls 4 [(0, .ref (ad 0)), (1, .int a1), (2, .int a2), (3, .int a3)] := hl
  have hS : va_S (aS ad) s.heap s.heap [] := va_S.rf
  refine lv_iload_n hx hb dX7_cool_0 rfl (lv_at hl 1 rfl) ?_
  refine lv_iload_n hx hb dX7_cool_1 rfl (lv_at hl 2 rfl) ?_
  refine sy_cs (rest := []) C hK hN hP (m7_isCooling l D cA ad τ ρ π γ a1 a2) kw_348 kw_349 kw_7 kw_350 hd_X7_isCooling ⟨Nat.le_of_ble_eq_true rfl, Nat.le_of_ble_eq_true rfl⟩ rfl rfl rfl hl.1 rfl (Nat.le_of_ble_eq_true rfl) dX7_cool_2 ⟨Nat.zero_le _, Nat.zero_le _⟩ ?_
  refine lv_if_eq (tgt := 18) hx hb dX7_cool_5 (by decide) (fun c_1 => ?_) (fun c_1 => ?_)
  · exact absurd c_1 hpre_0
  · refine lv_iload_n hx hb dX7_cool_8 rfl (lv_at hl 3 rfl) ?_
    refine lv_iconst (v := 1) hx hb dX7_cool_9 (by decide) ?_
    refine lv_bipush (v := 50) hx hb dX7_cool_10 (by decide) ?_
    refine sy_cs (rest := []) C hK hN hP (m7_isWithin l D cA ad τ ρ π γ a3 1 50) kw_139 kw_140 kw_7 kw_141 hd_X7_isWithin ⟨Nat.le_of_ble_eq_true rfl, Nat.le_of_ble_eq_true rfl⟩ rfl rfl rfl hl.1 rfl (Nat.le_of_ble_eq_true rfl) dX7_cool_12 ⟨Nat.zero_le _, Nat.zero_le _⟩ ?_
    refine lv_if_ne (tgt := 26) hx hb dX7_cool_15 (by decide) (fun c_2 => ?_) (fun c_2 => ?_)
    · refine lv_aload_n hx hb dX7_cool_26 rfl (lv_at hl 0 rfl) ?_
      refine gX7_2 hx hb htA hown hK hP dX7_cool_27 ?_
      refine lv_iload_n hx hb dX7_cool_30 rfl (lv_at hl 1 rfl) ?_
      refine lv_iload_n hx hb dX7_cool_31 rfl (lv_at hl 2 rfl) ?_
      refine lv_iload_n hx hb dX7_cool_32 rfl (lv_at hl 3 rfl) ?_
      refine sy_cvM (rest := []) (st1 := [.int ((f3_coolDown τ ρ π a1 a2 a3).1)]) C hK hN hP (fun _ h => h) hS (m3_coolDown l D cA ad had τ ρ π γ a1 a2 a3 (cooling_nonneg c_1)) (3) 5 rfl rfl kw_351 kw_352 kw_353 kw_24 kw_354 hd_X3_coolDown ⟨Nat.le_of_ble_eq_true rfl, Nat.le_of_ble_eq_true rfl⟩ rfl rfl rfl hl.1 rfl (Nat.le_of_ble_eq_true rfl) dX7_cool_33 ⟨Nat.zero_le _, Nat.zero_le _⟩ rfl (fun H locs hP hS => ?_)
      have e9 : ((f3_coolDown τ ρ π a1 a2 a3).1, ((f3_coolDown τ ρ π a1 a2 a3).2)) = f7_cool τ ρ π a1 a2 a3 := by unfold f7_cool; (try rw [if_neg c_1]); (try rw [if_neg c_2])
      exact sy_retVI hx hb hr hlk hP hS rfl (by rw [← e9]) (by rw [← e9]) dX7_cool_36
    · exact absurd ⟨c_1, c_2⟩ hpre_1
/-- X7_soften -/
theorem hd_X7_soften : yX7_soften.cls = yX7_soften.cls ∧ yX7_soften.cls ≠ "java/lang/invoke/MethodHandle" ∧ yX7_soften.cls ≠ "java/lang/invoke/VarHandle" ∧ (parseMethodDescriptor yX7_soften.desc).map (fun d => d.parameters.length) = some 0 := by decide +kernel
def f7_soften (τ : Sg) (π : Sg) : Int32 × Sg := ((f3_loosenAll τ π).1, ((f3_loosenAll τ π).2))
set_option maxHeartbeats 400000 in
set_option maxRecDepth 100000 in
theorem m7_soften (l : Launch) (D : va_G) (cA : ClassId) (ad : Nat → Nat) (had : Apart ad) (τ ρ π γ : Sg) : Met l yX7_soften (wM yX7_soften cX7_soften 1 (some .int)) ({ frames := 3, cells := 0, slots := 0, locals := 64 }) (va_Pc [.ref (ad 0)] (pS D cA ad τ ρ π γ)) (qV D cA ad τ ρ ((f7_soften τ π).2) γ (some (.int ((f7_soften τ π).1)))) 0 0 (aS ad) := by
  refine sy_of (by decide) (Nat.le_of_ble_eq_true rfl) ?_
  intro p e s m below meth c ls C hr hlk hK hN hP hl
  obtain ⟨hx, hb, hml, hown, hts⟩ := id C
  have htA : ∀ w ∈ wA, w.before ([.ref (ad 0)] : List Value).toArray s = true := fun w h => hts w (List.mem_cons_of_mem _ h)
  have hl : lv_has ls 1 [(0, .ref (ad 0))] := hl
  have hS : va_S (aS ad) s.heap s.heap [] := va_S.rf
  refine lv_aload_n hx hb dX7_soften_0 rfl (lv_at hl 0 rfl) ?_
  refine gX7_2 hx hb htA hown hK hP dX7_soften_1 ?_
  refine sy_cvM (rest := []) (st1 := [.int ((f3_loosenAll τ π).1)]) C hK hN hP (fun _ h => h) hS (m3_loosenAll l D cA ad had τ ρ π γ) (3) 5 rfl rfl kw_527 kw_528 kw_529 kw_24 kw_530 hd_X3_loosenAll ⟨Nat.le_of_ble_eq_true rfl, Nat.le_of_ble_eq_true rfl⟩ rfl rfl rfl hl.1 rfl (Nat.le_of_ble_eq_true rfl) dX7_soften_4 ⟨Nat.zero_le _, Nat.zero_le _⟩ rfl (fun H locs hP hS => ?_)
  have e9 : ((f3_loosenAll τ π).1, ((f3_loosenAll τ π).2)) = f7_soften τ π := rfl
  exact sy_retVI hx hb hr hlk hP hS rfl (by rw [← e9]) (by rw [← e9]) dX7_soften_7
/-- X7_furnace -/
theorem hd_X7_furnace : yX7_furnace.cls = yX7_furnace.cls ∧ yX7_furnace.cls ≠ "java/lang/invoke/MethodHandle" ∧ yX7_furnace.cls ≠ "java/lang/invoke/VarHandle" ∧ (parseMethodDescriptor yX7_furnace.desc).map (fun d => d.parameters.length) = some 1 := by decide +kernel
def f7_furnace_L18 (τ : Sg) (ρ : Sg) (γ : Sg) (x1 : Int32) : Nat → Sg → Int32 → Int32 × Sg
  | 0, π_18, x2 => (x2, π_18)
  | n + 1, π_18, x2 => (if x2 ≤ 0 then (x2, π_18) else (f7_furnace_L18 τ ρ γ x1 n (f3_doStep τ ρ π_18 (((x1 / x2) - (x1 / x2) / 6 * 6) - 1)) (x2 / 6)))
theorem f7_furnace_L18_s (τ : Sg) (ρ : Sg) (γ : Sg) (x1 : Int32) (n : Nat) (π_18 : Sg) (x2 : Int32) : f7_furnace_L18 τ ρ γ x1 (n + 1) π_18 x2 = (if x2 ≤ 0 then (x2, π_18) else (f7_furnace_L18 τ ρ γ x1 n (f3_doStep τ ρ π_18 (((x1 / x2) - (x1 / x2) / 6 * 6) - 1)) (x2 / 6))) := rfl
def f7_furnace (τ : Sg) (ρ : Sg) (π : Sg) (γ : Sg) (a1 : Int32) : Int32 × Sg × Sg := (if (f7_isProgramme a1) = 0 then (0, π, γ) else (f6_sizeByArea τ ((f7_furnace_L18 τ ρ γ a1 8589934592 π 36).2) (f6_look τ ρ ((f7_furnace_L18 τ ρ γ a1 8589934592 π 36).2) γ), ((f7_furnace_L18 τ ρ γ a1 8589934592 π 36).2), (f6_look τ ρ ((f7_furnace_L18 τ ρ γ a1 8589934592 π 36).2) γ)))
set_option maxHeartbeats 400000 in
set_option maxRecDepth 100000 in
theorem m7_furnace (l : Launch) (D : va_G) (cA : ClassId) (ad : Nat → Nat) (had : Apart ad) (τ ρ π γ : Sg) (hT : Ok τ) (a1 : Int32) (hpre_0 : ¬ ((f7_isProgramme a1) = 0)) : Met l yX7_furnace (wM yX7_furnace cX7_furnace 3 (some .int)) ({ frames := 5, cells := 0, slots := 0, locals := 121 }) (va_Pc [.ref (ad 0), .int a1] (pS D cA ad τ ρ π γ)) (qV D cA ad τ ρ ((f7_furnace τ ρ π γ a1).2.1) ((f7_furnace τ ρ π γ a1).2.2) (some (.int ((f7_furnace τ ρ π γ a1).1)))) 0 0 (aS ad) := by
  refine sy_of (by decide) (Nat.le_of_ble_eq_true rfl) ?_
  intro p e s m below meth c ls C hr hlk hK hN hP hl
  obtain ⟨hx, hb, hml, hown, hts⟩ := id C
  have htA : ∀ w ∈ wA, w.before ([.ref (ad 0), .int a1] : List Value).toArray s = true := fun w h => hts w (List.mem_cons_of_mem _ h)
  have hl : lv_has ls 3 [(0, .ref (ad 0)), (1, .int a1)] := hl
  have hS : va_S (aS ad) s.heap s.heap [] := va_S.rf
  refine lv_iload_n hx hb dX7_furnace_0 rfl (lv_at hl 1 rfl) ?_
  refine sy_cs (rest := []) C hK hN hP (m7_isProgramme l D cA ad τ ρ π γ a1) kw_536 kw_537 kw_7 kw_538 hd_X7_isProgramme ⟨Nat.le_of_ble_eq_true rfl, Nat.le_of_ble_eq_true rfl⟩ rfl rfl rfl hl.1 rfl (Nat.le_of_ble_eq_true rfl) dX7_furnace_1 ⟨Nat.zero_le _, Nat.zero_le _⟩ ?_
  refine lv_if_ne (tgt := 15) hx hb dX7_furnace_4 (by decide) (fun c_1 => ?_) (fun c_1 => ?_)
  · refine lv_bipush (v := 36) hx hb dX7_furnace_15 (by decide) ?_
    refine lv_istore_n (lv' := [(2, .int 36), (0, .ref (ad 0)), (1, .int a1)]) hx hb dX7_furnace_17 rfl hl (by decide) rfl (fun ls hl => ?_)
    have hL18 : ∀ (x1 : Int32) (n : Nat) (π_18 : Sg) (x2 : Int32), x2.toInt.toNat < n → ∀ (H : Heap) (locs : List Loc), va_P D vwCl (wS cA ad τ ρ π_18 γ) H → va_S (aS ad) s.heap H locs → ∀ ls : Array Slot, lv_has ls 3 [(0, .ref (ad 0)), (1, .int x1), (2, .int x2)] → (∀ (H : Heap) (locs : List Loc), va_P D vwCl (wS cA ad τ ρ ((f7_furnace_L18 τ ρ γ x1 n π_18 x2).2) γ) H → va_S (aS ad) s.heap H locs → ∀ ls : Array Slot, lv_has ls 3 [(0, .ref (ad 0)), (1, .int x1), (2, .int ((f7_furnace_L18 τ ρ γ x1 n π_18 x2).1))] → W p l e ({ frames := 5, cells := 0, slots := 0, locals := 121 }) s m ([.ref (ad 0), .int a1] : List Value).toArray below meth c H locs 0 0 (MQ below (qV D cA ad τ ρ ((f7_furnace τ ρ π γ a1).2.1) ((f7_furnace τ ρ π γ a1).2.2) (some (.int ((f7_furnace τ ρ π γ a1).1)))) ([.ref (ad 0), .int a1] : List Value).toArray s 0 0 (aS ad)) (F0 m 45 ls [])) → W p l e ({ frames := 5, cells := 0, slots := 0, locals := 121 }) s m ([.ref (ad 0), .int a1] : List Value).toArray below meth c H locs 0 0 (MQ below (qV D cA ad τ ρ ((f7_furnace τ ρ π γ a1).2.1) ((f7_furnace τ ρ π γ a1).2.2) (some (.int ((f7_furnace τ ρ π γ a1).1)))) ([.ref (ad 0), .int a1] : List Value).toArray s 0 0 (aS ad)) (F0 m 18 ls []) := by
      intro x1 n
      induction n with
      | zero =>
        intro π_18 x2 hn
        exact absurd hn (Nat.not_lt_zero _)
      | succ n ih =>
        intro π_18 x2 hn H locs hP hS ls hl kk
        refine lv_iload_n hx hb dX7_furnace_18 rfl (lv_at hl 2 rfl) ?_
        refine lv_if_le (tgt := 45) hx hb dX7_furnace_19 (by decide) (fun c_2 => ?_) (fun c_2 => ?_)
        · have e9 : f7_furnace_L18 τ ρ γ x1 (n + 1) π_18 x2 = (x2, π_18) := by rw [f7_furnace_L18_s]; (try rw [if_pos c_2])
          rw [e9] at kk
          exact kk _ _ hP hS ls (lv_sub hl [0, 1, 2] rfl)
        · refine lv_aload_n hx hb dX7_furnace_22 rfl (lv_at hl 0 rfl) ?_
          refine gX7_2 hx hb htA hown hK hP dX7_furnace_23 ?_
          refine lv_iload_n hx hb dX7_furnace_26 rfl (lv_at hl 1 rfl) ?_
          refine lv_iload_n hx hb dX7_furnace_27 rfl (lv_at hl 2 rfl) ?_
          refine lv_idiv hx hb dX7_furnace_28 (ne_pos (Int32.not_le.mp c_2)) ?_
          refine lv_bipush (v := 6) hx hb dX7_furnace_29 (by decide) ?_
          refine lv_irem hx hb dX7_furnace_31 (by decide) ?_
          refine lv_iconst (v := 1) hx hb dX7_furnace_32 (by decide) ?_
          refine lv_isub hx hb dX7_furnace_33 ?_
          refine sy_cvM (rest := []) (st1 := []) C hK hN hP (fun _ h => h) hS (m3_doStep l D cA ad had τ ρ π_18 γ hT (((x1 / x2) - (x1 / x2) / 6 * 6) - 1)) (3) 5 rfl rfl kw_539 kw_540 kw_541 kw_24 kw_542 hd_X3_doStep ⟨Nat.le_of_ble_eq_true rfl, Nat.le_of_ble_eq_true rfl⟩ rfl rfl rfl hl.1 rfl (Nat.le_of_ble_eq_true rfl) dX7_furnace_34 ⟨Nat.zero_le _, Nat.zero_le _⟩ rfl (fun H locs hP hS => ?_)
          refine lv_iload_n hx hb dX7_furnace_37 rfl (lv_at hl 2 rfl) ?_
          refine lv_bipush (v := 6) hx hb dX7_furnace_38 (by decide) ?_
          refine lv_idiv hx hb dX7_furnace_40 (by decide) ?_
          refine lv_istore_n (lv' := [(2, .int (x2 / 6)), (0, .ref (ad 0)), (1, .int x1)]) hx hb dX7_furnace_41 rfl hl (by decide) rfl (fun ls hl => ?_)
          refine lv_goto (tgt := 18) hx hb dX7_furnace_42 (by decide) ?_
          have e9 : f7_furnace_L18 τ ρ γ x1 (n + 1) π_18 x2 = f7_furnace_L18 τ ρ γ x1 n (f3_doStep τ ρ π_18 (((x1 / x2) - (x1 / x2) / 6 * 6) - 1)) (x2 / 6) := by rw [f7_furnace_L18_s]; (try rw [if_neg c_2])
          rw [e9] at kk
          exact ih (f3_doStep τ ρ π_18 (((x1 / x2) - (x1 / x2) / 6 * 6) - 1)) (x2 / 6) (div6_dec (Int32.not_le.mp c_2) hn) _ _ hP hS ls (lv_sub hl [1, 2, 0] rfl) kk
    refine hL18 a1 8589934592 π 36 (nmd_lt' _) _ _ hP hS ls (lv_sub hl [1, 2, 0] rfl) (fun H locs hP hS ls hl => ?_)
    refine lv_aload_n hx hb dX7_furnace_45 rfl (lv_at hl 0 rfl) ?_
    refine gX7_4 hx hb htA hown hK hP dX7_furnace_46 ?_
    refine lv_aload_n hx hb dX7_furnace_49 rfl (lv_at hl 0 rfl) ?_
    refine gX7_2 hx hb htA hown hK hP dX7_furnace_50 ?_
    refine sy_cvM (rest := []) (st1 := []) C hK hN hP (fun _ h => h) hS (m6_look l D cA ad had τ ρ ((f7_furnace_L18 τ ρ γ a1 8589934592 π 36).2) γ hT) (4) 8 rfl rfl kw_195 kw_196 kw_197 kw_29 kw_198 hd_X6_look ⟨Nat.le_of_ble_eq_true rfl, Nat.le_of_ble_eq_true rfl⟩ rfl rfl rfl hl.1 rfl (Nat.le_of_ble_eq_true rfl) dX7_furnace_53 ⟨Nat.zero_le _, Nat.zero_le _⟩ rfl (fun H locs hP hS => ?_)
    refine lv_aload_n hx hb dX7_furnace_56 rfl (lv_at hl 0 rfl) ?_
    refine gX7_4 hx hb htA hown hK hP dX7_furnace_57 ?_
    refine sy_cv (rest := []) C hK hN hP (m6_sizeByArea l D cA ad τ ρ ((f7_furnace_L18 τ ρ γ a1 8589934592 π 36).2) (f6_look τ ρ ((f7_furnace_L18 τ ρ γ a1 8589934592 π 36).2) γ)) (4) 8 rfl rfl kw_546 kw_547 kw_548 kw_29 kw_549 hd_X6_sizeByArea ⟨Nat.le_of_ble_eq_true rfl, Nat.le_of_ble_eq_true rfl⟩ rfl rfl rfl hl.1 rfl (Nat.le_of_ble_eq_true rfl) dX7_furnace_60 ⟨Nat.zero_le _, Nat.zero_le _⟩ ?_
    have e9 : (f6_sizeByArea τ ((f7_furnace_L18 τ ρ γ a1 8589934592 π 36).2) (f6_look τ ρ ((f7_furnace_L18 τ ρ γ a1 8589934592 π 36).2) γ), ((f7_furnace_L18 τ ρ γ a1 8589934592 π 36).2), (f6_look τ ρ ((f7_furnace_L18 τ ρ γ a1 8589934592 π 36).2) γ)) = f7_furnace τ ρ π γ a1 := by unfold f7_furnace; (try rw [if_neg c_1])
    exact sy_retVI hx hb hr hlk hP hS rfl (by rw [← e9]) (by rw [← e9]) dX7_furnace_63
  · exact absurd c_1 hpre_0
/-- X7_ofCell -/
theorem hd_X7_ofCell : yX7_ofCell.cls = yX7_ofCell.cls ∧ yX7_ofCell.cls ≠ "java/lang/invoke/MethodHandle" ∧ yX7_ofCell.cls ≠ "java/lang/invoke/VarHandle" ∧ (parseMethodDescriptor yX7_ofCell.desc).map (fun d => d.parameters.length) = some 2 := by decide +kernel
def f7_ofCell (τ : Sg) (ρ : Sg) (π : Sg) (γ : Sg) (a1 : Int32) (a2 : Int32) : Int32 × Sg := (if (f5_holds τ a1) = 0 then (0, γ) else (if (f7_isWithin a2 0 5) = 0 then (0, γ) else (f6_cellNumber τ ρ π (f6_look τ ρ π γ) a1 a2, (f6_look τ ρ π γ))))
set_option maxHeartbeats 400000 in
set_option maxRecDepth 100000 in
theorem m7_ofCell (l : Launch) (D : va_G) (cA : ClassId) (ad : Nat → Nat) (had : Apart ad) (τ ρ π γ : Sg) (hT : Ok τ) (a1 : Int32) (a2 : Int32) (hpre_0 : ¬ (¬ (f5_holds τ a1) = 0 ∧ (f7_isWithin a2 0 5) = 0)) (hpre_1 : ¬ ((f5_holds τ a1) = 0)) : Met l yX7_ofCell (wM yX7_ofCell cX7_ofCell 3 (some .int)) ({ frames := 5, cells := 0, slots := 0, locals := 118 }) (va_Pc [.ref (ad 0), .int a1, .int a2] (pS D cA ad τ ρ π γ)) (qV D cA ad τ ρ π ((f7_ofCell τ ρ π γ a1 a2).2) (some (.int ((f7_ofCell τ ρ π γ a1 a2).1)))) 0 0 (aS ad) := by
  refine sy_of (by decide) (Nat.le_of_ble_eq_true rfl) ?_
  intro p e s m below meth c ls C hr hlk hK hN hP hl
  obtain ⟨hx, hb, hml, hown, hts⟩ := id C
  have htA : ∀ w ∈ wA, w.before ([.ref (ad 0), .int a1, .int a2] : List Value).toArray s = true := fun w h => hts w (List.mem_cons_of_mem _ h)
  have hl : lv_has ls 3 [(0, .ref (ad 0)), (1, .int a1), (2, .int a2)] := hl
  have hS : va_S (aS ad) s.heap s.heap [] := va_S.rf
  refine lv_aload_n hx hb dX7_ofCell_0 rfl (lv_at hl 0 rfl) ?_
  refine gX7_0 hx hb htA hown hK hP dX7_ofCell_1 ?_
  refine lv_iload_n hx hb dX7_ofCell_4 rfl (lv_at hl 1 rfl) ?_
  refine sy_cv (rest := []) C hK hN hP (m5_holds l D cA ad τ ρ π γ a1) (1) 7 rfl rfl kw_266 kw_175 kw_176 kw_16 kw_177 hd_X5_holds ⟨Nat.le_of_ble_eq_true rfl, Nat.le_of_ble_eq_true rfl⟩ rfl rfl rfl hl.1 rfl (Nat.le_of_ble_eq_true rfl) dX7_ofCell_5 ⟨Nat.zero_le _, Nat.zero_le _⟩ ?_
  refine lv_if_ne (tgt := 19) hx hb dX7_ofCell_8 (by decide) (fun c_1 => ?_) (fun c_1 => ?_)
  · refine lv_iload_n hx hb dX7_ofCell_19 rfl (lv_at hl 2 rfl) ?_
    refine lv_iconst (v := 0) hx hb dX7_ofCell_20 (by decide) ?_
    refine lv_iconst (v := 5) hx hb dX7_ofCell_21 (by decide) ?_
    refine sy_cs (rest := []) C hK hN hP (m7_isWithin l D cA ad τ ρ π γ a2 0 5) kw_139 kw_140 kw_7 kw_141 hd_X7_isWithin ⟨Nat.le_of_ble_eq_true rfl, Nat.le_of_ble_eq_true rfl⟩ rfl rfl rfl hl.1 rfl (Nat.le_of_ble_eq_true rfl) dX7_ofCell_22 ⟨Nat.zero_le _, Nat.zero_le _⟩ ?_
    refine lv_if_ne (tgt := 36) hx hb dX7_ofCell_25 (by decide) (fun c_2 => ?_) (fun c_2 => ?_)
    · refine lv_aload_n hx hb dX7_ofCell_36 rfl (lv_at hl 0 rfl) ?_
      refine gX7_4 hx hb htA hown hK hP dX7_ofCell_37 ?_
      refine lv_aload_n hx hb dX7_ofCell_40 rfl (lv_at hl 0 rfl) ?_
      refine gX7_2 hx hb htA hown hK hP dX7_ofCell_41 ?_
      refine sy_cvM (rest := []) (st1 := []) C hK hN hP (fun _ h => h) hS (m6_look l D cA ad had τ ρ π γ hT) (4) 8 rfl rfl kw_195 kw_196 kw_197 kw_29 kw_198 hd_X6_look ⟨Nat.le_of_ble_eq_true rfl, Nat.le_of_ble_eq_true rfl⟩ rfl rfl rfl hl.1 rfl (Nat.le_of_ble_eq_true rfl) dX7_ofCell_44 ⟨Nat.zero_le _, Nat.zero_le _⟩ rfl (fun H locs hP hS => ?_)
      refine lv_aload_n hx hb dX7_ofCell_47 rfl (lv_at hl 0 rfl) ?_
      refine gX7_4 hx hb htA hown hK hP dX7_ofCell_48 ?_
      refine lv_iload_n hx hb dX7_ofCell_51 rfl (lv_at hl 1 rfl) ?_
      refine lv_iload_n hx hb dX7_ofCell_52 rfl (lv_at hl 2 rfl) ?_
      refine sy_cv (rest := []) C hK hN hP (m6_cellNumber l D cA ad τ ρ π (f6_look τ ρ π γ) hT a1 a2) (4) 8 rfl rfl kw_267 kw_268 kw_269 kw_29 kw_270 hd_X6_cellNumber ⟨Nat.le_of_ble_eq_true rfl, Nat.le_of_ble_eq_true rfl⟩ rfl rfl rfl hl.1 rfl (Nat.le_of_ble_eq_true rfl) dX7_ofCell_53 ⟨Nat.zero_le _, Nat.zero_le _⟩ ?_
      have e9 : (f6_cellNumber τ ρ π (f6_look τ ρ π γ) a1 a2, (f6_look τ ρ π γ)) = f7_ofCell τ ρ π γ a1 a2 := by unfold f7_ofCell; (try rw [if_neg c_1]); (try rw [if_neg c_2])
      exact sy_retVI hx hb hr hlk hP hS rfl (by rw [← e9]) (by rw [← e9]) dX7_ofCell_56
    · exact absurd ⟨c_1, c_2⟩ hpre_0
  · exact absurd c_1 hpre_1
/-- X7_ofGrain -/
theorem hd_X7_ofGrain : yX7_ofGrain.cls = yX7_ofGrain.cls ∧ yX7_ofGrain.cls ≠ "java/lang/invoke/MethodHandle" ∧ yX7_ofGrain.cls ≠ "java/lang/invoke/VarHandle" ∧ (parseMethodDescriptor yX7_ofGrain.desc).map (fun d => d.parameters.length) = some 2 := by decide +kernel
def f7_ofGrain (τ : Sg) (ρ : Sg) (π : Sg) (γ : Sg) (a1 : Int32) (a2 : Int32) : Int32 × Sg := (if (f7_isWithin a1 0 ((f6_grainMany (f6_look τ ρ π γ)) - 1)) = 0 then (0, γ) else (if (f7_isWithin a2 0 6) = 0 then (0, γ) else ((f6_grainNumber τ π (f6_look τ ρ π γ) a1 a2).1, ((f6_grainNumber τ π (f6_look τ ρ π γ) a1 a2).2))))
set_option maxHeartbeats 400000 in
set_option maxRecDepth 100000 in
theorem m7_ofGrain (l : Launch) (D : va_G) (cA : ClassId) (ad : Nat → Nat) (had : Apart ad) (τ ρ π γ : Sg) (hT : Ok τ) (a1 : Int32) (a2 : Int32) (hpre_0 : ¬ (¬ (f7_isWithin a1 0 ((f6_grainMany (f6_look τ ρ π γ)) - 1)) = 0 ∧ (f7_isWithin a2 0 6) = 0)) (hpre_1 : ¬ ((f7_isWithin a1 0 ((f6_grainMany (f6_look τ ρ π γ)) - 1)) = 0)) : Met l yX7_ofGrain (wM yX7_ofGrain cX7_ofGrain 3 (some .int)) ({ frames := 5, cells := 0, slots := 0, locals := 118 }) (va_Pc [.ref (ad 0), .int a1, .int a2] (pS D cA ad τ ρ π γ)) (qV D cA ad τ ρ π ((f7_ofGrain τ ρ π γ a1 a2).2) (some (.int ((f7_ofGrain τ ρ π γ a1 a2).1)))) 0 0 (aS ad) := by
  refine sy_of (by decide) (Nat.le_of_ble_eq_true rfl) ?_
  intro p e s m below meth c ls C hr hlk hK hN hP hl
  obtain ⟨hx, hb, hml, hown, hts⟩ := id C
  have htA : ∀ w ∈ wA, w.before ([.ref (ad 0), .int a1, .int a2] : List Value).toArray s = true := fun w h => hts w (List.mem_cons_of_mem _ h)
  have hl : lv_has ls 3 [(0, .ref (ad 0)), (1, .int a1), (2, .int a2)] := hl
  have hS : va_S (aS ad) s.heap s.heap [] := va_S.rf
  refine lv_aload_n hx hb dX7_ofGrain_0 rfl (lv_at hl 0 rfl) ?_
  refine gX7_4 hx hb htA hown hK hP dX7_ofGrain_1 ?_
  refine lv_aload_n hx hb dX7_ofGrain_4 rfl (lv_at hl 0 rfl) ?_
  refine gX7_2 hx hb htA hown hK hP dX7_ofGrain_5 ?_
  refine sy_cvM (rest := []) (st1 := []) C hK hN hP (fun _ h => h) hS (m6_look l D cA ad had τ ρ π γ hT) (4) 8 rfl rfl kw_195 kw_196 kw_197 kw_29 kw_198 hd_X6_look ⟨Nat.le_of_ble_eq_true rfl, Nat.le_of_ble_eq_true rfl⟩ rfl rfl rfl hl.1 rfl (Nat.le_of_ble_eq_true rfl) dX7_ofGrain_8 ⟨Nat.zero_le _, Nat.zero_le _⟩ rfl (fun H locs hP hS => ?_)
  refine lv_iload_n hx hb dX7_ofGrain_11 rfl (lv_at hl 1 rfl) ?_
  refine lv_iconst (v := 0) hx hb dX7_ofGrain_12 (by decide) ?_
  refine lv_aload_n hx hb dX7_ofGrain_13 rfl (lv_at hl 0 rfl) ?_
  refine gX7_4 hx hb htA hown hK hP dX7_ofGrain_14 ?_
  refine sy_cv (rest := [.int 0, .int a1]) C hK hN hP (m6_grainMany l D cA ad τ ρ π (f6_look τ ρ π γ)) (4) 8 rfl rfl kw_243 kw_244 kw_245 kw_29 kw_246 hd_X6_grainMany ⟨Nat.le_of_ble_eq_true rfl, Nat.le_of_ble_eq_true rfl⟩ rfl rfl rfl hl.1 rfl (Nat.le_of_ble_eq_true rfl) dX7_ofGrain_17 ⟨Nat.zero_le _, Nat.zero_le _⟩ ?_
  refine lv_iconst (v := 1) hx hb dX7_ofGrain_20 (by decide) ?_
  refine lv_isub hx hb dX7_ofGrain_21 ?_
  refine sy_cs (rest := []) C hK hN hP (m7_isWithin l D cA ad τ ρ π (f6_look τ ρ π γ) a1 0 ((f6_grainMany (f6_look τ ρ π γ)) - 1)) kw_139 kw_140 kw_7 kw_141 hd_X7_isWithin ⟨Nat.le_of_ble_eq_true rfl, Nat.le_of_ble_eq_true rfl⟩ rfl rfl rfl hl.1 rfl (Nat.le_of_ble_eq_true rfl) dX7_ofGrain_22 ⟨Nat.zero_le _, Nat.zero_le _⟩ ?_
  refine lv_if_ne (tgt := 36) hx hb dX7_ofGrain_25 (by decide) (fun c_1 => ?_) (fun c_1 => ?_)
  · refine lv_iload_n hx hb dX7_ofGrain_36 rfl (lv_at hl 2 rfl) ?_
    refine lv_iconst (v := 0) hx hb dX7_ofGrain_37 (by decide) ?_
    refine lv_bipush (v := 6) hx hb dX7_ofGrain_38 (by decide) ?_
    refine sy_cs (rest := []) C hK hN hP (m7_isWithin l D cA ad τ ρ π (f6_look τ ρ π γ) a2 0 6) kw_139 kw_140 kw_7 kw_141 hd_X7_isWithin ⟨Nat.le_of_ble_eq_true rfl, Nat.le_of_ble_eq_true rfl⟩ rfl rfl rfl hl.1 rfl (Nat.le_of_ble_eq_true rfl) dX7_ofGrain_40 ⟨Nat.zero_le _, Nat.zero_le _⟩ ?_
    refine lv_if_ne (tgt := 54) hx hb dX7_ofGrain_43 (by decide) (fun c_2 => ?_) (fun c_2 => ?_)
    · refine lv_aload_n hx hb dX7_ofGrain_54 rfl (lv_at hl 0 rfl) ?_
      refine gX7_4 hx hb htA hown hK hP dX7_ofGrain_55 ?_
      refine lv_iload_n hx hb dX7_ofGrain_58 rfl (lv_at hl 1 rfl) ?_
      refine lv_iload_n hx hb dX7_ofGrain_59 rfl (lv_at hl 2 rfl) ?_
      refine sy_cvM (rest := []) (st1 := [.int ((f6_grainNumber τ π (f6_look τ ρ π γ) a1 a2).1)]) C hK hN hP (fun _ h => h) hS (m6_grainNumber l D cA ad had τ ρ π (f6_look τ ρ π γ) hT a1 a2) (4) 8 rfl rfl kw_557 kw_558 kw_559 kw_29 kw_560 hd_X6_grainNumber ⟨Nat.le_of_ble_eq_true rfl, Nat.le_of_ble_eq_true rfl⟩ rfl rfl rfl hl.1 rfl (Nat.le_of_ble_eq_true rfl) dX7_ofGrain_60 ⟨Nat.zero_le _, Nat.zero_le _⟩ rfl (fun H locs hP hS => ?_)
      have e9 : ((f6_grainNumber τ π (f6_look τ ρ π γ) a1 a2).1, ((f6_grainNumber τ π (f6_look τ ρ π γ) a1 a2).2)) = f7_ofGrain τ ρ π γ a1 a2 := by unfold f7_ofGrain; (try rw [if_neg c_1]); (try rw [if_neg c_2])
      exact sy_retVI hx hb hr hlk hP hS rfl (by rw [← e9]) (by rw [← e9]) dX7_ofGrain_63
    · exact absurd ⟨c_1, c_2⟩ hpre_0
  · exact absurd c_1 hpre_1
/-- X7_metal -/
theorem hd_X7_metal : yX7_metal.cls = yX7_metal.cls ∧ yX7_metal.cls ≠ "java/lang/invoke/MethodHandle" ∧ yX7_metal.cls ≠ "java/lang/invoke/VarHandle" ∧ (parseMethodDescriptor yX7_metal.desc).map (fun d => d.parameters.length) = some 1 := by decide +kernel
def f7_metal (τ : Sg) (ρ : Sg) (π : Sg) (γ : Sg) (a1 : Int32) : Int32 × Sg := (if (f7_isWithin a1 0 15) = 0 then (0, γ) else (f6_metalNumber τ ρ π (f6_look τ ρ π γ) a1, (f6_look τ ρ π γ)))
set_option maxHeartbeats 400000 in
set_option maxRecDepth 100000 in
theorem m7_metal (l : Launch) (D : va_G) (cA : ClassId) (ad : Nat → Nat) (had : Apart ad) (τ ρ π γ : Sg) (hT : Ok τ) (a1 : Int32) (hpre_0 : ¬ ((f7_isWithin a1 0 15) = 0)) : Met l yX7_metal (wM yX7_metal cX7_metal 2 (some .int)) ({ frames := 6, cells := 0, slots := 0, locals := 134 }) (va_Pc [.ref (ad 0), .int a1] (pS D cA ad τ ρ π γ)) (qV D cA ad τ ρ π ((f7_metal τ ρ π γ a1).2) (some (.int ((f7_metal τ ρ π γ a1).1)))) 0 0 (aS ad) := by
  refine sy_of (by decide) (Nat.le_of_ble_eq_true rfl) ?_
  intro p e s m below meth c ls C hr hlk hK hN hP hl
  obtain ⟨hx, hb, hml, hown, hts⟩ := id C
  have htA : ∀ w ∈ wA, w.before ([.ref (ad 0), .int a1] : List Value).toArray s = true := fun w h => hts w (List.mem_cons_of_mem _ h)
  have hl : lv_has ls 2 [(0, .ref (ad 0)), (1, .int a1)] := hl
  have hS : va_S (aS ad) s.heap s.heap [] := va_S.rf
  refine lv_iload_n hx hb dX7_metal_0 rfl (lv_at hl 1 rfl) ?_
  refine lv_iconst (v := 0) hx hb dX7_metal_1 (by decide) ?_
  refine lv_bipush (v := 15) hx hb dX7_metal_2 (by decide) ?_
  refine sy_cs (rest := []) C hK hN hP (m7_isWithin l D cA ad τ ρ π γ a1 0 15) kw_139 kw_140 kw_7 kw_141 hd_X7_isWithin ⟨Nat.le_of_ble_eq_true rfl, Nat.le_of_ble_eq_true rfl⟩ rfl rfl rfl hl.1 rfl (Nat.le_of_ble_eq_true rfl) dX7_metal_4 ⟨Nat.zero_le _, Nat.zero_le _⟩ ?_
  refine lv_if_ne (tgt := 18) hx hb dX7_metal_7 (by decide) (fun c_1 => ?_) (fun c_1 => ?_)
  · refine lv_aload_n hx hb dX7_metal_18 rfl (lv_at hl 0 rfl) ?_
    refine gX7_4 hx hb htA hown hK hP dX7_metal_19 ?_
    refine lv_aload_n hx hb dX7_metal_22 rfl (lv_at hl 0 rfl) ?_
    refine gX7_2 hx hb htA hown hK hP dX7_metal_23 ?_
    refine sy_cvM (rest := []) (st1 := []) C hK hN hP (fun _ h => h) hS (m6_look l D cA ad had τ ρ π γ hT) (4) 8 rfl rfl kw_195 kw_196 kw_197 kw_29 kw_198 hd_X6_look ⟨Nat.le_of_ble_eq_true rfl, Nat.le_of_ble_eq_true rfl⟩ rfl rfl rfl hl.1 rfl (Nat.le_of_ble_eq_true rfl) dX7_metal_26 ⟨Nat.zero_le _, Nat.zero_le _⟩ rfl (fun H locs hP hS => ?_)
    refine lv_aload_n hx hb dX7_metal_29 rfl (lv_at hl 0 rfl) ?_
    refine gX7_4 hx hb htA hown hK hP dX7_metal_30 ?_
    refine lv_iload_n hx hb dX7_metal_33 rfl (lv_at hl 1 rfl) ?_
    refine sy_cv (rest := []) C hK hN hP (m6_metalNumber l D cA ad τ ρ π (f6_look τ ρ π γ) hT a1) (4) 8 rfl rfl kw_371 kw_372 kw_373 kw_29 kw_374 hd_X6_metalNumber ⟨Nat.le_of_ble_eq_true rfl, Nat.le_of_ble_eq_true rfl⟩ rfl rfl rfl hl.1 rfl (Nat.le_of_ble_eq_true rfl) dX7_metal_34 ⟨Nat.zero_le _, Nat.zero_le _⟩ ?_
    have e9 : (f6_metalNumber τ ρ π (f6_look τ ρ π γ) a1, (f6_look τ ρ π γ)) = f7_metal τ ρ π γ a1 := by unfold f7_metal; (try rw [if_neg c_1])
    exact sy_retVI hx hb hr hlk hP hS rfl (by rw [← e9]) (by rw [← e9]) dX7_metal_37
  · exact absurd c_1 hpre_0
/-- X7_texture -/
theorem hd_X7_texture : yX7_texture.cls = yX7_texture.cls ∧ yX7_texture.cls ≠ "java/lang/invoke/MethodHandle" ∧ yX7_texture.cls ≠ "java/lang/invoke/VarHandle" ∧ (parseMethodDescriptor yX7_texture.desc).map (fun d => d.parameters.length) = some 1 := by decide +kernel
def f7_texture (τ : Sg) (ρ : Sg) (π : Sg) (γ : Sg) (a1 : Int32) : Int32 × Sg := (if (f7_isWithin a1 1 9) = 0 then (0, γ) else (f6_textureOf τ π a1, (f6_look τ ρ π γ)))
set_option maxHeartbeats 400000 in
set_option maxRecDepth 100000 in
theorem m7_texture (l : Launch) (D : va_G) (cA : ClassId) (ad : Nat → Nat) (had : Apart ad) (τ ρ π γ : Sg) (hT : Ok τ) (a1 : Int32) (hpre_0 : ¬ ((f7_isWithin a1 1 9) = 0)) : Met l yX7_texture (wM yX7_texture cX7_texture 2 (some .int)) ({ frames := 5, cells := 0, slots := 0, locals := 118 }) (va_Pc [.ref (ad 0), .int a1] (pS D cA ad τ ρ π γ)) (qV D cA ad τ ρ π ((f7_texture τ ρ π γ a1).2) (some (.int ((f7_texture τ ρ π γ a1).1)))) 0 0 (aS ad) := by
  refine sy_of (by decide) (Nat.le_of_ble_eq_true rfl) ?_
  intro p e s m below meth c ls C hr hlk hK hN hP hl
  obtain ⟨hx, hb, hml, hown, hts⟩ := id C
  have htA : ∀ w ∈ wA, w.before ([.ref (ad 0), .int a1] : List Value).toArray s = true := fun w h => hts w (List.mem_cons_of_mem _ h)
  have hl : lv_has ls 2 [(0, .ref (ad 0)), (1, .int a1)] := hl
  have hS : va_S (aS ad) s.heap s.heap [] := va_S.rf
  refine lv_iload_n hx hb dX7_texture_0 rfl (lv_at hl 1 rfl) ?_
  refine lv_iconst (v := 1) hx hb dX7_texture_1 (by decide) ?_
  refine lv_bipush (v := 9) hx hb dX7_texture_2 (by decide) ?_
  refine sy_cs (rest := []) C hK hN hP (m7_isWithin l D cA ad τ ρ π γ a1 1 9) kw_139 kw_140 kw_7 kw_141 hd_X7_isWithin ⟨Nat.le_of_ble_eq_true rfl, Nat.le_of_ble_eq_true rfl⟩ rfl rfl rfl hl.1 rfl (Nat.le_of_ble_eq_true rfl) dX7_texture_4 ⟨Nat.zero_le _, Nat.zero_le _⟩ ?_
  refine lv_if_ne (tgt := 18) hx hb dX7_texture_7 (by decide) (fun c_1 => ?_) (fun c_1 => ?_)
  · refine lv_aload_n hx hb dX7_texture_18 rfl (lv_at hl 0 rfl) ?_
    refine gX7_4 hx hb htA hown hK hP dX7_texture_19 ?_
    refine lv_aload_n hx hb dX7_texture_22 rfl (lv_at hl 0 rfl) ?_
    refine gX7_2 hx hb htA hown hK hP dX7_texture_23 ?_
    refine sy_cvM (rest := []) (st1 := []) C hK hN hP (fun _ h => h) hS (m6_look l D cA ad had τ ρ π γ hT) (4) 8 rfl rfl kw_195 kw_196 kw_197 kw_29 kw_198 hd_X6_look ⟨Nat.le_of_ble_eq_true rfl, Nat.le_of_ble_eq_true rfl⟩ rfl rfl rfl hl.1 rfl (Nat.le_of_ble_eq_true rfl) dX7_texture_26 ⟨Nat.zero_le _, Nat.zero_le _⟩ rfl (fun H locs hP hS => ?_)
    refine lv_aload_n hx hb dX7_texture_29 rfl (lv_at hl 0 rfl) ?_
    refine gX7_4 hx hb htA hown hK hP dX7_texture_30 ?_
    refine lv_iload_n hx hb dX7_texture_33 rfl (lv_at hl 1 rfl) ?_
    refine sy_cv (rest := []) C hK hN hP (m6_textureOf l D cA ad τ ρ π (f6_look τ ρ π γ) a1) (4) 8 rfl rfl kw_600 kw_601 kw_602 kw_29 kw_603 hd_X6_textureOf ⟨Nat.le_of_ble_eq_true rfl, Nat.le_of_ble_eq_true rfl⟩ rfl rfl rfl hl.1 rfl (Nat.le_of_ble_eq_true rfl) dX7_texture_34 ⟨Nat.zero_le _, Nat.zero_le _⟩ ?_
    have e9 : (f6_textureOf τ π a1, (f6_look τ ρ π γ)) = f7_texture τ ρ π γ a1 := by unfold f7_texture; (try rw [if_neg c_1])
    exact sy_retVI hx hb hr hlk hP hS rfl (by rw [← e9]) (by rw [← e9]) dX7_texture_37
  · exact absurd c_1 hpre_0
/-- X7_line -/
theorem hd_X7_line : yX7_line.cls = yX7_line.cls ∧ yX7_line.cls ≠ "java/lang/invoke/MethodHandle" ∧ yX7_line.cls ≠ "java/lang/invoke/VarHandle" ∧ (parseMethodDescriptor yX7_line.desc).map (fun d => d.parameters.length) = some 2 := by decide +kernel
def f7_line (τ : Sg) (ρ : Sg) (π : Sg) (γ : Sg) (a1 : Int32) (a2 : Int32) : Int32 × Sg := (if (f7_isWithin a1 0 ((f5_lines τ) - 1)) = 0 then (0, γ) else (if a2 = 0 then (f5_lineCells τ a1, (f6_look τ ρ π γ)) else (f6_cutsOf τ ρ π a1, (f6_look τ ρ π γ))))
set_option maxHeartbeats 400000 in
set_option maxRecDepth 100000 in
theorem m7_line (l : Launch) (D : va_G) (cA : ClassId) (ad : Nat → Nat) (had : Apart ad) (τ ρ π γ : Sg) (hT : Ok τ) (a1 : Int32) (a2 : Int32) (hpre_0 : ¬ ((f7_isWithin a1 0 ((f5_lines τ) - 1)) = 0)) : Met l yX7_line (wM yX7_line cX7_line 3 (some .int)) ({ frames := 5, cells := 0, slots := 0, locals := 118 }) (va_Pc [.ref (ad 0), .int a1, .int a2] (pS D cA ad τ ρ π γ)) (qV D cA ad τ ρ π ((f7_line τ ρ π γ a1 a2).2) (some (.int ((f7_line τ ρ π γ a1 a2).1)))) 0 0 (aS ad) := by
  refine sy_of (by decide) (Nat.le_of_ble_eq_true rfl) ?_
  intro p e s m below meth c ls C hr hlk hK hN hP hl
  obtain ⟨hx, hb, hml, hown, hts⟩ := id C
  have htA : ∀ w ∈ wA, w.before ([.ref (ad 0), .int a1, .int a2] : List Value).toArray s = true := fun w h => hts w (List.mem_cons_of_mem _ h)
  have hl : lv_has ls 3 [(0, .ref (ad 0)), (1, .int a1), (2, .int a2)] := hl
  have hS : va_S (aS ad) s.heap s.heap [] := va_S.rf
  refine lv_iload_n hx hb dX7_line_0 rfl (lv_at hl 1 rfl) ?_
  refine lv_iconst (v := 0) hx hb dX7_line_1 (by decide) ?_
  refine lv_aload_n hx hb dX7_line_2 rfl (lv_at hl 0 rfl) ?_
  refine gX7_0 hx hb htA hown hK hP dX7_line_3 ?_
  refine sy_cv (rest := [.int 0, .int a1]) C hK hN hP (m5_lines l D cA ad τ ρ π γ) (1) 7 rfl rfl kw_590 kw_400 kw_401 kw_16 kw_402 hd_X5_lines ⟨Nat.le_of_ble_eq_true rfl, Nat.le_of_ble_eq_true rfl⟩ rfl rfl rfl hl.1 rfl (Nat.le_of_ble_eq_true rfl) dX7_line_6 ⟨Nat.zero_le _, Nat.zero_le _⟩ ?_
  refine lv_iconst (v := 1) hx hb dX7_line_9 (by decide) ?_
  refine lv_isub hx hb dX7_line_10 ?_
  refine sy_cs (rest := []) C hK hN hP (m7_isWithin l D cA ad τ ρ π γ a1 0 ((f5_lines τ) - 1)) kw_139 kw_140 kw_7 kw_141 hd_X7_isWithin ⟨Nat.le_of_ble_eq_true rfl, Nat.le_of_ble_eq_true rfl⟩ rfl rfl rfl hl.1 rfl (Nat.le_of_ble_eq_true rfl) dX7_line_11 ⟨Nat.zero_le _, Nat.zero_le _⟩ ?_
  refine lv_if_ne (tgt := 25) hx hb dX7_line_14 (by decide) (fun c_1 => ?_) (fun c_1 => ?_)
  · refine lv_aload_n hx hb dX7_line_25 rfl (lv_at hl 0 rfl) ?_
    refine gX7_4 hx hb htA hown hK hP dX7_line_26 ?_
    refine lv_aload_n hx hb dX7_line_29 rfl (lv_at hl 0 rfl) ?_
    refine gX7_2 hx hb htA hown hK hP dX7_line_30 ?_
    refine sy_cvM (rest := []) (st1 := []) C hK hN hP (fun _ h => h) hS (m6_look l D cA ad had τ ρ π γ hT) (4) 8 rfl rfl kw_195 kw_196 kw_197 kw_29 kw_198 hd_X6_look ⟨Nat.le_of_ble_eq_true rfl, Nat.le_of_ble_eq_true rfl⟩ rfl rfl rfl hl.1 rfl (Nat.le_of_ble_eq_true rfl) dX7_line_33 ⟨Nat.zero_le _, Nat.zero_le _⟩ rfl (fun H locs hP hS => ?_)
    refine lv_iload_n hx hb dX7_line_36 rfl (lv_at hl 2 rfl) ?_
    refine lv_if_eq (tgt := 51) hx hb dX7_line_37 (by decide) (fun c_2 => ?_) (fun c_2 => ?_)
    · refine lv_aload_n hx hb dX7_line_51 rfl (lv_at hl 0 rfl) ?_
      refine gX7_0 hx hb htA hown hK hP dX7_line_52 ?_
      refine lv_iload_n hx hb dX7_line_55 rfl (lv_at hl 1 rfl) ?_
      refine sy_cv (rest := []) C hK hN hP (m5_lineCells l D cA ad τ ρ π (f6_look τ ρ π γ) a1) (1) 7 rfl rfl kw_592 kw_408 kw_409 kw_16 kw_410 hd_X5_lineCells ⟨Nat.le_of_ble_eq_true rfl, Nat.le_of_ble_eq_true rfl⟩ rfl rfl rfl hl.1 rfl (Nat.le_of_ble_eq_true rfl) dX7_line_56 ⟨Nat.zero_le _, Nat.zero_le _⟩ ?_
      have e9 : (f5_lineCells τ a1, (f6_look τ ρ π γ)) = f7_line τ ρ π γ a1 a2 := by unfold f7_line; (try rw [if_neg c_1]); (try rw [if_pos c_2])
      exact sy_retVI hx hb hr hlk hP hS rfl (by rw [← e9]) (by rw [← e9]) dX7_line_59
    · refine lv_aload_n hx hb dX7_line_40 rfl (lv_at hl 0 rfl) ?_
      refine gX7_4 hx hb htA hown hK hP dX7_line_41 ?_
      refine lv_iload_n hx hb dX7_line_44 rfl (lv_at hl 1 rfl) ?_
      refine sy_cv (rest := []) C hK hN hP (m6_cutsOf l D cA ad τ ρ π (f6_look τ ρ π γ) a1) (4) 8 rfl rfl kw_591 kw_404 kw_405 kw_29 kw_406 hd_X6_cutsOf ⟨Nat.le_of_ble_eq_true rfl, Nat.le_of_ble_eq_true rfl⟩ rfl rfl rfl hl.1 rfl (Nat.le_of_ble_eq_true rfl) dX7_line_45 ⟨Nat.zero_le _, Nat.zero_le _⟩ ?_
      refine lv_goto (tgt := 59) hx hb dX7_line_48 (by decide) ?_
      have e9 : (f6_cutsOf τ ρ π a1, (f6_look τ ρ π γ)) = f7_line τ ρ π γ a1 a2 := by unfold f7_line; (try rw [if_neg c_1]); (try rw [if_neg c_2])
      exact sy_retVI hx hb hr hlk hP hS rfl (by rw [← e9]) (by rw [← e9]) dX7_line_59
  · exact absurd c_1 hpre_0
/-- X7_isSound -/
theorem hd_X7_isSound : yX7_isSound.cls = yX7_isSound.cls ∧ yX7_isSound.cls ≠ "java/lang/invoke/MethodHandle" ∧ yX7_isSound.cls ≠ "java/lang/invoke/VarHandle" ∧ (parseMethodDescriptor yX7_isSound.desc).map (fun d => d.parameters.length) = some 0 := by decide +kernel
def f7_isSound (τ : Sg) (ρ : Sg) (π : Sg) (γ : Sg) : Int32 × Sg := (f6_isAllSound τ ρ π (f6_look τ ρ π γ), (f6_look τ ρ π γ))
set_option maxHeartbeats 400000 in
set_option maxRecDepth 100000 in
theorem m7_isSound (l : Launch) (D : va_G) (cA : ClassId) (ad : Nat → Nat) (had : Apart ad) (τ ρ π γ : Sg) (hT : Ok τ) : Met l yX7_isSound (wM yX7_isSound cX7_isSound 1 (some .boolean)) ({ frames := 5, cells := 0, slots := 0, locals := 118 }) (va_Pc [.ref (ad 0)] (pS D cA ad τ ρ π γ)) (qV D cA ad τ ρ π ((f7_isSound τ ρ π γ).2) (some (.int ((f7_isSound τ ρ π γ).1)))) 0 0 (aS ad) := by
  refine sy_of (by decide) (Nat.le_of_ble_eq_true rfl) ?_
  intro p e s m below meth c ls C hr hlk hK hN hP hl
  obtain ⟨hx, hb, hml, hown, hts⟩ := id C
  have htA : ∀ w ∈ wA, w.before ([.ref (ad 0)] : List Value).toArray s = true := fun w h => hts w (List.mem_cons_of_mem _ h)
  have hl : lv_has ls 1 [(0, .ref (ad 0))] := hl
  have hS : va_S (aS ad) s.heap s.heap [] := va_S.rf
  refine lv_aload_n hx hb dX7_isSound_0 rfl (lv_at hl 0 rfl) ?_
  refine gX7_4 hx hb htA hown hK hP dX7_isSound_1 ?_
  refine lv_aload_n hx hb dX7_isSound_4 rfl (lv_at hl 0 rfl) ?_
  refine gX7_2 hx hb htA hown hK hP dX7_isSound_5 ?_
  refine sy_cvM (rest := []) (st1 := []) C hK hN hP (fun _ h => h) hS (m6_look l D cA ad had τ ρ π γ hT) (4) 8 rfl rfl kw_195 kw_196 kw_197 kw_29 kw_198 hd_X6_look ⟨Nat.le_of_ble_eq_true rfl, Nat.le_of_ble_eq_true rfl⟩ rfl rfl rfl hl.1 rfl (Nat.le_of_ble_eq_true rfl) dX7_isSound_8 ⟨Nat.zero_le _, Nat.zero_le _⟩ rfl (fun H locs hP hS => ?_)
  refine lv_aload_n hx hb dX7_isSound_11 rfl (lv_at hl 0 rfl) ?_
  refine gX7_4 hx hb htA hown hK hP dX7_isSound_12 ?_
  refine sy_cv (rest := []) C hK hN hP (m6_isAllSound l D cA ad τ ρ π (f6_look τ ρ π γ) hT) (4) 8 rfl rfl kw_828 kw_829 kw_830 kw_29 kw_831 hd_X6_isAllSound ⟨Nat.le_of_ble_eq_true rfl, Nat.le_of_ble_eq_true rfl⟩ rfl rfl rfl hl.1 rfl (Nat.le_of_ble_eq_true rfl) dX7_isSound_15 ⟨Nat.zero_le _, Nat.zero_le _⟩ ?_
  have e9 : (f6_isAllSound τ ρ π (f6_look τ ρ π γ), (f6_look τ ρ π γ)) = f7_isSound τ ρ π γ := rfl
  exact sy_retVI hx hb hr hlk hP hS nar_sound (by rw [← e9]) (by rw [← e9]) dX7_isSound_18
/-- X7_digestOfCells -/
theorem hd_X7_digestOfCells : yX7_digestOfCells.cls = yX7_digestOfCells.cls ∧ yX7_digestOfCells.cls ≠ "java/lang/invoke/MethodHandle" ∧ yX7_digestOfCells.cls ≠ "java/lang/invoke/VarHandle" ∧ (parseMethodDescriptor yX7_digestOfCells.desc).map (fun d => d.parameters.length) = some 1 := by decide +kernel
def f7_digestOfCells_L20 (τ : Sg) (ρ : Sg) (π : Sg) (γ : Sg) (x1 : Int64) (x5 : Int32) : Nat → Int64 → Int32 → Int64 × Int32
  | 0, x3, x6 => (x3, x6)
  | n + 1, x3, x6 => (if 6 ≤ x6 then (x3, x6) else (f7_digestOfCells_L20 τ ρ π γ x1 x5 n ((x3 * 31) + ((f6_cellNumber τ ρ π γ x5 x6).toInt64)) (x6 + 1)))
theorem f7_digestOfCells_L20_s (τ : Sg) (ρ : Sg) (π : Sg) (γ : Sg) (x1 : Int64) (x5 : Int32) (n : Nat) (x3 : Int64) (x6 : Int32) : f7_digestOfCells_L20 τ ρ π γ x1 x5 (n + 1) x3 x6 = (if 6 ≤ x6 then (x3, x6) else (f7_digestOfCells_L20 τ ρ π γ x1 x5 n ((x3 * 31) + ((f6_cellNumber τ ρ π γ x5 x6).toInt64)) (x6 + 1))) := rfl
def f7_digestOfCells_L5 (τ : Sg) (ρ : Sg) (π : Sg) (γ : Sg) (x1 : Int64) : Nat → Int64 → Int32 → Int64 × Int32
  | 0, x3, x5 => (x3, x5)
  | n + 1, x3, x5 => (if (f5_cells τ) ≤ x5 then (x3, x5) else (f7_digestOfCells_L5 τ ρ π γ x1 n ((f7_digestOfCells_L20 τ ρ π γ x1 x5 8589934592 x3 0).1) (x5 + 1)))
theorem f7_digestOfCells_L5_s (τ : Sg) (ρ : Sg) (π : Sg) (γ : Sg) (x1 : Int64) (n : Nat) (x3 : Int64) (x5 : Int32) : f7_digestOfCells_L5 τ ρ π γ x1 (n + 1) x3 x5 = (if (f5_cells τ) ≤ x5 then (x3, x5) else (f7_digestOfCells_L5 τ ρ π γ x1 n ((f7_digestOfCells_L20 τ ρ π γ x1 x5 8589934592 x3 0).1) (x5 + 1))) := rfl
def f7_digestOfCells (τ : Sg) (ρ : Sg) (π : Sg) (γ : Sg) (a1 : Int64) : Int64 := (f7_digestOfCells_L5 τ ρ π γ a1 8589934592 a1 0).1
set_option maxHeartbeats 400000 in
set_option maxRecDepth 100000 in
theorem m7_digestOfCells (l : Launch) (D : va_G) (cA : ClassId) (ad : Nat → Nat) (τ ρ π γ : Sg) (hT : Ok τ) (a1 : Int64) : Met l yX7_digestOfCells (wM yX7_digestOfCells cX7_digestOfCells 7 (some .long)) ({ frames := 3, cells := 0, slots := 0, locals := 68 }) (va_Pc [.ref (ad 0), .long a1] (pS D cA ad τ ρ π γ)) (vp_Sl (fun x9 => x9 = f7_digestOfCells τ ρ π γ a1)) 0 0 noA := by
  refine sy_of (by decide) (Nat.le_of_ble_eq_true rfl) ?_
  intro p e s m below meth c ls C hr hlk hK hN hP hl
  obtain ⟨hx, hb, hml, hown, hts⟩ := id C
  have htA : ∀ w ∈ wA, w.before ([.ref (ad 0), .long a1] : List Value).toArray s = true := fun w h => hts w (List.mem_cons_of_mem _ h)
  have hl : lv_has ls 7 [(0, .ref (ad 0)), (1, .long a1)] := hl
  refine lv_lload_n hx hb dX7_digestOfCells_0 rfl (lv_at hl 1 rfl) ?_
  refine lv_lstore_n (lv' := [(3, .long a1), (0, .ref (ad 0)), (1, .long a1)]) hx hb dX7_digestOfCells_1 rfl hl (by decide) rfl (fun ls hl => ?_)
  refine lv_iconst (v := 0) hx hb dX7_digestOfCells_2 (by decide) ?_
  refine lv_istore (lv' := [(5, .int 0), (3, .long a1), (0, .ref (ad 0)), (1, .long a1)]) hx hb dX7_digestOfCells_3 hl (by decide) rfl (fun ls hl => ?_)
  have hL5 : ∀ (x1 : Int64) (n : Nat) (x3 : Int64) (x5 : Int32), nm x5 (f5_cells τ) < n → ∀ ls : Array Slot, lv_has ls 7 [(0, .ref (ad 0)), (1, .long x1), (3, .long x3), (5, .int x5)] → (∀ ls : Array Slot, lv_has ls 7 [(0, .ref (ad 0)), (1, .long x1), (3, .long ((f7_digestOfCells_L5 τ ρ π γ x1 n x3 x5).1)), (5, .int ((f7_digestOfCells_L5 τ ρ π γ x1 n x3 x5).2))] → W p l e ({ frames := 3, cells := 0, slots := 0, locals := 68 }) s m ([.ref (ad 0), .long a1] : List Value).toArray below meth c s.heap [] 0 0 (MQ below (vp_Sl (fun x9 => x9 = f7_digestOfCells τ ρ π γ a1)) ([.ref (ad 0), .long a1] : List Value).toArray s 0 0 noA) (F0 m 58 ls [])) → W p l e ({ frames := 3, cells := 0, slots := 0, locals := 68 }) s m ([.ref (ad 0), .long a1] : List Value).toArray below meth c s.heap [] 0 0 (MQ below (vp_Sl (fun x9 => x9 = f7_digestOfCells τ ρ π γ a1)) ([.ref (ad 0), .long a1] : List Value).toArray s 0 0 noA) (F0 m 5 ls []) := by
    intro x1 n
    induction n with
    | zero =>
      intro x3 x5 hn
      exact absurd hn (Nat.not_lt_zero _)
    | succ n ih =>
      intro x3 x5 hn ls hl kk
      refine lv_iload hx hb dX7_digestOfCells_5 (lv_at hl 3 rfl) ?_
      refine lv_aload_n hx hb dX7_digestOfCells_7 rfl (lv_at hl 0 rfl) ?_
      refine gX7_0 hx hb htA hown hK hP dX7_digestOfCells_8 ?_
      refine sy_cv (rest := [.int x5]) C hK hN hP (m5_cells l D cA ad τ ρ π γ) (1) 7 rfl rfl kw_815 kw_184 kw_185 kw_16 kw_186 hd_X5_cells ⟨Nat.le_of_ble_eq_true rfl, Nat.le_of_ble_eq_true rfl⟩ rfl rfl rfl hl.1 rfl (Nat.le_of_ble_eq_true rfl) dX7_digestOfCells_11 ⟨Nat.zero_le _, Nat.zero_le _⟩ ?_
      refine lv_icmp_ge (tgt := 58) hx hb dX7_digestOfCells_14 (by decide) (fun c_1 => ?_) (fun c_1 => ?_)
      · have e9 : f7_digestOfCells_L5 τ ρ π γ x1 (n + 1) x3 x5 = (x3, x5) := by rw [f7_digestOfCells_L5_s]; (try rw [if_pos c_1])
        rw [e9] at kk
        exact kk ls (lv_sub hl [0, 1, 2, 3] rfl)
      · refine lv_iconst (v := 0) hx hb dX7_digestOfCells_17 (by decide) ?_
        refine lv_istore (lv' := [(6, .int 0), (0, .ref (ad 0)), (1, .long x1), (3, .long x3), (5, .int x5)]) hx hb dX7_digestOfCells_18 hl (by decide) rfl (fun ls hl => ?_)
        have hL20 : ∀ (x1 : Int64) (x5 : Int32) (n : Nat) (x3 : Int64) (x6 : Int32), nm x6 6 < n → ∀ ls : Array Slot, lv_has ls 7 [(0, .ref (ad 0)), (1, .long x1), (3, .long x3), (5, .int x5), (6, .int x6)] → (∀ ls : Array Slot, lv_has ls 7 [(0, .ref (ad 0)), (1, .long x1), (3, .long ((f7_digestOfCells_L20 τ ρ π γ x1 x5 n x3 x6).1)), (5, .int x5), (6, .int ((f7_digestOfCells_L20 τ ρ π γ x1 x5 n x3 x6).2))] → W p l e ({ frames := 3, cells := 0, slots := 0, locals := 68 }) s m ([.ref (ad 0), .long a1] : List Value).toArray below meth c s.heap [] 0 0 (MQ below (vp_Sl (fun x9 => x9 = f7_digestOfCells τ ρ π γ a1)) ([.ref (ad 0), .long a1] : List Value).toArray s 0 0 noA) (F0 m 52 ls [])) → W p l e ({ frames := 3, cells := 0, slots := 0, locals := 68 }) s m ([.ref (ad 0), .long a1] : List Value).toArray below meth c s.heap [] 0 0 (MQ below (vp_Sl (fun x9 => x9 = f7_digestOfCells τ ρ π γ a1)) ([.ref (ad 0), .long a1] : List Value).toArray s 0 0 noA) (F0 m 20 ls []) := by
          intro x1 x5 n
          induction n with
          | zero =>
            intro x3 x6 hn
            exact absurd hn (Nat.not_lt_zero _)
          | succ n ih =>
            intro x3 x6 hn ls hl kk
            refine lv_iload hx hb dX7_digestOfCells_20 (lv_at hl 4 rfl) ?_
            refine lv_bipush (v := 6) hx hb dX7_digestOfCells_22 (by decide) ?_
            refine lv_icmp_ge (tgt := 52) hx hb dX7_digestOfCells_24 (by decide) (fun c_2 => ?_) (fun c_2 => ?_)
            · have e9 : f7_digestOfCells_L20 τ ρ π γ x1 x5 (n + 1) x3 x6 = (x3, x6) := by rw [f7_digestOfCells_L20_s]; (try rw [if_pos c_2])
              rw [e9] at kk
              exact kk ls (lv_sub hl [0, 1, 2, 3, 4] rfl)
            · refine lv_lload_n hx hb dX7_digestOfCells_27 rfl (lv_at hl 2 rfl) ?_
              refine lv_ldc2 (v := 31) hx hb hown (htA _ kw_810) dX7_digestOfCells_28 ?_
              refine lv_lmul hx hb dX7_digestOfCells_31 ?_
              refine lv_aload_n hx hb dX7_digestOfCells_32 rfl (lv_at hl 0 rfl) ?_
              refine gX7_4 hx hb htA hown hK hP dX7_digestOfCells_33 ?_
              refine lv_iload hx hb dX7_digestOfCells_36 (lv_at hl 3 rfl) ?_
              refine lv_iload hx hb dX7_digestOfCells_38 (lv_at hl 4 rfl) ?_
              refine sy_cv (rest := [.long (x3 * 31)]) C hK hN hP (m6_cellNumber l D cA ad τ ρ π γ hT x5 x6) (4) 8 rfl rfl kw_267 kw_268 kw_269 kw_29 kw_270 hd_X6_cellNumber ⟨Nat.le_of_ble_eq_true rfl, Nat.le_of_ble_eq_true rfl⟩ rfl rfl rfl hl.1 rfl (Nat.le_of_ble_eq_true rfl) dX7_digestOfCells_40 ⟨Nat.zero_le _, Nat.zero_le _⟩ ?_
              refine lv_i2l (v := (f6_cellNumber τ ρ π γ x5 x6).toInt64) hx hb dX7_digestOfCells_43 rfl ?_
              refine lv_ladd hx hb dX7_digestOfCells_44 ?_
              refine lv_lstore_n (lv' := [(3, .long ((x3 * 31) + ((f6_cellNumber τ ρ π γ x5 x6).toInt64))), (0, .ref (ad 0)), (1, .long x1), (5, .int x5), (6, .int x6)]) hx hb dX7_digestOfCells_45 rfl hl (by decide) rfl (fun ls hl => ?_)
              refine lv_iinc (v := x6 + 1) (lv' := [(6, .int (x6 + 1)), (3, .long ((x3 * 31) + ((f6_cellNumber τ ρ π γ x5 x6).toInt64))), (0, .ref (ad 0)), (1, .long x1), (5, .int x5)]) hx hb dX7_digestOfCells_46 hl (k := 4) rfl (by rfl) (by decide) rfl (fun ls hl => ?_)
              refine lv_goto (tgt := 20) hx hb dX7_digestOfCells_49 (by decide) ?_
              have e9 : f7_digestOfCells_L20 τ ρ π γ x1 x5 (n + 1) x3 x6 = f7_digestOfCells_L20 τ ρ π γ x1 x5 n ((x3 * 31) + ((f6_cellNumber τ ρ π γ x5 x6).toInt64)) (x6 + 1) := by rw [f7_digestOfCells_L20_s]; (try rw [if_neg c_2])
              rw [e9] at kk
              exact ih ((x3 * 31) + ((f6_cellNumber τ ρ π γ x5 x6).toInt64)) (x6 + 1) (nm_dec (Int32.not_le.mp c_2) hn)  ls (lv_sub hl [2, 3, 1, 4, 0] rfl) kk
        refine hL20 x1 x5 8589934592 x3 0 (nm_lt _ _) ls (lv_sub hl [1, 2, 3, 4, 0] rfl) (fun ls hl => ?_)
        refine lv_iinc (v := x5 + 1) (lv' := [(5, .int (x5 + 1)), (0, .ref (ad 0)), (1, .long x1), (3, .long ((f7_digestOfCells_L20 τ ρ π γ x1 x5 8589934592 x3 0).1)), (6, .int ((f7_digestOfCells_L20 τ ρ π γ x1 x5 8589934592 x3 0).2))]) hx hb dX7_digestOfCells_52 hl (k := 3) rfl (by rfl) (by decide) rfl (fun ls hl => ?_)
        refine lv_goto (tgt := 5) hx hb dX7_digestOfCells_55 (by decide) ?_
        have e9 : f7_digestOfCells_L5 τ ρ π γ x1 (n + 1) x3 x5 = f7_digestOfCells_L5 τ ρ π γ x1 n ((f7_digestOfCells_L20 τ ρ π γ x1 x5 8589934592 x3 0).1) (x5 + 1) := by rw [f7_digestOfCells_L5_s]; (try rw [if_neg c_1])
        rw [e9] at kk
        exact ih ((f7_digestOfCells_L20 τ ρ π γ x1 x5 8589934592 x3 0).1) (x5 + 1) (nm_dec (Int32.not_le.mp c_1) hn)  ls (lv_sub hl [1, 2, 3, 0] rfl) kk
  refine hL5 a1 8589934592 a1 0 (nm_lt _ _) ls (lv_sub hl [2, 3, 1, 0] rfl) (fun ls hl => ?_)
  refine lv_lload_n hx hb dX7_digestOfCells_58 rfl (lv_at hl 2 rfl) ?_
  have e9 : (f7_digestOfCells_L5 τ ρ π γ a1 8589934592 a1 0).1 = f7_digestOfCells τ ρ π γ a1 := rfl
  exact sy_retL hx hb hr hlk e9 dX7_digestOfCells_59
/-- X7_digestOfGrains -/
theorem hd_X7_digestOfGrains : yX7_digestOfGrains.cls = yX7_digestOfGrains.cls ∧ yX7_digestOfGrains.cls ≠ "java/lang/invoke/MethodHandle" ∧ yX7_digestOfGrains.cls ≠ "java/lang/invoke/VarHandle" ∧ (parseMethodDescriptor yX7_digestOfGrains.desc).map (fun d => d.parameters.length) = some 1 := by decide +kernel
def f7_digestOfGrains_L20 (τ : Sg) (π : Sg) (x1 : Int64) (x5 : Int32) : Nat → Sg → Int64 → Int32 → Int64 × Int32 × Sg
  | 0, γ_20, x3, x6 => (x3, x6, γ_20)
  | n + 1, γ_20, x3, x6 => (if 7 ≤ x6 then (x3, x6, γ_20) else (f7_digestOfGrains_L20 τ π x1 x5 n ((f6_grainNumber τ π γ_20 x5 x6).2) ((x3 * 31) + (((f6_grainNumber τ π γ_20 x5 x6).1).toInt64)) (x6 + 1)))
theorem f7_digestOfGrains_L20_s (τ : Sg) (π : Sg) (x1 : Int64) (x5 : Int32) (n : Nat) (γ_20 : Sg) (x3 : Int64) (x6 : Int32) : f7_digestOfGrains_L20 τ π x1 x5 (n + 1) γ_20 x3 x6 = (if 7 ≤ x6 then (x3, x6, γ_20) else (f7_digestOfGrains_L20 τ π x1 x5 n ((f6_grainNumber τ π γ_20 x5 x6).2) ((x3 * 31) + (((f6_grainNumber τ π γ_20 x5 x6).1).toInt64)) (x6 + 1))) := rfl
def f7_digestOfGrains_L5 (τ : Sg) (π : Sg) (x1 : Int64) : Nat → Sg → Int64 → Int32 → Int64 × Int32 × Sg
  | 0, γ_5, x3, x5 => (x3, x5, γ_5)
  | n + 1, γ_5, x3, x5 => (if (f6_grainMany γ_5) ≤ x5 then (x3, x5, γ_5) else (f7_digestOfGrains_L5 τ π x1 n ((f7_digestOfGrains_L20 τ π x1 x5 8589934592 γ_5 x3 0).2.2) ((f7_digestOfGrains_L20 τ π x1 x5 8589934592 γ_5 x3 0).1) (x5 + 1)))
theorem f7_digestOfGrains_L5_s (τ : Sg) (π : Sg) (x1 : Int64) (n : Nat) (γ_5 : Sg) (x3 : Int64) (x5 : Int32) : f7_digestOfGrains_L5 τ π x1 (n + 1) γ_5 x3 x5 = (if (f6_grainMany γ_5) ≤ x5 then (x3, x5, γ_5) else (f7_digestOfGrains_L5 τ π x1 n ((f7_digestOfGrains_L20 τ π x1 x5 8589934592 γ_5 x3 0).2.2) ((f7_digestOfGrains_L20 τ π x1 x5 8589934592 γ_5 x3 0).1) (x5 + 1))) := rfl
theorem dg20_1 {τ π : Sg} {x1 : Int64} {x5 : Int32} : ∀ (n : Nat) (γ : Sg) (x3 : Int64) (x6 : Int32), (f7_digestOfGrains_L20 τ π x1 x5 n γ x3 x6).2.2.1 = γ.1 := by
  intro n
  induction n with
  | zero => intro γ x3 x6; rfl
  | succ n ih =>
    intro γ x3 x6
    rw [f7_digestOfGrains_L20_s]
    (repeat' split) <;> first | rfl | exact (ih _ _ _).trans grainNumber_1
def f7_digestOfGrains (τ : Sg) (π : Sg) (γ : Sg) (a1 : Int64) : Int64 × Sg := ((f7_digestOfGrains_L5 τ π a1 8589934592 γ a1 0).1, ((f7_digestOfGrains_L5 τ π a1 8589934592 γ a1 0).2.2))
set_option maxHeartbeats 400000 in
set_option maxRecDepth 100000 in
theorem m7_digestOfGrains (l : Launch) (D : va_G) (cA : ClassId) (ad : Nat → Nat) (had : Apart ad) (τ ρ π γ : Sg) (hT : Ok τ) (a1 : Int64) : Met l yX7_digestOfGrains (wM yX7_digestOfGrains cX7_digestOfGrains 7 (some .long)) ({ frames := 4, cells := 0, slots := 0, locals := 89 }) (va_Pc [.ref (ad 0), .long a1] (pS D cA ad τ ρ π γ)) (qV D cA ad τ ρ π ((f7_digestOfGrains τ π γ a1).2) (some (.long ((f7_digestOfGrains τ π γ a1).1)))) 0 0 (aS ad) := by
  refine sy_of (by decide) (Nat.le_of_ble_eq_true rfl) ?_
  intro p e s m below meth c ls C hr hlk hK hN hP hl
  obtain ⟨hx, hb, hml, hown, hts⟩ := id C
  have htA : ∀ w ∈ wA, w.before ([.ref (ad 0), .long a1] : List Value).toArray s = true := fun w h => hts w (List.mem_cons_of_mem _ h)
  have hl : lv_has ls 7 [(0, .ref (ad 0)), (1, .long a1)] := hl
  have hS : va_S (aS ad) s.heap s.heap [] := va_S.rf
  refine lv_lload_n hx hb dX7_digestOfGrains_0 rfl (lv_at hl 1 rfl) ?_
  refine lv_lstore_n (lv' := [(3, .long a1), (0, .ref (ad 0)), (1, .long a1)]) hx hb dX7_digestOfGrains_1 rfl hl (by decide) rfl (fun ls hl => ?_)
  refine lv_iconst (v := 0) hx hb dX7_digestOfGrains_2 (by decide) ?_
  refine lv_istore (lv' := [(5, .int 0), (3, .long a1), (0, .ref (ad 0)), (1, .long a1)]) hx hb dX7_digestOfGrains_3 hl (by decide) rfl (fun ls hl => ?_)
  have hL5 : ∀ (x1 : Int64) (n : Nat) (γ_5 : Sg) (x3 : Int64) (x5 : Int32), nm x5 (f6_grainMany γ_5) < n → ∀ (H : Heap) (locs : List Loc), va_P D vwCl (wS cA ad τ ρ π γ_5) H → va_S (aS ad) s.heap H locs → ∀ ls : Array Slot, lv_has ls 7 [(0, .ref (ad 0)), (1, .long x1), (3, .long x3), (5, .int x5)] → (∀ (H : Heap) (locs : List Loc), va_P D vwCl (wS cA ad τ ρ π ((f7_digestOfGrains_L5 τ π x1 n γ_5 x3 x5).2.2)) H → va_S (aS ad) s.heap H locs → ∀ ls : Array Slot, lv_has ls 7 [(0, .ref (ad 0)), (1, .long x1), (3, .long ((f7_digestOfGrains_L5 τ π x1 n γ_5 x3 x5).1)), (5, .int ((f7_digestOfGrains_L5 τ π x1 n γ_5 x3 x5).2.1))] → W p l e ({ frames := 4, cells := 0, slots := 0, locals := 89 }) s m ([.ref (ad 0), .long a1] : List Value).toArray below meth c H locs 0 0 (MQ below (qV D cA ad τ ρ π ((f7_digestOfGrains τ π γ a1).2) (some (.long ((f7_digestOfGrains τ π γ a1).1)))) ([.ref (ad 0), .long a1] : List Value).toArray s 0 0 (aS ad)) (F0 m 58 ls [])) → W p l e ({ frames := 4, cells := 0, slots := 0, locals := 89 }) s m ([.ref (ad 0), .long a1] : List Value).toArray below meth c H locs 0 0 (MQ below (qV D cA ad τ ρ π ((f7_digestOfGrains τ π γ a1).2) (some (.long ((f7_digestOfGrains τ π γ a1).1)))) ([.ref (ad 0), .long a1] : List Value).toArray s 0 0 (aS ad)) (F0 m 5 ls []) := by
    intro x1 n
    induction n with
    | zero =>
      intro γ_5 x3 x5 hn
      exact absurd hn (Nat.not_lt_zero _)
    | succ n ih =>
      intro γ_5 x3 x5 hn H locs hP hS ls hl kk
      refine lv_iload hx hb dX7_digestOfGrains_5 (lv_at hl 3 rfl) ?_
      refine lv_aload_n hx hb dX7_digestOfGrains_7 rfl (lv_at hl 0 rfl) ?_
      refine gX7_4 hx hb htA hown hK hP dX7_digestOfGrains_8 ?_
      refine sy_cv (rest := [.int x5]) C hK hN hP (m6_grainMany l D cA ad τ ρ π γ_5) (4) 8 rfl rfl kw_243 kw_244 kw_245 kw_29 kw_246 hd_X6_grainMany ⟨Nat.le_of_ble_eq_true rfl, Nat.le_of_ble_eq_true rfl⟩ rfl rfl rfl hl.1 rfl (Nat.le_of_ble_eq_true rfl) dX7_digestOfGrains_11 ⟨Nat.zero_le _, Nat.zero_le _⟩ ?_
      refine lv_icmp_ge (tgt := 58) hx hb dX7_digestOfGrains_14 (by decide) (fun c_1 => ?_) (fun c_1 => ?_)
      · have e9 : f7_digestOfGrains_L5 τ π x1 (n + 1) γ_5 x3 x5 = (x3, x5, γ_5) := by rw [f7_digestOfGrains_L5_s]; (try rw [if_pos c_1])
        rw [e9] at kk
        exact kk _ _ hP hS ls (lv_sub hl [0, 1, 2, 3] rfl)
      · refine lv_iconst (v := 0) hx hb dX7_digestOfGrains_17 (by decide) ?_
        refine lv_istore (lv' := [(6, .int 0), (0, .ref (ad 0)), (1, .long x1), (3, .long x3), (5, .int x5)]) hx hb dX7_digestOfGrains_18 hl (by decide) rfl (fun ls hl => ?_)
        have hL20 : ∀ (x1 : Int64) (x5 : Int32) (n : Nat) (γ_20 : Sg) (x3 : Int64) (x6 : Int32), nm x6 7 < n → ∀ (H : Heap) (locs : List Loc), va_P D vwCl (wS cA ad τ ρ π γ_20) H → va_S (aS ad) s.heap H locs → ∀ ls : Array Slot, lv_has ls 7 [(0, .ref (ad 0)), (1, .long x1), (3, .long x3), (5, .int x5), (6, .int x6)] → (∀ (H : Heap) (locs : List Loc), va_P D vwCl (wS cA ad τ ρ π ((f7_digestOfGrains_L20 τ π x1 x5 n γ_20 x3 x6).2.2)) H → va_S (aS ad) s.heap H locs → ∀ ls : Array Slot, lv_has ls 7 [(0, .ref (ad 0)), (1, .long x1), (3, .long ((f7_digestOfGrains_L20 τ π x1 x5 n γ_20 x3 x6).1)), (5, .int x5), (6, .int ((f7_digestOfGrains_L20 τ π x1 x5 n γ_20 x3 x6).2.1))] → W p l e ({ frames := 4, cells := 0, slots := 0, locals := 89 }) s m ([.ref (ad 0), .long a1] : List Value).toArray below meth c H locs 0 0 (MQ below (qV D cA ad τ ρ π ((f7_digestOfGrains τ π γ a1).2) (some (.long ((f7_digestOfGrains τ π γ a1).1)))) ([.ref (ad 0), .long a1] : List Value).toArray s 0 0 (aS ad)) (F0 m 52 ls [])) → W p l e ({ frames := 4, cells := 0, slots := 0, locals := 89 }) s m ([.ref (ad 0), .long a1] : List Value).toArray below meth c H locs 0 0 (MQ below (qV D cA ad τ ρ π ((f7_digestOfGrains τ π γ a1).2) (some (.long ((f7_digestOfGrains τ π γ a1).1)))) ([.ref (ad 0), .long a1] : List Value).toArray s 0 0 (aS ad)) (F0 m 20 ls []) := by
          intro x1 x5 n
          induction n with
          | zero =>
            intro γ_20 x3 x6 hn
            exact absurd hn (Nat.not_lt_zero _)
          | succ n ih =>
            intro γ_20 x3 x6 hn H locs hP hS ls hl kk
            refine lv_iload hx hb dX7_digestOfGrains_20 (lv_at hl 4 rfl) ?_
            refine lv_bipush (v := 7) hx hb dX7_digestOfGrains_22 (by decide) ?_
            refine lv_icmp_ge (tgt := 52) hx hb dX7_digestOfGrains_24 (by decide) (fun c_2 => ?_) (fun c_2 => ?_)
            · have e9 : f7_digestOfGrains_L20 τ π x1 x5 (n + 1) γ_20 x3 x6 = (x3, x6, γ_20) := by rw [f7_digestOfGrains_L20_s]; (try rw [if_pos c_2])
              rw [e9] at kk
              exact kk _ _ hP hS ls (lv_sub hl [0, 1, 2, 3, 4] rfl)
            · refine lv_lload_n hx hb dX7_digestOfGrains_27 rfl (lv_at hl 2 rfl) ?_
              refine lv_ldc2 (v := 31) hx hb hown (htA _ kw_810) dX7_digestOfGrains_28 ?_
              refine lv_lmul hx hb dX7_digestOfGrains_31 ?_
              refine lv_aload_n hx hb dX7_digestOfGrains_32 rfl (lv_at hl 0 rfl) ?_
              refine gX7_4 hx hb htA hown hK hP dX7_digestOfGrains_33 ?_
              refine lv_iload hx hb dX7_digestOfGrains_36 (lv_at hl 3 rfl) ?_
              refine lv_iload hx hb dX7_digestOfGrains_38 (lv_at hl 4 rfl) ?_
              refine sy_cvM (rest := [.long (x3 * 31)]) (st1 := [.int ((f6_grainNumber τ π γ_20 x5 x6).1), .long (x3 * 31)]) C hK hN hP (fun _ h => h) hS (m6_grainNumber l D cA ad had τ ρ π γ_20 hT x5 x6) (4) 8 rfl rfl kw_557 kw_558 kw_559 kw_29 kw_560 hd_X6_grainNumber ⟨Nat.le_of_ble_eq_true rfl, Nat.le_of_ble_eq_true rfl⟩ rfl rfl rfl hl.1 rfl (Nat.le_of_ble_eq_true rfl) dX7_digestOfGrains_40 ⟨Nat.zero_le _, Nat.zero_le _⟩ rfl (fun H locs hP hS => ?_)
              refine lv_i2l (v := ((f6_grainNumber τ π γ_20 x5 x6).1).toInt64) hx hb dX7_digestOfGrains_43 rfl ?_
              refine lv_ladd hx hb dX7_digestOfGrains_44 ?_
              refine lv_lstore_n (lv' := [(3, .long ((x3 * 31) + (((f6_grainNumber τ π γ_20 x5 x6).1).toInt64))), (0, .ref (ad 0)), (1, .long x1), (5, .int x5), (6, .int x6)]) hx hb dX7_digestOfGrains_45 rfl hl (by decide) rfl (fun ls hl => ?_)
              refine lv_iinc (v := x6 + 1) (lv' := [(6, .int (x6 + 1)), (3, .long ((x3 * 31) + (((f6_grainNumber τ π γ_20 x5 x6).1).toInt64))), (0, .ref (ad 0)), (1, .long x1), (5, .int x5)]) hx hb dX7_digestOfGrains_46 hl (k := 4) rfl (by rfl) (by decide) rfl (fun ls hl => ?_)
              refine lv_goto (tgt := 20) hx hb dX7_digestOfGrains_49 (by decide) ?_
              have e9 : f7_digestOfGrains_L20 τ π x1 x5 (n + 1) γ_20 x3 x6 = f7_digestOfGrains_L20 τ π x1 x5 n ((f6_grainNumber τ π γ_20 x5 x6).2) ((x3 * 31) + (((f6_grainNumber τ π γ_20 x5 x6).1).toInt64)) (x6 + 1) := by rw [f7_digestOfGrains_L20_s]; (try rw [if_neg c_2])
              rw [e9] at kk
              exact ih ((f6_grainNumber τ π γ_20 x5 x6).2) ((x3 * 31) + (((f6_grainNumber τ π γ_20 x5 x6).1).toInt64)) (x6 + 1) (nm_dec (Int32.not_le.mp c_2) hn) _ _ hP hS ls (lv_sub hl [2, 3, 1, 4, 0] rfl) kk
        refine hL20 x1 x5 8589934592 γ_5 x3 0 (nm_lt _ _) _ _ hP hS ls (lv_sub hl [1, 2, 3, 4, 0] rfl) (fun H locs hP hS ls hl => ?_)
        refine lv_iinc (v := x5 + 1) (lv' := [(5, .int (x5 + 1)), (0, .ref (ad 0)), (1, .long x1), (3, .long ((f7_digestOfGrains_L20 τ π x1 x5 8589934592 γ_5 x3 0).1)), (6, .int ((f7_digestOfGrains_L20 τ π x1 x5 8589934592 γ_5 x3 0).2.1))]) hx hb dX7_digestOfGrains_52 hl (k := 3) rfl (by rfl) (by decide) rfl (fun ls hl => ?_)
        refine lv_goto (tgt := 5) hx hb dX7_digestOfGrains_55 (by decide) ?_
        have e9 : f7_digestOfGrains_L5 τ π x1 (n + 1) γ_5 x3 x5 = f7_digestOfGrains_L5 τ π x1 n ((f7_digestOfGrains_L20 τ π x1 x5 8589934592 γ_5 x3 0).2.2) ((f7_digestOfGrains_L20 τ π x1 x5 8589934592 γ_5 x3 0).1) (x5 + 1) := by rw [f7_digestOfGrains_L5_s]; (try rw [if_neg c_1])
        rw [e9] at kk
        exact ih ((f7_digestOfGrains_L20 τ π x1 x5 8589934592 γ_5 x3 0).2.2) ((f7_digestOfGrains_L20 τ π x1 x5 8589934592 γ_5 x3 0).1) (x5 + 1) (by unfold f6_grainMany f2_many; rw [dg20_1]; exact nm_dec (Int32.not_le.mp c_1) hn) _ _ hP hS ls (lv_sub hl [1, 2, 3, 0] rfl) kk
  refine hL5 a1 8589934592 γ a1 0 (nm_lt _ _) _ _ hP hS ls (lv_sub hl [2, 3, 1, 0] rfl) (fun H locs hP hS ls hl => ?_)
  refine lv_lload_n hx hb dX7_digestOfGrains_58 rfl (lv_at hl 2 rfl) ?_
  have e9 : ((f7_digestOfGrains_L5 τ π a1 8589934592 γ a1 0).1, ((f7_digestOfGrains_L5 τ π a1 8589934592 γ a1 0).2.2)) = f7_digestOfGrains τ π γ a1 := rfl
  exact sy_retVL hx hb hr hlk hP hS (by rw [← e9]) (by rw [← e9]) dX7_digestOfGrains_59
/-- X7_digest -/
theorem hd_X7_digest : yX7_digest.cls = yX7_digest.cls ∧ yX7_digest.cls ≠ "java/lang/invoke/MethodHandle" ∧ yX7_digest.cls ≠ "java/lang/invoke/VarHandle" ∧ (parseMethodDescriptor yX7_digest.desc).map (fun d => d.parameters.length) = some 0 := by decide +kernel
def f7_digest_L17 (τ : Sg) (ρ : Sg) (π : Sg) (γ_17 : Sg) : Nat → Int64 → Int32 → Int64 × Int32
  | 0, x1, x3 => (x1, x3)
  | n + 1, x1, x3 => (if 16 ≤ x3 then (x1, x3) else (f7_digest_L17 τ ρ π γ_17 n ((x1 * 31) + ((f6_metalNumber τ ρ π γ_17 x3).toInt64)) (x3 + 1)))
theorem f7_digest_L17_s (τ : Sg) (ρ : Sg) (π : Sg) (γ_17 : Sg) (n : Nat) (x1 : Int64) (x3 : Int32) : f7_digest_L17 τ ρ π γ_17 (n + 1) x1 x3 = (if 16 ≤ x3 then (x1, x3) else (f7_digest_L17 τ ρ π γ_17 n ((x1 * 31) + ((f6_metalNumber τ ρ π γ_17 x3).toInt64)) (x3 + 1))) := rfl
def f7_digest_L59 (τ : Sg) (ρ : Sg) (π : Sg) (γ_59 : Sg) : Nat → Int64 → Int32 → Int64 × Int32
  | 0, x1, x3 => (x1, x3)
  | n + 1, x1, x3 => (if 9 < x3 then (x1, x3) else (f7_digest_L59 τ ρ π γ_59 n ((x1 * 31) + ((f6_textureOf τ π x3).toInt64)) (x3 + 1)))
theorem f7_digest_L59_s (τ : Sg) (ρ : Sg) (π : Sg) (γ_59 : Sg) (n : Nat) (x1 : Int64) (x3 : Int32) : f7_digest_L59 τ ρ π γ_59 (n + 1) x1 x3 = (if 9 < x3 then (x1, x3) else (f7_digest_L59 τ ρ π γ_59 n ((x1 * 31) + ((f6_textureOf τ π x3).toInt64)) (x3 + 1))) := rfl
def f7_digest_L89 (τ : Sg) (ρ : Sg) (π : Sg) (γ_89 : Sg) : Nat → Int64 → Int32 → Int64 × Int32
  | 0, x1, x3 => (x1, x3)
  | n + 1, x1, x3 => (if (f5_lines τ) ≤ x3 then (x1, x3) else (f7_digest_L89 τ ρ π γ_89 n ((x1 * 31) + ((f6_cutsOf τ ρ π x3).toInt64)) (x3 + 1)))
theorem f7_digest_L89_s (τ : Sg) (ρ : Sg) (π : Sg) (γ_89 : Sg) (n : Nat) (x1 : Int64) (x3 : Int32) : f7_digest_L89 τ ρ π γ_89 (n + 1) x1 x3 = (if (f5_lines τ) ≤ x3 then (x1, x3) else (f7_digest_L89 τ ρ π γ_89 n ((x1 * 31) + ((f6_cutsOf τ ρ π x3).toInt64)) (x3 + 1))) := rfl
def f7_digest_L124 (τ : Sg) (ρ : Sg) (π : Sg) : Nat → Sg → Int64 → Int32 → Int64 × Int32 × Sg
  | 0, γ_124, x1, x3 => (x1, x3, γ_124)
  | n + 1, γ_124, x1, x3 => (if 7 ≤ x3 then (x1, x3, γ_124) else (f7_digest_L124 τ ρ π n ((f6_grainsBordering τ γ_124 x3).2) ((x1 * 31) + (((f6_grainsBordering τ γ_124 x3).1).toInt64)) (x3 + 1)))
theorem f7_digest_L124_s (τ : Sg) (ρ : Sg) (π : Sg) (n : Nat) (γ_124 : Sg) (x1 : Int64) (x3 : Int32) : f7_digest_L124 τ ρ π (n + 1) γ_124 x1 x3 = (if 7 ≤ x3 then (x1, x3, γ_124) else (f7_digest_L124 τ ρ π n ((f6_grainsBordering τ γ_124 x3).2) ((x1 * 31) + (((f6_grainsBordering τ γ_124 x3).1).toInt64)) (x3 + 1))) := rfl
def f7_digest (τ : Sg) (ρ : Sg) (π : Sg) (γ : Sg) : Int64 × Sg := (if (f6_isAllSound τ ρ π ((f7_digest_L124 τ ρ π 8589934592 ((f7_digestOfGrains τ π (f6_look τ ρ π γ) (f7_digestOfCells τ ρ π (f6_look τ ρ π γ) ((f7_digest_L17 τ ρ π (f6_look τ ρ π γ) 8589934592 58288 0).1))).2) ((f7_digest_L89 τ ρ π ((f7_digestOfGrains τ π (f6_look τ ρ π γ) (f7_digestOfCells τ ρ π (f6_look τ ρ π γ) ((f7_digest_L17 τ ρ π (f6_look τ ρ π γ) 8589934592 58288 0).1))).2) 8589934592 ((f7_digest_L59 τ ρ π ((f7_digestOfGrains τ π (f6_look τ ρ π γ) (f7_digestOfCells τ ρ π (f6_look τ ρ π γ) ((f7_digest_L17 τ ρ π (f6_look τ ρ π γ) 8589934592 58288 0).1))).2) 8589934592 ((f7_digestOfGrains τ π (f6_look τ ρ π γ) (f7_digestOfCells τ ρ π (f6_look τ ρ π γ) ((f7_digest_L17 τ ρ π (f6_look τ ρ π γ) 8589934592 58288 0).1))).1) 1).1) 0).1) 0).2.2)) = 0 then ((((((f7_digest_L124 τ ρ π 8589934592 ((f7_digestOfGrains τ π (f6_look τ ρ π γ) (f7_digestOfCells τ ρ π (f6_look τ ρ π γ) ((f7_digest_L17 τ ρ π (f6_look τ ρ π γ) 8589934592 58288 0).1))).2) ((f7_digest_L89 τ ρ π ((f7_digestOfGrains τ π (f6_look τ ρ π γ) (f7_digestOfCells τ ρ π (f6_look τ ρ π γ) ((f7_digest_L17 τ ρ π (f6_look τ ρ π γ) 8589934592 58288 0).1))).2) 8589934592 ((f7_digest_L59 τ ρ π ((f7_digestOfGrains τ π (f6_look τ ρ π γ) (f7_digestOfCells τ ρ π (f6_look τ ρ π γ) ((f7_digest_L17 τ ρ π (f6_look τ ρ π γ) 8589934592 58288 0).1))).2) 8589934592 ((f7_digestOfGrains τ π (f6_look τ ρ π γ) (f7_digestOfCells τ ρ π (f6_look τ ρ π γ) ((f7_digest_L17 τ ρ π (f6_look τ ρ π γ) 8589934592 58288 0).1))).1) 1).1) 0).1) 0).1) * 31) + ((f3_nextOfRow π).toInt64)) * 31) + ((0 : Int32).toInt64), ((f7_digest_L124 τ ρ π 8589934592 ((f7_digestOfGrains τ π (f6_look τ ρ π γ) (f7_digestOfCells τ ρ π (f6_look τ ρ π γ) ((f7_digest_L17 τ ρ π (f6_look τ ρ π γ) 8589934592 58288 0).1))).2) ((f7_digest_L89 τ ρ π ((f7_digestOfGrains τ π (f6_look τ ρ π γ) (f7_digestOfCells τ ρ π (f6_look τ ρ π γ) ((f7_digest_L17 τ ρ π (f6_look τ ρ π γ) 8589934592 58288 0).1))).2) 8589934592 ((f7_digest_L59 τ ρ π ((f7_digestOfGrains τ π (f6_look τ ρ π γ) (f7_digestOfCells τ ρ π (f6_look τ ρ π γ) ((f7_digest_L17 τ ρ π (f6_look τ ρ π γ) 8589934592 58288 0).1))).2) 8589934592 ((f7_digestOfGrains τ π (f6_look τ ρ π γ) (f7_digestOfCells τ ρ π (f6_look τ ρ π γ) ((f7_digest_L17 τ ρ π (f6_look τ ρ π γ) 8589934592 58288 0).1))).1) 1).1) 0).1) 0).2.2)) else ((((((f7_digest_L124 τ ρ π 8589934592 ((f7_digestOfGrains τ π (f6_look τ ρ π γ) (f7_digestOfCells τ ρ π (f6_look τ ρ π γ) ((f7_digest_L17 τ ρ π (f6_look τ ρ π γ) 8589934592 58288 0).1))).2) ((f7_digest_L89 τ ρ π ((f7_digestOfGrains τ π (f6_look τ ρ π γ) (f7_digestOfCells τ ρ π (f6_look τ ρ π γ) ((f7_digest_L17 τ ρ π (f6_look τ ρ π γ) 8589934592 58288 0).1))).2) 8589934592 ((f7_digest_L59 τ ρ π ((f7_digestOfGrains τ π (f6_look τ ρ π γ) (f7_digestOfCells τ ρ π (f6_look τ ρ π γ) ((f7_digest_L17 τ ρ π (f6_look τ ρ π γ) 8589934592 58288 0).1))).2) 8589934592 ((f7_digestOfGrains τ π (f6_look τ ρ π γ) (f7_digestOfCells τ ρ π (f6_look τ ρ π γ) ((f7_digest_L17 τ ρ π (f6_look τ ρ π γ) 8589934592 58288 0).1))).1) 1).1) 0).1) 0).1) * 31) + ((f3_nextOfRow π).toInt64)) * 31) + ((1 : Int32).toInt64), ((f7_digest_L124 τ ρ π 8589934592 ((f7_digestOfGrains τ π (f6_look τ ρ π γ) (f7_digestOfCells τ ρ π (f6_look τ ρ π γ) ((f7_digest_L17 τ ρ π (f6_look τ ρ π γ) 8589934592 58288 0).1))).2) ((f7_digest_L89 τ ρ π ((f7_digestOfGrains τ π (f6_look τ ρ π γ) (f7_digestOfCells τ ρ π (f6_look τ ρ π γ) ((f7_digest_L17 τ ρ π (f6_look τ ρ π γ) 8589934592 58288 0).1))).2) 8589934592 ((f7_digest_L59 τ ρ π ((f7_digestOfGrains τ π (f6_look τ ρ π γ) (f7_digestOfCells τ ρ π (f6_look τ ρ π γ) ((f7_digest_L17 τ ρ π (f6_look τ ρ π γ) 8589934592 58288 0).1))).2) 8589934592 ((f7_digestOfGrains τ π (f6_look τ ρ π γ) (f7_digestOfCells τ ρ π (f6_look τ ρ π γ) ((f7_digest_L17 τ ρ π (f6_look τ ρ π γ) 8589934592 58288 0).1))).1) 1).1) 0).1) 0).2.2)))
set_option maxHeartbeats 400000 in
set_option maxRecDepth 100000 in
theorem m7_digest (l : Launch) (D : va_G) (cA : ClassId) (ad : Nat → Nat) (had : Apart ad) (τ ρ π γ : Sg) (hT : Ok τ) : Met l yX7_digest (wM yX7_digest cX7_digest 4 (some .long)) ({ frames := 6, cells := 0, slots := 0, locals := 134 }) (va_Pc [.ref (ad 0)] (pS D cA ad τ ρ π γ)) (qV D cA ad τ ρ π ((f7_digest τ ρ π γ).2) (some (.long ((f7_digest τ ρ π γ).1)))) 0 0 (aS ad) := by
  refine sy_of (by decide) (Nat.le_of_ble_eq_true rfl) ?_
  intro p e s m below meth c ls C hr hlk hK hN hP hl
  obtain ⟨hx, hb, hml, hown, hts⟩ := id C
  have htA : ∀ w ∈ wA, w.before ([.ref (ad 0)] : List Value).toArray s = true := fun w h => hts w (List.mem_cons_of_mem _ h)
  have hl : lv_has ls 4 [(0, .ref (ad 0))] := hl
  have hS : va_S (aS ad) s.heap s.heap [] := va_S.rf
  refine lv_aload_n hx hb dX7_digest_0 rfl (lv_at hl 0 rfl) ?_
  refine gX7_4 hx hb htA hown hK hP dX7_digest_1 ?_
  refine lv_aload_n hx hb dX7_digest_4 rfl (lv_at hl 0 rfl) ?_
  refine gX7_2 hx hb htA hown hK hP dX7_digest_5 ?_
  refine sy_cvM (rest := []) (st1 := []) C hK hN hP (fun _ h => h) hS (m6_look l D cA ad had τ ρ π γ hT) (4) 8 rfl rfl kw_195 kw_196 kw_197 kw_29 kw_198 hd_X6_look ⟨Nat.le_of_ble_eq_true rfl, Nat.le_of_ble_eq_true rfl⟩ rfl rfl rfl hl.1 rfl (Nat.le_of_ble_eq_true rfl) dX7_digest_8 ⟨Nat.zero_le _, Nat.zero_le _⟩ rfl (fun H locs hP hS => ?_)
  refine lv_ldc2 (v := 58288) hx hb hown (htA _ kw_809) dX7_digest_11 ?_
  refine lv_lstore_n (lv' := [(1, .long 58288), (0, .ref (ad 0))]) hx hb dX7_digest_14 rfl hl (by decide) rfl (fun ls hl => ?_)
  refine lv_iconst (v := 0) hx hb dX7_digest_15 (by decide) ?_
  refine lv_istore_n (lv' := [(3, .int 0), (1, .long 58288), (0, .ref (ad 0))]) hx hb dX7_digest_16 rfl hl (by decide) rfl (fun ls hl => ?_)
  have hL17 : ∀ (γ_17 : Sg) (n : Nat) (x1 : Int64) (x3 : Int32), nm x3 16 < n → ∀ (H : Heap) (locs : List Loc), va_P D vwCl (wS cA ad τ ρ π γ_17) H → va_S (aS ad) s.heap H locs → ∀ ls : Array Slot, lv_has ls 4 [(0, .ref (ad 0)), (1, .long x1), (3, .int x3)] → (∀ (H : Heap) (locs : List Loc), va_P D vwCl (wS cA ad τ ρ π γ_17) H → va_S (aS ad) s.heap H locs → ∀ ls : Array Slot, lv_has ls 4 [(0, .ref (ad 0)), (1, .long ((f7_digest_L17 τ ρ π γ_17 n x1 x3).1)), (3, .int ((f7_digest_L17 τ ρ π γ_17 n x1 x3).2))] → W p l e ({ frames := 6, cells := 0, slots := 0, locals := 134 }) s m ([.ref (ad 0)] : List Value).toArray below meth c H locs 0 0 (MQ below (qV D cA ad τ ρ π ((f7_digest τ ρ π γ).2) (some (.long ((f7_digest τ ρ π γ).1)))) ([.ref (ad 0)] : List Value).toArray s 0 0 (aS ad)) (F0 m 45 ls [])) → W p l e ({ frames := 6, cells := 0, slots := 0, locals := 134 }) s m ([.ref (ad 0)] : List Value).toArray below meth c H locs 0 0 (MQ below (qV D cA ad τ ρ π ((f7_digest τ ρ π γ).2) (some (.long ((f7_digest τ ρ π γ).1)))) ([.ref (ad 0)] : List Value).toArray s 0 0 (aS ad)) (F0 m 17 ls []) := by
    intro γ_17 n
    induction n with
    | zero =>
      intro x1 x3 hn
      exact absurd hn (Nat.not_lt_zero _)
    | succ n ih =>
      intro x1 x3 hn H locs hP hS ls hl kk
      refine lv_iload_n hx hb dX7_digest_17 rfl (lv_at hl 2 rfl) ?_
      refine lv_bipush (v := 16) hx hb dX7_digest_18 (by decide) ?_
      refine lv_icmp_ge (tgt := 45) hx hb dX7_digest_20 (by decide) (fun c_1 => ?_) (fun c_1 => ?_)
      · have e9 : f7_digest_L17 τ ρ π γ_17 (n + 1) x1 x3 = (x1, x3) := by rw [f7_digest_L17_s]; (try rw [if_pos c_1])
        rw [e9] at kk
        exact kk _ _ hP hS ls (lv_sub hl [0, 1, 2] rfl)
      · refine lv_lload_n hx hb dX7_digest_23 rfl (lv_at hl 1 rfl) ?_
        refine lv_ldc2 (v := 31) hx hb hown (htA _ kw_810) dX7_digest_24 ?_
        refine lv_lmul hx hb dX7_digest_27 ?_
        refine lv_aload_n hx hb dX7_digest_28 rfl (lv_at hl 0 rfl) ?_
        refine gX7_4 hx hb htA hown hK hP dX7_digest_29 ?_
        refine lv_iload_n hx hb dX7_digest_32 rfl (lv_at hl 2 rfl) ?_
        refine sy_cv (rest := [.long (x1 * 31)]) C hK hN hP (m6_metalNumber l D cA ad τ ρ π γ_17 hT x3) (4) 8 rfl rfl kw_371 kw_372 kw_373 kw_29 kw_374 hd_X6_metalNumber ⟨Nat.le_of_ble_eq_true rfl, Nat.le_of_ble_eq_true rfl⟩ rfl rfl rfl hl.1 rfl (Nat.le_of_ble_eq_true rfl) dX7_digest_33 ⟨Nat.zero_le _, Nat.zero_le _⟩ ?_
        refine lv_i2l (v := (f6_metalNumber τ ρ π γ_17 x3).toInt64) hx hb dX7_digest_36 rfl ?_
        refine lv_ladd hx hb dX7_digest_37 ?_
        refine lv_lstore_n (lv' := [(1, .long ((x1 * 31) + ((f6_metalNumber τ ρ π γ_17 x3).toInt64))), (0, .ref (ad 0)), (3, .int x3)]) hx hb dX7_digest_38 rfl hl (by decide) rfl (fun ls hl => ?_)
        refine lv_iinc (v := x3 + 1) (lv' := [(3, .int (x3 + 1)), (1, .long ((x1 * 31) + ((f6_metalNumber τ ρ π γ_17 x3).toInt64))), (0, .ref (ad 0))]) hx hb dX7_digest_39 hl (k := 2) rfl (by rfl) (by decide) rfl (fun ls hl => ?_)
        refine lv_goto (tgt := 17) hx hb dX7_digest_42 (by decide) ?_
        have e9 : f7_digest_L17 τ ρ π γ_17 (n + 1) x1 x3 = f7_digest_L17 τ ρ π γ_17 n ((x1 * 31) + ((f6_metalNumber τ ρ π γ_17 x3).toInt64)) (x3 + 1) := by rw [f7_digest_L17_s]; (try rw [if_neg c_1])
        rw [e9] at kk
        exact ih ((x1 * 31) + ((f6_metalNumber τ ρ π γ_17 x3).toInt64)) (x3 + 1) (nm_dec (Int32.not_le.mp c_1) hn) _ _ hP hS ls (lv_sub hl [2, 1, 0] rfl) kk
  refine hL17 (f6_look τ ρ π γ) 8589934592 58288 0 (nm_lt _ _) _ _ hP hS ls (lv_sub hl [2, 1, 0] rfl) (fun H locs hP hS ls hl => ?_)
  refine lv_aload_n hx hb dX7_digest_45 rfl (lv_at hl 0 rfl) ?_
  refine lv_lload_n hx hb dX7_digest_46 rfl (lv_at hl 1 rfl) ?_
  refine sy_cvL (rest := []) C hK hN hP (m7_digestOfCells l D cA ad τ ρ π (f6_look τ ρ π γ) hT ((f7_digest_L17 τ ρ π (f6_look τ ρ π γ) 8589934592 58288 0).1)) (0) 9 rfl rfl kw_811 kw_812 kw_813 kw_7 kw_814 hd_X7_digestOfCells ⟨Nat.le_of_ble_eq_true rfl, Nat.le_of_ble_eq_true rfl⟩ rfl rfl rfl hl.1 rfl (Nat.le_of_ble_eq_true rfl) dX7_digest_47 ⟨Nat.zero_le _, Nat.zero_le _⟩ ?_
  refine lv_lstore_n (lv' := [(1, .long (f7_digestOfCells τ ρ π (f6_look τ ρ π γ) ((f7_digest_L17 τ ρ π (f6_look τ ρ π γ) 8589934592 58288 0).1))), (0, .ref (ad 0)), (3, .int ((f7_digest_L17 τ ρ π (f6_look τ ρ π γ) 8589934592 58288 0).2))]) hx hb dX7_digest_50 rfl hl (by decide) rfl (fun ls hl => ?_)
  refine lv_aload_n hx hb dX7_digest_51 rfl (lv_at hl 1 rfl) ?_
  refine lv_lload_n hx hb dX7_digest_52 rfl (lv_at hl 0 rfl) ?_
  refine sy_cvM (rest := []) (st1 := [.long ((f7_digestOfGrains τ π (f6_look τ ρ π γ) (f7_digestOfCells τ ρ π (f6_look τ ρ π γ) ((f7_digest_L17 τ ρ π (f6_look τ ρ π γ) 8589934592 58288 0).1))).1)]) C hK hN hP (fun _ h => h) hS (m7_digestOfGrains l D cA ad had τ ρ π (f6_look τ ρ π γ) hT (f7_digestOfCells τ ρ π (f6_look τ ρ π γ) ((f7_digest_L17 τ ρ π (f6_look τ ρ π γ) 8589934592 58288 0).1))) (0) 9 rfl rfl kw_816 kw_817 kw_818 kw_7 kw_819 hd_X7_digestOfGrains ⟨Nat.le_of_ble_eq_true rfl, Nat.le_of_ble_eq_true rfl⟩ rfl rfl rfl hl.1 rfl (Nat.le_of_ble_eq_true rfl) dX7_digest_53 ⟨Nat.zero_le _, Nat.zero_le _⟩ rfl (fun H locs hP hS => ?_)
  refine lv_lstore_n (lv' := [(1, .long ((f7_digestOfGrains τ π (f6_look τ ρ π γ) (f7_digestOfCells τ ρ π (f6_look τ ρ π γ) ((f7_digest_L17 τ ρ π (f6_look τ ρ π γ) 8589934592 58288 0).1))).1)), (0, .ref (ad 0)), (3, .int ((f7_digest_L17 τ ρ π (f6_look τ ρ π γ) 8589934592 58288 0).2))]) hx hb dX7_digest_56 rfl hl (by decide) rfl (fun ls hl => ?_)
  refine lv_iconst (v := 1) hx hb dX7_digest_57 (by decide) ?_
  refine lv_istore_n (lv' := [(3, .int 1), (1, .long ((f7_digestOfGrains τ π (f6_look τ ρ π γ) (f7_digestOfCells τ ρ π (f6_look τ ρ π γ) ((f7_digest_L17 τ ρ π (f6_look τ ρ π γ) 8589934592 58288 0).1))).1)), (0, .ref (ad 0))]) hx hb dX7_digest_58 rfl hl (by decide) rfl (fun ls hl => ?_)
  have hL59 : ∀ (γ_59 : Sg) (n : Nat) (x1 : Int64) (x3 : Int32), nm x3 10 < n → ∀ (H : Heap) (locs : List Loc), va_P D vwCl (wS cA ad τ ρ π γ_59) H → va_S (aS ad) s.heap H locs → ∀ ls : Array Slot, lv_has ls 4 [(0, .ref (ad 0)), (1, .long x1), (3, .int x3)] → (∀ (H : Heap) (locs : List Loc), va_P D vwCl (wS cA ad τ ρ π γ_59) H → va_S (aS ad) s.heap H locs → ∀ ls : Array Slot, lv_has ls 4 [(0, .ref (ad 0)), (1, .long ((f7_digest_L59 τ ρ π γ_59 n x1 x3).1)), (3, .int ((f7_digest_L59 τ ρ π γ_59 n x1 x3).2))] → W p l e ({ frames := 6, cells := 0, slots := 0, locals := 134 }) s m ([.ref (ad 0)] : List Value).toArray below meth c H locs 0 0 (MQ below (qV D cA ad τ ρ π ((f7_digest τ ρ π γ).2) (some (.long ((f7_digest τ ρ π γ).1)))) ([.ref (ad 0)] : List Value).toArray s 0 0 (aS ad)) (F0 m 87 ls [])) → W p l e ({ frames := 6, cells := 0, slots := 0, locals := 134 }) s m ([.ref (ad 0)] : List Value).toArray below meth c H locs 0 0 (MQ below (qV D cA ad τ ρ π ((f7_digest τ ρ π γ).2) (some (.long ((f7_digest τ ρ π γ).1)))) ([.ref (ad 0)] : List Value).toArray s 0 0 (aS ad)) (F0 m 59 ls []) := by
    intro γ_59 n
    induction n with
    | zero =>
      intro x1 x3 hn
      exact absurd hn (Nat.not_lt_zero _)
    | succ n ih =>
      intro x1 x3 hn H locs hP hS ls hl kk
      refine lv_iload_n hx hb dX7_digest_59 rfl (lv_at hl 2 rfl) ?_
      refine lv_bipush (v := 9) hx hb dX7_digest_60 (by decide) ?_
      refine lv_icmp_gt (tgt := 87) hx hb dX7_digest_62 (by decide) (fun c_2 => ?_) (fun c_2 => ?_)
      · have e9 : f7_digest_L59 τ ρ π γ_59 (n + 1) x1 x3 = (x1, x3) := by rw [f7_digest_L59_s]; (try rw [if_pos c_2])
        rw [e9] at kk
        exact kk _ _ hP hS ls (lv_sub hl [0, 1, 2] rfl)
      · refine lv_lload_n hx hb dX7_digest_65 rfl (lv_at hl 1 rfl) ?_
        refine lv_ldc2 (v := 31) hx hb hown (htA _ kw_810) dX7_digest_66 ?_
        refine lv_lmul hx hb dX7_digest_69 ?_
        refine lv_aload_n hx hb dX7_digest_70 rfl (lv_at hl 0 rfl) ?_
        refine gX7_4 hx hb htA hown hK hP dX7_digest_71 ?_
        refine lv_iload_n hx hb dX7_digest_74 rfl (lv_at hl 2 rfl) ?_
        refine sy_cv (rest := [.long (x1 * 31)]) C hK hN hP (m6_textureOf l D cA ad τ ρ π γ_59 x3) (4) 8 rfl rfl kw_600 kw_601 kw_602 kw_29 kw_603 hd_X6_textureOf ⟨Nat.le_of_ble_eq_true rfl, Nat.le_of_ble_eq_true rfl⟩ rfl rfl rfl hl.1 rfl (Nat.le_of_ble_eq_true rfl) dX7_digest_75 ⟨Nat.zero_le _, Nat.zero_le _⟩ ?_
        refine lv_i2l (v := (f6_textureOf τ π x3).toInt64) hx hb dX7_digest_78 rfl ?_
        refine lv_ladd hx hb dX7_digest_79 ?_
        refine lv_lstore_n (lv' := [(1, .long ((x1 * 31) + ((f6_textureOf τ π x3).toInt64))), (0, .ref (ad 0)), (3, .int x3)]) hx hb dX7_digest_80 rfl hl (by decide) rfl (fun ls hl => ?_)
        refine lv_iinc (v := x3 + 1) (lv' := [(3, .int (x3 + 1)), (1, .long ((x1 * 31) + ((f6_textureOf τ π x3).toInt64))), (0, .ref (ad 0))]) hx hb dX7_digest_81 hl (k := 2) rfl (by rfl) (by decide) rfl (fun ls hl => ?_)
        refine lv_goto (tgt := 59) hx hb dX7_digest_84 (by decide) ?_
        have e9 : f7_digest_L59 τ ρ π γ_59 (n + 1) x1 x3 = f7_digest_L59 τ ρ π γ_59 n ((x1 * 31) + ((f6_textureOf τ π x3).toInt64)) (x3 + 1) := by rw [f7_digest_L59_s]; (try rw [if_neg c_2])
        rw [e9] at kk
        exact ih ((x1 * 31) + ((f6_textureOf τ π x3).toInt64)) (x3 + 1) (nm_dec (lt10 c_2) hn) _ _ hP hS ls (lv_sub hl [2, 1, 0] rfl) kk
  refine hL59 ((f7_digestOfGrains τ π (f6_look τ ρ π γ) (f7_digestOfCells τ ρ π (f6_look τ ρ π γ) ((f7_digest_L17 τ ρ π (f6_look τ ρ π γ) 8589934592 58288 0).1))).2) 8589934592 ((f7_digestOfGrains τ π (f6_look τ ρ π γ) (f7_digestOfCells τ ρ π (f6_look τ ρ π γ) ((f7_digest_L17 τ ρ π (f6_look τ ρ π γ) 8589934592 58288 0).1))).1) 1 (nm_lt _ _) _ _ hP hS ls (lv_sub hl [2, 1, 0] rfl) (fun H locs hP hS ls hl => ?_)
  refine lv_iconst (v := 0) hx hb dX7_digest_87 (by decide) ?_
  refine lv_istore_n (lv' := [(3, .int 0), (0, .ref (ad 0)), (1, .long ((f7_digest_L59 τ ρ π ((f7_digestOfGrains τ π (f6_look τ ρ π γ) (f7_digestOfCells τ ρ π (f6_look τ ρ π γ) ((f7_digest_L17 τ ρ π (f6_look τ ρ π γ) 8589934592 58288 0).1))).2) 8589934592 ((f7_digestOfGrains τ π (f6_look τ ρ π γ) (f7_digestOfCells τ ρ π (f6_look τ ρ π γ) ((f7_digest_L17 τ ρ π (f6_look τ ρ π γ) 8589934592 58288 0).1))).1) 1).1))]) hx hb dX7_digest_88 rfl hl (by decide) rfl (fun ls hl => ?_)
  have hL89 : ∀ (γ_89 : Sg) (n : Nat) (x1 : Int64) (x3 : Int32), nm x3 (f5_lines τ) < n → ∀ (H : Heap) (locs : List Loc), va_P D vwCl (wS cA ad τ ρ π γ_89) H → va_S (aS ad) s.heap H locs → ∀ ls : Array Slot, lv_has ls 4 [(0, .ref (ad 0)), (1, .long x1), (3, .int x3)] → (∀ (H : Heap) (locs : List Loc), va_P D vwCl (wS cA ad τ ρ π γ_89) H → va_S (aS ad) s.heap H locs → ∀ ls : Array Slot, lv_has ls 4 [(0, .ref (ad 0)), (1, .long ((f7_digest_L89 τ ρ π γ_89 n x1 x3).1)), (3, .int ((f7_digest_L89 τ ρ π γ_89 n x1 x3).2))] → W p l e ({ frames := 6, cells := 0, slots := 0, locals := 134 }) s m ([.ref (ad 0)] : List Value).toArray below meth c H locs 0 0 (MQ below (qV D cA ad τ ρ π ((f7_digest τ ρ π γ).2) (some (.long ((f7_digest τ ρ π γ).1)))) ([.ref (ad 0)] : List Value).toArray s 0 0 (aS ad)) (F0 m 122 ls [])) → W p l e ({ frames := 6, cells := 0, slots := 0, locals := 134 }) s m ([.ref (ad 0)] : List Value).toArray below meth c H locs 0 0 (MQ below (qV D cA ad τ ρ π ((f7_digest τ ρ π γ).2) (some (.long ((f7_digest τ ρ π γ).1)))) ([.ref (ad 0)] : List Value).toArray s 0 0 (aS ad)) (F0 m 89 ls []) := by
    intro γ_89 n
    induction n with
    | zero =>
      intro x1 x3 hn
      exact absurd hn (Nat.not_lt_zero _)
    | succ n ih =>
      intro x1 x3 hn H locs hP hS ls hl kk
      refine lv_iload_n hx hb dX7_digest_89 rfl (lv_at hl 2 rfl) ?_
      refine lv_aload_n hx hb dX7_digest_90 rfl (lv_at hl 0 rfl) ?_
      refine gX7_0 hx hb htA hown hK hP dX7_digest_91 ?_
      refine sy_cv (rest := [.int x3]) C hK hN hP (m5_lines l D cA ad τ ρ π γ_89) (1) 7 rfl rfl kw_590 kw_400 kw_401 kw_16 kw_402 hd_X5_lines ⟨Nat.le_of_ble_eq_true rfl, Nat.le_of_ble_eq_true rfl⟩ rfl rfl rfl hl.1 rfl (Nat.le_of_ble_eq_true rfl) dX7_digest_94 ⟨Nat.zero_le _, Nat.zero_le _⟩ ?_
      refine lv_icmp_ge (tgt := 122) hx hb dX7_digest_97 (by decide) (fun c_3 => ?_) (fun c_3 => ?_)
      · have e9 : f7_digest_L89 τ ρ π γ_89 (n + 1) x1 x3 = (x1, x3) := by rw [f7_digest_L89_s]; (try rw [if_pos c_3])
        rw [e9] at kk
        exact kk _ _ hP hS ls (lv_sub hl [0, 1, 2] rfl)
      · refine lv_lload_n hx hb dX7_digest_100 rfl (lv_at hl 1 rfl) ?_
        refine lv_ldc2 (v := 31) hx hb hown (htA _ kw_810) dX7_digest_101 ?_
        refine lv_lmul hx hb dX7_digest_104 ?_
        refine lv_aload_n hx hb dX7_digest_105 rfl (lv_at hl 0 rfl) ?_
        refine gX7_4 hx hb htA hown hK hP dX7_digest_106 ?_
        refine lv_iload_n hx hb dX7_digest_109 rfl (lv_at hl 2 rfl) ?_
        refine sy_cv (rest := [.long (x1 * 31)]) C hK hN hP (m6_cutsOf l D cA ad τ ρ π γ_89 x3) (4) 8 rfl rfl kw_591 kw_404 kw_405 kw_29 kw_406 hd_X6_cutsOf ⟨Nat.le_of_ble_eq_true rfl, Nat.le_of_ble_eq_true rfl⟩ rfl rfl rfl hl.1 rfl (Nat.le_of_ble_eq_true rfl) dX7_digest_110 ⟨Nat.zero_le _, Nat.zero_le _⟩ ?_
        refine lv_i2l (v := (f6_cutsOf τ ρ π x3).toInt64) hx hb dX7_digest_113 rfl ?_
        refine lv_ladd hx hb dX7_digest_114 ?_
        refine lv_lstore_n (lv' := [(1, .long ((x1 * 31) + ((f6_cutsOf τ ρ π x3).toInt64))), (0, .ref (ad 0)), (3, .int x3)]) hx hb dX7_digest_115 rfl hl (by decide) rfl (fun ls hl => ?_)
        refine lv_iinc (v := x3 + 1) (lv' := [(3, .int (x3 + 1)), (1, .long ((x1 * 31) + ((f6_cutsOf τ ρ π x3).toInt64))), (0, .ref (ad 0))]) hx hb dX7_digest_116 hl (k := 2) rfl (by rfl) (by decide) rfl (fun ls hl => ?_)
        refine lv_goto (tgt := 89) hx hb dX7_digest_119 (by decide) ?_
        have e9 : f7_digest_L89 τ ρ π γ_89 (n + 1) x1 x3 = f7_digest_L89 τ ρ π γ_89 n ((x1 * 31) + ((f6_cutsOf τ ρ π x3).toInt64)) (x3 + 1) := by rw [f7_digest_L89_s]; (try rw [if_neg c_3])
        rw [e9] at kk
        exact ih ((x1 * 31) + ((f6_cutsOf τ ρ π x3).toInt64)) (x3 + 1) (nm_dec (Int32.not_le.mp c_3) hn) _ _ hP hS ls (lv_sub hl [2, 1, 0] rfl) kk
  refine hL89 ((f7_digestOfGrains τ π (f6_look τ ρ π γ) (f7_digestOfCells τ ρ π (f6_look τ ρ π γ) ((f7_digest_L17 τ ρ π (f6_look τ ρ π γ) 8589934592 58288 0).1))).2) 8589934592 ((f7_digest_L59 τ ρ π ((f7_digestOfGrains τ π (f6_look τ ρ π γ) (f7_digestOfCells τ ρ π (f6_look τ ρ π γ) ((f7_digest_L17 τ ρ π (f6_look τ ρ π γ) 8589934592 58288 0).1))).2) 8589934592 ((f7_digestOfGrains τ π (f6_look τ ρ π γ) (f7_digestOfCells τ ρ π (f6_look τ ρ π γ) ((f7_digest_L17 τ ρ π (f6_look τ ρ π γ) 8589934592 58288 0).1))).1) 1).1) 0 (nm_lt _ _) _ _ hP hS ls (lv_sub hl [1, 2, 0] rfl) (fun H locs hP hS ls hl => ?_)
  refine lv_iconst (v := 0) hx hb dX7_digest_122 (by decide) ?_
  refine lv_istore_n (lv' := [(3, .int 0), (0, .ref (ad 0)), (1, .long ((f7_digest_L89 τ ρ π ((f7_digestOfGrains τ π (f6_look τ ρ π γ) (f7_digestOfCells τ ρ π (f6_look τ ρ π γ) ((f7_digest_L17 τ ρ π (f6_look τ ρ π γ) 8589934592 58288 0).1))).2) 8589934592 ((f7_digest_L59 τ ρ π ((f7_digestOfGrains τ π (f6_look τ ρ π γ) (f7_digestOfCells τ ρ π (f6_look τ ρ π γ) ((f7_digest_L17 τ ρ π (f6_look τ ρ π γ) 8589934592 58288 0).1))).2) 8589934592 ((f7_digestOfGrains τ π (f6_look τ ρ π γ) (f7_digestOfCells τ ρ π (f6_look τ ρ π γ) ((f7_digest_L17 τ ρ π (f6_look τ ρ π γ) 8589934592 58288 0).1))).1) 1).1) 0).1))]) hx hb dX7_digest_123 rfl hl (by decide) rfl (fun ls hl => ?_)
  have hL124 : ∀ (n : Nat) (γ_124 : Sg) (x1 : Int64) (x3 : Int32), nm x3 7 < n → ∀ (H : Heap) (locs : List Loc), va_P D vwCl (wS cA ad τ ρ π γ_124) H → va_S (aS ad) s.heap H locs → ∀ ls : Array Slot, lv_has ls 4 [(0, .ref (ad 0)), (1, .long x1), (3, .int x3)] → (∀ (H : Heap) (locs : List Loc), va_P D vwCl (wS cA ad τ ρ π ((f7_digest_L124 τ ρ π n γ_124 x1 x3).2.2)) H → va_S (aS ad) s.heap H locs → ∀ ls : Array Slot, lv_has ls 4 [(0, .ref (ad 0)), (1, .long ((f7_digest_L124 τ ρ π n γ_124 x1 x3).1)), (3, .int ((f7_digest_L124 τ ρ π n γ_124 x1 x3).2.1))] → W p l e ({ frames := 6, cells := 0, slots := 0, locals := 134 }) s m ([.ref (ad 0)] : List Value).toArray below meth c H locs 0 0 (MQ below (qV D cA ad τ ρ π ((f7_digest τ ρ π γ).2) (some (.long ((f7_digest τ ρ π γ).1)))) ([.ref (ad 0)] : List Value).toArray s 0 0 (aS ad)) (F0 m 152 ls [])) → W p l e ({ frames := 6, cells := 0, slots := 0, locals := 134 }) s m ([.ref (ad 0)] : List Value).toArray below meth c H locs 0 0 (MQ below (qV D cA ad τ ρ π ((f7_digest τ ρ π γ).2) (some (.long ((f7_digest τ ρ π γ).1)))) ([.ref (ad 0)] : List Value).toArray s 0 0 (aS ad)) (F0 m 124 ls []) := by
    intro  n
    induction n with
    | zero =>
      intro γ_124 x1 x3 hn
      exact absurd hn (Nat.not_lt_zero _)
    | succ n ih =>
      intro γ_124 x1 x3 hn H locs hP hS ls hl kk
      refine lv_iload_n hx hb dX7_digest_124 rfl (lv_at hl 2 rfl) ?_
      refine lv_bipush (v := 7) hx hb dX7_digest_125 (by decide) ?_
      refine lv_icmp_ge (tgt := 152) hx hb dX7_digest_127 (by decide) (fun c_4 => ?_) (fun c_4 => ?_)
      · have e9 : f7_digest_L124 τ ρ π (n + 1) γ_124 x1 x3 = (x1, x3, γ_124) := by rw [f7_digest_L124_s]; (try rw [if_pos c_4])
        rw [e9] at kk
        exact kk _ _ hP hS ls (lv_sub hl [0, 1, 2] rfl)
      · refine lv_lload_n hx hb dX7_digest_130 rfl (lv_at hl 1 rfl) ?_
        refine lv_ldc2 (v := 31) hx hb hown (htA _ kw_810) dX7_digest_131 ?_
        refine lv_lmul hx hb dX7_digest_134 ?_
        refine lv_aload_n hx hb dX7_digest_135 rfl (lv_at hl 0 rfl) ?_
        refine gX7_4 hx hb htA hown hK hP dX7_digest_136 ?_
        refine lv_iload_n hx hb dX7_digest_139 rfl (lv_at hl 2 rfl) ?_
        refine sy_cvM (rest := [.long (x1 * 31)]) (st1 := [.int ((f6_grainsBordering τ γ_124 x3).1), .long (x1 * 31)]) C hK hN hP (fun _ h => h) hS (m6_grainsBordering l D cA ad had τ ρ π γ_124 hT x3) (4) 8 rfl rfl kw_820 kw_821 kw_822 kw_29 kw_823 hd_X6_grainsBordering ⟨Nat.le_of_ble_eq_true rfl, Nat.le_of_ble_eq_true rfl⟩ rfl rfl rfl hl.1 rfl (Nat.le_of_ble_eq_true rfl) dX7_digest_140 ⟨Nat.zero_le _, Nat.zero_le _⟩ rfl (fun H locs hP hS => ?_)
        refine lv_i2l (v := ((f6_grainsBordering τ γ_124 x3).1).toInt64) hx hb dX7_digest_143 rfl ?_
        refine lv_ladd hx hb dX7_digest_144 ?_
        refine lv_lstore_n (lv' := [(1, .long ((x1 * 31) + (((f6_grainsBordering τ γ_124 x3).1).toInt64))), (0, .ref (ad 0)), (3, .int x3)]) hx hb dX7_digest_145 rfl hl (by decide) rfl (fun ls hl => ?_)
        refine lv_iinc (v := x3 + 1) (lv' := [(3, .int (x3 + 1)), (1, .long ((x1 * 31) + (((f6_grainsBordering τ γ_124 x3).1).toInt64))), (0, .ref (ad 0))]) hx hb dX7_digest_146 hl (k := 2) rfl (by rfl) (by decide) rfl (fun ls hl => ?_)
        refine lv_goto (tgt := 124) hx hb dX7_digest_149 (by decide) ?_
        have e9 : f7_digest_L124 τ ρ π (n + 1) γ_124 x1 x3 = f7_digest_L124 τ ρ π n ((f6_grainsBordering τ γ_124 x3).2) ((x1 * 31) + (((f6_grainsBordering τ γ_124 x3).1).toInt64)) (x3 + 1) := by rw [f7_digest_L124_s]; (try rw [if_neg c_4])
        rw [e9] at kk
        exact ih ((f6_grainsBordering τ γ_124 x3).2) ((x1 * 31) + (((f6_grainsBordering τ γ_124 x3).1).toInt64)) (x3 + 1) (nm_dec (Int32.not_le.mp c_4) hn) _ _ hP hS ls (lv_sub hl [2, 1, 0] rfl) kk
  refine hL124 8589934592 ((f7_digestOfGrains τ π (f6_look τ ρ π γ) (f7_digestOfCells τ ρ π (f6_look τ ρ π γ) ((f7_digest_L17 τ ρ π (f6_look τ ρ π γ) 8589934592 58288 0).1))).2) ((f7_digest_L89 τ ρ π ((f7_digestOfGrains τ π (f6_look τ ρ π γ) (f7_digestOfCells τ ρ π (f6_look τ ρ π γ) ((f7_digest_L17 τ ρ π (f6_look τ ρ π γ) 8589934592 58288 0).1))).2) 8589934592 ((f7_digest_L59 τ ρ π ((f7_digestOfGrains τ π (f6_look τ ρ π γ) (f7_digestOfCells τ ρ π (f6_look τ ρ π γ) ((f7_digest_L17 τ ρ π (f6_look τ ρ π γ) 8589934592 58288 0).1))).2) 8589934592 ((f7_digestOfGrains τ π (f6_look τ ρ π γ) (f7_digestOfCells τ ρ π (f6_look τ ρ π γ) ((f7_digest_L17 τ ρ π (f6_look τ ρ π γ) 8589934592 58288 0).1))).1) 1).1) 0).1) 0 (nm_lt _ _) _ _ hP hS ls (lv_sub hl [1, 2, 0] rfl) (fun H locs hP hS ls hl => ?_)
  refine lv_lload_n hx hb dX7_digest_152 rfl (lv_at hl 1 rfl) ?_
  refine lv_ldc2 (v := 31) hx hb hown (htA _ kw_810) dX7_digest_153 ?_
  refine lv_lmul hx hb dX7_digest_156 ?_
  refine lv_aload_n hx hb dX7_digest_157 rfl (lv_at hl 0 rfl) ?_
  refine gX7_2 hx hb htA hown hK hP dX7_digest_158 ?_
  refine sy_cv (rest := [.long (((f7_digest_L124 τ ρ π 8589934592 ((f7_digestOfGrains τ π (f6_look τ ρ π γ) (f7_digestOfCells τ ρ π (f6_look τ ρ π γ) ((f7_digest_L17 τ ρ π (f6_look τ ρ π γ) 8589934592 58288 0).1))).2) ((f7_digest_L89 τ ρ π ((f7_digestOfGrains τ π (f6_look τ ρ π γ) (f7_digestOfCells τ ρ π (f6_look τ ρ π γ) ((f7_digest_L17 τ ρ π (f6_look τ ρ π γ) 8589934592 58288 0).1))).2) 8589934592 ((f7_digest_L59 τ ρ π ((f7_digestOfGrains τ π (f6_look τ ρ π γ) (f7_digestOfCells τ ρ π (f6_look τ ρ π γ) ((f7_digest_L17 τ ρ π (f6_look τ ρ π γ) 8589934592 58288 0).1))).2) 8589934592 ((f7_digestOfGrains τ π (f6_look τ ρ π γ) (f7_digestOfCells τ ρ π (f6_look τ ρ π γ) ((f7_digest_L17 τ ρ π (f6_look τ ρ π γ) 8589934592 58288 0).1))).1) 1).1) 0).1) 0).1) * 31)]) C hK hN hP (m3_nextOfRow l D cA ad τ ρ π ((f7_digest_L124 τ ρ π 8589934592 ((f7_digestOfGrains τ π (f6_look τ ρ π γ) (f7_digestOfCells τ ρ π (f6_look τ ρ π γ) ((f7_digest_L17 τ ρ π (f6_look τ ρ π γ) 8589934592 58288 0).1))).2) ((f7_digest_L89 τ ρ π ((f7_digestOfGrains τ π (f6_look τ ρ π γ) (f7_digestOfCells τ ρ π (f6_look τ ρ π γ) ((f7_digest_L17 τ ρ π (f6_look τ ρ π γ) 8589934592 58288 0).1))).2) 8589934592 ((f7_digest_L59 τ ρ π ((f7_digestOfGrains τ π (f6_look τ ρ π γ) (f7_digestOfCells τ ρ π (f6_look τ ρ π γ) ((f7_digest_L17 τ ρ π (f6_look τ ρ π γ) 8589934592 58288 0).1))).2) 8589934592 ((f7_digestOfGrains τ π (f6_look τ ρ π γ) (f7_digestOfCells τ ρ π (f6_look τ ρ π γ) ((f7_digest_L17 τ ρ π (f6_look τ ρ π γ) 8589934592 58288 0).1))).1) 1).1) 0).1) 0).2.2)) (3) 5 rfl rfl kw_824 kw_825 kw_826 kw_24 kw_827 hd_X3_nextOfRow ⟨Nat.le_of_ble_eq_true rfl, Nat.le_of_ble_eq_true rfl⟩ rfl rfl rfl hl.1 rfl (Nat.le_of_ble_eq_true rfl) dX7_digest_161 ⟨Nat.zero_le _, Nat.zero_le _⟩ ?_
  refine lv_i2l (v := (f3_nextOfRow π).toInt64) hx hb dX7_digest_164 rfl ?_
  refine lv_ladd hx hb dX7_digest_165 ?_
  refine lv_lstore_n (lv' := [(1, .long ((((f7_digest_L124 τ ρ π 8589934592 ((f7_digestOfGrains τ π (f6_look τ ρ π γ) (f7_digestOfCells τ ρ π (f6_look τ ρ π γ) ((f7_digest_L17 τ ρ π (f6_look τ ρ π γ) 8589934592 58288 0).1))).2) ((f7_digest_L89 τ ρ π ((f7_digestOfGrains τ π (f6_look τ ρ π γ) (f7_digestOfCells τ ρ π (f6_look τ ρ π γ) ((f7_digest_L17 τ ρ π (f6_look τ ρ π γ) 8589934592 58288 0).1))).2) 8589934592 ((f7_digest_L59 τ ρ π ((f7_digestOfGrains τ π (f6_look τ ρ π γ) (f7_digestOfCells τ ρ π (f6_look τ ρ π γ) ((f7_digest_L17 τ ρ π (f6_look τ ρ π γ) 8589934592 58288 0).1))).2) 8589934592 ((f7_digestOfGrains τ π (f6_look τ ρ π γ) (f7_digestOfCells τ ρ π (f6_look τ ρ π γ) ((f7_digest_L17 τ ρ π (f6_look τ ρ π γ) 8589934592 58288 0).1))).1) 1).1) 0).1) 0).1) * 31) + ((f3_nextOfRow π).toInt64))), (0, .ref (ad 0)), (3, .int ((f7_digest_L124 τ ρ π 8589934592 ((f7_digestOfGrains τ π (f6_look τ ρ π γ) (f7_digestOfCells τ ρ π (f6_look τ ρ π γ) ((f7_digest_L17 τ ρ π (f6_look τ ρ π γ) 8589934592 58288 0).1))).2) ((f7_digest_L89 τ ρ π ((f7_digestOfGrains τ π (f6_look τ ρ π γ) (f7_digestOfCells τ ρ π (f6_look τ ρ π γ) ((f7_digest_L17 τ ρ π (f6_look τ ρ π γ) 8589934592 58288 0).1))).2) 8589934592 ((f7_digest_L59 τ ρ π ((f7_digestOfGrains τ π (f6_look τ ρ π γ) (f7_digestOfCells τ ρ π (f6_look τ ρ π γ) ((f7_digest_L17 τ ρ π (f6_look τ ρ π γ) 8589934592 58288 0).1))).2) 8589934592 ((f7_digestOfGrains τ π (f6_look τ ρ π γ) (f7_digestOfCells τ ρ π (f6_look τ ρ π γ) ((f7_digest_L17 τ ρ π (f6_look τ ρ π γ) 8589934592 58288 0).1))).1) 1).1) 0).1) 0).2.1))]) hx hb dX7_digest_166 rfl hl (by decide) rfl (fun ls hl => ?_)
  refine lv_lload_n hx hb dX7_digest_167 rfl (lv_at hl 0 rfl) ?_
  refine lv_ldc2 (v := 31) hx hb hown (htA _ kw_810) dX7_digest_168 ?_
  refine lv_lmul hx hb dX7_digest_171 ?_
  refine lv_aload_n hx hb dX7_digest_172 rfl (lv_at hl 1 rfl) ?_
  refine gX7_4 hx hb htA hown hK hP dX7_digest_173 ?_
  refine sy_cv (rest := [.long (((((f7_digest_L124 τ ρ π 8589934592 ((f7_digestOfGrains τ π (f6_look τ ρ π γ) (f7_digestOfCells τ ρ π (f6_look τ ρ π γ) ((f7_digest_L17 τ ρ π (f6_look τ ρ π γ) 8589934592 58288 0).1))).2) ((f7_digest_L89 τ ρ π ((f7_digestOfGrains τ π (f6_look τ ρ π γ) (f7_digestOfCells τ ρ π (f6_look τ ρ π γ) ((f7_digest_L17 τ ρ π (f6_look τ ρ π γ) 8589934592 58288 0).1))).2) 8589934592 ((f7_digest_L59 τ ρ π ((f7_digestOfGrains τ π (f6_look τ ρ π γ) (f7_digestOfCells τ ρ π (f6_look τ ρ π γ) ((f7_digest_L17 τ ρ π (f6_look τ ρ π γ) 8589934592 58288 0).1))).2) 8589934592 ((f7_digestOfGrains τ π (f6_look τ ρ π γ) (f7_digestOfCells τ ρ π (f6_look τ ρ π γ) ((f7_digest_L17 τ ρ π (f6_look τ ρ π γ) 8589934592 58288 0).1))).1) 1).1) 0).1) 0).1) * 31) + ((f3_nextOfRow π).toInt64)) * 31)]) C hK hN hP (m6_isAllSound l D cA ad τ ρ π ((f7_digest_L124 τ ρ π 8589934592 ((f7_digestOfGrains τ π (f6_look τ ρ π γ) (f7_digestOfCells τ ρ π (f6_look τ ρ π γ) ((f7_digest_L17 τ ρ π (f6_look τ ρ π γ) 8589934592 58288 0).1))).2) ((f7_digest_L89 τ ρ π ((f7_digestOfGrains τ π (f6_look τ ρ π γ) (f7_digestOfCells τ ρ π (f6_look τ ρ π γ) ((f7_digest_L17 τ ρ π (f6_look τ ρ π γ) 8589934592 58288 0).1))).2) 8589934592 ((f7_digest_L59 τ ρ π ((f7_digestOfGrains τ π (f6_look τ ρ π γ) (f7_digestOfCells τ ρ π (f6_look τ ρ π γ) ((f7_digest_L17 τ ρ π (f6_look τ ρ π γ) 8589934592 58288 0).1))).2) 8589934592 ((f7_digestOfGrains τ π (f6_look τ ρ π γ) (f7_digestOfCells τ ρ π (f6_look τ ρ π γ) ((f7_digest_L17 τ ρ π (f6_look τ ρ π γ) 8589934592 58288 0).1))).1) 1).1) 0).1) 0).2.2) hT) (4) 8 rfl rfl kw_828 kw_829 kw_830 kw_29 kw_831 hd_X6_isAllSound ⟨Nat.le_of_ble_eq_true rfl, Nat.le_of_ble_eq_true rfl⟩ rfl rfl rfl hl.1 rfl (Nat.le_of_ble_eq_true rfl) dX7_digest_176 ⟨Nat.zero_le _, Nat.zero_le _⟩ ?_
  refine lv_if_eq (tgt := 186) hx hb dX7_digest_179 (by decide) (fun c_5 => ?_) (fun c_5 => ?_)
  · refine lv_iconst (v := 0) hx hb dX7_digest_186 (by decide) ?_
    refine lv_i2l (v := (0 : Int32).toInt64) hx hb dX7_digest_187 rfl ?_
    refine lv_ladd hx hb dX7_digest_188 ?_
    have e9 : ((((((f7_digest_L124 τ ρ π 8589934592 ((f7_digestOfGrains τ π (f6_look τ ρ π γ) (f7_digestOfCells τ ρ π (f6_look τ ρ π γ) ((f7_digest_L17 τ ρ π (f6_look τ ρ π γ) 8589934592 58288 0).1))).2) ((f7_digest_L89 τ ρ π ((f7_digestOfGrains τ π (f6_look τ ρ π γ) (f7_digestOfCells τ ρ π (f6_look τ ρ π γ) ((f7_digest_L17 τ ρ π (f6_look τ ρ π γ) 8589934592 58288 0).1))).2) 8589934592 ((f7_digest_L59 τ ρ π ((f7_digestOfGrains τ π (f6_look τ ρ π γ) (f7_digestOfCells τ ρ π (f6_look τ ρ π γ) ((f7_digest_L17 τ ρ π (f6_look τ ρ π γ) 8589934592 58288 0).1))).2) 8589934592 ((f7_digestOfGrains τ π (f6_look τ ρ π γ) (f7_digestOfCells τ ρ π (f6_look τ ρ π γ) ((f7_digest_L17 τ ρ π (f6_look τ ρ π γ) 8589934592 58288 0).1))).1) 1).1) 0).1) 0).1) * 31) + ((f3_nextOfRow π).toInt64)) * 31) + ((0 : Int32).toInt64), ((f7_digest_L124 τ ρ π 8589934592 ((f7_digestOfGrains τ π (f6_look τ ρ π γ) (f7_digestOfCells τ ρ π (f6_look τ ρ π γ) ((f7_digest_L17 τ ρ π (f6_look τ ρ π γ) 8589934592 58288 0).1))).2) ((f7_digest_L89 τ ρ π ((f7_digestOfGrains τ π (f6_look τ ρ π γ) (f7_digestOfCells τ ρ π (f6_look τ ρ π γ) ((f7_digest_L17 τ ρ π (f6_look τ ρ π γ) 8589934592 58288 0).1))).2) 8589934592 ((f7_digest_L59 τ ρ π ((f7_digestOfGrains τ π (f6_look τ ρ π γ) (f7_digestOfCells τ ρ π (f6_look τ ρ π γ) ((f7_digest_L17 τ ρ π (f6_look τ ρ π γ) 8589934592 58288 0).1))).2) 8589934592 ((f7_digestOfGrains τ π (f6_look τ ρ π γ) (f7_digestOfCells τ ρ π (f6_look τ ρ π γ) ((f7_digest_L17 τ ρ π (f6_look τ ρ π γ) 8589934592 58288 0).1))).1) 1).1) 0).1) 0).2.2)) = f7_digest τ ρ π γ := by unfold f7_digest; (try rw [if_pos c_5])
    exact sy_retVL hx hb hr hlk hP hS (by rw [← e9]) (by rw [← e9]) dX7_digest_189
  · refine lv_iconst (v := 1) hx hb dX7_digest_182 (by decide) ?_
    refine lv_goto (tgt := 187) hx hb dX7_digest_183 (by decide) ?_
    refine lv_i2l (v := (1 : Int32).toInt64) hx hb dX7_digest_187 rfl ?_
    refine lv_ladd hx hb dX7_digest_188 ?_
    have e9 : ((((((f7_digest_L124 τ ρ π 8589934592 ((f7_digestOfGrains τ π (f6_look τ ρ π γ) (f7_digestOfCells τ ρ π (f6_look τ ρ π γ) ((f7_digest_L17 τ ρ π (f6_look τ ρ π γ) 8589934592 58288 0).1))).2) ((f7_digest_L89 τ ρ π ((f7_digestOfGrains τ π (f6_look τ ρ π γ) (f7_digestOfCells τ ρ π (f6_look τ ρ π γ) ((f7_digest_L17 τ ρ π (f6_look τ ρ π γ) 8589934592 58288 0).1))).2) 8589934592 ((f7_digest_L59 τ ρ π ((f7_digestOfGrains τ π (f6_look τ ρ π γ) (f7_digestOfCells τ ρ π (f6_look τ ρ π γ) ((f7_digest_L17 τ ρ π (f6_look τ ρ π γ) 8589934592 58288 0).1))).2) 8589934592 ((f7_digestOfGrains τ π (f6_look τ ρ π γ) (f7_digestOfCells τ ρ π (f6_look τ ρ π γ) ((f7_digest_L17 τ ρ π (f6_look τ ρ π γ) 8589934592 58288 0).1))).1) 1).1) 0).1) 0).1) * 31) + ((f3_nextOfRow π).toInt64)) * 31) + ((1 : Int32).toInt64), ((f7_digest_L124 τ ρ π 8589934592 ((f7_digestOfGrains τ π (f6_look τ ρ π γ) (f7_digestOfCells τ ρ π (f6_look τ ρ π γ) ((f7_digest_L17 τ ρ π (f6_look τ ρ π γ) 8589934592 58288 0).1))).2) ((f7_digest_L89 τ ρ π ((f7_digestOfGrains τ π (f6_look τ ρ π γ) (f7_digestOfCells τ ρ π (f6_look τ ρ π γ) ((f7_digest_L17 τ ρ π (f6_look τ ρ π γ) 8589934592 58288 0).1))).2) 8589934592 ((f7_digest_L59 τ ρ π ((f7_digestOfGrains τ π (f6_look τ ρ π γ) (f7_digestOfCells τ ρ π (f6_look τ ρ π γ) ((f7_digest_L17 τ ρ π (f6_look τ ρ π γ) 8589934592 58288 0).1))).2) 8589934592 ((f7_digestOfGrains τ π (f6_look τ ρ π γ) (f7_digestOfCells τ ρ π (f6_look τ ρ π γ) ((f7_digest_L17 τ ρ π (f6_look τ ρ π γ) 8589934592 58288 0).1))).1) 1).1) 0).1) 0).2.2)) = f7_digest τ ρ π γ := by unfold f7_digest; (try rw [if_neg c_5])
    exact sy_retVL hx hb hr hlk hP hS (by rw [← e9]) (by rw [← e9]) dX7_digest_189

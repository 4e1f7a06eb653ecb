/-- X3_easeAll -/
theorem hd_X3_easeAll : yX3_easeAll.cls = yX3_easeAll.cls ∧ yX3_easeAll.cls ≠ "java/lang/invoke/MethodHandle" ∧ yX3_easeAll.cls ≠ "java/lang/invoke/VarHandle" ∧ (parseMethodDescriptor yX3_easeAll.desc).map (fun d => d.parameters.length) = some 0 := by decide +kernel
def f3_easeAll_L2 (τ : Sg) : Nat → Sg → Int32 → Int32 × Sg
  | 0, π_2, x1 => (x1, π_2)
  | n + 1, π_2, x1 => (if (f5_cells τ) ≤ x1 then (x1, π_2) else (f3_easeAll_L2 τ n (f3_putWork π_2 x1 (if 0 < ((f3_workAt π_2 x1) - 1) then ((f3_workAt π_2 x1) - 1) else 0)) (x1 + 1)))
theorem f3_easeAll_L2_s (τ : Sg) (n : Nat) (π_2 : Sg) (x1 : Int32) : f3_easeAll_L2 τ (n + 1) π_2 x1 = (if (f5_cells τ) ≤ x1 then (x1, π_2) else (f3_easeAll_L2 τ n (f3_putWork π_2 x1 (if 0 < ((f3_workAt π_2 x1) - 1) then ((f3_workAt π_2 x1) - 1) else 0)) (x1 + 1))) := rfl
def f3_easeAll (τ : Sg) (π : Sg) : Sg := ((f3_easeAll_L2 τ 8589934592 π 0).2)
set_option maxHeartbeats 400000 in
set_option maxRecDepth 100000 in
theorem m3_easeAll (l : Launch) (D : va_G) (cA : ClassId) (ad : Nat → Nat) (had : Apart ad) (τ ρ π γ : Sg) : Met l yX3_easeAll (wM yX3_easeAll cX3_easeAll 2 none) ({ frames := 1, cells := 0, slots := 0, locals := 22 }) (va_Pc [.ref (ad 3)] (pS D cA ad τ ρ π γ)) (qV D cA ad τ ρ (f3_easeAll τ π) γ none) 0 0 (aS ad) := by
  refine sy_of (by decide) (Nat.le_of_ble_eq_true rfl) ?_
  intro p e s m below meth c ls C hr hlk hK hN hP hl
  obtain ⟨hx, hb, hml, hown, hts⟩ := id C
  have htA : ∀ w ∈ wA, w.before ([.ref (ad 3)] : List Value).toArray s = true := fun w h => hts w (List.mem_cons_of_mem _ h)
  have hl : lv_has ls 2 [(0, .ref (ad 3))] := hl
  have hS : va_S (aS ad) s.heap s.heap [] := va_S.rf
  refine lv_iconst (v := 0) hx hb dX3_easeAll_0 (by decide) ?_
  refine lv_istore_n (lv' := [(1, .int 0), (0, .ref (ad 3))]) hx hb dX3_easeAll_1 rfl hl (by decide) rfl (fun ls hl => ?_)
  have hL2 : ∀ (n : Nat) (π_2 : Sg) (x1 : Int32), nm x1 (f5_cells τ) < n → ∀ (H : Heap) (locs : List Loc), va_P D vwCl (wS cA ad τ ρ π_2 γ) H → va_S (aS ad) s.heap H locs → ∀ ls : Array Slot, lv_has ls 2 [(0, .ref (ad 3)), (1, .int x1)] → (∀ (H : Heap) (locs : List Loc), va_P D vwCl (wS cA ad τ ρ ((f3_easeAll_L2 τ n π_2 x1).2) γ) H → va_S (aS ad) s.heap H locs → ∀ ls : Array Slot, lv_has ls 2 [(0, .ref (ad 3)), (1, .int ((f3_easeAll_L2 τ n π_2 x1).1))] → W p l e ({ frames := 1, cells := 0, slots := 0, locals := 22 }) s m ([.ref (ad 3)] : List Value).toArray below meth c H locs 0 0 (MQ below (qV D cA ad τ ρ (f3_easeAll τ π) γ none) ([.ref (ad 3)] : List Value).toArray s 0 0 (aS ad)) (F0 m 35 ls [])) → W p l e ({ frames := 1, cells := 0, slots := 0, locals := 22 }) s m ([.ref (ad 3)] : List Value).toArray below meth c H locs 0 0 (MQ below (qV D cA ad τ ρ (f3_easeAll τ π) γ none) ([.ref (ad 3)] : List Value).toArray s 0 0 (aS ad)) (F0 m 2 ls []) := by
    intro  n
    induction n with
    | zero =>
      intro π_2 x1 hn
      exact absurd hn (Nat.not_lt_zero _)
    | succ n ih =>
      intro π_2 x1 hn H locs hP hS ls hl kk
      refine lv_iload_n hx hb dX3_easeAll_2 rfl (lv_at hl 1 rfl) ?_
      refine lv_aload_n hx hb dX3_easeAll_3 rfl (lv_at hl 0 rfl) ?_
      refine gX3_0 hx hb htA hown hK hP dX3_easeAll_4 ?_
      refine sy_cv (rest := [.int x1]) C hK hN hP (m5_cells l D cA ad τ ρ π_2 γ) (1) 7 rfl rfl kw_183 kw_184 kw_185 kw_16 kw_186 hd_X5_cells ⟨Nat.le_of_ble_eq_true rfl, Nat.le_of_ble_eq_true rfl⟩ rfl rfl rfl hl.1 rfl (Nat.le_of_ble_eq_true rfl) dX3_easeAll_7 ⟨Nat.zero_le _, Nat.zero_le _⟩ ?_
      refine lv_icmp_ge (tgt := 35) hx hb dX3_easeAll_10 (by decide) (fun c_1 => ?_) (fun c_1 => ?_)
      · have e9 : f3_easeAll_L2 τ (n + 1) π_2 x1 = (x1, π_2) := by rw [f3_easeAll_L2_s]; (try rw [if_pos c_1])
        rw [e9] at kk
        exact kk _ _ hP hS ls (lv_sub hl [0, 1] rfl)
      · refine lv_aload_n hx hb dX3_easeAll_13 rfl (lv_at hl 0 rfl) ?_
        refine lv_iload_n hx hb dX3_easeAll_14 rfl (lv_at hl 1 rfl) ?_
        refine lv_iconst (v := 0) hx hb dX3_easeAll_15 (by decide) ?_
        refine lv_aload_n hx hb dX3_easeAll_16 rfl (lv_at hl 0 rfl) ?_
        refine lv_iload_n hx hb dX3_easeAll_17 rfl (lv_at hl 1 rfl) ?_
        refine sy_cv (rest := [.int 0, .int x1, .ref (ad 3)]) C hK hN hP (m3_workAt l D cA ad τ ρ π_2 γ x1) (3) 5 rfl rfl kw_365 kw_273 kw_274 kw_24 kw_275 hd_X3_workAt ⟨Nat.le_of_ble_eq_true rfl, Nat.le_of_ble_eq_true rfl⟩ rfl rfl rfl hl.1 rfl (Nat.le_of_ble_eq_true rfl) dX3_easeAll_18 ⟨Nat.zero_le _, Nat.zero_le _⟩ ?_
        refine lv_iconst (v := 1) hx hb dX3_easeAll_21 (by decide) ?_
        refine lv_isub hx hb dX3_easeAll_22 ?_
        refine va_mmax hx hb (hml.trans hl.1.symm) hown (htA _ kw_500) (htA _ kw_458) (htA _ kw_162) (htA _ kw_459) (Nat.le_of_ble_eq_true rfl) (Nat.le_of_ble_eq_true rfl) (Nat.zero_le _) (Nat.zero_le _) dX3_easeAll_23 ?_
        refine sy_cvM (rest := []) (st1 := []) C hK hN hP (fun _ h => h) hS (m3_putWork l D cA ad had τ ρ π_2 γ x1 (if 0 < ((f3_workAt π_2 x1) - 1) then ((f3_workAt π_2 x1) - 1) else 0)) (3) 5 rfl rfl kw_487 kw_304 kw_305 kw_24 kw_306 hd_X3_putWork ⟨Nat.le_of_ble_eq_true rfl, Nat.le_of_ble_eq_true rfl⟩ rfl rfl rfl hl.1 rfl (Nat.le_of_ble_eq_true rfl) dX3_easeAll_26 ⟨Nat.zero_le _, Nat.zero_le _⟩ rfl (fun H locs hP hS => ?_)
        refine lv_iinc (v := x1 + 1) (lv' := [(1, .int (x1 + 1)), (0, .ref (ad 3))]) hx hb dX3_easeAll_29 hl (k := 1) rfl (by rfl) (by decide) rfl (fun ls hl => ?_)
        refine lv_goto (tgt := 2) hx hb dX3_easeAll_32 (by decide) ?_
        have e9 : f3_easeAll_L2 τ (n + 1) π_2 x1 = f3_easeAll_L2 τ n (f3_putWork π_2 x1 (if 0 < ((f3_workAt π_2 x1) - 1) then ((f3_workAt π_2 x1) - 1) else 0)) (x1 + 1) := by rw [f3_easeAll_L2_s]; (try rw [if_neg c_1])
        rw [e9] at kk
        exact ih (f3_putWork π_2 x1 (if 0 < ((f3_workAt π_2 x1) - 1) then ((f3_workAt π_2 x1) - 1) else 0)) (x1 + 1) (nm_dec (Int32.not_le.mp c_1) hn) _ _ hP hS ls (lv_sub hl [1, 0] rfl) kk
  refine hL2 8589934592 π 0 (nm_lt _ _) _ _ hP hS ls (lv_sub hl [1, 0] rfl) (fun H locs hP hS ls hl => ?_)
  have e9 : ((f3_easeAll_L2 τ 8589934592 π 0).2) = f3_easeAll τ π := rfl
  exact sy_retV hx hb hr hlk hP hS (by rw [← e9]) dX3_easeAll_35
/-- X3_rollOnce -/
theorem hd_X3_rollOnce : yX3_rollOnce.cls = yX3_rollOnce.cls ∧ yX3_rollOnce.cls ≠ "java/lang/invoke/MethodHandle" ∧ yX3_rollOnce.cls ≠ "java/lang/invoke/VarHandle" ∧ (parseMethodDescriptor yX3_rollOnce.desc).map (fun d => d.parameters.length) = some 0 := by decide +kernel
def f3_rollOnce_L2 (τ : Sg) : Nat → Sg → Int32 → Int32 × Sg
  | 0, π_2, x1 => (x1, π_2)
  | n + 1, π_2, x1 => (if (f5_cells τ) ≤ x1 then (x1, π_2) else (if (f3_markAt π_2 x1) = 0 then (f3_rollOnce_L2 τ n π_2 (x1 + 1)) else (if (f3_hardAt π_2 x1) = 1 then (f3_rollOnce_L2 τ n π_2 (x1 + 1)) else (if (if (((f3_workAt π_2 x1) + 1) + ((f3_markAt π_2 x1) - (f3_markAt π_2 x1) / 3 * 3)) < 20 then (((f3_workAt π_2 x1) + 1) + ((f3_markAt π_2 x1) - (f3_markAt π_2 x1) / 3 * 3)) else 20) ≤ 10 then (f3_rollOnce_L2 τ n (f3_putWork π_2 x1 (if (((f3_workAt π_2 x1) + 1) + ((f3_markAt π_2 x1) - (f3_markAt π_2 x1) / 3 * 3)) < 20 then (((f3_workAt π_2 x1) + 1) + ((f3_markAt π_2 x1) - (f3_markAt π_2 x1) / 3 * 3)) else 20)) (x1 + 1)) else (if (f3_markAt π_2 x1) = 9 then (f3_rollOnce_L2 τ n (f3_putMark (f3_putWork π_2 x1 (if (((f3_workAt π_2 x1) + 1) + ((f3_markAt π_2 x1) - (f3_markAt π_2 x1) / 3 * 3)) < 20 then (((f3_workAt π_2 x1) + 1) + ((f3_markAt π_2 x1) - (f3_markAt π_2 x1) / 3 * 3)) else 20)) x1 1) (x1 + 1)) else (f3_rollOnce_L2 τ n (f3_putMark (f3_putWork π_2 x1 (if (((f3_workAt π_2 x1) + 1) + ((f3_markAt π_2 x1) - (f3_markAt π_2 x1) / 3 * 3)) < 20 then (((f3_workAt π_2 x1) + 1) + ((f3_markAt π_2 x1) - (f3_markAt π_2 x1) / 3 * 3)) else 20)) x1 ((f3_markAt π_2 x1) + 1)) (x1 + 1)))))))
theorem f3_rollOnce_L2_s (τ : Sg) (n : Nat) (π_2 : Sg) (x1 : Int32) : f3_rollOnce_L2 τ (n + 1) π_2 x1 = (if (f5_cells τ) ≤ x1 then (x1, π_2) else (if (f3_markAt π_2 x1) = 0 then (f3_rollOnce_L2 τ n π_2 (x1 + 1)) else (if (f3_hardAt π_2 x1) = 1 then (f3_rollOnce_L2 τ n π_2 (x1 + 1)) else (if (if (((f3_workAt π_2 x1) + 1) + ((f3_markAt π_2 x1) - (f3_markAt π_2 x1) / 3 * 3)) < 20 then (((f3_workAt π_2 x1) + 1) + ((f3_markAt π_2 x1) - (f3_markAt π_2 x1) / 3 * 3)) else 20) ≤ 10 then (f3_rollOnce_L2 τ n (f3_putWork π_2 x1 (if (((f3_workAt π_2 x1) + 1) + ((f3_markAt π_2 x1) - (f3_markAt π_2 x1) / 3 * 3)) < 20 then (((f3_workAt π_2 x1) + 1) + ((f3_markAt π_2 x1) - (f3_markAt π_2 x1) / 3 * 3)) else 20)) (x1 + 1)) else (if (f3_markAt π_2 x1) = 9 then (f3_rollOnce_L2 τ n (f3_putMark (f3_putWork π_2 x1 (if (((f3_workAt π_2 x1) + 1) + ((f3_markAt π_2 x1) - (f3_markAt π_2 x1) / 3 * 3)) < 20 then (((f3_workAt π_2 x1) + 1) + ((f3_markAt π_2 x1) - (f3_markAt π_2 x1) / 3 * 3)) else 20)) x1 1) (x1 + 1)) else (f3_rollOnce_L2 τ n (f3_putMark (f3_putWork π_2 x1 (if (((f3_workAt π_2 x1) + 1) + ((f3_markAt π_2 x1) - (f3_markAt π_2 x1) / 3 * 3)) < 20 then (((f3_workAt π_2 x1) + 1) + ((f3_markAt π_2 x1) - (f3_markAt π_2 x1) / 3 * 3)) else 20)) x1 ((f3_markAt π_2 x1) + 1)) (x1 + 1))))))) := rfl
def f3_rollOnce (τ : Sg) (π : Sg) : Sg := ((f3_rollOnce_L2 τ 8589934592 π 0).2)
set_option maxHeartbeats 400000 in
set_option maxRecDepth 100000 in
theorem m3_rollOnce (l : Launch) (D : va_G) (cA : ClassId) (ad : Nat → Nat) (had : Apart ad) (τ ρ π γ : Sg) : Met l yX3_rollOnce (wM yX3_rollOnce cX3_rollOnce 4 none) ({ frames := 1, cells := 0, slots := 0, locals := 22 }) (va_Pc [.ref (ad 3)] (pS D cA ad τ ρ π γ)) (qV D cA ad τ ρ (f3_rollOnce τ π) γ none) 0 0 (aS ad) := by
  refine sy_of (by decide) (Nat.le_of_ble_eq_true rfl) ?_
  intro p e s m below meth c ls C hr hlk hK hN hP hl
  obtain ⟨hx, hb, hml, hown, hts⟩ := id C
  have htA : ∀ w ∈ wA, w.before ([.ref (ad 3)] : List Value).toArray s = true := fun w h => hts w (List.mem_cons_of_mem _ h)
  have hl : lv_has ls 4 [(0, .ref (ad 3))] := hl
  have hS : va_S (aS ad) s.heap s.heap [] := va_S.rf
  refine lv_iconst (v := 0) hx hb dX3_rollOnce_0 (by decide) ?_
  refine lv_istore_n (lv' := [(1, .int 0), (0, .ref (ad 3))]) hx hb dX3_rollOnce_1 rfl hl (by decide) rfl (fun ls hl => ?_)
  have hL2 : ∀ (n : Nat) (π_2 : Sg) (x1 : Int32), nm x1 (f5_cells τ) < n → ∀ (H : Heap) (locs : List Loc), va_P D vwCl (wS cA ad τ ρ π_2 γ) H → va_S (aS ad) s.heap H locs → ∀ ls : Array Slot, lv_has ls 4 [(0, .ref (ad 3)), (1, .int x1)] → (∀ (H : Heap) (locs : List Loc), va_P D vwCl (wS cA ad τ ρ ((f3_rollOnce_L2 τ n π_2 x1).2) γ) H → va_S (aS ad) s.heap H locs → ∀ ls : Array Slot, lv_has ls 4 [(0, .ref (ad 3)), (1, .int ((f3_rollOnce_L2 τ n π_2 x1).1))] → W p l e ({ frames := 1, cells := 0, slots := 0, locals := 22 }) s m ([.ref (ad 3)] : List Value).toArray below meth c H locs 0 0 (MQ below (qV D cA ad τ ρ (f3_rollOnce τ π) γ none) ([.ref (ad 3)] : List Value).toArray s 0 0 (aS ad)) (F0 m 88 ls [])) → W p l e ({ frames := 1, cells := 0, slots := 0, locals := 22 }) s m ([.ref (ad 3)] : List Value).toArray below meth c H locs 0 0 (MQ below (qV D cA ad τ ρ (f3_rollOnce τ π) γ none) ([.ref (ad 3)] : List Value).toArray s 0 0 (aS ad)) (F0 m 2 ls []) := by
    intro  n
    induction n with
    | zero =>
      intro π_2 x1 hn
      exact absurd hn (Nat.not_lt_zero _)
    | succ n ih =>
      intro π_2 x1 hn H locs hP hS ls hl kk
      refine lv_iload_n hx hb dX3_rollOnce_2 rfl (lv_at hl 1 rfl) ?_
      refine lv_aload_n hx hb dX3_rollOnce_3 rfl (lv_at hl 0 rfl) ?_
      refine gX3_0 hx hb htA hown hK hP dX3_rollOnce_4 ?_
      refine sy_cv (rest := [.int x1]) C hK hN hP (m5_cells l D cA ad τ ρ π_2 γ) (1) 7 rfl rfl kw_183 kw_184 kw_185 kw_16 kw_186 hd_X5_cells ⟨Nat.le_of_ble_eq_true rfl, Nat.le_of_ble_eq_true rfl⟩ rfl rfl rfl hl.1 rfl (Nat.le_of_ble_eq_true rfl) dX3_rollOnce_7 ⟨Nat.zero_le _, Nat.zero_le _⟩ ?_
      refine lv_icmp_ge (tgt := 88) hx hb dX3_rollOnce_10 (by decide) (fun c_1 => ?_) (fun c_1 => ?_)
      · have e9 : f3_rollOnce_L2 τ (n + 1) π_2 x1 = (x1, π_2) := by rw [f3_rollOnce_L2_s]; (try rw [if_pos c_1])
        rw [e9] at kk
        exact kk _ _ hP hS ls (lv_sub hl [0, 1] rfl)
      · refine lv_aload_n hx hb dX3_rollOnce_13 rfl (lv_at hl 0 rfl) ?_
        refine lv_iload_n hx hb dX3_rollOnce_14 rfl (lv_at hl 1 rfl) ?_
        refine sy_cv (rest := []) C hK hN hP (m3_markAt l D cA ad τ ρ π_2 γ x1) (3) 5 rfl rfl kw_292 kw_206 kw_207 kw_24 kw_208 hd_X3_markAt ⟨Nat.le_of_ble_eq_true rfl, Nat.le_of_ble_eq_true rfl⟩ rfl rfl rfl hl.1 rfl (Nat.le_of_ble_eq_true rfl) dX3_rollOnce_15 ⟨Nat.zero_le _, Nat.zero_le _⟩ ?_
        refine lv_istore_n (lv' := [(2, .int (f3_markAt π_2 x1)), (0, .ref (ad 3)), (1, .int x1)]) hx hb dX3_rollOnce_18 rfl hl (by decide) rfl (fun ls hl => ?_)
        refine lv_iload_n hx hb dX3_rollOnce_19 rfl (lv_at hl 0 rfl) ?_
        refine lv_if_eq (tgt := 82) hx hb dX3_rollOnce_20 (by decide) (fun c_2 => ?_) (fun c_2 => ?_)
        · refine lv_iinc (v := x1 + 1) (lv' := [(1, .int (x1 + 1)), (2, .int (f3_markAt π_2 x1)), (0, .ref (ad 3))]) hx hb dX3_rollOnce_82 hl (k := 2) rfl (by rfl) (by decide) rfl (fun ls hl => ?_)
          refine lv_goto (tgt := 2) hx hb dX3_rollOnce_85 (by decide) ?_
          have e9 : f3_rollOnce_L2 τ (n + 1) π_2 x1 = f3_rollOnce_L2 τ n π_2 (x1 + 1) := by rw [f3_rollOnce_L2_s]; (try rw [if_neg c_1]); (try rw [if_pos c_2])
          rw [e9] at kk
          exact ih π_2 (x1 + 1) (nm_dec (Int32.not_le.mp c_1) hn) _ _ hP hS ls (lv_sub hl [2, 0] rfl) kk
        · refine lv_aload_n hx hb dX3_rollOnce_23 rfl (lv_at hl 1 rfl) ?_
          refine lv_iload_n hx hb dX3_rollOnce_24 rfl (lv_at hl 2 rfl) ?_
          refine sy_cv (rest := []) C hK hN hP (m3_hardAt l D cA ad τ ρ π_2 γ x1) (3) 5 rfl rfl kw_364 kw_277 kw_278 kw_24 kw_279 hd_X3_hardAt ⟨Nat.le_of_ble_eq_true rfl, Nat.le_of_ble_eq_true rfl⟩ rfl rfl rfl hl.1 rfl (Nat.le_of_ble_eq_true rfl) dX3_rollOnce_25 ⟨Nat.zero_le _, Nat.zero_le _⟩ ?_
          refine lv_iconst (v := 1) hx hb dX3_rollOnce_28 (by decide) ?_
          refine lv_icmp_ne (tgt := 35) hx hb dX3_rollOnce_29 (by decide) (fun c_3 => ?_) (fun c_3 => ?_)
          · refine lv_bipush (v := 20) hx hb dX3_rollOnce_35 (by decide) ?_
            refine lv_aload_n hx hb dX3_rollOnce_37 rfl (lv_at hl 1 rfl) ?_
            refine lv_iload_n hx hb dX3_rollOnce_38 rfl (lv_at hl 2 rfl) ?_
            refine sy_cv (rest := [.int 20]) C hK hN hP (m3_workAt l D cA ad τ ρ π_2 γ x1) (3) 5 rfl rfl kw_365 kw_273 kw_274 kw_24 kw_275 hd_X3_workAt ⟨Nat.le_of_ble_eq_true rfl, Nat.le_of_ble_eq_true rfl⟩ rfl rfl rfl hl.1 rfl (Nat.le_of_ble_eq_true rfl) dX3_rollOnce_39 ⟨Nat.zero_le _, Nat.zero_le _⟩ ?_
            refine lv_iconst (v := 1) hx hb dX3_rollOnce_42 (by decide) ?_
            refine lv_iadd hx hb dX3_rollOnce_43 ?_
            refine lv_iload_n hx hb dX3_rollOnce_44 rfl (lv_at hl 0 rfl) ?_
            refine lv_iconst (v := 3) hx hb dX3_rollOnce_45 (by decide) ?_
            refine lv_irem hx hb dX3_rollOnce_46 (by decide) ?_
            refine lv_iadd hx hb dX3_rollOnce_47 ?_
            refine va_mmin hx hb (hml.trans hl.1.symm) hown (htA _ kw_509) (htA _ kw_161) (htA _ kw_162) (htA _ kw_163) (Nat.le_of_ble_eq_true rfl) (Nat.le_of_ble_eq_true rfl) (Nat.zero_le _) (Nat.zero_le _) dX3_rollOnce_48 ?_
            refine lv_istore_n (lv' := [(3, .int (if (((f3_workAt π_2 x1) + 1) + ((f3_markAt π_2 x1) - (f3_markAt π_2 x1) / 3 * 3)) < 20 then (((f3_workAt π_2 x1) + 1) + ((f3_markAt π_2 x1) - (f3_markAt π_2 x1) / 3 * 3)) else 20)), (2, .int (f3_markAt π_2 x1)), (0, .ref (ad 3)), (1, .int x1)]) hx hb dX3_rollOnce_51 rfl hl (by decide) rfl (fun ls hl => ?_)
            refine lv_aload_n hx hb dX3_rollOnce_52 rfl (lv_at hl 2 rfl) ?_
            refine lv_iload_n hx hb dX3_rollOnce_53 rfl (lv_at hl 3 rfl) ?_
            refine lv_iload_n hx hb dX3_rollOnce_54 rfl (lv_at hl 0 rfl) ?_
            refine sy_cvM (rest := []) (st1 := []) C hK hN hP (fun _ h => h) hS (m3_putWork l D cA ad had τ ρ π_2 γ x1 (if (((f3_workAt π_2 x1) + 1) + ((f3_markAt π_2 x1) - (f3_markAt π_2 x1) / 3 * 3)) < 20 then (((f3_workAt π_2 x1) + 1) + ((f3_markAt π_2 x1) - (f3_markAt π_2 x1) / 3 * 3)) else 20)) (3) 5 rfl rfl kw_487 kw_304 kw_305 kw_24 kw_306 hd_X3_putWork ⟨Nat.le_of_ble_eq_true rfl, Nat.le_of_ble_eq_true rfl⟩ rfl rfl rfl hl.1 rfl (Nat.le_of_ble_eq_true rfl) dX3_rollOnce_55 ⟨Nat.zero_le _, Nat.zero_le _⟩ rfl (fun H locs hP hS => ?_)
            refine lv_iload_n hx hb dX3_rollOnce_58 rfl (lv_at hl 0 rfl) ?_
            refine lv_bipush (v := 10) hx hb dX3_rollOnce_59 (by decide) ?_
            refine lv_icmp_le (tgt := 82) hx hb dX3_rollOnce_61 (by decide) (fun c_4 => ?_) (fun c_4 => ?_)
            · refine lv_iinc (v := x1 + 1) (lv' := [(1, .int (x1 + 1)), (3, .int (if (((f3_workAt π_2 x1) + 1) + ((f3_markAt π_2 x1) - (f3_markAt π_2 x1) / 3 * 3)) < 20 then (((f3_workAt π_2 x1) + 1) + ((f3_markAt π_2 x1) - (f3_markAt π_2 x1) / 3 * 3)) else 20)), (2, .int (f3_markAt π_2 x1)), (0, .ref (ad 3))]) hx hb dX3_rollOnce_82 hl (k := 3) rfl (by rfl) (by decide) rfl (fun ls hl => ?_)
              refine lv_goto (tgt := 2) hx hb dX3_rollOnce_85 (by decide) ?_
              have e9 : f3_rollOnce_L2 τ (n + 1) π_2 x1 = f3_rollOnce_L2 τ n (f3_putWork π_2 x1 (if (((f3_workAt π_2 x1) + 1) + ((f3_markAt π_2 x1) - (f3_markAt π_2 x1) / 3 * 3)) < 20 then (((f3_workAt π_2 x1) + 1) + ((f3_markAt π_2 x1) - (f3_markAt π_2 x1) / 3 * 3)) else 20)) (x1 + 1) := by rw [f3_rollOnce_L2_s]; (try rw [if_neg c_1]); (try rw [if_neg c_2]); (try rw [if_neg c_3]); (try rw [if_pos c_4])
              rw [e9] at kk
              exact ih (f3_putWork π_2 x1 (if (((f3_workAt π_2 x1) + 1) + ((f3_markAt π_2 x1) - (f3_markAt π_2 x1) / 3 * 3)) < 20 then (((f3_workAt π_2 x1) + 1) + ((f3_markAt π_2 x1) - (f3_markAt π_2 x1) / 3 * 3)) else 20)) (x1 + 1) (nm_dec (Int32.not_le.mp c_1) hn) _ _ hP hS ls (lv_sub hl [3, 0] rfl) kk
            · refine lv_aload_n hx hb dX3_rollOnce_64 rfl (lv_at hl 2 rfl) ?_
              refine lv_iload_n hx hb dX3_rollOnce_65 rfl (lv_at hl 3 rfl) ?_
              refine lv_iload_n hx hb dX3_rollOnce_66 rfl (lv_at hl 1 rfl) ?_
              refine lv_bipush (v := 9) hx hb dX3_rollOnce_67 (by decide) ?_
              refine lv_icmp_ne (tgt := 76) hx hb dX3_rollOnce_69 (by decide) (fun c_5 => ?_) (fun c_5 => ?_)
              · refine lv_iload_n hx hb dX3_rollOnce_76 rfl (lv_at hl 1 rfl) ?_
                refine lv_iconst (v := 1) hx hb dX3_rollOnce_77 (by decide) ?_
                refine lv_iadd hx hb dX3_rollOnce_78 ?_
                refine sy_cvM (rest := []) (st1 := []) C hK hN hP (fun _ h => h) hS (m3_putMark l D cA ad had τ ρ (f3_putWork π_2 x1 (if (((f3_workAt π_2 x1) + 1) + ((f3_markAt π_2 x1) - (f3_markAt π_2 x1) / 3 * 3)) < 20 then (((f3_workAt π_2 x1) + 1) + ((f3_markAt π_2 x1) - (f3_markAt π_2 x1) / 3 * 3)) else 20)) γ x1 ((f3_markAt π_2 x1) + 1)) (3) 5 rfl rfl kw_191 kw_192 kw_193 kw_24 kw_194 hd_X3_putMark ⟨Nat.le_of_ble_eq_true rfl, Nat.le_of_ble_eq_true rfl⟩ rfl rfl rfl hl.1 rfl (Nat.le_of_ble_eq_true rfl) dX3_rollOnce_79 ⟨Nat.zero_le _, Nat.zero_le _⟩ rfl (fun H locs hP hS => ?_)
                refine lv_iinc (v := x1 + 1) (lv' := [(1, .int (x1 + 1)), (3, .int (if (((f3_workAt π_2 x1) + 1) + ((f3_markAt π_2 x1) - (f3_markAt π_2 x1) / 3 * 3)) < 20 then (((f3_workAt π_2 x1) + 1) + ((f3_markAt π_2 x1) - (f3_markAt π_2 x1) / 3 * 3)) else 20)), (2, .int (f3_markAt π_2 x1)), (0, .ref (ad 3))]) hx hb dX3_rollOnce_82 hl (k := 3) rfl (by rfl) (by decide) rfl (fun ls hl => ?_)
                refine lv_goto (tgt := 2) hx hb dX3_rollOnce_85 (by decide) ?_
                have e9 : f3_rollOnce_L2 τ (n + 1) π_2 x1 = f3_rollOnce_L2 τ n (f3_putMark (f3_putWork π_2 x1 (if (((f3_workAt π_2 x1) + 1) + ((f3_markAt π_2 x1) - (f3_markAt π_2 x1) / 3 * 3)) < 20 then (((f3_workAt π_2 x1) + 1) + ((f3_markAt π_2 x1) - (f3_markAt π_2 x1) / 3 * 3)) else 20)) x1 ((f3_markAt π_2 x1) + 1)) (x1 + 1) := by rw [f3_rollOnce_L2_s]; (try rw [if_neg c_1]); (try rw [if_neg c_2]); (try rw [if_neg c_3]); (try rw [if_neg c_4]); (try rw [if_neg c_5])
                rw [e9] at kk
                exact ih (f3_putMark (f3_putWork π_2 x1 (if (((f3_workAt π_2 x1) + 1) + ((f3_markAt π_2 x1) - (f3_markAt π_2 x1) / 3 * 3)) < 20 then (((f3_workAt π_2 x1) + 1) + ((f3_markAt π_2 x1) - (f3_markAt π_2 x1) / 3 * 3)) else 20)) x1 ((f3_markAt π_2 x1) + 1)) (x1 + 1) (nm_dec (Int32.not_le.mp c_1) hn) _ _ hP hS ls (lv_sub hl [3, 0] rfl) kk
              · refine lv_iconst (v := 1) hx hb dX3_rollOnce_72 (by decide) ?_
                refine lv_goto (tgt := 79) hx hb dX3_rollOnce_73 (by decide) ?_
                refine sy_cvM (rest := []) (st1 := []) C hK hN hP (fun _ h => h) hS (m3_putMark l D cA ad had τ ρ (f3_putWork π_2 x1 (if (((f3_workAt π_2 x1) + 1) + ((f3_markAt π_2 x1) - (f3_markAt π_2 x1) / 3 * 3)) < 20 then (((f3_workAt π_2 x1) + 1) + ((f3_markAt π_2 x1) - (f3_markAt π_2 x1) / 3 * 3)) else 20)) γ x1 1) (3) 5 rfl rfl kw_191 kw_192 kw_193 kw_24 kw_194 hd_X3_putMark ⟨Nat.le_of_ble_eq_true rfl, Nat.le_of_ble_eq_true rfl⟩ rfl rfl rfl hl.1 rfl (Nat.le_of_ble_eq_true rfl) dX3_rollOnce_79 ⟨Nat.zero_le _, Nat.zero_le _⟩ rfl (fun H locs hP hS => ?_)
                refine lv_iinc (v := x1 + 1) (lv' := [(1, .int (x1 + 1)), (3, .int (if (((f3_workAt π_2 x1) + 1) + ((f3_markAt π_2 x1) - (f3_markAt π_2 x1) / 3 * 3)) < 20 then (((f3_workAt π_2 x1) + 1) + ((f3_markAt π_2 x1) - (f3_markAt π_2 x1) / 3 * 3)) else 20)), (2, .int (f3_markAt π_2 x1)), (0, .ref (ad 3))]) hx hb dX3_rollOnce_82 hl (k := 3) rfl (by rfl) (by decide) rfl (fun ls hl => ?_)
                refine lv_goto (tgt := 2) hx hb dX3_rollOnce_85 (by decide) ?_
                have e9 : f3_rollOnce_L2 τ (n + 1) π_2 x1 = f3_rollOnce_L2 τ n (f3_putMark (f3_putWork π_2 x1 (if (((f3_workAt π_2 x1) + 1) + ((f3_markAt π_2 x1) - (f3_markAt π_2 x1) / 3 * 3)) < 20 then (((f3_workAt π_2 x1) + 1) + ((f3_markAt π_2 x1) - (f3_markAt π_2 x1) / 3 * 3)) else 20)) x1 1) (x1 + 1) := by rw [f3_rollOnce_L2_s]; (try rw [if_neg c_1]); (try rw [if_neg c_2]); (try rw [if_neg c_3]); (try rw [if_neg c_4]); (try rw [if_pos c_5])
                rw [e9] at kk
                exact ih (f3_putMark (f3_putWork π_2 x1 (if (((f3_workAt π_2 x1) + 1) + ((f3_markAt π_2 x1) - (f3_markAt π_2 x1) / 3 * 3)) < 20 then (((f3_workAt π_2 x1) + 1) + ((f3_markAt π_2 x1) - (f3_markAt π_2 x1) / 3 * 3)) else 20)) x1 1) (x1 + 1) (nm_dec (Int32.not_le.mp c_1) hn) _ _ hP hS ls (lv_sub hl [3, 0] rfl) kk
          · refine lv_goto (tgt := 82) hx hb dX3_rollOnce_32 (by decide) ?_
            refine lv_iinc (v := x1 + 1) (lv' := [(1, .int (x1 + 1)), (2, .int (f3_markAt π_2 x1)), (0, .ref (ad 3))]) hx hb dX3_rollOnce_82 hl (k := 2) rfl (by rfl) (by decide) rfl (fun ls hl => ?_)
            refine lv_goto (tgt := 2) hx hb dX3_rollOnce_85 (by decide) ?_
            have e9 : f3_rollOnce_L2 τ (n + 1) π_2 x1 = f3_rollOnce_L2 τ n π_2 (x1 + 1) := by rw [f3_rollOnce_L2_s]; (try rw [if_neg c_1]); (try rw [if_neg c_2]); (try rw [if_pos c_3])
            rw [e9] at kk
            exact ih π_2 (x1 + 1) (nm_dec (Int32.not_le.mp c_1) hn) _ _ hP hS ls (lv_sub hl [2, 0] rfl) kk
  refine hL2 8589934592 π 0 (nm_lt _ _) _ _ hP hS ls (lv_sub hl [1, 0] rfl) (fun H locs hP hS ls hl => ?_)
  have e9 : ((f3_rollOnce_L2 τ 8589934592 π 0).2) = f3_rollOnce τ π := rfl
  exact sy_retV hx hb hr hlk hP hS (by rw [← e9]) dX3_rollOnce_88
/-- X3_meltOne -/
theorem hd_X3_meltOne : yX3_meltOne.cls = yX3_meltOne.cls ∧ yX3_meltOne.cls ≠ "java/lang/invoke/MethodHandle" ∧ yX3_meltOne.cls ≠ "java/lang/invoke/VarHandle" ∧ (parseMethodDescriptor yX3_meltOne.desc).map (fun d => d.parameters.length) = some 0 := by decide +kernel
def f3_meltOne_L2 (τ : Sg) : Nat → Sg → Int32 → (Sg) ⊕ (Int32 × Sg)
  | 0, π_2, x1 => .inr (x1, π_2)
  | n + 1, π_2, x1 => (if (f5_cells τ) ≤ x1 then .inr (x1, π_2) else (if (f3_markAt π_2 x1) = 0 then (if (f3_firstMarkBeside τ π_2 x1) = 0 then (f3_meltOne_L2 τ n π_2 (x1 + 1)) else .inl (f3_putWork (f3_putMark π_2 x1 (f3_firstMarkBeside τ π_2 x1)) x1 0)) else (f3_meltOne_L2 τ n π_2 (x1 + 1))))
theorem f3_meltOne_L2_s (τ : Sg) (n : Nat) (π_2 : Sg) (x1 : Int32) : f3_meltOne_L2 τ (n + 1) π_2 x1 = (if (f5_cells τ) ≤ x1 then .inr (x1, π_2) else (if (f3_markAt π_2 x1) = 0 then (if (f3_firstMarkBeside τ π_2 x1) = 0 then (f3_meltOne_L2 τ n π_2 (x1 + 1)) else .inl (f3_putWork (f3_putMark π_2 x1 (f3_firstMarkBeside τ π_2 x1)) x1 0)) else (f3_meltOne_L2 τ n π_2 (x1 + 1)))) := rfl
def f3_meltOne (τ : Sg) (π : Sg) : Sg := (match f3_meltOne_L2 τ 8589934592 π 0 with | .inl r => r | .inr t => t.2)
set_option maxHeartbeats 400000 in
set_option maxRecDepth 100000 in
theorem m3_meltOne (l : Launch) (D : va_G) (cA : ClassId) (ad : Nat → Nat) (had : Apart ad) (τ ρ π γ : Sg) (hT : Ok τ) : Met l yX3_meltOne (wM yX3_meltOne cX3_meltOne 3 none) ({ frames := 2, cells := 0, slots := 0, locals := 45 }) (va_Pc [.ref (ad 3)] (pS D cA ad τ ρ π γ)) (qV D cA ad τ ρ (f3_meltOne τ π) γ none) 0 0 (aS ad) := by
  refine sy_of (by decide) (Nat.le_of_ble_eq_true rfl) ?_
  intro p e s m below meth c ls C hr hlk hK hN hP hl
  obtain ⟨hx, hb, hml, hown, hts⟩ := id C
  have htA : ∀ w ∈ wA, w.before ([.ref (ad 3)] : List Value).toArray s = true := fun w h => hts w (List.mem_cons_of_mem _ h)
  have hl : lv_has ls 3 [(0, .ref (ad 3))] := hl
  have hS : va_S (aS ad) s.heap s.heap [] := va_S.rf
  refine lv_iconst (v := 0) hx hb dX3_meltOne_0 (by decide) ?_
  refine lv_istore_n (lv' := [(1, .int 0), (0, .ref (ad 3))]) hx hb dX3_meltOne_1 rfl hl (by decide) rfl (fun ls hl => ?_)
  have hL2 : ∀ (n : Nat) (π_2 : Sg) (x1 : Int32), nm x1 (f5_cells τ) < n → ∀ (H : Heap) (locs : List Loc), va_P D vwCl (wS cA ad τ ρ π_2 γ) H → va_S (aS ad) s.heap H locs → ∀ ls : Array Slot, lv_has ls 3 [(0, .ref (ad 3)), (1, .int x1)] → (∀ t, f3_meltOne_L2 τ n π_2 x1 = .inr t → ∀ (H : Heap) (locs : List Loc), va_P D vwCl (wS cA ad τ ρ t.2 γ) H → va_S (aS ad) s.heap H locs → ∀ ls : Array Slot, lv_has ls 3 [(0, .ref (ad 3)), (1, .int t.1)] → W p l e ({ frames := 2, cells := 0, slots := 0, locals := 45 }) s m ([.ref (ad 3)] : List Value).toArray below meth c H locs 0 0 (MQ below (qV D cA ad τ ρ (f3_meltOne τ π) γ none) ([.ref (ad 3)] : List Value).toArray s 0 0 (aS ad)) (F0 m 54 ls [])) → (∀ r, f3_meltOne_L2 τ n π_2 x1 = .inl r → r = f3_meltOne τ π) → W p l e ({ frames := 2, cells := 0, slots := 0, locals := 45 }) s m ([.ref (ad 3)] : List Value).toArray below meth c H locs 0 0 (MQ below (qV D cA ad τ ρ (f3_meltOne τ π) γ none) ([.ref (ad 3)] : List Value).toArray s 0 0 (aS ad)) (F0 m 2 ls []) := by
    intro  n
    induction n with
    | zero =>
      intro π_2 x1 hn
      exact absurd hn (Nat.not_lt_zero _)
    | succ n ih =>
      intro π_2 x1 hn H locs hP hS ls hl kk kr
      refine lv_iload_n hx hb dX3_meltOne_2 rfl (lv_at hl 1 rfl) ?_
      refine lv_aload_n hx hb dX3_meltOne_3 rfl (lv_at hl 0 rfl) ?_
      refine gX3_0 hx hb htA hown hK hP dX3_meltOne_4 ?_
      refine sy_cv (rest := [.int x1]) C hK hN hP (m5_cells l D cA ad τ ρ π_2 γ) (1) 7 rfl rfl kw_183 kw_184 kw_185 kw_16 kw_186 hd_X5_cells ⟨Nat.le_of_ble_eq_true rfl, Nat.le_of_ble_eq_true rfl⟩ rfl rfl rfl hl.1 rfl (Nat.le_of_ble_eq_true rfl) dX3_meltOne_7 ⟨Nat.zero_le _, Nat.zero_le _⟩ ?_
      refine lv_icmp_ge (tgt := 54) hx hb dX3_meltOne_10 (by decide) (fun c_1 => ?_) (fun c_1 => ?_)
      · have e9 : f3_meltOne_L2 τ (n + 1) π_2 x1 = .inr (x1, π_2) := by rw [f3_meltOne_L2_s]; (try rw [if_pos c_1])
        exact kk _ e9 _ _ hP hS ls (lv_sub hl [0, 1] rfl)
      · refine lv_aload_n hx hb dX3_meltOne_13 rfl (lv_at hl 0 rfl) ?_
        refine lv_iload_n hx hb dX3_meltOne_14 rfl (lv_at hl 1 rfl) ?_
        refine sy_cv (rest := []) C hK hN hP (m3_markAt l D cA ad τ ρ π_2 γ x1) (3) 5 rfl rfl kw_292 kw_206 kw_207 kw_24 kw_208 hd_X3_markAt ⟨Nat.le_of_ble_eq_true rfl, Nat.le_of_ble_eq_true rfl⟩ rfl rfl rfl hl.1 rfl (Nat.le_of_ble_eq_true rfl) dX3_meltOne_15 ⟨Nat.zero_le _, Nat.zero_le _⟩ ?_
        refine lv_if_ne (tgt := 29) hx hb dX3_meltOne_18 (by decide) (fun c_2 => ?_) (fun c_2 => ?_)
        · refine lv_iconst (v := 0) hx hb dX3_meltOne_29 (by decide) ?_
          refine lv_istore_n (lv' := [(2, .int 0), (0, .ref (ad 3)), (1, .int x1)]) hx hb dX3_meltOne_30 rfl hl (by decide) rfl (fun ls hl => ?_)
          refine lv_iload_n hx hb dX3_meltOne_31 rfl (lv_at hl 0 rfl) ?_
          refine lv_if_eq (tgt := 48) hx hb dX3_meltOne_32 (by decide) (fun c_3 => ?_) (fun c_3 => ?_)
          · refine lv_iinc (v := x1 + 1) (lv' := [(1, .int (x1 + 1)), (2, .int 0), (0, .ref (ad 3))]) hx hb dX3_meltOne_48 hl (k := 2) rfl (by rfl) (by decide) rfl (fun ls hl => ?_)
            refine lv_goto (tgt := 2) hx hb dX3_meltOne_51 (by decide) ?_
            have e9 : f3_meltOne_L2 τ (n + 1) π_2 x1 = f3_meltOne_L2 τ n π_2 (x1 + 1) := by rw [f3_meltOne_L2_s]; (try rw [if_neg c_1]); (try rw [if_neg c_2]); (try rw [if_pos c_3])
            rw [e9] at kk
            rw [e9] at kr
            exact ih π_2 (x1 + 1) (nm_dec (Int32.not_le.mp c_1) hn) _ _ hP hS ls (lv_sub hl [2, 0] rfl) kk kr
          · exact absurd c_3 (by decide)
        · refine lv_aload_n hx hb dX3_meltOne_21 rfl (lv_at hl 0 rfl) ?_
          refine lv_iload_n hx hb dX3_meltOne_22 rfl (lv_at hl 1 rfl) ?_
          refine sy_cv (rest := []) C hK hN hP (m3_firstMarkBeside l D cA ad τ ρ π_2 γ hT x1) (3) 5 rfl rfl kw_492 kw_493 kw_494 kw_24 kw_495 hd_X3_firstMarkBeside ⟨Nat.le_of_ble_eq_true rfl, Nat.le_of_ble_eq_true rfl⟩ rfl rfl rfl hl.1 rfl (Nat.le_of_ble_eq_true rfl) dX3_meltOne_23 ⟨Nat.zero_le _, Nat.zero_le _⟩ ?_
          refine lv_goto (tgt := 30) hx hb dX3_meltOne_26 (by decide) ?_
          refine lv_istore_n (lv' := [(2, .int (f3_firstMarkBeside τ π_2 x1)), (0, .ref (ad 3)), (1, .int x1)]) hx hb dX3_meltOne_30 rfl hl (by decide) rfl (fun ls hl => ?_)
          refine lv_iload_n hx hb dX3_meltOne_31 rfl (lv_at hl 0 rfl) ?_
          refine lv_if_eq (tgt := 48) hx hb dX3_meltOne_32 (by decide) (fun c_4 => ?_) (fun c_4 => ?_)
          · refine lv_iinc (v := x1 + 1) (lv' := [(1, .int (x1 + 1)), (2, .int (f3_firstMarkBeside τ π_2 x1)), (0, .ref (ad 3))]) hx hb dX3_meltOne_48 hl (k := 2) rfl (by rfl) (by decide) rfl (fun ls hl => ?_)
            refine lv_goto (tgt := 2) hx hb dX3_meltOne_51 (by decide) ?_
            have e9 : f3_meltOne_L2 τ (n + 1) π_2 x1 = f3_meltOne_L2 τ n π_2 (x1 + 1) := by rw [f3_meltOne_L2_s]; (try rw [if_neg c_1]); (try rw [if_pos c_2]); (try rw [if_pos c_4])
            rw [e9] at kk
            rw [e9] at kr
            exact ih π_2 (x1 + 1) (nm_dec (Int32.not_le.mp c_1) hn) _ _ hP hS ls (lv_sub hl [2, 0] rfl) kk kr
          · refine lv_aload_n hx hb dX3_meltOne_35 rfl (lv_at hl 1 rfl) ?_
            refine lv_iload_n hx hb dX3_meltOne_36 rfl (lv_at hl 2 rfl) ?_
            refine lv_iload_n hx hb dX3_meltOne_37 rfl (lv_at hl 0 rfl) ?_
            refine sy_cvM (rest := []) (st1 := []) C hK hN hP (fun _ h => h) hS (m3_putMark l D cA ad had τ ρ π_2 γ x1 (f3_firstMarkBeside τ π_2 x1)) (3) 5 rfl rfl kw_191 kw_192 kw_193 kw_24 kw_194 hd_X3_putMark ⟨Nat.le_of_ble_eq_true rfl, Nat.le_of_ble_eq_true rfl⟩ rfl rfl rfl hl.1 rfl (Nat.le_of_ble_eq_true rfl) dX3_meltOne_38 ⟨Nat.zero_le _, Nat.zero_le _⟩ rfl (fun H locs hP hS => ?_)
            refine lv_aload_n hx hb dX3_meltOne_41 rfl (lv_at hl 1 rfl) ?_
            refine lv_iload_n hx hb dX3_meltOne_42 rfl (lv_at hl 2 rfl) ?_
            refine lv_iconst (v := 0) hx hb dX3_meltOne_43 (by decide) ?_
            refine sy_cvM (rest := []) (st1 := []) C hK hN hP (fun _ h => h) hS (m3_putWork l D cA ad had τ ρ (f3_putMark π_2 x1 (f3_firstMarkBeside τ π_2 x1)) γ x1 0) (3) 5 rfl rfl kw_487 kw_304 kw_305 kw_24 kw_306 hd_X3_putWork ⟨Nat.le_of_ble_eq_true rfl, Nat.le_of_ble_eq_true rfl⟩ rfl rfl rfl hl.1 rfl (Nat.le_of_ble_eq_true rfl) dX3_meltOne_44 ⟨Nat.zero_le _, Nat.zero_le _⟩ rfl (fun H locs hP hS => ?_)
            have e9 : f3_meltOne_L2 τ (n + 1) π_2 x1 = .inl (f3_putWork (f3_putMark π_2 x1 (f3_firstMarkBeside τ π_2 x1)) x1 0) := by rw [f3_meltOne_L2_s]; (try rw [if_neg c_1]); (try rw [if_pos c_2]); (try rw [if_neg c_4])
            exact sy_retV hx hb hr hlk hP hS (by rw [← (kr _ e9)]) dX3_meltOne_47
  refine hL2 8589934592 π 0 (nm_lt _ _) _ _ hP hS ls (lv_sub hl [1, 0] rfl) (fun t ht_4 H locs hP hS ls hl => ?_) (fun r ht_4 => ?_)
  · have e9 : t.2 = f3_meltOne τ π := by unfold f3_meltOne; (try rw [ht_4])
    exact sy_retV hx hb hr hlk hP hS (by rw [← e9]) dX3_meltOne_54
  · unfold f3_meltOne; (try rw [ht_4])
/-- X3_tryOne -/
theorem hd_X3_tryOne : yX3_tryOne.cls = yX3_tryOne.cls ∧ yX3_tryOne.cls ≠ "java/lang/invoke/MethodHandle" ∧ yX3_tryOne.cls ≠ "java/lang/invoke/VarHandle" ∧ (parseMethodDescriptor yX3_tryOne.desc).map (fun d => d.parameters.length) = some 1 := by decide +kernel
def f3_tryOne (τ : Sg) (ρ : Sg) (π : Sg) (a1 : Int32) : Int32 × Sg := (if (f3_markAt ((f3_drawBelow ((f3_drawBelow π (f5_cells τ)).2) (f5_besideMany τ ((f3_drawBelow π (f5_cells τ)).1))).2) (f5_beside τ ((f3_drawBelow π (f5_cells τ)).1) ((f3_drawBelow ((f3_drawBelow π (f5_cells τ)).2) (f5_besideMany τ ((f3_drawBelow π (f5_cells τ)).1))).1))) = 0 then (0, ((f3_drawBelow ((f3_drawBelow π (f5_cells τ)).2) (f5_besideMany τ ((f3_drawBelow π (f5_cells τ)).1))).2)) else (if (f3_markAt ((f3_drawBelow ((f3_drawBelow π (f5_cells τ)).2) (f5_besideMany τ ((f3_drawBelow π (f5_cells τ)).1))).2) ((f3_drawBelow π (f5_cells τ)).1)) = 0 then (0, ((f3_drawBelow ((f3_drawBelow π (f5_cells τ)).2) (f5_besideMany τ ((f3_drawBelow π (f5_cells τ)).1))).2)) else (if (f3_markAt ((f3_drawBelow ((f3_drawBelow π (f5_cells τ)).2) (f5_besideMany τ ((f3_drawBelow π (f5_cells τ)).1))).2) (f5_beside τ ((f3_drawBelow π (f5_cells τ)).1) ((f3_drawBelow ((f3_drawBelow π (f5_cells τ)).2) (f5_besideMany τ ((f3_drawBelow π (f5_cells τ)).1))).1))) = (f3_markAt ((f3_drawBelow ((f3_drawBelow π (f5_cells τ)).2) (f5_besideMany τ ((f3_drawBelow π (f5_cells τ)).1))).2) ((f3_drawBelow π (f5_cells τ)).1)) then (0, ((f3_drawBelow ((f3_drawBelow π (f5_cells τ)).2) (f5_besideMany τ ((f3_drawBelow π (f5_cells τ)).1))).2)) else (if (f3_hardAt ((f3_drawBelow ((f3_drawBelow π (f5_cells τ)).2) (f5_besideMany τ ((f3_drawBelow π (f5_cells τ)).1))).2) ((f3_drawBelow π (f5_cells τ)).1)) = 1 then (0, ((f3_drawBelow ((f3_drawBelow π (f5_cells τ)).2) (f5_besideMany τ ((f3_drawBelow π (f5_cells τ)).1))).2)) else (if (f3_changeBy τ ρ ((f3_drawBelow ((f3_drawBelow ((f3_drawBelow π (f5_cells τ)).2) (f5_besideMany τ ((f3_drawBelow π (f5_cells τ)).1))).2) 10).2) ((f3_drawBelow π (f5_cells τ)).1) (f5_beside τ ((f3_drawBelow π (f5_cells τ)).1) ((f3_drawBelow ((f3_drawBelow π (f5_cells τ)).2) (f5_besideMany τ ((f3_drawBelow π (f5_cells τ)).1))).1))) ≤ 0 then (if (f3_workAt (f3_putMark ((f3_drawBelow ((f3_drawBelow ((f3_drawBelow π (f5_cells τ)).2) (f5_besideMany τ ((f3_drawBelow π (f5_cells τ)).1))).2) 10).2) ((f3_drawBelow π (f5_cells τ)).1) (f3_markAt ((f3_drawBelow ((f3_drawBelow π (f5_cells τ)).2) (f5_besideMany τ ((f3_drawBelow π (f5_cells τ)).1))).2) (f5_beside τ ((f3_drawBelow π (f5_cells τ)).1) ((f3_drawBelow ((f3_drawBelow π (f5_cells τ)).2) (f5_besideMany τ ((f3_drawBelow π (f5_cells τ)).1))).1)))) (f5_beside τ ((f3_drawBelow π (f5_cells τ)).1) ((f3_drawBelow ((f3_drawBelow π (f5_cells τ)).2) (f5_besideMany τ ((f3_drawBelow π (f5_cells τ)).1))).1))) = 0 then (1, (f3_putWork (f3_putMark ((f3_drawBelow ((f3_drawBelow ((f3_drawBelow π (f5_cells τ)).2) (f5_besideMany τ ((f3_drawBelow π (f5_cells τ)).1))).2) 10).2) ((f3_drawBelow π (f5_cells τ)).1) (f3_markAt ((f3_drawBelow ((f3_drawBelow π (f5_cells τ)).2) (f5_besideMany τ ((f3_drawBelow π (f5_cells τ)).1))).2) (f5_beside τ ((f3_drawBelow π (f5_cells τ)).1) ((f3_drawBelow ((f3_drawBelow π (f5_cells τ)).2) (f5_besideMany τ ((f3_drawBelow π (f5_cells τ)).1))).1)))) ((f3_drawBelow π (f5_cells τ)).1) 0)) else (1, (f3_putMark ((f3_drawBelow ((f3_drawBelow ((f3_drawBelow π (f5_cells τ)).2) (f5_besideMany τ ((f3_drawBelow π (f5_cells τ)).1))).2) 10).2) ((f3_drawBelow π (f5_cells τ)).1) (f3_markAt ((f3_drawBelow ((f3_drawBelow π (f5_cells τ)).2) (f5_besideMany τ ((f3_drawBelow π (f5_cells τ)).1))).2) (f5_beside τ ((f3_drawBelow π (f5_cells τ)).1) ((f3_drawBelow ((f3_drawBelow π (f5_cells τ)).2) (f5_besideMany τ ((f3_drawBelow π (f5_cells τ)).1))).1)))))) else (if (10 * (f3_changeBy τ ρ ((f3_drawBelow ((f3_drawBelow ((f3_drawBelow π (f5_cells τ)).2) (f5_besideMany τ ((f3_drawBelow π (f5_cells τ)).1))).2) 10).2) ((f3_drawBelow π (f5_cells τ)).1) (f5_beside τ ((f3_drawBelow π (f5_cells τ)).1) ((f3_drawBelow ((f3_drawBelow π (f5_cells τ)).2) (f5_besideMany τ ((f3_drawBelow π (f5_cells τ)).1))).1)))) ≤ (a1 * ((f3_drawBelow ((f3_drawBelow ((f3_drawBelow π (f5_cells τ)).2) (f5_besideMany τ ((f3_drawBelow π (f5_cells τ)).1))).2) 10).1)) then (if (f3_workAt (f3_putMark ((f3_drawBelow ((f3_drawBelow ((f3_drawBelow π (f5_cells τ)).2) (f5_besideMany τ ((f3_drawBelow π (f5_cells τ)).1))).2) 10).2) ((f3_drawBelow π (f5_cells τ)).1) (f3_markAt ((f3_drawBelow ((f3_drawBelow π (f5_cells τ)).2) (f5_besideMany τ ((f3_drawBelow π (f5_cells τ)).1))).2) (f5_beside τ ((f3_drawBelow π (f5_cells τ)).1) ((f3_drawBelow ((f3_drawBelow π (f5_cells τ)).2) (f5_besideMany τ ((f3_drawBelow π (f5_cells τ)).1))).1)))) (f5_beside τ ((f3_drawBelow π (f5_cells τ)).1) ((f3_drawBelow ((f3_drawBelow π (f5_cells τ)).2) (f5_besideMany τ ((f3_drawBelow π (f5_cells τ)).1))).1))) = 0 then (1, (f3_putWork (f3_putMark ((f3_drawBelow ((f3_drawBelow ((f3_drawBelow π (f5_cells τ)).2) (f5_besideMany τ ((f3_drawBelow π (f5_cells τ)).1))).2) 10).2) ((f3_drawBelow π (f5_cells τ)).1) (f3_markAt ((f3_drawBelow ((f3_drawBelow π (f5_cells τ)).2) (f5_besideMany τ ((f3_drawBelow π (f5_cells τ)).1))).2) (f5_beside τ ((f3_drawBelow π (f5_cells τ)).1) ((f3_drawBelow ((f3_drawBelow π (f5_cells τ)).2) (f5_besideMany τ ((f3_drawBelow π (f5_cells τ)).1))).1)))) ((f3_drawBelow π (f5_cells τ)).1) 0)) else (1, (f3_putMark ((f3_drawBelow ((f3_drawBelow ((f3_drawBelow π (f5_cells τ)).2) (f5_besideMany τ ((f3_drawBelow π (f5_cells τ)).1))).2) 10).2) ((f3_drawBelow π (f5_cells τ)).1) (f3_markAt ((f3_drawBelow ((f3_drawBelow π (f5_cells τ)).2) (f5_besideMany τ ((f3_drawBelow π (f5_cells τ)).1))).2) (f5_beside τ ((f3_drawBelow π (f5_cells τ)).1) ((f3_drawBelow ((f3_drawBelow π (f5_cells τ)).2) (f5_besideMany τ ((f3_drawBelow π (f5_cells τ)).1))).1)))))) else (0, ((f3_drawBelow ((f3_drawBelow ((f3_drawBelow π (f5_cells τ)).2) (f5_besideMany τ ((f3_drawBelow π (f5_cells τ)).1))).2) 10).2))))))))
set_option maxHeartbeats 400000 in
set_option maxRecDepth 100000 in
theorem m3_tryOne (l : Launch) (D : va_G) (cA : ClassId) (ad : Nat → Nat) (had : Apart ad) (τ ρ π γ : Sg) (hT : Ok τ) (a1 : Int32) : Met l yX3_tryOne (wM yX3_tryOne cX3_tryOne 7 (some .int)) ({ frames := 2, cells := 0, slots := 0, locals := 49 }) (va_Pc [.ref (ad 3), .int a1] (pS D cA ad τ ρ π γ)) (qV D cA ad τ ρ ((f3_tryOne τ ρ π a1).2) γ (some (.int ((f3_tryOne τ ρ π a1).1)))) 0 0 (aS ad) := by
  refine sy_of (by decide) (Nat.le_of_ble_eq_true rfl) ?_
  intro p e s m below meth c ls C hr hlk hK hN hP hl
  obtain ⟨hx, hb, hml, hown, hts⟩ := id C
  have htA : ∀ w ∈ wA, w.before ([.ref (ad 3), .int a1] : List Value).toArray s = true := fun w h => hts w (List.mem_cons_of_mem _ h)
  have hl : lv_has ls 7 [(0, .ref (ad 3)), (1, .int a1)] := hl
  have hS : va_S (aS ad) s.heap s.heap [] := va_S.rf
  refine lv_aload_n hx hb dX3_tryOne_0 rfl (lv_at hl 0 rfl) ?_
  refine lv_aload_n hx hb dX3_tryOne_1 rfl (lv_at hl 0 rfl) ?_
  refine gX3_0 hx hb htA hown hK hP dX3_tryOne_2 ?_
  refine sy_cv (rest := [.ref (ad 3)]) C hK hN hP (m5_cells l D cA ad τ ρ π γ) (1) 7 rfl rfl kw_183 kw_184 kw_185 kw_16 kw_186 hd_X5_cells ⟨Nat.le_of_ble_eq_true rfl, Nat.le_of_ble_eq_true rfl⟩ rfl rfl rfl hl.1 rfl (Nat.le_of_ble_eq_true rfl) dX3_tryOne_5 ⟨Nat.zero_le _, Nat.zero_le _⟩ ?_
  refine sy_cvM (rest := []) (st1 := [.int ((f3_drawBelow π (f5_cells τ)).1)]) C hK hN hP (fun _ h => h) hS (m3_drawBelow l D cA ad had τ ρ π γ (f5_cells τ)) (3) 5 rfl rfl kw_187 kw_188 kw_189 kw_24 kw_190 hd_X3_drawBelow ⟨Nat.le_of_ble_eq_true rfl, Nat.le_of_ble_eq_true rfl⟩ rfl rfl rfl hl.1 rfl (Nat.le_of_ble_eq_true rfl) dX3_tryOne_8 ⟨Nat.zero_le _, Nat.zero_le _⟩ rfl (fun H locs hP hS => ?_)
  refine lv_istore_n (lv' := [(2, .int ((f3_drawBelow π (f5_cells τ)).1)), (0, .ref (ad 3)), (1, .int a1)]) hx hb dX3_tryOne_11 rfl hl (by decide) rfl (fun ls hl => ?_)
  refine lv_aload_n hx hb dX3_tryOne_12 rfl (lv_at hl 1 rfl) ?_
  refine gX3_0 hx hb htA hown hK hP dX3_tryOne_13 ?_
  refine lv_iload_n hx hb dX3_tryOne_16 rfl (lv_at hl 0 rfl) ?_
  refine lv_aload_n hx hb dX3_tryOne_17 rfl (lv_at hl 1 rfl) ?_
  refine lv_aload_n hx hb dX3_tryOne_18 rfl (lv_at hl 1 rfl) ?_
  refine gX3_0 hx hb htA hown hK hP dX3_tryOne_19 ?_
  refine lv_iload_n hx hb dX3_tryOne_22 rfl (lv_at hl 0 rfl) ?_
  refine sy_cv (rest := [.ref (ad 3), .int ((f3_drawBelow π (f5_cells τ)).1), .ref (ad 1)]) C hK hN hP (m5_besideMany l D cA ad τ ρ ((f3_drawBelow π (f5_cells τ)).2) γ hT ((f3_drawBelow π (f5_cells τ)).1)) (1) 7 rfl rfl kw_291 kw_220 kw_221 kw_16 kw_222 hd_X5_besideMany ⟨Nat.le_of_ble_eq_true rfl, Nat.le_of_ble_eq_true rfl⟩ rfl rfl rfl hl.1 rfl (Nat.le_of_ble_eq_true rfl) dX3_tryOne_23 ⟨Nat.zero_le _, Nat.zero_le _⟩ ?_
  refine sy_cvM (rest := [.int ((f3_drawBelow π (f5_cells τ)).1), .ref (ad 1)]) (st1 := [.int ((f3_drawBelow ((f3_drawBelow π (f5_cells τ)).2) (f5_besideMany τ ((f3_drawBelow π (f5_cells τ)).1))).1), .int ((f3_drawBelow π (f5_cells τ)).1), .ref (ad 1)]) C hK hN hP (fun _ h => h) hS (m3_drawBelow l D cA ad had τ ρ ((f3_drawBelow π (f5_cells τ)).2) γ (f5_besideMany τ ((f3_drawBelow π (f5_cells τ)).1))) (3) 5 rfl rfl kw_187 kw_188 kw_189 kw_24 kw_190 hd_X3_drawBelow ⟨Nat.le_of_ble_eq_true rfl, Nat.le_of_ble_eq_true rfl⟩ rfl rfl rfl hl.1 rfl (Nat.le_of_ble_eq_true rfl) dX3_tryOne_26 ⟨Nat.zero_le _, Nat.zero_le _⟩ rfl (fun H locs hP hS => ?_)
  refine sy_cv (rest := []) C hK hN hP (m5_beside l D cA ad τ ρ ((f3_drawBelow ((f3_drawBelow π (f5_cells τ)).2) (f5_besideMany τ ((f3_drawBelow π (f5_cells τ)).1))).2) γ hT ((f3_drawBelow π (f5_cells τ)).1) ((f3_drawBelow ((f3_drawBelow π (f5_cells τ)).2) (f5_besideMany τ ((f3_drawBelow π (f5_cells τ)).1))).1)) (1) 7 rfl rfl kw_293 kw_224 kw_225 kw_16 kw_226 hd_X5_beside ⟨Nat.le_of_ble_eq_true rfl, Nat.le_of_ble_eq_true rfl⟩ rfl rfl rfl hl.1 rfl (Nat.le_of_ble_eq_true rfl) dX3_tryOne_29 ⟨Nat.zero_le _, Nat.zero_le _⟩ ?_
  refine lv_istore_n (lv' := [(3, .int (f5_beside τ ((f3_drawBelow π (f5_cells τ)).1) ((f3_drawBelow ((f3_drawBelow π (f5_cells τ)).2) (f5_besideMany τ ((f3_drawBelow π (f5_cells τ)).1))).1))), (2, .int ((f3_drawBelow π (f5_cells τ)).1)), (0, .ref (ad 3)), (1, .int a1)]) hx hb dX3_tryOne_32 rfl hl (by decide) rfl (fun ls hl => ?_)
  refine lv_aload_n hx hb dX3_tryOne_33 rfl (lv_at hl 2 rfl) ?_
  refine lv_iload_n hx hb dX3_tryOne_34 rfl (lv_at hl 0 rfl) ?_
  refine sy_cv (rest := []) C hK hN hP (m3_markAt l D cA ad τ ρ ((f3_drawBelow ((f3_drawBelow π (f5_cells τ)).2) (f5_besideMany τ ((f3_drawBelow π (f5_cells τ)).1))).2) γ (f5_beside τ ((f3_drawBelow π (f5_cells τ)).1) ((f3_drawBelow ((f3_drawBelow π (f5_cells τ)).2) (f5_besideMany τ ((f3_drawBelow π (f5_cells τ)).1))).1))) (3) 5 rfl rfl kw_292 kw_206 kw_207 kw_24 kw_208 hd_X3_markAt ⟨Nat.le_of_ble_eq_true rfl, Nat.le_of_ble_eq_true rfl⟩ rfl rfl rfl hl.1 rfl (Nat.le_of_ble_eq_true rfl) dX3_tryOne_35 ⟨Nat.zero_le _, Nat.zero_le _⟩ ?_
  refine lv_istore (lv' := [(4, .int (f3_markAt ((f3_drawBelow ((f3_drawBelow π (f5_cells τ)).2) (f5_besideMany τ ((f3_drawBelow π (f5_cells τ)).1))).2) (f5_beside τ ((f3_drawBelow π (f5_cells τ)).1) ((f3_drawBelow ((f3_drawBelow π (f5_cells τ)).2) (f5_besideMany τ ((f3_drawBelow π (f5_cells τ)).1))).1)))), (3, .int (f5_beside τ ((f3_drawBelow π (f5_cells τ)).1) ((f3_drawBelow ((f3_drawBelow π (f5_cells τ)).2) (f5_besideMany τ ((f3_drawBelow π (f5_cells τ)).1))).1))), (2, .int ((f3_drawBelow π (f5_cells τ)).1)), (0, .ref (ad 3)), (1, .int a1)]) hx hb dX3_tryOne_38 hl (by decide) rfl (fun ls hl => ?_)
  refine lv_iload hx hb dX3_tryOne_40 (lv_at hl 0 rfl) ?_
  refine lv_if_eq (tgt := 72) hx hb dX3_tryOne_42 (by decide) (fun c_1 => ?_) (fun c_1 => ?_)
  · refine lv_iconst (v := 0) hx hb dX3_tryOne_72 (by decide) ?_
    have e9 : (0, ((f3_drawBelow ((f3_drawBelow π (f5_cells τ)).2) (f5_besideMany τ ((f3_drawBelow π (f5_cells τ)).1))).2)) = f3_tryOne τ ρ π a1 := by unfold f3_tryOne; (try rw [if_pos c_1])
    exact sy_retVI hx hb hr hlk hP hS rfl (by rw [← e9]) (by rw [← e9]) dX3_tryOne_73
  · refine lv_aload_n hx hb dX3_tryOne_45 rfl (lv_at hl 3 rfl) ?_
    refine lv_iload_n hx hb dX3_tryOne_46 rfl (lv_at hl 2 rfl) ?_
    refine sy_cv (rest := []) C hK hN hP (m3_markAt l D cA ad τ ρ ((f3_drawBelow ((f3_drawBelow π (f5_cells τ)).2) (f5_besideMany τ ((f3_drawBelow π (f5_cells τ)).1))).2) γ ((f3_drawBelow π (f5_cells τ)).1)) (3) 5 rfl rfl kw_292 kw_206 kw_207 kw_24 kw_208 hd_X3_markAt ⟨Nat.le_of_ble_eq_true rfl, Nat.le_of_ble_eq_true rfl⟩ rfl rfl rfl hl.1 rfl (Nat.le_of_ble_eq_true rfl) dX3_tryOne_47 ⟨Nat.zero_le _, Nat.zero_le _⟩ ?_
    refine lv_if_eq (tgt := 72) hx hb dX3_tryOne_50 (by decide) (fun c_2 => ?_) (fun c_2 => ?_)
    · refine lv_iconst (v := 0) hx hb dX3_tryOne_72 (by decide) ?_
      have e9 : (0, ((f3_drawBelow ((f3_drawBelow π (f5_cells τ)).2) (f5_besideMany τ ((f3_drawBelow π (f5_cells τ)).1))).2)) = f3_tryOne τ ρ π a1 := by unfold f3_tryOne; (try rw [if_neg c_1]); (try rw [if_pos c_2])
      exact sy_retVI hx hb hr hlk hP hS rfl (by rw [← e9]) (by rw [← e9]) dX3_tryOne_73
    · refine lv_iload hx hb dX3_tryOne_53 (lv_at hl 0 rfl) ?_
      refine lv_aload_n hx hb dX3_tryOne_55 rfl (lv_at hl 3 rfl) ?_
      refine lv_iload_n hx hb dX3_tryOne_56 rfl (lv_at hl 2 rfl) ?_
      refine sy_cv (rest := [.int (f3_markAt ((f3_drawBelow ((f3_drawBelow π (f5_cells τ)).2) (f5_besideMany τ ((f3_drawBelow π (f5_cells τ)).1))).2) (f5_beside τ ((f3_drawBelow π (f5_cells τ)).1) ((f3_drawBelow ((f3_drawBelow π (f5_cells τ)).2) (f5_besideMany τ ((f3_drawBelow π (f5_cells τ)).1))).1)))]) C hK hN hP (m3_markAt l D cA ad τ ρ ((f3_drawBelow ((f3_drawBelow π (f5_cells τ)).2) (f5_besideMany τ ((f3_drawBelow π (f5_cells τ)).1))).2) γ ((f3_drawBelow π (f5_cells τ)).1)) (3) 5 rfl rfl kw_292 kw_206 kw_207 kw_24 kw_208 hd_X3_markAt ⟨Nat.le_of_ble_eq_true rfl, Nat.le_of_ble_eq_true rfl⟩ rfl rfl rfl hl.1 rfl (Nat.le_of_ble_eq_true rfl) dX3_tryOne_57 ⟨Nat.zero_le _, Nat.zero_le _⟩ ?_
      refine lv_icmp_eq (tgt := 72) hx hb dX3_tryOne_60 (by decide) (fun c_3 => ?_) (fun c_3 => ?_)
      · refine lv_iconst (v := 0) hx hb dX3_tryOne_72 (by decide) ?_
        have e9 : (0, ((f3_drawBelow ((f3_drawBelow π (f5_cells τ)).2) (f5_besideMany τ ((f3_drawBelow π (f5_cells τ)).1))).2)) = f3_tryOne τ ρ π a1 := by unfold f3_tryOne; (try rw [if_neg c_1]); (try rw [if_neg c_2]); (try rw [if_pos c_3])
        exact sy_retVI hx hb hr hlk hP hS rfl (by rw [← e9]) (by rw [← e9]) dX3_tryOne_73
      · refine lv_aload_n hx hb dX3_tryOne_63 rfl (lv_at hl 3 rfl) ?_
        refine lv_iload_n hx hb dX3_tryOne_64 rfl (lv_at hl 2 rfl) ?_
        refine sy_cv (rest := []) C hK hN hP (m3_hardAt l D cA ad τ ρ ((f3_drawBelow ((f3_drawBelow π (f5_cells τ)).2) (f5_besideMany τ ((f3_drawBelow π (f5_cells τ)).1))).2) γ ((f3_drawBelow π (f5_cells τ)).1)) (3) 5 rfl rfl kw_364 kw_277 kw_278 kw_24 kw_279 hd_X3_hardAt ⟨Nat.le_of_ble_eq_true rfl, Nat.le_of_ble_eq_true rfl⟩ rfl rfl rfl hl.1 rfl (Nat.le_of_ble_eq_true rfl) dX3_tryOne_65 ⟨Nat.zero_le _, Nat.zero_le _⟩ ?_
        refine lv_iconst (v := 1) hx hb dX3_tryOne_68 (by decide) ?_
        refine lv_icmp_ne (tgt := 74) hx hb dX3_tryOne_69 (by decide) (fun c_4 => ?_) (fun c_4 => ?_)
        · refine lv_aload_n hx hb dX3_tryOne_74 rfl (lv_at hl 3 rfl) ?_
          refine lv_bipush (v := 10) hx hb dX3_tryOne_75 (by decide) ?_
          refine sy_cvM (rest := []) (st1 := [.int ((f3_drawBelow ((f3_drawBelow ((f3_drawBelow π (f5_cells τ)).2) (f5_besideMany τ ((f3_drawBelow π (f5_cells τ)).1))).2) 10).1)]) C hK hN hP (fun _ h => h) hS (m3_drawBelow l D cA ad had τ ρ ((f3_drawBelow ((f3_drawBelow π (f5_cells τ)).2) (f5_besideMany τ ((f3_drawBelow π (f5_cells τ)).1))).2) γ 10) (3) 5 rfl rfl kw_187 kw_188 kw_189 kw_24 kw_190 hd_X3_drawBelow ⟨Nat.le_of_ble_eq_true rfl, Nat.le_of_ble_eq_true rfl⟩ rfl rfl rfl hl.1 rfl (Nat.le_of_ble_eq_true rfl) dX3_tryOne_77 ⟨Nat.zero_le _, Nat.zero_le _⟩ rfl (fun H locs hP hS => ?_)
          refine lv_istore (lv' := [(5, .int ((f3_drawBelow ((f3_drawBelow ((f3_drawBelow π (f5_cells τ)).2) (f5_besideMany τ ((f3_drawBelow π (f5_cells τ)).1))).2) 10).1)), (4, .int (f3_markAt ((f3_drawBelow ((f3_drawBelow π (f5_cells τ)).2) (f5_besideMany τ ((f3_drawBelow π (f5_cells τ)).1))).2) (f5_beside τ ((f3_drawBelow π (f5_cells τ)).1) ((f3_drawBelow ((f3_drawBelow π (f5_cells τ)).2) (f5_besideMany τ ((f3_drawBelow π (f5_cells τ)).1))).1)))), (3, .int (f5_beside τ ((f3_drawBelow π (f5_cells τ)).1) ((f3_drawBelow ((f3_drawBelow π (f5_cells τ)).2) (f5_besideMany τ ((f3_drawBelow π (f5_cells τ)).1))).1))), (2, .int ((f3_drawBelow π (f5_cells τ)).1)), (0, .ref (ad 3)), (1, .int a1)]) hx hb dX3_tryOne_80 hl (by decide) rfl (fun ls hl => ?_)
          refine lv_aload_n hx hb dX3_tryOne_82 rfl (lv_at hl 4 rfl) ?_
          refine lv_iload_n hx hb dX3_tryOne_83 rfl (lv_at hl 3 rfl) ?_
          refine lv_iload_n hx hb dX3_tryOne_84 rfl (lv_at hl 2 rfl) ?_
          refine sy_cv (rest := []) C hK hN hP (m3_changeBy l D cA ad τ ρ ((f3_drawBelow ((f3_drawBelow ((f3_drawBelow π (f5_cells τ)).2) (f5_besideMany τ ((f3_drawBelow π (f5_cells τ)).1))).2) 10).2) γ hT ((f3_drawBelow π (f5_cells τ)).1) (f5_beside τ ((f3_drawBelow π (f5_cells τ)).1) ((f3_drawBelow ((f3_drawBelow π (f5_cells τ)).2) (f5_besideMany τ ((f3_drawBelow π (f5_cells τ)).1))).1))) (3) 5 rfl rfl kw_483 kw_484 kw_485 kw_24 kw_486 hd_X3_changeBy ⟨Nat.le_of_ble_eq_true rfl, Nat.le_of_ble_eq_true rfl⟩ rfl rfl rfl hl.1 rfl (Nat.le_of_ble_eq_true rfl) dX3_tryOne_85 ⟨Nat.zero_le _, Nat.zero_le _⟩ ?_
          refine lv_istore (lv' := [(6, .int (f3_changeBy τ ρ ((f3_drawBelow ((f3_drawBelow ((f3_drawBelow π (f5_cells τ)).2) (f5_besideMany τ ((f3_drawBelow π (f5_cells τ)).1))).2) 10).2) ((f3_drawBelow π (f5_cells τ)).1) (f5_beside τ ((f3_drawBelow π (f5_cells τ)).1) ((f3_drawBelow ((f3_drawBelow π (f5_cells τ)).2) (f5_besideMany τ ((f3_drawBelow π (f5_cells τ)).1))).1)))), (5, .int ((f3_drawBelow ((f3_drawBelow ((f3_drawBelow π (f5_cells τ)).2) (f5_besideMany τ ((f3_drawBelow π (f5_cells τ)).1))).2) 10).1)), (4, .int (f3_markAt ((f3_drawBelow ((f3_drawBelow π (f5_cells τ)).2) (f5_besideMany τ ((f3_drawBelow π (f5_cells τ)).1))).2) (f5_beside τ ((f3_drawBelow π (f5_cells τ)).1) ((f3_drawBelow ((f3_drawBelow π (f5_cells τ)).2) (f5_besideMany τ ((f3_drawBelow π (f5_cells τ)).1))).1)))), (3, .int (f5_beside τ ((f3_drawBelow π (f5_cells τ)).1) ((f3_drawBelow ((f3_drawBelow π (f5_cells τ)).2) (f5_besideMany τ ((f3_drawBelow π (f5_cells τ)).1))).1))), (2, .int ((f3_drawBelow π (f5_cells τ)).1)), (0, .ref (ad 3)), (1, .int a1)]) hx hb dX3_tryOne_88 hl (by decide) rfl (fun ls hl => ?_)
          refine lv_iload hx hb dX3_tryOne_90 (lv_at hl 0 rfl) ?_
          refine lv_if_le (tgt := 109) hx hb dX3_tryOne_92 (by decide) (fun c_5 => ?_) (fun c_5 => ?_)
          · refine lv_aload_n hx hb dX3_tryOne_109 rfl (lv_at hl 5 rfl) ?_
            refine lv_iload_n hx hb dX3_tryOne_110 rfl (lv_at hl 4 rfl) ?_
            refine lv_iload hx hb dX3_tryOne_111 (lv_at hl 2 rfl) ?_
            refine sy_cvM (rest := []) (st1 := []) C hK hN hP (fun _ h => h) hS (m3_putMark l D cA ad had τ ρ ((f3_drawBelow ((f3_drawBelow ((f3_drawBelow π (f5_cells τ)).2) (f5_besideMany τ ((f3_drawBelow π (f5_cells τ)).1))).2) 10).2) γ ((f3_drawBelow π (f5_cells τ)).1) (f3_markAt ((f3_drawBelow ((f3_drawBelow π (f5_cells τ)).2) (f5_besideMany τ ((f3_drawBelow π (f5_cells τ)).1))).2) (f5_beside τ ((f3_drawBelow π (f5_cells τ)).1) ((f3_drawBelow ((f3_drawBelow π (f5_cells τ)).2) (f5_besideMany τ ((f3_drawBelow π (f5_cells τ)).1))).1)))) (3) 5 rfl rfl kw_191 kw_192 kw_193 kw_24 kw_194 hd_X3_putMark ⟨Nat.le_of_ble_eq_true rfl, Nat.le_of_ble_eq_true rfl⟩ rfl rfl rfl hl.1 rfl (Nat.le_of_ble_eq_true rfl) dX3_tryOne_113 ⟨Nat.zero_le _, Nat.zero_le _⟩ rfl (fun H locs hP hS => ?_)
            refine lv_aload_n hx hb dX3_tryOne_116 rfl (lv_at hl 5 rfl) ?_
            refine lv_iload_n hx hb dX3_tryOne_117 rfl (lv_at hl 3 rfl) ?_
            refine sy_cv (rest := []) C hK hN hP (m3_workAt l D cA ad τ ρ (f3_putMark ((f3_drawBelow ((f3_drawBelow ((f3_drawBelow π (f5_cells τ)).2) (f5_besideMany τ ((f3_drawBelow π (f5_cells τ)).1))).2) 10).2) ((f3_drawBelow π (f5_cells τ)).1) (f3_markAt ((f3_drawBelow ((f3_drawBelow π (f5_cells τ)).2) (f5_besideMany τ ((f3_drawBelow π (f5_cells τ)).1))).2) (f5_beside τ ((f3_drawBelow π (f5_cells τ)).1) ((f3_drawBelow ((f3_drawBelow π (f5_cells τ)).2) (f5_besideMany τ ((f3_drawBelow π (f5_cells τ)).1))).1)))) γ (f5_beside τ ((f3_drawBelow π (f5_cells τ)).1) ((f3_drawBelow ((f3_drawBelow π (f5_cells τ)).2) (f5_besideMany τ ((f3_drawBelow π (f5_cells τ)).1))).1))) (3) 5 rfl rfl kw_365 kw_273 kw_274 kw_24 kw_275 hd_X3_workAt ⟨Nat.le_of_ble_eq_true rfl, Nat.le_of_ble_eq_true rfl⟩ rfl rfl rfl hl.1 rfl (Nat.le_of_ble_eq_true rfl) dX3_tryOne_118 ⟨Nat.zero_le _, Nat.zero_le _⟩ ?_
            refine lv_if_ne (tgt := 130) hx hb dX3_tryOne_121 (by decide) (fun c_6 => ?_) (fun c_6 => ?_)
            · refine lv_iconst (v := 1) hx hb dX3_tryOne_130 (by decide) ?_
              have e9 : (1, (f3_putMark ((f3_drawBelow ((f3_drawBelow ((f3_drawBelow π (f5_cells τ)).2) (f5_besideMany τ ((f3_drawBelow π (f5_cells τ)).1))).2) 10).2) ((f3_drawBelow π (f5_cells τ)).1) (f3_markAt ((f3_drawBelow ((f3_drawBelow π (f5_cells τ)).2) (f5_besideMany τ ((f3_drawBelow π (f5_cells τ)).1))).2) (f5_beside τ ((f3_drawBelow π (f5_cells τ)).1) ((f3_drawBelow ((f3_drawBelow π (f5_cells τ)).2) (f5_besideMany τ ((f3_drawBelow π (f5_cells τ)).1))).1))))) = f3_tryOne τ ρ π a1 := by unfold f3_tryOne; (try rw [if_neg c_1]); (try rw [if_neg c_2]); (try rw [if_neg c_3]); (try rw [if_neg c_4]); (try rw [if_pos c_5]); (try rw [if_neg c_6])
              exact sy_retVI hx hb hr hlk hP hS rfl (by rw [← e9]) (by rw [← e9]) dX3_tryOne_131
            · refine lv_aload_n hx hb dX3_tryOne_124 rfl (lv_at hl 5 rfl) ?_
              refine lv_iload_n hx hb dX3_tryOne_125 rfl (lv_at hl 4 rfl) ?_
              refine lv_iconst (v := 0) hx hb dX3_tryOne_126 (by decide) ?_
              refine sy_cvM (rest := []) (st1 := []) C hK hN hP (fun _ h => h) hS (m3_putWork l D cA ad had τ ρ (f3_putMark ((f3_drawBelow ((f3_drawBelow ((f3_drawBelow π (f5_cells τ)).2) (f5_besideMany τ ((f3_drawBelow π (f5_cells τ)).1))).2) 10).2) ((f3_drawBelow π (f5_cells τ)).1) (f3_markAt ((f3_drawBelow ((f3_drawBelow π (f5_cells τ)).2) (f5_besideMany τ ((f3_drawBelow π (f5_cells τ)).1))).2) (f5_beside τ ((f3_drawBelow π (f5_cells τ)).1) ((f3_drawBelow ((f3_drawBelow π (f5_cells τ)).2) (f5_besideMany τ ((f3_drawBelow π (f5_cells τ)).1))).1)))) γ ((f3_drawBelow π (f5_cells τ)).1) 0) (3) 5 rfl rfl kw_487 kw_304 kw_305 kw_24 kw_306 hd_X3_putWork ⟨Nat.le_of_ble_eq_true rfl, Nat.le_of_ble_eq_true rfl⟩ rfl rfl rfl hl.1 rfl (Nat.le_of_ble_eq_true rfl) dX3_tryOne_127 ⟨Nat.zero_le _, Nat.zero_le _⟩ rfl (fun H locs hP hS => ?_)
              refine lv_iconst (v := 1) hx hb dX3_tryOne_130 (by decide) ?_
              have e9 : (1, (f3_putWork (f3_putMark ((f3_drawBelow ((f3_drawBelow ((f3_drawBelow π (f5_cells τ)).2) (f5_besideMany τ ((f3_drawBelow π (f5_cells τ)).1))).2) 10).2) ((f3_drawBelow π (f5_cells τ)).1) (f3_markAt ((f3_drawBelow ((f3_drawBelow π (f5_cells τ)).2) (f5_besideMany τ ((f3_drawBelow π (f5_cells τ)).1))).2) (f5_beside τ ((f3_drawBelow π (f5_cells τ)).1) ((f3_drawBelow ((f3_drawBelow π (f5_cells τ)).2) (f5_besideMany τ ((f3_drawBelow π (f5_cells τ)).1))).1)))) ((f3_drawBelow π (f5_cells τ)).1) 0)) = f3_tryOne τ ρ π a1 := by unfold f3_tryOne; (try rw [if_neg c_1]); (try rw [if_neg c_2]); (try rw [if_neg c_3]); (try rw [if_neg c_4]); (try rw [if_pos c_5]); (try rw [if_pos c_6])
              exact sy_retVI hx hb hr hlk hP hS rfl (by rw [← e9]) (by rw [← e9]) dX3_tryOne_131
          · refine lv_bipush (v := 10) hx hb dX3_tryOne_95 (by decide) ?_
            refine lv_iload hx hb dX3_tryOne_97 (lv_at hl 0 rfl) ?_
            refine lv_imul hx hb dX3_tryOne_99 ?_
            refine lv_iload_n hx hb dX3_tryOne_100 rfl (lv_at hl 6 rfl) ?_
            refine lv_iload hx hb dX3_tryOne_101 (lv_at hl 1 rfl) ?_
            refine lv_imul hx hb dX3_tryOne_103 ?_
            refine lv_icmp_le (tgt := 109) hx hb dX3_tryOne_104 (by decide) (fun c_7 => ?_) (fun c_7 => ?_)
            · refine lv_aload_n hx hb dX3_tryOne_109 rfl (lv_at hl 5 rfl) ?_
              refine lv_iload_n hx hb dX3_tryOne_110 rfl (lv_at hl 4 rfl) ?_
              refine lv_iload hx hb dX3_tryOne_111 (lv_at hl 2 rfl) ?_
              refine sy_cvM (rest := []) (st1 := []) C hK hN hP (fun _ h => h) hS (m3_putMark l D cA ad had τ ρ ((f3_drawBelow ((f3_drawBelow ((f3_drawBelow π (f5_cells τ)).2) (f5_besideMany τ ((f3_drawBelow π (f5_cells τ)).1))).2) 10).2) γ ((f3_drawBelow π (f5_cells τ)).1) (f3_markAt ((f3_drawBelow ((f3_drawBelow π (f5_cells τ)).2) (f5_besideMany τ ((f3_drawBelow π (f5_cells τ)).1))).2) (f5_beside τ ((f3_drawBelow π (f5_cells τ)).1) ((f3_drawBelow ((f3_drawBelow π (f5_cells τ)).2) (f5_besideMany τ ((f3_drawBelow π (f5_cells τ)).1))).1)))) (3) 5 rfl rfl kw_191 kw_192 kw_193 kw_24 kw_194 hd_X3_putMark ⟨Nat.le_of_ble_eq_true rfl, Nat.le_of_ble_eq_true rfl⟩ rfl rfl rfl hl.1 rfl (Nat.le_of_ble_eq_true rfl) dX3_tryOne_113 ⟨Nat.zero_le _, Nat.zero_le _⟩ rfl (fun H locs hP hS => ?_)
              refine lv_aload_n hx hb dX3_tryOne_116 rfl (lv_at hl 5 rfl) ?_
              refine lv_iload_n hx hb dX3_tryOne_117 rfl (lv_at hl 3 rfl) ?_
              refine sy_cv (rest := []) C hK hN hP (m3_workAt l D cA ad τ ρ (f3_putMark ((f3_drawBelow ((f3_drawBelow ((f3_drawBelow π (f5_cells τ)).2) (f5_besideMany τ ((f3_drawBelow π (f5_cells τ)).1))).2) 10).2) ((f3_drawBelow π (f5_cells τ)).1) (f3_markAt ((f3_drawBelow ((f3_drawBelow π (f5_cells τ)).2) (f5_besideMany τ ((f3_drawBelow π (f5_cells τ)).1))).2) (f5_beside τ ((f3_drawBelow π (f5_cells τ)).1) ((f3_drawBelow ((f3_drawBelow π (f5_cells τ)).2) (f5_besideMany τ ((f3_drawBelow π (f5_cells τ)).1))).1)))) γ (f5_beside τ ((f3_drawBelow π (f5_cells τ)).1) ((f3_drawBelow ((f3_drawBelow π (f5_cells τ)).2) (f5_besideMany τ ((f3_drawBelow π (f5_cells τ)).1))).1))) (3) 5 rfl rfl kw_365 kw_273 kw_274 kw_24 kw_275 hd_X3_workAt ⟨Nat.le_of_ble_eq_true rfl, Nat.le_of_ble_eq_true rfl⟩ rfl rfl rfl hl.1 rfl (Nat.le_of_ble_eq_true rfl) dX3_tryOne_118 ⟨Nat.zero_le _, Nat.zero_le _⟩ ?_
              refine lv_if_ne (tgt := 130) hx hb dX3_tryOne_121 (by decide) (fun c_8 => ?_) (fun c_8 => ?_)
              · refine lv_iconst (v := 1) hx hb dX3_tryOne_130 (by decide) ?_
                have e9 : (1, (f3_putMark ((f3_drawBelow ((f3_drawBelow ((f3_drawBelow π (f5_cells τ)).2) (f5_besideMany τ ((f3_drawBelow π (f5_cells τ)).1))).2) 10).2) ((f3_drawBelow π (f5_cells τ)).1) (f3_markAt ((f3_drawBelow ((f3_drawBelow π (f5_cells τ)).2) (f5_besideMany τ ((f3_drawBelow π (f5_cells τ)).1))).2) (f5_beside τ ((f3_drawBelow π (f5_cells τ)).1) ((f3_drawBelow ((f3_drawBelow π (f5_cells τ)).2) (f5_besideMany τ ((f3_drawBelow π (f5_cells τ)).1))).1))))) = f3_tryOne τ ρ π a1 := by unfold f3_tryOne; (try rw [if_neg c_1]); (try rw [if_neg c_2]); (try rw [if_neg c_3]); (try rw [if_neg c_4]); (try rw [if_neg c_5]); (try rw [if_pos c_7]); (try rw [if_neg c_8])
                exact sy_retVI hx hb hr hlk hP hS rfl (by rw [← e9]) (by rw [← e9]) dX3_tryOne_131
              · refine lv_aload_n hx hb dX3_tryOne_124 rfl (lv_at hl 5 rfl) ?_
                refine lv_iload_n hx hb dX3_tryOne_125 rfl (lv_at hl 4 rfl) ?_
                refine lv_iconst (v := 0) hx hb dX3_tryOne_126 (by decide) ?_
                refine sy_cvM (rest := []) (st1 := []) C hK hN hP (fun _ h => h) hS (m3_putWork l D cA ad had τ ρ (f3_putMark ((f3_drawBelow ((f3_drawBelow ((f3_drawBelow π (f5_cells τ)).2) (f5_besideMany τ ((f3_drawBelow π (f5_cells τ)).1))).2) 10).2) ((f3_drawBelow π (f5_cells τ)).1) (f3_markAt ((f3_drawBelow ((f3_drawBelow π (f5_cells τ)).2) (f5_besideMany τ ((f3_drawBelow π (f5_cells τ)).1))).2) (f5_beside τ ((f3_drawBelow π (f5_cells τ)).1) ((f3_drawBelow ((f3_drawBelow π (f5_cells τ)).2) (f5_besideMany τ ((f3_drawBelow π (f5_cells τ)).1))).1)))) γ ((f3_drawBelow π (f5_cells τ)).1) 0) (3) 5 rfl rfl kw_487 kw_304 kw_305 kw_24 kw_306 hd_X3_putWork ⟨Nat.le_of_ble_eq_true rfl, Nat.le_of_ble_eq_true rfl⟩ rfl rfl rfl hl.1 rfl (Nat.le_of_ble_eq_true rfl) dX3_tryOne_127 ⟨Nat.zero_le _, Nat.zero_le _⟩ rfl (fun H locs hP hS => ?_)
                refine lv_iconst (v := 1) hx hb dX3_tryOne_130 (by decide) ?_
                have e9 : (1, (f3_putWork (f3_putMark ((f3_drawBelow ((f3_drawBelow ((f3_drawBelow π (f5_cells τ)).2) (f5_besideMany τ ((f3_drawBelow π (f5_cells τ)).1))).2) 10).2) ((f3_drawBelow π (f5_cells τ)).1) (f3_markAt ((f3_drawBelow ((f3_drawBelow π (f5_cells τ)).2) (f5_besideMany τ ((f3_drawBelow π (f5_cells τ)).1))).2) (f5_beside τ ((f3_drawBelow π (f5_cells τ)).1) ((f3_drawBelow ((f3_drawBelow π (f5_cells τ)).2) (f5_besideMany τ ((f3_drawBelow π (f5_cells τ)).1))).1)))) ((f3_drawBelow π (f5_cells τ)).1) 0)) = f3_tryOne τ ρ π a1 := by unfold f3_tryOne; (try rw [if_neg c_1]); (try rw [if_neg c_2]); (try rw [if_neg c_3]); (try rw [if_neg c_4]); (try rw [if_neg c_5]); (try rw [if_pos c_7]); (try rw [if_pos c_8])
                exact sy_retVI hx hb hr hlk hP hS rfl (by rw [← e9]) (by rw [← e9]) dX3_tryOne_131
            · refine lv_iconst (v := 0) hx hb dX3_tryOne_107 (by decide) ?_
              have e9 : (0, ((f3_drawBelow ((f3_drawBelow ((f3_drawBelow π (f5_cells τ)).2) (f5_besideMany τ ((f3_drawBelow π (f5_cells τ)).1))).2) 10).2)) = f3_tryOne τ ρ π a1 := by unfold f3_tryOne; (try rw [if_neg c_1]); (try rw [if_neg c_2]); (try rw [if_neg c_3]); (try rw [if_neg c_4]); (try rw [if_neg c_5]); (try rw [if_neg c_7])
              exact sy_retVI hx hb hr hlk hP hS rfl (by rw [← e9]) (by rw [← e9]) dX3_tryOne_108
        · refine lv_iconst (v := 0) hx hb dX3_tryOne_72 (by decide) ?_
          have e9 : (0, ((f3_drawBelow ((f3_drawBelow π (f5_cells τ)).2) (f5_besideMany τ ((f3_drawBelow π (f5_cells τ)).1))).2)) = f3_tryOne τ ρ π a1 := by unfold f3_tryOne; (try rw [if_neg c_1]); (try rw [if_neg c_2]); (try rw [if_neg c_3]); (try rw [if_pos c_4])
          exact sy_retVI hx hb hr hlk hP hS rfl (by rw [← e9]) (by rw [← e9]) dX3_tryOne_73
/-- X3_sweepOften -/
theorem hd_X3_sweepOften : yX3_sweepOften.cls = yX3_sweepOften.cls ∧ yX3_sweepOften.cls ≠ "java/lang/invoke/MethodHandle" ∧ yX3_sweepOften.cls ≠ "java/lang/invoke/VarHandle" ∧ (parseMethodDescriptor yX3_sweepOften.desc).map (fun d => d.parameters.length) = some 2 := by decide +kernel
def f3_sweepOften_L14 (τ : Sg) (ρ : Sg) (x1 : Int32) (x2 : Int32) (x4 : Int32) : Nat → Sg → Int32 → Int32 → Int32 × Int32 × Sg
  | 0, π_14, x3, x5 => (x3, x5, π_14)
  | n + 1, π_14, x3, x5 => (if (f5_cells τ) ≤ x5 then (x3, x5, π_14) else (f3_sweepOften_L14 τ ρ x1 x2 x4 n ((f3_tryOne τ ρ π_14 x1).2) (x3 + ((f3_tryOne τ ρ π_14 x1).1)) (x5 + 1)))
theorem f3_sweepOften_L14_s (τ : Sg) (ρ : Sg) (x1 : Int32) (x2 : Int32) (x4 : Int32) (n : Nat) (π_14 : Sg) (x3 : Int32) (x5 : Int32) : f3_sweepOften_L14 τ ρ x1 x2 x4 (n + 1) π_14 x3 x5 = (if (f5_cells τ) ≤ x5 then (x3, x5, π_14) else (f3_sweepOften_L14 τ ρ x1 x2 x4 n ((f3_tryOne τ ρ π_14 x1).2) (x3 + ((f3_tryOne τ ρ π_14 x1).1)) (x5 + 1))) := rfl
def f3_sweepOften_L5 (τ : Sg) (ρ : Sg) (x1 : Int32) (x2 : Int32) : Nat → Sg → Int32 → Int32 → Int32 × Int32 × Sg
  | 0, π_5, x3, x4 => (x3, x4, π_5)
  | n + 1, π_5, x3, x4 => (if x2 ≤ x4 then (x3, x4, π_5) else (if x1 < 8 then (if x1 ≤ 0 then (f3_sweepOften_L5 τ ρ x1 x2 n ((f3_sweepOften_L14 τ ρ x1 x2 x4 8589934592 π_5 x3 0).2.2) ((f3_sweepOften_L14 τ ρ x1 x2 x4 8589934592 π_5 x3 0).1) (x4 + 1)) else (if 4 < x1 then (f3_sweepOften_L5 τ ρ x1 x2 n ((f3_sweepOften_L14 τ ρ x1 x2 x4 8589934592 π_5 x3 0).2.2) ((f3_sweepOften_L14 τ ρ x1 x2 x4 8589934592 π_5 x3 0).1) (x4 + 1)) else (f3_sweepOften_L5 τ ρ x1 x2 n (f3_easeAll τ ((f3_sweepOften_L14 τ ρ x1 x2 x4 8589934592 π_5 x3 0).2.2)) ((f3_sweepOften_L14 τ ρ x1 x2 x4 8589934592 π_5 x3 0).1) (x4 + 1)))) else (if x1 ≤ 0 then (f3_sweepOften_L5 τ ρ x1 x2 n (f3_meltOne τ ((f3_sweepOften_L14 τ ρ x1 x2 x4 8589934592 π_5 x3 0).2.2)) ((f3_sweepOften_L14 τ ρ x1 x2 x4 8589934592 π_5 x3 0).1) (x4 + 1)) else (if 4 < x1 then (f3_sweepOften_L5 τ ρ x1 x2 n (f3_meltOne τ ((f3_sweepOften_L14 τ ρ x1 x2 x4 8589934592 π_5 x3 0).2.2)) ((f3_sweepOften_L14 τ ρ x1 x2 x4 8589934592 π_5 x3 0).1) (x4 + 1)) else (f3_sweepOften_L5 τ ρ x1 x2 n (f3_easeAll τ (f3_meltOne τ ((f3_sweepOften_L14 τ ρ x1 x2 x4 8589934592 π_5 x3 0).2.2))) ((f3_sweepOften_L14 τ ρ x1 x2 x4 8589934592 π_5 x3 0).1) (x4 + 1))))))
theorem f3_sweepOften_L5_s (τ : Sg) (ρ : Sg) (x1 : Int32) (x2 : Int32) (n : Nat) (π_5 : Sg) (x3 : Int32) (x4 : Int32) : f3_sweepOften_L5 τ ρ x1 x2 (n + 1) π_5 x3 x4 = (if x2 ≤ x4 then (x3, x4, π_5) else (if x1 < 8 then (if x1 ≤ 0 then (f3_sweepOften_L5 τ ρ x1 x2 n ((f3_sweepOften_L14 τ ρ x1 x2 x4 8589934592 π_5 x3 0).2.2) ((f3_sweepOften_L14 τ ρ x1 x2 x4 8589934592 π_5 x3 0).1) (x4 + 1)) else (if 4 < x1 then (f3_sweepOften_L5 τ ρ x1 x2 n ((f3_sweepOften_L14 τ ρ x1 x2 x4 8589934592 π_5 x3 0).2.2) ((f3_sweepOften_L14 τ ρ x1 x2 x4 8589934592 π_5 x3 0).1) (x4 + 1)) else (f3_sweepOften_L5 τ ρ x1 x2 n (f3_easeAll τ ((f3_sweepOften_L14 τ ρ x1 x2 x4 8589934592 π_5 x3 0).2.2)) ((f3_sweepOften_L14 τ ρ x1 x2 x4 8589934592 π_5 x3 0).1) (x4 + 1)))) else (if x1 ≤ 0 then (f3_sweepOften_L5 τ ρ x1 x2 n (f3_meltOne τ ((f3_sweepOften_L14 τ ρ x1 x2 x4 8589934592 π_5 x3 0).2.2)) ((f3_sweepOften_L14 τ ρ x1 x2 x4 8589934592 π_5 x3 0).1) (x4 + 1)) else (if 4 < x1 then (f3_sweepOften_L5 τ ρ x1 x2 n (f3_meltOne τ ((f3_sweepOften_L14 τ ρ x1 x2 x4 8589934592 π_5 x3 0).2.2)) ((f3_sweepOften_L14 τ ρ x1 x2 x4 8589934592 π_5 x3 0).1) (x4 + 1)) else (f3_sweepOften_L5 τ ρ x1 x2 n (f3_easeAll τ (f3_meltOne τ ((f3_sweepOften_L14 τ ρ x1 x2 x4 8589934592 π_5 x3 0).2.2))) ((f3_sweepOften_L14 τ ρ x1 x2 x4 8589934592 π_5 x3 0).1) (x4 + 1)))))) := rfl
def f3_sweepOften (τ : Sg) (ρ : Sg) (π : Sg) (a1 : Int32) (a2 : Int32) : Int32 × Sg := ((f3_sweepOften_L5 τ ρ a1 a2 8589934592 π 0 0).1, ((f3_sweepOften_L5 τ ρ a1 a2 8589934592 π 0 0).2.2))
set_option maxHeartbeats 400000 in
set_option maxRecDepth 100000 in
theorem m3_sweepOften (l : Launch) (D : va_G) (cA : ClassId) (ad : Nat → Nat) (had : Apart ad) (τ ρ π γ : Sg) (hT : Ok τ) (a1 : Int32) (a2 : Int32) : Met l yX3_sweepOften (wM yX3_sweepOften cX3_sweepOften 6 (some .int)) ({ frames := 3, cells := 0, slots := 0, locals := 75 }) (va_Pc [.ref (ad 3), .int a1, .int a2] (pS D cA ad τ ρ π γ)) (qV D cA ad τ ρ ((f3_sweepOften τ ρ π a1 a2).2) γ (some (.int ((f3_sweepOften τ ρ π a1 a2).1)))) 0 0 (aS ad) := by
  refine sy_of (by decide) (Nat.le_of_ble_eq_true rfl) ?_
  intro p e s m below meth c ls C hr hlk hK hN hP hl
  obtain ⟨hx, hb, hml, hown, hts⟩ := id C
  have htA : ∀ w ∈ wA, w.before ([.ref (ad 3), .int a1, .int a2] : List Value).toArray s = true := fun w h => hts w (List.mem_cons_of_mem _ h)
  have hl : lv_has ls 6 [(0, .ref (ad 3)), (1, .int a1), (2, .int a2)] := hl
  have hS : va_S (aS ad) s.heap s.heap [] := va_S.rf
  refine lv_iconst (v := 0) hx hb dX3_sweepOften_0 (by decide) ?_
  refine lv_istore_n (lv' := [(3, .int 0), (0, .ref (ad 3)), (1, .int a1), (2, .int a2)]) hx hb dX3_sweepOften_1 rfl hl (by decide) rfl (fun ls hl => ?_)
  refine lv_iconst (v := 0) hx hb dX3_sweepOften_2 (by decide) ?_
  refine lv_istore (lv' := [(4, .int 0), (3, .int 0), (0, .ref (ad 3)), (1, .int a1), (2, .int a2)]) hx hb dX3_sweepOften_3 hl (by decide) rfl (fun ls hl => ?_)
  have hL5 : ∀ (x1 : Int32) (x2 : Int32) (n : Nat) (π_5 : Sg) (x3 : Int32) (x4 : Int32), nm x4 x2 < n → ∀ (H : Heap) (locs : List Loc), va_P D vwCl (wS cA ad τ ρ π_5 γ) H → va_S (aS ad) s.heap H locs → ∀ ls : Array Slot, lv_has ls 6 [(0, .ref (ad 3)), (1, .int x1), (2, .int x2), (3, .int x3), (4, .int x4)] → (∀ (H : Heap) (locs : List Loc), va_P D vwCl (wS cA ad τ ρ ((f3_sweepOften_L5 τ ρ x1 x2 n π_5 x3 x4).2.2) γ) H → va_S (aS ad) s.heap H locs → ∀ ls : Array Slot, lv_has ls 6 [(0, .ref (ad 3)), (1, .int x1), (2, .int x2), (3, .int ((f3_sweepOften_L5 τ ρ x1 x2 n π_5 x3 x4).1)), (4, .int ((f3_sweepOften_L5 τ ρ x1 x2 n π_5 x3 x4).2.1))] → W p l e ({ frames := 3, cells := 0, slots := 0, locals := 75 }) s m ([.ref (ad 3), .int a1, .int a2] : List Value).toArray below meth c H locs 0 0 (MQ below (qV D cA ad τ ρ ((f3_sweepOften τ ρ π a1 a2).2) γ (some (.int ((f3_sweepOften τ ρ π a1 a2).1)))) ([.ref (ad 3), .int a1, .int a2] : List Value).toArray s 0 0 (aS ad)) (F0 m 69 ls [])) → W p l e ({ frames := 3, cells := 0, slots := 0, locals := 75 }) s m ([.ref (ad 3), .int a1, .int a2] : List Value).toArray below meth c H locs 0 0 (MQ below (qV D cA ad τ ρ ((f3_sweepOften τ ρ π a1 a2).2) γ (some (.int ((f3_sweepOften τ ρ π a1 a2).1)))) ([.ref (ad 3), .int a1, .int a2] : List Value).toArray s 0 0 (aS ad)) (F0 m 5 ls []) := by
    intro x1 x2 n
    induction n with
    | zero =>
      intro π_5 x3 x4 hn
      exact absurd hn (Nat.not_lt_zero _)
    | succ n ih =>
      intro π_5 x3 x4 hn H locs hP hS ls hl kk
      refine lv_iload hx hb dX3_sweepOften_5 (lv_at hl 4 rfl) ?_
      refine lv_iload_n hx hb dX3_sweepOften_7 rfl (lv_at hl 2 rfl) ?_
      refine lv_icmp_ge (tgt := 69) hx hb dX3_sweepOften_8 (by decide) (fun c_1 => ?_) (fun c_1 => ?_)
      · have e9 : f3_sweepOften_L5 τ ρ x1 x2 (n + 1) π_5 x3 x4 = (x3, x4, π_5) := by rw [f3_sweepOften_L5_s]; (try rw [if_pos c_1])
        rw [e9] at kk
        exact kk _ _ hP hS ls (lv_sub hl [0, 1, 2, 3, 4] rfl)
      · refine lv_iconst (v := 0) hx hb dX3_sweepOften_11 (by decide) ?_
        refine lv_istore (lv' := [(5, .int 0), (0, .ref (ad 3)), (1, .int x1), (2, .int x2), (3, .int x3), (4, .int x4)]) hx hb dX3_sweepOften_12 hl (by decide) rfl (fun ls hl => ?_)
        have hL14 : ∀ (x1 : Int32) (x2 : Int32) (x4 : Int32) (n : Nat) (π_14 : Sg) (x3 : Int32) (x5 : Int32), nm x5 (f5_cells τ) < n → ∀ (H : Heap) (locs : List Loc), va_P D vwCl (wS cA ad τ ρ π_14 γ) H → va_S (aS ad) s.heap H locs → ∀ ls : Array Slot, lv_has ls 6 [(0, .ref (ad 3)), (1, .int x1), (2, .int x2), (3, .int x3), (4, .int x4), (5, .int x5)] → (∀ (H : Heap) (locs : List Loc), va_P D vwCl (wS cA ad τ ρ ((f3_sweepOften_L14 τ ρ x1 x2 x4 n π_14 x3 x5).2.2) γ) H → va_S (aS ad) s.heap H locs → ∀ ls : Array Slot, lv_has ls 6 [(0, .ref (ad 3)), (1, .int x1), (2, .int x2), (3, .int ((f3_sweepOften_L14 τ ρ x1 x2 x4 n π_14 x3 x5).1)), (4, .int x4), (5, .int ((f3_sweepOften_L14 τ ρ x1 x2 x4 n π_14 x3 x5).2.1))] → W p l e ({ frames := 3, cells := 0, slots := 0, locals := 75 }) s m ([.ref (ad 3), .int a1, .int a2] : List Value).toArray below meth c H locs 0 0 (MQ below (qV D cA ad τ ρ ((f3_sweepOften τ ρ π a1 a2).2) γ (some (.int ((f3_sweepOften τ ρ π a1 a2).1)))) ([.ref (ad 3), .int a1, .int a2] : List Value).toArray s 0 0 (aS ad)) (F0 m 40 ls [])) → W p l e ({ frames := 3, cells := 0, slots := 0, locals := 75 }) s m ([.ref (ad 3), .int a1, .int a2] : List Value).toArray below meth c H locs 0 0 (MQ below (qV D cA ad τ ρ ((f3_sweepOften τ ρ π a1 a2).2) γ (some (.int ((f3_sweepOften τ ρ π a1 a2).1)))) ([.ref (ad 3), .int a1, .int a2] : List Value).toArray s 0 0 (aS ad)) (F0 m 14 ls []) := by
          intro x1 x2 x4 n
          induction n with
          | zero =>
            intro π_14 x3 x5 hn
            exact absurd hn (Nat.not_lt_zero _)
          | succ n ih =>
            intro π_14 x3 x5 hn H locs hP hS ls hl kk
            refine lv_iload hx hb dX3_sweepOften_14 (lv_at hl 5 rfl) ?_
            refine lv_aload_n hx hb dX3_sweepOften_16 rfl (lv_at hl 0 rfl) ?_
            refine gX3_0 hx hb htA hown hK hP dX3_sweepOften_17 ?_
            refine sy_cv (rest := [.int x5]) C hK hN hP (m5_cells l D cA ad τ ρ π_14 γ) (1) 7 rfl rfl kw_183 kw_184 kw_185 kw_16 kw_186 hd_X5_cells ⟨Nat.le_of_ble_eq_true rfl, Nat.le_of_ble_eq_true rfl⟩ rfl rfl rfl hl.1 rfl (Nat.le_of_ble_eq_true rfl) dX3_sweepOften_20 ⟨Nat.zero_le _, Nat.zero_le _⟩ ?_
            refine lv_icmp_ge (tgt := 40) hx hb dX3_sweepOften_23 (by decide) (fun c_2 => ?_) (fun c_2 => ?_)
            · have e9 : f3_sweepOften_L14 τ ρ x1 x2 x4 (n + 1) π_14 x3 x5 = (x3, x5, π_14) := by rw [f3_sweepOften_L14_s]; (try rw [if_pos c_2])
              rw [e9] at kk
              exact kk _ _ hP hS ls (lv_sub hl [0, 1, 2, 3, 4, 5] rfl)
            · refine lv_iload_n hx hb dX3_sweepOften_26 rfl (lv_at hl 3 rfl) ?_
              refine lv_aload_n hx hb dX3_sweepOften_27 rfl (lv_at hl 0 rfl) ?_
              refine lv_iload_n hx hb dX3_sweepOften_28 rfl (lv_at hl 1 rfl) ?_
              refine sy_cvM (rest := [.int x3]) (st1 := [.int ((f3_tryOne τ ρ π_14 x1).1), .int x3]) C hK hN hP (fun _ h => h) hS (m3_tryOne l D cA ad had τ ρ π_14 γ hT x1) (3) 5 rfl rfl kw_479 kw_480 kw_481 kw_24 kw_482 hd_X3_tryOne ⟨Nat.le_of_ble_eq_true rfl, Nat.le_of_ble_eq_true rfl⟩ rfl rfl rfl hl.1 rfl (Nat.le_of_ble_eq_true rfl) dX3_sweepOften_29 ⟨Nat.zero_le _, Nat.zero_le _⟩ rfl (fun H locs hP hS => ?_)
              refine lv_iadd hx hb dX3_sweepOften_32 ?_
              refine lv_istore_n (lv' := [(3, .int (x3 + ((f3_tryOne τ ρ π_14 x1).1))), (0, .ref (ad 3)), (1, .int x1), (2, .int x2), (4, .int x4), (5, .int x5)]) hx hb dX3_sweepOften_33 rfl hl (by decide) rfl (fun ls hl => ?_)
              refine lv_iinc (v := x5 + 1) (lv' := [(5, .int (x5 + 1)), (3, .int (x3 + ((f3_tryOne τ ρ π_14 x1).1))), (0, .ref (ad 3)), (1, .int x1), (2, .int x2), (4, .int x4)]) hx hb dX3_sweepOften_34 hl (k := 5) rfl (by rfl) (by decide) rfl (fun ls hl => ?_)
              refine lv_goto (tgt := 14) hx hb dX3_sweepOften_37 (by decide) ?_
              have e9 : f3_sweepOften_L14 τ ρ x1 x2 x4 (n + 1) π_14 x3 x5 = f3_sweepOften_L14 τ ρ x1 x2 x4 n ((f3_tryOne τ ρ π_14 x1).2) (x3 + ((f3_tryOne τ ρ π_14 x1).1)) (x5 + 1) := by rw [f3_sweepOften_L14_s]; (try rw [if_neg c_2])
              rw [e9] at kk
              exact ih ((f3_tryOne τ ρ π_14 x1).2) (x3 + ((f3_tryOne τ ρ π_14 x1).1)) (x5 + 1) (nm_dec (Int32.not_le.mp c_2) hn) _ _ hP hS ls (lv_sub hl [2, 3, 4, 1, 5, 0] rfl) kk
        refine hL14 x1 x2 x4 8589934592 π_5 x3 0 (nm_lt _ _) _ _ hP hS ls (lv_sub hl [1, 2, 3, 4, 5, 0] rfl) (fun H locs hP hS ls hl => ?_)
        refine lv_iload_n hx hb dX3_sweepOften_40 rfl (lv_at hl 1 rfl) ?_
        refine lv_bipush (v := 8) hx hb dX3_sweepOften_41 (by decide) ?_
        refine lv_icmp_lt (tgt := 50) hx hb dX3_sweepOften_43 (by decide) (fun c_3 => ?_) (fun c_3 => ?_)
        · refine lv_iload_n hx hb dX3_sweepOften_50 rfl (lv_at hl 1 rfl) ?_
          refine lv_if_le (tgt := 63) hx hb dX3_sweepOften_51 (by decide) (fun c_4 => ?_) (fun c_4 => ?_)
          · refine lv_iinc (v := x4 + 1) (lv' := [(4, .int (x4 + 1)), (0, .ref (ad 3)), (1, .int x1), (2, .int x2), (3, .int ((f3_sweepOften_L14 τ ρ x1 x2 x4 8589934592 π_5 x3 0).1)), (5, .int ((f3_sweepOften_L14 τ ρ x1 x2 x4 8589934592 π_5 x3 0).2.1))]) hx hb dX3_sweepOften_63 hl (k := 4) rfl (by rfl) (by decide) rfl (fun ls hl => ?_)
            refine lv_goto (tgt := 5) hx hb dX3_sweepOften_66 (by decide) ?_
            have e9 : f3_sweepOften_L5 τ ρ x1 x2 (n + 1) π_5 x3 x4 = f3_sweepOften_L5 τ ρ x1 x2 n ((f3_sweepOften_L14 τ ρ x1 x2 x4 8589934592 π_5 x3 0).2.2) ((f3_sweepOften_L14 τ ρ x1 x2 x4 8589934592 π_5 x3 0).1) (x4 + 1) := by rw [f3_sweepOften_L5_s]; (try rw [if_neg c_1]); (try rw [if_pos c_3]); (try rw [if_pos c_4])
            rw [e9] at kk
            exact ih ((f3_sweepOften_L14 τ ρ x1 x2 x4 8589934592 π_5 x3 0).2.2) ((f3_sweepOften_L14 τ ρ x1 x2 x4 8589934592 π_5 x3 0).1) (x4 + 1) (nm_dec (Int32.not_le.mp c_1) hn) _ _ hP hS ls (lv_sub hl [1, 2, 3, 4, 0] rfl) kk
          · refine lv_iload_n hx hb dX3_sweepOften_54 rfl (lv_at hl 1 rfl) ?_
            refine lv_iconst (v := 4) hx hb dX3_sweepOften_55 (by decide) ?_
            refine lv_icmp_gt (tgt := 63) hx hb dX3_sweepOften_56 (by decide) (fun c_5 => ?_) (fun c_5 => ?_)
            · refine lv_iinc (v := x4 + 1) (lv' := [(4, .int (x4 + 1)), (0, .ref (ad 3)), (1, .int x1), (2, .int x2), (3, .int ((f3_sweepOften_L14 τ ρ x1 x2 x4 8589934592 π_5 x3 0).1)), (5, .int ((f3_sweepOften_L14 τ ρ x1 x2 x4 8589934592 π_5 x3 0).2.1))]) hx hb dX3_sweepOften_63 hl (k := 4) rfl (by rfl) (by decide) rfl (fun ls hl => ?_)
              refine lv_goto (tgt := 5) hx hb dX3_sweepOften_66 (by decide) ?_
              have e9 : f3_sweepOften_L5 τ ρ x1 x2 (n + 1) π_5 x3 x4 = f3_sweepOften_L5 τ ρ x1 x2 n ((f3_sweepOften_L14 τ ρ x1 x2 x4 8589934592 π_5 x3 0).2.2) ((f3_sweepOften_L14 τ ρ x1 x2 x4 8589934592 π_5 x3 0).1) (x4 + 1) := by rw [f3_sweepOften_L5_s]; (try rw [if_neg c_1]); (try rw [if_pos c_3]); (try rw [if_neg c_4]); (try rw [if_pos c_5])
              rw [e9] at kk
              exact ih ((f3_sweepOften_L14 τ ρ x1 x2 x4 8589934592 π_5 x3 0).2.2) ((f3_sweepOften_L14 τ ρ x1 x2 x4 8589934592 π_5 x3 0).1) (x4 + 1) (nm_dec (Int32.not_le.mp c_1) hn) _ _ hP hS ls (lv_sub hl [1, 2, 3, 4, 0] rfl) kk
            · refine lv_aload_n hx hb dX3_sweepOften_59 rfl (lv_at hl 0 rfl) ?_
              refine sy_cvM (rest := []) (st1 := []) C hK hN hP (fun _ h => h) hS (m3_easeAll l D cA ad had τ ρ ((f3_sweepOften_L14 τ ρ x1 x2 x4 8589934592 π_5 x3 0).2.2) γ) (3) 5 rfl rfl kw_496 kw_497 kw_498 kw_24 kw_499 hd_X3_easeAll ⟨Nat.le_of_ble_eq_true rfl, Nat.le_of_ble_eq_true rfl⟩ rfl rfl rfl hl.1 rfl (Nat.le_of_ble_eq_true rfl) dX3_sweepOften_60 ⟨Nat.zero_le _, Nat.zero_le _⟩ rfl (fun H locs hP hS => ?_)
              refine lv_iinc (v := x4 + 1) (lv' := [(4, .int (x4 + 1)), (0, .ref (ad 3)), (1, .int x1), (2, .int x2), (3, .int ((f3_sweepOften_L14 τ ρ x1 x2 x4 8589934592 π_5 x3 0).1)), (5, .int ((f3_sweepOften_L14 τ ρ x1 x2 x4 8589934592 π_5 x3 0).2.1))]) hx hb dX3_sweepOften_63 hl (k := 4) rfl (by rfl) (by decide) rfl (fun ls hl => ?_)
              refine lv_goto (tgt := 5) hx hb dX3_sweepOften_66 (by decide) ?_
              have e9 : f3_sweepOften_L5 τ ρ x1 x2 (n + 1) π_5 x3 x4 = f3_sweepOften_L5 τ ρ x1 x2 n (f3_easeAll τ ((f3_sweepOften_L14 τ ρ x1 x2 x4 8589934592 π_5 x3 0).2.2)) ((f3_sweepOften_L14 τ ρ x1 x2 x4 8589934592 π_5 x3 0).1) (x4 + 1) := by rw [f3_sweepOften_L5_s]; (try rw [if_neg c_1]); (try rw [if_pos c_3]); (try rw [if_neg c_4]); (try rw [if_neg c_5])
              rw [e9] at kk
              exact ih (f3_easeAll τ ((f3_sweepOften_L14 τ ρ x1 x2 x4 8589934592 π_5 x3 0).2.2)) ((f3_sweepOften_L14 τ ρ x1 x2 x4 8589934592 π_5 x3 0).1) (x4 + 1) (nm_dec (Int32.not_le.mp c_1) hn) _ _ hP hS ls (lv_sub hl [1, 2, 3, 4, 0] rfl) kk
        · refine lv_aload_n hx hb dX3_sweepOften_46 rfl (lv_at hl 0 rfl) ?_
          refine sy_cvM (rest := []) (st1 := []) C hK hN hP (fun _ h => h) hS (m3_meltOne l D cA ad had τ ρ ((f3_sweepOften_L14 τ ρ x1 x2 x4 8589934592 π_5 x3 0).2.2) γ hT) (3) 5 rfl rfl kw_488 kw_489 kw_490 kw_24 kw_491 hd_X3_meltOne ⟨Nat.le_of_ble_eq_true rfl, Nat.le_of_ble_eq_true rfl⟩ rfl rfl rfl hl.1 rfl (Nat.le_of_ble_eq_true rfl) dX3_sweepOften_47 ⟨Nat.zero_le _, Nat.zero_le _⟩ rfl (fun H locs hP hS => ?_)
          refine lv_iload_n hx hb dX3_sweepOften_50 rfl (lv_at hl 1 rfl) ?_
          refine lv_if_le (tgt := 63) hx hb dX3_sweepOften_51 (by decide) (fun c_6 => ?_) (fun c_6 => ?_)
          · refine lv_iinc (v := x4 + 1) (lv' := [(4, .int (x4 + 1)), (0, .ref (ad 3)), (1, .int x1), (2, .int x2), (3, .int ((f3_sweepOften_L14 τ ρ x1 x2 x4 8589934592 π_5 x3 0).1)), (5, .int ((f3_sweepOften_L14 τ ρ x1 x2 x4 8589934592 π_5 x3 0).2.1))]) hx hb dX3_sweepOften_63 hl (k := 4) rfl (by rfl) (by decide) rfl (fun ls hl => ?_)
            refine lv_goto (tgt := 5) hx hb dX3_sweepOften_66 (by decide) ?_
            have e9 : f3_sweepOften_L5 τ ρ x1 x2 (n + 1) π_5 x3 x4 = f3_sweepOften_L5 τ ρ x1 x2 n (f3_meltOne τ ((f3_sweepOften_L14 τ ρ x1 x2 x4 8589934592 π_5 x3 0).2.2)) ((f3_sweepOften_L14 τ ρ x1 x2 x4 8589934592 π_5 x3 0).1) (x4 + 1) := by rw [f3_sweepOften_L5_s]; (try rw [if_neg c_1]); (try rw [if_neg c_3]); (try rw [if_pos c_6])
            rw [e9] at kk
            exact ih (f3_meltOne τ ((f3_sweepOften_L14 τ ρ x1 x2 x4 8589934592 π_5 x3 0).2.2)) ((f3_sweepOften_L14 τ ρ x1 x2 x4 8589934592 π_5 x3 0).1) (x4 + 1) (nm_dec (Int32.not_le.mp c_1) hn) _ _ hP hS ls (lv_sub hl [1, 2, 3, 4, 0] rfl) kk
          · refine lv_iload_n hx hb dX3_sweepOften_54 rfl (lv_at hl 1 rfl) ?_
            refine lv_iconst (v := 4) hx hb dX3_sweepOften_55 (by decide) ?_
            refine lv_icmp_gt (tgt := 63) hx hb dX3_sweepOften_56 (by decide) (fun c_7 => ?_) (fun c_7 => ?_)
            · refine lv_iinc (v := x4 + 1) (lv' := [(4, .int (x4 + 1)), (0, .ref (ad 3)), (1, .int x1), (2, .int x2), (3, .int ((f3_sweepOften_L14 τ ρ x1 x2 x4 8589934592 π_5 x3 0).1)), (5, .int ((f3_sweepOften_L14 τ ρ x1 x2 x4 8589934592 π_5 x3 0).2.1))]) hx hb dX3_sweepOften_63 hl (k := 4) rfl (by rfl) (by decide) rfl (fun ls hl => ?_)
              refine lv_goto (tgt := 5) hx hb dX3_sweepOften_66 (by decide) ?_
              have e9 : f3_sweepOften_L5 τ ρ x1 x2 (n + 1) π_5 x3 x4 = f3_sweepOften_L5 τ ρ x1 x2 n (f3_meltOne τ ((f3_sweepOften_L14 τ ρ x1 x2 x4 8589934592 π_5 x3 0).2.2)) ((f3_sweepOften_L14 τ ρ x1 x2 x4 8589934592 π_5 x3 0).1) (x4 + 1) := by rw [f3_sweepOften_L5_s]; (try rw [if_neg c_1]); (try rw [if_neg c_3]); (try rw [if_neg c_6]); (try rw [if_pos c_7])
              rw [e9] at kk
              exact ih (f3_meltOne τ ((f3_sweepOften_L14 τ ρ x1 x2 x4 8589934592 π_5 x3 0).2.2)) ((f3_sweepOften_L14 τ ρ x1 x2 x4 8589934592 π_5 x3 0).1) (x4 + 1) (nm_dec (Int32.not_le.mp c_1) hn) _ _ hP hS ls (lv_sub hl [1, 2, 3, 4, 0] rfl) kk
            · refine lv_aload_n hx hb dX3_sweepOften_59 rfl (lv_at hl 0 rfl) ?_
              refine sy_cvM (rest := []) (st1 := []) C hK hN hP (fun _ h => h) hS (m3_easeAll l D cA ad had τ ρ (f3_meltOne τ ((f3_sweepOften_L14 τ ρ x1 x2 x4 8589934592 π_5 x3 0).2.2)) γ) (3) 5 rfl rfl kw_496 kw_497 kw_498 kw_24 kw_499 hd_X3_easeAll ⟨Nat.le_of_ble_eq_true rfl, Nat.le_of_ble_eq_true rfl⟩ rfl rfl rfl hl.1 rfl (Nat.le_of_ble_eq_true rfl) dX3_sweepOften_60 ⟨Nat.zero_le _, Nat.zero_le _⟩ rfl (fun H locs hP hS => ?_)
              refine lv_iinc (v := x4 + 1) (lv' := [(4, .int (x4 + 1)), (0, .ref (ad 3)), (1, .int x1), (2, .int x2), (3, .int ((f3_sweepOften_L14 τ ρ x1 x2 x4 8589934592 π_5 x3 0).1)), (5, .int ((f3_sweepOften_L14 τ ρ x1 x2 x4 8589934592 π_5 x3 0).2.1))]) hx hb dX3_sweepOften_63 hl (k := 4) rfl (by rfl) (by decide) rfl (fun ls hl => ?_)
              refine lv_goto (tgt := 5) hx hb dX3_sweepOften_66 (by decide) ?_
              have e9 : f3_sweepOften_L5 τ ρ x1 x2 (n + 1) π_5 x3 x4 = f3_sweepOften_L5 τ ρ x1 x2 n (f3_easeAll τ (f3_meltOne τ ((f3_sweepOften_L14 τ ρ x1 x2 x4 8589934592 π_5 x3 0).2.2))) ((f3_sweepOften_L14 τ ρ x1 x2 x4 8589934592 π_5 x3 0).1) (x4 + 1) := by rw [f3_sweepOften_L5_s]; (try rw [if_neg c_1]); (try rw [if_neg c_3]); (try rw [if_neg c_6]); (try rw [if_neg c_7])
              rw [e9] at kk
              exact ih (f3_easeAll τ (f3_meltOne τ ((f3_sweepOften_L14 τ ρ x1 x2 x4 8589934592 π_5 x3 0).2.2))) ((f3_sweepOften_L14 τ ρ x1 x2 x4 8589934592 π_5 x3 0).1) (x4 + 1) (nm_dec (Int32.not_le.mp c_1) hn) _ _ hP hS ls (lv_sub hl [1, 2, 3, 4, 0] rfl) kk
  refine hL5 a1 a2 8589934592 π 0 0 (nm_lt _ _) _ _ hP hS ls (lv_sub hl [2, 3, 4, 1, 0] rfl) (fun H locs hP hS ls hl => ?_)
  refine lv_iload_n hx hb dX3_sweepOften_69 rfl (lv_at hl 3 rfl) ?_
  have e9 : ((f3_sweepOften_L5 τ ρ a1 a2 8589934592 π 0 0).1, ((f3_sweepOften_L5 τ ρ a1 a2 8589934592 π 0 0).2.2)) = f3_sweepOften τ ρ π a1 a2 := rfl
  exact sy_retVI hx hb hr hlk hP hS rfl (by rw [← e9]) (by rw [← e9]) dX3_sweepOften_70
/-- X3_bear -/
theorem hd_X3_bear : yX3_bear.cls = yX3_bear.cls ∧ yX3_bear.cls ≠ "java/lang/invoke/MethodHandle" ∧ yX3_bear.cls ≠ "java/lang/invoke/VarHandle" ∧ (parseMethodDescriptor yX3_bear.desc).map (fun d => d.parameters.length) = some 1 := by decide +kernel
def f3_bear_L4 (τ : Sg) (x1 : Int32) : Nat → Sg → Int32 → Int32 → Int32 × Int32 × Sg
  | 0, π_4, x2, x3 => (x2, x3, π_4)
  | n + 1, π_4, x2, x3 => (if (f5_cells τ) ≤ x3 then (x2, x3, π_4) else (if (f3_isBearing τ π_4 x3 x1) = 0 then (f3_bear_L4 τ x1 n π_4 x2 (x3 + 1)) else (f3_bear_L4 τ x1 n (f3_putWork (f3_putMark ((f3_drawBelow π_4 9).2) x3 (1 + ((f3_drawBelow π_4 9).1))) x3 0) (x2 + 1) (x3 + 1))))
theorem f3_bear_L4_s (τ : Sg) (x1 : Int32) (n : Nat) (π_4 : Sg) (x2 : Int32) (x3 : Int32) : f3_bear_L4 τ x1 (n + 1) π_4 x2 x3 = (if (f5_cells τ) ≤ x3 then (x2, x3, π_4) else (if (f3_isBearing τ π_4 x3 x1) = 0 then (f3_bear_L4 τ x1 n π_4 x2 (x3 + 1)) else (f3_bear_L4 τ x1 n (f3_putWork (f3_putMark ((f3_drawBelow π_4 9).2) x3 (1 + ((f3_drawBelow π_4 9).1))) x3 0) (x2 + 1) (x3 + 1)))) := rfl
def f3_bear (τ : Sg) (π : Sg) (a1 : Int32) : Int32 × Sg := ((f3_bear_L4 τ a1 8589934592 π 0 0).1, ((f3_bear_L4 τ a1 8589934592 π 0 0).2.2))
set_option maxHeartbeats 400000 in
set_option maxRecDepth 100000 in
theorem m3_bear (l : Launch) (D : va_G) (cA : ClassId) (ad : Nat → Nat) (had : Apart ad) (τ ρ π γ : Sg) (hT : Ok τ) (a1 : Int32) : Met l yX3_bear (wM yX3_bear cX3_bear 4 (some .int)) ({ frames := 2, cells := 0, slots := 0, locals := 47 }) (va_Pc [.ref (ad 3), .int a1] (pS D cA ad τ ρ π γ)) (qV D cA ad τ ρ ((f3_bear τ π a1).2) γ (some (.int ((f3_bear τ π a1).1)))) 0 0 (aS ad) := by
  refine sy_of (by decide) (Nat.le_of_ble_eq_true rfl) ?_
  intro p e s m below meth c ls C hr hlk hK hN hP hl
  obtain ⟨hx, hb, hml, hown, hts⟩ := id C
  have htA : ∀ w ∈ wA, w.before ([.ref (ad 3), .int a1] : List Value).toArray s = true := fun w h => hts w (List.mem_cons_of_mem _ h)
  have hl : lv_has ls 4 [(0, .ref (ad 3)), (1, .int a1)] := hl
  have hS : va_S (aS ad) s.heap s.heap [] := va_S.rf
  refine lv_iconst (v := 0) hx hb dX3_bear_0 (by decide) ?_
  refine lv_istore_n (lv' := [(2, .int 0), (0, .ref (ad 3)), (1, .int a1)]) hx hb dX3_bear_1 rfl hl (by decide) rfl (fun ls hl => ?_)
  refine lv_iconst (v := 0) hx hb dX3_bear_2 (by decide) ?_
  refine lv_istore_n (lv' := [(3, .int 0), (2, .int 0), (0, .ref (ad 3)), (1, .int a1)]) hx hb dX3_bear_3 rfl hl (by decide) rfl (fun ls hl => ?_)
  have hL4 : ∀ (x1 : Int32) (n : Nat) (π_4 : Sg) (x2 : Int32) (x3 : Int32), nm x3 (f5_cells τ) < n → ∀ (H : Heap) (locs : List Loc), va_P D vwCl (wS cA ad τ ρ π_4 γ) H → va_S (aS ad) s.heap H locs → ∀ ls : Array Slot, lv_has ls 4 [(0, .ref (ad 3)), (1, .int x1), (2, .int x2), (3, .int x3)] → (∀ (H : Heap) (locs : List Loc), va_P D vwCl (wS cA ad τ ρ ((f3_bear_L4 τ x1 n π_4 x2 x3).2.2) γ) H → va_S (aS ad) s.heap H locs → ∀ ls : Array Slot, lv_has ls 4 [(0, .ref (ad 3)), (1, .int x1), (2, .int ((f3_bear_L4 τ x1 n π_4 x2 x3).1)), (3, .int ((f3_bear_L4 τ x1 n π_4 x2 x3).2.1))] → W p l e ({ frames := 2, cells := 0, slots := 0, locals := 47 }) s m ([.ref (ad 3), .int a1] : List Value).toArray below meth c H locs 0 0 (MQ below (qV D cA ad τ ρ ((f3_bear τ π a1).2) γ (some (.int ((f3_bear τ π a1).1)))) ([.ref (ad 3), .int a1] : List Value).toArray s 0 0 (aS ad)) (F0 m 52 ls [])) → W p l e ({ frames := 2, cells := 0, slots := 0, locals := 47 }) s m ([.ref (ad 3), .int a1] : List Value).toArray below meth c H locs 0 0 (MQ below (qV D cA ad τ ρ ((f3_bear τ π a1).2) γ (some (.int ((f3_bear τ π a1).1)))) ([.ref (ad 3), .int a1] : List Value).toArray s 0 0 (aS ad)) (F0 m 4 ls []) := by
    intro x1 n
    induction n with
    | zero =>
      intro π_4 x2 x3 hn
      exact absurd hn (Nat.not_lt_zero _)
    | succ n ih =>
      intro π_4 x2 x3 hn H locs hP hS ls hl kk
      refine lv_iload_n hx hb dX3_bear_4 rfl (lv_at hl 3 rfl) ?_
      refine lv_aload_n hx hb dX3_bear_5 rfl (lv_at hl 0 rfl) ?_
      refine gX3_0 hx hb htA hown hK hP dX3_bear_6 ?_
      refine sy_cv (rest := [.int x3]) C hK hN hP (m5_cells l D cA ad τ ρ π_4 γ) (1) 7 rfl rfl kw_183 kw_184 kw_185 kw_16 kw_186 hd_X5_cells ⟨Nat.le_of_ble_eq_true rfl, Nat.le_of_ble_eq_true rfl⟩ rfl rfl rfl hl.1 rfl (Nat.le_of_ble_eq_true rfl) dX3_bear_9 ⟨Nat.zero_le _, Nat.zero_le _⟩ ?_
      refine lv_icmp_ge (tgt := 52) hx hb dX3_bear_12 (by decide) (fun c_1 => ?_) (fun c_1 => ?_)
      · have e9 : f3_bear_L4 τ x1 (n + 1) π_4 x2 x3 = (x2, x3, π_4) := by rw [f3_bear_L4_s]; (try rw [if_pos c_1])
        rw [e9] at kk
        exact kk _ _ hP hS ls (lv_sub hl [0, 1, 2, 3] rfl)
      · refine lv_aload_n hx hb dX3_bear_15 rfl (lv_at hl 0 rfl) ?_
        refine lv_iload_n hx hb dX3_bear_16 rfl (lv_at hl 3 rfl) ?_
        refine lv_iload_n hx hb dX3_bear_17 rfl (lv_at hl 1 rfl) ?_
        refine sy_cv (rest := []) C hK hN hP (m3_isBearing l D cA ad τ ρ π_4 γ hT x3 x1) (3) 5 rfl rfl kw_519 kw_520 kw_521 kw_24 kw_522 hd_X3_isBearing ⟨Nat.le_of_ble_eq_true rfl, Nat.le_of_ble_eq_true rfl⟩ rfl rfl rfl hl.1 rfl (Nat.le_of_ble_eq_true rfl) dX3_bear_18 ⟨Nat.zero_le _, Nat.zero_le _⟩ ?_
        refine lv_if_eq (tgt := 46) hx hb dX3_bear_21 (by decide) (fun c_2 => ?_) (fun c_2 => ?_)
        · refine lv_iinc (v := x3 + 1) (lv' := [(3, .int (x3 + 1)), (0, .ref (ad 3)), (1, .int x1), (2, .int x2)]) hx hb dX3_bear_46 hl (k := 3) rfl (by rfl) (by decide) rfl (fun ls hl => ?_)
          refine lv_goto (tgt := 4) hx hb dX3_bear_49 (by decide) ?_
          have e9 : f3_bear_L4 τ x1 (n + 1) π_4 x2 x3 = f3_bear_L4 τ x1 n π_4 x2 (x3 + 1) := by rw [f3_bear_L4_s]; (try rw [if_neg c_1]); (try rw [if_pos c_2])
          rw [e9] at kk
          exact ih π_4 x2 (x3 + 1) (nm_dec (Int32.not_le.mp c_1) hn) _ _ hP hS ls (lv_sub hl [1, 2, 3, 0] rfl) kk
        · refine lv_aload_n hx hb dX3_bear_24 rfl (lv_at hl 0 rfl) ?_
          refine lv_iload_n hx hb dX3_bear_25 rfl (lv_at hl 3 rfl) ?_
          refine lv_iconst (v := 1) hx hb dX3_bear_26 (by decide) ?_
          refine lv_aload_n hx hb dX3_bear_27 rfl (lv_at hl 0 rfl) ?_
          refine lv_bipush (v := 9) hx hb dX3_bear_28 (by decide) ?_
          refine sy_cvM (rest := [.int 1, .int x3, .ref (ad 3)]) (st1 := [.int ((f3_drawBelow π_4 9).1), .int 1, .int x3, .ref (ad 3)]) C hK hN hP (fun _ h => h) hS (m3_drawBelow l D cA ad had τ ρ π_4 γ 9) (3) 5 rfl rfl kw_187 kw_188 kw_189 kw_24 kw_190 hd_X3_drawBelow ⟨Nat.le_of_ble_eq_true rfl, Nat.le_of_ble_eq_true rfl⟩ rfl rfl rfl hl.1 rfl (Nat.le_of_ble_eq_true rfl) dX3_bear_30 ⟨Nat.zero_le _, Nat.zero_le _⟩ rfl (fun H locs hP hS => ?_)
          refine lv_iadd hx hb dX3_bear_33 ?_
          refine sy_cvM (rest := []) (st1 := []) C hK hN hP (fun _ h => h) hS (m3_putMark l D cA ad had τ ρ ((f3_drawBelow π_4 9).2) γ x3 (1 + ((f3_drawBelow π_4 9).1))) (3) 5 rfl rfl kw_191 kw_192 kw_193 kw_24 kw_194 hd_X3_putMark ⟨Nat.le_of_ble_eq_true rfl, Nat.le_of_ble_eq_true rfl⟩ rfl rfl rfl hl.1 rfl (Nat.le_of_ble_eq_true rfl) dX3_bear_34 ⟨Nat.zero_le _, Nat.zero_le _⟩ rfl (fun H locs hP hS => ?_)
          refine lv_aload_n hx hb dX3_bear_37 rfl (lv_at hl 0 rfl) ?_
          refine lv_iload_n hx hb dX3_bear_38 rfl (lv_at hl 3 rfl) ?_
          refine lv_iconst (v := 0) hx hb dX3_bear_39 (by decide) ?_
          refine sy_cvM (rest := []) (st1 := []) C hK hN hP (fun _ h => h) hS (m3_putWork l D cA ad had τ ρ (f3_putMark ((f3_drawBelow π_4 9).2) x3 (1 + ((f3_drawBelow π_4 9).1))) γ x3 0) (3) 5 rfl rfl kw_487 kw_304 kw_305 kw_24 kw_306 hd_X3_putWork ⟨Nat.le_of_ble_eq_true rfl, Nat.le_of_ble_eq_true rfl⟩ rfl rfl rfl hl.1 rfl (Nat.le_of_ble_eq_true rfl) dX3_bear_40 ⟨Nat.zero_le _, Nat.zero_le _⟩ rfl (fun H locs hP hS => ?_)
          refine lv_iinc (v := x2 + 1) (lv' := [(2, .int (x2 + 1)), (0, .ref (ad 3)), (1, .int x1), (3, .int x3)]) hx hb dX3_bear_43 hl (k := 2) rfl (by rfl) (by decide) rfl (fun ls hl => ?_)
          refine lv_iinc (v := x3 + 1) (lv' := [(3, .int (x3 + 1)), (2, .int (x2 + 1)), (0, .ref (ad 3)), (1, .int x1)]) hx hb dX3_bear_46 hl (k := 3) rfl (by rfl) (by decide) rfl (fun ls hl => ?_)
          refine lv_goto (tgt := 4) hx hb dX3_bear_49 (by decide) ?_
          have e9 : f3_bear_L4 τ x1 (n + 1) π_4 x2 x3 = f3_bear_L4 τ x1 n (f3_putWork (f3_putMark ((f3_drawBelow π_4 9).2) x3 (1 + ((f3_drawBelow π_4 9).1))) x3 0) (x2 + 1) (x3 + 1) := by rw [f3_bear_L4_s]; (try rw [if_neg c_1]); (try rw [if_neg c_2])
          rw [e9] at kk
          exact ih (f3_putWork (f3_putMark ((f3_drawBelow π_4 9).2) x3 (1 + ((f3_drawBelow π_4 9).1))) x3 0) (x2 + 1) (x3 + 1) (nm_dec (Int32.not_le.mp c_1) hn) _ _ hP hS ls (lv_sub hl [2, 3, 1, 0] rfl) kk
  refine hL4 a1 8589934592 π 0 0 (nm_lt _ _) _ _ hP hS ls (lv_sub hl [2, 3, 1, 0] rfl) (fun H locs hP hS ls hl => ?_)
  refine lv_iload_n hx hb dX3_bear_52 rfl (lv_at hl 2 rfl) ?_
  have e9 : ((f3_bear_L4 τ a1 8589934592 π 0 0).1, ((f3_bear_L4 τ a1 8589934592 π 0 0).2.2)) = f3_bear τ π a1 := rfl
  exact sy_retVI hx hb hr hlk hP hS rfl (by rw [← e9]) (by rw [← e9]) dX3_bear_53
/-- X3_hardenOne -/
theorem hd_X3_hardenOne : yX3_hardenOne.cls = yX3_hardenOne.cls ∧ yX3_hardenOne.cls ≠ "java/lang/invoke/MethodHandle" ∧ yX3_hardenOne.cls ≠ "java/lang/invoke/VarHandle" ∧ (parseMethodDescriptor yX3_hardenOne.desc).map (fun d => d.parameters.length) = some 0 := by decide +kernel
def f3_hardenOne_L4 (τ : Sg) (π : Sg) : Nat → Int32 → Int32 → Int32 × Int32
  | 0, x1, x2 => (x1, x2)
  | n + 1, x1, x2 => (if (f5_cells τ) ≤ x2 then (x1, x2) else (if (f3_markAt π x2) = 0 then (f3_hardenOne_L4 τ π n x1 (x2 + 1)) else (if (f3_hardAt π x2) = 0 then (if x1 = (-1) then (f3_hardenOne_L4 τ π n x2 (x2 + 1)) else (if (f3_workAt π x2) ≤ (f3_workAt π x1) then (f3_hardenOne_L4 τ π n x1 (x2 + 1)) else (f3_hardenOne_L4 τ π n x2 (x2 + 1)))) else (f3_hardenOne_L4 τ π n x1 (x2 + 1)))))
theorem f3_hardenOne_L4_s (τ : Sg) (π : Sg) (n : Nat) (x1 : Int32) (x2 : Int32) : f3_hardenOne_L4 τ π (n + 1) x1 x2 = (if (f5_cells τ) ≤ x2 then (x1, x2) else (if (f3_markAt π x2) = 0 then (f3_hardenOne_L4 τ π n x1 (x2 + 1)) else (if (f3_hardAt π x2) = 0 then (if x1 = (-1) then (f3_hardenOne_L4 τ π n x2 (x2 + 1)) else (if (f3_workAt π x2) ≤ (f3_workAt π x1) then (f3_hardenOne_L4 τ π n x1 (x2 + 1)) else (f3_hardenOne_L4 τ π n x2 (x2 + 1)))) else (f3_hardenOne_L4 τ π n x1 (x2 + 1))))) := rfl
def f3_hardenOne (τ : Sg) (π : Sg) : Int32 × Sg := (if ((f3_hardenOne_L4 τ π 8589934592 (-1) 0).1) = (-1) then (0, (f3_putHard π ((f3_hardenOne_L4 τ π 8589934592 (-1) 0).1) 1)) else (1, (f3_putHard π ((f3_hardenOne_L4 τ π 8589934592 (-1) 0).1) 1)))
set_option maxHeartbeats 400000 in
set_option maxRecDepth 100000 in
theorem m3_hardenOne (l : Launch) (D : va_G) (cA : ClassId) (ad : Nat → Nat) (had : Apart ad) (τ ρ π γ : Sg) : Met l yX3_hardenOne (wM yX3_hardenOne cX3_hardenOne 4 (some .int)) ({ frames := 1, cells := 0, slots := 0, locals := 22 }) (va_Pc [.ref (ad 3)] (pS D cA ad τ ρ π γ)) (qV D cA ad τ ρ ((f3_hardenOne τ π).2) γ (some (.int ((f3_hardenOne τ π).1)))) 0 0 (aS ad) := by
  refine sy_of (by decide) (Nat.le_of_ble_eq_true rfl) ?_
  intro p e s m below meth c ls C hr hlk hK hN hP hl
  obtain ⟨hx, hb, hml, hown, hts⟩ := id C
  have htA : ∀ w ∈ wA, w.before ([.ref (ad 3)] : List Value).toArray s = true := fun w h => hts w (List.mem_cons_of_mem _ h)
  have hl : lv_has ls 4 [(0, .ref (ad 3))] := hl
  have hS : va_S (aS ad) s.heap s.heap [] := va_S.rf
  refine lv_iconst (v := (-1)) hx hb dX3_hardenOne_0 (by decide) ?_
  refine lv_istore_n (lv' := [(1, .int (-1)), (0, .ref (ad 3))]) hx hb dX3_hardenOne_1 rfl hl (by decide) rfl (fun ls hl => ?_)
  refine lv_iconst (v := 0) hx hb dX3_hardenOne_2 (by decide) ?_
  refine lv_istore_n (lv' := [(2, .int 0), (1, .int (-1)), (0, .ref (ad 3))]) hx hb dX3_hardenOne_3 rfl hl (by decide) rfl (fun ls hl => ?_)
  have hL4 : ∀ (n : Nat) (x1 : Int32) (x2 : Int32), nm x2 (f5_cells τ) < n → ∀ (H : Heap) (locs : List Loc), va_P D vwCl (wS cA ad τ ρ π γ) H → va_S (aS ad) s.heap H locs → ∀ ls : Array Slot, lv_has ls 4 [(0, .ref (ad 3)), (1, .int x1), (2, .int x2)] → (∀ (H : Heap) (locs : List Loc), va_P D vwCl (wS cA ad τ ρ π γ) H → va_S (aS ad) s.heap H locs → ∀ ls : Array Slot, lv_has ls 4 [(0, .ref (ad 3)), (1, .int ((f3_hardenOne_L4 τ π n x1 x2).1)), (2, .int ((f3_hardenOne_L4 τ π n x1 x2).2))] → W p l e ({ frames := 1, cells := 0, slots := 0, locals := 22 }) s m ([.ref (ad 3)] : List Value).toArray below meth c H locs 0 0 (MQ below (qV D cA ad τ ρ ((f3_hardenOne τ π).2) γ (some (.int ((f3_hardenOne τ π).1)))) ([.ref (ad 3)] : List Value).toArray s 0 0 (aS ad)) (F0 m 67 ls [])) → W p l e ({ frames := 1, cells := 0, slots := 0, locals := 22 }) s m ([.ref (ad 3)] : List Value).toArray below meth c H locs 0 0 (MQ below (qV D cA ad τ ρ ((f3_hardenOne τ π).2) γ (some (.int ((f3_hardenOne τ π).1)))) ([.ref (ad 3)] : List Value).toArray s 0 0 (aS ad)) (F0 m 4 ls []) := by
    intro  n
    induction n with
    | zero =>
      intro x1 x2 hn
      exact absurd hn (Nat.not_lt_zero _)
    | succ n ih =>
      intro x1 x2 hn H locs hP hS ls hl kk
      refine lv_iload_n hx hb dX3_hardenOne_4 rfl (lv_at hl 2 rfl) ?_
      refine lv_aload_n hx hb dX3_hardenOne_5 rfl (lv_at hl 0 rfl) ?_
      refine gX3_0 hx hb htA hown hK hP dX3_hardenOne_6 ?_
      refine sy_cv (rest := [.int x2]) C hK hN hP (m5_cells l D cA ad τ ρ π γ) (1) 7 rfl rfl kw_183 kw_184 kw_185 kw_16 kw_186 hd_X5_cells ⟨Nat.le_of_ble_eq_true rfl, Nat.le_of_ble_eq_true rfl⟩ rfl rfl rfl hl.1 rfl (Nat.le_of_ble_eq_true rfl) dX3_hardenOne_9 ⟨Nat.zero_le _, Nat.zero_le _⟩ ?_
      refine lv_icmp_ge (tgt := 67) hx hb dX3_hardenOne_12 (by decide) (fun c_1 => ?_) (fun c_1 => ?_)
      · have e9 : f3_hardenOne_L4 τ π (n + 1) x1 x2 = (x1, x2) := by rw [f3_hardenOne_L4_s]; (try rw [if_pos c_1])
        rw [e9] at kk
        exact kk _ _ hP hS ls (lv_sub hl [0, 1, 2] rfl)
      · refine lv_aload_n hx hb dX3_hardenOne_15 rfl (lv_at hl 0 rfl) ?_
        refine lv_iload_n hx hb dX3_hardenOne_16 rfl (lv_at hl 2 rfl) ?_
        refine sy_cv (rest := []) C hK hN hP (m3_markAt l D cA ad τ ρ π γ x2) (3) 5 rfl rfl kw_292 kw_206 kw_207 kw_24 kw_208 hd_X3_markAt ⟨Nat.le_of_ble_eq_true rfl, Nat.le_of_ble_eq_true rfl⟩ rfl rfl rfl hl.1 rfl (Nat.le_of_ble_eq_true rfl) dX3_hardenOne_17 ⟨Nat.zero_le _, Nat.zero_le _⟩ ?_
        refine lv_if_eq (tgt := 35) hx hb dX3_hardenOne_20 (by decide) (fun c_2 => ?_) (fun c_2 => ?_)
        · refine lv_iconst (v := 0) hx hb dX3_hardenOne_35 (by decide) ?_
          refine lv_istore_n (lv' := [(3, .int 0), (0, .ref (ad 3)), (1, .int x1), (2, .int x2)]) hx hb dX3_hardenOne_36 rfl hl (by decide) rfl (fun ls hl => ?_)
          refine lv_iload_n hx hb dX3_hardenOne_37 rfl (lv_at hl 0 rfl) ?_
          refine lv_if_eq (tgt := 61) hx hb dX3_hardenOne_38 (by decide) (fun c_3 => ?_) (fun c_3 => ?_)
          · refine lv_iinc (v := x2 + 1) (lv' := [(2, .int (x2 + 1)), (3, .int 0), (0, .ref (ad 3)), (1, .int x1)]) hx hb dX3_hardenOne_61 hl (k := 3) rfl (by rfl) (by decide) rfl (fun ls hl => ?_)
            refine lv_goto (tgt := 4) hx hb dX3_hardenOne_64 (by decide) ?_
            have e9 : f3_hardenOne_L4 τ π (n + 1) x1 x2 = f3_hardenOne_L4 τ π n x1 (x2 + 1) := by rw [f3_hardenOne_L4_s]; (try rw [if_neg c_1]); (try rw [if_pos c_2]); (try rw [if_pos c_3])
            rw [e9] at kk
            exact ih x1 (x2 + 1) (nm_dec (Int32.not_le.mp c_1) hn) _ _ hP hS ls (lv_sub hl [2, 3, 0] rfl) kk
          · exact absurd c_3 (by decide)
        · refine lv_aload_n hx hb dX3_hardenOne_23 rfl (lv_at hl 0 rfl) ?_
          refine lv_iload_n hx hb dX3_hardenOne_24 rfl (lv_at hl 2 rfl) ?_
          refine sy_cv (rest := []) C hK hN hP (m3_hardAt l D cA ad τ ρ π γ x2) (3) 5 rfl rfl kw_364 kw_277 kw_278 kw_24 kw_279 hd_X3_hardAt ⟨Nat.le_of_ble_eq_true rfl, Nat.le_of_ble_eq_true rfl⟩ rfl rfl rfl hl.1 rfl (Nat.le_of_ble_eq_true rfl) dX3_hardenOne_25 ⟨Nat.zero_le _, Nat.zero_le _⟩ ?_
          refine lv_if_ne (tgt := 35) hx hb dX3_hardenOne_28 (by decide) (fun c_4 => ?_) (fun c_4 => ?_)
          · refine lv_iconst (v := 0) hx hb dX3_hardenOne_35 (by decide) ?_
            refine lv_istore_n (lv' := [(3, .int 0), (0, .ref (ad 3)), (1, .int x1), (2, .int x2)]) hx hb dX3_hardenOne_36 rfl hl (by decide) rfl (fun ls hl => ?_)
            refine lv_iload_n hx hb dX3_hardenOne_37 rfl (lv_at hl 0 rfl) ?_
            refine lv_if_eq (tgt := 61) hx hb dX3_hardenOne_38 (by decide) (fun c_5 => ?_) (fun c_5 => ?_)
            · refine lv_iinc (v := x2 + 1) (lv' := [(2, .int (x2 + 1)), (3, .int 0), (0, .ref (ad 3)), (1, .int x1)]) hx hb dX3_hardenOne_61 hl (k := 3) rfl (by rfl) (by decide) rfl (fun ls hl => ?_)
              refine lv_goto (tgt := 4) hx hb dX3_hardenOne_64 (by decide) ?_
              have e9 : f3_hardenOne_L4 τ π (n + 1) x1 x2 = f3_hardenOne_L4 τ π n x1 (x2 + 1) := by rw [f3_hardenOne_L4_s]; (try rw [if_neg c_1]); (try rw [if_neg c_2]); (try rw [if_neg c_4]); (try rw [if_pos c_5])
              rw [e9] at kk
              exact ih x1 (x2 + 1) (nm_dec (Int32.not_le.mp c_1) hn) _ _ hP hS ls (lv_sub hl [2, 3, 0] rfl) kk
            · exact absurd c_5 (by decide)
          · refine lv_iconst (v := 1) hx hb dX3_hardenOne_31 (by decide) ?_
            refine lv_goto (tgt := 36) hx hb dX3_hardenOne_32 (by decide) ?_
            refine lv_istore_n (lv' := [(3, .int 1), (0, .ref (ad 3)), (1, .int x1), (2, .int x2)]) hx hb dX3_hardenOne_36 rfl hl (by decide) rfl (fun ls hl => ?_)
            refine lv_iload_n hx hb dX3_hardenOne_37 rfl (lv_at hl 0 rfl) ?_
            refine lv_if_eq (tgt := 61) hx hb dX3_hardenOne_38 (by decide) (fun c_6 => ?_) (fun c_6 => ?_)
            · exact absurd c_6 (by decide)
            · refine lv_iload_n hx hb dX3_hardenOne_41 rfl (lv_at hl 2 rfl) ?_
              refine lv_iconst (v := (-1)) hx hb dX3_hardenOne_42 (by decide) ?_
              refine lv_icmp_eq (tgt := 59) hx hb dX3_hardenOne_43 (by decide) (fun c_7 => ?_) (fun c_7 => ?_)
              · refine lv_iload_n hx hb dX3_hardenOne_59 rfl (lv_at hl 3 rfl) ?_
                refine lv_istore_n (lv' := [(1, .int x2), (3, .int 1), (0, .ref (ad 3)), (2, .int x2)]) hx hb dX3_hardenOne_60 rfl hl (by decide) rfl (fun ls hl => ?_)
                refine lv_iinc (v := x2 + 1) (lv' := [(2, .int (x2 + 1)), (1, .int x2), (3, .int 1), (0, .ref (ad 3))]) hx hb dX3_hardenOne_61 hl (k := 3) rfl (by rfl) (by decide) rfl (fun ls hl => ?_)
                refine lv_goto (tgt := 4) hx hb dX3_hardenOne_64 (by decide) ?_
                have e9 : f3_hardenOne_L4 τ π (n + 1) x1 x2 = f3_hardenOne_L4 τ π n x2 (x2 + 1) := by rw [f3_hardenOne_L4_s]; (try rw [if_neg c_1]); (try rw [if_neg c_2]); (try rw [if_pos c_4]); (try rw [if_neg c_6]); (try rw [if_pos c_7])
                rw [e9] at kk
                exact ih x2 (x2 + 1) (nm_dec (Int32.not_le.mp c_1) hn) _ _ hP hS ls (lv_sub hl [3, 1, 0] rfl) kk
              · refine lv_aload_n hx hb dX3_hardenOne_46 rfl (lv_at hl 1 rfl) ?_
                refine lv_iload_n hx hb dX3_hardenOne_47 rfl (lv_at hl 3 rfl) ?_
                refine sy_cv (rest := []) C hK hN hP (m3_workAt l D cA ad τ ρ π γ x2) (3) 5 rfl rfl kw_365 kw_273 kw_274 kw_24 kw_275 hd_X3_workAt ⟨Nat.le_of_ble_eq_true rfl, Nat.le_of_ble_eq_true rfl⟩ rfl rfl rfl hl.1 rfl (Nat.le_of_ble_eq_true rfl) dX3_hardenOne_48 ⟨Nat.zero_le _, Nat.zero_le _⟩ ?_
                refine lv_aload_n hx hb dX3_hardenOne_51 rfl (lv_at hl 1 rfl) ?_
                refine lv_iload_n hx hb dX3_hardenOne_52 rfl (lv_at hl 2 rfl) ?_
                refine sy_cv (rest := [.int (f3_workAt π x2)]) C hK hN hP (m3_workAt l D cA ad τ ρ π γ x1) (3) 5 rfl rfl kw_365 kw_273 kw_274 kw_24 kw_275 hd_X3_workAt ⟨Nat.le_of_ble_eq_true rfl, Nat.le_of_ble_eq_true rfl⟩ rfl rfl rfl hl.1 rfl (Nat.le_of_ble_eq_true rfl) dX3_hardenOne_53 ⟨Nat.zero_le _, Nat.zero_le _⟩ ?_
                refine lv_icmp_le (tgt := 61) hx hb dX3_hardenOne_56 (by decide) (fun c_8 => ?_) (fun c_8 => ?_)
                · refine lv_iinc (v := x2 + 1) (lv' := [(2, .int (x2 + 1)), (3, .int 1), (0, .ref (ad 3)), (1, .int x1)]) hx hb dX3_hardenOne_61 hl (k := 3) rfl (by rfl) (by decide) rfl (fun ls hl => ?_)
                  refine lv_goto (tgt := 4) hx hb dX3_hardenOne_64 (by decide) ?_
                  have e9 : f3_hardenOne_L4 τ π (n + 1) x1 x2 = f3_hardenOne_L4 τ π n x1 (x2 + 1) := by rw [f3_hardenOne_L4_s]; (try rw [if_neg c_1]); (try rw [if_neg c_2]); (try rw [if_pos c_4]); (try rw [if_neg c_6]); (try rw [if_neg c_7]); (try rw [if_pos c_8])
                  rw [e9] at kk
                  exact ih x1 (x2 + 1) (nm_dec (Int32.not_le.mp c_1) hn) _ _ hP hS ls (lv_sub hl [2, 3, 0] rfl) kk
                · refine lv_iload_n hx hb dX3_hardenOne_59 rfl (lv_at hl 3 rfl) ?_
                  refine lv_istore_n (lv' := [(1, .int x2), (3, .int 1), (0, .ref (ad 3)), (2, .int x2)]) hx hb dX3_hardenOne_60 rfl hl (by decide) rfl (fun ls hl => ?_)
                  refine lv_iinc (v := x2 + 1) (lv' := [(2, .int (x2 + 1)), (1, .int x2), (3, .int 1), (0, .ref (ad 3))]) hx hb dX3_hardenOne_61 hl (k := 3) rfl (by rfl) (by decide) rfl (fun ls hl => ?_)
                  refine lv_goto (tgt := 4) hx hb dX3_hardenOne_64 (by decide) ?_
                  have e9 : f3_hardenOne_L4 τ π (n + 1) x1 x2 = f3_hardenOne_L4 τ π n x2 (x2 + 1) := by rw [f3_hardenOne_L4_s]; (try rw [if_neg c_1]); (try rw [if_neg c_2]); (try rw [if_pos c_4]); (try rw [if_neg c_6]); (try rw [if_neg c_7]); (try rw [if_neg c_8])
                  rw [e9] at kk
                  exact ih x2 (x2 + 1) (nm_dec (Int32.not_le.mp c_1) hn) _ _ hP hS ls (lv_sub hl [3, 1, 0] rfl) kk
  refine hL4 8589934592 (-1) 0 (nm_lt _ _) _ _ hP hS ls (lv_sub hl [2, 1, 0] rfl) (fun H locs hP hS ls hl => ?_)
  refine lv_aload_n hx hb dX3_hardenOne_67 rfl (lv_at hl 0 rfl) ?_
  refine lv_iload_n hx hb dX3_hardenOne_68 rfl (lv_at hl 1 rfl) ?_
  refine lv_iconst (v := 1) hx hb dX3_hardenOne_69 (by decide) ?_
  refine sy_cvM (rest := []) (st1 := []) C hK hN hP (fun _ h => h) hS (m3_putHard l D cA ad had τ ρ π γ ((f3_hardenOne_L4 τ π 8589934592 (-1) 0).1) 1) (3) 5 rfl rfl kw_366 kw_313 kw_314 kw_24 kw_315 hd_X3_putHard ⟨Nat.le_of_ble_eq_true rfl, Nat.le_of_ble_eq_true rfl⟩ rfl rfl rfl hl.1 rfl (Nat.le_of_ble_eq_true rfl) dX3_hardenOne_70 ⟨Nat.zero_le _, Nat.zero_le _⟩ rfl (fun H locs hP hS => ?_)
  refine lv_iload_n hx hb dX3_hardenOne_73 rfl (lv_at hl 1 rfl) ?_
  refine lv_iconst (v := (-1)) hx hb dX3_hardenOne_74 (by decide) ?_
  refine lv_icmp_ne (tgt := 82) hx hb dX3_hardenOne_75 (by decide) (fun c_9 => ?_) (fun c_9 => ?_)
  · refine lv_iconst (v := 1) hx hb dX3_hardenOne_82 (by decide) ?_
    have e9 : (1, (f3_putHard π ((f3_hardenOne_L4 τ π 8589934592 (-1) 0).1) 1)) = f3_hardenOne τ π := by unfold f3_hardenOne; (try rw [if_neg c_9])
    exact sy_retVI hx hb hr hlk hP hS rfl (by rw [← e9]) (by rw [← e9]) dX3_hardenOne_83
  · refine lv_iconst (v := 0) hx hb dX3_hardenOne_78 (by decide) ?_
    refine lv_goto (tgt := 83) hx hb dX3_hardenOne_79 (by decide) ?_
    have e9 : (0, (f3_putHard π ((f3_hardenOne_L4 τ π 8589934592 (-1) 0).1) 1)) = f3_hardenOne τ π := by unfold f3_hardenOne; (try rw [if_pos c_9])
    exact sy_retVI hx hb hr hlk hP hS rfl (by rw [← e9]) (by rw [← e9]) dX3_hardenOne_83
/-- X3_coolDown -/
theorem hd_X3_coolDown : yX3_coolDown.cls = yX3_coolDown.cls ∧ yX3_coolDown.cls ≠ "java/lang/invoke/MethodHandle" ∧ yX3_coolDown.cls ≠ "java/lang/invoke/VarHandle" ∧ (parseMethodDescriptor yX3_coolDown.desc).map (fun d => d.parameters.length) = some 3 := by decide +kernel
def f3_coolDown_L42 (τ : Sg) (ρ : Sg) (x1 : Int32) (x2 : Int32) (x3 : Int32) (x6 : Int32) (x7 : Int32) (x8 : Int32) : Nat → Sg → Int32 → Int32 → Int32 × Int32 × Sg
  | 0, π_42, x4, x5 => (x4, x5, π_42)
  | n + 1, π_42, x4, x5 => (if x5 < 1000 then (x4, x5, π_42) else (f3_coolDown_L42 τ ρ x1 x2 x3 x6 x7 x8 n ((f3_hardenOne τ π_42).2) (x4 + ((f3_hardenOne τ π_42).1)) (x5 + Int32.ofInt (-1000))))
theorem f3_coolDown_L42_s (τ : Sg) (ρ : Sg) (x1 : Int32) (x2 : Int32) (x3 : Int32) (x6 : Int32) (x7 : Int32) (x8 : Int32) (n : Nat) (π_42 : Sg) (x4 : Int32) (x5 : Int32) : f3_coolDown_L42 τ ρ x1 x2 x3 x6 x7 x8 (n + 1) π_42 x4 x5 = (if x5 < 1000 then (x4, x5, π_42) else (f3_coolDown_L42 τ ρ x1 x2 x3 x6 x7 x8 n ((f3_hardenOne τ π_42).2) (x4 + ((f3_hardenOne τ π_42).1)) (x5 + Int32.ofInt (-1000)))) := rfl
def f3_coolDown_L29 (τ : Sg) (ρ : Sg) (x1 : Int32) (x2 : Int32) (x3 : Int32) (x6 : Int32) (x7 : Int32) : Nat → Sg → Int32 → Int32 → Int32 → Int32 × Int32 × Int32 × Sg
  | 0, π_29, x4, x5, x8 => (x4, x5, x8, π_29)
  | n + 1, π_29, x4, x5, x8 => (if x3 ≤ x8 then (x4, x5, x8, π_29) else (f3_coolDown_L29 τ ρ x1 x2 x3 x6 x7 n ((f3_coolDown_L42 τ ρ x1 x2 x3 x6 x7 x8 8589934592 π_29 x4 (x5 + x7)).2.2) ((f3_coolDown_L42 τ ρ x1 x2 x3 x6 x7 x8 8589934592 π_29 x4 (x5 + x7)).1) ((f3_coolDown_L42 τ ρ x1 x2 x3 x6 x7 x8 8589934592 π_29 x4 (x5 + x7)).2.1) (x8 + 1)))
theorem f3_coolDown_L29_s (τ : Sg) (ρ : Sg) (x1 : Int32) (x2 : Int32) (x3 : Int32) (x6 : Int32) (x7 : Int32) (n : Nat) (π_29 : Sg) (x4 : Int32) (x5 : Int32) (x8 : Int32) : f3_coolDown_L29 τ ρ x1 x2 x3 x6 x7 (n + 1) π_29 x4 x5 x8 = (if x3 ≤ x8 then (x4, x5, x8, π_29) else (f3_coolDown_L29 τ ρ x1 x2 x3 x6 x7 n ((f3_coolDown_L42 τ ρ x1 x2 x3 x6 x7 x8 8589934592 π_29 x4 (x5 + x7)).2.2) ((f3_coolDown_L42 τ ρ x1 x2 x3 x6 x7 x8 8589934592 π_29 x4 (x5 + x7)).1) ((f3_coolDown_L42 τ ρ x1 x2 x3 x6 x7 x8 8589934592 π_29 x4 (x5 + x7)).2.1) (x8 + 1))) := rfl
def f3_coolDown_L9 (τ : Sg) (ρ : Sg) (x1 : Int32) (x2 : Int32) (x3 : Int32) : Nat → Sg → Int32 → Int32 → Int32 → Int32 × Int32 × Int32 × Sg
  | 0, π_9, x4, x5, x6 => (x4, x5, x6, π_9)
  | n + 1, π_9, x4, x5, x6 => (if x6 < x2 then (x4, x5, x6, π_9) else (f3_coolDown_L9 τ ρ x1 x2 x3 n ((f3_coolDown_L29 τ ρ x1 x2 x3 x6 (f4_tickAt ρ x6) 8589934592 π_9 x4 x5 0).2.2.2) ((f3_coolDown_L29 τ ρ x1 x2 x3 x6 (f4_tickAt ρ x6) 8589934592 π_9 x4 x5 0).1) ((f3_coolDown_L29 τ ρ x1 x2 x3 x6 (f4_tickAt ρ x6) 8589934592 π_9 x4 x5 0).2.1) (x6 + Int32.ofInt (-1))))
theorem f3_coolDown_L9_s (τ : Sg) (ρ : Sg) (x1 : Int32) (x2 : Int32) (x3 : Int32) (n : Nat) (π_9 : Sg) (x4 : Int32) (x5 : Int32) (x6 : Int32) : f3_coolDown_L9 τ ρ x1 x2 x3 (n + 1) π_9 x4 x5 x6 = (if x6 < x2 then (x4, x5, x6, π_9) else (f3_coolDown_L9 τ ρ x1 x2 x3 n ((f3_coolDown_L29 τ ρ x1 x2 x3 x6 (f4_tickAt ρ x6) 8589934592 π_9 x4 x5 0).2.2.2) ((f3_coolDown_L29 τ ρ x1 x2 x3 x6 (f4_tickAt ρ x6) 8589934592 π_9 x4 x5 0).1) ((f3_coolDown_L29 τ ρ x1 x2 x3 x6 (f4_tickAt ρ x6) 8589934592 π_9 x4 x5 0).2.1) (x6 + Int32.ofInt (-1)))) := rfl
def f3_coolDown (τ : Sg) (ρ : Sg) (π : Sg) (a1 : Int32) (a2 : Int32) (a3 : Int32) : Int32 × Sg := ((f3_coolDown_L9 τ ρ a1 a2 a3 8589934592 π 0 0 a1).1, ((f3_coolDown_L9 τ ρ a1 a2 a3 8589934592 π 0 0 a1).2.2.2))
set_option maxHeartbeats 400000 in
set_option maxRecDepth 100000 in
theorem m3_coolDown (l : Launch) (D : va_G) (cA : ClassId) (ad : Nat → Nat) (had : Apart ad) (τ ρ π γ : Sg) (a1 : Int32) (a2 : Int32) (a3 : Int32) (hpos : 0 ≤ a2) : Met l yX3_coolDown (wM yX3_coolDown cX3_coolDown 9 (some .int)) ({ frames := 2, cells := 0, slots := 0, locals := 45 }) (va_Pc [.ref (ad 3), .int a1, .int a2, .int a3] (pS D cA ad τ ρ π γ)) (qV D cA ad τ ρ ((f3_coolDown τ ρ π a1 a2 a3).2) γ (some (.int ((f3_coolDown τ ρ π a1 a2 a3).1)))) 0 0 (aS ad) := by
  refine sy_of (by decide) (Nat.le_of_ble_eq_true rfl) ?_
  intro p e s m below meth c ls C hr hlk hK hN hP hl
  obtain ⟨hx, hb, hml, hown, hts⟩ := id C
  have htA : ∀ w ∈ wA, w.before ([.ref (ad 3), .int a1, .int a2, .int a3] : List Value).toArray s = true := fun w h => hts w (List.mem_cons_of_mem _ h)
  have hl : lv_has ls 9 [(0, .ref (ad 3)), (1, .int a1), (2, .int a2), (3, .int a3)] := hl
  have hS : va_S (aS ad) s.heap s.heap [] := va_S.rf
  refine lv_iconst (v := 0) hx hb dX3_coolDown_0 (by decide) ?_
  refine lv_istore (lv' := [(4, .int 0), (0, .ref (ad 3)), (1, .int a1), (2, .int a2), (3, .int a3)]) hx hb dX3_coolDown_1 hl (by decide) rfl (fun ls hl => ?_)
  refine lv_iconst (v := 0) hx hb dX3_coolDown_3 (by decide) ?_
  refine lv_istore (lv' := [(5, .int 0), (4, .int 0), (0, .ref (ad 3)), (1, .int a1), (2, .int a2), (3, .int a3)]) hx hb dX3_coolDown_4 hl (by decide) rfl (fun ls hl => ?_)
  refine lv_iload_n hx hb dX3_coolDown_6 rfl (lv_at hl 3 rfl) ?_
  refine lv_istore (lv' := [(6, .int a1), (5, .int 0), (4, .int 0), (0, .ref (ad 3)), (1, .int a1), (2, .int a2), (3, .int a3)]) hx hb dX3_coolDown_7 hl (by decide) rfl (fun ls hl => ?_)
  have hL9 : ∀ (x1 : Int32) (x2 : Int32) (x3 : Int32) (n : Nat) (π_9 : Sg) (x4 : Int32) (x5 : Int32) (x6 : Int32), 0 ≤ x2 → nmd x6 x2 < n → ∀ (H : Heap) (locs : List Loc), va_P D vwCl (wS cA ad τ ρ π_9 γ) H → va_S (aS ad) s.heap H locs → ∀ ls : Array Slot, lv_has ls 9 [(0, .ref (ad 3)), (1, .int x1), (2, .int x2), (3, .int x3), (4, .int x4), (5, .int x5), (6, .int x6)] → (∀ (H : Heap) (locs : List Loc), va_P D vwCl (wS cA ad τ ρ ((f3_coolDown_L9 τ ρ x1 x2 x3 n π_9 x4 x5 x6).2.2.2) γ) H → va_S (aS ad) s.heap H locs → ∀ ls : Array Slot, lv_has ls 9 [(0, .ref (ad 3)), (1, .int x1), (2, .int x2), (3, .int x3), (4, .int ((f3_coolDown_L9 τ ρ x1 x2 x3 n π_9 x4 x5 x6).1)), (5, .int ((f3_coolDown_L9 τ ρ x1 x2 x3 n π_9 x4 x5 x6).2.1)), (6, .int ((f3_coolDown_L9 τ ρ x1 x2 x3 n π_9 x4 x5 x6).2.2.1))] → W p l e ({ frames := 2, cells := 0, slots := 0, locals := 45 }) s m ([.ref (ad 3), .int a1, .int a2, .int a3] : List Value).toArray below meth c H locs 0 0 (MQ below (qV D cA ad τ ρ ((f3_coolDown τ ρ π a1 a2 a3).2) γ (some (.int ((f3_coolDown τ ρ π a1 a2 a3).1)))) ([.ref (ad 3), .int a1, .int a2, .int a3] : List Value).toArray s 0 0 (aS ad)) (F0 m 80 ls [])) → W p l e ({ frames := 2, cells := 0, slots := 0, locals := 45 }) s m ([.ref (ad 3), .int a1, .int a2, .int a3] : List Value).toArray below meth c H locs 0 0 (MQ below (qV D cA ad τ ρ ((f3_coolDown τ ρ π a1 a2 a3).2) γ (some (.int ((f3_coolDown τ ρ π a1 a2 a3).1)))) ([.ref (ad 3), .int a1, .int a2, .int a3] : List Value).toArray s 0 0 (aS ad)) (F0 m 9 ls []) := by
    intro x1 x2 x3 n
    induction n with
    | zero =>
      intro π_9 x4 x5 x6 hy hn
      exact absurd hn (Nat.not_lt_zero _)
    | succ n ih =>
      intro π_9 x4 x5 x6 hy hn H locs hP hS ls hl kk
      refine lv_iload hx hb dX3_coolDown_9 (lv_at hl 6 rfl) ?_
      refine lv_iload_n hx hb dX3_coolDown_11 rfl (lv_at hl 2 rfl) ?_
      refine lv_icmp_lt (tgt := 80) hx hb dX3_coolDown_12 (by decide) (fun c_1 => ?_) (fun c_1 => ?_)
      · have e9 : f3_coolDown_L9 τ ρ x1 x2 x3 (n + 1) π_9 x4 x5 x6 = (x4, x5, x6, π_9) := by rw [f3_coolDown_L9_s]; (try rw [if_pos c_1])
        rw [e9] at kk
        exact kk _ _ hP hS ls (lv_sub hl [0, 1, 2, 3, 4, 5, 6] rfl)
      · refine lv_aload_n hx hb dX3_coolDown_15 rfl (lv_at hl 0 rfl) ?_
        refine gX3_1 hx hb htA hown hK hP dX3_coolDown_16 ?_
        refine lv_iload hx hb dX3_coolDown_19 (lv_at hl 6 rfl) ?_
        refine sy_cv (rest := []) C hK hN hP (m4_tickAt l D cA ad τ ρ π_9 γ x6) (2) 6 rfl rfl kw_355 kw_356 kw_357 kw_20 kw_358 hd_X4_tickAt ⟨Nat.le_of_ble_eq_true rfl, Nat.le_of_ble_eq_true rfl⟩ rfl rfl rfl hl.1 rfl (Nat.le_of_ble_eq_true rfl) dX3_coolDown_21 ⟨Nat.zero_le _, Nat.zero_le _⟩ ?_
        refine lv_istore (lv' := [(7, .int (f4_tickAt ρ x6)), (0, .ref (ad 3)), (1, .int x1), (2, .int x2), (3, .int x3), (4, .int x4), (5, .int x5), (6, .int x6)]) hx hb dX3_coolDown_24 hl (by decide) rfl (fun ls hl => ?_)
        refine lv_iconst (v := 0) hx hb dX3_coolDown_26 (by decide) ?_
        refine lv_istore (lv' := [(8, .int 0), (7, .int (f4_tickAt ρ x6)), (0, .ref (ad 3)), (1, .int x1), (2, .int x2), (3, .int x3), (4, .int x4), (5, .int x5), (6, .int x6)]) hx hb dX3_coolDown_27 hl (by decide) rfl (fun ls hl => ?_)
        have hL29 : ∀ (x1 : Int32) (x2 : Int32) (x3 : Int32) (x6 : Int32) (x7 : Int32) (n : Nat) (π_29 : Sg) (x4 : Int32) (x5 : Int32) (x8 : Int32), nm x8 x3 < n → ∀ (H : Heap) (locs : List Loc), va_P D vwCl (wS cA ad τ ρ π_29 γ) H → va_S (aS ad) s.heap H locs → ∀ ls : Array Slot, lv_has ls 9 [(0, .ref (ad 3)), (1, .int x1), (2, .int x2), (3, .int x3), (4, .int x4), (5, .int x5), (6, .int x6), (7, .int x7), (8, .int x8)] → (∀ (H : Heap) (locs : List Loc), va_P D vwCl (wS cA ad τ ρ ((f3_coolDown_L29 τ ρ x1 x2 x3 x6 x7 n π_29 x4 x5 x8).2.2.2) γ) H → va_S (aS ad) s.heap H locs → ∀ ls : Array Slot, lv_has ls 9 [(0, .ref (ad 3)), (1, .int x1), (2, .int x2), (3, .int x3), (4, .int ((f3_coolDown_L29 τ ρ x1 x2 x3 x6 x7 n π_29 x4 x5 x8).1)), (5, .int ((f3_coolDown_L29 τ ρ x1 x2 x3 x6 x7 n π_29 x4 x5 x8).2.1)), (6, .int x6), (7, .int x7), (8, .int ((f3_coolDown_L29 τ ρ x1 x2 x3 x6 x7 n π_29 x4 x5 x8).2.2.1))] → W p l e ({ frames := 2, cells := 0, slots := 0, locals := 45 }) s m ([.ref (ad 3), .int a1, .int a2, .int a3] : List Value).toArray below meth c H locs 0 0 (MQ below (qV D cA ad τ ρ ((f3_coolDown τ ρ π a1 a2 a3).2) γ (some (.int ((f3_coolDown τ ρ π a1 a2 a3).1)))) ([.ref (ad 3), .int a1, .int a2, .int a3] : List Value).toArray s 0 0 (aS ad)) (F0 m 74 ls [])) → W p l e ({ frames := 2, cells := 0, slots := 0, locals := 45 }) s m ([.ref (ad 3), .int a1, .int a2, .int a3] : List Value).toArray below meth c H locs 0 0 (MQ below (qV D cA ad τ ρ ((f3_coolDown τ ρ π a1 a2 a3).2) γ (some (.int ((f3_coolDown τ ρ π a1 a2 a3).1)))) ([.ref (ad 3), .int a1, .int a2, .int a3] : List Value).toArray s 0 0 (aS ad)) (F0 m 29 ls []) := by
          intro x1 x2 x3 x6 x7 n
          induction n with
          | zero =>
            intro π_29 x4 x5 x8 hn
            exact absurd hn (Nat.not_lt_zero _)
          | succ n ih =>
            intro π_29 x4 x5 x8 hn H locs hP hS ls hl kk
            refine lv_iload hx hb dX3_coolDown_29 (lv_at hl 8 rfl) ?_
            refine lv_iload_n hx hb dX3_coolDown_31 rfl (lv_at hl 3 rfl) ?_
            refine lv_icmp_ge (tgt := 74) hx hb dX3_coolDown_32 (by decide) (fun c_2 => ?_) (fun c_2 => ?_)
            · have e9 : f3_coolDown_L29 τ ρ x1 x2 x3 x6 x7 (n + 1) π_29 x4 x5 x8 = (x4, x5, x8, π_29) := by rw [f3_coolDown_L29_s]; (try rw [if_pos c_2])
              rw [e9] at kk
              exact kk _ _ hP hS ls (lv_sub hl [0, 1, 2, 3, 4, 5, 6, 7, 8] rfl)
            · refine lv_iload hx hb dX3_coolDown_35 (lv_at hl 5 rfl) ?_
              refine lv_iload hx hb dX3_coolDown_37 (lv_at hl 7 rfl) ?_
              refine lv_iadd hx hb dX3_coolDown_39 ?_
              refine lv_istore (lv' := [(5, .int (x5 + x7)), (0, .ref (ad 3)), (1, .int x1), (2, .int x2), (3, .int x3), (4, .int x4), (6, .int x6), (7, .int x7), (8, .int x8)]) hx hb dX3_coolDown_40 hl (by decide) rfl (fun ls hl => ?_)
              have hL42 : ∀ (x1 : Int32) (x2 : Int32) (x3 : Int32) (x6 : Int32) (x7 : Int32) (x8 : Int32) (n : Nat) (π_42 : Sg) (x4 : Int32) (x5 : Int32), x5.toInt.toNat < n → ∀ (H : Heap) (locs : List Loc), va_P D vwCl (wS cA ad τ ρ π_42 γ) H → va_S (aS ad) s.heap H locs → ∀ ls : Array Slot, lv_has ls 9 [(0, .ref (ad 3)), (1, .int x1), (2, .int x2), (3, .int x3), (4, .int x4), (5, .int x5), (6, .int x6), (7, .int x7), (8, .int x8)] → (∀ (H : Heap) (locs : List Loc), va_P D vwCl (wS cA ad τ ρ ((f3_coolDown_L42 τ ρ x1 x2 x3 x6 x7 x8 n π_42 x4 x5).2.2) γ) H → va_S (aS ad) s.heap H locs → ∀ ls : Array Slot, lv_has ls 9 [(0, .ref (ad 3)), (1, .int x1), (2, .int x2), (3, .int x3), (4, .int ((f3_coolDown_L42 τ ρ x1 x2 x3 x6 x7 x8 n π_42 x4 x5).1)), (5, .int ((f3_coolDown_L42 τ ρ x1 x2 x3 x6 x7 x8 n π_42 x4 x5).2.1)), (6, .int x6), (7, .int x7), (8, .int x8)] → W p l e ({ frames := 2, cells := 0, slots := 0, locals := 45 }) s m ([.ref (ad 3), .int a1, .int a2, .int a3] : List Value).toArray below meth c H locs 0 0 (MQ below (qV D cA ad τ ρ ((f3_coolDown τ ρ π a1 a2 a3).2) γ (some (.int ((f3_coolDown τ ρ π a1 a2 a3).1)))) ([.ref (ad 3), .int a1, .int a2, .int a3] : List Value).toArray s 0 0 (aS ad)) (F0 m 68 ls [])) → W p l e ({ frames := 2, cells := 0, slots := 0, locals := 45 }) s m ([.ref (ad 3), .int a1, .int a2, .int a3] : List Value).toArray below meth c H locs 0 0 (MQ below (qV D cA ad τ ρ ((f3_coolDown τ ρ π a1 a2 a3).2) γ (some (.int ((f3_coolDown τ ρ π a1 a2 a3).1)))) ([.ref (ad 3), .int a1, .int a2, .int a3] : List Value).toArray s 0 0 (aS ad)) (F0 m 42 ls []) := by
                intro x1 x2 x3 x6 x7 x8 n
                induction n with
                | zero =>
                  intro π_42 x4 x5 hn
                  exact absurd hn (Nat.not_lt_zero _)
                | succ n ih =>
                  intro π_42 x4 x5 hn H locs hP hS ls hl kk
                  refine lv_iload hx hb dX3_coolDown_42 (lv_at hl 5 rfl) ?_
                  refine lv_sipush (v := 1000) hx hb dX3_coolDown_44 (by decide) ?_
                  refine lv_icmp_lt (tgt := 68) hx hb dX3_coolDown_47 (by decide) (fun c_3 => ?_) (fun c_3 => ?_)
                  · have e9 : f3_coolDown_L42 τ ρ x1 x2 x3 x6 x7 x8 (n + 1) π_42 x4 x5 = (x4, x5, π_42) := by rw [f3_coolDown_L42_s]; (try rw [if_pos c_3])
                    rw [e9] at kk
                    exact kk _ _ hP hS ls (lv_sub hl [0, 1, 2, 3, 4, 5, 6, 7, 8] rfl)
                  · refine lv_iload hx hb dX3_coolDown_50 (lv_at hl 4 rfl) ?_
                    refine lv_aload_n hx hb dX3_coolDown_52 rfl (lv_at hl 0 rfl) ?_
                    refine sy_cvM (rest := [.int x4]) (st1 := [.int ((f3_hardenOne τ π_42).1), .int x4]) C hK hN hP (fun _ h => h) hS (m3_hardenOne l D cA ad had τ ρ π_42 γ) (3) 5 rfl rfl kw_360 kw_361 kw_362 kw_24 kw_363 hd_X3_hardenOne ⟨Nat.le_of_ble_eq_true rfl, Nat.le_of_ble_eq_true rfl⟩ rfl rfl rfl hl.1 rfl (Nat.le_of_ble_eq_true rfl) dX3_coolDown_53 ⟨Nat.zero_le _, Nat.zero_le _⟩ rfl (fun H locs hP hS => ?_)
                    refine lv_iadd hx hb dX3_coolDown_56 ?_
                    refine lv_istore (lv' := [(4, .int (x4 + ((f3_hardenOne τ π_42).1))), (0, .ref (ad 3)), (1, .int x1), (2, .int x2), (3, .int x3), (5, .int x5), (6, .int x6), (7, .int x7), (8, .int x8)]) hx hb dX3_coolDown_57 hl (by decide) rfl (fun ls hl => ?_)
                    refine lv_iincW (v := x5 + Int32.ofInt (-1000)) (lv' := [(5, .int (x5 + Int32.ofInt (-1000))), (4, .int (x4 + ((f3_hardenOne τ π_42).1))), (0, .ref (ad 3)), (1, .int x1), (2, .int x2), (3, .int x3), (6, .int x6), (7, .int x7), (8, .int x8)]) hx hb dX3_coolDown_59 hl (k := 5) rfl (by rfl) (by decide) rfl (fun ls hl => ?_)
                    refine lv_goto (tgt := 42) hx hb dX3_coolDown_65 (by decide) ?_
                    have e9 : f3_coolDown_L42 τ ρ x1 x2 x3 x6 x7 x8 (n + 1) π_42 x4 x5 = f3_coolDown_L42 τ ρ x1 x2 x3 x6 x7 x8 n ((f3_hardenOne τ π_42).2) (x4 + ((f3_hardenOne τ π_42).1)) (x5 + Int32.ofInt (-1000)) := by rw [f3_coolDown_L42_s]; (try rw [if_neg c_3])
                    rw [e9] at kk
                    exact ih ((f3_hardenOne τ π_42).2) (x4 + ((f3_hardenOne τ π_42).1)) (x5 + Int32.ofInt (-1000)) (k1000_dec (Int32.not_lt.mp c_3) hn) _ _ hP hS ls (lv_sub hl [2, 3, 4, 5, 1, 0, 6, 7, 8] rfl) kk
              refine hL42 x1 x2 x3 x6 x7 x8 8589934592 π_29 x4 (x5 + x7) (nmd_lt' _) _ _ hP hS ls (lv_sub hl [1, 2, 3, 4, 5, 0, 6, 7, 8] rfl) (fun H locs hP hS ls hl => ?_)
              refine lv_iinc (v := x8 + 1) (lv' := [(8, .int (x8 + 1)), (0, .ref (ad 3)), (1, .int x1), (2, .int x2), (3, .int x3), (4, .int ((f3_coolDown_L42 τ ρ x1 x2 x3 x6 x7 x8 8589934592 π_29 x4 (x5 + x7)).1)), (5, .int ((f3_coolDown_L42 τ ρ x1 x2 x3 x6 x7 x8 8589934592 π_29 x4 (x5 + x7)).2.1)), (6, .int x6), (7, .int x7)]) hx hb dX3_coolDown_68 hl (k := 8) rfl (by rfl) (by decide) rfl (fun ls hl => ?_)
              refine lv_goto (tgt := 29) hx hb dX3_coolDown_71 (by decide) ?_
              have e9 : f3_coolDown_L29 τ ρ x1 x2 x3 x6 x7 (n + 1) π_29 x4 x5 x8 = f3_coolDown_L29 τ ρ x1 x2 x3 x6 x7 n ((f3_coolDown_L42 τ ρ x1 x2 x3 x6 x7 x8 8589934592 π_29 x4 (x5 + x7)).2.2) ((f3_coolDown_L42 τ ρ x1 x2 x3 x6 x7 x8 8589934592 π_29 x4 (x5 + x7)).1) ((f3_coolDown_L42 τ ρ x1 x2 x3 x6 x7 x8 8589934592 π_29 x4 (x5 + x7)).2.1) (x8 + 1) := by rw [f3_coolDown_L29_s]; (try rw [if_neg c_2])
              rw [e9] at kk
              exact ih ((f3_coolDown_L42 τ ρ x1 x2 x3 x6 x7 x8 8589934592 π_29 x4 (x5 + x7)).2.2) ((f3_coolDown_L42 τ ρ x1 x2 x3 x6 x7 x8 8589934592 π_29 x4 (x5 + x7)).1) ((f3_coolDown_L42 τ ρ x1 x2 x3 x6 x7 x8 8589934592 π_29 x4 (x5 + x7)).2.1) (x8 + 1) (nm_dec (Int32.not_le.mp c_2) hn) _ _ hP hS ls (lv_sub hl [1, 2, 3, 4, 5, 6, 7, 8, 0] rfl) kk
        refine hL29 x1 x2 x3 x6 (f4_tickAt ρ x6) 8589934592 π_9 x4 x5 0 (nm_lt _ _) _ _ hP hS ls (lv_sub hl [2, 3, 4, 5, 6, 7, 8, 1, 0] rfl) (fun H locs hP hS ls hl => ?_)
        refine lv_iinc (v := x6 + Int32.ofInt (-1)) (lv' := [(6, .int (x6 + Int32.ofInt (-1))), (0, .ref (ad 3)), (1, .int x1), (2, .int x2), (3, .int x3), (4, .int ((f3_coolDown_L29 τ ρ x1 x2 x3 x6 (f4_tickAt ρ x6) 8589934592 π_9 x4 x5 0).1)), (5, .int ((f3_coolDown_L29 τ ρ x1 x2 x3 x6 (f4_tickAt ρ x6) 8589934592 π_9 x4 x5 0).2.1)), (7, .int (f4_tickAt ρ x6)), (8, .int ((f3_coolDown_L29 τ ρ x1 x2 x3 x6 (f4_tickAt ρ x6) 8589934592 π_9 x4 x5 0).2.2.1))]) hx hb dX3_coolDown_74 hl (k := 6) rfl (by rfl) (by decide) rfl (fun ls hl => ?_)
        refine lv_goto (tgt := 9) hx hb dX3_coolDown_77 (by decide) ?_
        have e9 : f3_coolDown_L9 τ ρ x1 x2 x3 (n + 1) π_9 x4 x5 x6 = f3_coolDown_L9 τ ρ x1 x2 x3 n ((f3_coolDown_L29 τ ρ x1 x2 x3 x6 (f4_tickAt ρ x6) 8589934592 π_9 x4 x5 0).2.2.2) ((f3_coolDown_L29 τ ρ x1 x2 x3 x6 (f4_tickAt ρ x6) 8589934592 π_9 x4 x5 0).1) ((f3_coolDown_L29 τ ρ x1 x2 x3 x6 (f4_tickAt ρ x6) 8589934592 π_9 x4 x5 0).2.1) (x6 + Int32.ofInt (-1)) := by rw [f3_coolDown_L9_s]; (try rw [if_neg c_1])
        rw [e9] at kk
        exact ih ((f3_coolDown_L29 τ ρ x1 x2 x3 x6 (f4_tickAt ρ x6) 8589934592 π_9 x4 x5 0).2.2.2) ((f3_coolDown_L29 τ ρ x1 x2 x3 x6 (f4_tickAt ρ x6) 8589934592 π_9 x4 x5 0).1) ((f3_coolDown_L29 τ ρ x1 x2 x3 x6 (f4_tickAt ρ x6) 8589934592 π_9 x4 x5 0).2.1) (x6 + Int32.ofInt (-1)) hy (nmd_dec c_1 hy hn) _ _ hP hS ls (lv_sub hl [1, 2, 3, 4, 5, 6, 0] rfl) kk
  refine hL9 a1 a2 a3 8589934592 π 0 0 a1 hpos (nmd_lt _ _) _ _ hP hS ls (lv_sub hl [3, 4, 5, 6, 2, 1, 0] rfl) (fun H locs hP hS ls hl => ?_)
  refine lv_iload hx hb dX3_coolDown_80 (lv_at hl 4 rfl) ?_
  have e9 : ((f3_coolDown_L9 τ ρ a1 a2 a3 8589934592 π 0 0 a1).1, ((f3_coolDown_L9 τ ρ a1 a2 a3 8589934592 π 0 0 a1).2.2.2)) = f3_coolDown τ ρ π a1 a2 a3 := rfl
  exact sy_retVI hx hb hr hlk hP hS rfl (by rw [← e9]) (by rw [← e9]) dX3_coolDown_82
/-- X3_loosenAll -/
theorem hd_X3_loosenAll : yX3_loosenAll.cls = yX3_loosenAll.cls ∧ yX3_loosenAll.cls ≠ "java/lang/invoke/MethodHandle" ∧ yX3_loosenAll.cls ≠ "java/lang/invoke/VarHandle" ∧ (parseMethodDescriptor yX3_loosenAll.desc).map (fun d => d.parameters.length) = some 0 := by decide +kernel
def f3_loosenAll (τ : Sg) (π : Sg) : Int32 × Sg := (f3_hardCells τ π, (saf π 2 (fillF (π.2 2) 64 0)))
set_option maxHeartbeats 400000 in
set_option maxRecDepth 100000 in
theorem m3_loosenAll (l : Launch) (D : va_G) (cA : ClassId) (ad : Nat → Nat) (had : Apart ad) (τ ρ π γ : Sg) : Met l yX3_loosenAll (wM yX3_loosenAll cX3_loosenAll 2 (some .int)) ({ frames := 2, cells := 0, slots := 0, locals := 43 }) (va_Pc [.ref (ad 3)] (pS D cA ad τ ρ π γ)) (qV D cA ad τ ρ ((f3_loosenAll τ π).2) γ (some (.int ((f3_loosenAll τ π).1)))) 0 0 (aS ad) := by
  refine sy_of (by decide) (Nat.le_of_ble_eq_true rfl) ?_
  intro p e s m below meth c ls C hr hlk hK hN hP hl
  obtain ⟨hx, hb, hml, hown, hts⟩ := id C
  have htA : ∀ w ∈ wA, w.before ([.ref (ad 3)] : List Value).toArray s = true := fun w h => hts w (List.mem_cons_of_mem _ h)
  have hl : lv_has ls 2 [(0, .ref (ad 3))] := hl
  have hS : va_S (aS ad) s.heap s.heap [] := va_S.rf
  refine lv_aload_n hx hb dX3_loosenAll_0 rfl (lv_at hl 0 rfl) ?_
  refine sy_cv (rest := []) C hK hN hP (m3_hardCells l D cA ad τ ρ π γ) (3) 5 rfl rfl kw_531 kw_449 kw_450 kw_24 kw_451 hd_X3_hardCells ⟨Nat.le_of_ble_eq_true rfl, Nat.le_of_ble_eq_true rfl⟩ rfl rfl rfl hl.1 rfl (Nat.le_of_ble_eq_true rfl) dX3_loosenAll_1 ⟨Nat.zero_le _, Nat.zero_le _⟩ ?_
  refine lv_istore_n (lv' := [(1, .int (f3_hardCells τ π)), (0, .ref (ad 3))]) hx hb dX3_loosenAll_4 rfl hl (by decide) rfl (fun ls hl => ?_)
  refine lv_aload_n hx hb dX3_loosenAll_5 rfl (lv_at hl 1 rfl) ?_
  refine gX3_4 hx hb htA hown hK hP dX3_loosenAll_6 ?_
  refine lv_iconst (v := 0) hx hb dX3_loosenAll_9 (by decide) ?_
  refine sy_csM (rest := []) (st1 := []) C hK hN (by have h9 := hP; rw [← wF_13] at h9; exact h9) (fun _ h => h) hS (mJ7_fill l D cA (fun f9 => wS cA ad τ ρ (saf π 2 f9) γ) (13) (ad 13) 64 (by decide) (wFa_13) (wFs_13) (fun _ => wS_D had _ _ _ _ (fun _ h => h)) _ 0) kw_182 kw_53 kw_54 kw_55 hd_J7_fill ⟨Nat.le_of_ble_eq_true rfl, Nat.le_of_ble_eq_true rfl⟩ rfl rfl rfl hl.1 rfl (Nat.le_of_ble_eq_true rfl) dX3_loosenAll_10 ⟨Nat.zero_le _, Nat.zero_le _⟩ rfl (fun H locs hP hS => ?_)
  refine lv_iload_n hx hb dX3_loosenAll_13 rfl (lv_at hl 0 rfl) ?_
  have e9 : (f3_hardCells τ π, (saf π 2 (fillF (π.2 2) 64 0))) = f3_loosenAll τ π := rfl
  exact sy_retVI hx hb hr hlk hP hS rfl (by rw [← e9]) (by rw [← e9]) dX3_loosenAll_14
/-- X3_castAnew -/
theorem hd_X3_castAnew : yX3_castAnew.cls = yX3_castAnew.cls ∧ yX3_castAnew.cls ≠ "java/lang/invoke/MethodHandle" ∧ yX3_castAnew.cls ≠ "java/lang/invoke/VarHandle" ∧ (parseMethodDescriptor yX3_castAnew.desc).map (fun d => d.parameters.length) = some 1 := by decide +kernel
def f3_castAnew_L18 (τ : Sg) (x1 : Int32) : Nat → Sg → Int32 → Int32 × Sg
  | 0, π_18, x2 => (x2, π_18)
  | n + 1, π_18, x2 => (if (f5_cells τ) ≤ x2 then (x2, π_18) else (f3_castAnew_L18 τ x1 n (f3_putMark ((f3_drawBelow π_18 x1).2) x2 (1 + ((f3_drawBelow π_18 x1).1))) (x2 + 1)))
theorem f3_castAnew_L18_s (τ : Sg) (x1 : Int32) (n : Nat) (π_18 : Sg) (x2 : Int32) : f3_castAnew_L18 τ x1 (n + 1) π_18 x2 = (if (f5_cells τ) ≤ x2 then (x2, π_18) else (f3_castAnew_L18 τ x1 n (f3_putMark ((f3_drawBelow π_18 x1).2) x2 (1 + ((f3_drawBelow π_18 x1).1))) (x2 + 1))) := rfl
def f3_castAnew (τ : Sg) (π : Sg) (a1 : Int32) : Sg := ((f3_castAnew_L18 τ a1 8589934592 (saf (saf π 1 (fillF (π.2 1) 64 0)) 2 (fillF ((saf π 1 (fillF (π.2 1) 64 0)).2 2) 64 0)) 0).2)
set_option maxHeartbeats 400000 in
set_option maxRecDepth 100000 in
theorem m3_castAnew (l : Launch) (D : va_G) (cA : ClassId) (ad : Nat → Nat) (had : Apart ad) (τ ρ π γ : Sg) (a1 : Int32) : Met l yX3_castAnew (wM yX3_castAnew cX3_castAnew 3 none) ({ frames := 1, cells := 0, slots := 0, locals := 23 }) (va_Pc [.ref (ad 3), .int a1] (pS D cA ad τ ρ π γ)) (qV D cA ad τ ρ (f3_castAnew τ π a1) γ none) 0 0 (aS ad) := by
  refine sy_of (by decide) (Nat.le_of_ble_eq_true rfl) ?_
  intro p e s m below meth c ls C hr hlk hK hN hP hl
  obtain ⟨hx, hb, hml, hown, hts⟩ := id C
  have htA : ∀ w ∈ wA, w.before ([.ref (ad 3), .int a1] : List Value).toArray s = true := fun w h => hts w (List.mem_cons_of_mem _ h)
  have hl : lv_has ls 3 [(0, .ref (ad 3)), (1, .int a1)] := hl
  have hS : va_S (aS ad) s.heap s.heap [] := va_S.rf
  refine lv_aload_n hx hb dX3_castAnew_0 rfl (lv_at hl 0 rfl) ?_
  refine gX3_3 hx hb htA hown hK hP dX3_castAnew_1 ?_
  refine lv_iconst (v := 0) hx hb dX3_castAnew_4 (by decide) ?_
  refine sy_csM (rest := []) (st1 := []) C hK hN (by have h9 := hP; rw [← wF_12] at h9; exact h9) (fun _ h => h) hS (mJ7_fill l D cA (fun f9 => wS cA ad τ ρ (saf π 1 f9) γ) (12) (ad 12) 64 (by decide) (wFa_12) (wFs_12) (fun _ => wS_D had _ _ _ _ (fun _ h => h)) _ 0) kw_182 kw_53 kw_54 kw_55 hd_J7_fill ⟨Nat.le_of_ble_eq_true rfl, Nat.le_of_ble_eq_true rfl⟩ rfl rfl rfl hl.1 rfl (Nat.le_of_ble_eq_true rfl) dX3_castAnew_5 ⟨Nat.zero_le _, Nat.zero_le _⟩ rfl (fun H locs hP hS => ?_)
  refine lv_aload_n hx hb dX3_castAnew_8 rfl (lv_at hl 0 rfl) ?_
  refine gX3_4 hx hb htA hown hK hP dX3_castAnew_9 ?_
  refine lv_iconst (v := 0) hx hb dX3_castAnew_12 (by decide) ?_
  refine sy_csM (rest := []) (st1 := []) C hK hN (by have h9 := hP; rw [← wF_13] at h9; exact h9) (fun _ h => h) hS (mJ7_fill l D cA (fun f9 => wS cA ad τ ρ (saf (saf π 1 (fillF (π.2 1) 64 0)) 2 f9) γ) (13) (ad 13) 64 (by decide) (wFa_13) (wFs_13) (fun _ => wS_D had _ _ _ _ (fun _ h => h)) _ 0) kw_182 kw_53 kw_54 kw_55 hd_J7_fill ⟨Nat.le_of_ble_eq_true rfl, Nat.le_of_ble_eq_true rfl⟩ rfl rfl rfl hl.1 rfl (Nat.le_of_ble_eq_true rfl) dX3_castAnew_13 ⟨Nat.zero_le _, Nat.zero_le _⟩ rfl (fun H locs hP hS => ?_)
  refine lv_iconst (v := 0) hx hb dX3_castAnew_16 (by decide) ?_
  refine lv_istore_n (lv' := [(2, .int 0), (0, .ref (ad 3)), (1, .int a1)]) hx hb dX3_castAnew_17 rfl hl (by decide) rfl (fun ls hl => ?_)
  have hL18 : ∀ (x1 : Int32) (n : Nat) (π_18 : Sg) (x2 : Int32), nm x2 (f5_cells τ) < n → ∀ (H : Heap) (locs : List Loc), va_P D vwCl (wS cA ad τ ρ π_18 γ) H → va_S (aS ad) s.heap H locs → ∀ ls : Array Slot, lv_has ls 3 [(0, .ref (ad 3)), (1, .int x1), (2, .int x2)] → (∀ (H : Heap) (locs : List Loc), va_P D vwCl (wS cA ad τ ρ ((f3_castAnew_L18 τ x1 n π_18 x2).2) γ) H → va_S (aS ad) s.heap H locs → ∀ ls : Array Slot, lv_has ls 3 [(0, .ref (ad 3)), (1, .int x1), (2, .int ((f3_castAnew_L18 τ x1 n π_18 x2).1))] → W p l e ({ frames := 1, cells := 0, slots := 0, locals := 23 }) s m ([.ref (ad 3), .int a1] : List Value).toArray below meth c H locs 0 0 (MQ below (qV D cA ad τ ρ (f3_castAnew τ π a1) γ none) ([.ref (ad 3), .int a1] : List Value).toArray s 0 0 (aS ad)) (F0 m 47 ls [])) → W p l e ({ frames := 1, cells := 0, slots := 0, locals := 23 }) s m ([.ref (ad 3), .int a1] : List Value).toArray below meth c H locs 0 0 (MQ below (qV D cA ad τ ρ (f3_castAnew τ π a1) γ none) ([.ref (ad 3), .int a1] : List Value).toArray s 0 0 (aS ad)) (F0 m 18 ls []) := by
    intro x1 n
    induction n with
    | zero =>
      intro π_18 x2 hn
      exact absurd hn (Nat.not_lt_zero _)
    | succ n ih =>
      intro π_18 x2 hn H locs hP hS ls hl kk
      refine lv_iload_n hx hb dX3_castAnew_18 rfl (lv_at hl 2 rfl) ?_
      refine lv_aload_n hx hb dX3_castAnew_19 rfl (lv_at hl 0 rfl) ?_
      refine gX3_0 hx hb htA hown hK hP dX3_castAnew_20 ?_
      refine sy_cv (rest := [.int x2]) C hK hN hP (m5_cells l D cA ad τ ρ π_18 γ) (1) 7 rfl rfl kw_183 kw_184 kw_185 kw_16 kw_186 hd_X5_cells ⟨Nat.le_of_ble_eq_true rfl, Nat.le_of_ble_eq_true rfl⟩ rfl rfl rfl hl.1 rfl (Nat.le_of_ble_eq_true rfl) dX3_castAnew_23 ⟨Nat.zero_le _, Nat.zero_le _⟩ ?_
      refine lv_icmp_ge (tgt := 47) hx hb dX3_castAnew_26 (by decide) (fun c_1 => ?_) (fun c_1 => ?_)
      · have e9 : f3_castAnew_L18 τ x1 (n + 1) π_18 x2 = (x2, π_18) := by rw [f3_castAnew_L18_s]; (try rw [if_pos c_1])
        rw [e9] at kk
        exact kk _ _ hP hS ls (lv_sub hl [0, 1, 2] rfl)
      · refine lv_aload_n hx hb dX3_castAnew_29 rfl (lv_at hl 0 rfl) ?_
        refine lv_iload_n hx hb dX3_castAnew_30 rfl (lv_at hl 2 rfl) ?_
        refine lv_iconst (v := 1) hx hb dX3_castAnew_31 (by decide) ?_
        refine lv_aload_n hx hb dX3_castAnew_32 rfl (lv_at hl 0 rfl) ?_
        refine lv_iload_n hx hb dX3_castAnew_33 rfl (lv_at hl 1 rfl) ?_
        refine sy_cvM (rest := [.int 1, .int x2, .ref (ad 3)]) (st1 := [.int ((f3_drawBelow π_18 x1).1), .int 1, .int x2, .ref (ad 3)]) C hK hN hP (fun _ h => h) hS (m3_drawBelow l D cA ad had τ ρ π_18 γ x1) (3) 5 rfl rfl kw_187 kw_188 kw_189 kw_24 kw_190 hd_X3_drawBelow ⟨Nat.le_of_ble_eq_true rfl, Nat.le_of_ble_eq_true rfl⟩ rfl rfl rfl hl.1 rfl (Nat.le_of_ble_eq_true rfl) dX3_castAnew_34 ⟨Nat.zero_le _, Nat.zero_le _⟩ rfl (fun H locs hP hS => ?_)
        refine lv_iadd hx hb dX3_castAnew_37 ?_
        refine sy_cvM (rest := []) (st1 := []) C hK hN hP (fun _ h => h) hS (m3_putMark l D cA ad had τ ρ ((f3_drawBelow π_18 x1).2) γ x2 (1 + ((f3_drawBelow π_18 x1).1))) (3) 5 rfl rfl kw_191 kw_192 kw_193 kw_24 kw_194 hd_X3_putMark ⟨Nat.le_of_ble_eq_true rfl, Nat.le_of_ble_eq_true rfl⟩ rfl rfl rfl hl.1 rfl (Nat.le_of_ble_eq_true rfl) dX3_castAnew_38 ⟨Nat.zero_le _, Nat.zero_le _⟩ rfl (fun H locs hP hS => ?_)
        refine lv_iinc (v := x2 + 1) (lv' := [(2, .int (x2 + 1)), (0, .ref (ad 3)), (1, .int x1)]) hx hb dX3_castAnew_41 hl (k := 2) rfl (by rfl) (by decide) rfl (fun ls hl => ?_)
        refine lv_goto (tgt := 18) hx hb dX3_castAnew_44 (by decide) ?_
        have e9 : f3_castAnew_L18 τ x1 (n + 1) π_18 x2 = f3_castAnew_L18 τ x1 n (f3_putMark ((f3_drawBelow π_18 x1).2) x2 (1 + ((f3_drawBelow π_18 x1).1))) (x2 + 1) := by rw [f3_castAnew_L18_s]; (try rw [if_neg c_1])
        rw [e9] at kk
        exact ih (f3_putMark ((f3_drawBelow π_18 x1).2) x2 (1 + ((f3_drawBelow π_18 x1).1))) (x2 + 1) (nm_dec (Int32.not_le.mp c_1) hn) _ _ hP hS ls (lv_sub hl [1, 2, 0] rfl) kk
  refine hL18 a1 8589934592 (saf (saf π 1 (fillF (π.2 1) 64 0)) 2 (fillF ((saf π 1 (fillF (π.2 1) 64 0)).2 2) 64 0)) 0 (nm_lt _ _) _ _ hP hS ls (lv_sub hl [1, 2, 0] rfl) (fun H locs hP hS ls hl => ?_)
  have e9 : ((f3_castAnew_L18 τ a1 8589934592 (saf (saf π 1 (fillF (π.2 1) 64 0)) 2 (fillF ((saf π 1 (fillF (π.2 1) 64 0)).2 2) 64 0)) 0).2) = f3_castAnew τ π a1 := rfl
  exact sy_retV hx hb hr hlk hP hS (by rw [← e9]) dX3_castAnew_47
/-- X3_doStep -/
theorem hd_X3_doStep : yX3_doStep.cls = yX3_doStep.cls ∧ yX3_doStep.cls ≠ "java/lang/invoke/MethodHandle" ∧ yX3_doStep.cls ≠ "java/lang/invoke/VarHandle" ∧ (parseMethodDescriptor yX3_doStep.desc).map (fun d => d.parameters.length) = some 1 := by decide +kernel
def f3_doStep (τ : Sg) (ρ : Sg) (π : Sg) (a1 : Int32) : Sg := (if a1 = 0 then ((f3_sweepOften τ ρ π 2 2).2) else (if a1 = 1 then ((f3_sweepOften τ ρ π 6 2).2) else (if a1 = 2 then ((f3_sweepOften τ ρ π 9 1).2) else (if a1 = 3 then (f3_rollOnce τ π) else (if a1 = 4 then ((f3_bear τ π 6).2) else π)))))
set_option maxHeartbeats 400000 in
set_option maxRecDepth 100000 in
theorem m3_doStep (l : Launch) (D : va_G) (cA : ClassId) (ad : Nat → Nat) (had : Apart ad) (τ ρ π γ : Sg) (hT : Ok τ) (a1 : Int32) : Met l yX3_doStep (wM yX3_doStep cX3_doStep 2 none) ({ frames := 4, cells := 0, slots := 0, locals := 100 }) (va_Pc [.ref (ad 3), .int a1] (pS D cA ad τ ρ π γ)) (qV D cA ad τ ρ (f3_doStep τ ρ π a1) γ none) 0 0 (aS ad) := by
  refine sy_of (by decide) (Nat.le_of_ble_eq_true rfl) ?_
  intro p e s m below meth c ls C hr hlk hK hN hP hl
  obtain ⟨hx, hb, hml, hown, hts⟩ := id C
  have htA : ∀ w ∈ wA, w.before ([.ref (ad 3), .int a1] : List Value).toArray s = true := fun w h => hts w (List.mem_cons_of_mem _ h)
  have hl : lv_has ls 2 [(0, .ref (ad 3)), (1, .int a1)] := hl
  have hS : va_S (aS ad) s.heap s.heap [] := va_S.rf
  refine lv_iload_n hx hb dX3_doStep_0 rfl (lv_at hl 1 rfl) ?_
  by_cases c_1 : a1 = 0
  · refine lv_tableIn (tgt := 36) hx hb dX3_doStep_1 (by rw [c_1]; decide) (by rw [c_1]; decide) (by rw [c_1]; rfl) (by decide) ?_
    refine lv_aload_n hx hb dX3_doStep_36 rfl (lv_at hl 0 rfl) ?_
    refine lv_iconst (v := 2) hx hb dX3_doStep_37 (by decide) ?_
    refine lv_iconst (v := 2) hx hb dX3_doStep_38 (by decide) ?_
    refine sy_cvM (rest := []) (st1 := [.int ((f3_sweepOften τ ρ π 2 2).1)]) C hK hN hP (fun _ h => h) hS (m3_sweepOften l D cA ad had τ ρ π γ hT 2 2) (3) 5 rfl rfl kw_543 kw_476 kw_477 kw_24 kw_478 hd_X3_sweepOften ⟨Nat.le_of_ble_eq_true rfl, Nat.le_of_ble_eq_true rfl⟩ rfl rfl rfl hl.1 rfl (Nat.le_of_ble_eq_true rfl) dX3_doStep_39 ⟨Nat.zero_le _, Nat.zero_le _⟩ rfl (fun H locs hP hS => ?_)
    refine lv_pop hx hb dX3_doStep_42 rfl ?_
    refine lv_goto (tgt := 85) hx hb dX3_doStep_43 (by decide) ?_
    have e9 : ((f3_sweepOften τ ρ π 2 2).2) = f3_doStep τ ρ π a1 := by unfold f3_doStep; (try rw [if_pos c_1])
    exact sy_retV hx hb hr hlk hP hS (by rw [← e9]) dX3_doStep_85
  by_cases c_2 : a1 = 1
  · refine lv_tableIn (tgt := 46) hx hb dX3_doStep_1 (by rw [c_2]; decide) (by rw [c_2]; decide) (by rw [c_2]; rfl) (by decide) ?_
    refine lv_aload_n hx hb dX3_doStep_46 rfl (lv_at hl 0 rfl) ?_
    refine lv_bipush (v := 6) hx hb dX3_doStep_47 (by decide) ?_
    refine lv_iconst (v := 2) hx hb dX3_doStep_49 (by decide) ?_
    refine sy_cvM (rest := []) (st1 := [.int ((f3_sweepOften τ ρ π 6 2).1)]) C hK hN hP (fun _ h => h) hS (m3_sweepOften l D cA ad had τ ρ π γ hT 6 2) (3) 5 rfl rfl kw_543 kw_476 kw_477 kw_24 kw_478 hd_X3_sweepOften ⟨Nat.le_of_ble_eq_true rfl, Nat.le_of_ble_eq_true rfl⟩ rfl rfl rfl hl.1 rfl (Nat.le_of_ble_eq_true rfl) dX3_doStep_50 ⟨Nat.zero_le _, Nat.zero_le _⟩ rfl (fun H locs hP hS => ?_)
    refine lv_pop hx hb dX3_doStep_53 rfl ?_
    refine lv_goto (tgt := 85) hx hb dX3_doStep_54 (by decide) ?_
    have e9 : ((f3_sweepOften τ ρ π 6 2).2) = f3_doStep τ ρ π a1 := by unfold f3_doStep; (try rw [if_neg c_1]); (try rw [if_pos c_2])
    exact sy_retV hx hb hr hlk hP hS (by rw [← e9]) dX3_doStep_85
  by_cases c_3 : a1 = 2
  · refine lv_tableIn (tgt := 57) hx hb dX3_doStep_1 (by rw [c_3]; decide) (by rw [c_3]; decide) (by rw [c_3]; rfl) (by decide) ?_
    refine lv_aload_n hx hb dX3_doStep_57 rfl (lv_at hl 0 rfl) ?_
    refine lv_bipush (v := 9) hx hb dX3_doStep_58 (by decide) ?_
    refine lv_iconst (v := 1) hx hb dX3_doStep_60 (by decide) ?_
    refine sy_cvM (rest := []) (st1 := [.int ((f3_sweepOften τ ρ π 9 1).1)]) C hK hN hP (fun _ h => h) hS (m3_sweepOften l D cA ad had τ ρ π γ hT 9 1) (3) 5 rfl rfl kw_543 kw_476 kw_477 kw_24 kw_478 hd_X3_sweepOften ⟨Nat.le_of_ble_eq_true rfl, Nat.le_of_ble_eq_true rfl⟩ rfl rfl rfl hl.1 rfl (Nat.le_of_ble_eq_true rfl) dX3_doStep_61 ⟨Nat.zero_le _, Nat.zero_le _⟩ rfl (fun H locs hP hS => ?_)
    refine lv_pop hx hb dX3_doStep_64 rfl ?_
    refine lv_goto (tgt := 85) hx hb dX3_doStep_65 (by decide) ?_
    have e9 : ((f3_sweepOften τ ρ π 9 1).2) = f3_doStep τ ρ π a1 := by unfold f3_doStep; (try rw [if_neg c_1]); (try rw [if_neg c_2]); (try rw [if_pos c_3])
    exact sy_retV hx hb hr hlk hP hS (by rw [← e9]) dX3_doStep_85
  by_cases c_4 : a1 = 3
  · refine lv_tableIn (tgt := 68) hx hb dX3_doStep_1 (by rw [c_4]; decide) (by rw [c_4]; decide) (by rw [c_4]; rfl) (by decide) ?_
    refine lv_aload_n hx hb dX3_doStep_68 rfl (lv_at hl 0 rfl) ?_
    refine sy_cvM (rest := []) (st1 := []) C hK hN hP (fun _ h => h) hS (m3_rollOnce l D cA ad had τ ρ π γ) (3) 5 rfl rfl kw_544 kw_506 kw_507 kw_24 kw_508 hd_X3_rollOnce ⟨Nat.le_of_ble_eq_true rfl, Nat.le_of_ble_eq_true rfl⟩ rfl rfl rfl hl.1 rfl (Nat.le_of_ble_eq_true rfl) dX3_doStep_69 ⟨Nat.zero_le _, Nat.zero_le _⟩ rfl (fun H locs hP hS => ?_)
    refine lv_goto (tgt := 85) hx hb dX3_doStep_72 (by decide) ?_
    have e9 : (f3_rollOnce τ π) = f3_doStep τ ρ π a1 := by unfold f3_doStep; (try rw [if_neg c_1]); (try rw [if_neg c_2]); (try rw [if_neg c_3]); (try rw [if_pos c_4])
    exact sy_retV hx hb hr hlk hP hS (by rw [← e9]) dX3_doStep_85
  by_cases c_5 : a1 = 4
  · refine lv_tableIn (tgt := 75) hx hb dX3_doStep_1 (by rw [c_5]; decide) (by rw [c_5]; decide) (by rw [c_5]; rfl) (by decide) ?_
    refine lv_aload_n hx hb dX3_doStep_75 rfl (lv_at hl 0 rfl) ?_
    refine lv_bipush (v := 6) hx hb dX3_doStep_76 (by decide) ?_
    refine sy_cvM (rest := []) (st1 := [.int ((f3_bear τ π 6).1)]) C hK hN hP (fun _ h => h) hS (m3_bear l D cA ad had τ ρ π γ hT 6) (3) 5 rfl rfl kw_545 kw_516 kw_517 kw_24 kw_518 hd_X3_bear ⟨Nat.le_of_ble_eq_true rfl, Nat.le_of_ble_eq_true rfl⟩ rfl rfl rfl hl.1 rfl (Nat.le_of_ble_eq_true rfl) dX3_doStep_78 ⟨Nat.zero_le _, Nat.zero_le _⟩ rfl (fun H locs hP hS => ?_)
    refine lv_pop hx hb dX3_doStep_81 rfl ?_
    refine lv_goto (tgt := 85) hx hb dX3_doStep_82 (by decide) ?_
    have e9 : ((f3_bear τ π 6).2) = f3_doStep τ ρ π a1 := by unfold f3_doStep; (try rw [if_neg c_1]); (try rw [if_neg c_2]); (try rw [if_neg c_3]); (try rw [if_neg c_4]); (try rw [if_pos c_5])
    exact sy_retV hx hb hr hlk hP hS (by rw [← e9]) dX3_doStep_85
  have nc_1 : ¬ a1.toInt = 0 := ne_toInt c_1
  have nc_2 : ¬ a1.toInt = 1 := ne_toInt c_2
  have nc_3 : ¬ a1.toInt = 2 := ne_toInt c_3
  have nc_4 : ¬ a1.toInt = 3 := ne_toInt c_4
  have nc_5 : ¬ a1.toInt = 4 := ne_toInt c_5
  refine lv_tableOut (tgt := 85) hx hb dX3_doStep_1 (by omega) (by decide) ?_
  have e9 : π = f3_doStep τ ρ π a1 := by unfold f3_doStep; (try rw [if_neg c_1]); (try rw [if_neg c_2]); (try rw [if_neg c_3]); (try rw [if_neg c_4]); (try rw [if_neg c_5])
  exact sy_retV hx hb hr hlk hP hS (by rw [← e9]) dX3_doStep_85

/-! THE LAW'S isSo: all fits together -/
theorem hdL_isSo : yL_isSo.cls = yL_isSo.cls ∧ yL_isSo.cls ≠ "java/lang/invoke/MethodHandle" ∧ yL_isSo.cls ≠ "java/lang/invoke/VarHandle" ∧ (parseMethodDescriptor yL_isSo.desc).map (fun d => d.parameters.length) = some 2 := by decide +kernel
set_option maxHeartbeats 8000000 in
set_option maxRecDepth 100000 in
theorem kL_isSo (l : Launch) (D : va_G) (cA cB : ClassId) (ad : Nat → Nat) (had : Apart ad) {τ ρ π : Sg} {w h : Nat} {B : Int} (hD : Gd w h B τ ρ π) (sz : Nat) : Met l yL_isSo (wM yL_isSo cL_isSo 9 (some .boolean)) ({ frames := 9, cells := 180, slots := 80000, locals := 290 }) (va_Pc [.ref (ad 0), .int (nI (w * h))] (pZ D cA cB ad τ ρ π sz)) (qZ D cA ad τ ρ π sz 1) 180 80000 (aL ad sz) := by
  refine lh_of (by decide) (Nat.le_of_ble_eq_true rfl) ?_
  intro p e s m below meth c ls C hr hlk hZ hl
  obtain ⟨hsz, hP, hK, hN, hcl, hZ0⟩ := hZ
  subst hsz
  obtain ⟨hx, hb, hml, hown, hts⟩ := id C
  have hl : lv_has ls 9 [(0, .ref (ad 0)), (1, .int (nI (w * h)))] := hl
  have F : LF p m c cL_isSo 9 s ([.ref (ad 0), .int (nI (w * h))] : List Value).toArray (wM yL_isSo cL_isSo 9 (some .boolean)) D cA cB ad (aL ad s.heap.size) := ⟨C, fun w h => List.mem_cons_of_mem _ h, hK, hN, hcl, hZ0, had, fun q h => Or.inl h, fun q h => Or.inr h⟩
  have hL : LW D cA ad (aL ad s.heap.size) [] s τ ρ π s.heap [] := ⟨hP, fun k q h => by simp at h, ⟨fun i j x y h => by simp at h, fun k q h => by simp at h⟩, fun k q h => by simp at h, va_S.rf⟩
  have h36 := hD.1.n36
  have w6 := hD.1.2.2.2.1
  have h6 := hD.1.2.2.2.2.1
  obtain ⟨m0, m1, hLk, e1, e2⟩ := hD.lk
  have hm := hLk.m0
  have hm1 := hLk.2.2
  have szB : ∀ g, g ≤ m0 → 0 ≤ SI (szI (f6_look τ ρ π γz) w h) g ∧ SI (szI (f6_look τ ρ π γz) w h) g ≤ (g : Int) * 36 := fun g hg => SI_bd (fun k hk2 => by have := og_1 hD hLk (g := k) (by omega); omega)
  have wkB : ∀ g, 0 ≤ SI (wkG τ ρ π w h) g ∧ SI (wkG τ ρ π w h) g ≤ (g : Int) * 720 := fun g => SI_bd (fun k _ => wkG_bd hD k)
  have mAB : ∀ k, k ≤ w * h → 0 ≤ SI (mA ρ π w h) k ∧ SI (mA ρ π w h) k ≤ (k : Int) * 36 := fun k hk2 => SI_bd (fun j hj => mA_bd hD.1 hD.2.2.1 hD.2.2.2 (by omega))
  have cuB : ∀ k, 0 ≤ SI (cutI ρ π w h) k ∧ SI (cutI ρ π w h) k ≤ (k : Int) * 6 := fun k => SI_bd (fun j _ => cutI_bd hD.1 j)
  have txB : ∀ k, 0 ≤ SI (fun j => tx τ π (j + 1)) k ∧ SI (fun j => tx τ π (j + 1)) k ≤ (k : Int) * 1000 := fun k => SI_bd (fun j _ => tx_bd hD (j + 1))
  have hTail : ∀ (x2 x3 x4 x5 x6 x7 : Int32) (H : Heap) (locs : List Loc) (ls : Array Slot), x2.toInt = SI (szI (f6_look τ ρ π γz) w h) m0 → x3.toInt = SI (wk π) (w * h) → 0 ≤ x4.toInt → x5.toInt = SI (mA ρ π w h) (w * h) → x6.toInt = SI (cutI ρ π w h) (w + h) → (0 ≤ x7.toInt ∧ x7.toInt ≤ 1000) → LW D cA ad (aL ad s.heap.size) [] s τ ρ π H locs → lv_has ls 9 [(7, .int x7), (6, .int x6), (5, .int x5), (4, .int x4), (3, .int x3), (2, .int x2), (0, .ref (ad 0)), (1, .int (nI (w * h)))] → W p l e ({ frames := 9, cells := 180, slots := 80000, locals := 290 }) s m ([.ref (ad 0), .int (nI (w * h))] : List Value).toArray below meth c H locs 0 0 (MQ below (qZ D cA ad τ ρ π s.heap.size 1) ([.ref (ad 0), .int (nI (w * h))] : List Value).toArray s 180 80000 (aL ad s.heap.size)) (F0 m 284 ls []) := by
    intro x2 x3 x4 x5 x6 x7 H locs ls f2 f3 f4 f5 f6 f7 hL hl
    have b2 := szB m0 (Nat.le_refl _)
    have b3 := SI_wk_bd hD.1 hD.2.2.2
    have b5 := SI_mA_bd hD.1 hD.2.2.1 hD.2.2.2
    have b6 := cuB (w + h)
    have pb := pc_bd (w * h) π
    have sz := hLk.sizes hD.1
    have ar := areas hD hLk
    have t10 := mt_10i hD
    have t12 := mt_12i hD
    have t0 := mt_0i hD
    have t9 := mt_9i hD
    have p1 : x2 + mt τ ρ π 10 = nI (w * h) := z_eq.mpr (by rw [z_add (by omega) (by omega), nI_int (by omega)]; omega)
    have p2 : x3 = mt τ ρ π 12 := z_eq.mpr (by omega)
    have q5 : (x5 / 2).toInt = x5.toInt / 2 := by rw [z_div (by omega) (by rw [i2]; omega), i2]
    have q3 : (2 * x3).toInt = 2 * x3.toInt := by rw [z_mul (by rw [i2]; omega) (by rw [i2]; omega), i2]
    have p3 : mt τ ρ π 0 = x5 / 2 + 2 * x3 := z_eq.mpr (by rw [z_add (by omega) (by omega), q5, q3, t0, f5, f3]; rfl)
    have p4 : x6 = mt τ ρ π 9 := z_eq.mpr (by omega)
    have p5 : ¬ 2 * x6 < 0 := by rw [z_lt, z_mul (by rw [i2]; omega) (by rw [i2]; omega), i2, i0]; omega
    have p6 : ¬ x4 < 0 := by rw [z_lt, i0]; omega
    have p7 : ¬ mt τ ρ π 1 < mt τ ρ π 2 := by rw [e1, e2, nIlt (by omega) (by omega)]; omega
    have p8 : ¬ 0 < mt τ ρ π 6 := by rw [z_lt, i0]; omega
    have p9 : ¬ 1000 < x7 := by rw [z_lt, i1000]; omega
    have p10 : ¬ 100 * nI (w * h) < mt τ ρ π 3 := by rw [z_lt, z_mul (by rw [i100, nI_int (by omega)]; omega) (by rw [i100, nI_int (by omega)]; omega), i100, nI_int (by omega)]; omega
    have p11 : nI (w * h + h - 1) = nI (w * h) + nI h - 1 := by rw [nIa, nI_one, nIs (by omega)]
    refine lv_iload_n hx hb dL_isSo_284 rfl (lv_at hl 5 rfl) ?_
    refine lv_aload_n hx hb dL_isSo_285 rfl (lv_at hl 6 rfl) ?_
    refine lv_bipush (v := 10) hx hb dL_isSo_286 (by decide) ?_
    refine lr_metal (rest := [.int x2]) F hD (by decide) ⟨Nat.le_of_ble_eq_true rfl, Nat.le_of_ble_eq_true rfl⟩ ⟨Nat.le_of_ble_eq_true rfl, Nat.le_of_ble_eq_true rfl⟩ hl.1 (Nat.le_of_ble_eq_true rfl) dL_isSo_288 hL (fun H locs hL => ?_)
    refine lv_iadd hx hb dL_isSo_291 ?_
    refine lv_iload_n hx hb dL_isSo_292 rfl (lv_at hl 7 rfl) ?_
    refine lv_icmp_ne (tgt := 427) hx hb dL_isSo_293 (by decide) (fun c_1 => absurd p1 c_1) (fun c_1 => ?_)
    refine lv_iload_n hx hb dL_isSo_296 rfl (lv_at hl 4 rfl) ?_
    refine lv_aload_n hx hb dL_isSo_297 rfl (lv_at hl 6 rfl) ?_
    refine lv_bipush (v := 12) hx hb dL_isSo_298 (by decide) ?_
    refine lr_metal (rest := [.int x3]) F hD (by decide) ⟨Nat.le_of_ble_eq_true rfl, Nat.le_of_ble_eq_true rfl⟩ ⟨Nat.le_of_ble_eq_true rfl, Nat.le_of_ble_eq_true rfl⟩ hl.1 (Nat.le_of_ble_eq_true rfl) dL_isSo_300 hL (fun H locs hL => ?_)
    refine lv_icmp_ne (tgt := 427) hx hb dL_isSo_303 (by decide) (fun c_2 => absurd p2 c_2) (fun c_2 => ?_)
    refine lv_aload_n hx hb dL_isSo_306 rfl (lv_at hl 6 rfl) ?_
    refine lv_iconst (v := 0) hx hb dL_isSo_307 (by decide) ?_
    refine lr_metal (rest := []) F hD (by decide) ⟨Nat.le_of_ble_eq_true rfl, Nat.le_of_ble_eq_true rfl⟩ ⟨Nat.le_of_ble_eq_true rfl, Nat.le_of_ble_eq_true rfl⟩ hl.1 (Nat.le_of_ble_eq_true rfl) dL_isSo_308 hL (fun H locs hL => ?_)
    refine lv_iload hx hb dL_isSo_311 (lv_at hl 2 rfl) ?_
    refine lv_iconst (v := 2) hx hb dL_isSo_313 (by decide) ?_
    refine lv_idiv hx hb dL_isSo_314 (by decide) ?_
    refine lv_iconst (v := 2) hx hb dL_isSo_315 (by decide) ?_
    refine lv_iload_n hx hb dL_isSo_316 rfl (lv_at hl 4 rfl) ?_
    refine lv_imul hx hb dL_isSo_317 ?_
    refine lv_iadd hx hb dL_isSo_318 ?_
    refine lv_icmp_ne (tgt := 427) hx hb dL_isSo_319 (by decide) (fun c_3 => absurd p3 c_3) (fun c_3 => ?_)
    refine lv_iload hx hb dL_isSo_322 (lv_at hl 1 rfl) ?_
    refine lv_aload_n hx hb dL_isSo_324 rfl (lv_at hl 6 rfl) ?_
    refine lv_bipush (v := 9) hx hb dL_isSo_325 (by decide) ?_
    refine lr_metal (rest := [.int x6]) F hD (by decide) ⟨Nat.le_of_ble_eq_true rfl, Nat.le_of_ble_eq_true rfl⟩ ⟨Nat.le_of_ble_eq_true rfl, Nat.le_of_ble_eq_true rfl⟩ hl.1 (Nat.le_of_ble_eq_true rfl) dL_isSo_327 hL (fun H locs hL => ?_)
    refine lv_icmp_ne (tgt := 427) hx hb dL_isSo_330 (by decide) (fun c_4 => absurd p4 c_4) (fun c_4 => ?_)
    refine lv_iconst (v := 2) hx hb dL_isSo_333 (by decide) ?_
    refine lv_iload hx hb dL_isSo_334 (lv_at hl 1 rfl) ?_
    refine lv_imul hx hb dL_isSo_336 ?_
    refine lv_if_lt (tgt := 427) hx hb dL_isSo_337 (by decide) (fun c_5 => absurd c_5 p5) (fun c_5 => ?_)
    refine lv_iload hx hb dL_isSo_340 (lv_at hl 3 rfl) ?_
    refine lv_if_lt (tgt := 427) hx hb dL_isSo_342 (by decide) (fun c_6 => absurd c_6 p6) (fun c_6 => ?_)
    refine lv_aload_n hx hb dL_isSo_345 rfl (lv_at hl 6 rfl) ?_
    refine lv_iconst (v := 2) hx hb dL_isSo_346 (by decide) ?_
    refine lr_metal (rest := []) F hD (by decide) ⟨Nat.le_of_ble_eq_true rfl, Nat.le_of_ble_eq_true rfl⟩ ⟨Nat.le_of_ble_eq_true rfl, Nat.le_of_ble_eq_true rfl⟩ hl.1 (Nat.le_of_ble_eq_true rfl) dL_isSo_347 hL (fun H locs hL => ?_)
    refine lv_aload_n hx hb dL_isSo_350 rfl (lv_at hl 6 rfl) ?_
    refine lv_iconst (v := 1) hx hb dL_isSo_351 (by decide) ?_
    refine lr_metal (rest := [.int (mt τ ρ π 2)]) F hD (by decide) ⟨Nat.le_of_ble_eq_true rfl, Nat.le_of_ble_eq_true rfl⟩ ⟨Nat.le_of_ble_eq_true rfl, Nat.le_of_ble_eq_true rfl⟩ hl.1 (Nat.le_of_ble_eq_true rfl) dL_isSo_352 hL (fun H locs hL => ?_)
    refine lv_icmp_gt (tgt := 427) hx hb dL_isSo_355 (by decide) (fun c_7 => absurd c_7 p7) (fun c_7 => ?_)
    refine lv_aload_n hx hb dL_isSo_358 rfl (lv_at hl 6 rfl) ?_
    refine lv_bipush (v := 6) hx hb dL_isSo_359 (by decide) ?_
    refine lr_metal (rest := []) F hD (by decide) ⟨Nat.le_of_ble_eq_true rfl, Nat.le_of_ble_eq_true rfl⟩ ⟨Nat.le_of_ble_eq_true rfl, Nat.le_of_ble_eq_true rfl⟩ hl.1 (Nat.le_of_ble_eq_true rfl) dL_isSo_361 hL (fun H locs hL => ?_)
    refine lv_if_gt (tgt := 427) hx hb dL_isSo_364 (by decide) (fun c_8 => absurd c_8 p8) (fun c_8 => ?_)
    refine lv_iload hx hb dL_isSo_367 (lv_at hl 0 rfl) ?_
    refine lv_sipush (v := 1000) hx hb dL_isSo_369 (by decide) ?_
    refine lv_icmp_gt (tgt := 427) hx hb dL_isSo_372 (by decide) (fun c_9 => absurd c_9 p9) (fun c_9 => ?_)
    refine lv_aload_n hx hb dL_isSo_375 rfl (lv_at hl 6 rfl) ?_
    refine lv_iconst (v := 3) hx hb dL_isSo_376 (by decide) ?_
    refine lr_metal (rest := []) F hD (by decide) ⟨Nat.le_of_ble_eq_true rfl, Nat.le_of_ble_eq_true rfl⟩ ⟨Nat.le_of_ble_eq_true rfl, Nat.le_of_ble_eq_true rfl⟩ hl.1 (Nat.le_of_ble_eq_true rfl) dL_isSo_377 hL (fun H locs hL => ?_)
    refine lv_bipush (v := 100) hx hb dL_isSo_380 (by decide) ?_
    refine lv_iload_n hx hb dL_isSo_382 rfl (lv_at hl 7 rfl) ?_
    refine lv_imul hx hb dL_isSo_383 ?_
    refine lv_icmp_gt (tgt := 427) hx hb dL_isSo_384 (by decide) (fun c_10 => absurd c_10 p10) (fun c_10 => ?_)
    refine lv_aload_n hx hb dL_isSo_387 rfl (lv_at hl 6 rfl) ?_
    refine lr_plen (rest := []) F hD ⟨Nat.le_of_ble_eq_true rfl, Nat.le_of_ble_eq_true rfl⟩ ⟨Nat.le_of_ble_eq_true rfl, Nat.le_of_ble_eq_true rfl⟩ hl.1 (Nat.le_of_ble_eq_true rfl) dL_isSo_388 dL_isSo_391 hL (fun H locs hL => ?_)
    refine lv_iload_n hx hb dL_isSo_394 rfl (lv_at hl 7 rfl) ?_
    refine lv_aload_n hx hb dL_isSo_395 rfl (lv_at hl 6 rfl) ?_
    refine lr_S (As := [.ref (ad 0)]) (rest := [.int (nI (w * h)), .int (nI (w * h + h - 1))]) F (fun sz => kL_high l D cA cB ad F.had hD sz) kw_593 kw_594 kw_3 kw_595 hdL_high ⟨Nat.le_of_ble_eq_true rfl, Nat.le_of_ble_eq_true rfl⟩ rfl rfl rfl hl.1 rfl (Nat.le_of_ble_eq_true rfl) dL_isSo_396 ⟨Nat.le_of_ble_eq_true rfl, Nat.le_of_ble_eq_true rfl⟩ hL (fun H locs hL => ?_)
    refine lv_iadd hx hb dL_isSo_399 ?_
    refine lv_iconst (v := 1) hx hb dL_isSo_400 (by decide) ?_
    refine lv_isub hx hb dL_isSo_401 ?_
    refine lv_icmp_ne (tgt := 427) hx hb dL_isSo_402 (by decide) (fun c_11 => absurd p11 c_11) (fun c_11 => ?_)
    refine lv_aload_n hx hb dL_isSo_405 rfl (lv_at hl 6 rfl) ?_
    refine lr_elen (rest := []) F hD ⟨Nat.le_of_ble_eq_true rfl, Nat.le_of_ble_eq_true rfl⟩ ⟨Nat.le_of_ble_eq_true rfl, Nat.le_of_ble_eq_true rfl⟩ hl.1 (Nat.le_of_ble_eq_true rfl) dL_isSo_406 dL_isSo_409 hL (fun H locs hL => ?_)
    refine lv_iload_n hx hb dL_isSo_412 rfl (lv_at hl 7 rfl) ?_
    refine lv_aload_n hx hb dL_isSo_413 rfl (lv_at hl 6 rfl) ?_
    refine lr_S (As := [.ref (ad 0)]) (rest := [.int (nI (w * h)), .int (nI (w * h + h - 1))]) F (fun sz => kL_high l D cA cB ad F.had hD sz) kw_593 kw_594 kw_3 kw_595 hdL_high ⟨Nat.le_of_ble_eq_true rfl, Nat.le_of_ble_eq_true rfl⟩ rfl rfl rfl hl.1 rfl (Nat.le_of_ble_eq_true rfl) dL_isSo_414 ⟨Nat.le_of_ble_eq_true rfl, Nat.le_of_ble_eq_true rfl⟩ hL (fun H locs hL => ?_)
    refine lv_iadd hx hb dL_isSo_417 ?_
    refine lv_iconst (v := 1) hx hb dL_isSo_418 (by decide) ?_
    refine lv_isub hx hb dL_isSo_419 ?_
    refine lv_icmp_ne (tgt := 427) hx hb dL_isSo_420 (by decide) (fun c_12 => absurd p11 c_12) (fun c_12 => ?_)
    refine lv_iconst (v := 1) hx hb dL_isSo_423 (by decide) ?_
    refine lv_goto (tgt := 428) hx hb dL_isSo_424 (by decide) ?_
    refine W.widen (k := 180) (n := 80000) (Nat.le_of_ble_eq_true rfl) (Nat.le_of_ble_eq_true rfl) ?_
    exact W.zret hx hb hr rfl (fun t ht _ => ⟨rfl, by rw [ht]; exact hL.1, hL.2.2.2.2.F ht⟩) hL.2.2.2.2.2.2 dL_isSo_428 hlk
  have hTex : ∀ (d j : Nat), j + d = 9 → ∀ (x2 x3 x4 x5 x6 x7 : Int32) (H : Heap) (locs : List Loc) (ls : Array Slot), x2.toInt = SI (szI (f6_look τ ρ π γz) w h) m0 → x3.toInt = SI (wk π) (w * h) → 0 ≤ x4.toInt → x5.toInt = SI (mA ρ π w h) (w * h) → x6.toInt = SI (cutI ρ π w h) (w + h) → x7.toInt = SI (fun j => tx τ π (j + 1)) j → LW D cA ad (aL ad s.heap.size) [] s τ ρ π H locs → lv_has ls 9 [(8, .int (nI (j + 1))), (7, .int x7), (6, .int x6), (5, .int x5), (4, .int x4), (3, .int x3), (2, .int x2), (0, .ref (ad 0)), (1, .int (nI (w * h)))] → W p l e ({ frames := 9, cells := 180, slots := 80000, locals := 290 }) s m ([.ref (ad 0), .int (nI (w * h))] : List Value).toArray below meth c H locs 0 0 (MQ below (qZ D cA ad τ ρ π s.heap.size 1) ([.ref (ad 0), .int (nI (w * h))] : List Value).toArray s 180 80000 (aL ad s.heap.size)) (F0 m 260 ls []) := by
    intro d
    induction d with
    | zero =>
      intro j hj x2 x3 x4 x5 x6 x7 H locs ls f2 f3 f4 f5 f6 f7 hL hl
      have ej : j = 9 := by omega
      subst ej
      have ts := tx_sum hD
      have tb := txB 9
      refine lv_iload hx hb dL_isSo_260 (lv_at hl 0 rfl) ?_
      refine lv_bipush (v := 10) hx hb dL_isSo_262 (by decide) ?_
      refine lv_icmp_ge (tgt := 284) hx hb dL_isSo_264 (by decide) (fun c_1 => ?_) (fun c_1 => absurd (by decide) c_1)
      exact hTail x2 x3 x4 x5 x6 x7 H locs ls f2 f3 f4 f5 f6 (by omega) hL (lv_sub hl [1, 2, 3, 4, 5, 6, 7, 8] rfl)
    | succ d ih =>
      intro j hj x2 x3 x4 x5 x6 x7 H locs ls f2 f3 f4 f5 f6 f7 hL hl
      have tb := txB j
      have tj := tx_bd hD (j + 1)
      refine lv_iload hx hb dL_isSo_260 (lv_at hl 0 rfl) ?_
      refine lv_bipush (v := 10) hx hb dL_isSo_262 (by decide) ?_
      refine lv_icmp_ge (tgt := 284) hx hb dL_isSo_264 (by decide) (fun c_1 => absurd c_1 (by rw [show (10 : Int32) = nI 10 from rfl, nIle (by omega) (by omega)]; omega)) (fun c_1 => ?_)
      refine lv_iload hx hb dL_isSo_267 (lv_at hl 1 rfl) ?_
      refine lv_aload_n hx hb dL_isSo_269 rfl (lv_at hl 7 rfl) ?_
      refine lv_iload hx hb dL_isSo_270 (lv_at hl 0 rfl) ?_
      refine lr_texture (rest := [.int x7]) F hD (texture_in (by omega) (by omega)) ⟨Nat.le_of_ble_eq_true rfl, Nat.le_of_ble_eq_true rfl⟩ ⟨Nat.le_of_ble_eq_true rfl, Nat.le_of_ble_eq_true rfl⟩ hl.1 (Nat.le_of_ble_eq_true rfl) dL_isSo_272 hL (fun H locs hL => ?_)
      refine lv_iadd hx hb dL_isSo_275 ?_
      refine lv_istore (lv' := [(7, .int (x7 + (f6_textureOf τ π (nI (j + 1))))), (8, .int (nI (j + 1))), (6, .int x6), (5, .int x5), (4, .int x4), (3, .int x3), (2, .int x2), (0, .ref (ad 0)), (1, .int (nI (w * h)))]) hx hb dL_isSo_276 hl (by decide) rfl (fun ls hl => ?_)
      refine lv_iinc (v := nI ((j + 1) + 1)) (lv' := [(8, .int (nI ((j + 1) + 1))), (7, .int (x7 + (f6_textureOf τ π (nI (j + 1))))), (6, .int x6), (5, .int x5), (4, .int x4), (3, .int x3), (2, .int x2), (0, .ref (ad 0)), (1, .int (nI (w * h)))]) hx hb dL_isSo_278 hl (k := 1) rfl (nI_succ _).symm (by decide) rfl (fun ls hl => ?_)
      refine lv_goto (tgt := 260) hx hb dL_isSo_281 (by decide) ?_
      refine ih (j + 1) (by omega) x2 x3 x4 x5 x6 _ H locs ls f2 f3 f4 f5 f6 ?_ hL (lv_sub hl [0, 1, 2, 3, 4, 5, 6, 7, 8] rfl)
      have te : (f6_textureOf τ π (nI (j + 1))).toInt = tx τ π (j + 1) := rfl
      rw [z_add (by omega) (by omega), te, SI_s, f7]
  have hLin : ∀ (d k : Nat), k + d = w + h → ∀ (x2 x3 x4 x5 x6 : Int32) (H : Heap) (locs : List Loc) (ls : Array Slot), x2.toInt = SI (szI (f6_look τ ρ π γz) w h) m0 → x3.toInt = SI (wk π) (w * h) → 0 ≤ x4.toInt → x5.toInt = SI (mA ρ π w h) (w * h) → x6.toInt = SI (cutI ρ π w h) k → LW D cA ad (aL ad s.heap.size) [] s τ ρ π H locs → lv_has ls 9 [(7, .int (nI k)), (6, .int x6), (5, .int x5), (4, .int x4), (3, .int x3), (2, .int x2), (0, .ref (ad 0)), (1, .int (nI (w * h)))] → W p l e ({ frames := 9, cells := 180, slots := 80000, locals := 290 }) s m ([.ref (ad 0), .int (nI (w * h))] : List Value).toArray below meth c H locs 0 0 (MQ below (qZ D cA ad τ ρ π s.heap.size 1) ([.ref (ad 0), .int (nI (w * h))] : List Value).toArray s 180 80000 (aL ad s.heap.size)) (F0 m 222 ls []) := by
    intro d
    induction d with
    | zero =>
      intro k hk2 x2 x3 x4 x5 x6 H locs ls f2 f3 f4 f5 f6 hL hl
      have ek : k = w + h := by omega
      subst ek
      refine lv_iload hx hb dL_isSo_222 (lv_at hl 0 rfl) ?_
      refine lv_aload_n hx hb dL_isSo_224 rfl (lv_at hl 6 rfl) ?_
      refine lr_S (As := [.ref (ad 0)]) (rest := [.int (nI (w + h))]) F (fun sz => kL_wide l D cA cB ad F.had hD sz) kw_583 kw_584 kw_3 kw_585 hdL_wide ⟨Nat.le_of_ble_eq_true rfl, Nat.le_of_ble_eq_true rfl⟩ rfl rfl rfl hl.1 rfl (Nat.le_of_ble_eq_true rfl) dL_isSo_225 ⟨Nat.le_of_ble_eq_true rfl, Nat.le_of_ble_eq_true rfl⟩ hL (fun H locs hL => ?_)
      refine lv_aload_n hx hb dL_isSo_228 rfl (lv_at hl 6 rfl) ?_
      refine lr_S (As := [.ref (ad 0)]) (rest := [.int (nI w), .int (nI (w + h))]) F (fun sz => kL_high l D cA cB ad F.had hD sz) kw_593 kw_594 kw_3 kw_595 hdL_high ⟨Nat.le_of_ble_eq_true rfl, Nat.le_of_ble_eq_true rfl⟩ rfl rfl rfl hl.1 rfl (Nat.le_of_ble_eq_true rfl) dL_isSo_229 ⟨Nat.le_of_ble_eq_true rfl, Nat.le_of_ble_eq_true rfl⟩ hL (fun H locs hL => ?_)
      refine lv_iadd hx hb dL_isSo_232 ?_
      refine lv_icmp_ge (tgt := 254) hx hb dL_isSo_233 (by decide) (fun c_1 => ?_) (fun c_1 => absurd (by rw [nIa]; exact Int32.le_refl _) c_1)
      refine lv_iconst (v := 0) hx hb dL_isSo_254 (by decide) ?_
      refine lv_istore (lv' := [(7, .int 0), (6, .int x6), (5, .int x5), (4, .int x4), (3, .int x3), (2, .int x2), (0, .ref (ad 0)), (1, .int (nI (w * h)))]) hx hb dL_isSo_255 hl (by decide) rfl (fun ls hl => ?_)
      refine lv_iconst (v := 1) hx hb dL_isSo_257 (by decide) ?_
      refine lv_istore (lv' := [(8, .int 1), (7, .int 0), (6, .int x6), (5, .int x5), (4, .int x4), (3, .int x3), (2, .int x2), (0, .ref (ad 0)), (1, .int (nI (w * h)))]) hx hb dL_isSo_258 hl (by decide) rfl (fun ls hl => ?_)
      exact hTex 9 0 (by omega) x2 x3 x4 x5 x6 0 H locs ls f2 f3 f4 f5 f6 i0 hL (lv_sub hl [0, 1, 2, 3, 4, 5, 6, 7, 8] rfl)
    | succ d ih =>
      intro k hk2 x2 x3 x4 x5 x6 H locs ls f2 f3 f4 f5 f6 hL hl
      have hkl : k < w + h := by omega
      have cb := cuB k
      have ci := cutI_bd (ρ := ρ) (π := π) hD.1 k
      have ce := cutsOf_at hD.1 hD.2.2.1 hD.2.2.2 hkl
      refine lv_iload hx hb dL_isSo_222 (lv_at hl 0 rfl) ?_
      refine lv_aload_n hx hb dL_isSo_224 rfl (lv_at hl 6 rfl) ?_
      refine lr_S (As := [.ref (ad 0)]) (rest := [.int (nI k)]) F (fun sz => kL_wide l D cA cB ad F.had hD sz) kw_583 kw_584 kw_3 kw_585 hdL_wide ⟨Nat.le_of_ble_eq_true rfl, Nat.le_of_ble_eq_true rfl⟩ rfl rfl rfl hl.1 rfl (Nat.le_of_ble_eq_true rfl) dL_isSo_225 ⟨Nat.le_of_ble_eq_true rfl, Nat.le_of_ble_eq_true rfl⟩ hL (fun H locs hL => ?_)
      refine lv_aload_n hx hb dL_isSo_228 rfl (lv_at hl 6 rfl) ?_
      refine lr_S (As := [.ref (ad 0)]) (rest := [.int (nI w), .int (nI k)]) F (fun sz => kL_high l D cA cB ad F.had hD sz) kw_593 kw_594 kw_3 kw_595 hdL_high ⟨Nat.le_of_ble_eq_true rfl, Nat.le_of_ble_eq_true rfl⟩ rfl rfl rfl hl.1 rfl (Nat.le_of_ble_eq_true rfl) dL_isSo_229 ⟨Nat.le_of_ble_eq_true rfl, Nat.le_of_ble_eq_true rfl⟩ hL (fun H locs hL => ?_)
      refine lv_iadd hx hb dL_isSo_232 ?_
      refine lv_icmp_ge (tgt := 254) hx hb dL_isSo_233 (by decide) (fun c_1 => absurd c_1 (by rw [nIa, nIle (by omega) (by omega)]; omega)) (fun c_1 => ?_)
      refine lv_iload hx hb dL_isSo_236 (lv_at hl 1 rfl) ?_
      refine lv_aload_n hx hb dL_isSo_238 rfl (lv_at hl 6 rfl) ?_
      refine lv_iload hx hb dL_isSo_239 (lv_at hl 0 rfl) ?_
      refine lv_iconst (v := 1) hx hb dL_isSo_241 (by decide) ?_
      refine lr_cut (rest := [.int x6]) F hD hkl ⟨Nat.le_of_ble_eq_true rfl, Nat.le_of_ble_eq_true rfl⟩ ⟨Nat.le_of_ble_eq_true rfl, Nat.le_of_ble_eq_true rfl⟩ hl.1 (Nat.le_of_ble_eq_true rfl) dL_isSo_242 hL (fun H locs hL => ?_)
      refine lv_iadd hx hb dL_isSo_245 ?_
      refine lv_istore (lv' := [(6, .int (x6 + (f6_cutsOf τ ρ π (nI k)))), (7, .int (nI k)), (5, .int x5), (4, .int x4), (3, .int x3), (2, .int x2), (0, .ref (ad 0)), (1, .int (nI (w * h)))]) hx hb dL_isSo_246 hl (by decide) rfl (fun ls hl => ?_)
      refine lv_iinc (v := nI (k + 1)) (lv' := [(7, .int (nI (k + 1))), (6, .int (x6 + (f6_cutsOf τ ρ π (nI k)))), (5, .int x5), (4, .int x4), (3, .int x3), (2, .int x2), (0, .ref (ad 0)), (1, .int (nI (w * h)))]) hx hb dL_isSo_248 hl (k := 1) rfl (nI_succ _).symm (by decide) rfl (fun ls hl => ?_)
      refine lv_goto (tgt := 222) hx hb dL_isSo_251 (by decide) ?_
      refine ih (k + 1) (by omega) x2 x3 x4 x5 _ H locs ls f2 f3 f4 f5 ?_ hL (lv_sub hl [0, 1, 2, 3, 4, 5, 6, 7] rfl)
      rw [z_add (by omega) (by omega), ce, SI_s, f6]
  have hCel : ∀ (d k : Nat), k + d = w * h → ∀ (x2 x3 x4 x5 : Int32) (H : Heap) (locs : List Loc) (ls : Array Slot), x2.toInt = SI (szI (f6_look τ ρ π γz) w h) m0 → x3.toInt = SI (wk π) (w * h) → 0 ≤ x4.toInt → x5.toInt = SI (mA ρ π w h) k → LW D cA ad (aL ad s.heap.size) [] s τ ρ π H locs → lv_has ls 9 [(6, .int (nI k)), (5, .int x5), (4, .int x4), (3, .int x3), (2, .int x2), (0, .ref (ad 0)), (1, .int (nI (w * h)))] → W p l e ({ frames := 9, cells := 180, slots := 80000, locals := 290 }) s m ([.ref (ad 0), .int (nI (w * h))] : List Value).toArray below meth c H locs 0 0 (MQ below (qZ D cA ad τ ρ π s.heap.size 1) ([.ref (ad 0), .int (nI (w * h))] : List Value).toArray s 180 80000 (aL ad s.heap.size)) (F0 m 132 ls []) := by
    intro d
    induction d with
    | zero =>
      intro k hk2 x2 x3 x4 x5 H locs ls f2 f3 f4 f5 hL hl
      have ek : k = w * h := by omega
      subst ek
      refine lv_iload hx hb dL_isSo_132 (lv_at hl 0 rfl) ?_
      refine lv_iload_n hx hb dL_isSo_134 rfl (lv_at hl 6 rfl) ?_
      refine lv_icmp_ge (tgt := 216) hx hb dL_isSo_135 (by decide) (fun c_1 => ?_) (fun c_1 => absurd (Int32.le_refl _) c_1)
      refine lv_iconst (v := 0) hx hb dL_isSo_216 (by decide) ?_
      refine lv_istore (lv' := [(6, .int 0), (5, .int x5), (4, .int x4), (3, .int x3), (2, .int x2), (0, .ref (ad 0)), (1, .int (nI (w * h)))]) hx hb dL_isSo_217 hl (by decide) rfl (fun ls hl => ?_)
      refine lv_iconst (v := 0) hx hb dL_isSo_219 (by decide) ?_
      refine lv_istore (lv' := [(7, .int 0), (6, .int 0), (5, .int x5), (4, .int x4), (3, .int x3), (2, .int x2), (0, .ref (ad 0)), (1, .int (nI (w * h)))]) hx hb dL_isSo_220 hl (by decide) rfl (fun ls hl => ?_)
      exact hLin (w + h) 0 (by omega) x2 x3 x4 x5 0 H locs ls f2 f3 f4 f5 i0 hL (lv_sub hl [0, 1, 2, 3, 4, 5, 6, 7] (by rw [nI_0]; rfl))
    | succ d ih =>
      intro k hk2 x2 x3 x4 x5 H locs ls f2 f3 f4 f5 hL hl
      have hkn : k < w * h := by omega
      have hb9 := hD.2.2.2.2.1 k hkn
      have mb := mAB k (by omega)
      have mi := mA_bd hD.1 hD.2.2.1 hD.2.2.2 hkn
      have me := oc_5 hD hkn
      have ew : (π.2 1 k).toInt = wk π k := rfl
      have n1 : ¬ π.2 1 k < 0 := by rw [z_lt, i0, ew]; omega
      have n2 : ¬ 20 < π.2 1 k := by rw [z_lt, i20, ew]; omega
      have m0z : π.2 0 k = 0 → mk π k = 0 := fun q => (congrArg Int32.toInt q).trans i0
      have n3 : π.2 0 k = 0 → ¬ 0 < π.2 1 k := fun q => by rw [z_lt, i0, ew, (hb9.2.2 (m0z q)).1]; omega
      have n4 : π.2 0 k = 0 → ¬ π.2 2 k = 1 := fun q z => by have := (hb9.2.2 (m0z q)).2; have z2 : hk π k = 1 := (congrArg Int32.toInt z).trans i1; omega
      have n5 : π.2 0 k = 0 → oc τ ρ π (nI k) 4 = -1 := fun q => by
        rw [oc_4 hD hkn]
        by_cases z : (f6_look τ ρ π γz).2 (5 * 0 + 0) k = -1
        · exact z
        · exact absurd (m0z q) (hLk.1.2.2.1 k hkn z)
      have h198 : ∀ (H : Heap) (locs : List Loc) (ls : Array Slot), LW D cA ad (aL ad s.heap.size) [] s τ ρ π H locs → lv_has ls 9 [(7, .int (π.2 1 k)), (6, .int (nI k)), (5, .int x5), (4, .int x4), (3, .int x3), (2, .int x2), (0, .ref (ad 0)), (1, .int (nI (w * h)))] → W p l e ({ frames := 9, cells := 180, slots := 80000, locals := 290 }) s m ([.ref (ad 0), .int (nI (w * h))] : List Value).toArray below meth c H locs 0 0 (MQ below (qZ D cA ad τ ρ π s.heap.size 1) ([.ref (ad 0), .int (nI (w * h))] : List Value).toArray s 180 80000 (aL ad s.heap.size)) (F0 m 198 ls []) := by
        intro H locs ls hL hl
        refine lv_iload hx hb dL_isSo_198 (lv_at hl 2 rfl) ?_
        refine lv_aload_n hx hb dL_isSo_200 rfl (lv_at hl 6 rfl) ?_
        refine lv_iload hx hb dL_isSo_201 (lv_at hl 1 rfl) ?_
        refine lv_iconst (v := 5) hx hb dL_isSo_203 (by decide) ?_
        refine lr_cell (rest := [.int x5]) F hD (holds_ne hD.1 hkn) (by decide) ⟨Nat.le_of_ble_eq_true rfl, Nat.le_of_ble_eq_true rfl⟩ ⟨Nat.le_of_ble_eq_true rfl, Nat.le_of_ble_eq_true rfl⟩ hl.1 (Nat.le_of_ble_eq_true rfl) dL_isSo_204 hL (fun H locs hL => ?_)
        refine lv_iadd hx hb dL_isSo_207 ?_
        refine lv_istore (lv' := [(5, .int (x5 + (oc τ ρ π (nI k) 5))), (7, .int (π.2 1 k)), (6, .int (nI k)), (4, .int x4), (3, .int x3), (2, .int x2), (0, .ref (ad 0)), (1, .int (nI (w * h)))]) hx hb dL_isSo_208 hl (by decide) rfl (fun ls hl => ?_)
        refine lv_iinc (v := nI (k + 1)) (lv' := [(6, .int (nI (k + 1))), (5, .int (x5 + (oc τ ρ π (nI k) 5))), (7, .int (π.2 1 k)), (4, .int x4), (3, .int x3), (2, .int x2), (0, .ref (ad 0)), (1, .int (nI (w * h)))]) hx hb dL_isSo_210 hl (k := 2) rfl (nI_succ _).symm (by decide) rfl (fun ls hl => ?_)
        refine lv_goto (tgt := 132) hx hb dL_isSo_213 (by decide) ?_
        refine ih (k + 1) (by omega) x2 x3 x4 _ H locs ls f2 f3 f4 ?_ hL (lv_sub hl [0, 1, 3, 4, 5, 6, 7] rfl)
        rw [z_add (by omega) (by omega), me, SI_s, f5]
      refine lv_iload hx hb dL_isSo_132 (lv_at hl 0 rfl) ?_
      refine lv_iload_n hx hb dL_isSo_134 rfl (lv_at hl 6 rfl) ?_
      refine lv_icmp_ge (tgt := 216) hx hb dL_isSo_135 (by decide) (fun c_1 => absurd c_1 (nI_ge hkn (by omega))) (fun c_1 => ?_)
      refine lv_aload_n hx hb dL_isSo_138 rfl (lv_at hl 5 rfl) ?_
      refine lv_iload hx hb dL_isSo_139 (lv_at hl 0 rfl) ?_
      refine lv_iconst (v := 1) hx hb dL_isSo_141 (by decide) ?_
      refine lr_cell (rest := []) F hD (holds_ne hD.1 hkn) (by decide) ⟨Nat.le_of_ble_eq_true rfl, Nat.le_of_ble_eq_true rfl⟩ ⟨Nat.le_of_ble_eq_true rfl, Nat.le_of_ble_eq_true rfl⟩ hl.1 (Nat.le_of_ble_eq_true rfl) dL_isSo_142 hL (fun H locs hL => ?_)
      rw [oc_1 (by omega)]
      refine lv_istore (lv' := [(7, .int (π.2 1 k)), (6, .int (nI k)), (5, .int x5), (4, .int x4), (3, .int x3), (2, .int x2), (0, .ref (ad 0)), (1, .int (nI (w * h)))]) hx hb dL_isSo_145 hl (by decide) rfl (fun ls hl => ?_)
      refine lv_iload hx hb dL_isSo_147 (lv_at hl 0 rfl) ?_
      refine lv_if_lt (tgt := 196) hx hb dL_isSo_149 (by decide) (fun c_2 => absurd c_2 n1) (fun c_2 => ?_)
      refine lv_iload hx hb dL_isSo_152 (lv_at hl 0 rfl) ?_
      refine lv_bipush (v := 20) hx hb dL_isSo_154 (by decide) ?_
      refine lv_icmp_gt (tgt := 196) hx hb dL_isSo_156 (by decide) (fun c_3 => absurd c_3 n2) (fun c_3 => ?_)
      refine lv_aload_n hx hb dL_isSo_159 rfl (lv_at hl 6 rfl) ?_
      refine lv_iload hx hb dL_isSo_160 (lv_at hl 1 rfl) ?_
      refine lv_iconst (v := 0) hx hb dL_isSo_162 (by decide) ?_
      refine lr_cell (rest := []) F hD (holds_ne hD.1 hkn) (by decide) ⟨Nat.le_of_ble_eq_true rfl, Nat.le_of_ble_eq_true rfl⟩ ⟨Nat.le_of_ble_eq_true rfl, Nat.le_of_ble_eq_true rfl⟩ hl.1 (Nat.le_of_ble_eq_true rfl) dL_isSo_163 hL (fun H locs hL => ?_)
      rw [oc_0 (by omega)]
      refine lv_if_ne (tgt := 198) hx hb dL_isSo_166 (by decide) (fun z0 => ?_) (fun z0 => ?_)
      · exact h198 H locs ls hL (lv_sub hl [0, 1, 2, 3, 4, 5, 6, 7] rfl)
      · refine lv_iload hx hb dL_isSo_169 (lv_at hl 0 rfl) ?_
        refine lv_if_gt (tgt := 196) hx hb dL_isSo_171 (by decide) (fun c_5 => absurd c_5 (n3 z0)) (fun c_5 => ?_)
        refine lv_aload_n hx hb dL_isSo_174 rfl (lv_at hl 6 rfl) ?_
        refine lv_iload hx hb dL_isSo_175 (lv_at hl 1 rfl) ?_
        refine lv_iconst (v := 2) hx hb dL_isSo_177 (by decide) ?_
        refine lr_cell (rest := []) F hD (holds_ne hD.1 hkn) (by decide) ⟨Nat.le_of_ble_eq_true rfl, Nat.le_of_ble_eq_true rfl⟩ ⟨Nat.le_of_ble_eq_true rfl, Nat.le_of_ble_eq_true rfl⟩ hl.1 (Nat.le_of_ble_eq_true rfl) dL_isSo_178 hL (fun H locs hL => ?_)
        rw [oc_2 (by omega)]
        refine lv_iconst (v := 1) hx hb dL_isSo_181 (by decide) ?_
        refine lv_icmp_eq (tgt := 196) hx hb dL_isSo_182 (by decide) (fun c_6 => absurd c_6 (n4 z0)) (fun c_6 => ?_)
        refine lv_aload_n hx hb dL_isSo_185 rfl (lv_at hl 6 rfl) ?_
        refine lv_iload hx hb dL_isSo_186 (lv_at hl 1 rfl) ?_
        refine lv_iconst (v := 4) hx hb dL_isSo_188 (by decide) ?_
        refine lr_cell (rest := []) F hD (holds_ne hD.1 hkn) (by decide) ⟨Nat.le_of_ble_eq_true rfl, Nat.le_of_ble_eq_true rfl⟩ ⟨Nat.le_of_ble_eq_true rfl, Nat.le_of_ble_eq_true rfl⟩ hl.1 (Nat.le_of_ble_eq_true rfl) dL_isSo_189 hL (fun H locs hL => ?_)
        refine lv_iconst (v := (-1)) hx hb dL_isSo_192 (by decide) ?_
        refine lv_icmp_eq (tgt := 198) hx hb dL_isSo_193 (by decide) (fun c_7 => ?_) (fun c_7 => absurd (n5 z0) c_7)
        exact h198 H locs ls hL (lv_sub hl [0, 1, 2, 3, 4, 5, 6, 7] rfl)
  have hGra : ∀ (d g : Nat), g + d = m0 → ∀ (x2 x3 x4 : Int32) (H : Heap) (locs : List Loc) (ls : Array Slot), x2.toInt = SI (szI (f6_look τ ρ π γz) w h) g → x3.toInt = SI (wkG τ ρ π w h) g → 0 ≤ x4.toInt → x4.toInt ≤ 144 * (g : Int) → LW D cA ad (aL ad s.heap.size) [] s τ ρ π H locs → lv_has ls 9 [(5, .int (nI g)), (4, .int x4), (3, .int x3), (2, .int x2), (0, .ref (ad 0)), (1, .int (nI (w * h)))] → W p l e ({ frames := 9, cells := 180, slots := 80000, locals := 290 }) s m ([.ref (ad 0), .int (nI (w * h))] : List Value).toArray below meth c H locs 0 0 (MQ below (qZ D cA ad τ ρ π s.heap.size 1) ([.ref (ad 0), .int (nI (w * h))] : List Value).toArray s 180 80000 (aL ad s.heap.size)) (F0 m 10 ls []) := by
    intro d
    induction d with
    | zero =>
      intro g hg2 x2 x3 x4 H locs ls f2 f3 f4 f4b hL hl
      have eg : g = m0 := by omega
      subst eg
      refine lv_iload hx hb dL_isSo_10 (lv_at hl 0 rfl) ?_
      refine lv_aload_n hx hb dL_isSo_12 rfl (lv_at hl 4 rfl) ?_
      refine lv_iconst (v := 1) hx hb dL_isSo_13 (by decide) ?_
      refine lr_metal (rest := [.int (nI g)]) F hD (by decide) ⟨Nat.le_of_ble_eq_true rfl, Nat.le_of_ble_eq_true rfl⟩ ⟨Nat.le_of_ble_eq_true rfl, Nat.le_of_ble_eq_true rfl⟩ hl.1 (Nat.le_of_ble_eq_true rfl) dL_isSo_14 hL (fun H locs hL => ?_)
      rw [e1]
      refine lv_icmp_ge (tgt := 126) hx hb dL_isSo_17 (by decide) (fun c_1 => ?_) (fun c_1 => absurd (Int32.le_refl _) c_1)
      refine lv_iconst (v := 0) hx hb dL_isSo_126 (by decide) ?_
      refine lv_istore (lv' := [(5, .int 0), (4, .int x4), (3, .int x3), (2, .int x2), (0, .ref (ad 0)), (1, .int (nI (w * h)))]) hx hb dL_isSo_127 hl (by decide) rfl (fun ls hl => ?_)
      refine lv_iconst (v := 0) hx hb dL_isSo_129 (by decide) ?_
      refine lv_istore (lv' := [(6, .int 0), (5, .int 0), (4, .int x4), (3, .int x3), (2, .int x2), (0, .ref (ad 0)), (1, .int (nI (w * h)))]) hx hb dL_isSo_130 hl (by decide) rfl (fun ls hl => ?_)
      exact hCel (w * h) 0 (by omega) x2 x3 x4 0 H locs ls f2 (by rw [f3, wkG_sum hD hLk]) f4 i0 hL (lv_sub hl [0, 1, 2, 3, 4, 5, 6] (by rw [nI_0]; rfl))
    | succ d ih =>
      intro g hg2 x2 x3 x4 H locs ls f2 f3 f4 f4b hL hl
      have hg : g < m0 := by omega
      have gi := grain_in hD hLk hg
      obtain ⟨z1, z2, z3, z4⟩ := og_1 hD hLk hg
      obtain ⟨⟨r1, r2⟩, r3⟩ := og_2 hD (nI g)
      have v1 := og_5 hD g
      have v2 := wkG_bd hD g
      obtain ⟨f, y1, y2, y3, y4, y5⟩ := og_first hD hLk hg
      have bf := hD.2.2.2.1 f (by omega)
      have sb := szB g (by omega)
      have wb := wkB g
      have ef : (π.2 0 f).toInt = mk π f := rfl
      have ev : (og τ ρ π (nI g) 5).toInt = wkG τ ρ π w h g := v1
      refine lv_iload hx hb dL_isSo_10 (lv_at hl 0 rfl) ?_
      refine lv_aload_n hx hb dL_isSo_12 rfl (lv_at hl 4 rfl) ?_
      refine lv_iconst (v := 1) hx hb dL_isSo_13 (by decide) ?_
      refine lr_metal (rest := [.int (nI g)]) F hD (by decide) ⟨Nat.le_of_ble_eq_true rfl, Nat.le_of_ble_eq_true rfl⟩ ⟨Nat.le_of_ble_eq_true rfl, Nat.le_of_ble_eq_true rfl⟩ hl.1 (Nat.le_of_ble_eq_true rfl) dL_isSo_14 hL (fun H locs hL => ?_)
      rw [e1]
      refine lv_icmp_ge (tgt := 126) hx hb dL_isSo_17 (by decide) (fun c_1 => absurd c_1 (nI_ge hg (by omega))) (fun c_1 => ?_)
      refine lv_aload_n hx hb dL_isSo_20 rfl (lv_at hl 4 rfl) ?_
      refine lv_iload hx hb dL_isSo_21 (lv_at hl 0 rfl) ?_
      refine lv_iconst (v := 1) hx hb dL_isSo_23 (by decide) ?_
      refine lr_grain (rest := []) F hD gi (by decide) ⟨Nat.le_of_ble_eq_true rfl, Nat.le_of_ble_eq_true rfl⟩ ⟨Nat.le_of_ble_eq_true rfl, Nat.le_of_ble_eq_true rfl⟩ hl.1 (Nat.le_of_ble_eq_true rfl) dL_isSo_24 hL (fun H locs hL => ?_)
      refine lv_istore (lv' := [(6, .int (og τ ρ π (nI g) 1)), (5, .int (nI g)), (4, .int x4), (3, .int x3), (2, .int x2), (0, .ref (ad 0)), (1, .int (nI (w * h)))]) hx hb dL_isSo_27 hl (by decide) rfl (fun ls hl => ?_)
      refine lv_iload_n hx hb dL_isSo_29 rfl (lv_at hl 4 rfl) ?_
      refine lv_iload hx hb dL_isSo_30 (lv_at hl 0 rfl) ?_
      refine lv_iadd hx hb dL_isSo_32 ?_
      refine lv_istore_n (lv' := [(2, .int (x2 + (og τ ρ π (nI g) 1))), (6, .int (og τ ρ π (nI g) 1)), (5, .int (nI g)), (4, .int x4), (3, .int x3), (0, .ref (ad 0)), (1, .int (nI (w * h)))]) hx hb dL_isSo_33 rfl hl (by decide) rfl (fun ls hl => ?_)
      refine lv_iload_n hx hb dL_isSo_34 rfl (lv_at hl 4 rfl) ?_
      refine lv_aload_n hx hb dL_isSo_35 rfl (lv_at hl 5 rfl) ?_
      refine lv_iload hx hb dL_isSo_36 (lv_at hl 2 rfl) ?_
      refine lv_iconst (v := 5) hx hb dL_isSo_38 (by decide) ?_
      refine lr_grain (rest := [.int x3]) F hD gi (by decide) ⟨Nat.le_of_ble_eq_true rfl, Nat.le_of_ble_eq_true rfl⟩ ⟨Nat.le_of_ble_eq_true rfl, Nat.le_of_ble_eq_true rfl⟩ hl.1 (Nat.le_of_ble_eq_true rfl) dL_isSo_39 hL (fun H locs hL => ?_)
      refine lv_iadd hx hb dL_isSo_42 ?_
      refine lv_istore_n (lv' := [(3, .int (x3 + (og τ ρ π (nI g) 5))), (2, .int (x2 + (og τ ρ π (nI g) 1))), (6, .int (og τ ρ π (nI g) 1)), (5, .int (nI g)), (4, .int x4), (0, .ref (ad 0)), (1, .int (nI (w * h)))]) hx hb dL_isSo_43 rfl hl (by decide) rfl (fun ls hl => ?_)
      refine lv_iload hx hb dL_isSo_44 (lv_at hl 4 rfl) ?_
      refine lv_aload_n hx hb dL_isSo_46 rfl (lv_at hl 5 rfl) ?_
      refine lv_iload hx hb dL_isSo_47 (lv_at hl 3 rfl) ?_
      refine lv_iconst (v := 2) hx hb dL_isSo_49 (by decide) ?_
      refine lr_grain (rest := [.int x4]) F hD gi (by decide) ⟨Nat.le_of_ble_eq_true rfl, Nat.le_of_ble_eq_true rfl⟩ ⟨Nat.le_of_ble_eq_true rfl, Nat.le_of_ble_eq_true rfl⟩ hl.1 (Nat.le_of_ble_eq_true rfl) dL_isSo_50 hL (fun H locs hL => ?_)
      refine lv_iadd hx hb dL_isSo_53 ?_
      refine lv_istore (lv' := [(4, .int (x4 + (og τ ρ π (nI g) 2))), (3, .int (x3 + (og τ ρ π (nI g) 5))), (2, .int (x2 + (og τ ρ π (nI g) 1))), (6, .int (og τ ρ π (nI g) 1)), (5, .int (nI g)), (0, .ref (ad 0)), (1, .int (nI (w * h)))]) hx hb dL_isSo_54 hl (by decide) rfl (fun ls hl => ?_)
      refine lv_iload hx hb dL_isSo_56 (lv_at hl 3 rfl) ?_
      refine lv_iconst (v := 1) hx hb dL_isSo_58 (by decide) ?_
      refine lv_icmp_lt (tgt := 118) hx hb dL_isSo_59 (by decide) (fun c_2 => absurd c_2 (by rw [z_lt, z1, i1]; omega)) (fun c_2 => ?_)
      refine lv_iload hx hb dL_isSo_62 (lv_at hl 3 rfl) ?_
      refine lv_aload_n hx hb dL_isSo_64 rfl (lv_at hl 5 rfl) ?_
      refine lv_bipush (v := 15) hx hb dL_isSo_65 (by decide) ?_
      refine lr_metal (rest := [.int (og τ ρ π (nI g) 1)]) F hD (by decide) ⟨Nat.le_of_ble_eq_true rfl, Nat.le_of_ble_eq_true rfl⟩ ⟨Nat.le_of_ble_eq_true rfl, Nat.le_of_ble_eq_true rfl⟩ hl.1 (Nat.le_of_ble_eq_true rfl) dL_isSo_67 hL (fun H locs hL => ?_)
      refine lv_icmp_gt (tgt := 118) hx hb dL_isSo_70 (by decide) (fun c_3 => absurd c_3 (by rw [z_lt, z1]; omega)) (fun c_3 => ?_)
      refine lv_aload_n hx hb dL_isSo_73 rfl (lv_at hl 5 rfl) ?_
      refine lv_iload hx hb dL_isSo_74 (lv_at hl 4 rfl) ?_
      refine lv_iconst (v := 0) hx hb dL_isSo_76 (by decide) ?_
      refine lr_grain (rest := []) F hD gi (by decide) ⟨Nat.le_of_ble_eq_true rfl, Nat.le_of_ble_eq_true rfl⟩ ⟨Nat.le_of_ble_eq_true rfl, Nat.le_of_ble_eq_true rfl⟩ hl.1 (Nat.le_of_ble_eq_true rfl) dL_isSo_77 hL (fun H locs hL => ?_)
      refine lv_iconst (v := 1) hx hb dL_isSo_80 (by decide) ?_
      refine lv_icmp_lt (tgt := 118) hx hb dL_isSo_81 (by decide) (fun c_4 => absurd c_4 (by rw [y3, z_lt, ef, i1]; omega)) (fun c_4 => ?_)
      refine lv_aload_n hx hb dL_isSo_84 rfl (lv_at hl 5 rfl) ?_
      refine lv_iload hx hb dL_isSo_85 (lv_at hl 4 rfl) ?_
      refine lv_iconst (v := 3) hx hb dL_isSo_87 (by decide) ?_
      refine lr_grain (rest := []) F hD gi (by decide) ⟨Nat.le_of_ble_eq_true rfl, Nat.le_of_ble_eq_true rfl⟩ ⟨Nat.le_of_ble_eq_true rfl, Nat.le_of_ble_eq_true rfl⟩ hl.1 (Nat.le_of_ble_eq_true rfl) dL_isSo_88 hL (fun H locs hL => ?_)
      refine lv_aload_n hx hb dL_isSo_91 rfl (lv_at hl 5 rfl) ?_
      refine lv_iload hx hb dL_isSo_92 (lv_at hl 4 rfl) ?_
      refine lv_iconst (v := 2) hx hb dL_isSo_94 (by decide) ?_
      refine lr_grain (rest := [.int (og τ ρ π (nI g) 3)]) F hD gi (by decide) ⟨Nat.le_of_ble_eq_true rfl, Nat.le_of_ble_eq_true rfl⟩ ⟨Nat.le_of_ble_eq_true rfl, Nat.le_of_ble_eq_true rfl⟩ hl.1 (Nat.le_of_ble_eq_true rfl) dL_isSo_95 hL (fun H locs hL => ?_)
      refine lv_icmp_gt (tgt := 118) hx hb dL_isSo_98 (by decide) (fun c_5 => absurd c_5 (by rw [z_lt]; omega)) (fun c_5 => ?_)
      refine lv_aload_n hx hb dL_isSo_101 rfl (lv_at hl 5 rfl) ?_
      refine lv_aload_n hx hb dL_isSo_102 rfl (lv_at hl 5 rfl) ?_
      refine lv_iload hx hb dL_isSo_103 (lv_at hl 4 rfl) ?_
      refine lv_iconst (v := 4) hx hb dL_isSo_105 (by decide) ?_
      refine lr_grain (rest := [.ref (ad 0)]) F hD gi (by decide) ⟨Nat.le_of_ble_eq_true rfl, Nat.le_of_ble_eq_true rfl⟩ ⟨Nat.le_of_ble_eq_true rfl, Nat.le_of_ble_eq_true rfl⟩ hl.1 (Nat.le_of_ble_eq_true rfl) dL_isSo_106 hL (fun H locs hL => ?_)
      rw [y2]
      refine lv_iconst (v := 4) hx hb dL_isSo_109 (by decide) ?_
      refine lr_cell (rest := []) F hD (holds_ne hD.1 y1) (by decide) ⟨Nat.le_of_ble_eq_true rfl, Nat.le_of_ble_eq_true rfl⟩ ⟨Nat.le_of_ble_eq_true rfl, Nat.le_of_ble_eq_true rfl⟩ hl.1 (Nat.le_of_ble_eq_true rfl) dL_isSo_110 hL (fun H locs hL => ?_)
      rw [y5]
      refine lv_iload hx hb dL_isSo_113 (lv_at hl 4 rfl) ?_
      refine lv_icmp_eq (tgt := 120) hx hb dL_isSo_115 (by decide) (fun c_6 => ?_) (fun c_6 => absurd rfl c_6)
      refine lv_iinc (v := nI (g + 1)) (lv' := [(5, .int (nI (g + 1))), (4, .int (x4 + (og τ ρ π (nI g) 2))), (3, .int (x3 + (og τ ρ π (nI g) 5))), (2, .int (x2 + (og τ ρ π (nI g) 1))), (6, .int (og τ ρ π (nI g) 1)), (0, .ref (ad 0)), (1, .int (nI (w * h)))]) hx hb dL_isSo_120 hl (k := 4) rfl (nI_succ _).symm (by decide) rfl (fun ls hl => ?_)
      refine lv_goto (tgt := 10) hx hb dL_isSo_123 (by decide) ?_
      refine ih (g + 1) (by omega) _ _ _ H locs ls ?_ ?_ ?_ ?_ hL (lv_sub hl [0, 1, 2, 3, 5, 6] rfl)
      · rw [z_add (by omega) (by omega), z1, SI_s, f2]
      · rw [z_add (by omega) (by omega), ev, SI_s, f3]
      · rw [z_add (by omega) (by omega)]; omega
      · rw [z_add (by omega) (by omega)]; omega
  refine lv_iconst (v := 0) hx hb dL_isSo_0 (by decide) ?_
  refine lv_istore_n (lv' := [(2, .int 0), (0, .ref (ad 0)), (1, .int (nI (w * h)))]) hx hb dL_isSo_1 rfl hl (by decide) rfl (fun ls hl => ?_)
  refine lv_iconst (v := 0) hx hb dL_isSo_2 (by decide) ?_
  refine lv_istore_n (lv' := [(3, .int 0), (2, .int 0), (0, .ref (ad 0)), (1, .int (nI (w * h)))]) hx hb dL_isSo_3 rfl hl (by decide) rfl (fun ls hl => ?_)
  refine lv_iconst (v := 0) hx hb dL_isSo_4 (by decide) ?_
  refine lv_istore (lv' := [(4, .int 0), (3, .int 0), (2, .int 0), (0, .ref (ad 0)), (1, .int (nI (w * h)))]) hx hb dL_isSo_5 hl (by decide) rfl (fun ls hl => ?_)
  refine lv_iconst (v := 0) hx hb dL_isSo_7 (by decide) ?_
  refine lv_istore (lv' := [(5, .int 0), (4, .int 0), (3, .int 0), (2, .int 0), (0, .ref (ad 0)), (1, .int (nI (w * h)))]) hx hb dL_isSo_8 hl (by decide) rfl (fun ls hl => ?_)
  exact hGra m0 0 (by omega) 0 0 0 s.heap [] ls i0 i0 (by rw [i0]; omega) (by rw [i0]; omega) hL (lv_sub hl [0, 1, 2, 3, 4, 5] (by rw [nI_0]; rfl))

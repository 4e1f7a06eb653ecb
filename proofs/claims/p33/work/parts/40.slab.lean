/-! THE LAW'S slab: an object, told by the script -/
theorem hdL_slab : yL_slab.cls = yL_slab.cls ∧ yL_slab.cls ≠ "java/lang/invoke/MethodHandle" ∧ yL_slab.cls ≠ "java/lang/invoke/VarHandle" ∧ (parseMethodDescriptor yL_slab.desc).map (fun d => d.parameters.length) = some 2 := by decide +kernel
theorem b1_at (v : Int32) {n : Nat} (h0 : 0 < n) (h1 : n < 1000000) : ∃ a, (1 ≤ a ∧ a ≤ n) ∧ 1 + bl v (nI n) = nI a := by
  obtain ⟨k, hk, e⟩ := bl_at v h0 (by omega)
  exact ⟨1 + k, by omega, by rw [e, nI_one, nIa]⟩
theorem b2_at (v : Int32) {n : Nat} (h0 : 0 < n) (h1 : n < 1000000) : ∃ a, (2 ≤ a ∧ a ≤ n + 1) ∧ 2 + bl v (nI n) = nI a := by
  obtain ⟨k, hk, e⟩ := bl_at v h0 (by omega)
  exact ⟨2 + k, by omega, by rw [e, show (2 : Int32) = nI 2 from rfl, nIa]⟩
theorem pIN_blind {D : va_G} {cA : ClassId} {ws : va_W} {sz : Nat} {As : List Value} : FrameBlind (va_Pc As (pIN D cA ws sz)) := fun a U g mk q => by
  obtain ⟨q0, q1, qP, qK, qD, qN, qM⟩ := q
  exact ⟨q0, q1, qP, va_K.moved (u := U) (U := U.calling g mk a) (Vm.Alike.refl U.vm) qK, qD, va_Nw.same (u := U) (U := U.calling g mk a) rfl rfl qN, va_Nw.same (u := U) (U := U.calling g mk a) rfl rfl qM⟩
theorem apart_D {A : Nat → Prop} {cA : ClassId} {ad : Nat → Nat} {τ ρ π γ : Sg} (hD : va_D A (wS cA ad τ ρ π γ)) : Apart ad ∧ ∀ q, aS ad q → A q := by
  have key : ∀ k, k < 25 → ∃ x : Nat × va_E, (wS cA ad τ ρ π γ)[k]? = some x ∧ x.1 = ad k := fun k hk => by
    have h1 : ((wS cA ad τ ρ π γ).map (·.1))[k]? = some (ad k) := by
      rw [wS_map, List.getElem?_map, List.getElem?_range hk]
      rfl
    rw [List.getElem?_map] at h1
    cases h2 : (wS cA ad τ ρ π γ)[k]? with
    | none => rw [h2] at h1; cases h1
    | some x =>
      rw [h2] at h1
      exact ⟨x, rfl, Option.some.inj h1⟩
  refine ⟨fun i j hi hj e => ?_, fun q ⟨k, hk, e⟩ => ?_⟩
  · obtain ⟨x, x1, x2⟩ := key i hi
    obtain ⟨y, y1, y2⟩ := key j hj
    exact hD.1 i j x y x1 y1 (by rw [x2, y2, e])
  · obtain ⟨x, x1, x2⟩ := key k hk
    rw [e, ← x2]
    exact hD.2 k x x1
/-- what slab finds, and leaves -/
def pQ (D : va_G) (cA cB : ClassId) (b L : Nat) (xs : Nat → Int32) (sz : Nat) (U : State) : Prop := U.heap.size = sz ∧ va_K D vwCl [(cA, .int), (cB, .byte)] U ∧ nW U ∧ va_Nw (Cond.methodLinkNest RX7 11 yX5_init RX7) U ∧ zC U ∧ zW (fun q => sz ≤ q) U U.heap ∧ va_X b L xs U U.heap ∧ b < sz
theorem pQ_blind {D : va_G} {cA cB : ClassId} {b L : Nat} {xs : Nat → Int32} {sz : Nat} {As : List Value} : FrameBlind (va_Pc As (pQ D cA cB b L xs sz)) := fun a U g mk q => by
  obtain ⟨q0, q1, qK, qN, qM, qC, qZ, qX, qb⟩ := q
  exact ⟨q0, q1, va_K.moved (u := U) (U := U.calling g mk a) (Vm.Alike.refl U.vm) qK, va_Nw.same (u := U) (U := U.calling g mk a) rfl rfl qN, va_Nw.same (u := U) (U := U.calling g mk a) rfl rfl qM, va_Nw.same (u := U) (U := U.calling g mk a) rfl rfl qC, va_Z.moved (u := U) (U := U.calling g mk a) (Vm.Alike.refl U.vm) qZ, va_X.moved (u := U) (U := U.calling g mk a) (Vm.Alike.refl U.vm) qX, qb⟩
def qS (D : va_G) (cA : ClassId) (sz : Nat) : Array Value → State → Outcome → State → Prop := fun _ st o t => ∃ (ad : Nat → Nat) (w h : Nat) (τ ρ π : Sg), o = .returned (some (.ref (ad 0))) ∧ Apart ad ∧ (∀ q, aS ad q → sz ≤ q) ∧ Gd w h 36 τ ρ π ∧ (∃ γ, va_P D vwCl (wS cA ad τ ρ π γ) t.heap) ∧ va_F (fun q => sz ≤ q) st t
theorem Ok_τ00 : Ok τ00 := ⟨by decide, by decide, fun k _ => ⟨by show (0 : Int32) ≤ 0; decide, by show (0 : Int32) ≤ 4; decide⟩⟩
theorem lattice_G {π : Sg} (hG : GP 0 0 π) {w h m : Nat} (hw : 2 ≤ w ∧ w ≤ 6) (hh : 2 ≤ h ∧ h ≤ 6) (hm : 1 ≤ m ∧ m ≤ 9) : Gd w h 36 (f5_layOut τ00 (nI w) (nI h)) f4_init (f3_castAnew (f5_layOut τ00 (nI w) (nI h)) π (nI m)) := by
  have g := lattice_at hG GR_init γz hw hh hm
  rw [lattice_v γz (within_l w 2 8 (by rw [i2]; omega) (by rw [i8]; omega) (by omega)) (within_l h 2 8 (by rw [i2]; omega) (by rw [i8]; omega) (by omega)) (within_l m 1 9 (by rw [i1]; omega) (by rw [i9]; omega) (by omega))] at g
  exact g
set_option maxHeartbeats 8000000 in
set_option maxRecDepth 100000 in
theorem kL_slab (l : Launch) (D : va_G) (cA cB : ClassId) {b L : Nat} {xs : Nat → Int32} (hL260 : L ≤ 260) (sz : Nat) : Met l yL_slab (wM yL_slab cL_slab 9 (some (.object "Grainwright"))) ({ frames := 8, cells := 47, slots := 2325, locals := 170 }) (va_Pc [.ref b, .int 6] (pQ D cA cB b L xs sz)) (qS D cA sz) 47 2325 (fun q => sz ≤ q) := by
  refine lh_of (by decide) (Nat.le_of_ble_eq_true rfl) ?_
  intro p e s m below meth c ls C hr hlk hQ hl
  obtain ⟨hsz, hK, hN, hNM, hcl, hZ0, hXs, hbl⟩ := hQ
  subst hsz
  obtain ⟨hx, hb, hml, hown, hts⟩ := id C
  have htA : ∀ w ∈ wA, w.before ([.ref b, .int 6] : List Value).toArray s = true := fun w h => hts w (List.mem_cons_of_mem _ h)
  have hTs : ∀ w ∈ wA, w ∈ (wM yL_slab cL_slab 9 (some (.object "Grainwright"))) := fun w h => List.mem_cons_of_mem _ h
  have hl : lv_has ls 9 [(0, .ref b), (1, .int 6)] := hl
  have hbA : ¬ (fun q : Nat => s.heap.size ≤ q) b := fun q => by have q : s.heap.size ≤ b := q; omega
  have hA : ∀ q, s.heap.size ≤ q → (fun q : Nat => s.heap.size ≤ q) q := fun _ h => h
  have hKi : va_K D vwCl [(cA, .int)] s := hK.sub [0] rfl
  have hS : va_S (fun q : Nat => s.heap.size ≤ q) s.heap s.heap [] := va_S.rf
  have hPe : va_P D vwCl ([] : va_W) s.heap := fun k q h => by simp at h
  have hDe : va_D (fun q : Nat => s.heap.size ≤ q) ([] : va_W) := ⟨fun i j x y h => by simp at h, fun i x h => by simp at h⟩
  have kw21 : ∀ v : Int32, ∃ a, a < 21 ∧ bl v (nI 21) = nI a := fun v => bl_at v (by decide) (by decide)
  have hEnd : ∀ (ad : Nat → Nat) (w h : Nat) (τ ρ π : Sg) (H : Heap) (locs : List Loc) (ls : Array Slot), LF p m c cL_slab 9 s ([.ref b, .int 6] : List Value).toArray (wM yL_slab cL_slab 9 (some (.object "Grainwright"))) D cA cB ad (fun q : Nat => s.heap.size ≤ q) → Gd w h 36 τ ρ π → LW D cA ad (fun q : Nat => s.heap.size ≤ q) [] s τ ρ π H locs → lv_has ls 9 [(4, .int (nI h)), (3, .int (nI w)), (2, .ref (ad 0)), (0, .ref b), (1, .int 6)] → W p l e ({ frames := 8, cells := 47, slots := 2325, locals := 170 }) s m ([.ref b, .int 6] : List Value).toArray below meth c H locs 47 2325 (MQ below (qS D cA s.heap.size) ([.ref b, .int 6] : List Value).toArray s 47 2325 (fun q : Nat => s.heap.size ≤ q)) (F0 m 317 ls []) := by
    intro ad w h τ ρ π H locs ls F hD hL hl
    obtain ⟨t, ht, et⟩ := b1_at (cl xs L 10 >>> (3 &&& 31)) (n := 40) (by decide) (by decide)
    refine lv_aload_n hx hb dL_slab_317 rfl (lv_at hl 3 rfl) ?_
    refine lv_bipush (v := 10) hx hb dL_slab_318 (by decide) ?_
    refine lr_scr (rest := []) C hTs hL260 hXs hbl hbA hL.2.2.2.2 (by decide) ⟨Nat.le_of_ble_eq_true rfl, Nat.le_of_ble_eq_true rfl⟩ ⟨Nat.le_of_ble_eq_true rfl, Nat.le_of_ble_eq_true rfl⟩ hl.1 (Nat.le_of_ble_eq_true rfl) dL_slab_320 ?_
    refine lv_iconst (v := 3) hx hb dL_slab_323 (by decide) ?_
    refine lr_below (rest := []) (n := 3) C hTs (by decide) (by decide) ⟨Nat.le_of_ble_eq_true rfl, Nat.le_of_ble_eq_true rfl⟩ ⟨Nat.le_of_ble_eq_true rfl, Nat.le_of_ble_eq_true rfl⟩ hl.1 (Nat.le_of_ble_eq_true rfl) dL_slab_324 ?_
    refine lv_if_ne (tgt := 354) hx hb dL_slab_327 (by decide) (fun z0 => ?_) (fun z0 => ?_)
    · refine lv_aload_n hx hb dL_slab_354 rfl (lv_at hl 2 rfl) ?_
      exact W.aret hx hb hr (Or.inl ⟨_, rfl⟩) (Or.inr ⟨_, rfl⟩) (fun t9 ht9 _ => ⟨ad, w, h, τ, _, _, rfl, F.had, F.aA, hD, by rw [ht9]; exact hL.1, hL.2.2.2.2.F ht9⟩) hL.2.2.2.2.2.2 dL_slab_355 hlk
    · refine lv_aload_n hx hb dL_slab_330 rfl (lv_at hl 2 rfl) ?_
      refine lv_bipush (v := 9) hx hb dL_slab_331 (by decide) ?_
      refine lv_bipush (v := 7) hx hb dL_slab_333 (by decide) ?_
      refine lv_iconst (v := 1) hx hb dL_slab_335 (by decide) ?_
      refine lv_aload_n hx hb dL_slab_336 rfl (lv_at hl 3 rfl) ?_
      refine lv_bipush (v := 10) hx hb dL_slab_337 (by decide) ?_
      refine lr_scr (rest := [.int 1, .int 7, .int 9, .ref (ad 0)]) C hTs hL260 hXs hbl hbA hL.2.2.2.2 (by decide) ⟨Nat.le_of_ble_eq_true rfl, Nat.le_of_ble_eq_true rfl⟩ ⟨Nat.le_of_ble_eq_true rfl, Nat.le_of_ble_eq_true rfl⟩ hl.1 (Nat.le_of_ble_eq_true rfl) dL_slab_339 ?_
      refine lv_iconst (v := 3) hx hb dL_slab_342 (by decide) ?_
      refine lv_ishr hx hb dL_slab_343 ?_
      refine lv_bipush (v := 40) hx hb dL_slab_344 (by decide) ?_
      refine lr_below (rest := [.int 1, .int 7, .int 9, .ref (ad 0)]) (n := 40) C hTs (by decide) (by decide) ⟨Nat.le_of_ble_eq_true rfl, Nat.le_of_ble_eq_true rfl⟩ ⟨Nat.le_of_ble_eq_true rfl, Nat.le_of_ble_eq_true rfl⟩ hl.1 (Nat.le_of_ble_eq_true rfl) dL_slab_346 ?_
      refine lv_iadd hx hb dL_slab_349 ?_
      rw [et]
      refine lr_cool (rest := []) F (by decide) (within_l t 1 50 (by rw [i1]; omega) (by rw [i50]; omega) (by omega)) ⟨Nat.le_of_ble_eq_true rfl, Nat.le_of_ble_eq_true rfl⟩ ⟨Nat.le_of_ble_eq_true rfl, Nat.le_of_ble_eq_true rfl⟩ hl.1 (Nat.le_of_ble_eq_true rfl) dL_slab_350 hL (fun H locs hL => ?_)
      refine lv_pop hx hb dL_slab_353 rfl ?_
      refine lv_aload_n hx hb dL_slab_354 rfl (lv_at hl 2 rfl) ?_
      exact W.aret hx hb hr (Or.inl ⟨_, rfl⟩) (Or.inr ⟨_, rfl⟩) (fun t9 ht9 _ => ⟨ad, w, h, τ, _, _, rfl, F.had, F.aA, (set_cool hD (t := t) (by omega)), by rw [ht9]; exact hL.1, hL.2.2.2.2.F ht9⟩) hL.2.2.2.2.2.2 dL_slab_355 hlk
  have hCur : ∀ (d j : Nat), j + d = 3 → ∀ (ad : Nat → Nat) (w h : Nat) (τ ρ π : Sg) (H : Heap) (locs : List Loc) (ls : Array Slot), LF p m c cL_slab 9 s ([.ref b, .int 6] : List Value).toArray (wM yL_slab cL_slab 9 (some (.object "Grainwright"))) D cA cB ad (fun q : Nat => s.heap.size ≤ q) → Gd w h 36 τ ρ π → LW D cA ad (fun q : Nat => s.heap.size ≤ q) [] s τ ρ π H locs → lv_has ls 9 [(5, .int (nI j)), (4, .int (nI h)), (3, .int (nI w)), (2, .ref (ad 0)), (0, .ref b), (1, .int 6)] → W p l e ({ frames := 8, cells := 47, slots := 2325, locals := 170 }) s m ([.ref b, .int 6] : List Value).toArray below meth c H locs 47 2325 (MQ below (qS D cA s.heap.size) ([.ref b, .int 6] : List Value).toArray s 47 2325 (fun q : Nat => s.heap.size ≤ q)) (F0 m 266 ls []) := by
    intro d
    induction d with
    | zero =>
      intro j hj ad w h τ ρ π H locs ls F hD hL hl
      have ej : j = 3 := by omega
      subst ej
      refine lv_iload hx hb dL_slab_266 (lv_at hl 0 rfl) ?_
      refine lv_iconst (v := 3) hx hb dL_slab_268 (by decide) ?_
      refine lv_icmp_ge (tgt := 317) hx hb dL_slab_269 (by decide) (fun c_1 => ?_) (fun c_1 => absurd (by decide) c_1)
      exact hEnd ad w h τ ρ π H locs ls F hD hL (lv_sub hl [1, 2, 3, 4, 5] rfl)
    | succ d ih =>
      intro j hj ad w h τ ρ π H locs ls F hD hL hl
      obtain ⟨k, hk2, ek⟩ := bl_at (cl xs L 9 >>> ((4 * nI j) &&& 31)) (n := 10) (by decide) (by decide)
      obtain ⟨t, ht, et⟩ := b1_at (cl xs L 9 >>> ((3 * nI j) &&& 31)) (n := 99) (by decide) (by decide)
      refine lv_iload hx hb dL_slab_266 (lv_at hl 0 rfl) ?_
      refine lv_iconst (v := 3) hx hb dL_slab_268 (by decide) ?_
      refine lv_icmp_ge (tgt := 317) hx hb dL_slab_269 (by decide) (fun c_1 => absurd c_1 (by rw [show (3 : Int32) = nI 3 from rfl, nIle (by omega) (by omega)]; omega)) (fun c_1 => ?_)
      refine lv_aload_n hx hb dL_slab_272 rfl (lv_at hl 3 rfl) ?_
      refine lv_aload_n hx hb dL_slab_273 rfl (lv_at hl 4 rfl) ?_
      refine lv_bipush (v := 9) hx hb dL_slab_274 (by decide) ?_
      refine lr_scr (rest := [.ref (ad 0)]) C hTs hL260 hXs hbl hbA hL.2.2.2.2 (by decide) ⟨Nat.le_of_ble_eq_true rfl, Nat.le_of_ble_eq_true rfl⟩ ⟨Nat.le_of_ble_eq_true rfl, Nat.le_of_ble_eq_true rfl⟩ hl.1 (Nat.le_of_ble_eq_true rfl) dL_slab_276 ?_
      refine lv_iconst (v := 4) hx hb dL_slab_279 (by decide) ?_
      refine lv_iload hx hb dL_slab_280 (lv_at hl 0 rfl) ?_
      refine lv_imul hx hb dL_slab_282 ?_
      refine lv_ishr hx hb dL_slab_283 ?_
      refine lv_bipush (v := 10) hx hb dL_slab_284 (by decide) ?_
      refine lr_below (rest := [.ref (ad 0)]) (n := 10) C hTs (by decide) (by decide) ⟨Nat.le_of_ble_eq_true rfl, Nat.le_of_ble_eq_true rfl⟩ ⟨Nat.le_of_ble_eq_true rfl, Nat.le_of_ble_eq_true rfl⟩ hl.1 (Nat.le_of_ble_eq_true rfl) dL_slab_286 ?_
      rw [ek]
      refine lv_iconst (v := 1) hx hb dL_slab_289 (by decide) ?_
      refine lv_aload_n hx hb dL_slab_290 rfl (lv_at hl 4 rfl) ?_
      refine lv_bipush (v := 9) hx hb dL_slab_291 (by decide) ?_
      refine lr_scr (rest := [.int 1, .int (nI k), .ref (ad 0)]) C hTs hL260 hXs hbl hbA hL.2.2.2.2 (by decide) ⟨Nat.le_of_ble_eq_true rfl, Nat.le_of_ble_eq_true rfl⟩ ⟨Nat.le_of_ble_eq_true rfl, Nat.le_of_ble_eq_true rfl⟩ hl.1 (Nat.le_of_ble_eq_true rfl) dL_slab_293 ?_
      refine lv_iconst (v := 3) hx hb dL_slab_296 (by decide) ?_
      refine lv_iload hx hb dL_slab_297 (lv_at hl 0 rfl) ?_
      refine lv_imul hx hb dL_slab_299 ?_
      refine lv_ishr hx hb dL_slab_300 ?_
      refine lv_bipush (v := 99) hx hb dL_slab_301 (by decide) ?_
      refine lr_below (rest := [.int 1, .int (nI k), .ref (ad 0)]) (n := 99) C hTs (by decide) (by decide) ⟨Nat.le_of_ble_eq_true rfl, Nat.le_of_ble_eq_true rfl⟩ ⟨Nat.le_of_ble_eq_true rfl, Nat.le_of_ble_eq_true rfl⟩ hl.1 (Nat.le_of_ble_eq_true rfl) dL_slab_303 ?_
      refine lv_iadd hx hb dL_slab_306 ?_
      rw [et]
      refine lr_curve (rest := []) F (heat_in (by omega)) (within_l t 1 99 (by rw [i1]; omega) (by rw [i99]; omega) (by omega)) ⟨Nat.le_of_ble_eq_true rfl, Nat.le_of_ble_eq_true rfl⟩ ⟨Nat.le_of_ble_eq_true rfl, Nat.le_of_ble_eq_true rfl⟩ hl.1 (Nat.le_of_ble_eq_true rfl) dL_slab_307 hL (fun H locs hL => ?_)
      refine lv_pop hx hb dL_slab_310 rfl ?_
      refine lv_iinc (v := nI (j + 1)) (lv' := [(5, .int (nI (j + 1))), (4, .int (nI h)), (3, .int (nI w)), (2, .ref (ad 0)), (0, .ref b), (1, .int 6)]) hx hb dL_slab_311 hl (k := 0) rfl (nI_succ _).symm (by decide) rfl (fun ls hl => ?_)
      refine lv_goto (tgt := 266) hx hb dL_slab_314 (by decide) ?_
      exact ih (j + 1) (by omega) ad w h τ _ π H locs ls F (set_curve hD (by omega) (by omega)) hL (lv_sub hl [0, 1, 2, 3, 4, 5] rfl)
  have hEtc : ∀ (ad : Nat → Nat) (w h : Nat) (τ ρ π : Sg) (H : Heap) (locs : List Loc) (ls : Array Slot), LF p m c cL_slab 9 s ([.ref b, .int 6] : List Value).toArray (wM yL_slab cL_slab 9 (some (.object "Grainwright"))) D cA cB ad (fun q : Nat => s.heap.size ≤ q) → Gd w h 36 τ ρ π → LW D cA ad (fun q : Nat => s.heap.size ≤ q) [] s τ ρ π H locs → lv_has ls 9 [(4, .int (nI h)), (3, .int (nI w)), (2, .ref (ad 0)), (0, .ref b), (1, .int 6)] → W p l e ({ frames := 8, cells := 47, slots := 2325, locals := 170 }) s m ([.ref b, .int 6] : List Value).toArray below meth c H locs 47 2325 (MQ below (qS D cA s.heap.size) ([.ref b, .int 6] : List Value).toArray s 47 2325 (fun q : Nat => s.heap.size ≤ q)) (F0 m 246 ls []) := by
    intro ad w h τ ρ π H locs ls F hD hL hl
    obtain ⟨t, ht, et⟩ := b1_at (cl xs L 8) (n := 4) (by decide) (by decide)
    have hD2 := (set_etch hD γz (v := t) (by omega)).1
    refine lv_aload_n hx hb dL_slab_246 rfl (lv_at hl 2 rfl) ?_
    refine lv_iconst (v := 1) hx hb dL_slab_247 (by decide) ?_
    refine lv_aload_n hx hb dL_slab_248 rfl (lv_at hl 3 rfl) ?_
    refine lv_bipush (v := 8) hx hb dL_slab_249 (by decide) ?_
    refine lr_scr (rest := [.int 1, .ref (ad 0)]) C hTs hL260 hXs hbl hbA hL.2.2.2.2 (by decide) ⟨Nat.le_of_ble_eq_true rfl, Nat.le_of_ble_eq_true rfl⟩ ⟨Nat.le_of_ble_eq_true rfl, Nat.le_of_ble_eq_true rfl⟩ hl.1 (Nat.le_of_ble_eq_true rfl) dL_slab_251 ?_
    refine lv_iconst (v := 4) hx hb dL_slab_254 (by decide) ?_
    refine lr_below (rest := [.int 1, .ref (ad 0)]) (n := 4) C hTs (by decide) (by decide) ⟨Nat.le_of_ble_eq_true rfl, Nat.le_of_ble_eq_true rfl⟩ ⟨Nat.le_of_ble_eq_true rfl, Nat.le_of_ble_eq_true rfl⟩ hl.1 (Nat.le_of_ble_eq_true rfl) dL_slab_255 ?_
    refine lv_iadd hx hb dL_slab_258 ?_
    rw [et]
    refine lr_etch (rest := []) F (within_l t 1 9 (by rw [i1]; omega) (by rw [i9]; omega) (by omega)) hD2 ⟨Nat.le_of_ble_eq_true rfl, Nat.le_of_ble_eq_true rfl⟩ ⟨Nat.le_of_ble_eq_true rfl, Nat.le_of_ble_eq_true rfl⟩ hl.1 (Nat.le_of_ble_eq_true rfl) dL_slab_259 hL (fun H locs hL => ?_)
    refine lv_pop hx hb dL_slab_262 rfl ?_
    refine lv_iconst (v := 0) hx hb dL_slab_263 (by decide) ?_
    refine lv_istore (lv' := [(5, .int 0), (4, .int (nI h)), (3, .int (nI w)), (2, .ref (ad 0)), (0, .ref b), (1, .int 6)]) hx hb dL_slab_264 hl (by decide) rfl (fun ls hl => ?_)
    exact hCur 3 0 (by omega) ad w h τ _ π H locs ls F hD2 hL (lv_sub hl [0, 1, 2, 3, 4, 5] (by rw [nI_0]; rfl))
  have hFiv : ∀ (d j : Nat), j + d = 5 → ∀ (ad : Nat → Nat) (w h : Nat) (τ ρ π : Sg) (H : Heap) (locs : List Loc) (ls : Array Slot), LF p m c cL_slab 9 s ([.ref b, .int 6] : List Value).toArray (wM yL_slab cL_slab 9 (some (.object "Grainwright"))) D cA cB ad (fun q : Nat => s.heap.size ≤ q) → Gd w h 36 τ ρ π → LW D cA ad (fun q : Nat => s.heap.size ≤ q) [] s τ ρ π H locs → lv_has ls 9 [(5, .int (nI j)), (4, .int (nI h)), (3, .int (nI w)), (2, .ref (ad 0)), (0, .ref b), (1, .int 6)] → W p l e ({ frames := 8, cells := 47, slots := 2325, locals := 170 }) s m ([.ref b, .int 6] : List Value).toArray below meth c H locs 47 2325 (MQ below (qS D cA s.heap.size) ([.ref b, .int 6] : List Value).toArray s 47 2325 (fun q : Nat => s.heap.size ≤ q)) (F0 m 78 ls []) := by
    intro d
    induction d with
    | zero =>
      intro j hj ad w h τ ρ π H locs ls F hD hL hl
      have ej : j = 5 := by omega
      subst ej
      refine lv_iload hx hb dL_slab_78 (lv_at hl 0 rfl) ?_
      refine lv_iconst (v := 5) hx hb dL_slab_80 (by decide) ?_
      refine lv_icmp_ge (tgt := 246) hx hb dL_slab_81 (by decide) (fun c_1 => ?_) (fun c_1 => absurd (by decide) c_1)
      exact hEtc ad w h τ ρ π H locs ls F hD hL (lv_sub hl [1, 2, 3, 4, 5] rfl)
    | succ d ih =>
      intro j hj ad w h τ ρ π H locs ls F hD hL hl
      have h36 := hD.1.n36
      have hpos := hD.1.npos
      obtain ⟨a1, ha1, ea1⟩ := b1_at (cl xs L (nI (3 + j))) (n := 9) (by decide) (by decide)
      obtain ⟨a2, ha2, ea2⟩ := b1_at ((cl xs L (nI (3 + j))) >>> (4 &&& 31)) (n := 9) (by decide) (by decide)
      obtain ⟨a3, ha3, ea3⟩ := b1_at ((cl xs L (nI (3 + j))) >>> (8 &&& 31)) (n := 9) (by decide) (by decide)
      obtain ⟨c1, hc1, ec1⟩ := bl_at ((cl xs L (nI (3 + j))) >>> (3 &&& 31)) (n := w * h) hpos (by omega)
      obtain ⟨a4, ha4, ea4⟩ := bl_at ((cl xs L (nI (3 + j))) >>> (9 &&& 31)) (n := 21) (by decide) (by decide)
      obtain ⟨c2, hc2, ec2⟩ := bl_at ((cl xs L (nI (3 + j))) >>> (11 &&& 31)) (n := w * h) hpos (by omega)
      have h240 : ∀ (ρ π : Sg) (H : Heap) (locs : List Loc) (ls : Array Slot), Gd w h 36 τ ρ π → LW D cA ad (fun q : Nat => s.heap.size ≤ q) [] s τ ρ π H locs → lv_has ls 9 [(8, .int (nI a2)), (7, .int (nI a1)), (6, .int (cl xs L (nI (3 + j)))), (5, .int (nI j)), (4, .int (nI h)), (3, .int (nI w)), (2, .ref (ad 0)), (0, .ref b), (1, .int 6)] → W p l e ({ frames := 8, cells := 47, slots := 2325, locals := 170 }) s m ([.ref b, .int 6] : List Value).toArray below meth c H locs 47 2325 (MQ below (qS D cA s.heap.size) ([.ref b, .int 6] : List Value).toArray s 47 2325 (fun q : Nat => s.heap.size ≤ q)) (F0 m 240 ls []) := by
        intro ρ π H locs ls hD hL hl
        refine lv_iinc (v := nI (j + 1)) (lv' := [(5, .int (nI (j + 1))), (8, .int (nI a2)), (7, .int (nI a1)), (6, .int (cl xs L (nI (3 + j)))), (4, .int (nI h)), (3, .int (nI w)), (2, .ref (ad 0)), (0, .ref b), (1, .int 6)]) hx hb dL_slab_240 hl (k := 3) rfl (nI_succ _).symm (by decide) rfl (fun ls hl => ?_)
        refine lv_goto (tgt := 78) hx hb dL_slab_243 (by decide) ?_
        exact ih (j + 1) (by omega) ad w h τ ρ π H locs ls F hD hL (lv_sub hl [0, 4, 5, 6, 7, 8] rfl)
      have h191 : ∀ (ρ π : Sg) (H : Heap) (locs : List Loc) (ls : Array Slot), Gd w h 36 τ ρ π → LW D cA ad (fun q : Nat => s.heap.size ≤ q) [] s τ ρ π H locs → lv_has ls 9 [(8, .int (nI a2)), (7, .int (nI a1)), (6, .int (cl xs L (nI (3 + j)))), (5, .int (nI j)), (4, .int (nI h)), (3, .int (nI w)), (2, .ref (ad 0)), (0, .ref b), (1, .int 6)] → W p l e ({ frames := 8, cells := 47, slots := 2325, locals := 170 }) s m ([.ref b, .int 6] : List Value).toArray below meth c H locs 47 2325 (MQ below (qS D cA s.heap.size) ([.ref b, .int 6] : List Value).toArray s 47 2325 (fun q : Nat => s.heap.size ≤ q)) (F0 m 191 ls []) := by
        intro ρ π H locs ls hD hL hl
        refine lv_iload hx hb dL_slab_191 (lv_at hl 2 rfl) ?_
        refine lv_bipush (v := 6) hx hb dL_slab_193 (by decide) ?_
        refine lv_ishr hx hb dL_slab_195 ?_
        refine lv_iconst (v := 3) hx hb dL_slab_196 (by decide) ?_
        refine lr_below (rest := []) (n := 3) C hTs (by decide) (by decide) ⟨Nat.le_of_ble_eq_true rfl, Nat.le_of_ble_eq_true rfl⟩ ⟨Nat.le_of_ble_eq_true rfl, Nat.le_of_ble_eq_true rfl⟩ hl.1 (Nat.le_of_ble_eq_true rfl) dL_slab_197 ?_
        refine lv_if_ne (tgt := 240) hx hb dL_slab_200 (by decide) (fun z0 => ?_) (fun z0 => ?_)
        · exact h240 ρ π H locs ls hD hL (lv_sub hl [0, 1, 2, 3, 4, 5, 6, 7, 8] rfl)
        · refine lv_aload_n hx hb dL_slab_203 rfl (lv_at hl 6 rfl) ?_
          refine lv_iload hx hb dL_slab_204 (lv_at hl 2 rfl) ?_
          refine lv_bipush (v := 11) hx hb dL_slab_206 (by decide) ?_
          refine lv_ishr hx hb dL_slab_208 ?_
          refine lv_iload_n hx hb dL_slab_209 rfl (lv_at hl 5 rfl) ?_
          refine lv_iload hx hb dL_slab_210 (lv_at hl 4 rfl) ?_
          refine lv_imul hx hb dL_slab_212 ?_
          rw [nIm]
          refine lr_below (rest := [.ref (ad 0)]) (n := (w * h)) C hTs hpos (by omega) ⟨Nat.le_of_ble_eq_true rfl, Nat.le_of_ble_eq_true rfl⟩ ⟨Nat.le_of_ble_eq_true rfl, Nat.le_of_ble_eq_true rfl⟩ hl.1 (Nat.le_of_ble_eq_true rfl) dL_slab_213 ?_
          rw [ec2]
          refine lv_iconst (v := 0) hx hb dL_slab_216 (by decide) ?_
          refine lr_cell (rest := []) F hD (holds_ne hD.1 hc2) (by decide) ⟨Nat.le_of_ble_eq_true rfl, Nat.le_of_ble_eq_true rfl⟩ ⟨Nat.le_of_ble_eq_true rfl, Nat.le_of_ble_eq_true rfl⟩ hl.1 (Nat.le_of_ble_eq_true rfl) dL_slab_217 hL (fun H locs hL => ?_)
          rw [oc_0 (by omega)]
          refine lv_if_le (tgt := 240) hx hb dL_slab_220 (by decide) (fun z1 => ?_) (fun z1 => ?_)
          · exact h240 ρ π H locs ls hD hL (lv_sub hl [0, 1, 2, 3, 4, 5, 6, 7, 8] rfl)
          · refine lv_aload_n hx hb dL_slab_223 rfl (lv_at hl 6 rfl) ?_
            refine lv_iload hx hb dL_slab_224 (lv_at hl 2 rfl) ?_
            refine lv_bipush (v := 11) hx hb dL_slab_226 (by decide) ?_
            refine lv_ishr hx hb dL_slab_228 ?_
            refine lv_iload_n hx hb dL_slab_229 rfl (lv_at hl 5 rfl) ?_
            refine lv_iload hx hb dL_slab_230 (lv_at hl 4 rfl) ?_
            refine lv_imul hx hb dL_slab_232 ?_
            rw [nIm]
            refine lr_below (rest := [.ref (ad 0)]) (n := (w * h)) C hTs hpos (by omega) ⟨Nat.le_of_ble_eq_true rfl, Nat.le_of_ble_eq_true rfl⟩ ⟨Nat.le_of_ble_eq_true rfl, Nat.le_of_ble_eq_true rfl⟩ hl.1 (Nat.le_of_ble_eq_true rfl) dL_slab_233 ?_
            rw [ec2]
            have hm9 : mk π c2 ≠ 0 := fun q => z1 (by rw [z_le, i0]; have q2 : (π.2 0 c2).toInt = mk π c2 := rfl; omega)
            have hm8 : ¬ f3_markAt π (nI c2) = 0 := fun q => hm9 (by rw [markAt_at π (by omega)] at q; exact (congrArg Int32.toInt q).trans i0)
            refine lr_pin (rest := []) F (holds_ne hD.1 hc2) hm8 ⟨Nat.le_of_ble_eq_true rfl, Nat.le_of_ble_eq_true rfl⟩ ⟨Nat.le_of_ble_eq_true rfl, Nat.le_of_ble_eq_true rfl⟩ hl.1 (Nat.le_of_ble_eq_true rfl) dL_slab_236 hL (fun H locs hL => ?_)
            refine lv_pop hx hb dL_slab_239 rfl ?_
            exact h240 ρ _ H locs ls (set_pin hD hc2 hm9) hL (lv_sub hl [0, 1, 2, 3, 4, 5, 6, 7, 8] rfl)
      have h146 : ∀ (ρ π : Sg) (H : Heap) (locs : List Loc) (ls : Array Slot), Gd w h 36 τ ρ π → LW D cA ad (fun q : Nat => s.heap.size ≤ q) [] s τ ρ π H locs → lv_has ls 9 [(8, .int (nI a2)), (7, .int (nI a1)), (6, .int (cl xs L (nI (3 + j)))), (5, .int (nI j)), (4, .int (nI h)), (3, .int (nI w)), (2, .ref (ad 0)), (0, .ref b), (1, .int 6)] → W p l e ({ frames := 8, cells := 47, slots := 2325, locals := 170 }) s m ([.ref b, .int 6] : List Value).toArray below meth c H locs 47 2325 (MQ below (qS D cA s.heap.size) ([.ref b, .int 6] : List Value).toArray s 47 2325 (fun q : Nat => s.heap.size ≤ q)) (F0 m 146 ls []) := by
        intro ρ π H locs ls hD hL hl
        refine lv_aload_n hx hb dL_slab_146 rfl (lv_at hl 6 rfl) ?_
        refine lv_iload hx hb dL_slab_147 (lv_at hl 2 rfl) ?_
        refine lv_iconst (v := 3) hx hb dL_slab_149 (by decide) ?_
        refine lv_ishr hx hb dL_slab_150 ?_
        refine lv_iload_n hx hb dL_slab_151 rfl (lv_at hl 5 rfl) ?_
        refine lv_iload hx hb dL_slab_152 (lv_at hl 4 rfl) ?_
        refine lv_imul hx hb dL_slab_154 ?_
        rw [nIm]
        refine lr_below (rest := [.ref (ad 0)]) (n := (w * h)) C hTs hpos (by omega) ⟨Nat.le_of_ble_eq_true rfl, Nat.le_of_ble_eq_true rfl⟩ ⟨Nat.le_of_ble_eq_true rfl, Nat.le_of_ble_eq_true rfl⟩ hl.1 (Nat.le_of_ble_eq_true rfl) dL_slab_155 ?_
        rw [ec1]
        refine lv_iconst (v := 0) hx hb dL_slab_158 (by decide) ?_
        refine lr_cell (rest := []) F hD (holds_ne hD.1 hc1) (by decide) ⟨Nat.le_of_ble_eq_true rfl, Nat.le_of_ble_eq_true rfl⟩ ⟨Nat.le_of_ble_eq_true rfl, Nat.le_of_ble_eq_true rfl⟩ hl.1 (Nat.le_of_ble_eq_true rfl) dL_slab_159 hL (fun H locs hL => ?_)
        rw [oc_0 (by omega)]
        refine lv_if_le (tgt := 191) hx hb dL_slab_162 (by decide) (fun z1 => ?_) (fun z1 => ?_)
        · exact h191 ρ π H locs ls hD hL (lv_sub hl [0, 1, 2, 3, 4, 5, 6, 7, 8] rfl)
        · refine lv_aload_n hx hb dL_slab_165 rfl (lv_at hl 6 rfl) ?_
          refine lv_iload hx hb dL_slab_166 (lv_at hl 2 rfl) ?_
          refine lv_iconst (v := 3) hx hb dL_slab_168 (by decide) ?_
          refine lv_ishr hx hb dL_slab_169 ?_
          refine lv_iload_n hx hb dL_slab_170 rfl (lv_at hl 5 rfl) ?_
          refine lv_iload hx hb dL_slab_171 (lv_at hl 4 rfl) ?_
          refine lv_imul hx hb dL_slab_173 ?_
          rw [nIm]
          refine lr_below (rest := [.ref (ad 0)]) (n := (w * h)) C hTs hpos (by omega) ⟨Nat.le_of_ble_eq_true rfl, Nat.le_of_ble_eq_true rfl⟩ ⟨Nat.le_of_ble_eq_true rfl, Nat.le_of_ble_eq_true rfl⟩ hl.1 (Nat.le_of_ble_eq_true rfl) dL_slab_174 ?_
          rw [ec1]
          refine lv_iload hx hb dL_slab_177 (lv_at hl 2 rfl) ?_
          refine lv_bipush (v := 9) hx hb dL_slab_179 (by decide) ?_
          refine lv_ishr hx hb dL_slab_181 ?_
          refine lv_bipush (v := 21) hx hb dL_slab_182 (by decide) ?_
          refine lr_below (rest := [.int (nI c1), .ref (ad 0)]) (n := 21) C hTs (by decide) (by decide) ⟨Nat.le_of_ble_eq_true rfl, Nat.le_of_ble_eq_true rfl⟩ ⟨Nat.le_of_ble_eq_true rfl, Nat.le_of_ble_eq_true rfl⟩ hl.1 (Nat.le_of_ble_eq_true rfl) dL_slab_184 ?_
          rw [ea4]
          have hm9 : mk π c1 ≠ 0 := fun q => z1 (by rw [z_le, i0]; have q2 : (π.2 0 c1).toInt = mk π c1 := rfl; omega)
          have hm8 : ¬ f3_markAt π (nI c1) = 0 := fun q => hm9 (by rw [markAt_at π (by omega)] at q; exact (congrArg Int32.toInt q).trans i0)
          refine lr_work (rest := []) F (holds_ne hD.1 hc1) hm8 (within_l a4 0 20 (by rw [i0]; omega) (by rw [i20]; omega) (by omega)) ⟨Nat.le_of_ble_eq_true rfl, Nat.le_of_ble_eq_true rfl⟩ ⟨Nat.le_of_ble_eq_true rfl, Nat.le_of_ble_eq_true rfl⟩ hl.1 (Nat.le_of_ble_eq_true rfl) dL_slab_187 hL (fun H locs hL => ?_)
          refine lv_pop hx hb dL_slab_190 rfl ?_
          exact h191 ρ _ H locs ls (set_work hD hc1 hm9 (by omega)) hL (lv_sub hl [0, 1, 2, 3, 4, 5, 6, 7, 8] rfl)
      refine lv_iload hx hb dL_slab_78 (lv_at hl 0 rfl) ?_
      refine lv_iconst (v := 5) hx hb dL_slab_80 (by decide) ?_
      refine lv_icmp_ge (tgt := 246) hx hb dL_slab_81 (by decide) (fun c_1 => absurd c_1 (by rw [show (5 : Int32) = nI 5 from rfl, nIle (by omega) (by omega)]; omega)) (fun c_1 => ?_)
      refine lv_aload_n hx hb dL_slab_84 rfl (lv_at hl 4 rfl) ?_
      refine lv_iconst (v := 3) hx hb dL_slab_85 (by decide) ?_
      refine lv_iload hx hb dL_slab_86 (lv_at hl 0 rfl) ?_
      refine lv_iadd hx hb dL_slab_88 ?_
      rw [show (3 : Int32) + nI j = nI (3 + j) from nIa 3 j]
      refine lr_scr (rest := []) C hTs hL260 hXs hbl hbA hL.2.2.2.2 (by rw [nI_int (by omega)]; omega) ⟨Nat.le_of_ble_eq_true rfl, Nat.le_of_ble_eq_true rfl⟩ ⟨Nat.le_of_ble_eq_true rfl, Nat.le_of_ble_eq_true rfl⟩ hl.1 (Nat.le_of_ble_eq_true rfl) dL_slab_89 ?_
      refine lv_istore (lv' := [(6, .int (cl xs L (nI (3 + j)))), (5, .int (nI j)), (4, .int (nI h)), (3, .int (nI w)), (2, .ref (ad 0)), (0, .ref b), (1, .int 6)]) hx hb dL_slab_92 hl (by decide) rfl (fun ls hl => ?_)
      refine lv_iconst (v := 1) hx hb dL_slab_94 (by decide) ?_
      refine lv_iload hx hb dL_slab_95 (lv_at hl 0 rfl) ?_
      refine lv_bipush (v := 9) hx hb dL_slab_97 (by decide) ?_
      refine lr_below (rest := [.int 1]) (n := 9) C hTs (by decide) (by decide) ⟨Nat.le_of_ble_eq_true rfl, Nat.le_of_ble_eq_true rfl⟩ ⟨Nat.le_of_ble_eq_true rfl, Nat.le_of_ble_eq_true rfl⟩ hl.1 (Nat.le_of_ble_eq_true rfl) dL_slab_99 ?_
      refine lv_iadd hx hb dL_slab_102 ?_
      rw [ea1]
      refine lv_istore (lv' := [(7, .int (nI a1)), (6, .int (cl xs L (nI (3 + j)))), (5, .int (nI j)), (4, .int (nI h)), (3, .int (nI w)), (2, .ref (ad 0)), (0, .ref b), (1, .int 6)]) hx hb dL_slab_103 hl (by decide) rfl (fun ls hl => ?_)
      refine lv_iconst (v := 1) hx hb dL_slab_105 (by decide) ?_
      refine lv_iload hx hb dL_slab_106 (lv_at hl 1 rfl) ?_
      refine lv_iconst (v := 4) hx hb dL_slab_108 (by decide) ?_
      refine lv_ishr hx hb dL_slab_109 ?_
      refine lv_bipush (v := 9) hx hb dL_slab_110 (by decide) ?_
      refine lr_below (rest := [.int 1]) (n := 9) C hTs (by decide) (by decide) ⟨Nat.le_of_ble_eq_true rfl, Nat.le_of_ble_eq_true rfl⟩ ⟨Nat.le_of_ble_eq_true rfl, Nat.le_of_ble_eq_true rfl⟩ hl.1 (Nat.le_of_ble_eq_true rfl) dL_slab_112 ?_
      refine lv_iadd hx hb dL_slab_115 ?_
      rw [ea2]
      refine lv_istore (lv' := [(8, .int (nI a2)), (7, .int (nI a1)), (6, .int (cl xs L (nI (3 + j)))), (5, .int (nI j)), (4, .int (nI h)), (3, .int (nI w)), (2, .ref (ad 0)), (0, .ref b), (1, .int 6)]) hx hb dL_slab_116 hl (by decide) rfl (fun ls hl => ?_)
      refine lv_iload hx hb dL_slab_118 (lv_at hl 1 rfl) ?_
      refine lv_iload hx hb dL_slab_120 (lv_at hl 0 rfl) ?_
      refine lv_icmp_eq (tgt := 146) hx hb dL_slab_122 (by decide) (fun z0 => ?_) (fun z0 => ?_)
      · exact h146 ρ π H locs ls hD hL (lv_sub hl [0, 1, 2, 3, 4, 5, 6, 7, 8] rfl)
      · refine lv_aload_n hx hb dL_slab_125 rfl (lv_at hl 6 rfl) ?_
        refine lv_iload hx hb dL_slab_126 (lv_at hl 1 rfl) ?_
        refine lv_iload hx hb dL_slab_128 (lv_at hl 0 rfl) ?_
        refine lv_iconst (v := 1) hx hb dL_slab_130 (by decide) ?_
        refine lv_iload hx hb dL_slab_131 (lv_at hl 2 rfl) ?_
        refine lv_bipush (v := 8) hx hb dL_slab_133 (by decide) ?_
        refine lv_ishr hx hb dL_slab_135 ?_
        refine lv_bipush (v := 9) hx hb dL_slab_136 (by decide) ?_
        refine lr_below (rest := [.int 1, .int (nI a2), .int (nI a1), .ref (ad 0)]) (n := 9) C hTs (by decide) (by decide) ⟨Nat.le_of_ble_eq_true rfl, Nat.le_of_ble_eq_true rfl⟩ ⟨Nat.le_of_ble_eq_true rfl, Nat.le_of_ble_eq_true rfl⟩ hl.1 (Nat.le_of_ble_eq_true rfl) dL_slab_138 ?_
        refine lv_iadd hx hb dL_slab_141 ?_
        rw [ea3]
        have hne : a1 ≠ a2 := fun q => z0 (by rw [q])
        refine lr_misfit (rest := []) F (marks_in (by omega) (by omega) hne) (within_l a3 1 9 (by rw [i1]; omega) (by rw [i9]; omega) (by omega)) ⟨Nat.le_of_ble_eq_true rfl, Nat.le_of_ble_eq_true rfl⟩ ⟨Nat.le_of_ble_eq_true rfl, Nat.le_of_ble_eq_true rfl⟩ hl.1 (Nat.le_of_ble_eq_true rfl) dL_slab_142 hL (fun H locs hL => ?_)
        refine lv_pop hx hb dL_slab_145 rfl ?_
        exact h146 _ π H locs ls (set_misfit hD (by omega) (by omega) hne (by omega)) hL (lv_sub hl [0, 1, 2, 3, 4, 5, 6, 7, 8] rfl)
  obtain ⟨k0, hk0, ek0⟩ := bl_at (cl xs L 0) (n := 1000) (by decide) (by decide)
  obtain ⟨w, hw, ew⟩ := b2_at (cl xs L 1) (n := 5) (by decide) (by decide)
  obtain ⟨h, hh, eh⟩ := b2_at (cl xs L 1 >>> (4 &&& 31)) (n := 5) (by decide) (by decide)
  obtain ⟨mm, hmm, em⟩ := b1_at (cl xs L 2) (n := 9) (by decide) (by decide)
  refine va_new (D := D) (ci := 9) (fs := [.null, .null, .null, .null, .null, .null, .null]) (C := RX7) (T := TX7) (N := 7) hx hb htA iA_X7 tyX7 tyX7_ok hown (htA _ kw_5) (htA _ kw_6) (htA _ kw_7) hKi hPe hDe hS hA rfl (fun j hj => by rcases (show j = 0 ∨ j = 1 ∨ j = 2 ∨ j = 3 ∨ j = 4 ∨ j = 5 ∨ j = 6 by omega) with rfl | rfl | rfl | rfl | rfl | rfl | rfl <;> rfl) (Nat.le_of_ble_eq_true rfl) (Nat.le_of_ble_eq_true rfl) dL_slab_0 (fun h0 H hP hD hS => ?_)
  have hP : va_P D vwCl [(h0, .inr (9, [.null, .null, .null, .null, .null, .null, .null]))] H := hP
  have hD : va_D (fun q : Nat => s.heap.size ≤ q) [(h0, .inr (9, [.null, .null, .null, .null, .null, .null, .null]))] := hD
  refine lv_dup hx hb dL_slab_3 rfl ?_
  have hFc := va_free (wc := [(h0, .inr (9, [.null, .null, .null, .null, .null, .null, .null]))]) hD hS hA [0] rfl
  refine va_callv (va_runI (As := []) (rest := [.ref h0]) C (k7_init l D cA h0 H.size) (cwI 0 hts (sy_goodI kw_10) rfl rfl rfl (htA _ kw_7) (htA _ kw_8) (htA _ kw_9) rfl (by decide +kernel) ⟨Nat.le_of_ble_eq_true rfl, Nat.le_of_ble_eq_true rfl⟩) ⟨pIN_blind, fun U hU hW => ⟨rfl, by rw [hU], by rw [hU]; exact hP, va_K.moved hW.alike hKi, hD.weaken (fun _ _ _ _ => trivial), va_Nw.warmM hW hN, va_Nw.warmM hW hNM⟩⟩ rfl rfl hl.1 rfl (lv_room (Nat.le_of_ble_eq_true rfl)) dL_slab_4 ⟨Nat.le_of_ble_eq_true rfl, Nat.le_of_ble_eq_true rfl⟩) hS (fun q _ h => hFc q h) hFc (fun u t H1 locs ht hvm hw9 hB hz1 hk1 hS => ?_)
  obtain ⟨hP1, hD1⟩ := hB
  rw [ht] at hP1
  have hD2 := hD1.weaken (B := (fun q : Nat => s.heap.size ≤ q)) (fun _ q _ h => hFc q.1 h)
  obtain ⟨ad, ead⟩ : ∃ ad : Nat → Nat, ad = (fun k => match k with | 0 => h0 | 1 => u 0 | 2 => u 3 | 3 => u 6 | 4 => u 14 | 5 => u 16 | 6 => u 22 | 7 => u 1 | 8 => u 2 | 9 => u 4 | 10 => u 5 | 11 => u 7 | 12 => u 8 | 13 => u 9 | 14 => u 17 | 15 => u 18 | 16 => u 19 | 17 => u 20 | 18 => u 21 | 19 => u 23 | 20 => u 24 | 21 => u 25 | 22 => u 26 | 23 => u 27 | 24 => u 15 | 25 => u 10 | 26 => u 28 | 27 => u 43 | _ => 0) := ⟨_, rfl⟩
  have hP3 : va_P D vwCl (wS cA ad τ00 f4_init π00 γz) H1 := by rw [ead]; exact hP1.sub [0, 1, 4, 7, 15, 17, 23, 2, 3, 5, 6, 8, 9, 10, 18, 19, 20, 21, 22, 24, 25, 26, 27, 28, 16] rfl
  have hD3 : va_D (fun q : Nat => s.heap.size ≤ q) (wS cA ad τ00 f4_init π00 γz) := by rw [ead]; exact hD2.sub [0, 1, 4, 7, 15, 17, 23, 2, 3, 5, 6, 8, 9, 10, 18, 19, 20, 21, 22, 24, 25, 26, 27, 28, 16] (by decide) rfl
  have e0 : h0 = ad 0 := (congrFun ead 0).symm
  rw [e0]
  obtain ⟨had, haA⟩ := apart_D hD3
  have F : LF p m c cL_slab 9 s ([.ref b, .int 6] : List Value).toArray (wM yL_slab cL_slab 9 (some (.object "Grainwright"))) D cA cB ad (fun q : Nat => s.heap.size ≤ q) := ⟨C, hTs, hK, hN, hcl, hZ0, had, haA, hA⟩
  have hL : LW D cA ad (fun q : Nat => s.heap.size ≤ q) [] s τ00 f4_init π00 H1 locs := ⟨⟨γz, hP3⟩, fun k q h => by simp at h, hDe, fun k q h => by simp at h, hS⟩
  refine W.widen (k := 47) (n := 2325) (Nat.le_of_ble_eq_true rfl) (Nat.le_of_ble_eq_true rfl) ?_
  have hG0 := GP_seed (v := k0) (by omega)
  have hDl := lattice_G hG0 (w := w) (h := h) (m := mm) (by omega) (by omega) (by omega)
  refine lv_astore_n (lv' := [(2, .ref (ad 0)), (0, .ref b), (1, .int 6)]) hx hb dL_slab_7 rfl hl (by decide) rfl (fun ls hl => ?_)
  refine lv_aload_n hx hb dL_slab_8 rfl (lv_at hl 0 rfl) ?_
  refine lv_aload_n hx hb dL_slab_9 rfl (lv_at hl 1 rfl) ?_
  refine lv_iconst (v := 0) hx hb dL_slab_10 (by decide) ?_
  refine lr_scr (rest := [.ref (ad 0)]) C hTs hL260 hXs hbl hbA hL.2.2.2.2 (by decide) ⟨Nat.le_of_ble_eq_true rfl, Nat.le_of_ble_eq_true rfl⟩ ⟨Nat.le_of_ble_eq_true rfl, Nat.le_of_ble_eq_true rfl⟩ hl.1 (Nat.le_of_ble_eq_true rfl) dL_slab_11 ?_
  refine lv_sipush (v := 1000) hx hb dL_slab_14 (by decide) ?_
  refine lr_below (rest := [.ref (ad 0)]) (n := 1000) C hTs (by decide) (by decide) ⟨Nat.le_of_ble_eq_true rfl, Nat.le_of_ble_eq_true rfl⟩ ⟨Nat.le_of_ble_eq_true rfl, Nat.le_of_ble_eq_true rfl⟩ hl.1 (Nat.le_of_ble_eq_true rfl) dL_slab_17 ?_
  rw [ek0]
  refine lr_seed (rest := []) F (seed_in (by omega)) ⟨Nat.le_of_ble_eq_true rfl, Nat.le_of_ble_eq_true rfl⟩ ⟨Nat.le_of_ble_eq_true rfl, Nat.le_of_ble_eq_true rfl⟩ hl.1 (Nat.le_of_ble_eq_true rfl) dL_slab_20 hL (fun H locs hL => ?_)
  refine lv_pop hx hb dL_slab_23 rfl ?_
  refine lv_iconst (v := 2) hx hb dL_slab_24 (by decide) ?_
  refine lv_aload_n hx hb dL_slab_25 rfl (lv_at hl 1 rfl) ?_
  refine lv_iconst (v := 1) hx hb dL_slab_26 (by decide) ?_
  refine lr_scr (rest := [.int 2]) C hTs hL260 hXs hbl hbA hL.2.2.2.2 (by decide) ⟨Nat.le_of_ble_eq_true rfl, Nat.le_of_ble_eq_true rfl⟩ ⟨Nat.le_of_ble_eq_true rfl, Nat.le_of_ble_eq_true rfl⟩ hl.1 (Nat.le_of_ble_eq_true rfl) dL_slab_27 ?_
  refine lv_iload_n hx hb dL_slab_30 rfl (lv_at hl 2 rfl) ?_
  refine lv_iconst (v := 1) hx hb dL_slab_31 (by decide) ?_
  refine lv_isub hx hb dL_slab_32 ?_
  rw [show (6 : Int32) - 1 = nI 5 from by decide]
  refine lr_below (rest := [.int 2]) (n := 5) C hTs (by decide) (by decide) ⟨Nat.le_of_ble_eq_true rfl, Nat.le_of_ble_eq_true rfl⟩ ⟨Nat.le_of_ble_eq_true rfl, Nat.le_of_ble_eq_true rfl⟩ hl.1 (Nat.le_of_ble_eq_true rfl) dL_slab_33 ?_
  refine lv_iadd hx hb dL_slab_36 ?_
  rw [ew]
  refine lv_istore_n (lv' := [(3, .int (nI w)), (2, .ref (ad 0)), (0, .ref b), (1, .int 6)]) hx hb dL_slab_37 rfl hl (by decide) rfl (fun ls hl => ?_)
  refine lv_iconst (v := 2) hx hb dL_slab_38 (by decide) ?_
  refine lv_aload_n hx hb dL_slab_39 rfl (lv_at hl 2 rfl) ?_
  refine lv_iconst (v := 1) hx hb dL_slab_40 (by decide) ?_
  refine lr_scr (rest := [.int 2]) C hTs hL260 hXs hbl hbA hL.2.2.2.2 (by decide) ⟨Nat.le_of_ble_eq_true rfl, Nat.le_of_ble_eq_true rfl⟩ ⟨Nat.le_of_ble_eq_true rfl, Nat.le_of_ble_eq_true rfl⟩ hl.1 (Nat.le_of_ble_eq_true rfl) dL_slab_41 ?_
  refine lv_iconst (v := 4) hx hb dL_slab_44 (by decide) ?_
  refine lv_ishr hx hb dL_slab_45 ?_
  refine lv_iload_n hx hb dL_slab_46 rfl (lv_at hl 3 rfl) ?_
  refine lv_iconst (v := 1) hx hb dL_slab_47 (by decide) ?_
  refine lv_isub hx hb dL_slab_48 ?_
  rw [show (6 : Int32) - 1 = nI 5 from by decide]
  refine lr_below (rest := [.int 2]) (n := 5) C hTs (by decide) (by decide) ⟨Nat.le_of_ble_eq_true rfl, Nat.le_of_ble_eq_true rfl⟩ ⟨Nat.le_of_ble_eq_true rfl, Nat.le_of_ble_eq_true rfl⟩ hl.1 (Nat.le_of_ble_eq_true rfl) dL_slab_49 ?_
  refine lv_iadd hx hb dL_slab_52 ?_
  rw [eh]
  refine lv_istore (lv' := [(4, .int (nI h)), (3, .int (nI w)), (2, .ref (ad 0)), (0, .ref b), (1, .int 6)]) hx hb dL_slab_53 hl (by decide) rfl (fun ls hl => ?_)
  refine lv_aload_n hx hb dL_slab_55 rfl (lv_at hl 2 rfl) ?_
  refine lv_iload_n hx hb dL_slab_56 rfl (lv_at hl 1 rfl) ?_
  refine lv_iload hx hb dL_slab_57 (lv_at hl 0 rfl) ?_
  refine lv_iconst (v := 1) hx hb dL_slab_59 (by decide) ?_
  refine lv_aload_n hx hb dL_slab_60 rfl (lv_at hl 3 rfl) ?_
  refine lv_iconst (v := 2) hx hb dL_slab_61 (by decide) ?_
  refine lr_scr (rest := [.int 1, .int (nI h), .int (nI w), .ref (ad 0)]) C hTs hL260 hXs hbl hbA hL.2.2.2.2 (by decide) ⟨Nat.le_of_ble_eq_true rfl, Nat.le_of_ble_eq_true rfl⟩ ⟨Nat.le_of_ble_eq_true rfl, Nat.le_of_ble_eq_true rfl⟩ hl.1 (Nat.le_of_ble_eq_true rfl) dL_slab_62 ?_
  refine lv_bipush (v := 9) hx hb dL_slab_65 (by decide) ?_
  refine lr_below (rest := [.int 1, .int (nI h), .int (nI w), .ref (ad 0)]) (n := 9) C hTs (by decide) (by decide) ⟨Nat.le_of_ble_eq_true rfl, Nat.le_of_ble_eq_true rfl⟩ ⟨Nat.le_of_ble_eq_true rfl, Nat.le_of_ble_eq_true rfl⟩ hl.1 (Nat.le_of_ble_eq_true rfl) dL_slab_67 ?_
  refine lv_iadd hx hb dL_slab_70 ?_
  rw [em]
  refine lr_lattice (rest := []) F Ok_τ00 (within_l w 2 8 (by rw [i2]; omega) (by rw [i8]; omega) (by omega)) (within_l h 2 8 (by rw [i2]; omega) (by rw [i8]; omega) (by omega)) (within_l mm 1 9 (by rw [i1]; omega) (by rw [i9]; omega) (by omega)) hDl ⟨Nat.le_of_ble_eq_true rfl, Nat.le_of_ble_eq_true rfl⟩ ⟨Nat.le_of_ble_eq_true rfl, Nat.le_of_ble_eq_true rfl⟩ hl.1 (Nat.le_of_ble_eq_true rfl) dL_slab_71 hL (fun H locs hL => ?_)
  refine lv_pop hx hb dL_slab_74 rfl ?_
  refine lv_iconst (v := 0) hx hb dL_slab_75 (by decide) ?_
  refine lv_istore (lv' := [(5, .int 0), (4, .int (nI h)), (3, .int (nI w)), (2, .ref (ad 0)), (0, .ref b), (1, .int 6)]) hx hb dL_slab_76 hl (by decide) rfl (fun ls hl => ?_)
  exact hFiv 5 0 (by omega) ad w h _ _ _ H locs ls F hDl hL (lv_sub hl [0, 1, 2, 3, 4, 5] (by rw [nI_0]; rfl))

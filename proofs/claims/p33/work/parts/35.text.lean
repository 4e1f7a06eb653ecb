/-! PICTURES of the object itself -/
def aL (ad : Nat → Nat) (sz : Nat) : Nat → Prop := fun q => aS ad q ∨ sz ≤ q
theorem aN_aL {ad : Nat → Nat} {z sz q : Nat} (h : aN z q) (hz : sz ≤ z) : aL ad sz q := by
  rcases h with ⟨k, e, h1⟩ | h1
  · simp at h1
  · exact Or.inr (Nat.le_trans hz h1)
/-- the system, and what rides along -/
def pY (D : va_G) (cA cB : ClassId) (ad : Nat → Nat) (sz : Nat) (τ ρ π γ : Sg) (U : State) : Prop := U.heap.size = sz ∧ va_P D vwCl (wS cA ad τ ρ π γ) U.heap ∧ va_K D vwCl [(cA, .int), (cB, .byte)] U ∧ nW U ∧ zC U ∧ zW (aL ad sz) U U.heap
theorem pY_blind {D : va_G} {cA cB : ClassId} {ad : Nat → Nat} {sz : Nat} {τ ρ π γ : Sg} {As : List Value} : FrameBlind (va_Pc As (pY D cA cB ad sz τ ρ π γ)) := fun a U g mk q => by
  obtain ⟨q0, q1, qP, qK, qN, qC, qZ⟩ := q
  exact ⟨q0, q1, qP, va_K.moved (u := U) (U := U.calling g mk a) (Vm.Alike.refl U.vm) qK, va_Nw.same (u := U) (U := U.calling g mk a) rfl rfl qN, va_Nw.same (u := U) (U := U.calling g mk a) rfl rfl qC, va_Z.moved (u := U) (U := U.calling g mk a) (Vm.Alike.refl U.vm) qZ⟩
theorem hdT_X6_drawnPicture : yX6_drawnPicture.cls = yX6_drawnPicture.cls ∧ yX6_drawnPicture.cls ≠ "java/lang/invoke/MethodHandle" ∧ yX6_drawnPicture.cls ≠ "java/lang/invoke/VarHandle" ∧ (parseMethodDescriptor yX6_drawnPicture.desc).map (fun d => d.parameters.length) = some 1 := by decide +kernel
theorem hdT_X7_picture : yX7_picture.cls = yX7_picture.cls ∧ yX7_picture.cls ≠ "java/lang/invoke/MethodHandle" ∧ yX7_picture.cls ≠ "java/lang/invoke/VarHandle" ∧ (parseMethodDescriptor yX7_picture.desc).map (fun d => d.parameters.length) = some 0 := by decide +kernel
set_option maxHeartbeats 4000000 in
set_option maxRecDepth 100000 in
theorem m7_picture (l : Launch) (D : va_G) (cA cB : ClassId) (ad : Nat → Nat) (had : Apart ad) (τ ρ π γ : Sg) (sz : Nat) (wn hn : Nat) (hT : Ok τ) (hsig : ∀ j, ¬ 255 < f6_signOf τ π (f6_look τ ρ π γ) j 0) (hw : f5_wide τ = nI wn) (hwn : wn ≤ 64) (hh : f5_high τ = nI hn) (hhn : hn ≤ 64) (hL : dpEnd wn hn 0 0 ≤ 80) : Met l yX7_picture (wM yX7_picture cX7_picture 1 (some (.object "java/lang/String"))) ({ frames := 8, cells := 90, slots := 40000, locals := 260 }) (va_Pc [.ref (ad 0)] (pY D cA cB ad sz τ ρ π γ)) (va_Qr (fun u : Nat × (Nat → Int32) => sb_Fit u.2) (fun u a t => (va_P D vwCl (tX cB (picLen wn hn) a u) t.heap ∧ va_D (aN sz) (tX cB (picLen wn hn) a u)) ∧ va_P D vwCl (wS cA ad τ ρ π (f6_look τ ρ π γ)) t.heap) (aL ad sz)) 90 40000 (aL ad sz) := by
  refine Met.ofW (cc := cX7_picture) (maxL := 1) (ret := (some (.object "java/lang/String"))) (by decide) rfl ?_
  intro p e s mth args below meth c s₁ B hml hv
  obtain ⟨rfl, hsz, hP, hK, hN, hcl, hZ⟩ := hv
  have hx := B.exec
  have hb := B.bytes
  have hr := B.returns
  have hts := atoms_spec (ws := wM yX7_picture cX7_picture 1 (some (.object "java/lang/String"))) B.pre
  have hown : s.vm.findClass RX7 = some mth.cls := findClass_of_methodNamed B.named
  have hlk := B.notSynchronized
  have htA : ∀ w ∈ wA, w.before _ s = true := fun w h => hts w (List.mem_cons_of_mem _ h)
  have hl := lv_entry ([.ref (ad 0)]) (n := 1) (Nat.le_of_ble_eq_true rfl)
  rw [lg_entry_eq]
  generalize (lg_sl ([.ref (ad 0)]) ++ List.replicate (1 - (lg_sl ([.ref (ad 0)])).length) Slot.unset).toArray = ls at hl ⊢
  have hl : lv_has ls 1 [(0, .ref (ad 0))] := hl
  have C : CallFix p mth c cX7_picture 1 s ([.ref (ad 0)] : List Value).toArray (wM yX7_picture cX7_picture 1 (some (.object "java/lang/String"))) RX7 := ⟨hx, hb, hml, hown, hts⟩
  subst hsz
  have hKi : va_K D vwCl [(cA, .int)] s := hK.sub [0] rfl
  have hS : va_S (aL ad s.heap.size) s.heap s.heap [] := va_S.rf
  refine lv_aload_n hx hb dX7_picture_0 rfl (lv_at hl 0 rfl) ?_
  refine gX7_4 hx hb htA hown hKi hP dX7_picture_1 ?_
  refine lv_aload_n hx hb dX7_picture_4 rfl (lv_at hl 0 rfl) ?_
  refine gX7_2 hx hb htA hown hKi hP dX7_picture_5 ?_
  refine sy_cvM (rest := []) (st1 := []) C hKi hN hP (fun _ h => Or.inl h) hS (m6_look l D cA ad had τ ρ π γ hT) (4) 8 rfl rfl kw_195 kw_196 kw_197 kw_29 kw_198 hd_X6_look ⟨Nat.le_of_ble_eq_true rfl, Nat.le_of_ble_eq_true rfl⟩ rfl rfl rfl hl.1 rfl (Nat.le_of_ble_eq_true rfl) dX7_picture_8 ⟨Nat.zero_le _, Nat.zero_le _⟩ rfl (fun H locs hP hS => ?_)
  refine lv_aload_n hx hb dX7_picture_11 rfl (lv_at hl 0 rfl) ?_
  refine gX7_4 hx hb htA hown hKi hP dX7_picture_12 ?_
  refine lv_iconst (v := 0) hx hb dX7_picture_15 (by decide) ?_
  refine va_callr (va_runV (As := [.int 0]) (rest := []) C (m6_drawnPicture l D cA cB ad τ ρ π (f6_look τ ρ π γ) H.size 0 wn hn hT hsig hw hwn hh hhn hL) (cwV 1 hts (sy_goodV kw_608 kw_609 kw_610 kw_29 kw_611) rfl rfl rfl hdT_X6_drawnPicture ⟨Nat.le_of_ble_eq_true rfl, Nat.le_of_ble_eq_true rfl⟩) ⟨pX_blind, va_recv hKi hP (ci := 8) (q0 := 4) rfl rfl, fun U hU hW => ⟨rfl, by rw [hU], by rw [hU]; exact hP, va_K.moved hW.alike hK, va_Nw.warmM hW hN, va_Nw.warmC hW hcl, by rw [hU]; exact va_Z.moved hW.alike (va_Z.narrow (va_Z.kept hZ (fun a ha hn => hS.2.1 a ha hn)) (fun q h => aN_aL h hS.1))⟩⟩ rfl rfl hl.1 rfl (lv_room (Nat.le_of_ble_eq_true rfl)) dX7_picture_16 ⟨Nat.le_of_ble_eq_true rfl, Nat.le_of_ble_eq_true rfl⟩) hS (fun q _ h => aN_aL h hS.1) (fun q h => aN_aL h hS.1) (fun u a2 t H1 locs1 ht hvm hw9 hB hz1 hk1 hS1 => ?_)
  obtain ⟨hP1, hD1⟩ := hB
  rw [ht] at hP1
  have hP2 : va_P D vwCl (wS cA ad τ ρ π (f6_look τ ρ π γ)) H1 := hP.kept (fun k y hy => hk1 y.1 (hP k y hy).lt (aN_lt (hP k y hy).lt))
  have hS0 := hS.1
  refine W.widen (k := 90) (n := 40000) (by omega) (by omega) ?_
  exact W.aret hx hb hr (Or.inl ⟨_, rfl⟩) (Or.inr ⟨_, rfl⟩) (fun t ht hW => ⟨⟨u, a2, rfl, hw9, ⟨by rw [ht]; exact hP1, hD1.weaken (fun _ q _ h => by
    rcases h with ⟨k, e, h1⟩ | h1
    · simp at h1
    · exact aN_ge (Nat.le_trans hS0 h1))⟩, by rw [ht]; exact hP2⟩, hS1.F ht⟩) hS1.2.2 dX7_picture_19 hlk
theorem hdT_X7_etched : yX7_etched.cls = yX7_etched.cls ∧ yX7_etched.cls ≠ "java/lang/invoke/MethodHandle" ∧ yX7_etched.cls ≠ "java/lang/invoke/VarHandle" ∧ (parseMethodDescriptor yX7_etched.desc).map (fun d => d.parameters.length) = some 0 := by decide +kernel
set_option maxHeartbeats 4000000 in
set_option maxRecDepth 100000 in
theorem m7_etched (l : Launch) (D : va_G) (cA cB : ClassId) (ad : Nat → Nat) (had : Apart ad) (τ ρ π γ : Sg) (sz : Nat) (wn hn : Nat) (hT : Ok τ) (hsig : ∀ j, ¬ 255 < f6_signOf τ π (f6_look τ ρ π γ) j 1) (hw : f5_wide τ = nI wn) (hwn : wn ≤ 64) (hh : f5_high τ = nI hn) (hhn : hn ≤ 64) (hL : dpEnd wn hn 0 0 ≤ 80) : Met l yX7_etched (wM yX7_etched cX7_etched 1 (some (.object "java/lang/String"))) ({ frames := 8, cells := 90, slots := 40000, locals := 260 }) (va_Pc [.ref (ad 0)] (pY D cA cB ad sz τ ρ π γ)) (va_Qr (fun u : Nat × (Nat → Int32) => sb_Fit u.2) (fun u a t => (va_P D vwCl (tX cB (picLen wn hn) a u) t.heap ∧ va_D (aN sz) (tX cB (picLen wn hn) a u)) ∧ va_P D vwCl (wS cA ad τ ρ π (f6_look τ ρ π γ)) t.heap) (aL ad sz)) 90 40000 (aL ad sz) := by
  refine Met.ofW (cc := cX7_etched) (maxL := 1) (ret := (some (.object "java/lang/String"))) (by decide) rfl ?_
  intro p e s mth args below meth c s₁ B hml hv
  obtain ⟨rfl, hsz, hP, hK, hN, hcl, hZ⟩ := hv
  have hx := B.exec
  have hb := B.bytes
  have hr := B.returns
  have hts := atoms_spec (ws := wM yX7_etched cX7_etched 1 (some (.object "java/lang/String"))) B.pre
  have hown : s.vm.findClass RX7 = some mth.cls := findClass_of_methodNamed B.named
  have hlk := B.notSynchronized
  have htA : ∀ w ∈ wA, w.before _ s = true := fun w h => hts w (List.mem_cons_of_mem _ h)
  have hl := lv_entry ([.ref (ad 0)]) (n := 1) (Nat.le_of_ble_eq_true rfl)
  rw [lg_entry_eq]
  generalize (lg_sl ([.ref (ad 0)]) ++ List.replicate (1 - (lg_sl ([.ref (ad 0)])).length) Slot.unset).toArray = ls at hl ⊢
  have hl : lv_has ls 1 [(0, .ref (ad 0))] := hl
  have C : CallFix p mth c cX7_etched 1 s ([.ref (ad 0)] : List Value).toArray (wM yX7_etched cX7_etched 1 (some (.object "java/lang/String"))) RX7 := ⟨hx, hb, hml, hown, hts⟩
  subst hsz
  have hKi : va_K D vwCl [(cA, .int)] s := hK.sub [0] rfl
  have hS : va_S (aL ad s.heap.size) s.heap s.heap [] := va_S.rf
  refine lv_aload_n hx hb dX7_etched_0 rfl (lv_at hl 0 rfl) ?_
  refine gX7_4 hx hb htA hown hKi hP dX7_etched_1 ?_
  refine lv_aload_n hx hb dX7_etched_4 rfl (lv_at hl 0 rfl) ?_
  refine gX7_2 hx hb htA hown hKi hP dX7_etched_5 ?_
  refine sy_cvM (rest := []) (st1 := []) C hKi hN hP (fun _ h => Or.inl h) hS (m6_look l D cA ad had τ ρ π γ hT) (4) 8 rfl rfl kw_195 kw_196 kw_197 kw_29 kw_198 hd_X6_look ⟨Nat.le_of_ble_eq_true rfl, Nat.le_of_ble_eq_true rfl⟩ rfl rfl rfl hl.1 rfl (Nat.le_of_ble_eq_true rfl) dX7_etched_8 ⟨Nat.zero_le _, Nat.zero_le _⟩ rfl (fun H locs hP hS => ?_)
  refine lv_aload_n hx hb dX7_etched_11 rfl (lv_at hl 0 rfl) ?_
  refine gX7_4 hx hb htA hown hKi hP dX7_etched_12 ?_
  refine lv_iconst (v := 1) hx hb dX7_etched_15 (by decide) ?_
  refine va_callr (va_runV (As := [.int 1]) (rest := []) C (m6_drawnPicture l D cA cB ad τ ρ π (f6_look τ ρ π γ) H.size 1 wn hn hT hsig hw hwn hh hhn hL) (cwV 1 hts (sy_goodV kw_608 kw_609 kw_610 kw_29 kw_611) rfl rfl rfl hdT_X6_drawnPicture ⟨Nat.le_of_ble_eq_true rfl, Nat.le_of_ble_eq_true rfl⟩) ⟨pX_blind, va_recv hKi hP (ci := 8) (q0 := 4) rfl rfl, fun U hU hW => ⟨rfl, by rw [hU], by rw [hU]; exact hP, va_K.moved hW.alike hK, va_Nw.warmM hW hN, va_Nw.warmC hW hcl, by rw [hU]; exact va_Z.moved hW.alike (va_Z.narrow (va_Z.kept hZ (fun a ha hn => hS.2.1 a ha hn)) (fun q h => aN_aL h hS.1))⟩⟩ rfl rfl hl.1 rfl (lv_room (Nat.le_of_ble_eq_true rfl)) dX7_etched_16 ⟨Nat.le_of_ble_eq_true rfl, Nat.le_of_ble_eq_true rfl⟩) hS (fun q _ h => aN_aL h hS.1) (fun q h => aN_aL h hS.1) (fun u a2 t H1 locs1 ht hvm hw9 hB hz1 hk1 hS1 => ?_)
  obtain ⟨hP1, hD1⟩ := hB
  rw [ht] at hP1
  have hP2 : va_P D vwCl (wS cA ad τ ρ π (f6_look τ ρ π γ)) H1 := hP.kept (fun k y hy => hk1 y.1 (hP k y hy).lt (aN_lt (hP k y hy).lt))
  have hS0 := hS.1
  refine W.widen (k := 90) (n := 40000) (by omega) (by omega) ?_
  exact W.aret hx hb hr (Or.inl ⟨_, rfl⟩) (Or.inr ⟨_, rfl⟩) (fun t ht hW => ⟨⟨u, a2, rfl, hw9, ⟨by rw [ht]; exact hP1, hD1.weaken (fun _ q _ h => by
    rcases h with ⟨k, e, h1⟩ | h1
    · simp at h1
    · exact aN_ge (Nat.le_trans hS0 h1))⟩, by rw [ht]; exact hP2⟩, hS1.F ht⟩) hS1.2.2 dX7_etched_19 hlk

/-! PICTURES: texts that the class draws; the system's world stays, the text's world is new cells alone -/
section PIC
variable {p : Program} {l : Launch} {e : Env} {R : Room} {s : State} {m : MethodId} {args : Array Value} {below : List Frame} {meth : Method} {c : Code} {H : Heap} {locs : List Loc} {cells slots : Nat} {Q : State → Prop}
variable {cc : ByteArray} {pc : Nat} {ls : Array Slot} {rest : List Value}
variable {D : va_G} {cA cB : ClassId} {A : Nat → Prop}
/-- new cells alone -/
abbrev aN (sz : Nat) : Nat → Prop := va_A ([] : va_W) sz
theorem aN_lt {sz q : Nat} (h : q < sz) : ¬ aN sz q := by
  rintro (⟨k, e, h1⟩ | h1)
  · simp at h1
  · omega
theorem aN_ge {sz q : Nat} (h : sz ≤ q) : aN sz q := Or.inr h
/-- what stood before a method that makes new cells alone stands yet -/
theorem sx_sys {ws : va_W} (hP0 : va_P D vwCl ws s.heap) (hS : va_S (aN s.heap.size) s.heap H locs) : va_P D vwCl ws H :=
  hP0.kept (fun k y hy => hS.2.1 y.1 (hP0 k y hy).lt (aN_lt (hP0 k y hy).lt))
/-- a builder and its row -/
abbrev tB (cB : ClassId) (h0 b : Nat) (mb : Int32) (k m : Nat) (f : Nat → Int32) : va_W := [(h0, .inr (1, [.ref b, .int 0, .int mb, .int (nI k)])), (b, .inl (cB, m, .inl f))]
theorem sx_append {own : String} {index : Nat} {y0 : MethodName} {n0 : Nat} {r0 : Option FieldType} {h0 b k mm : Nat} {mb ch : Int32} {f : Nat → Int32} {st0 : List Value} (S : CallFix p m c cc n0 s args (wM y0 cc n0 r0) own)
    (hK : va_K D vwCl [(cB, .byte)] s) (hZ : zW A s s.heap) (hP : va_P D vwCl (tB cB h0 b mb k mm f) H) (hD : va_D A (tB cB h0 b mb k mm f)) (hS : va_S A s.heap H locs) (hA : ∀ q, s.heap.size ≤ q → A q)
    (hkm : k ≤ mm) (hm : mm < 2 ^ 26) (hf : sb_Fit f) (ha : ¬ 255 < ch) (k1 : Cond.methodLink own index yJ4_append_cf468 ∈ wA)
    (hsz : ls.size = n0) (hst : st0 = .int ch :: .ref h0 :: rest) (hW : (rest.map fun v => v.category).sum ≤ 8) (hd : decode cc pc = .ok (.invokevirtual index, 3)) (hR : 6 ≤ R.frames ∧ 201 ≤ R.locals) (hc : cells + 1 ≤ R.cells) (hs : slots + (2 * mm + 2) ≤ R.slots)
    (kk : ∀ (b1 m1 : Nat) (f1 : Nat → Int32) (H : Heap) (locs : List Loc), k + 1 ≤ m1 → (m1 ≤ mm ∨ m1 ≤ 2 * k + 2) → sb_Fit f1 → va_P D vwCl (tB cB h0 b1 mb (k + 1) m1 f1) H → va_D A (tB cB h0 b1 mb (k + 1) m1 f1) → va_S A s.heap H locs →
      W p l e R s m args below meth c H locs (cells + 1) (slots + (2 * mm + 2)) Q (F0 m (pc + 3) ls (.ref h0 :: rest))) : W p l e R s m args below meth c H locs cells slots Q (F0 m pc ls st0) := by
  have hFc := va_free (wc := tB cB h0 b mb k mm f) hD hS hA [0, 1] rfl
  refine va_callr (va_runV (As := [.int ch]) (rest := rest) S (t_append l D cB h0 b mm k mb ch f H.size hkm hm hf ha) (cwV 1 S.2.2.2.2 (sy_goodV k1 kw_636 kw_637 kw_614 kw_638) rfl rfl rfl hdT_J4_append_cf468 hR) ⟨pT_blind, va_recv hK hP (ci := 1) (q0 := 0) rfl rfl, fun U hU hW => ⟨rfl, by rw [hU], by rw [hU]; exact hP, va_K.moved hW.alike hK, hD.weaken (fun _ _ _ _ => trivial), by rw [hU]; exact va_Z.moved hW.alike (va_Z.narrow (va_Z.kept hZ (fun a ha hn => hS.2.1 a ha hn)) (fun q h => hFc q h))⟩⟩ rfl rfl hsz hst (lv_room hW) hd ⟨hc, hs⟩) hS (fun q _ h => hFc q h) hFc (fun u a2 t H1 locs1 ht hvm hw hB hz1 hk1 hS1 => ?_)
  obtain ⟨ha2, hP1, hD1⟩ := hB
  rw [ht] at hP1
  rw [ha2]
  exact kk u.1 u.2.1 u.2.2 H1 locs1 hw.1 hw.2.1 hw.2.2 hP1 (hD1.weaken (fun _ q _ h => hFc q.1 h)) hS1

theorem hdT_X6_signOf : yX6_signOf.cls = yX6_signOf.cls ∧ yX6_signOf.cls ≠ "java/lang/invoke/MethodHandle" ∧ yX6_signOf.cls ≠ "java/lang/invoke/VarHandle" ∧ (parseMethodDescriptor yX6_signOf.desc).map (fun d => d.parameters.length) = some 2 := by decide +kernel
theorem hdT_J4_toString_0e30d : yJ4_toString_0e30d.cls = yJ4_toString_0e30d.cls ∧ yJ4_toString_0e30d.cls ≠ "java/lang/invoke/MethodHandle" ∧ yJ4_toString_0e30d.cls ≠ "java/lang/invoke/VarHandle" ∧ (parseMethodDescriptor yJ4_toString_0e30d.desc).map (fun d => d.parameters.length) = some 0 := by decide +kernel
theorem hdT_J4_length_8abf5 : yJ4_length_8abf5.cls = yJ4_length_8abf5.cls ∧ yJ4_length_8abf5.cls ≠ "java/lang/invoke/MethodHandle" ∧ yJ4_length_8abf5.cls ≠ "java/lang/invoke/VarHandle" ∧ (parseMethodDescriptor yJ4_length_8abf5.desc).map (fun d => d.parameters.length) = some 0 := by decide +kernel

set_option maxHeartbeats 4000000 in
set_option maxRecDepth 100000 in
/-- a line of the picture -/
theorem dp_line {ad : Nat → Nat} {τ ρ π γ : Sg} {a1 : Int32} {wn K h0 : Nat} {mb x3 : Int32} (C : CallFix p m c cX6_drawnPicture 5 s args (wM yX6_drawnPicture cX6_drawnPicture 5 (some (.object "java/lang/String"))) RX6) (htA : ∀ w ∈ wA, w.before args s = true)
    (hKi : va_K D vwCl [(cA, .int)] s) (hKb : va_K D vwCl [(cB, .byte)] s) (hN : nW s) (hT : Ok τ) (hZ : zW (aN s.heap.size) s s.heap) (hP0 : va_P D vwCl (wS cA ad τ ρ π γ) s.heap) (hsig : ∀ j, ¬ 255 < f6_signOf τ π γ j a1)
    (hw : f5_wide τ = nI wn) (hwn : wn ≤ 64) (hK9 : K ≤ 90) (hR : 7 ≤ R.frames ∧ 230 ≤ R.locals) (hRc : 2 + K ≤ R.cells) (hRs : 20 + 400 * K ≤ R.slots) : ∀ (n col k b mm : Nat) (f : Nat → Int32) (H : Heap) (locs : List Loc) (ls : Array Slot), col + n = wn → k + n ≤ K → k ≤ mm → mm ≤ 2 * (k) + 16 → sb_Fit f → va_P D vwCl (tB cB h0 b mb (k) mm f) H → va_D (aN s.heap.size) (tB cB h0 b mb (k) mm f) → va_S (aN s.heap.size) s.heap H locs → lv_has ls 5 [(4, .int (nI col)), (3, .int x3), (2, .ref h0), (0, .ref (ad 4)), (1, .int a1)] →
    (∀ (b mm : Nat) (f : Nat → Int32) (H : Heap) (locs : List Loc) (ls : Array Slot), k + n ≤ mm → mm ≤ 2 * (k + n) + 16 → sb_Fit f → va_P D vwCl (tB cB h0 b mb (k + n) mm f) H → va_D (aN s.heap.size) (tB cB h0 b mb (k + n) mm f) → va_S (aN s.heap.size) s.heap H locs → lv_has ls 5 [(4, .int (nI wn)), (3, .int x3), (2, .ref h0), (0, .ref (ad 4)), (1, .int a1)] → W p l e R s m args below meth c H locs (2 + (k + n)) (20 + 400 * (k + n)) Q (F0 m 75 ls [])) →
    W p l e R s m args below meth c H locs (2 + k) (20 + 400 * k) Q (F0 m 35 ls []) := by
  obtain ⟨hx, hb, hml, hown, hts⟩ := id C
  intro n
  induction n with
  | zero =>
    intro col k b mm f H locs ls hc hk hkm hmm hf hP hD hS hl kk
    have hcw : col = wn := by omega
    subst hcw
    refine lv_iload hx hb dX6_drawnPicture_35 (lv_at hl 0 rfl) ?_
    refine lv_aload_n hx hb dX6_drawnPicture_37 rfl (lv_at hl 3 rfl) ?_
    refine gX6_0 hx hb htA hown hKi (sx_sys hP0 hS) dX6_drawnPicture_38 ?_
    refine sy_cv (rest := [.int (nI col)]) C hKi hN (sx_sys hP0 hS) (m5_wide l D cA ad τ ρ π γ) (1) 7 rfl rfl kw_428 kw_429 kw_430 kw_16 kw_431 hd_X5_wide ⟨Nat.le_trans (Nat.le_of_ble_eq_true rfl) hR.1, Nat.le_trans (Nat.le_of_ble_eq_true rfl) hR.2⟩ rfl rfl rfl hl.1 rfl (Nat.le_of_ble_eq_true rfl) dX6_drawnPicture_41 ⟨by omega, by omega⟩ ?_
    rw [hw]
    refine lv_icmp_ge (tgt := 75) hx hb dX6_drawnPicture_44 (by decide) (fun c_1 => ?_) (fun c_1 => absurd (Int32.le_iff_toInt_le.mpr (Int.le_refl _)) c_1)
    exact kk b mm f H locs ls hkm hmm hf hP hD hS hl
  | succ n ih =>
    intro col k b mm f H locs ls hc hk hkm hmm hf hP hD hS hl kk
    have e : k + (n + 1) = k + 1 + n := by omega
    rw [e] at kk
    refine lv_iload hx hb dX6_drawnPicture_35 (lv_at hl 0 rfl) ?_
    refine lv_aload_n hx hb dX6_drawnPicture_37 rfl (lv_at hl 3 rfl) ?_
    refine gX6_0 hx hb htA hown hKi (sx_sys hP0 hS) dX6_drawnPicture_38 ?_
    refine sy_cv (rest := [.int (nI col)]) C hKi hN (sx_sys hP0 hS) (m5_wide l D cA ad τ ρ π γ) (1) 7 rfl rfl kw_428 kw_429 kw_430 kw_16 kw_431 hd_X5_wide ⟨Nat.le_trans (Nat.le_of_ble_eq_true rfl) hR.1, Nat.le_trans (Nat.le_of_ble_eq_true rfl) hR.2⟩ rfl rfl rfl hl.1 rfl (Nat.le_of_ble_eq_true rfl) dX6_drawnPicture_41 ⟨by omega, by omega⟩ ?_
    rw [hw]
    refine lv_icmp_ge (tgt := 75) hx hb dX6_drawnPicture_44 (by decide) (fun c_1 => absurd c_1 (Int32.not_le.mpr (nI_lt (by omega) (by omega)))) (fun c_1 => ?_)
    refine lv_aload_n hx hb dX6_drawnPicture_47 rfl (lv_at hl 2 rfl) ?_
    refine lv_aload_n hx hb dX6_drawnPicture_48 rfl (lv_at hl 3 rfl) ?_
    refine lv_iload_n hx hb dX6_drawnPicture_49 rfl (lv_at hl 1 rfl) ?_
    refine lv_aload_n hx hb dX6_drawnPicture_50 rfl (lv_at hl 3 rfl) ?_
    refine gX6_0 hx hb htA hown hKi (sx_sys hP0 hS) dX6_drawnPicture_51 ?_
    refine sy_cv (rest := [.int x3, .ref (ad 4), .ref h0]) C hKi hN (sx_sys hP0 hS) (m5_wide l D cA ad τ ρ π γ) (1) 7 rfl rfl kw_428 kw_429 kw_430 kw_16 kw_431 hd_X5_wide ⟨Nat.le_trans (Nat.le_of_ble_eq_true rfl) hR.1, Nat.le_trans (Nat.le_of_ble_eq_true rfl) hR.2⟩ rfl rfl rfl hl.1 rfl (Nat.le_of_ble_eq_true rfl) dX6_drawnPicture_54 ⟨by omega, by omega⟩ ?_
    rw [hw]
    refine lv_imul hx hb dX6_drawnPicture_57 ?_
    refine lv_iload hx hb dX6_drawnPicture_58 (lv_at hl 0 rfl) ?_
    refine lv_iadd hx hb dX6_drawnPicture_60 ?_
    refine lv_iload_n hx hb dX6_drawnPicture_61 rfl (lv_at hl 4 rfl) ?_
    refine sy_cv (As := [.int (x3 * nI wn + nI col), .int a1]) (rest := [.ref h0]) C hKi hN (sx_sys hP0 hS) (m6_signOf l D cA ad τ ρ π γ hT (x3 * nI wn + nI col) a1) (4) 8 rfl rfl kw_729 kw_730 kw_731 kw_29 kw_732 hdT_X6_signOf ⟨Nat.le_trans (Nat.le_of_ble_eq_true rfl) hR.1, Nat.le_trans (Nat.le_of_ble_eq_true rfl) hR.2⟩ rfl rfl rfl hl.1 rfl (Nat.le_of_ble_eq_true rfl) dX6_drawnPicture_62 ⟨by omega, by omega⟩ ?_
    refine sx_append (rest := []) C hKb hZ hP hD hS (fun _ h => aN_ge h) hkm (by omega) hf (hsig _) kw_635 hl.1 rfl (Nat.le_of_ble_eq_true rfl) dX6_drawnPicture_65 ⟨Nat.le_trans (Nat.le_of_ble_eq_true rfl) hR.1, Nat.le_trans (Nat.le_of_ble_eq_true rfl) hR.2⟩ (by omega) (by omega) (fun b1 m1 f1 H locs hq1 hq2 hf1 hP hD hS => ?_)
    refine W.widen (k := 2 + (k + 1)) (n := 20 + 400 * (k + 1)) (by omega) (by omega) ?_
    refine lv_pop hx hb dX6_drawnPicture_68 rfl ?_
    refine lv_iinc (v := nI (col + 1)) (lv' := [(4, .int (nI (col + 1))), (3, .int x3), (2, .ref h0), (0, .ref (ad 4)), (1, .int a1)]) hx hb dX6_drawnPicture_69 hl (k := 0) rfl (by rw [nI_succ]; rfl) (by decide) rfl (fun ls hl => ?_)
    refine lv_goto (tgt := 35) hx hb dX6_drawnPicture_72 (by decide) ?_
    exact ih (col + 1) (k + 1) b1 m1 f1 H locs ls (by omega) (by omega) hq1 (by omega) hf1 hP hD hS hl kk

/-- how many letters stand when n lines more are drawn from line r on -/
def dpEnd (wn : Nat) : Nat → Nat → Nat → Nat
  | 0, _, k => k
  | n + 1, r, k => dpEnd wn n (r + 1) (k + (if r = 0 then 0 else 1) + wn)
theorem dpEnd_le (wn : Nat) : ∀ n r k, k ≤ dpEnd wn n r k
  | 0, _, _ => Nat.le_refl _
  | n + 1, r, k => Nat.le_trans (by omega) (dpEnd_le wn n (r + 1) (k + (if r = 0 then 0 else 1) + wn))
set_option maxHeartbeats 4000000 in
set_option maxRecDepth 100000 in
/-- the lines of the picture -/
theorem dp_lines {ad : Nat → Nat} {τ ρ π γ : Sg} {a1 : Int32} {wn hn K h0 : Nat} {mb : Int32} (hh : f5_high τ = nI hn) (hhn : hn ≤ 64) (C : CallFix p m c cX6_drawnPicture 5 s args (wM yX6_drawnPicture cX6_drawnPicture 5 (some (.object "java/lang/String"))) RX6) (htA : ∀ w ∈ wA, w.before args s = true)
    (hKi : va_K D vwCl [(cA, .int)] s) (hKb : va_K D vwCl [(cB, .byte)] s) (hN : nW s) (hT : Ok τ) (hZ : zW (aN s.heap.size) s s.heap) (hP0 : va_P D vwCl (wS cA ad τ ρ π γ) s.heap) (hsig : ∀ j, ¬ 255 < f6_signOf τ π γ j a1)
    (hw : f5_wide τ = nI wn) (hwn : wn ≤ 64) (hK9 : K ≤ 90) (hR : 7 ≤ R.frames ∧ 230 ≤ R.locals) (hRc : 2 + K ≤ R.cells) (hRs : 20 + 400 * K ≤ R.slots) : ∀ (n row k b mm : Nat) (f : Nat → Int32) (H : Heap) (locs : List Loc) (ls : Array Slot), row + n = hn → dpEnd wn n row k ≤ K → k ≤ mm → mm ≤ 2 * (k) + 16 → sb_Fit f → va_P D vwCl (tB cB h0 b mb (k) mm f) H → va_D (aN s.heap.size) (tB cB h0 b mb (k) mm f) → va_S (aN s.heap.size) s.heap H locs → lv_has ls 5 [(3, .int (nI row)), (2, .ref h0), (0, .ref (ad 4)), (1, .int a1)] →
    (∀ (b mm : Nat) (f : Nat → Int32) (H : Heap) (locs : List Loc) (ls : Array Slot), dpEnd wn n row k ≤ mm → mm ≤ 2 * (dpEnd wn n row k) + 16 → sb_Fit f → va_P D vwCl (tB cB h0 b mb (dpEnd wn n row k) mm f) H → va_D (aN s.heap.size) (tB cB h0 b mb (dpEnd wn n row k) mm f) → va_S (aN s.heap.size) s.heap H locs → lv_has ls 5 [(3, .int (nI hn)), (2, .ref h0), (0, .ref (ad 4)), (1, .int a1)] → W p l e R s m args below meth c H locs (2 + dpEnd wn n row k) (20 + 400 * dpEnd wn n row k) Q (F0 m 81 ls [])) →
    W p l e R s m args below meth c H locs (2 + k) (20 + 400 * k) Q (F0 m 10 ls []) := by
  obtain ⟨hx, hb, hml, hown, hts⟩ := id C
  intro n
  induction n with
  | zero =>
    intro row k b mm f H locs ls hc hk hkm hmm hf hP hD hS hl kk
    have hcw : row = hn := by omega
    subst hcw
    have hk : k ≤ K := hk
    refine lv_iload_n hx hb dX6_drawnPicture_10 rfl (lv_at hl 0 rfl) ?_
    refine lv_aload_n hx hb dX6_drawnPicture_11 rfl (lv_at hl 2 rfl) ?_
    refine gX6_0 hx hb htA hown hKi (sx_sys hP0 hS) dX6_drawnPicture_12 ?_
    refine sy_cv (rest := [.int (nI row)]) C hKi hN (sx_sys hP0 hS) (m5_high l D cA ad τ ρ π γ) (1) 7 rfl rfl kw_424 kw_425 kw_426 kw_16 kw_427 hd_X5_high ⟨Nat.le_trans (Nat.le_of_ble_eq_true rfl) hR.1, Nat.le_trans (Nat.le_of_ble_eq_true rfl) hR.2⟩ rfl rfl rfl hl.1 rfl (Nat.le_of_ble_eq_true rfl) dX6_drawnPicture_15 ⟨by omega, by omega⟩ ?_
    rw [hh]
    refine lv_icmp_ge (tgt := 81) hx hb dX6_drawnPicture_18 (by decide) (fun c_1 => ?_) (fun c_1 => absurd (Int32.le_iff_toInt_le.mpr (Int.le_refl _)) c_1)
    exact kk b mm f H locs ls hkm hmm hf hP hD hS hl
  | succ n ih =>
    intro row k b mm f H locs ls hc hk hkm hmm hf hP hD hS hl kk
    have hk2 : dpEnd wn n (row + 1) (k + (if row = 0 then 0 else 1) + wn) ≤ K := hk
    have hk3 := dpEnd_le wn n (row + 1) (k + (if row = 0 then 0 else 1) + wn)
    have go : ∀ (k1 b mm : Nat) (f : Nat → Int32) (H : Heap) (locs : List Loc) (ls : Array Slot), dpEnd wn n (row + 1) (k1 + wn) ≤ K → k1 ≤ mm → mm ≤ 2 * (k1) + 16 → sb_Fit f → va_P D vwCl (tB cB h0 b mb (k1) mm f) H → va_D (aN s.heap.size) (tB cB h0 b mb (k1) mm f) → va_S (aN s.heap.size) s.heap H locs → lv_has ls 5 [(3, .int (nI row)), (2, .ref h0), (0, .ref (ad 4)), (1, .int a1)] → (∀ (b mm : Nat) (f : Nat → Int32) (H : Heap) (locs : List Loc) (ls : Array Slot), dpEnd wn n (row + 1) (k1 + wn) ≤ mm → mm ≤ 2 * (dpEnd wn n (row + 1) (k1 + wn)) + 16 → sb_Fit f → va_P D vwCl (tB cB h0 b mb (dpEnd wn n (row + 1) (k1 + wn)) mm f) H → va_D (aN s.heap.size) (tB cB h0 b mb (dpEnd wn n (row + 1) (k1 + wn)) mm f) → va_S (aN s.heap.size) s.heap H locs → lv_has ls 5 [(3, .int (nI hn)), (2, .ref h0), (0, .ref (ad 4)), (1, .int a1)] → W p l e R s m args below meth c H locs (2 + (dpEnd wn n (row + 1) (k1 + wn))) (20 + 400 * (dpEnd wn n (row + 1) (k1 + wn))) Q (F0 m 81 ls [])) → W p l e R s m args below meth c H locs (2 + k1) (20 + 400 * k1) Q (F0 m 32 ls []) := by
      intro k1 b mm f H locs ls hq hkm hmm hf hP hD hS hl kk
      have hq3 := dpEnd_le wn n (row + 1) (k1 + wn)
      refine lv_iconst (v := 0) hx hb dX6_drawnPicture_32 (by decide) ?_
      refine lv_istore (lv' := [(4, .int 0), (3, .int (nI row)), (2, .ref h0), (0, .ref (ad 4)), (1, .int a1)]) hx hb dX6_drawnPicture_33 hl (by decide) rfl (fun ls hl => ?_)
      refine dp_line C htA hKi hKb hN hT hZ hP0 hsig hw hwn hK9 hR hRc hRs wn 0 k1 b mm f H locs ls (by omega) (by omega) hkm hmm hf hP hD hS hl (fun b mm f H locs ls hkm hmm hf hP hD hS hl => ?_)
      refine lv_iinc (v := nI (row + 1)) (lv' := [(3, .int (nI (row + 1))), (4, .int (nI wn)), (2, .ref h0), (0, .ref (ad 4)), (1, .int a1)]) hx hb dX6_drawnPicture_75 hl (k := 1) rfl (by rw [nI_succ]; rfl) (by decide) rfl (fun ls hl => ?_)
      refine lv_goto (tgt := 10) hx hb dX6_drawnPicture_78 (by decide) ?_
      exact ih (row + 1) (k1 + wn) b mm f H locs ls (by omega) hq hkm hmm hf hP hD hS (lv_sub hl [0, 2, 3, 4] rfl) kk
    refine lv_iload_n hx hb dX6_drawnPicture_10 rfl (lv_at hl 0 rfl) ?_
    refine lv_aload_n hx hb dX6_drawnPicture_11 rfl (lv_at hl 2 rfl) ?_
    refine gX6_0 hx hb htA hown hKi (sx_sys hP0 hS) dX6_drawnPicture_12 ?_
    refine sy_cv (rest := [.int (nI row)]) C hKi hN (sx_sys hP0 hS) (m5_high l D cA ad τ ρ π γ) (1) 7 rfl rfl kw_424 kw_425 kw_426 kw_16 kw_427 hd_X5_high ⟨Nat.le_trans (Nat.le_of_ble_eq_true rfl) hR.1, Nat.le_trans (Nat.le_of_ble_eq_true rfl) hR.2⟩ rfl rfl rfl hl.1 rfl (Nat.le_of_ble_eq_true rfl) dX6_drawnPicture_15 ⟨by omega, by omega⟩ ?_
    rw [hh]
    refine lv_icmp_ge (tgt := 81) hx hb dX6_drawnPicture_18 (by decide) (fun c_1 => absurd c_1 (Int32.not_le.mpr (nI_lt (by omega) (by omega)))) (fun c_1 => ?_)
    refine lv_iload_n hx hb dX6_drawnPicture_21 rfl (lv_at hl 0 rfl) ?_
    by_cases hr0 : row = 0
    · subst hr0
      refine lv_if_le (tgt := 32) hx hb dX6_drawnPicture_22 (by decide) (fun c_2 => ?_) (fun c_2 => absurd (show nI 0 ≤ 0 by decide) c_2)
      exact go k b mm f H locs ls hk2 hkm hmm hf hP hD hS hl kk
    · rw [if_neg hr0] at hk2 hk3
      refine lv_if_le (tgt := 32) hx hb dX6_drawnPicture_22 (by decide) (fun c_2 => absurd c_2 (Int32.not_le.mpr (nI_lt (a := 0) (by omega) (by omega)))) (fun c_2 => ?_)
      refine lv_aload_n hx hb dX6_drawnPicture_25 rfl (lv_at hl 1 rfl) ?_
      refine lv_bipush (v := 47) hx hb dX6_drawnPicture_26 (by decide) ?_
      refine sx_append (rest := []) C hKb hZ hP hD hS (fun _ h => aN_ge h) hkm (by omega) hf (by decide) kw_635 hl.1 rfl (Nat.le_of_ble_eq_true rfl) dX6_drawnPicture_28 ⟨Nat.le_trans (Nat.le_of_ble_eq_true rfl) hR.1, Nat.le_trans (Nat.le_of_ble_eq_true rfl) hR.2⟩ (by omega) (by omega) (fun b1 m1 f1 H locs hq1 hq2 hf1 hP hD hS => ?_)
      refine W.widen (k := 2 + (k + 1)) (n := 20 + 400 * (k + 1)) (by omega) (by omega) ?_
      refine lv_pop hx hb dX6_drawnPicture_31 rfl ?_
      have kk2 := kk
      simp only [dpEnd, if_neg hr0] at kk2
      exact go (k + 1) b1 m1 f1 H locs ls hk2 hq1 (by omega) hf1 hP hD hS hl kk2

set_option maxHeartbeats 4000000 in
set_option maxRecDepth 100000 in
theorem dp_txt {ad : Nat → Nat} {a1 x3 : Int32} {h0 k b mm : Nat} {f : Nat → Int32} (C : CallFix p m c cX6_drawnPicture 5 s args (wM yX6_drawnPicture cX6_drawnPicture 5 (some (.object "java/lang/String"))) RX6) (hKb : va_K D vwCl [(cB, .byte)] s) (hcl : zC s) (hZ : zW (aN s.heap.size) s s.heap) (hR : 7 ≤ R.frames ∧ 230 ≤ R.locals) (hRc : 90 ≤ R.cells) (hRs : 40000 ≤ R.slots) (hk : k ≤ 81) (hc : cells + 2 ≤ 90) (hs : slots + 100 ≤ 40000) (hkm : k ≤ mm) (hmm : mm ≤ 2 * k + 16) (hf : sb_Fit f) (hP : va_P D vwCl (tB cB h0 b 0 k mm f) H) (hD : va_D (aN s.heap.size) (tB cB h0 b 0 k mm f)) (hS : va_S (aN s.heap.size) s.heap H locs) (hl : lv_has ls 5 [(3, .int x3), (2, .ref h0), (0, .ref (ad 4)), (1, .int a1)]) (kk : ∀ (u : Nat × (Nat → Int32)) (a2 : Nat) (H : Heap) (locs : List Loc), sb_Fit u.2 → va_P D vwCl [(a2, .inr (0, [.ref u.1, .int 0, .int 0, .int 0])), (u.1, .inl (cB, k, .inl u.2))] H → va_D (aN s.heap.size) [(a2, .inr (0, [.ref u.1, .int 0, .int 0, .int 0])), (u.1, .inl (cB, k, .inl u.2))] → va_S (aN s.heap.size) s.heap H locs → W p l e R s m args below meth c H locs 90 40000 Q (F0 m 99 ls [.ref a2])) : W p l e R s m args below meth c H locs cells slots Q (F0 m 95 ls []) := by
  obtain ⟨hx, hb, hml, hown, hts⟩ := id C
  refine lv_aload_n hx hb dX6_drawnPicture_95 rfl (lv_at hl 1 rfl) ?_
  have hFc := va_free (wc := tB cB h0 b 0 k mm f) hD hS (fun _ h => aN_ge h) [0, 1] rfl
  refine va_callr (va_runV (As := []) (rest := []) C (t_toString l D cB h0 b mm k 0 f H.size hkm (by omega) hf) (cwV 0 hts (sy_goodV kw_745 kw_746 kw_747 kw_614 kw_748) rfl rfl rfl hdT_J4_toString_0e30d ⟨Nat.le_trans (Nat.le_of_ble_eq_true rfl) hR.1, Nat.le_trans (Nat.le_of_ble_eq_true rfl) hR.2⟩) ⟨pK_blind, va_recv hKb hP (ci := 1) (q0 := 0) rfl rfl, fun U hU hW => ⟨rfl, va_Nw.warmC hW hcl, by rw [hU], by rw [hU]; exact hP, va_K.moved hW.alike hKb, hD.weaken (fun _ _ _ _ => trivial), by rw [hU]; exact va_Z.moved hW.alike (va_Z.narrow (va_Z.kept hZ (fun a ha hn => hS.2.1 a ha hn)) (fun q h => hFc q h))⟩⟩ rfl rfl hl.1 rfl (lv_room (Nat.le_of_ble_eq_true rfl)) dX6_drawnPicture_96 ⟨by omega, by omega⟩) hS (fun q _ h => hFc q h) hFc (fun u a2 t H1 locs1 ht hvm hw9 hB hz1 hk1 hS1 => ?_)
  obtain ⟨hP1, hD1⟩ := hB
  rw [ht] at hP1
  have hD2 := hD1.weaken (B := aN s.heap.size) (fun _ q _ h => hFc q.1 h)
  have hP3 := hP1.sub (ws' := [(a2, .inr (0, [.ref u.1, .int 0, .int 0, .int 0])), (u.1, .inl (cB, k, .inl u.2))]) [0, 3] rfl
  have hD3 := hD2.sub (ws' := [(a2, .inr (0, [.ref u.1, .int 0, .int 0, .int 0])), (u.1, .inl (cB, k, .inl u.2))]) [0, 3] (by decide) rfl
  refine W.widen (k := 90) (n := 40000) (by omega) (by omega) ?_
  exact kk u a2 H1 locs1 hw9 hP3 hD3 hS1
set_option maxHeartbeats 4000000 in
set_option maxRecDepth 100000 in
theorem dp_tail {ad : Nat → Nat} {a1 x3 : Int32} {h0 k b mm : Nat} {f : Nat → Int32} (C : CallFix p m c cX6_drawnPicture 5 s args (wM yX6_drawnPicture cX6_drawnPicture 5 (some (.object "java/lang/String"))) RX6) (hKb : va_K D vwCl [(cB, .byte)] s) (hcl : zC s) (hZ : zW (aN s.heap.size) s s.heap) (hR : 7 ≤ R.frames ∧ 230 ≤ R.locals) (hRc : 90 ≤ R.cells) (hRs : 40000 ≤ R.slots) (hk : k ≤ 80) (hkm : k ≤ mm) (hmm : mm ≤ 2 * k + 16) (hf : sb_Fit f) (hP : va_P D vwCl (tB cB h0 b 0 k mm f) H) (hD : va_D (aN s.heap.size) (tB cB h0 b 0 k mm f)) (hS : va_S (aN s.heap.size) s.heap H locs) (hl : lv_has ls 5 [(3, .int x3), (2, .ref h0), (0, .ref (ad 4)), (1, .int a1)]) (kk : ∀ (u : Nat × (Nat → Int32)) (a2 : Nat) (H : Heap) (locs : List Loc), sb_Fit u.2 → va_P D vwCl [(a2, .inr (0, [.ref u.1, .int 0, .int 0, .int 0])), (u.1, .inl (cB, (if k = 0 then 1 else k), .inl u.2))] H → va_D (aN s.heap.size) [(a2, .inr (0, [.ref u.1, .int 0, .int 0, .int 0])), (u.1, .inl (cB, (if k = 0 then 1 else k), .inl u.2))] → va_S (aN s.heap.size) s.heap H locs → W p l e R s m args below meth c H locs 90 40000 Q (F0 m 99 ls [.ref a2])) : W p l e R s m args below meth c H locs (2 + k) (20 + 400 * k) Q (F0 m 81 ls []) := by
  obtain ⟨hx, hb, hml, hown, hts⟩ := id C
  refine lv_aload_n hx hb dX6_drawnPicture_81 rfl (lv_at hl 1 rfl) ?_
  have hPc := hP.sub (ws' := [(h0, .inr (1, [.ref b, .int 0, .int 0, .int (nI k)]))]) [0] rfl
  refine W.callR (va_Run.run (va_runV (As := []) (rest := []) C (t_length l D cB h0 b 0 (nI k)) (cwV 0 hts (sy_goodV kw_737 kw_738 kw_739 kw_614 kw_740) rfl rfl rfl hdT_J4_length_8abf5 ⟨Nat.le_trans (Nat.le_of_ble_eq_true rfl) hR.1, Nat.le_trans (Nat.le_of_ble_eq_true rfl) hR.2⟩) ⟨pR_blind, va_recv hKb hP (ci := 1) (q0 := 0) rfl rfl, fun U hU hW => ⟨rfl, by rw [hU]; exact hPc, va_K.moved hW.alike hKb, by rw [hU]; exact va_Z.moved hW.alike (va_Z.narrow (va_Z.kept hZ (fun a ha hn => hS.2.1 a ha hn)) (fun _ h => h.elim))⟩⟩ rfl rfl hl.1 rfl (lv_room (Nat.le_of_ble_eq_true rfl)) dX6_drawnPicture_82 ⟨by omega, by omega⟩)) ?_
  refine W.eq (g2 := F0 m 85 ls [.int (nI k)]) rfl ?_
  by_cases hk0 : k = 0
  · subst hk0
    refine lv_if_ne (tgt := 95) hx hb dX6_drawnPicture_85 (by decide) (fun c_2 => absurd (show nI 0 = 0 by decide) c_2) (fun c_2 => ?_)
    refine lv_aload_n hx hb dX6_drawnPicture_88 rfl (lv_at hl 1 rfl) ?_
    refine lv_bipush (v := 45) hx hb dX6_drawnPicture_89 (by decide) ?_
    refine sx_append (rest := []) C hKb hZ hP hD hS (fun _ h => aN_ge h) hkm (by omega) hf (by decide) kw_635 hl.1 rfl (Nat.le_of_ble_eq_true rfl) dX6_drawnPicture_91 ⟨Nat.le_trans (Nat.le_of_ble_eq_true rfl) hR.1, Nat.le_trans (Nat.le_of_ble_eq_true rfl) hR.2⟩ (by omega) (by omega) (fun b m1 f H locs hkm hq2 hf hP hD hS => ?_)
    refine lv_pop hx hb dX6_drawnPicture_94 rfl ?_
    exact dp_txt (k := 1) C hKb hcl hZ hR hRc hRs (by decide) (by omega) (by omega) hkm (by omega) hf hP hD hS hl kk
  · refine lv_if_ne (tgt := 95) hx hb dX6_drawnPicture_85 (by decide) (fun c_2 => ?_) (fun c_2 => absurd ((nI_eq (a := k) (b := 0) (by omega) (by decide)).mp c_2) hk0)
    rw [if_neg hk0] at kk
    exact dp_txt (k := k) C hKb hcl hZ hR hRc hRs (by omega) (by omega) (by omega) hkm hmm hf hP hD hS hl kk

end PIC
/-- what a method finds that makes a text: the system, and the two facts that ride along -/
def pX (D : va_G) (cA cB : ClassId) (sz : Nat) (ws : va_W) (U : State) : Prop := U.heap.size = sz ∧ va_P D vwCl ws U.heap ∧ va_K D vwCl [(cA, .int), (cB, .byte)] U ∧ nW U ∧ zC U ∧ zW (aN sz) U U.heap
theorem pX_blind {D : va_G} {cA cB : ClassId} {sz : Nat} {ws : va_W} {As : List Value} : FrameBlind (va_Pc As (pX D cA cB sz ws)) := fun a U g mk q => by
  obtain ⟨q0, q1, qP, qK, qN, qC, qZ⟩ := q
  exact ⟨q0, q1, qP, va_K.moved (u := U) (U := U.calling g mk a) (Vm.Alike.refl U.vm) qK, va_Nw.same (u := U) (U := U.calling g mk a) rfl rfl qN, va_Nw.same (u := U) (U := U.calling g mk a) rfl rfl qC, va_Z.moved (u := U) (U := U.calling g mk a) (Vm.Alike.refl U.vm) qZ⟩
/-- a text of n letters, new -/
abbrev tX (cB : ClassId) (n : Nat) (a : Nat) (u : Nat × (Nat → Int32)) : va_W := [(a, .inr (0, [.ref u.1, .int 0, .int 0, .int 0])), (u.1, .inl (cB, n, .inl u.2))]
/-- how many letters a picture has -/
def picLen (wn hn : Nat) : Nat := if dpEnd wn hn 0 0 = 0 then 1 else dpEnd wn hn 0 0

set_option maxHeartbeats 4000000 in
set_option maxRecDepth 100000 in
theorem m6_drawnPicture (l : Launch) (D : va_G) (cA cB : ClassId) (ad : Nat → Nat) (τ ρ π γ : Sg) (sz : Nat) (a1 : Int32) (wn hn : Nat) (hT : Ok τ) (hsig : ∀ j, ¬ 255 < f6_signOf τ π γ j a1) (hw : f5_wide τ = nI wn) (hwn : wn ≤ 64) (hh : f5_high τ = nI hn) (hhn : hn ≤ 64) (hL : dpEnd wn hn 0 0 ≤ 80) : Met l yX6_drawnPicture (wM yX6_drawnPicture cX6_drawnPicture 5 (some (.object "java/lang/String"))) ({ frames := 7, cells := 90, slots := 40000, locals := 230 }) (va_Pc [.ref (ad 4), .int a1] (pX D cA cB sz (wS cA ad τ ρ π γ))) (va_Qr (fun u : Nat × (Nat → Int32) => sb_Fit u.2) (fun u a t => va_P D vwCl (tX cB (picLen wn hn) a u) t.heap ∧ va_D (aN sz) (tX cB (picLen wn hn) a u)) (aN sz)) 90 40000 (aN sz) := by
  refine Met.ofW (cc := cX6_drawnPicture) (maxL := 5) (ret := (some (.object "java/lang/String"))) (by decide) rfl ?_
  intro p e s mth args below meth c s₁ B hml hv
  obtain ⟨rfl, hsz, hP0, hK, hN, hcl, hZ⟩ := hv
  have hx := B.exec
  have hb := B.bytes
  have hr := B.returns
  have hts := atoms_spec (ws := wM yX6_drawnPicture cX6_drawnPicture 5 (some (.object "java/lang/String"))) B.pre
  have hown : s.vm.findClass RX6 = some mth.cls := findClass_of_methodNamed B.named
  have hlk := B.notSynchronized
  have htA : ∀ w ∈ wA, w.before _ s = true := fun w h => hts w (List.mem_cons_of_mem _ h)
  have hl := lv_entry ([.ref (ad 4), .int a1]) (n := 5) (Nat.le_of_ble_eq_true rfl)
  rw [lg_entry_eq]
  generalize (lg_sl ([.ref (ad 4), .int a1]) ++ List.replicate (5 - (lg_sl ([.ref (ad 4), .int a1])).length) Slot.unset).toArray = ls at hl ⊢
  have hl : lv_has ls 5 [(0, .ref (ad 4)), (1, .int a1)] := hl
  have C : CallFix p mth c cX6_drawnPicture 5 s ([.ref (ad 4), .int a1] : List Value).toArray (wM yX6_drawnPicture cX6_drawnPicture 5 (some (.object "java/lang/String"))) RX6 := ⟨hx, hb, hml, hown, hts⟩
  subst hsz
  have hKi : va_K D vwCl [(cA, .int)] s := hK.sub [0] rfl
  have hKb : va_K D vwCl [(cB, .byte)] s := hK.sub [1] rfl
  have hS : va_S (aN s.heap.size) s.heap s.heap [] := va_S.rf
  have hPe : va_P D vwCl ([] : va_W) s.heap := fun k q h => by simp at h
  have hDe : va_D (aN s.heap.size) ([] : va_W) := ⟨fun i j x y h => by simp at h, fun i x h => by simp at h⟩
  refine va_new (D := D) (ci := 1) (fs := [.null, .int 0, .int 0, .int 0]) (C := RJ4) (T := TJ4) (N := 4) hx hb htA iA_J4 tyJ4 tyJ4_ok hown (htA _ kw_612) (htA _ kw_613) (htA _ kw_614) hKb hPe hDe hS (fun _ h => aN_ge h) rfl (fun j hj => by rcases (show j = 0 ∨ j = 1 ∨ j = 2 ∨ j = 3 by omega) with rfl | rfl | rfl | rfl <;> rfl) (Nat.le_of_ble_eq_true rfl) (Nat.le_of_ble_eq_true rfl) dX6_drawnPicture_0 (fun h0 H hP hD hS => ?_)
  have hP : va_P D vwCl [(h0, .inr (1, [.null, .int 0, .int 0, .int 0]))] H := hP
  have hD : va_D (aN s.heap.size) [(h0, .inr (1, [.null, .int 0, .int 0, .int 0]))] := hD
  refine lv_dup hx hb dX6_drawnPicture_3 rfl ?_
  have hFc := va_free (wc := [(h0, .inr (1, [.null, .int 0, .int 0, .int 0]))]) hD hS (fun _ h => aN_ge h) [0] rfl
  refine va_callv (va_runI (As := []) (rest := [.ref h0]) C (t_init4 l D cB h0 H.size) (cwI 0 hts (sy_goodI kw_617) rfl rfl rfl (htA _ kw_614) (htA _ kw_615) (htA _ kw_616) rfl (by decide +kernel) ⟨Nat.le_of_ble_eq_true rfl, Nat.le_of_ble_eq_true rfl⟩) ⟨pT_blind, fun U hU hW => ⟨rfl, by rw [hU], by rw [hU]; exact hP, va_K.moved hW.alike hKb, hD.weaken (fun _ _ _ _ => trivial), by rw [hU]; exact va_Z.moved hW.alike (va_Z.narrow (va_Z.kept hZ (fun a ha hn => hS.2.1 a ha hn)) (fun q h => hFc q h))⟩⟩ rfl rfl hl.1 rfl (lv_room (Nat.le_of_ble_eq_true rfl)) dX6_drawnPicture_4 ⟨Nat.le_of_ble_eq_true rfl, Nat.le_of_ble_eq_true rfl⟩) hS (fun q _ h => hFc q h) hFc (fun b t H1 locs1 ht hvm hw9 hB hz1 hk1 hS => ?_)
  obtain ⟨hP1, hD1⟩ := hB
  rw [ht] at hP1
  have hP : va_P D vwCl (tB cB h0 b 0 0 16 (fun _ => 0)) H1 := hP1
  have hD : va_D (aN s.heap.size) (tB cB h0 b 0 0 16 (fun _ => 0)) := hD1.weaken (fun _ q _ h => hFc q.1 h)
  refine lv_astore_n (lv' := [(2, .ref h0), (0, .ref (ad 4)), (1, .int a1)]) hx hb dX6_drawnPicture_7 rfl hl (by decide) rfl (fun ls hl => ?_)
  refine lv_iconst (v := 0) hx hb dX6_drawnPicture_8 (by decide) ?_
  refine lv_istore_n (lv' := [(3, .int 0), (2, .ref h0), (0, .ref (ad 4)), (1, .int a1)]) hx hb dX6_drawnPicture_9 rfl hl (by decide) rfl (fun ls hl => ?_)
  refine dp_lines (K := 80) hh hhn C htA hKi hKb hN hT hZ hP0 hsig hw hwn (by decide) ⟨Nat.le_of_ble_eq_true rfl, Nat.le_of_ble_eq_true rfl⟩ (Nat.le_of_ble_eq_true rfl) (Nat.le_of_ble_eq_true rfl) hn 0 0 b 16 (fun _ => 0) H1 _ ls (by omega) hL (by decide) (by decide) sb_fit0 hP hD hS hl (fun b mm f H locs ls hkm hmm hf hP hD hS hl => ?_)
  refine dp_tail C hKb hcl hZ ⟨Nat.le_of_ble_eq_true rfl, Nat.le_of_ble_eq_true rfl⟩ (Nat.le_refl _) (Nat.le_refl _) hL hkm hmm hf hP hD hS hl (fun u a2 H locs hf hP hD hS => ?_)
  exact W.aret hx hb hr (Or.inl ⟨_, rfl⟩) (Or.inr ⟨_, rfl⟩) (fun t ht hW => ⟨⟨u, a2, rfl, hf, by rw [ht]; exact hP, hD⟩, hS.F ht⟩) hS.2.2 dX6_drawnPicture_99 hlk

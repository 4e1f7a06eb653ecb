/-! THE LAW: its own body -/
def hzb (π : Sg) (j : Nat) : Int32 := if π.2 2 j = 1 then 1 else 0
theorem hzb_1 {π : Sg} {k : Nat} (q : ¬ hzb π k = 0) : hk π k = 1 := by
  by_cases h : π.2 2 k = 1
  · exact (congrArg Int32.toInt h).trans (by decide)
  · exact absurd (by unfold hzb; rw [if_neg h]) q
theorem hzb_nar (π : Sg) (k : Nat) : vp_nar .boolean (hzb π k) = hzb π k := by
  unfold hzb
  by_cases h : π.2 2 k = 1
  · rw [if_pos h]; rfl
  · rw [if_neg h]; rfl
theorem nI_is {a b : Nat} (ha : a < 8) (hb : b < 8) (h : nI a = nI b) : a = b := nI_inj (by omega) (by omega) h
theorem LW.drop {D : va_G} {cA : ClassId} {ad : Nat → Nat} {A : Nat → Prop} {ext : va_W} {s : State} {τ ρ π : Sg} {H : Heap} {locs : List Loc} (hL : LW D cA ad A ext s τ ρ π H locs) : LW D cA ad A [] s τ ρ π H locs := ⟨hL.1, fun k q h => by simp at h, ⟨fun i j x y h => by simp at h, fun k q h => by simp at h⟩, fun k q h => by simp at h, hL.2.2.2.2⟩
section LAWB
variable {p : Program} {l : Launch} {e : Env} {R : Room} {s : State} {m : MethodId} {args : Array Value} {below : List Frame} {meth : Method} {c : Code} {H : Heap} {locs : List Loc} {cells slots : Nat} {Q : State → Prop}
variable {cc : ByteArray} {pc n0 : Nat} {ls : Array Slot} {rest : List Value} {Ts : List Cond}
variable {D : va_G} {cA cB : ClassId}
theorem lv_lcmp0 (hexec : p.tables.exec = Jvm.exec) (hb : c.code = cc) {x : Int64} (hdg : decode cc pc = .ok (.lcmp, 1)) (k : W p l e R s m args below meth c H locs cells slots Q (F0 m (pc + 1) ls (.int 0 :: rest))) : W p l e R s m args below meth c H locs cells slots Q (F0 m pc ls (.long x :: .long x :: rest)) := by
  intro T hT X
  obtain ⟨t, a, b⟩ := k T hT X
  refine ⟨t, ?_, b⟩
  jvm_step X.here [X.here.top, hexec, hb, hdg]
  exact a
theorem lr_slab {b L : Nat} {xs : Nat → Int32} (S : CallFix p m c cc n0 s args Ts RL) (hTs : ∀ w ∈ wA, w ∈ Ts) (hL260 : L ≤ 260) (hK : va_K D vwCl [(cA, .int), (cB, .byte)] s) (hN : nW s) (hNM : va_Nw (Cond.methodLinkNest RX7 11 yX5_init RX7) s) (hcl : zC s) (hZ : zW (fun q => s.heap.size ≤ q) s s.heap) (hX : va_X b L xs s s.heap) (hbl : b < s.heap.size) (hR : 9 ≤ R.frames ∧ 198 ≤ R.locals) (hf : 47 ≤ R.cells ∧ 2325 ≤ R.slots) (hsz : ls.size = n0) (hdg : decode cc pc = .ok (.invokestatic 58, 3))
    (kk : ∀ (ad : Nat → Nat) (w h : Nat) (τ ρ π : Sg) (H : Heap) (locs : List Loc), Apart ad → (∀ q, aS ad q → s.heap.size ≤ q) → Gd w h 36 τ ρ π → LW D cA ad (fun q => s.heap.size ≤ q) [] s τ ρ π H locs → W p l e R s m args below meth c H locs 47 2325 Q (F0 m (pc + 3) ls [.ref (ad 0)])) : W p l e R s m args below meth c s.heap [] 0 0 Q (F0 m pc ls [.int 6, .ref b]) := by
  intro T hT X
  obtain ⟨v, st₀, t, T', L1, h0, X', hLL, e1, e2, hq, st⟩ := (va_runS (As := [.ref b, .int 6]) (rest := []) (free := fun q => s.heap.size ≤ q) (mc := 47) (ms := 2325) (cells := 0) (slots := 0) (locs := []) (H := s.heap) (g := F0 m pc ls [.int 6, .ref b]) S (kL_slab l D cA cB hL260 s.heap.size) (va_cwS 2 S.2.2.2.2 (lg_goodS hTs kw_1 kw_2 kw_3 kw_4) rfl rfl rfl hdL_slab.2 ⟨hR.1, Nat.le_trans (Nat.le_of_ble_eq_true rfl) hR.2⟩) ⟨pQ_blind, fun U hU hW => ⟨rfl, by rw [hU], va_K.moved hW.alike hK, va_Nw.warmM hW hN, va_Nw.warmM hW hNM, va_Nw.warmC hW hcl, by rw [hU]; exact va_Z.moved hW.alike hZ, by rw [hU]; exact va_X.moved hW.alike hX, hbl⟩⟩ rfl rfl hsz rfl (lv_room (Nat.le_of_ble_eq_true rfl)) hdg ⟨by omega, by omega⟩) T hT X
  obtain ⟨ad, w, h, τ, ρ, π, hv, had, haA, hD, hP, hz, hk⟩ := hq
  cases hv
  rw [h0] at hz hk
  rw [← e1] at hP hz hk
  obtain ⟨t2, a1, b1⟩ := kk ad w h τ ρ π T'.heap ([] ++ L1) had haA hD ⟨hP, fun k q h => by simp at h, ⟨fun i j x y h => by simp at h, fun k q h => by simp at h⟩, fun k q h => by simp at h, hz, hk, fun q hq => hLL q hq⟩ T' rfl X'
  exact ⟨t2, st t2 a1, b1⟩
end LAWB
set_option maxHeartbeats 8000000 in
set_option maxRecDepth 100000 in
theorem law_walk {p : Program} (l : Launch) {e : Env} {s : State} {m : MethodId} {below : List Frame} {meth : Method} {c : Code} {Q : State → Prop} {D : va_G} {cA cB : ClassId} {b L : Nat} {xs : Nat → Int32} (hL260 : L ≤ 260) (C : CallFix p m c cL_law 16 s #[Value.ref b] wA RL) (hK : va_K D vwCl [(cA, .int), (cB, .byte)] s) (hN : nW s) (hNM : va_Nw (Cond.methodLinkNest RX7 11 yX5_init RX7) s) (hcl : zC s) (hZ : zW (fun q => s.heap.size ≤ q) s s.heap) (hXs : va_X b L xs s s.heap) (hbl : b < s.heap.size) (hQ : ∀ (H : Heap) (locs : List Loc) (ls : Array Slot), (∀ q ∈ locs, s.heap.size ≤ q.base) → W p l e room_1 s m #[Value.ref b] below meth c H locs 2243 963621 Q (F0 m 588 ls [.int 1])) {ls : Array Slot} (hl : lv_has ls 16 [(0, .ref b)]) : W p l e room_1 s m #[Value.ref b] below meth c s.heap [] 0 0 Q (F0 m 0 ls []) := by
  obtain ⟨hx, hb, hml, hown, hts⟩ := id C
  have hTs : ∀ w ∈ wA, w ∈ wA := fun _ h => h
  have hbA : ¬ (fun q : Nat => s.heap.size ≤ q) b := fun q => by have q : s.heap.size ≤ b := q; omega
  have hcA : ∀ {n : Nat}, n ≤ 600130 → n ≤ room_1.cells := fun h => h
  have hcS : ∀ {n : Nat}, n ≤ 7301079 → n ≤ room_1.slots := fun h => h
  refine lv_aload_n hx hb dL_law_0 rfl (lv_at hl 0 rfl) ?_
  refine lv_bipush (v := 6) hx hb dL_law_1 (by decide) ?_
  refine lr_slab C hTs hL260 hK hN hNM hcl hZ hXs hbl ⟨Nat.le_of_ble_eq_true rfl, Nat.le_of_ble_eq_true rfl⟩ ⟨hcA (by omega), hcS (by omega)⟩ hl.1 dL_law_3 (fun ad w h τ ρ π H locs had haA hD hL => ?_)
  have F : LF p m c cL_law 16 s #[Value.ref b] wA D cA cB ad (fun q : Nat => s.heap.size ≤ q) := ⟨C, hTs, hK, hN, hcl, hZ, had, haA, fun q h => h⟩
  have h36 := hD.1.n36
  have hpos := hD.1.npos
  have hTurn : ∀ (d t : Nat), t + d = 12 → ∀ (π : Sg) (H : Heap) (locs : List Loc) (ls : Array Slot), Gd w h (36 + 300 * (t : Int)) τ ρ π → LW D cA ad (fun q : Nat => s.heap.size ≤ q) [] s τ ρ π H locs → lv_has ls 16 [(3, .int (nI t)), (2, .int (nI (w * h))), (1, .ref (ad 0)), (0, .ref b)] → W p l e room_1 s m #[Value.ref b] below meth c H locs (47 + 183 * t) (2325 + 80108 * t) Q (F0 m 16 ls []) := by
    intro d
    induction d with
    | zero =>
      intro t ht π H locs ls hD hL hl
      have et : t = 12 := by omega
      subst et
      refine lv_iload_n hx hb dL_law_16 rfl (lv_at hl 0 rfl) ?_
      refine lv_bipush (v := 12) hx hb dL_law_17 (by decide) ?_
      refine lv_icmp_ge (tgt := 562) hx hb dL_law_19 (by decide) (fun c_1 => ?_) (fun c_1 => absurd (by decide) c_1)
      refine lv_aload_n hx hb dL_law_562 rfl (lv_at hl 2 rfl) ?_
      refine lr_digest (rest := []) F hD ⟨Nat.le_of_ble_eq_true rfl, Nat.le_of_ble_eq_true rfl⟩ ⟨hcA (by omega), hcS (by omega)⟩ hl.1 (Nat.le_of_ble_eq_true rfl) dL_law_563 hL (fun H locs hL => ?_)
      refine lv_lstore_n (lv' := [(3, .long (dgv τ ρ π)), (2, .int (nI (w * h))), (1, .ref (ad 0)), (0, .ref b)]) hx hb dL_law_566 rfl hl (by decide) rfl (fun ls hl => ?_)
      refine lv_aload_n hx hb dL_law_567 rfl (lv_at hl 2 rfl) ?_
      refine lr_sound (rest := []) F hD ⟨Nat.le_of_ble_eq_true rfl, Nat.le_of_ble_eq_true rfl⟩ ⟨hcA (by omega), hcS (by omega)⟩ hl.1 (Nat.le_of_ble_eq_true rfl) dL_law_568 hL (fun H locs hL => ?_)
      refine lv_if_eq (tgt := 587) hx hb dL_law_571 (by decide) (fun c_2 => absurd c_2 (by decide)) (fun c_2 => ?_)
      refine lv_aload_n hx hb dL_law_574 rfl (lv_at hl 2 rfl) ?_
      refine lr_digest (rest := []) F hD ⟨Nat.le_of_ble_eq_true rfl, Nat.le_of_ble_eq_true rfl⟩ ⟨hcA (by omega), hcS (by omega)⟩ hl.1 (Nat.le_of_ble_eq_true rfl) dL_law_575 hL (fun H locs hL => ?_)
      refine lv_lload_n hx hb dL_law_578 rfl (lv_at hl 0 rfl) ?_
      refine lv_lcmp0 hx hb dL_law_579 ?_
      refine lv_if_ne (tgt := 587) hx hb dL_law_580 (by decide) (fun c_3 => absurd rfl c_3) (fun c_3 => ?_)
      refine lv_iconst (v := 1) hx hb dL_law_583 (by decide) ?_
      refine lv_goto (tgt := 588) hx hb dL_law_584 (by decide) ?_
      refine W.widen (k := 2243) (n := 963621) (by omega) (by omega) ?_
      exact hQ H locs ls hL.2.2.2.2.2.2
    | succ d ih =>
      intro t ht π H locs ls hD hL hl
      refine lv_iload_n hx hb dL_law_16 rfl (lv_at hl 0 rfl) ?_
      refine lv_bipush (v := 12) hx hb dL_law_17 (by decide) ?_
      refine lv_icmp_ge (tgt := 562) hx hb dL_law_19 (by decide) (fun c_1 => absurd c_1 (by rw [show (12 : Int32) = nI 12 from rfl, nIle (by omega) (by omega)]; omega)) (fun c_1 => ?_)
      refine lv_aload_n hx hb dL_law_22 rfl (lv_at hl 3 rfl) ?_
      refine lv_bipush (v := 11) hx hb dL_law_23 (by decide) ?_
      refine lv_iload_n hx hb dL_law_25 rfl (lv_at hl 0 rfl) ?_
      refine lv_iadd hx hb dL_law_26 ?_
      rw [show (11 : Int32) + nI t = nI (11 + t) from nIa 11 t]
      refine lr_scr (rest := []) C hTs hL260 hXs hbl hbA hL.2.2.2.2 (by rw [nI_int (by omega)]; omega) ⟨Nat.le_of_ble_eq_true rfl, Nat.le_of_ble_eq_true rfl⟩ ⟨hcA (by omega), hcS (by omega)⟩ hl.1 (Nat.le_of_ble_eq_true rfl) dL_law_27 ?_
      refine lv_istore (lv' := [(4, .int (cl xs L (nI (11 + t)))), (3, .int (nI t)), (2, .int (nI (w * h))), (1, .ref (ad 0)), (0, .ref b)]) hx hb dL_law_30 hl (by decide) rfl (fun ls hl => ?_)
      refine lv_aload_n hx hb dL_law_32 rfl (lv_at hl 3 rfl) ?_
      refine lv_iconst (v := 0) hx hb dL_law_33 (by decide) ?_
      refine lr_metal (rest := []) F hD (by decide) ⟨Nat.le_of_ble_eq_true rfl, Nat.le_of_ble_eq_true rfl⟩ ⟨hcA (by omega), hcS (by omega)⟩ hl.1 (Nat.le_of_ble_eq_true rfl) dL_law_34 hL (fun H locs hL => ?_)
      refine lv_istore (lv' := [(5, .int (mt τ ρ π 0)), (4, .int (cl xs L (nI (11 + t)))), (3, .int (nI t)), (2, .int (nI (w * h))), (1, .ref (ad 0)), (0, .ref b)]) hx hb dL_law_37 hl (by decide) rfl (fun ls hl => ?_)
      refine lv_aload_n hx hb dL_law_39 rfl (lv_at hl 4 rfl) ?_
      refine lv_bipush (v := 11) hx hb dL_law_40 (by decide) ?_
      refine lr_metal (rest := []) F hD (by decide) ⟨Nat.le_of_ble_eq_true rfl, Nat.le_of_ble_eq_true rfl⟩ ⟨hcA (by omega), hcS (by omega)⟩ hl.1 (Nat.le_of_ble_eq_true rfl) dL_law_42 hL (fun H locs hL => ?_)
      refine lv_istore (lv' := [(6, .int (mt τ ρ π 11)), (5, .int (mt τ ρ π 0)), (4, .int (cl xs L (nI (11 + t)))), (3, .int (nI t)), (2, .int (nI (w * h))), (1, .ref (ad 0)), (0, .ref b)]) hx hb dL_law_45 hl (by decide) rfl (fun ls hl => ?_)
      refine lv_aload_n hx hb dL_law_47 rfl (lv_at hl 5 rfl) ?_
      refine lv_bipush (v := 10) hx hb dL_law_48 (by decide) ?_
      refine lr_metal (rest := []) F hD (by decide) ⟨Nat.le_of_ble_eq_true rfl, Nat.le_of_ble_eq_true rfl⟩ ⟨hcA (by omega), hcS (by omega)⟩ hl.1 (Nat.le_of_ble_eq_true rfl) dL_law_50 hL (fun H locs hL => ?_)
      refine lv_istore (lv' := [(7, .int (mt τ ρ π 10)), (6, .int (mt τ ρ π 11)), (5, .int (mt τ ρ π 0)), (4, .int (cl xs L (nI (11 + t)))), (3, .int (nI t)), (2, .int (nI (w * h))), (1, .ref (ad 0)), (0, .ref b)]) hx hb dL_law_53 hl (by decide) rfl (fun ls hl => ?_)
      refine lv_aload_n hx hb dL_law_55 rfl (lv_at hl 6 rfl) ?_
      refine lv_iconst (v := 0) hx hb dL_law_56 (by decide) ?_
      refine lr_R (As := [.ref (ad 0), .int 0]) (rest := []) F (fun sz => kL_told l D cA cB ad F.had hD (k9 := 0) (by decide) sz) kw_468 kw_469 kw_3 kw_470 hdL_told ⟨Nat.le_of_ble_eq_true rfl, Nat.le_of_ble_eq_true rfl⟩ rfl rfl rfl hl.1 rfl (Nat.le_of_ble_eq_true rfl) dL_law_57 ⟨hcA (by omega), hcS (by omega)⟩ hL (fun a8 f8 H locs hf8 hL => ?_)
      refine lv_astore (lv' := [(8, .ref a8), (7, .int (mt τ ρ π 10)), (6, .int (mt τ ρ π 11)), (5, .int (mt τ ρ π 0)), (4, .int (cl xs L (nI (11 + t)))), (3, .int (nI t)), (2, .int (nI (w * h))), (1, .ref (ad 0)), (0, .ref b)]) hx hb dL_law_60 hl (by decide) rfl (fun ls hl => ?_)
      refine lv_aload_n hx hb dL_law_62 rfl (lv_at hl 7 rfl) ?_
      refine lv_iconst (v := 1) hx hb dL_law_63 (by decide) ?_
      refine lr_R (As := [.ref (ad 0), .int 1]) (rest := []) F (fun sz => kL_told l D cA cB ad F.had hD (k9 := 1) (by decide) sz) kw_468 kw_469 kw_3 kw_470 hdL_told ⟨Nat.le_of_ble_eq_true rfl, Nat.le_of_ble_eq_true rfl⟩ rfl rfl rfl hl.1 rfl (Nat.le_of_ble_eq_true rfl) dL_law_64 ⟨hcA (by omega), hcS (by omega)⟩ hL (fun a9 f9 H locs hf9 hL => ?_)
      refine lv_astore (lv' := [(9, .ref a9), (8, .ref a8), (7, .int (mt τ ρ π 10)), (6, .int (mt τ ρ π 11)), (5, .int (mt τ ρ π 0)), (4, .int (cl xs L (nI (11 + t)))), (3, .int (nI t)), (2, .int (nI (w * h))), (1, .ref (ad 0)), (0, .ref b)]) hx hb dL_law_67 hl (by decide) rfl (fun ls hl => ?_)
      refine lv_iload_n hx hb dL_law_69 rfl (lv_at hl 7 rfl) ?_
      refine lr_newz (rest := []) F (hts _ kw_0) (nI_pos (by omega)) (nI_cl (by omega)) (by omega) (hcA (by omega)) (hcS (by omega)) dL_law_70 hL (fun cZ a10 H locs hKz hL => ?_)
      refine W.widen (k := 47 + 183 * t + 3) (n := 2325 + 80108 * t + 108) (by omega) (by omega) ?_
      refine lv_astore (lv' := [(10, .ref a10), (9, .ref a9), (8, .ref a8), (7, .int (mt τ ρ π 10)), (6, .int (mt τ ρ π 11)), (5, .int (mt τ ρ π 0)), (4, .int (cl xs L (nI (11 + t)))), (3, .int (nI t)), (2, .int (nI (w * h))), (1, .ref (ad 0)), (0, .ref b)]) hx hb dL_law_72 hl (by decide) rfl (fun ls hl => ?_)
      refine lv_iconst (v := 0) hx hb dL_law_74 (by decide) ?_
      refine lv_istore (lv' := [(11, .int 0), (10, .ref a10), (9, .ref a9), (8, .ref a8), (7, .int (mt τ ρ π 10)), (6, .int (mt τ ρ π 11)), (5, .int (mt τ ρ π 0)), (4, .int (cl xs L (nI (11 + t)))), (3, .int (nI t)), (2, .int (nI (w * h))), (1, .ref (ad 0)), (0, .ref b)]) hx hb dL_law_75 hl (by decide) rfl (fun ls hl => ?_)
      have hSo : ∀ (πn : Sg) (f10 : Nat → Int32) (H : Heap) (locs : List Loc) (ls : Array Slot), Gd w h (36 + 300 * (t : Int) + 300) τ ρ πn → LW D cA ad (fun q : Nat => s.heap.size ≤ q) [(a8, .inl (cA, w * h, .inl f8)), (a9, .inl (cA, w * h, .inl f9)), (a10, .inl (cZ, w * h, .inl f10))] s τ ρ πn H locs → lv_has ls 16 [(3, .int (nI t)), (2, .int (nI (w * h))), (1, .ref (ad 0)), (0, .ref b)] → W p l e room_1 s m #[Value.ref b] below meth c H locs (47 + 183 * t + 3) (2325 + 80108 * t + 108) Q (F0 m 546 ls []) := by
        intro πn f10 H locs ls hDn hL hl
        refine lv_aload_n hx hb dL_law_546 rfl (lv_at hl 2 rfl) ?_
        refine lv_iload_n hx hb dL_law_547 rfl (lv_at hl 1 rfl) ?_
        refine lr_S (As := [.ref (ad 0), .int (nI (w * h))]) (rest := []) F (fun sz => kL_isSo l D cA cB ad F.had hDn sz) kw_550 kw_551 kw_3 kw_552 hdL_isSo ⟨Nat.le_of_ble_eq_true rfl, Nat.le_of_ble_eq_true rfl⟩ rfl rfl rfl hl.1 rfl (Nat.le_of_ble_eq_true rfl) dL_law_548 ⟨hcA (by omega), hcS (by omega)⟩ hL (fun H locs hL => ?_)
        refine lv_if_ne (tgt := 556) hx hb dL_law_551 (by decide) (fun c_1 => ?_) (fun c_1 => absurd c_1 (by decide))
        refine lv_iinc (v := nI (t + 1)) (lv' := [(3, .int (nI (t + 1))), (2, .int (nI (w * h))), (1, .ref (ad 0)), (0, .ref b)]) hx hb dL_law_556 hl (k := 0) rfl (nI_succ _).symm (by decide) rfl (fun ls hl => ?_)
        refine lv_goto (tgt := 16) hx hb dL_law_559 (by decide) ?_
        refine W.widen (k := 47 + 183 * (t + 1)) (n := 2325 + 80108 * (t + 1)) (by omega) (by omega) ?_
        have hDm : Gd w h (36 + 300 * ((t + 1 : Nat) : Int)) τ ρ πn := by rw [show (36 : Int) + 300 * ((t + 1 : Nat) : Int) = 36 + 300 * (t : Int) + 300 from by omega]; exact hDn
        exact ih (t + 1) (by omega) πn H locs ls hDm hL.drop (lv_sub hl [0, 1, 2, 3] rfl)
      have hChk : ∀ (kind : Nat) (v : Int32) (πn : Sg) (f10 : Nat → Int32) (H : Heap) (locs : List Loc) (ls : Array Slot), kind < 8 → Ck w h ρ kind v.toInt π πn → Gd w h (36 + 300 * (t : Int) + 300) τ ρ πn → (∀ j, j < w * h → f10 j = hzb π j) → LW D cA ad (fun q : Nat => s.heap.size ≤ q) [(a8, .inl (cA, w * h, .inl f8)), (a9, .inl (cA, w * h, .inl f9)), (a10, .inl (cZ, w * h, .inl f10))] s τ ρ πn H locs → lv_has ls 16 [(13, .int v), (12, .int (nI kind)), (11, .int (mt τ ρ π 14)), (10, .ref a10), (9, .ref a9), (8, .ref a8), (7, .int (mt τ ρ π 10)), (6, .int (mt τ ρ π 11)), (5, .int (mt τ ρ π 0)), (4, .int (cl xs L (nI (11 + t)))), (3, .int (nI t)), (2, .int (nI (w * h))), (1, .ref (ad 0)), (0, .ref b)] → W p l e room_1 s m #[Value.ref b] below meth c H locs (47 + 183 * t + 3) (2325 + 80108 * t + 108) Q (F0 m 304 ls []) := by
        intro kind v πn f10 H locs ls hk8 hC hDn hf10 hL hl
        obtain ⟨g0, g2, g3, g4, g5, gl, gp1, gp2, gd, gc⟩ := hC
        have v1 := Int32.toInt_lt (mt τ ρ πn 11)
        have v2 := Int32.le_toInt (mt τ ρ πn 11)
        have v3 := Int32.toInt_lt (πn.1 1)
        have v4 := Int32.le_toInt (πn.1 1)
        have u11 := mt_11i hD
        have n11 := mt_11i hDn
        have u10 := mt_10i hD
        have n10 := mt_10i hDn
        have pb := pc_bd (w * h) π
        have q0 : ¬ v < 0 := by rw [z_lt, i0]; omega
        have q2 : kind = 2 → ¬ mt τ ρ π 0 < mt τ ρ πn 0 := fun q => by rw [z_lt, mt_0i hD, mt_0i hDn]; have := g2 q; omega
        have q3 : kind = 3 → v = mt τ ρ πn 12 := fun q => z_eq.mpr (by rw [mt_12i hDn]; exact g3 q)
        have q4 : kind = 4 → mt τ ρ πn 14 = mt τ ρ π 14 + v := fun q => by have g4 := g4 q; rw [mt_14 hDn, mt_14 hD]; exact z_eq.mpr (by rw [z_add (by omega) (by omega)]; exact g4)
        have q5 : kind = 5 → mt τ ρ πn 11 = mt τ ρ π 11 + v := fun q => by have g5 := g5 q; exact z_eq.mpr (by rw [z_add (by omega) (by omega)]; omega)
        have q6 : kind < 5 → mt τ ρ πn 11 = mt τ ρ π 11 := fun q => z_eq.mpr (by have := gl q; omega)
        have q7 : ¬ mt τ ρ π 10 < mt τ ρ πn 10 := by rw [z_lt]; omega
        have q8 : ¬ mt τ ρ πn 10 < mt τ ρ π 10 - 1 := by rw [z_lt, z_sub (by rw [i1]; omega) (by rw [i1]; omega), i1]; omega
        have q9 : mt τ ρ π 14 ≤ mt τ ρ πn 14 := by rw [mt_14 hDn, mt_14 hD, z_le]; exact gd
        have hCells : ∀ (d k : Nat), k + d = w * h → ∀ (H : Heap) (locs : List Loc) (ls : Array Slot), LW D cA ad (fun q : Nat => s.heap.size ≤ q) [(a8, .inl (cA, w * h, .inl f8)), (a9, .inl (cA, w * h, .inl f9)), (a10, .inl (cZ, w * h, .inl f10))] s τ ρ πn H locs → lv_has ls 16 [(14, .int (nI k)), (13, .int v), (12, .int (nI kind)), (11, .int (mt τ ρ π 14)), (10, .ref a10), (9, .ref a9), (8, .ref a8), (7, .int (mt τ ρ π 10)), (6, .int (mt τ ρ π 11)), (5, .int (mt τ ρ π 0)), (4, .int (cl xs L (nI (11 + t)))), (3, .int (nI t)), (2, .int (nI (w * h))), (1, .ref (ad 0)), (0, .ref b)] → W p l e room_1 s m #[Value.ref b] below meth c H locs (47 + 183 * t + 3) (2325 + 80108 * t + 108) Q (F0 m 439 ls []) := by
          intro d
          induction d with
          | zero =>
            intro k hk H locs ls hL hl
            have ek : k = w * h := by omega
            subst ek
            refine lv_iload hx hb dL_law_439 (lv_at hl 0 rfl) ?_
            refine lv_iload_n hx hb dL_law_441 rfl (lv_at hl 12 rfl) ?_
            refine lv_icmp_ge (tgt := 546) hx hb dL_law_442 (by decide) (fun c_1 => ?_) (fun c_1 => absurd (nI_le (Nat.le_refl _) (by omega)) c_1)
            exact hSo πn f10 H locs ls hDn hL (lv_sub hl [11, 12, 13, 14] rfl)
          | succ d ihc =>
            intro k hk H locs ls hL hl
            have hkn : k < w * h := by omega
            obtain ⟨e1, e2, e3⟩ := gc k hkn
            have h540 : ∀ (H : Heap) (locs : List Loc) (ls : Array Slot), LW D cA ad (fun q : Nat => s.heap.size ≤ q) [(a8, .inl (cA, w * h, .inl f8)), (a9, .inl (cA, w * h, .inl f9)), (a10, .inl (cZ, w * h, .inl f10))] s τ ρ πn H locs → lv_has ls 16 [(14, .int (nI k)), (13, .int v), (12, .int (nI kind)), (11, .int (mt τ ρ π 14)), (10, .ref a10), (9, .ref a9), (8, .ref a8), (7, .int (mt τ ρ π 10)), (6, .int (mt τ ρ π 11)), (5, .int (mt τ ρ π 0)), (4, .int (cl xs L (nI (11 + t)))), (3, .int (nI t)), (2, .int (nI (w * h))), (1, .ref (ad 0)), (0, .ref b)] → W p l e room_1 s m #[Value.ref b] below meth c H locs (47 + 183 * t + 3) (2325 + 80108 * t + 108) Q (F0 m 540 ls []) := by
              intro H locs ls hL hl
              refine lv_iinc (v := nI (k + 1)) (lv' := [(14, .int (nI (k + 1))), (13, .int v), (12, .int (nI kind)), (11, .int (mt τ ρ π 14)), (10, .ref a10), (9, .ref a9), (8, .ref a8), (7, .int (mt τ ρ π 10)), (6, .int (mt τ ρ π 11)), (5, .int (mt τ ρ π 0)), (4, .int (cl xs L (nI (11 + t)))), (3, .int (nI t)), (2, .int (nI (w * h))), (1, .ref (ad 0)), (0, .ref b)]) hx hb dL_law_540 hl (k := 0) rfl (nI_succ _).symm (by decide) rfl (fun ls hl => ?_)
              refine lv_goto (tgt := 439) hx hb dL_law_543 (by decide) ?_
              exact ihc (k + 1) (by omega) H locs ls hL (lv_sub hl [0, 1, 2, 3, 4, 5, 6, 7, 8, 9, 10, 11, 12, 13, 14] rfl)
            have h513 : ∀ (H : Heap) (locs : List Loc) (ls : Array Slot), LW D cA ad (fun q : Nat => s.heap.size ≤ q) [(a8, .inl (cA, w * h, .inl f8)), (a9, .inl (cA, w * h, .inl f9)), (a10, .inl (cZ, w * h, .inl f10))] s τ ρ πn H locs → lv_has ls 16 [(14, .int (nI k)), (13, .int v), (12, .int (nI kind)), (11, .int (mt τ ρ π 14)), (10, .ref a10), (9, .ref a9), (8, .ref a8), (7, .int (mt τ ρ π 10)), (6, .int (mt τ ρ π 11)), (5, .int (mt τ ρ π 0)), (4, .int (cl xs L (nI (11 + t)))), (3, .int (nI t)), (2, .int (nI (w * h))), (1, .ref (ad 0)), (0, .ref b)] → W p l e room_1 s m #[Value.ref b] below meth c H locs (47 + 183 * t + 3) (2325 + 80108 * t + 108) Q (F0 m 513 ls []) := by
              intro H locs ls hL hl
              refine lv_aload hx hb dL_law_513 (lv_at hl 4 rfl) ?_
              refine lv_iload hx hb dL_law_515 (lv_at hl 0 rfl) ?_
              refine va_zald hx hb hKz hL.2.1 2 0 rfl rfl (nI_in hkn (by omega)) dL_law_517 ?_
              rw [nI_cl (by omega), hf10 k hkn]
              refine lv_if_eq (tgt := 540) hx hb dL_law_518 (by decide) (fun c518 => ?_) (fun c518 => ?_)
              · exact h540 H locs ls hL (lv_sub hl [0, 1, 2, 3, 4, 5, 6, 7, 8, 9, 10, 11, 12, 13, 14] rfl)
              · refine lv_iload hx hb dL_law_521 (lv_at hl 2 rfl) ?_
                refine lv_bipush (v := 6) hx hb dL_law_523 (by decide) ?_
                refine lv_icmp_eq (tgt := 540) hx hb dL_law_525 (by decide) (fun c525 => ?_) (fun c525 => ?_)
                · exact h540 H locs ls hL (lv_sub hl [0, 1, 2, 3, 4, 5, 6, 7, 8, 9, 10, 11, 12, 13, 14] rfl)
                · refine lv_aload_n hx hb dL_law_528 rfl (lv_at hl 13 rfl) ?_
                  refine lv_iload hx hb dL_law_529 (lv_at hl 0 rfl) ?_
                  refine lv_iconst (v := 2) hx hb dL_law_531 (by decide) ?_
                  refine lr_cell (rest := []) F hDn (holds_ne hDn.1 hkn) (by decide) ⟨Nat.le_of_ble_eq_true rfl, Nat.le_of_ble_eq_true rfl⟩ ⟨hcA (by omega), hcS (by omega)⟩ hl.1 (Nat.le_of_ble_eq_true rfl) dL_law_532 hL (fun H locs hL => ?_)
                  rw [oc_2 (by omega)]
                  refine lv_if_ne (tgt := 540) hx hb dL_law_535 (by decide) (fun c_3 => ?_) (fun c_3 => absurd c_3 (fun q => e3 (hzb_1 c518) (fun q6 => c525 (by rw [q6]; rfl)) ((congrArg Int32.toInt q).trans i0)))
                  exact h540 H locs ls hL (lv_sub hl [0, 1, 2, 3, 4, 5, 6, 7, 8, 9, 10, 11, 12, 13, 14] rfl)
            have h487 : ∀ (H : Heap) (locs : List Loc) (ls : Array Slot), LW D cA ad (fun q : Nat => s.heap.size ≤ q) [(a8, .inl (cA, w * h, .inl f8)), (a9, .inl (cA, w * h, .inl f9)), (a10, .inl (cZ, w * h, .inl f10))] s τ ρ πn H locs → lv_has ls 16 [(14, .int (nI k)), (13, .int v), (12, .int (nI kind)), (11, .int (mt τ ρ π 14)), (10, .ref a10), (9, .ref a9), (8, .ref a8), (7, .int (mt τ ρ π 10)), (6, .int (mt τ ρ π 11)), (5, .int (mt τ ρ π 0)), (4, .int (cl xs L (nI (11 + t)))), (3, .int (nI t)), (2, .int (nI (w * h))), (1, .ref (ad 0)), (0, .ref b)] → W p l e room_1 s m #[Value.ref b] below meth c H locs (47 + 183 * t + 3) (2325 + 80108 * t + 108) Q (F0 m 487 ls []) := by
              intro H locs ls hL hl
              refine lv_iconst (v := 0) hx hb dL_law_487 (by decide) ?_
              refine lv_istore (lv' := [(15, .int 0), (14, .int (nI k)), (13, .int v), (12, .int (nI kind)), (11, .int (mt τ ρ π 14)), (10, .ref a10), (9, .ref a9), (8, .ref a8), (7, .int (mt τ ρ π 10)), (6, .int (mt τ ρ π 11)), (5, .int (mt τ ρ π 0)), (4, .int (cl xs L (nI (11 + t)))), (3, .int (nI t)), (2, .int (nI (w * h))), (1, .ref (ad 0)), (0, .ref b)]) hx hb dL_law_488 hl (by decide) rfl (fun ls hl => ?_)
              refine lv_iload hx hb dL_law_490 (lv_at hl 0 rfl) ?_
              refine lv_if_ne (tgt := 538) hx hb dL_law_492 (by decide) (fun c_1 => absurd rfl c_1) (fun c_1 => ?_)
              refine lv_aload hx hb dL_law_495 (lv_at hl 7 rfl) ?_
              refine lv_iload hx hb dL_law_497 (lv_at hl 1 rfl) ?_
              refine va_iald hx hb F.Ki hL.2.1 0 0 rfl rfl (nI_in hkn (by omega)) dL_law_499 ?_
              rw [nI_cl (by omega), hf8 k hkn, oc_0 (by omega)]
              refine lv_if_le (tgt := 513) hx hb dL_law_500 (by decide) (fun c500 => ?_) (fun c500 => ?_)
              · exact h513 H locs ls hL (lv_sub hl [1, 2, 3, 4, 5, 6, 7, 8, 9, 10, 11, 12, 13, 14, 15] rfl)
              · refine lv_aload_n hx hb dL_law_503 rfl (lv_at hl 14 rfl) ?_
                refine lv_iload hx hb dL_law_504 (lv_at hl 1 rfl) ?_
                refine lv_iconst (v := 0) hx hb dL_law_506 (by decide) ?_
                refine lr_cell (rest := []) F hDn (holds_ne hDn.1 hkn) (by decide) ⟨Nat.le_of_ble_eq_true rfl, Nat.le_of_ble_eq_true rfl⟩ ⟨hcA (by omega), hcS (by omega)⟩ hl.1 (Nat.le_of_ble_eq_true rfl) dL_law_507 hL (fun H locs hL => ?_)
                rw [oc_0 (by omega)]
                refine lv_if_eq (tgt := 538) hx hb dL_law_510 (by decide) (fun c_3 => absurd c_3 (fun q => e2 (fun q2 => c500 (z_le.mpr (by rw [i0]; exact Int.le_of_eq q2))) ((congrArg Int32.toInt q).trans i0))) (fun c_3 => ?_)
                exact h513 H locs ls hL (lv_sub hl [1, 2, 3, 4, 5, 6, 7, 8, 9, 10, 11, 12, 13, 14, 15] rfl)
            refine lv_iload hx hb dL_law_439 (lv_at hl 0 rfl) ?_
            refine lv_iload_n hx hb dL_law_441 rfl (lv_at hl 12 rfl) ?_
            refine lv_icmp_ge (tgt := 546) hx hb dL_law_442 (by decide) (fun c_1 => absurd c_1 (nI_ge hkn (by omega))) (fun c_1 => ?_)
            refine lv_aload hx hb dL_law_445 (lv_at hl 4 rfl) ?_
            refine lv_iload hx hb dL_law_447 (lv_at hl 0 rfl) ?_
            refine va_zald hx hb hKz hL.2.1 2 0 rfl rfl (nI_in hkn (by omega)) dL_law_449 ?_
            rw [nI_cl (by omega), hf10 k hkn]
            refine lv_if_eq (tgt := 487) hx hb dL_law_450 (by decide) (fun c450 => ?_) (fun c450 => ?_)
            · exact h487 H locs ls hL (lv_sub hl [0, 1, 2, 3, 4, 5, 6, 7, 8, 9, 10, 11, 12, 13, 14] rfl)
            · refine lv_aload_n hx hb dL_law_453 rfl (lv_at hl 13 rfl) ?_
              refine lv_iload hx hb dL_law_454 (lv_at hl 0 rfl) ?_
              refine lv_iconst (v := 0) hx hb dL_law_456 (by decide) ?_
              refine lr_cell (rest := []) F hDn (holds_ne hDn.1 hkn) (by decide) ⟨Nat.le_of_ble_eq_true rfl, Nat.le_of_ble_eq_true rfl⟩ ⟨hcA (by omega), hcS (by omega)⟩ hl.1 (Nat.le_of_ble_eq_true rfl) dL_law_457 hL (fun H locs hL => ?_)
              rw [oc_0 (by omega)]
              refine lv_aload hx hb dL_law_460 (lv_at hl 6 rfl) ?_
              refine lv_iload hx hb dL_law_462 (lv_at hl 0 rfl) ?_
              refine va_iald hx hb F.Ki hL.2.1 0 0 rfl rfl (nI_in hkn (by omega)) dL_law_464 ?_
              rw [nI_cl (by omega), hf8 k hkn, oc_0 (by omega)]
              refine lv_icmp_ne (tgt := 483) hx hb dL_law_465 (by decide) (fun c_3 => absurd (z_eq.mpr (e1 (hzb_1 c450)).1) c_3) (fun c_3 => ?_)
              refine lv_aload_n hx hb dL_law_468 rfl (lv_at hl 13 rfl) ?_
              refine lv_iload hx hb dL_law_469 (lv_at hl 0 rfl) ?_
              refine lv_iconst (v := 1) hx hb dL_law_471 (by decide) ?_
              refine lr_cell (rest := []) F hDn (holds_ne hDn.1 hkn) (by decide) ⟨Nat.le_of_ble_eq_true rfl, Nat.le_of_ble_eq_true rfl⟩ ⟨hcA (by omega), hcS (by omega)⟩ hl.1 (Nat.le_of_ble_eq_true rfl) dL_law_472 hL (fun H locs hL => ?_)
              rw [oc_1 (by omega)]
              refine lv_aload hx hb dL_law_475 (lv_at hl 5 rfl) ?_
              refine lv_iload hx hb dL_law_477 (lv_at hl 0 rfl) ?_
              refine va_iald hx hb F.Ki hL.2.1 1 0 rfl rfl (nI_in hkn (by omega)) dL_law_479 ?_
              rw [nI_cl (by omega), hf9 k hkn, oc_1 (by omega)]
              refine lv_icmp_le (tgt := 487) hx hb dL_law_480 (by decide) (fun c_4 => ?_) (fun c_4 => absurd (z_le.mpr (e1 (hzb_1 c450)).2) c_4)
              exact h487 H locs ls hL (lv_sub hl [0, 1, 2, 3, 4, 5, 6, 7, 8, 9, 10, 11, 12, 13, 14] rfl)
        have h399 : ∀ (H : Heap) (locs : List Loc) (ls : Array Slot), LW D cA ad (fun q : Nat => s.heap.size ≤ q) [(a8, .inl (cA, w * h, .inl f8)), (a9, .inl (cA, w * h, .inl f9)), (a10, .inl (cZ, w * h, .inl f10))] s τ ρ πn H locs → lv_has ls 16 [(13, .int v), (12, .int (nI kind)), (11, .int (mt τ ρ π 14)), (10, .ref a10), (9, .ref a9), (8, .ref a8), (7, .int (mt τ ρ π 10)), (6, .int (mt τ ρ π 11)), (5, .int (mt τ ρ π 0)), (4, .int (cl xs L (nI (11 + t)))), (3, .int (nI t)), (2, .int (nI (w * h))), (1, .ref (ad 0)), (0, .ref b)] → W p l e room_1 s m #[Value.ref b] below meth c H locs (47 + 183 * t + 3) (2325 + 80108 * t + 108) Q (F0 m 399 ls []) := by
          intro H locs ls hL hl
          refine lv_aload_n hx hb dL_law_399 rfl (lv_at hl 12 rfl) ?_
          refine lv_bipush (v := 10) hx hb dL_law_400 (by decide) ?_
          refine lr_metal (rest := []) F hDn (by decide) ⟨Nat.le_of_ble_eq_true rfl, Nat.le_of_ble_eq_true rfl⟩ ⟨hcA (by omega), hcS (by omega)⟩ hl.1 (Nat.le_of_ble_eq_true rfl) dL_law_402 hL (fun H locs hL => ?_)
          refine lv_iload hx hb dL_law_405 (lv_at hl 6 rfl) ?_
          refine lv_icmp_gt (tgt := 434) hx hb dL_law_407 (by decide) (fun c_1 => absurd c_1 q7) (fun c_1 => ?_)
          refine lv_aload_n hx hb dL_law_410 rfl (lv_at hl 12 rfl) ?_
          refine lv_bipush (v := 10) hx hb dL_law_411 (by decide) ?_
          refine lr_metal (rest := []) F hDn (by decide) ⟨Nat.le_of_ble_eq_true rfl, Nat.le_of_ble_eq_true rfl⟩ ⟨hcA (by omega), hcS (by omega)⟩ hl.1 (Nat.le_of_ble_eq_true rfl) dL_law_413 hL (fun H locs hL => ?_)
          refine lv_iload hx hb dL_law_416 (lv_at hl 6 rfl) ?_
          refine lv_iconst (v := 1) hx hb dL_law_418 (by decide) ?_
          refine lv_isub hx hb dL_law_419 ?_
          refine lv_icmp_lt (tgt := 434) hx hb dL_law_420 (by decide) (fun c_2 => absurd c_2 q8) (fun c_2 => ?_)
          refine lv_aload_n hx hb dL_law_423 rfl (lv_at hl 12 rfl) ?_
          refine lv_bipush (v := 14) hx hb dL_law_424 (by decide) ?_
          refine lr_metal (rest := []) F hDn (by decide) ⟨Nat.le_of_ble_eq_true rfl, Nat.le_of_ble_eq_true rfl⟩ ⟨hcA (by omega), hcS (by omega)⟩ hl.1 (Nat.le_of_ble_eq_true rfl) dL_law_426 hL (fun H locs hL => ?_)
          refine lv_iload hx hb dL_law_429 (lv_at hl 2 rfl) ?_
          refine lv_icmp_ge (tgt := 436) hx hb dL_law_431 (by decide) (fun c_3 => ?_) (fun c_3 => absurd q9 c_3)
          refine lv_iconst (v := 0) hx hb dL_law_436 (by decide) ?_
          refine lv_istore (lv' := [(14, .int 0), (13, .int v), (12, .int (nI kind)), (11, .int (mt τ ρ π 14)), (10, .ref a10), (9, .ref a9), (8, .ref a8), (7, .int (mt τ ρ π 10)), (6, .int (mt τ ρ π 11)), (5, .int (mt τ ρ π 0)), (4, .int (cl xs L (nI (11 + t)))), (3, .int (nI t)), (2, .int (nI (w * h))), (1, .ref (ad 0)), (0, .ref b)]) hx hb dL_law_437 hl (by decide) rfl (fun ls hl => ?_)
          exact hCells (w * h) 0 (by omega) H locs ls hL (lv_sub hl [0, 1, 2, 3, 4, 5, 6, 7, 8, 9, 10, 11, 12, 13, 14] (by rw [nI_0]; rfl))
        have h382 : ∀ (H : Heap) (locs : List Loc) (ls : Array Slot), LW D cA ad (fun q : Nat => s.heap.size ≤ q) [(a8, .inl (cA, w * h, .inl f8)), (a9, .inl (cA, w * h, .inl f9)), (a10, .inl (cZ, w * h, .inl f10))] s τ ρ πn H locs → lv_has ls 16 [(13, .int v), (12, .int (nI kind)), (11, .int (mt τ ρ π 14)), (10, .ref a10), (9, .ref a9), (8, .ref a8), (7, .int (mt τ ρ π 10)), (6, .int (mt τ ρ π 11)), (5, .int (mt τ ρ π 0)), (4, .int (cl xs L (nI (11 + t)))), (3, .int (nI t)), (2, .int (nI (w * h))), (1, .ref (ad 0)), (0, .ref b)] → W p l e room_1 s m #[Value.ref b] below meth c H locs (47 + 183 * t + 3) (2325 + 80108 * t + 108) Q (F0 m 382 ls []) := by
          intro H locs ls hL hl
          refine lv_iload hx hb dL_law_382 (lv_at hl 1 rfl) ?_
          refine lv_iconst (v := 5) hx hb dL_law_384 (by decide) ?_
          refine lv_icmp_ge (tgt := 399) hx hb dL_law_385 (by decide) (fun c385 => ?_) (fun c385 => ?_)
          · exact h399 H locs ls hL (lv_sub hl [0, 1, 2, 3, 4, 5, 6, 7, 8, 9, 10, 11, 12, 13] rfl)
          · refine lv_aload_n hx hb dL_law_388 rfl (lv_at hl 12 rfl) ?_
            refine lv_bipush (v := 11) hx hb dL_law_389 (by decide) ?_
            refine lr_metal (rest := []) F hDn (by decide) ⟨Nat.le_of_ble_eq_true rfl, Nat.le_of_ble_eq_true rfl⟩ ⟨hcA (by omega), hcS (by omega)⟩ hl.1 (Nat.le_of_ble_eq_true rfl) dL_law_391 hL (fun H locs hL => ?_)
            refine lv_iload hx hb dL_law_394 (lv_at hl 7 rfl) ?_
            refine lv_icmp_ne (tgt := 434) hx hb dL_law_396 (by decide) (fun c_2 => absurd (q6 (by rw [z_le, nI_int (by omega)] at c385; have q5 : (5 : Int32).toInt = 5 := (by decide); omega)) c_2) (fun c_2 => ?_)
            exact h399 H locs ls hL (lv_sub hl [0, 1, 2, 3, 4, 5, 6, 7, 8, 9, 10, 11, 12, 13] rfl)
        have h362 : ∀ (H : Heap) (locs : List Loc) (ls : Array Slot), LW D cA ad (fun q : Nat => s.heap.size ≤ q) [(a8, .inl (cA, w * h, .inl f8)), (a9, .inl (cA, w * h, .inl f9)), (a10, .inl (cZ, w * h, .inl f10))] s τ ρ πn H locs → lv_has ls 16 [(13, .int v), (12, .int (nI kind)), (11, .int (mt τ ρ π 14)), (10, .ref a10), (9, .ref a9), (8, .ref a8), (7, .int (mt τ ρ π 10)), (6, .int (mt τ ρ π 11)), (5, .int (mt τ ρ π 0)), (4, .int (cl xs L (nI (11 + t)))), (3, .int (nI t)), (2, .int (nI (w * h))), (1, .ref (ad 0)), (0, .ref b)] → W p l e room_1 s m #[Value.ref b] below meth c H locs (47 + 183 * t + 3) (2325 + 80108 * t + 108) Q (F0 m 362 ls []) := by
          intro H locs ls hL hl
          refine lv_iload hx hb dL_law_362 (lv_at hl 1 rfl) ?_
          refine lv_iconst (v := 5) hx hb dL_law_364 (by decide) ?_
          refine lv_icmp_ne (tgt := 382) hx hb dL_law_365 (by decide) (fun c365 => ?_) (fun c365 => ?_)
          · exact h382 H locs ls hL (lv_sub hl [0, 1, 2, 3, 4, 5, 6, 7, 8, 9, 10, 11, 12, 13] rfl)
          · refine lv_aload_n hx hb dL_law_368 rfl (lv_at hl 12 rfl) ?_
            refine lv_bipush (v := 11) hx hb dL_law_369 (by decide) ?_
            refine lr_metal (rest := []) F hDn (by decide) ⟨Nat.le_of_ble_eq_true rfl, Nat.le_of_ble_eq_true rfl⟩ ⟨hcA (by omega), hcS (by omega)⟩ hl.1 (Nat.le_of_ble_eq_true rfl) dL_law_371 hL (fun H locs hL => ?_)
            refine lv_iload hx hb dL_law_374 (lv_at hl 7 rfl) ?_
            refine lv_iload hx hb dL_law_376 (lv_at hl 0 rfl) ?_
            refine lv_iadd hx hb dL_law_378 ?_
            refine lv_icmp_ne (tgt := 434) hx hb dL_law_379 (by decide) (fun c_2 => absurd (q5 (nI_is (b := 5) hk8 (by decide) c365)) c_2) (fun c_2 => ?_)
            exact h382 H locs ls hL (lv_sub hl [0, 1, 2, 3, 4, 5, 6, 7, 8, 9, 10, 11, 12, 13] rfl)
        have h342 : ∀ (H : Heap) (locs : List Loc) (ls : Array Slot), LW D cA ad (fun q : Nat => s.heap.size ≤ q) [(a8, .inl (cA, w * h, .inl f8)), (a9, .inl (cA, w * h, .inl f9)), (a10, .inl (cZ, w * h, .inl f10))] s τ ρ πn H locs → lv_has ls 16 [(13, .int v), (12, .int (nI kind)), (11, .int (mt τ ρ π 14)), (10, .ref a10), (9, .ref a9), (8, .ref a8), (7, .int (mt τ ρ π 10)), (6, .int (mt τ ρ π 11)), (5, .int (mt τ ρ π 0)), (4, .int (cl xs L (nI (11 + t)))), (3, .int (nI t)), (2, .int (nI (w * h))), (1, .ref (ad 0)), (0, .ref b)] → W p l e room_1 s m #[Value.ref b] below meth c H locs (47 + 183 * t + 3) (2325 + 80108 * t + 108) Q (F0 m 342 ls []) := by
          intro H locs ls hL hl
          refine lv_iload hx hb dL_law_342 (lv_at hl 1 rfl) ?_
          refine lv_iconst (v := 4) hx hb dL_law_344 (by decide) ?_
          refine lv_icmp_ne (tgt := 362) hx hb dL_law_345 (by decide) (fun c345 => ?_) (fun c345 => ?_)
          · exact h362 H locs ls hL (lv_sub hl [0, 1, 2, 3, 4, 5, 6, 7, 8, 9, 10, 11, 12, 13] rfl)
          · refine lv_aload_n hx hb dL_law_348 rfl (lv_at hl 12 rfl) ?_
            refine lv_bipush (v := 14) hx hb dL_law_349 (by decide) ?_
            refine lr_metal (rest := []) F hDn (by decide) ⟨Nat.le_of_ble_eq_true rfl, Nat.le_of_ble_eq_true rfl⟩ ⟨hcA (by omega), hcS (by omega)⟩ hl.1 (Nat.le_of_ble_eq_true rfl) dL_law_351 hL (fun H locs hL => ?_)
            refine lv_iload hx hb dL_law_354 (lv_at hl 2 rfl) ?_
            refine lv_iload hx hb dL_law_356 (lv_at hl 0 rfl) ?_
            refine lv_iadd hx hb dL_law_358 ?_
            refine lv_icmp_ne (tgt := 434) hx hb dL_law_359 (by decide) (fun c_2 => absurd (q4 (nI_is (b := 4) hk8 (by decide) c345)) c_2) (fun c_2 => ?_)
            exact h362 H locs ls hL (lv_sub hl [0, 1, 2, 3, 4, 5, 6, 7, 8, 9, 10, 11, 12, 13] rfl)
        have h325 : ∀ (H : Heap) (locs : List Loc) (ls : Array Slot), LW D cA ad (fun q : Nat => s.heap.size ≤ q) [(a8, .inl (cA, w * h, .inl f8)), (a9, .inl (cA, w * h, .inl f9)), (a10, .inl (cZ, w * h, .inl f10))] s τ ρ πn H locs → lv_has ls 16 [(13, .int v), (12, .int (nI kind)), (11, .int (mt τ ρ π 14)), (10, .ref a10), (9, .ref a9), (8, .ref a8), (7, .int (mt τ ρ π 10)), (6, .int (mt τ ρ π 11)), (5, .int (mt τ ρ π 0)), (4, .int (cl xs L (nI (11 + t)))), (3, .int (nI t)), (2, .int (nI (w * h))), (1, .ref (ad 0)), (0, .ref b)] → W p l e room_1 s m #[Value.ref b] below meth c H locs (47 + 183 * t + 3) (2325 + 80108 * t + 108) Q (F0 m 325 ls []) := by
          intro H locs ls hL hl
          refine lv_iload hx hb dL_law_325 (lv_at hl 1 rfl) ?_
          refine lv_iconst (v := 3) hx hb dL_law_327 (by decide) ?_
          refine lv_icmp_ne (tgt := 342) hx hb dL_law_328 (by decide) (fun c328 => ?_) (fun c328 => ?_)
          · exact h342 H locs ls hL (lv_sub hl [0, 1, 2, 3, 4, 5, 6, 7, 8, 9, 10, 11, 12, 13] rfl)
          · refine lv_iload hx hb dL_law_331 (lv_at hl 0 rfl) ?_
            refine lv_aload_n hx hb dL_law_333 rfl (lv_at hl 12 rfl) ?_
            refine lv_bipush (v := 12) hx hb dL_law_334 (by decide) ?_
            refine lr_metal (rest := [.int v]) F hDn (by decide) ⟨Nat.le_of_ble_eq_true rfl, Nat.le_of_ble_eq_true rfl⟩ ⟨hcA (by omega), hcS (by omega)⟩ hl.1 (Nat.le_of_ble_eq_true rfl) dL_law_336 hL (fun H locs hL => ?_)
            refine lv_icmp_ne (tgt := 434) hx hb dL_law_339 (by decide) (fun c_2 => absurd (q3 (nI_is (b := 3) hk8 (by decide) c328)) c_2) (fun c_2 => ?_)
            exact h342 H locs ls hL (lv_sub hl [0, 1, 2, 3, 4, 5, 6, 7, 8, 9, 10, 11, 12, 13] rfl)
        refine lv_iload hx hb dL_law_304 (lv_at hl 0 rfl) ?_
        refine lv_if_lt (tgt := 434) hx hb dL_law_306 (by decide) (fun c_1 => absurd c_1 q0) (fun c_1 => ?_)
        refine lv_iload hx hb dL_law_309 (lv_at hl 1 rfl) ?_
        refine lv_iconst (v := 2) hx hb dL_law_311 (by decide) ?_
        refine lv_icmp_ne (tgt := 325) hx hb dL_law_312 (by decide) (fun c312 => ?_) (fun c312 => ?_)
        · exact h325 H locs ls hL (lv_sub hl [0, 1, 2, 3, 4, 5, 6, 7, 8, 9, 10, 11, 12, 13] rfl)
        · refine lv_aload_n hx hb dL_law_315 rfl (lv_at hl 12 rfl) ?_
          refine lv_iconst (v := 0) hx hb dL_law_316 (by decide) ?_
          refine lr_metal (rest := []) F hDn (by decide) ⟨Nat.le_of_ble_eq_true rfl, Nat.le_of_ble_eq_true rfl⟩ ⟨hcA (by omega), hcS (by omega)⟩ hl.1 (Nat.le_of_ble_eq_true rfl) dL_law_317 hL (fun H locs hL => ?_)
          refine lv_iload hx hb dL_law_320 (lv_at hl 8 rfl) ?_
          refine lv_icmp_gt (tgt := 434) hx hb dL_law_322 (by decide) (fun c_3 => absurd c_3 (q2 (nI_is (b := 2) hk8 (by decide) c312))) (fun c_3 => ?_)
          exact h325 H locs ls hL (lv_sub hl [0, 1, 2, 3, 4, 5, 6, 7, 8, 9, 10, 11, 12, 13] rfl)
      have hAct : ∀ (f10 : Nat → Int32) (H : Heap) (locs : List Loc) (ls : Array Slot), (∀ j, j < w * h → f10 j = hzb π j) → LW D cA ad (fun q : Nat => s.heap.size ≤ q) [(a8, .inl (cA, w * h, .inl f8)), (a9, .inl (cA, w * h, .inl f9)), (a10, .inl (cZ, w * h, .inl f10))] s τ ρ π H locs → lv_has ls 16 [(10, .ref a10), (9, .ref a9), (8, .ref a8), (7, .int (mt τ ρ π 10)), (6, .int (mt τ ρ π 11)), (5, .int (mt τ ρ π 0)), (4, .int (cl xs L (nI (11 + t)))), (3, .int (nI t)), (2, .int (nI (w * h))), (1, .ref (ad 0)), (0, .ref b)] → W p l e room_1 s m #[Value.ref b] below meth c H locs (47 + 183 * t + 3) (2325 + 80108 * t + 108) Q (F0 m 110 ls []) := by
        intro f10 H locs ls hf10 hL hl
        obtain ⟨kind, hk8, ekd⟩ := bl_at (cl xs L (nI (11 + t))) (n := 8) (by decide) (by decide)
        obtain ⟨a10h, b10h, c10h⟩ := bl_at ((cl xs L (nI (11 + t))) >>> (3 &&& 31)) (n := 10) (by decide) (by decide)
        obtain ⟨a20h, b20h, c20h⟩ := b1_at ((cl xs L (nI (11 + t))) >>> (3 &&& 31)) (n := 20) (by decide) (by decide)
        obtain ⟨a30h, b30h, c30h⟩ := b1_at ((cl xs L (nI (11 + t))) >>> (7 &&& 31)) (n := 30) (by decide) (by decide)
        obtain ⟨a5h, b5h, c5h⟩ := bl_at ((cl xs L (nI (11 + t))) >>> (3 &&& 31)) (n := 5) (by decide) (by decide)
        have hB : 36 + 300 * (t : Int) < 600000 := by omega
        refine lv_aload_n hx hb dL_law_110 rfl (lv_at hl 9 rfl) ?_
        refine lv_bipush (v := 14) hx hb dL_law_111 (by decide) ?_
        refine lr_metal (rest := []) F hD (by decide) ⟨Nat.le_of_ble_eq_true rfl, Nat.le_of_ble_eq_true rfl⟩ ⟨hcA (by omega), hcS (by omega)⟩ hl.1 (Nat.le_of_ble_eq_true rfl) dL_law_113 hL (fun H locs hL => ?_)
        refine lv_istore (lv' := [(11, .int (mt τ ρ π 14)), (10, .ref a10), (9, .ref a9), (8, .ref a8), (7, .int (mt τ ρ π 10)), (6, .int (mt τ ρ π 11)), (5, .int (mt τ ρ π 0)), (4, .int (cl xs L (nI (11 + t)))), (3, .int (nI t)), (2, .int (nI (w * h))), (1, .ref (ad 0)), (0, .ref b)]) hx hb dL_law_116 hl (by decide) rfl (fun ls hl => ?_)
        refine lv_iload hx hb dL_law_118 (lv_at hl 7 rfl) ?_
        refine lv_bipush (v := 8) hx hb dL_law_120 (by decide) ?_
        refine lr_below (rest := []) (n := 8) C hTs (by decide) (by decide) ⟨Nat.le_of_ble_eq_true rfl, Nat.le_of_ble_eq_true rfl⟩ ⟨hcA (by omega), hcS (by omega)⟩ hl.1 (Nat.le_of_ble_eq_true rfl) dL_law_122 ?_
        rw [ekd]
        refine lv_istore (lv' := [(12, .int (nI kind)), (11, .int (mt τ ρ π 14)), (10, .ref a10), (9, .ref a9), (8, .ref a8), (7, .int (mt τ ρ π 10)), (6, .int (mt τ ρ π 11)), (5, .int (mt τ ρ π 0)), (4, .int (cl xs L (nI (11 + t)))), (3, .int (nI t)), (2, .int (nI (w * h))), (1, .ref (ad 0)), (0, .ref b)]) hx hb dL_law_125 hl (by decide) rfl (fun ls hl => ?_)
        refine lv_iconst (v := 0) hx hb dL_law_127 (by decide) ?_
        refine lv_istore (lv' := [(13, .int 0), (12, .int (nI kind)), (11, .int (mt τ ρ π 14)), (10, .ref a10), (9, .ref a9), (8, .ref a8), (7, .int (mt τ ρ π 10)), (6, .int (mt τ ρ π 11)), (5, .int (mt τ ρ π 0)), (4, .int (cl xs L (nI (11 + t)))), (3, .int (nI t)), (2, .int (nI (w * h))), (1, .ref (ad 0)), (0, .ref b)]) hx hb dL_law_128 hl (by decide) rfl (fun ls hl => ?_)
        refine lv_iload hx hb dL_law_130 (lv_at hl 1 rfl) ?_
        rcases (show kind = 0 ∨ kind = 1 ∨ kind = 2 ∨ kind = 3 ∨ kind = 4 ∨ kind = 5 ∨ kind = 6 ∨ kind = 7 by omega) with rfl | rfl | rfl | rfl | rfl | rfl | rfl | rfl
        · refine lv_tableIn (tgt := 176) hx hb dL_law_132 (by decide) (by decide) (by rfl) (by decide) ?_
          refine lv_aload_n hx hb dL_law_176 rfl (lv_at hl 12 rfl) ?_
          refine lv_iload hx hb dL_law_177 (lv_at hl 9 rfl) ?_
          refine lv_iconst (v := 3) hx hb dL_law_179 (by decide) ?_
          refine lv_ishr hx hb dL_law_180 ?_
          refine lv_bipush (v := 10) hx hb dL_law_181 (by decide) ?_
          refine lr_below (rest := [.ref (ad 0)]) (n := 10) C hTs (by decide) (by decide) ⟨Nat.le_of_ble_eq_true rfl, Nat.le_of_ble_eq_true rfl⟩ ⟨hcA (by omega), hcS (by omega)⟩ hl.1 (Nat.le_of_ble_eq_true rfl) dL_law_183 ?_
          rw [c10h]
          refine lv_iconst (v := 1) hx hb dL_law_186 (by decide) ?_
          refine lr_heat (rest := []) F hD.2.1 (heat_in (by omega)) (by decide) ⟨Nat.le_of_ble_eq_true rfl, Nat.le_of_ble_eq_true rfl⟩ ⟨hcA (by omega), hcS (by omega)⟩ hl.1 (Nat.le_of_ble_eq_true rfl) dL_law_187 hL (fun H locs hL => ?_)
          refine lv_istore (lv' := [(13, .int (f7_heat τ ρ π (nI a10h) 1).1), (12, .int (nI 0)), (11, .int (mt τ ρ π 14)), (10, .ref a10), (9, .ref a9), (8, .ref a8), (7, .int (mt τ ρ π 10)), (6, .int (mt τ ρ π 11)), (5, .int (mt τ ρ π 0)), (4, .int (cl xs L (nI (11 + t)))), (3, .int (nI t)), (2, .int (nI (w * h))), (1, .ref (ad 0)), (0, .ref b)]) hx hb dL_law_190 hl (by decide) rfl (fun ls hl => ?_)
          refine lv_goto (tgt := 304) hx hb dL_law_192 (by decide) ?_
          exact hChk 0 _ _ f10 H locs ls (by decide) (act01 hD hB (a := a10h) (by omega) (kind := 0) (by decide)).2 (act01 hD hB (a := a10h) (by omega) (kind := 0) (by decide)).1 hf10 hL (lv_sub hl [0, 1, 2, 3, 4, 5, 6, 7, 8, 9, 10, 11, 12, 13] rfl)
        · refine lv_tableIn (tgt := 176) hx hb dL_law_132 (by decide) (by decide) (by rfl) (by decide) ?_
          refine lv_aload_n hx hb dL_law_176 rfl (lv_at hl 12 rfl) ?_
          refine lv_iload hx hb dL_law_177 (lv_at hl 9 rfl) ?_
          refine lv_iconst (v := 3) hx hb dL_law_179 (by decide) ?_
          refine lv_ishr hx hb dL_law_180 ?_
          refine lv_bipush (v := 10) hx hb dL_law_181 (by decide) ?_
          refine lr_below (rest := [.ref (ad 0)]) (n := 10) C hTs (by decide) (by decide) ⟨Nat.le_of_ble_eq_true rfl, Nat.le_of_ble_eq_true rfl⟩ ⟨hcA (by omega), hcS (by omega)⟩ hl.1 (Nat.le_of_ble_eq_true rfl) dL_law_183 ?_
          rw [c10h]
          refine lv_iconst (v := 1) hx hb dL_law_186 (by decide) ?_
          refine lr_heat (rest := []) F hD.2.1 (heat_in (by omega)) (by decide) ⟨Nat.le_of_ble_eq_true rfl, Nat.le_of_ble_eq_true rfl⟩ ⟨hcA (by omega), hcS (by omega)⟩ hl.1 (Nat.le_of_ble_eq_true rfl) dL_law_187 hL (fun H locs hL => ?_)
          refine lv_istore (lv' := [(13, .int (f7_heat τ ρ π (nI a10h) 1).1), (12, .int (nI 1)), (11, .int (mt τ ρ π 14)), (10, .ref a10), (9, .ref a9), (8, .ref a8), (7, .int (mt τ ρ π 10)), (6, .int (mt τ ρ π 11)), (5, .int (mt τ ρ π 0)), (4, .int (cl xs L (nI (11 + t)))), (3, .int (nI t)), (2, .int (nI (w * h))), (1, .ref (ad 0)), (0, .ref b)]) hx hb dL_law_190 hl (by decide) rfl (fun ls hl => ?_)
          refine lv_goto (tgt := 304) hx hb dL_law_192 (by decide) ?_
          exact hChk 1 _ _ f10 H locs ls (by decide) (act01 hD hB (a := a10h) (by omega) (kind := 1) (by decide)).2 (act01 hD hB (a := a10h) (by omega) (kind := 1) (by decide)).1 hf10 hL (lv_sub hl [0, 1, 2, 3, 4, 5, 6, 7, 8, 9, 10, 11, 12, 13] rfl)
        · refine lv_tableIn (tgt := 195) hx hb dL_law_132 (by decide) (by decide) (by rfl) (by decide) ?_
          refine lv_aload_n hx hb dL_law_195 rfl (lv_at hl 12 rfl) ?_
          refine lv_iconst (v := 0) hx hb dL_law_196 (by decide) ?_
          refine lv_iconst (v := 2) hx hb dL_law_197 (by decide) ?_
          refine lr_heat (rest := []) F hD.2.1 (by decide) (by decide) ⟨Nat.le_of_ble_eq_true rfl, Nat.le_of_ble_eq_true rfl⟩ ⟨hcA (by omega), hcS (by omega)⟩ hl.1 (Nat.le_of_ble_eq_true rfl) dL_law_198 hL (fun H locs hL => ?_)
          refine lv_istore (lv' := [(13, .int (f7_heat τ ρ π 0 2).1), (12, .int (nI 2)), (11, .int (mt τ ρ π 14)), (10, .ref a10), (9, .ref a9), (8, .ref a8), (7, .int (mt τ ρ π 10)), (6, .int (mt τ ρ π 11)), (5, .int (mt τ ρ π 0)), (4, .int (cl xs L (nI (11 + t)))), (3, .int (nI t)), (2, .int (nI (w * h))), (1, .ref (ad 0)), (0, .ref b)]) hx hb dL_law_201 hl (by decide) rfl (fun ls hl => ?_)
          refine lv_goto (tgt := 304) hx hb dL_law_203 (by decide) ?_
          exact hChk 2 _ _ f10 H locs ls (by decide) (act2 hD hB).2 (act2 hD hB).1 hf10 hL (lv_sub hl [0, 1, 2, 3, 4, 5, 6, 7, 8, 9, 10, 11, 12, 13] rfl)
        · refine lv_tableIn (tgt := 206) hx hb dL_law_132 (by decide) (by decide) (by rfl) (by decide) ?_
          refine lv_aload_n hx hb dL_law_206 rfl (lv_at hl 12 rfl) ?_
          refine lv_iconst (v := 1) hx hb dL_law_207 (by decide) ?_
          refine lr_roll (rest := []) F (by decide) ⟨Nat.le_of_ble_eq_true rfl, Nat.le_of_ble_eq_true rfl⟩ ⟨hcA (by omega), hcS (by omega)⟩ hl.1 (Nat.le_of_ble_eq_true rfl) dL_law_208 hL (fun H locs hL => ?_)
          refine lv_istore (lv' := [(13, .int (f7_roll τ π 1).1), (12, .int (nI 3)), (11, .int (mt τ ρ π 14)), (10, .ref a10), (9, .ref a9), (8, .ref a8), (7, .int (mt τ ρ π 10)), (6, .int (mt τ ρ π 11)), (5, .int (mt τ ρ π 0)), (4, .int (cl xs L (nI (11 + t)))), (3, .int (nI t)), (2, .int (nI (w * h))), (1, .ref (ad 0)), (0, .ref b)]) hx hb dL_law_211 hl (by decide) rfl (fun ls hl => ?_)
          refine lv_goto (tgt := 304) hx hb dL_law_213 (by decide) ?_
          exact hChk 3 _ _ f10 H locs ls (by decide) (act3 hD).2 (act3 hD).1 hf10 hL (lv_sub hl [0, 1, 2, 3, 4, 5, 6, 7, 8, 9, 10, 11, 12, 13] rfl)
        · refine lv_tableIn (tgt := 216) hx hb dL_law_132 (by decide) (by decide) (by rfl) (by decide) ?_
          refine lv_aload_n hx hb dL_law_216 rfl (lv_at hl 12 rfl) ?_
          refine lv_iconst (v := 1) hx hb dL_law_217 (by decide) ?_
          refine lv_iload hx hb dL_law_218 (lv_at hl 9 rfl) ?_
          refine lv_iconst (v := 3) hx hb dL_law_220 (by decide) ?_
          refine lv_ishr hx hb dL_law_221 ?_
          refine lv_bipush (v := 20) hx hb dL_law_222 (by decide) ?_
          refine lr_below (rest := [.int 1, .ref (ad 0)]) (n := 20) C hTs (by decide) (by decide) ⟨Nat.le_of_ble_eq_true rfl, Nat.le_of_ble_eq_true rfl⟩ ⟨hcA (by omega), hcS (by omega)⟩ hl.1 (Nat.le_of_ble_eq_true rfl) dL_law_224 ?_
          refine lv_iadd hx hb dL_law_227 ?_
          rw [c20h]
          refine lr_born (rest := []) F hD.2.1 (within_l a20h 1 20 (by rw [i1]; omega) (by rw [i20]; omega) (by omega)) ⟨Nat.le_of_ble_eq_true rfl, Nat.le_of_ble_eq_true rfl⟩ ⟨hcA (by omega), hcS (by omega)⟩ hl.1 (Nat.le_of_ble_eq_true rfl) dL_law_228 hL (fun H locs hL => ?_)
          refine lv_istore (lv' := [(13, .int (f7_born τ π (nI a20h)).1), (12, .int (nI 4)), (11, .int (mt τ ρ π 14)), (10, .ref a10), (9, .ref a9), (8, .ref a8), (7, .int (mt τ ρ π 10)), (6, .int (mt τ ρ π 11)), (5, .int (mt τ ρ π 0)), (4, .int (cl xs L (nI (11 + t)))), (3, .int (nI t)), (2, .int (nI (w * h))), (1, .ref (ad 0)), (0, .ref b)]) hx hb dL_law_231 hl (by decide) rfl (fun ls hl => ?_)
          refine lv_goto (tgt := 304) hx hb dL_law_233 (by decide) ?_
          exact hChk 4 _ _ f10 H locs ls (by decide) (act4 hD hB (a := a20h) (by omega)).2 (act4 hD hB (a := a20h) (by omega)).1 hf10 hL (lv_sub hl [0, 1, 2, 3, 4, 5, 6, 7, 8, 9, 10, 11, 12, 13] rfl)
        · refine lv_tableIn (tgt := 236) hx hb dL_law_132 (by decide) (by decide) (by rfl) (by decide) ?_
          refine lv_aload_n hx hb dL_law_236 rfl (lv_at hl 12 rfl) ?_
          refine lv_bipush (v := 9) hx hb dL_law_237 (by decide) ?_
          refine lv_iload hx hb dL_law_239 (lv_at hl 9 rfl) ?_
          refine lv_iconst (v := 3) hx hb dL_law_241 (by decide) ?_
          refine lv_ishr hx hb dL_law_242 ?_
          refine lv_bipush (v := 10) hx hb dL_law_243 (by decide) ?_
          refine lr_below (rest := [.int 9, .ref (ad 0)]) (n := 10) C hTs (by decide) (by decide) ⟨Nat.le_of_ble_eq_true rfl, Nat.le_of_ble_eq_true rfl⟩ ⟨hcA (by omega), hcS (by omega)⟩ hl.1 (Nat.le_of_ble_eq_true rfl) dL_law_245 ?_
          rw [c10h]
          refine lv_iconst (v := 1) hx hb dL_law_248 (by decide) ?_
          refine lv_iload hx hb dL_law_249 (lv_at hl 9 rfl) ?_
          refine lv_bipush (v := 7) hx hb dL_law_251 (by decide) ?_
          refine lv_ishr hx hb dL_law_253 ?_
          refine lv_bipush (v := 30) hx hb dL_law_254 (by decide) ?_
          refine lr_below (rest := [.int 1, .int (nI a10h), .int 9, .ref (ad 0)]) (n := 30) C hTs (by decide) (by decide) ⟨Nat.le_of_ble_eq_true rfl, Nat.le_of_ble_eq_true rfl⟩ ⟨hcA (by omega), hcS (by omega)⟩ hl.1 (Nat.le_of_ble_eq_true rfl) dL_law_256 ?_
          refine lv_iadd hx hb dL_law_259 ?_
          rw [c30h]
          refine lr_cool (rest := []) F (cooling_in (by omega)) (within_l a30h 1 50 (by rw [i1]; omega) (by rw [i50]; omega) (by omega)) ⟨Nat.le_of_ble_eq_true rfl, Nat.le_of_ble_eq_true rfl⟩ ⟨hcA (by omega), hcS (by omega)⟩ hl.1 (Nat.le_of_ble_eq_true rfl) dL_law_260 hL (fun H locs hL => ?_)
          refine lv_istore (lv' := [(13, .int (f7_cool τ ρ π 9 (nI a10h) (nI a30h)).1), (12, .int (nI 5)), (11, .int (mt τ ρ π 14)), (10, .ref a10), (9, .ref a9), (8, .ref a8), (7, .int (mt τ ρ π 10)), (6, .int (mt τ ρ π 11)), (5, .int (mt τ ρ π 0)), (4, .int (cl xs L (nI (11 + t)))), (3, .int (nI t)), (2, .int (nI (w * h))), (1, .ref (ad 0)), (0, .ref b)]) hx hb dL_law_263 hl (by decide) rfl (fun ls hl => ?_)
          refine lv_goto (tgt := 304) hx hb dL_law_265 (by decide) ?_
          exact hChk 5 _ _ f10 H locs ls (by decide) (act5 hD (a := a10h) (t := a30h) (by omega) (by omega)).2 (act5 hD (a := a10h) (t := a30h) (by omega) (by omega)).1 hf10 hL (lv_sub hl [0, 1, 2, 3, 4, 5, 6, 7, 8, 9, 10, 11, 12, 13] rfl)
        · refine lv_tableIn (tgt := 268) hx hb dL_law_132 (by decide) (by decide) (by rfl) (by decide) ?_
          refine lv_iload hx hb dL_law_268 (lv_at hl 9 rfl) ?_
          refine lv_iconst (v := 3) hx hb dL_law_270 (by decide) ?_
          refine lv_ishr hx hb dL_law_271 ?_
          refine lv_iconst (v := 3) hx hb dL_law_272 (by decide) ?_
          refine lr_below (rest := []) (n := 3) C hTs (by decide) (by decide) ⟨Nat.le_of_ble_eq_true rfl, Nat.le_of_ble_eq_true rfl⟩ ⟨hcA (by omega), hcS (by omega)⟩ hl.1 (Nat.le_of_ble_eq_true rfl) dL_law_273 ?_
          refine lv_if_ne (tgt := 304) hx hb dL_law_276 (by decide) (fun c276 => ?_) (fun c276 => ?_)
          · exact hChk 6 0 π f10 H locs ls (by decide) (by rw [i0]; exact (act6n hD).2) (act6n hD).1 hf10 hL (lv_sub hl [0, 1, 2, 3, 4, 5, 6, 7, 8, 9, 10, 11, 12, 13] rfl)
          · refine lv_aload_n hx hb dL_law_279 rfl (lv_at hl 12 rfl) ?_
            refine lr_soften (rest := []) F ⟨Nat.le_of_ble_eq_true rfl, Nat.le_of_ble_eq_true rfl⟩ ⟨hcA (by omega), hcS (by omega)⟩ hl.1 (Nat.le_of_ble_eq_true rfl) dL_law_280 hL (fun H locs hL => ?_)
            refine lv_istore (lv' := [(13, .int (f7_soften τ π).1), (12, .int (nI 6)), (11, .int (mt τ ρ π 14)), (10, .ref a10), (9, .ref a9), (8, .ref a8), (7, .int (mt τ ρ π 10)), (6, .int (mt τ ρ π 11)), (5, .int (mt τ ρ π 0)), (4, .int (cl xs L (nI (11 + t)))), (3, .int (nI t)), (2, .int (nI (w * h))), (1, .ref (ad 0)), (0, .ref b)]) hx hb dL_law_283 hl (by decide) rfl (fun ls hl => ?_)
            refine lv_goto (tgt := 304) hx hb dL_law_285 (by decide) ?_
            exact hChk 6 _ _ f10 H locs ls (by decide) (act6 hD).2 (act6 hD).1 hf10 hL (lv_sub hl [0, 1, 2, 3, 4, 5, 6, 7, 8, 9, 10, 11, 12, 13] rfl)
        · refine lv_tableOut (tgt := 288) hx hb dL_law_132 (by decide) (by decide) ?_
          refine lv_aload_n hx hb dL_law_288 rfl (lv_at hl 12 rfl) ?_
          refine lv_iconst (v := 1) hx hb dL_law_289 (by decide) ?_
          refine lv_iload hx hb dL_law_290 (lv_at hl 9 rfl) ?_
          refine lv_iconst (v := 3) hx hb dL_law_292 (by decide) ?_
          refine lv_ishr hx hb dL_law_293 ?_
          refine lv_iconst (v := 5) hx hb dL_law_294 (by decide) ?_
          refine lr_below (rest := [.int 1, .ref (ad 0)]) (n := 5) C hTs (by decide) (by decide) ⟨Nat.le_of_ble_eq_true rfl, Nat.le_of_ble_eq_true rfl⟩ ⟨hcA (by omega), hcS (by omega)⟩ hl.1 (Nat.le_of_ble_eq_true rfl) dL_law_295 ?_
          refine lv_iadd hx hb dL_law_298 ?_
          rw [c5h, show (1 : Int32) + nI a5h = nI (1 + a5h) from by rw [← nIa, nI_one]]
          refine lr_furnace (rest := []) F hD hB b5h ⟨Nat.le_of_ble_eq_true rfl, Nat.le_of_ble_eq_true rfl⟩ ⟨hcA (by omega), hcS (by omega)⟩ hl.1 (Nat.le_of_ble_eq_true rfl) dL_law_299 hL (fun H locs hL => ?_)
          refine lv_istore (lv' := [(13, .int (fuR τ ρ π a5h)), (12, .int (nI 7)), (11, .int (mt τ ρ π 14)), (10, .ref a10), (9, .ref a9), (8, .ref a8), (7, .int (mt τ ρ π 10)), (6, .int (mt τ ρ π 11)), (5, .int (mt τ ρ π 0)), (4, .int (cl xs L (nI (11 + t)))), (3, .int (nI t)), (2, .int (nI (w * h))), (1, .ref (ad 0)), (0, .ref b)]) hx hb dL_law_302 hl (by decide) rfl (fun ls hl => ?_)
          exact hChk 7 _ _ f10 H locs ls (by decide) (act7 hD hB b5h).2 (act7 hD hB b5h).1 hf10 hL (lv_sub hl [0, 1, 2, 3, 4, 5, 6, 7, 8, 9, 10, 11, 12, 13] rfl)
      have hHard : ∀ (d k : Nat), k + d = w * h → ∀ (f10 : Nat → Int32) (H : Heap) (locs : List Loc) (ls : Array Slot), (∀ j, j < k → f10 j = hzb π j) → LW D cA ad (fun q : Nat => s.heap.size ≤ q) [(a8, .inl (cA, w * h, .inl f8)), (a9, .inl (cA, w * h, .inl f9)), (a10, .inl (cZ, w * h, .inl f10))] s τ ρ π H locs → lv_has ls 16 [(11, .int (nI k)), (10, .ref a10), (9, .ref a9), (8, .ref a8), (7, .int (mt τ ρ π 10)), (6, .int (mt τ ρ π 11)), (5, .int (mt τ ρ π 0)), (4, .int (cl xs L (nI (11 + t)))), (3, .int (nI t)), (2, .int (nI (w * h))), (1, .ref (ad 0)), (0, .ref b)] → W p l e room_1 s m #[Value.ref b] below meth c H locs (47 + 183 * t + 3) (2325 + 80108 * t + 108) Q (F0 m 77 ls []) := by
        intro d
        induction d with
        | zero =>
          intro k hk f10 H locs ls hf10 hL hl
          have ek : k = w * h := by omega
          subst ek
          refine lv_iload hx hb dL_law_77 (lv_at hl 0 rfl) ?_
          refine lv_iload_n hx hb dL_law_79 rfl (lv_at hl 9 rfl) ?_
          refine lv_icmp_ge (tgt := 110) hx hb dL_law_80 (by decide) (fun c_1 => ?_) (fun c_1 => absurd (nI_le (Nat.le_refl _) (by omega)) c_1)
          exact hAct f10 H locs ls hf10 hL (lv_sub hl [1, 2, 3, 4, 5, 6, 7, 8, 9, 10, 11] rfl)
        | succ d ihh =>
          intro k hk f10 H locs ls hf10 hL hl
          have hkn : k < w * h := by omega
          have h103 : ∀ (z : Int32) (H : Heap) (locs : List Loc) (ls : Array Slot), z = hzb π k → LW D cA ad (fun q : Nat => s.heap.size ≤ q) [(a8, .inl (cA, w * h, .inl f8)), (a9, .inl (cA, w * h, .inl f9)), (a10, .inl (cZ, w * h, .inl f10))] s τ ρ π H locs → lv_has ls 16 [(11, .int (nI k)), (10, .ref a10), (9, .ref a9), (8, .ref a8), (7, .int (mt τ ρ π 10)), (6, .int (mt τ ρ π 11)), (5, .int (mt τ ρ π 0)), (4, .int (cl xs L (nI (11 + t)))), (3, .int (nI t)), (2, .int (nI (w * h))), (1, .ref (ad 0)), (0, .ref b)] → W p l e room_1 s m #[Value.ref b] below meth c H locs (47 + 183 * t + 3) (2325 + 80108 * t + 108) Q (F0 m 103 ls [.int z, .int (nI k), .ref a10]) := by
            intro z H locs ls hz hL hl
            refine lr_zast (rest := []) F hKz 2 rfl (nI_in hkn (by omega)) dL_law_103 hL (fun H locs hL => ?_)
            rw [nI_cl (by omega), hz, hzb_nar] at hL
            refine lv_iinc (v := nI (k + 1)) (lv' := [(11, .int (nI (k + 1))), (10, .ref a10), (9, .ref a9), (8, .ref a8), (7, .int (mt τ ρ π 10)), (6, .int (mt τ ρ π 11)), (5, .int (mt τ ρ π 0)), (4, .int (cl xs L (nI (11 + t)))), (3, .int (nI t)), (2, .int (nI (w * h))), (1, .ref (ad 0)), (0, .ref b)]) hx hb dL_law_104 hl (k := 0) rfl (nI_succ _).symm (by decide) rfl (fun ls hl => ?_)
            refine lv_goto (tgt := 77) hx hb dL_law_107 (by decide) ?_
            refine ihh (k + 1) (by omega) _ H locs ls (fun j hj => ?_) hL (lv_sub hl [0, 1, 2, 3, 4, 5, 6, 7, 8, 9, 10, 11] rfl)
            unfold upd
            by_cases e : j = k
            · rw [if_pos e, e]
            · rw [if_neg e]; exact hf10 j (by omega)
          refine lv_iload hx hb dL_law_77 (lv_at hl 0 rfl) ?_
          refine lv_iload_n hx hb dL_law_79 rfl (lv_at hl 9 rfl) ?_
          refine lv_icmp_ge (tgt := 110) hx hb dL_law_80 (by decide) (fun c_1 => absurd c_1 (nI_ge hkn (by omega))) (fun c_1 => ?_)
          refine lv_aload hx hb dL_law_83 (lv_at hl 1 rfl) ?_
          refine lv_iload hx hb dL_law_85 (lv_at hl 0 rfl) ?_
          refine lv_aload_n hx hb dL_law_87 rfl (lv_at hl 10 rfl) ?_
          refine lv_iload hx hb dL_law_88 (lv_at hl 0 rfl) ?_
          refine lv_iconst (v := 2) hx hb dL_law_90 (by decide) ?_
          refine lr_cell (rest := [.int (nI k), .ref a10]) F hD (holds_ne hD.1 hkn) (by decide) ⟨Nat.le_of_ble_eq_true rfl, Nat.le_of_ble_eq_true rfl⟩ ⟨hcA (by omega), hcS (by omega)⟩ hl.1 (Nat.le_of_ble_eq_true rfl) dL_law_91 hL (fun H locs hL => ?_)
          rw [oc_2 (by omega)]
          refine lv_iconst (v := 1) hx hb dL_law_94 (by decide) ?_
          refine lv_icmp_ne (tgt := 102) hx hb dL_law_95 (by decide) (fun c95 => ?_) (fun c95 => ?_)
          · refine lv_iconst (v := 0) hx hb dL_law_102 (by decide) ?_
            exact h103 0 H locs ls (by unfold hzb; rw [if_neg c95]) hL (lv_sub hl [0, 1, 2, 3, 4, 5, 6, 7, 8, 9, 10, 11] rfl)
          · refine lv_iconst (v := 1) hx hb dL_law_98 (by decide) ?_
            refine lv_goto (tgt := 103) hx hb dL_law_99 (by decide) ?_
            exact h103 1 H locs ls (by unfold hzb; rw [if_pos c95]) hL (lv_sub hl [0, 1, 2, 3, 4, 5, 6, 7, 8, 9, 10, 11] rfl)
      exact hHard (w * h) 0 (by omega) (fun _ => 0) H locs ls (fun j hj => absurd hj (Nat.not_lt_zero _)) hL (lv_sub hl [0, 1, 2, 3, 4, 5, 6, 7, 8, 9, 10, 11] (by rw [nI_0]; rfl))
  refine lv_astore_n (lv' := [(1, .ref (ad 0)), (0, .ref b)]) hx hb dL_law_6 rfl hl (by decide) rfl (fun ls hl => ?_)
  refine lv_aload_n hx hb dL_law_7 rfl (lv_at hl 0 rfl) ?_
  refine lv_bipush (v := 13) hx hb dL_law_8 (by decide) ?_
  refine lr_metal (rest := []) F hD (by decide) ⟨Nat.le_of_ble_eq_true rfl, Nat.le_of_ble_eq_true rfl⟩ ⟨hcA (by omega), hcS (by omega)⟩ hl.1 (Nat.le_of_ble_eq_true rfl) dL_law_10 hL (fun H locs hL => ?_)
  rw [mt_13 hD]
  refine lv_istore_n (lv' := [(2, .int (nI (w * h))), (1, .ref (ad 0)), (0, .ref b)]) hx hb dL_law_13 rfl hl (by decide) rfl (fun ls hl => ?_)
  refine lv_iconst (v := 0) hx hb dL_law_14 (by decide) ?_
  refine lv_istore_n (lv' := [(3, .int 0), (2, .int (nI (w * h))), (1, .ref (ad 0)), (0, .ref b)]) hx hb dL_law_15 rfl hl (by decide) rfl (fun ls hl => ?_)
  exact hTurn 12 0 (by omega) π H locs ls hD hL (lv_sub hl [0, 1, 2, 3] (by rw [nI_0]; rfl))

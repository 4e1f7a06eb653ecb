/-! THE LAW'S HELPERS, further: wide, high, told -/
set_option maxHeartbeats 4000000 in
set_option maxRecDepth 100000 in
theorem kL_wide (l : Launch) (D : va_G) (cA cB : ClassId) (ad : Nat → Nat) (had : Apart ad) {τ ρ π : Sg} {w h : Nat} {B : Int} (hD : Gd w h B τ ρ π) (sz : Nat) : Met l yL_wide (wM yL_wide cL_wide 1 (some .int)) ({ frames := 7, cells := 0, slots := 0, locals := 170 }) (va_Pc [.ref (ad 0)] (pZ D cA cB ad τ ρ π sz)) (qZ D cA ad τ ρ π sz (nI w)) 0 0 (aL ad sz) := by
  refine lh_of (by decide) (Nat.le_of_ble_eq_true rfl) ?_
  intro p e s m below meth c ls C hr hlk hZ hl
  obtain ⟨hsz, hP, hK, hN, hcl, hZ0⟩ := hZ
  subst hsz
  obtain ⟨hx, hb, hml, hown, hts⟩ := id C
  have htA : ∀ w ∈ wA, w.before ([.ref (ad 0)] : List Value).toArray s = true := fun w h => hts w (List.mem_cons_of_mem _ h)
  have hl : lv_has ls 1 [(0, .ref (ad 0))] := hl
  have F : LF p m c cL_wide 1 s ([.ref (ad 0)] : List Value).toArray (wM yL_wide cL_wide 1 (some .int)) D cA cB ad (aL ad s.heap.size) := ⟨C, fun w h => List.mem_cons_of_mem _ h, hK, hN, hcl, hZ0, had, fun q h => Or.inl h, fun q h => Or.inr h⟩
  have hL : LW D cA ad (aL ad s.heap.size) [] s τ ρ π s.heap [] := ⟨hP, fun k q h => by simp at h, ⟨fun i j x y h => by simp at h, fun k q h => by simp at h⟩, fun k q h => by simp at h, va_S.rf⟩
  refine lv_aload_n hx hb dL_wide_0 rfl (lv_at hl 0 rfl) ?_
  refine lv_iconst (v := 0) hx hb dL_wide_1 (by decide) ?_
  refine lv_iconst (v := 0) hx hb dL_wide_2 (by decide) ?_
  refine lr_wide (rest := []) F hD ⟨Nat.le_of_ble_eq_true rfl, Nat.le_of_ble_eq_true rfl⟩ ⟨Nat.le_of_ble_eq_true rfl, Nat.le_of_ble_eq_true rfl⟩ hl.1 (Nat.le_of_ble_eq_true rfl) dL_wide_3 hL (fun H locs hL => ?_)
  exact W.iret hx hb hr (fun t ht _ => ⟨rfl, by rw [ht]; exact hL.1, hL.2.2.2.2.F ht⟩) hL.2.2.2.2.2.2 dL_wide_6 hlk
set_option maxHeartbeats 4000000 in
set_option maxRecDepth 100000 in
theorem kL_high (l : Launch) (D : va_G) (cA cB : ClassId) (ad : Nat → Nat) (had : Apart ad) {τ ρ π : Sg} {w h : Nat} {B : Int} (hD : Gd w h B τ ρ π) (sz : Nat) : Met l yL_high (wM yL_high cL_high 1 (some .int)) ({ frames := 7, cells := 0, slots := 0, locals := 170 }) (va_Pc [.ref (ad 0)] (pZ D cA cB ad τ ρ π sz)) (qZ D cA ad τ ρ π sz (nI h)) 0 0 (aL ad sz) := by
  refine lh_of (by decide) (Nat.le_of_ble_eq_true rfl) ?_
  intro p e s m below meth c ls C hr hlk hZ hl
  obtain ⟨hsz, hP, hK, hN, hcl, hZ0⟩ := hZ
  subst hsz
  obtain ⟨hx, hb, hml, hown, hts⟩ := id C
  have htA : ∀ w ∈ wA, w.before ([.ref (ad 0)] : List Value).toArray s = true := fun w h => hts w (List.mem_cons_of_mem _ h)
  have hl : lv_has ls 1 [(0, .ref (ad 0))] := hl
  have F : LF p m c cL_high 1 s ([.ref (ad 0)] : List Value).toArray (wM yL_high cL_high 1 (some .int)) D cA cB ad (aL ad s.heap.size) := ⟨C, fun w h => List.mem_cons_of_mem _ h, hK, hN, hcl, hZ0, had, fun q h => Or.inl h, fun q h => Or.inr h⟩
  have hL : LW D cA ad (aL ad s.heap.size) [] s τ ρ π s.heap [] := ⟨hP, fun k q h => by simp at h, ⟨fun i j x y h => by simp at h, fun k q h => by simp at h⟩, fun k q h => by simp at h, va_S.rf⟩
  have w6 := hD.1.2.2.2.1
  refine lv_aload_n hx hb dL_high_0 rfl (lv_at hl 0 rfl) ?_
  refine lv_bipush (v := 13) hx hb dL_high_1 (by decide) ?_
  refine lr_metal (rest := []) F hD (by decide) ⟨Nat.le_of_ble_eq_true rfl, Nat.le_of_ble_eq_true rfl⟩ ⟨Nat.le_of_ble_eq_true rfl, Nat.le_of_ble_eq_true rfl⟩ hl.1 (Nat.le_of_ble_eq_true rfl) dL_high_3 hL (fun H locs hL => ?_)
  refine lv_aload_n hx hb dL_high_6 rfl (lv_at hl 0 rfl) ?_
  refine lv_iconst (v := 0) hx hb dL_high_7 (by decide) ?_
  refine lv_iconst (v := 0) hx hb dL_high_8 (by decide) ?_
  refine lr_wide (rest := [.int (mt τ ρ π 13)]) F hD ⟨Nat.le_of_ble_eq_true rfl, Nat.le_of_ble_eq_true rfl⟩ ⟨Nat.le_of_ble_eq_true rfl, Nat.le_of_ble_eq_true rfl⟩ hl.1 (Nat.le_of_ble_eq_true rfl) dL_high_9 hL (fun H locs hL => ?_)
  refine lv_idiv hx hb dL_high_12 (nI_ne0 (by omega) (by omega)) ?_
  rw [mt_13 hD, high_val hD]
  exact W.iret hx hb hr (fun t ht _ => ⟨rfl, by rw [ht]; exact hL.1, hL.2.2.2.2.F ht⟩) hL.2.2.2.2.2.2 dL_high_13 hlk
set_option maxHeartbeats 4000000 in
set_option maxRecDepth 100000 in
theorem kL_told (l : Launch) (D : va_G) (cA cB : ClassId) (ad : Nat → Nat) (had : Apart ad) {τ ρ π : Sg} {w h : Nat} {B : Int} (hD : Gd w h B τ ρ π) {k9 : Int32} (hk9 : ¬ f7_isWithin k9 0 5 = 0) (sz : Nat) : Met l yL_told (wM yL_told cL_told 4 (some (.array .int))) ({ frames := 7, cells := 1, slots := 36, locals := 170 }) (va_Pc [.ref (ad 0), .int k9] (pZ D cA cB ad τ ρ π sz)) (qR D cA ad τ ρ π sz (w * h) (fun j => oc τ ρ π (nI j) k9)) 1 36 (aL ad sz) := by
  refine lh_of (by decide) (Nat.le_of_ble_eq_true rfl) ?_
  intro p e s m below meth c ls C hr hlk hZ hl
  obtain ⟨hsz, hP, hK, hN, hcl, hZ0⟩ := hZ
  subst hsz
  obtain ⟨hx, hb, hml, hown, hts⟩ := id C
  have htA : ∀ w ∈ wA, w.before ([.ref (ad 0), .int k9] : List Value).toArray s = true := fun w h => hts w (List.mem_cons_of_mem _ h)
  have hl : lv_has ls 4 [(0, .ref (ad 0)), (1, .int k9)] := hl
  have F : LF p m c cL_told 4 s ([.ref (ad 0), .int k9] : List Value).toArray (wM yL_told cL_told 4 (some (.array .int))) D cA cB ad (aL ad s.heap.size) := ⟨C, fun w h => List.mem_cons_of_mem _ h, hK, hN, hcl, hZ0, had, fun q h => Or.inl h, fun q h => Or.inr h⟩
  have hL : LW D cA ad (aL ad s.heap.size) [] s τ ρ π s.heap [] := ⟨hP, fun k q h => by simp at h, ⟨fun i j x y h => by simp at h, fun k q h => by simp at h⟩, fun k q h => by simp at h, va_S.rf⟩
  have h36 := hD.1.n36
  have hLoop : ∀ (d k a : Nat) (f : Nat → Int32) (H : Heap) (locs : List Loc) (ls : Array Slot), k + d = w * h → s.heap.size ≤ a → (∀ j, j < k → f j = oc τ ρ π (nI j) k9) → LW D cA ad (aL ad s.heap.size) [(a, .inl (cA, w * h, .inl f))] s τ ρ π H locs → lv_has ls 4 [(3, .int (nI k)), (2, .ref a), (0, .ref (ad 0)), (1, .int k9)] → W p l e ({ frames := 7, cells := 1, slots := 36, locals := 170 }) s m ([.ref (ad 0), .int k9] : List Value).toArray below meth c H locs 1 36 (MQ below (qR D cA ad τ ρ π s.heap.size (w * h) (fun j => oc τ ρ π (nI j) k9)) ([.ref (ad 0), .int k9] : List Value).toArray s 1 36 (aL ad s.heap.size)) (F0 m 11 ls []) := by
    intro d
    induction d with
    | zero =>
      intro k a f H locs ls hk ha hf hL hl
      have ek : k = w * h := by omega
      subst ek
      refine lv_iload_n hx hb dL_told_11 rfl (lv_at hl 0 rfl) ?_
      refine lv_aload_n hx hb dL_told_12 rfl (lv_at hl 1 rfl) ?_
      refine va_alen hx hb F.Ki hL.2.1 0 0 rfl rfl (v := nI (w * h)) rfl dL_told_13 ?_
      refine lv_icmp_ge (tgt := 32) hx hb dL_told_14 (by decide) (fun c_1 => ?_) (fun c_1 => absurd (nI_le (Nat.le_refl _) (by omega)) c_1)
      refine lv_aload_n hx hb dL_told_32 rfl (lv_at hl 1 rfl) ?_
      exact W.aret hx hb hr (Or.inr ⟨_, rfl⟩) (Or.inr ⟨_, rfl⟩) (fun t ht _ => ⟨a, f, rfl, by rw [ht]; exact hL.1, by rw [ht]; exact hL.2.1, ha, hf, hL.2.2.2.2.F ht⟩) hL.2.2.2.2.2.2 dL_told_33 hlk
    | succ d ih =>
      intro k a f H locs ls hk ha hf hL hl
      have hkn : k < w * h := by omega
      refine lv_iload_n hx hb dL_told_11 rfl (lv_at hl 0 rfl) ?_
      refine lv_aload_n hx hb dL_told_12 rfl (lv_at hl 1 rfl) ?_
      refine va_alen hx hb F.Ki hL.2.1 0 0 rfl rfl (v := nI (w * h)) rfl dL_told_13 ?_
      refine lv_icmp_ge (tgt := 32) hx hb dL_told_14 (by decide) (fun c_1 => absurd c_1 (nI_ge hkn (by omega))) (fun c_1 => ?_)
      refine lv_aload_n hx hb dL_told_17 rfl (lv_at hl 1 rfl) ?_
      refine lv_iload_n hx hb dL_told_18 rfl (lv_at hl 0 rfl) ?_
      refine lv_aload_n hx hb dL_told_19 rfl (lv_at hl 2 rfl) ?_
      refine lv_iload_n hx hb dL_told_20 rfl (lv_at hl 0 rfl) ?_
      refine lv_iload_n hx hb dL_told_21 rfl (lv_at hl 3 rfl) ?_
      refine lr_cell (rest := [.int (nI k), .ref a]) F hD (holds_ne hD.1 hkn) hk9 ⟨Nat.le_of_ble_eq_true rfl, Nat.le_of_ble_eq_true rfl⟩ ⟨Nat.le_of_ble_eq_true rfl, Nat.le_of_ble_eq_true rfl⟩ hl.1 (Nat.le_of_ble_eq_true rfl) dL_told_22 hL (fun H locs hL => ?_)
      refine lr_iast (rest := []) F 0 rfl (nI_in hkn (by omega)) dL_told_25 hL (fun H locs hL => ?_)
      rw [nI_cl (by omega)] at hL
      refine lv_iinc (v := nI (k + 1)) (lv' := [(3, .int (nI (k + 1))), (2, .ref a), (0, .ref (ad 0)), (1, .int k9)]) hx hb dL_told_26 hl (k := 0) rfl (nI_succ _).symm (by decide) rfl (fun ls hl => ?_)
      refine lv_goto (tgt := 11) hx hb dL_told_29 (by decide) ?_
      refine ih (k + 1) a _ H locs ls (by omega) ha (fun j hj => ?_) hL (lv_sub hl [0, 1, 2, 3] rfl)
      unfold upd
      by_cases e : j = k
      · rw [if_pos e, e]
      · rw [if_neg e]; exact hf j (by omega)
  refine lv_aload_n hx hb dL_told_0 rfl (lv_at hl 0 rfl) ?_
  refine lv_bipush (v := 13) hx hb dL_told_1 (by decide) ?_
  refine lr_metal (rest := []) F hD (by decide) ⟨Nat.le_of_ble_eq_true rfl, Nat.le_of_ble_eq_true rfl⟩ ⟨Nat.le_of_ble_eq_true rfl, Nat.le_of_ble_eq_true rfl⟩ hl.1 (Nat.le_of_ble_eq_true rfl) dL_told_3 hL (fun H locs hL => ?_)
  rw [mt_13 hD]
  refine lr_newi (rest := []) F (htA _ kw_42) (nI_pos (by omega)) (nI_cl (by omega)) (by omega) (Nat.le_of_ble_eq_true rfl) (by show 0 + w * h ≤ 36; omega) dL_told_6 hL (fun a H locs hL _ ha => ?_)
  refine W.widen (k := 1) (n := 36) (by omega) (by omega) ?_
  refine lv_astore_n (lv' := [(2, .ref a), (0, .ref (ad 0)), (1, .int k9)]) hx hb dL_told_8 rfl hl (by decide) rfl (fun ls hl => ?_)
  refine lv_iconst (v := 0) hx hb dL_told_9 (by decide) ?_
  refine lv_istore_n (lv' := [(3, .int 0), (2, .ref a), (0, .ref (ad 0)), (1, .int k9)]) hx hb dL_told_10 rfl hl (by decide) rfl (fun ls hl => ?_)
  exact hLoop (w * h) 0 a (fun _ => 0) H locs ls (by omega) ha (fun j hj => absurd hj (Nat.not_lt_zero _)) hL (lv_sub hl [0, 1, 2, 3] (by rw [nI_0]; rfl))

/-! THE CONSTRUCTORS -/
def pI (D : va_G) (cA : ClassId) (ws : va_W) (sz : Nat) (U : State) : Prop := U.heap.size = sz ∧ va_P D vwCl ws U.heap ∧ va_K D vwCl [(cA, .int)] U ∧ va_D (fun _ => True) ws
def pIN (D : va_G) (cA : ClassId) (ws : va_W) (sz : Nat) (U : State) : Prop := U.heap.size = sz ∧ va_P D vwCl ws U.heap ∧ va_K D vwCl [(cA, .int)] U ∧ va_D (fun _ => True) ws ∧ va_Nw (Cond.methodLinkNest RX7 11 yX5_init RX7) U
theorem pI_blind {D : va_G} {cA : ClassId} {ws : va_W} {sz : Nat} {As : List Value} : FrameBlind (va_Pc As (pI D cA ws sz)) := fun a U g mk q => by
  obtain ⟨q0, q1, qP, qK, qD⟩ := q
  exact ⟨q0, q1, qP, va_K.moved (u := U) (U := U.calling g mk a) (Vm.Alike.refl U.vm) qK, qD⟩
theorem sy_goodI {y y0 : MethodName} {cc0 bytes : ByteArray} {n0 maxL : Nat} {r0 ret : Option FieldType} (k5 : Cond.code y bytes maxL ret ∈ wA) : GoodIn (wM y0 cc0 n0 r0) (wM y bytes maxL ret) := by
  intro w hw
  have h : w ∈ wA := by
    rcases List.mem_cons.mp hw with rfl | h
    · exact k5
    · exact h
  exact ⟨List.mem_cons_of_mem _ h, good_of_word (wA_ok h)⟩
section CTR
variable {p : Program} {l : Launch} {e : Env} {R : Room} {s : State} {m : MethodId} {args : Array Value} {below : List Frame} {meth : Method} {c : Code} {H : Heap} {locs : List Loc} {cells slots : Nat} {Q : State → Prop}
variable {cc : ByteArray} {pc : Nat} {ls : Array Slot} {rest : List Value}
variable {D : va_G} {cA : ClassId}
/-- a new row of ints: its class is the one that is known -/
theorem ct_newa {A : Nat → Prop} {H0 : Heap} {ws : va_W} {n : Int32} {N' : Nat} (hx : p.tables.exec = Jvm.exec) (hb : c.code = cc) (harr : (Cond.arrayClass .int).before args s = true) (hK : va_K D vwCl [(cA, .int)] s) (hP : va_P D vwCl ws H) (hD : va_D A ws) (hS : va_S A H0 H locs) (hA : ∀ q, H0.size ≤ q → A q)
    (hn : ¬ n < 0) (hN : n.toNatClampNeg = N') (hbytes : N' * componentBytes .int ≤ 536870912) (hcells : cells + 1 ≤ R.cells) (hslots : slots + N' ≤ R.slots) (hd : decode cc pc = .ok (.newarray .int, 2))
    (kk : ∀ (q : Nat) (H1 : Heap), va_P D vwCl (ws ++ [(q, .inl (cA, N', .inl (fun _ => 0)))]) H1 → va_D A (ws ++ [(q, .inl (cA, N', .inl (fun _ => 0)))]) → va_S A H0 H1 locs →
      W p l e R s m args below meth c H1 locs (cells + 1) (slots + N') Q (F0 m (pc + 2) ls (.ref q :: rest))) : W p l e R s m args below meth c H locs cells slots Q (F0 m pc ls (.int n :: rest)) := by
  refine va_newa (atype := .int) (ty := .int) (a0 := (N', .inl (fun _ => 0))) hx hb harr rfl hK hP hD hS hA (fun _ => rfl) hn hN hbytes hcells hslots hd (fun q cA' H1 hK' hP' hD' hS' => ?_)
  have e1 := (hK'.2 1 (cA', .int) rfl).2
  have e2 := (hK.2 0 (cA, .int) rfl).2
  have e3 : cA' = cA := Option.some.inj (Eq.trans (Eq.symm e1) e2)
  subst e3
  exact kk q H1 hP' hD' hS'
end CTR

theorem hdI_X5_init : yX5_init.cls = yX5_init.cls ∧ yX5_init.cls ≠ "java/lang/invoke/MethodHandle" ∧ yX5_init.cls ≠ "java/lang/invoke/VarHandle" ∧ (parseMethodDescriptor yX5_init.desc).map (fun d => d.parameters.length) = some 0 := by decide +kernel
set_option maxHeartbeats 4000000 in
set_option maxRecDepth 100000 in
theorem k5_init (l : Launch) (D : va_G) (cA : ClassId) (h0 : Nat) (sz : Nat) : Met l yX5_init (wM yX5_init cX5_init 1 none) ({ frames := 1, cells := 2, slots := 320, locals := 12 }) (va_Pc [.ref h0] (pI D cA [(h0, .inr (7, [.int 0, .int 0, .int 0, .null, .null]))] sz)) (va_Qv (fun _ : Nat → Nat => True) (fun u t => va_P D vwCl [(h0, .inr (7, [.int 0, .int 0, .int 0, .ref (u 0), .ref (u 1)])), ((u 0), .inl (cA, 256, .inl (fun _ => 0))), ((u 1), .inl (cA, 64, .inl (fun _ => 0)))] t.heap ∧ va_D (va_A [(h0, .inr (7, [.int 0, .int 0, .int 0, .null, .null]))] sz) [(h0, .inr (7, [.int 0, .int 0, .int 0, .ref (u 0), .ref (u 1)])), ((u 0), .inl (cA, 256, .inl (fun _ => 0))), ((u 1), .inl (cA, 64, .inl (fun _ => 0)))]) (va_A [(h0, .inr (7, [.int 0, .int 0, .int 0, .null, .null]))] sz)) 2 320 (va_A [(h0, .inr (7, [.int 0, .int 0, .int 0, .null, .null]))] sz) := by
  refine Met.ofW (cc := cX5_init) (maxL := 1) (ret := none) (by decide) rfl ?_
  intro p e s m args below meth c s₁ B hml hv
  obtain ⟨rfl, hsz, hP, hK, hD0⟩ := hv
  have hx := B.exec
  have hb := B.bytes
  have hr := B.returns
  have hts := atoms_spec (ws := wM yX5_init cX5_init 1 none) B.pre
  have hown : s.vm.findClass RX5 = some m.cls := findClass_of_methodNamed B.named
  have hlk := B.notSynchronized
  have hin : meth.name = "<init>" := (name_of_methodNamed B.named B.method).1
  have htA : ∀ w ∈ wA, w.before _ s = true := fun w h => hts w (List.mem_cons_of_mem _ h)
  subst hsz
  have hD := hD0.self (sz := s.heap.size)
  generalize hAe : (va_A [(h0, .inr (7, [.int 0, .int 0, .int 0, .null, .null]))] s.heap.size) = A at hD ⊢
  have hA : ∀ q : Nat, s.heap.size ≤ q → A q := fun q h => by rw [← hAe]; exact Or.inr h
  have hS : va_S A s.heap s.heap [] := va_S.rf
  have hP : va_P D vwCl [(h0, .inr (7, [.int 0, .int 0, .int 0, .null, .null]))] s.heap := hP
  have hl := lv_entry ([.ref h0]) (n := 1) (Nat.le_of_ble_eq_true rfl)
  rw [lg_entry_eq]
  generalize (lg_sl ([.ref h0]) ++ List.replicate (1 - (lg_sl ([.ref h0])).length) Slot.unset).toArray = ls at hl ⊢
  have hl : lv_has ls 1 [(0, .ref h0)] := hl
  refine lv_aload_n hx hb dX5_init_0 rfl (lv_at hl 0 rfl) ?_
  refine W.objInit hx hb hown (htA _ kw_41) (htA _ kw_12) (htA _ kw_13) rfl (by rw [hml]; exact hl.1) rfl dX5_init_1 (Nat.le_of_ble_eq_true rfl) (Nat.le_of_ble_eq_true rfl) ?_
  refine W.eq (g2 := F0 m 4 ls []) rfl ?_
  refine lv_aload_n hx hb dX5_init_4 rfl (lv_at hl 0 rfl) ?_
  refine lv_sipush (v := 256) hx hb dX5_init_5 (by decide) ?_
  refine ct_newa (N' := 256) hx hb (htA _ kw_42) hK hP hD hS hA (by decide) (by decide) (Nat.le_of_ble_eq_true rfl) (Nat.le_of_ble_eq_true rfl) (Nat.le_of_ble_eq_true rfl) dX5_init_8 (fun q1 H hP hD hS => ?_)
  have hP : va_P D vwCl [(h0, .inr (7, [.int 0, .int 0, .int 0, .null, .null])), (q1, .inl (cA, 256, .inl (fun _ => 0)))] H := hP
  have hD : va_D A [(h0, .inr (7, [.int 0, .int 0, .int 0, .null, .null])), (q1, .inl (cA, 256, .inl (fun _ => 0)))] := hD
  refine va_putF (D := D) (ci := 7) (v := .ref q1) (ty := .array .int) (C := RX5) (T := TX5) (N := 5) hx hb htA iA_X5 tyX5 tyX5_ok nmX5 hown hK hP hD hS 0 rfl rfl 3 (by decide) (htA _ kw_43) (fun _ h9 => h9) rfl hin rfl (by decide +kernel) rfl rfl (Nat.le_of_ble_eq_true rfl) dX5_init_10 (fun H locs hP hD hS => ?_)
  have hP : va_P D vwCl [(h0, .inr (7, [.int 0, .int 0, .int 0, .ref q1, .null])), (q1, .inl (cA, 256, .inl (fun _ => 0)))] H := hP
  have hD : va_D A [(h0, .inr (7, [.int 0, .int 0, .int 0, .ref q1, .null])), (q1, .inl (cA, 256, .inl (fun _ => 0)))] := hD
  refine lv_aload_n hx hb dX5_init_13 rfl (lv_at hl 0 rfl) ?_
  refine lv_bipush (v := 64) hx hb dX5_init_14 (by decide) ?_
  refine ct_newa (N' := 64) hx hb (htA _ kw_42) hK hP hD hS hA (by decide) (by decide) (Nat.le_of_ble_eq_true rfl) (Nat.le_of_ble_eq_true rfl) (Nat.le_of_ble_eq_true rfl) dX5_init_16 (fun q2 H hP hD hS => ?_)
  have hP : va_P D vwCl [(h0, .inr (7, [.int 0, .int 0, .int 0, .ref q1, .null])), (q1, .inl (cA, 256, .inl (fun _ => 0))), (q2, .inl (cA, 64, .inl (fun _ => 0)))] H := hP
  have hD : va_D A [(h0, .inr (7, [.int 0, .int 0, .int 0, .ref q1, .null])), (q1, .inl (cA, 256, .inl (fun _ => 0))), (q2, .inl (cA, 64, .inl (fun _ => 0)))] := hD
  refine va_putF (D := D) (ci := 7) (v := .ref q2) (ty := .array .int) (C := RX5) (T := TX5) (N := 5) hx hb htA iA_X5 tyX5 tyX5_ok nmX5 hown hK hP hD hS 0 rfl rfl 4 (by decide) (htA _ kw_44) (fun _ h9 => h9) rfl hin rfl (by decide +kernel) rfl rfl (Nat.le_of_ble_eq_true rfl) dX5_init_18 (fun H locs hP hD hS => ?_)
  have hP : va_P D vwCl [(h0, .inr (7, [.int 0, .int 0, .int 0, .ref q1, .ref q2])), (q1, .inl (cA, 256, .inl (fun _ => 0))), (q2, .inl (cA, 64, .inl (fun _ => 0)))] H := hP
  have hD : va_D A [(h0, .inr (7, [.int 0, .int 0, .int 0, .ref q1, .ref q2])), (q1, .inl (cA, 256, .inl (fun _ => 0))), (q2, .inl (cA, 64, .inl (fun _ => 0)))] := hD
  have hP9 := hP.sub (ws' := [(h0, .inr (7, [.int 0, .int 0, .int 0, .ref q1, .ref q2])), (q1, .inl (cA, 256, .inl (fun _ => 0))), (q2, .inl (cA, 64, .inl (fun _ => 0)))]) [0, 1, 2] rfl
  have hD9 := hD.sub (ws' := [(h0, .inr (7, [.int 0, .int 0, .int 0, .ref q1, .ref q2])), (q1, .inl (cA, 256, .inl (fun _ => 0))), (q2, .inl (cA, 64, .inl (fun _ => 0)))]) [0, 1, 2] (by decide) rfl
  refine W.widen (k := 2) (n := 320) (Nat.le_of_ble_eq_true rfl) (Nat.le_of_ble_eq_true rfl) ?_
  exact W.vret hx hb hr (fun t ht hW => ⟨⟨fun k => ([q1, q2] : List Nat).getD k 0, rfl, trivial, by rw [ht]; exact hP9, hD9⟩, hS.F ht⟩) hS.2.2 dX5_init_21 hlk
theorem hdI_X3_init : yX3_init.cls = yX3_init.cls ∧ yX3_init.cls ≠ "java/lang/invoke/MethodHandle" ∧ yX3_init.cls ≠ "java/lang/invoke/VarHandle" ∧ (parseMethodDescriptor yX3_init.desc).map (fun d => d.parameters.length) = some 2 := by decide +kernel
set_option maxHeartbeats 4000000 in
set_option maxRecDepth 100000 in
theorem k3_init (l : Launch) (D : va_G) (cA : ClassId) (h0 a1 a2 : Nat) (sz : Nat) : Met l yX3_init (wM yX3_init cX3_init 3 none) ({ frames := 1, cells := 3, slots := 192, locals := 12 }) (va_Pc [.ref h0, .ref a1, .ref a2] (pI D cA [(h0, .inr (5, [.null, .null, .null, .null, .null, .int 0, .int 0]))] sz)) (va_Qv (fun _ : Nat → Nat => True) (fun u t => va_P D vwCl [(h0, .inr (5, [.ref a1, .ref a2, .ref (u 0), .ref (u 1), .ref (u 2), .int 7, .int 0])), ((u 0), .inl (cA, 64, .inl (fun _ => 0))), ((u 1), .inl (cA, 64, .inl (fun _ => 0))), ((u 2), .inl (cA, 64, .inl (fun _ => 0)))] t.heap ∧ va_D (va_A [(h0, .inr (5, [.null, .null, .null, .null, .null, .int 0, .int 0]))] sz) [(h0, .inr (5, [.ref a1, .ref a2, .ref (u 0), .ref (u 1), .ref (u 2), .int 7, .int 0])), ((u 0), .inl (cA, 64, .inl (fun _ => 0))), ((u 1), .inl (cA, 64, .inl (fun _ => 0))), ((u 2), .inl (cA, 64, .inl (fun _ => 0)))]) (va_A [(h0, .inr (5, [.null, .null, .null, .null, .null, .int 0, .int 0]))] sz)) 3 192 (va_A [(h0, .inr (5, [.null, .null, .null, .null, .null, .int 0, .int 0]))] sz) := by
  refine Met.ofW (cc := cX3_init) (maxL := 3) (ret := none) (by decide) rfl ?_
  intro p e s m args below meth c s₁ B hml hv
  obtain ⟨rfl, hsz, hP, hK, hD0⟩ := hv
  have hx := B.exec
  have hb := B.bytes
  have hr := B.returns
  have hts := atoms_spec (ws := wM yX3_init cX3_init 3 none) B.pre
  have hown : s.vm.findClass RX3 = some m.cls := findClass_of_methodNamed B.named
  have hlk := B.notSynchronized
  have hin : meth.name = "<init>" := (name_of_methodNamed B.named B.method).1
  have htA : ∀ w ∈ wA, w.before _ s = true := fun w h => hts w (List.mem_cons_of_mem _ h)
  subst hsz
  have hD := hD0.self (sz := s.heap.size)
  generalize hAe : (va_A [(h0, .inr (5, [.null, .null, .null, .null, .null, .int 0, .int 0]))] s.heap.size) = A at hD ⊢
  have hA : ∀ q : Nat, s.heap.size ≤ q → A q := fun q h => by rw [← hAe]; exact Or.inr h
  have hS : va_S A s.heap s.heap [] := va_S.rf
  have hP : va_P D vwCl [(h0, .inr (5, [.null, .null, .null, .null, .null, .int 0, .int 0]))] s.heap := hP
  have hl := lv_entry ([.ref h0, .ref a1, .ref a2]) (n := 3) (Nat.le_of_ble_eq_true rfl)
  rw [lg_entry_eq]
  generalize (lg_sl ([.ref h0, .ref a1, .ref a2]) ++ List.replicate (3 - (lg_sl ([.ref h0, .ref a1, .ref a2])).length) Slot.unset).toArray = ls at hl ⊢
  have hl : lv_has ls 3 [(0, .ref h0), (1, .ref a1), (2, .ref a2)] := hl
  refine lv_aload_n hx hb dX3_init_0 rfl (lv_at hl 0 rfl) ?_
  refine W.objInit hx hb hown (htA _ kw_63) (htA _ kw_12) (htA _ kw_13) rfl (by rw [hml]; exact hl.1) rfl dX3_init_1 (Nat.le_of_ble_eq_true rfl) (Nat.le_of_ble_eq_true rfl) ?_
  refine W.eq (g2 := F0 m 4 ls []) rfl ?_
  refine lv_aload_n hx hb dX3_init_4 rfl (lv_at hl 0 rfl) ?_
  refine lv_bipush (v := 64) hx hb dX3_init_5 (by decide) ?_
  refine ct_newa (N' := 64) hx hb (htA _ kw_42) hK hP hD hS hA (by decide) (by decide) (Nat.le_of_ble_eq_true rfl) (Nat.le_of_ble_eq_true rfl) (Nat.le_of_ble_eq_true rfl) dX3_init_7 (fun q1 H hP hD hS => ?_)
  have hP : va_P D vwCl [(h0, .inr (5, [.null, .null, .null, .null, .null, .int 0, .int 0])), (q1, .inl (cA, 64, .inl (fun _ => 0)))] H := hP
  have hD : va_D A [(h0, .inr (5, [.null, .null, .null, .null, .null, .int 0, .int 0])), (q1, .inl (cA, 64, .inl (fun _ => 0)))] := hD
  refine va_putF (D := D) (ci := 5) (v := .ref q1) (ty := .array .int) (C := RX3) (T := TX3) (N := 7) hx hb htA iA_X3 tyX3 tyX3_ok nmX3 hown hK hP hD hS 0 rfl rfl 2 (by decide) (htA _ kw_64) (fun _ h9 => h9) rfl hin rfl (by decide +kernel) rfl rfl (Nat.le_of_ble_eq_true rfl) dX3_init_9 (fun H locs hP hD hS => ?_)
  have hP : va_P D vwCl [(h0, .inr (5, [.null, .null, .ref q1, .null, .null, .int 0, .int 0])), (q1, .inl (cA, 64, .inl (fun _ => 0)))] H := hP
  have hD : va_D A [(h0, .inr (5, [.null, .null, .ref q1, .null, .null, .int 0, .int 0])), (q1, .inl (cA, 64, .inl (fun _ => 0)))] := hD
  refine lv_aload_n hx hb dX3_init_12 rfl (lv_at hl 0 rfl) ?_
  refine lv_bipush (v := 64) hx hb dX3_init_13 (by decide) ?_
  refine ct_newa (N' := 64) hx hb (htA _ kw_42) hK hP hD hS hA (by decide) (by decide) (Nat.le_of_ble_eq_true rfl) (Nat.le_of_ble_eq_true rfl) (Nat.le_of_ble_eq_true rfl) dX3_init_15 (fun q2 H hP hD hS => ?_)
  have hP : va_P D vwCl [(h0, .inr (5, [.null, .null, .ref q1, .null, .null, .int 0, .int 0])), (q1, .inl (cA, 64, .inl (fun _ => 0))), (q2, .inl (cA, 64, .inl (fun _ => 0)))] H := hP
  have hD : va_D A [(h0, .inr (5, [.null, .null, .ref q1, .null, .null, .int 0, .int 0])), (q1, .inl (cA, 64, .inl (fun _ => 0))), (q2, .inl (cA, 64, .inl (fun _ => 0)))] := hD
  refine va_putF (D := D) (ci := 5) (v := .ref q2) (ty := .array .int) (C := RX3) (T := TX3) (N := 7) hx hb htA iA_X3 tyX3 tyX3_ok nmX3 hown hK hP hD hS 0 rfl rfl 3 (by decide) (htA _ kw_65) (fun _ h9 => h9) rfl hin rfl (by decide +kernel) rfl rfl (Nat.le_of_ble_eq_true rfl) dX3_init_17 (fun H locs hP hD hS => ?_)
  have hP : va_P D vwCl [(h0, .inr (5, [.null, .null, .ref q1, .ref q2, .null, .int 0, .int 0])), (q1, .inl (cA, 64, .inl (fun _ => 0))), (q2, .inl (cA, 64, .inl (fun _ => 0)))] H := hP
  have hD : va_D A [(h0, .inr (5, [.null, .null, .ref q1, .ref q2, .null, .int 0, .int 0])), (q1, .inl (cA, 64, .inl (fun _ => 0))), (q2, .inl (cA, 64, .inl (fun _ => 0)))] := hD
  refine lv_aload_n hx hb dX3_init_20 rfl (lv_at hl 0 rfl) ?_
  refine lv_bipush (v := 64) hx hb dX3_init_21 (by decide) ?_
  refine ct_newa (N' := 64) hx hb (htA _ kw_42) hK hP hD hS hA (by decide) (by decide) (Nat.le_of_ble_eq_true rfl) (Nat.le_of_ble_eq_true rfl) (Nat.le_of_ble_eq_true rfl) dX3_init_23 (fun q3 H hP hD hS => ?_)
  have hP : va_P D vwCl [(h0, .inr (5, [.null, .null, .ref q1, .ref q2, .null, .int 0, .int 0])), (q1, .inl (cA, 64, .inl (fun _ => 0))), (q2, .inl (cA, 64, .inl (fun _ => 0))), (q3, .inl (cA, 64, .inl (fun _ => 0)))] H := hP
  have hD : va_D A [(h0, .inr (5, [.null, .null, .ref q1, .ref q2, .null, .int 0, .int 0])), (q1, .inl (cA, 64, .inl (fun _ => 0))), (q2, .inl (cA, 64, .inl (fun _ => 0))), (q3, .inl (cA, 64, .inl (fun _ => 0)))] := hD
  refine va_putF (D := D) (ci := 5) (v := .ref q3) (ty := .array .int) (C := RX3) (T := TX3) (N := 7) hx hb htA iA_X3 tyX3 tyX3_ok nmX3 hown hK hP hD hS 0 rfl rfl 4 (by decide) (htA _ kw_66) (fun _ h9 => h9) rfl hin rfl (by decide +kernel) rfl rfl (Nat.le_of_ble_eq_true rfl) dX3_init_25 (fun H locs hP hD hS => ?_)
  have hP : va_P D vwCl [(h0, .inr (5, [.null, .null, .ref q1, .ref q2, .ref q3, .int 0, .int 0])), (q1, .inl (cA, 64, .inl (fun _ => 0))), (q2, .inl (cA, 64, .inl (fun _ => 0))), (q3, .inl (cA, 64, .inl (fun _ => 0)))] H := hP
  have hD : va_D A [(h0, .inr (5, [.null, .null, .ref q1, .ref q2, .ref q3, .int 0, .int 0])), (q1, .inl (cA, 64, .inl (fun _ => 0))), (q2, .inl (cA, 64, .inl (fun _ => 0))), (q3, .inl (cA, 64, .inl (fun _ => 0)))] := hD
  refine lv_aload_n hx hb dX3_init_28 rfl (lv_at hl 0 rfl) ?_
  refine lv_bipush (v := 7) hx hb dX3_init_29 (by decide) ?_
  refine va_put (D := D) (ci := 5) (v := .int 7) (ty := .int) (C := RX3) (T := TX3) (N := 7) hx hb htA iA_X3 tyX3 tyX3_ok nmX3 hown hK hP hD hS 0 rfl rfl 5 (by decide) (htA _ kw_67) (fun _ h9 => h9) rfl (by decide +kernel) rfl rfl (Nat.le_of_ble_eq_true rfl) dX3_init_31 (fun H locs hP hD hS => ?_)
  have hP : va_P D vwCl [(h0, .inr (5, [.null, .null, .ref q1, .ref q2, .ref q3, .int 7, .int 0])), (q1, .inl (cA, 64, .inl (fun _ => 0))), (q2, .inl (cA, 64, .inl (fun _ => 0))), (q3, .inl (cA, 64, .inl (fun _ => 0)))] H := hP
  have hD : va_D A [(h0, .inr (5, [.null, .null, .ref q1, .ref q2, .ref q3, .int 7, .int 0])), (q1, .inl (cA, 64, .inl (fun _ => 0))), (q2, .inl (cA, 64, .inl (fun _ => 0))), (q3, .inl (cA, 64, .inl (fun _ => 0)))] := hD
  refine lv_aload_n hx hb dX3_init_34 rfl (lv_at hl 0 rfl) ?_
  refine lv_iconst (v := 0) hx hb dX3_init_35 (by decide) ?_
  refine va_put (D := D) (ci := 5) (v := .int 0) (ty := .int) (C := RX3) (T := TX3) (N := 7) hx hb htA iA_X3 tyX3 tyX3_ok nmX3 hown hK hP hD hS 0 rfl rfl 6 (by decide) (htA _ kw_68) (fun _ h9 => h9) rfl (by decide +kernel) rfl rfl (Nat.le_of_ble_eq_true rfl) dX3_init_36 (fun H locs hP hD hS => ?_)
  have hP : va_P D vwCl [(h0, .inr (5, [.null, .null, .ref q1, .ref q2, .ref q3, .int 7, .int 0])), (q1, .inl (cA, 64, .inl (fun _ => 0))), (q2, .inl (cA, 64, .inl (fun _ => 0))), (q3, .inl (cA, 64, .inl (fun _ => 0)))] H := hP
  have hD : va_D A [(h0, .inr (5, [.null, .null, .ref q1, .ref q2, .ref q3, .int 7, .int 0])), (q1, .inl (cA, 64, .inl (fun _ => 0))), (q2, .inl (cA, 64, .inl (fun _ => 0))), (q3, .inl (cA, 64, .inl (fun _ => 0)))] := hD
  refine lv_aload_n hx hb dX3_init_39 rfl (lv_at hl 0 rfl) ?_
  refine lv_aload_n hx hb dX3_init_40 rfl (lv_at hl 1 rfl) ?_
  refine va_putF (D := D) (ci := 5) (v := .ref a1) (ty := .object "Grainwright$Shape") (C := RX3) (T := TX3) (N := 7) hx hb htA iA_X3 tyX3 tyX3_ok nmX3 hown hK hP hD hS 0 rfl rfl 0 (by decide) (htA _ kw_69) (fun _ h9 => h9) rfl hin rfl (by decide +kernel) rfl rfl (Nat.le_of_ble_eq_true rfl) dX3_init_41 (fun H locs hP hD hS => ?_)
  have hP : va_P D vwCl [(h0, .inr (5, [.ref a1, .null, .ref q1, .ref q2, .ref q3, .int 7, .int 0])), (q1, .inl (cA, 64, .inl (fun _ => 0))), (q2, .inl (cA, 64, .inl (fun _ => 0))), (q3, .inl (cA, 64, .inl (fun _ => 0)))] H := hP
  have hD : va_D A [(h0, .inr (5, [.ref a1, .null, .ref q1, .ref q2, .ref q3, .int 7, .int 0])), (q1, .inl (cA, 64, .inl (fun _ => 0))), (q2, .inl (cA, 64, .inl (fun _ => 0))), (q3, .inl (cA, 64, .inl (fun _ => 0)))] := hD
  refine lv_aload_n hx hb dX3_init_44 rfl (lv_at hl 0 rfl) ?_
  refine lv_aload_n hx hb dX3_init_45 rfl (lv_at hl 2 rfl) ?_
  refine va_putF (D := D) (ci := 5) (v := .ref a2) (ty := .object "Grainwright$Rules") (C := RX3) (T := TX3) (N := 7) hx hb htA iA_X3 tyX3 tyX3_ok nmX3 hown hK hP hD hS 0 rfl rfl 1 (by decide) (htA _ kw_70) (fun _ h9 => h9) rfl hin rfl (by decide +kernel) rfl rfl (Nat.le_of_ble_eq_true rfl) dX3_init_46 (fun H locs hP hD hS => ?_)
  have hP : va_P D vwCl [(h0, .inr (5, [.ref a1, .ref a2, .ref q1, .ref q2, .ref q3, .int 7, .int 0])), (q1, .inl (cA, 64, .inl (fun _ => 0))), (q2, .inl (cA, 64, .inl (fun _ => 0))), (q3, .inl (cA, 64, .inl (fun _ => 0)))] H := hP
  have hD : va_D A [(h0, .inr (5, [.ref a1, .ref a2, .ref q1, .ref q2, .ref q3, .int 7, .int 0])), (q1, .inl (cA, 64, .inl (fun _ => 0))), (q2, .inl (cA, 64, .inl (fun _ => 0))), (q3, .inl (cA, 64, .inl (fun _ => 0)))] := hD
  have hP9 := hP.sub (ws' := [(h0, .inr (5, [.ref a1, .ref a2, .ref q1, .ref q2, .ref q3, .int 7, .int 0])), (q1, .inl (cA, 64, .inl (fun _ => 0))), (q2, .inl (cA, 64, .inl (fun _ => 0))), (q3, .inl (cA, 64, .inl (fun _ => 0)))]) [0, 1, 2, 3] rfl
  have hD9 := hD.sub (ws' := [(h0, .inr (5, [.ref a1, .ref a2, .ref q1, .ref q2, .ref q3, .int 7, .int 0])), (q1, .inl (cA, 64, .inl (fun _ => 0))), (q2, .inl (cA, 64, .inl (fun _ => 0))), (q3, .inl (cA, 64, .inl (fun _ => 0)))]) [0, 1, 2, 3] (by decide) rfl
  refine W.widen (k := 3) (n := 192) (Nat.le_of_ble_eq_true rfl) (Nat.le_of_ble_eq_true rfl) ?_
  exact W.vret hx hb hr (fun t ht hW => ⟨⟨fun k => ([q1, q2, q3] : List Nat).getD k 0, rfl, trivial, by rw [ht]; exact hP9, hD9⟩, hS.F ht⟩) hS.2.2 dX3_init_49 hlk
theorem hdI_X2_init : yX2_init.cls = yX2_init.cls ∧ yX2_init.cls ≠ "java/lang/invoke/MethodHandle" ∧ yX2_init.cls ≠ "java/lang/invoke/VarHandle" ∧ (parseMethodDescriptor yX2_init.desc).map (fun d => d.parameters.length) = some 2 := by decide +kernel
set_option maxHeartbeats 4000000 in
set_option maxRecDepth 100000 in
theorem k2_init (l : Launch) (D : va_G) (cA : ClassId) (h0 a1 a2 : Nat) (sz : Nat) : Met l yX2_init (wM yX2_init cX2_init 3 none) ({ frames := 1, cells := 5, slots := 320, locals := 12 }) (va_Pc [.ref h0, .ref a1, .ref a2] (pI D cA [(h0, .inr (4, [.null, .null, .null, .null, .null, .null, .null, .int 0]))] sz)) (va_Qv (fun _ : Nat → Nat => True) (fun u t => va_P D vwCl [(h0, .inr (4, [.ref a1, .ref a2, .ref (u 0), .ref (u 1), .ref (u 2), .ref (u 3), .ref (u 4), .int 0])), ((u 0), .inl (cA, 64, .inl (fun _ => 0))), ((u 1), .inl (cA, 64, .inl (fun _ => 0))), ((u 2), .inl (cA, 64, .inl (fun _ => 0))), ((u 3), .inl (cA, 64, .inl (fun _ => 0))), ((u 4), .inl (cA, 64, .inl (fun _ => 0)))] t.heap ∧ va_D (va_A [(h0, .inr (4, [.null, .null, .null, .null, .null, .null, .null, .int 0]))] sz) [(h0, .inr (4, [.ref a1, .ref a2, .ref (u 0), .ref (u 1), .ref (u 2), .ref (u 3), .ref (u 4), .int 0])), ((u 0), .inl (cA, 64, .inl (fun _ => 0))), ((u 1), .inl (cA, 64, .inl (fun _ => 0))), ((u 2), .inl (cA, 64, .inl (fun _ => 0))), ((u 3), .inl (cA, 64, .inl (fun _ => 0))), ((u 4), .inl (cA, 64, .inl (fun _ => 0)))]) (va_A [(h0, .inr (4, [.null, .null, .null, .null, .null, .null, .null, .int 0]))] sz)) 5 320 (va_A [(h0, .inr (4, [.null, .null, .null, .null, .null, .null, .null, .int 0]))] sz) := by
  refine Met.ofW (cc := cX2_init) (maxL := 3) (ret := none) (by decide) rfl ?_
  intro p e s m args below meth c s₁ B hml hv
  obtain ⟨rfl, hsz, hP, hK, hD0⟩ := hv
  have hx := B.exec
  have hb := B.bytes
  have hr := B.returns
  have hts := atoms_spec (ws := wM yX2_init cX2_init 3 none) B.pre
  have hown : s.vm.findClass RX2 = some m.cls := findClass_of_methodNamed B.named
  have hlk := B.notSynchronized
  have hin : meth.name = "<init>" := (name_of_methodNamed B.named B.method).1
  have htA : ∀ w ∈ wA, w.before _ s = true := fun w h => hts w (List.mem_cons_of_mem _ h)
  subst hsz
  have hD := hD0.self (sz := s.heap.size)
  generalize hAe : (va_A [(h0, .inr (4, [.null, .null, .null, .null, .null, .null, .null, .int 0]))] s.heap.size) = A at hD ⊢
  have hA : ∀ q : Nat, s.heap.size ≤ q → A q := fun q h => by rw [← hAe]; exact Or.inr h
  have hS : va_S A s.heap s.heap [] := va_S.rf
  have hP : va_P D vwCl [(h0, .inr (4, [.null, .null, .null, .null, .null, .null, .null, .int 0]))] s.heap := hP
  have hl := lv_entry ([.ref h0, .ref a1, .ref a2]) (n := 3) (Nat.le_of_ble_eq_true rfl)
  rw [lg_entry_eq]
  generalize (lg_sl ([.ref h0, .ref a1, .ref a2]) ++ List.replicate (3 - (lg_sl ([.ref h0, .ref a1, .ref a2])).length) Slot.unset).toArray = ls at hl ⊢
  have hl : lv_has ls 3 [(0, .ref h0), (1, .ref a1), (2, .ref a2)] := hl
  refine lv_aload_n hx hb dX2_init_0 rfl (lv_at hl 0 rfl) ?_
  refine W.objInit hx hb hown (htA _ kw_87) (htA _ kw_12) (htA _ kw_13) rfl (by rw [hml]; exact hl.1) rfl dX2_init_1 (Nat.le_of_ble_eq_true rfl) (Nat.le_of_ble_eq_true rfl) ?_
  refine W.eq (g2 := F0 m 4 ls []) rfl ?_
  refine lv_aload_n hx hb dX2_init_4 rfl (lv_at hl 0 rfl) ?_
  refine lv_bipush (v := 64) hx hb dX2_init_5 (by decide) ?_
  refine ct_newa (N' := 64) hx hb (htA _ kw_42) hK hP hD hS hA (by decide) (by decide) (Nat.le_of_ble_eq_true rfl) (Nat.le_of_ble_eq_true rfl) (Nat.le_of_ble_eq_true rfl) dX2_init_7 (fun q1 H hP hD hS => ?_)
  have hP : va_P D vwCl [(h0, .inr (4, [.null, .null, .null, .null, .null, .null, .null, .int 0])), (q1, .inl (cA, 64, .inl (fun _ => 0)))] H := hP
  have hD : va_D A [(h0, .inr (4, [.null, .null, .null, .null, .null, .null, .null, .int 0])), (q1, .inl (cA, 64, .inl (fun _ => 0)))] := hD
  refine va_putF (D := D) (ci := 4) (v := .ref q1) (ty := .array .int) (C := RX2) (T := TX2) (N := 8) hx hb htA iA_X2 tyX2 tyX2_ok nmX2 hown hK hP hD hS 0 rfl rfl 2 (by decide) (htA _ kw_88) (fun _ h9 => h9) rfl hin rfl (by decide +kernel) rfl rfl (Nat.le_of_ble_eq_true rfl) dX2_init_9 (fun H locs hP hD hS => ?_)
  have hP : va_P D vwCl [(h0, .inr (4, [.null, .null, .ref q1, .null, .null, .null, .null, .int 0])), (q1, .inl (cA, 64, .inl (fun _ => 0)))] H := hP
  have hD : va_D A [(h0, .inr (4, [.null, .null, .ref q1, .null, .null, .null, .null, .int 0])), (q1, .inl (cA, 64, .inl (fun _ => 0)))] := hD
  refine lv_aload_n hx hb dX2_init_12 rfl (lv_at hl 0 rfl) ?_
  refine lv_bipush (v := 64) hx hb dX2_init_13 (by decide) ?_
  refine ct_newa (N' := 64) hx hb (htA _ kw_42) hK hP hD hS hA (by decide) (by decide) (Nat.le_of_ble_eq_true rfl) (Nat.le_of_ble_eq_true rfl) (Nat.le_of_ble_eq_true rfl) dX2_init_15 (fun q2 H hP hD hS => ?_)
  have hP : va_P D vwCl [(h0, .inr (4, [.null, .null, .ref q1, .null, .null, .null, .null, .int 0])), (q1, .inl (cA, 64, .inl (fun _ => 0))), (q2, .inl (cA, 64, .inl (fun _ => 0)))] H := hP
  have hD : va_D A [(h0, .inr (4, [.null, .null, .ref q1, .null, .null, .null, .null, .int 0])), (q1, .inl (cA, 64, .inl (fun _ => 0))), (q2, .inl (cA, 64, .inl (fun _ => 0)))] := hD
  refine va_putF (D := D) (ci := 4) (v := .ref q2) (ty := .array .int) (C := RX2) (T := TX2) (N := 8) hx hb htA iA_X2 tyX2 tyX2_ok nmX2 hown hK hP hD hS 0 rfl rfl 3 (by decide) (htA _ kw_89) (fun _ h9 => h9) rfl hin rfl (by decide +kernel) rfl rfl (Nat.le_of_ble_eq_true rfl) dX2_init_17 (fun H locs hP hD hS => ?_)
  have hP : va_P D vwCl [(h0, .inr (4, [.null, .null, .ref q1, .ref q2, .null, .null, .null, .int 0])), (q1, .inl (cA, 64, .inl (fun _ => 0))), (q2, .inl (cA, 64, .inl (fun _ => 0)))] H := hP
  have hD : va_D A [(h0, .inr (4, [.null, .null, .ref q1, .ref q2, .null, .null, .null, .int 0])), (q1, .inl (cA, 64, .inl (fun _ => 0))), (q2, .inl (cA, 64, .inl (fun _ => 0)))] := hD
  refine lv_aload_n hx hb dX2_init_20 rfl (lv_at hl 0 rfl) ?_
  refine lv_bipush (v := 64) hx hb dX2_init_21 (by decide) ?_
  refine ct_newa (N' := 64) hx hb (htA _ kw_42) hK hP hD hS hA (by decide) (by decide) (Nat.le_of_ble_eq_true rfl) (Nat.le_of_ble_eq_true rfl) (Nat.le_of_ble_eq_true rfl) dX2_init_23 (fun q3 H hP hD hS => ?_)
  have hP : va_P D vwCl [(h0, .inr (4, [.null, .null, .ref q1, .ref q2, .null, .null, .null, .int 0])), (q1, .inl (cA, 64, .inl (fun _ => 0))), (q2, .inl (cA, 64, .inl (fun _ => 0))), (q3, .inl (cA, 64, .inl (fun _ => 0)))] H := hP
  have hD : va_D A [(h0, .inr (4, [.null, .null, .ref q1, .ref q2, .null, .null, .null, .int 0])), (q1, .inl (cA, 64, .inl (fun _ => 0))), (q2, .inl (cA, 64, .inl (fun _ => 0))), (q3, .inl (cA, 64, .inl (fun _ => 0)))] := hD
  refine va_putF (D := D) (ci := 4) (v := .ref q3) (ty := .array .int) (C := RX2) (T := TX2) (N := 8) hx hb htA iA_X2 tyX2 tyX2_ok nmX2 hown hK hP hD hS 0 rfl rfl 4 (by decide) (htA _ kw_90) (fun _ h9 => h9) rfl hin rfl (by decide +kernel) rfl rfl (Nat.le_of_ble_eq_true rfl) dX2_init_25 (fun H locs hP hD hS => ?_)
  have hP : va_P D vwCl [(h0, .inr (4, [.null, .null, .ref q1, .ref q2, .ref q3, .null, .null, .int 0])), (q1, .inl (cA, 64, .inl (fun _ => 0))), (q2, .inl (cA, 64, .inl (fun _ => 0))), (q3, .inl (cA, 64, .inl (fun _ => 0)))] H := hP
  have hD : va_D A [(h0, .inr (4, [.null, .null, .ref q1, .ref q2, .ref q3, .null, .null, .int 0])), (q1, .inl (cA, 64, .inl (fun _ => 0))), (q2, .inl (cA, 64, .inl (fun _ => 0))), (q3, .inl (cA, 64, .inl (fun _ => 0)))] := hD
  refine lv_aload_n hx hb dX2_init_28 rfl (lv_at hl 0 rfl) ?_
  refine lv_bipush (v := 64) hx hb dX2_init_29 (by decide) ?_
  refine ct_newa (N' := 64) hx hb (htA _ kw_42) hK hP hD hS hA (by decide) (by decide) (Nat.le_of_ble_eq_true rfl) (Nat.le_of_ble_eq_true rfl) (Nat.le_of_ble_eq_true rfl) dX2_init_31 (fun q4 H hP hD hS => ?_)
  have hP : va_P D vwCl [(h0, .inr (4, [.null, .null, .ref q1, .ref q2, .ref q3, .null, .null, .int 0])), (q1, .inl (cA, 64, .inl (fun _ => 0))), (q2, .inl (cA, 64, .inl (fun _ => 0))), (q3, .inl (cA, 64, .inl (fun _ => 0))), (q4, .inl (cA, 64, .inl (fun _ => 0)))] H := hP
  have hD : va_D A [(h0, .inr (4, [.null, .null, .ref q1, .ref q2, .ref q3, .null, .null, .int 0])), (q1, .inl (cA, 64, .inl (fun _ => 0))), (q2, .inl (cA, 64, .inl (fun _ => 0))), (q3, .inl (cA, 64, .inl (fun _ => 0))), (q4, .inl (cA, 64, .inl (fun _ => 0)))] := hD
  refine va_putF (D := D) (ci := 4) (v := .ref q4) (ty := .array .int) (C := RX2) (T := TX2) (N := 8) hx hb htA iA_X2 tyX2 tyX2_ok nmX2 hown hK hP hD hS 0 rfl rfl 5 (by decide) (htA _ kw_91) (fun _ h9 => h9) rfl hin rfl (by decide +kernel) rfl rfl (Nat.le_of_ble_eq_true rfl) dX2_init_33 (fun H locs hP hD hS => ?_)
  have hP : va_P D vwCl [(h0, .inr (4, [.null, .null, .ref q1, .ref q2, .ref q3, .ref q4, .null, .int 0])), (q1, .inl (cA, 64, .inl (fun _ => 0))), (q2, .inl (cA, 64, .inl (fun _ => 0))), (q3, .inl (cA, 64, .inl (fun _ => 0))), (q4, .inl (cA, 64, .inl (fun _ => 0)))] H := hP
  have hD : va_D A [(h0, .inr (4, [.null, .null, .ref q1, .ref q2, .ref q3, .ref q4, .null, .int 0])), (q1, .inl (cA, 64, .inl (fun _ => 0))), (q2, .inl (cA, 64, .inl (fun _ => 0))), (q3, .inl (cA, 64, .inl (fun _ => 0))), (q4, .inl (cA, 64, .inl (fun _ => 0)))] := hD
  refine lv_aload_n hx hb dX2_init_36 rfl (lv_at hl 0 rfl) ?_
  refine lv_bipush (v := 64) hx hb dX2_init_37 (by decide) ?_
  refine ct_newa (N' := 64) hx hb (htA _ kw_42) hK hP hD hS hA (by decide) (by decide) (Nat.le_of_ble_eq_true rfl) (Nat.le_of_ble_eq_true rfl) (Nat.le_of_ble_eq_true rfl) dX2_init_39 (fun q5 H hP hD hS => ?_)
  have hP : va_P D vwCl [(h0, .inr (4, [.null, .null, .ref q1, .ref q2, .ref q3, .ref q4, .null, .int 0])), (q1, .inl (cA, 64, .inl (fun _ => 0))), (q2, .inl (cA, 64, .inl (fun _ => 0))), (q3, .inl (cA, 64, .inl (fun _ => 0))), (q4, .inl (cA, 64, .inl (fun _ => 0))), (q5, .inl (cA, 64, .inl (fun _ => 0)))] H := hP
  have hD : va_D A [(h0, .inr (4, [.null, .null, .ref q1, .ref q2, .ref q3, .ref q4, .null, .int 0])), (q1, .inl (cA, 64, .inl (fun _ => 0))), (q2, .inl (cA, 64, .inl (fun _ => 0))), (q3, .inl (cA, 64, .inl (fun _ => 0))), (q4, .inl (cA, 64, .inl (fun _ => 0))), (q5, .inl (cA, 64, .inl (fun _ => 0)))] := hD
  refine va_putF (D := D) (ci := 4) (v := .ref q5) (ty := .array .int) (C := RX2) (T := TX2) (N := 8) hx hb htA iA_X2 tyX2 tyX2_ok nmX2 hown hK hP hD hS 0 rfl rfl 6 (by decide) (htA _ kw_92) (fun _ h9 => h9) rfl hin rfl (by decide +kernel) rfl rfl (Nat.le_of_ble_eq_true rfl) dX2_init_41 (fun H locs hP hD hS => ?_)
  have hP : va_P D vwCl [(h0, .inr (4, [.null, .null, .ref q1, .ref q2, .ref q3, .ref q4, .ref q5, .int 0])), (q1, .inl (cA, 64, .inl (fun _ => 0))), (q2, .inl (cA, 64, .inl (fun _ => 0))), (q3, .inl (cA, 64, .inl (fun _ => 0))), (q4, .inl (cA, 64, .inl (fun _ => 0))), (q5, .inl (cA, 64, .inl (fun _ => 0)))] H := hP
  have hD : va_D A [(h0, .inr (4, [.null, .null, .ref q1, .ref q2, .ref q3, .ref q4, .ref q5, .int 0])), (q1, .inl (cA, 64, .inl (fun _ => 0))), (q2, .inl (cA, 64, .inl (fun _ => 0))), (q3, .inl (cA, 64, .inl (fun _ => 0))), (q4, .inl (cA, 64, .inl (fun _ => 0))), (q5, .inl (cA, 64, .inl (fun _ => 0)))] := hD
  refine lv_aload_n hx hb dX2_init_44 rfl (lv_at hl 0 rfl) ?_
  refine lv_iconst (v := 0) hx hb dX2_init_45 (by decide) ?_
  refine va_put (D := D) (ci := 4) (v := .int 0) (ty := .int) (C := RX2) (T := TX2) (N := 8) hx hb htA iA_X2 tyX2 tyX2_ok nmX2 hown hK hP hD hS 0 rfl rfl 7 (by decide) (htA _ kw_93) (fun _ h9 => h9) rfl (by decide +kernel) rfl rfl (Nat.le_of_ble_eq_true rfl) dX2_init_46 (fun H locs hP hD hS => ?_)
  have hP : va_P D vwCl [(h0, .inr (4, [.null, .null, .ref q1, .ref q2, .ref q3, .ref q4, .ref q5, .int 0])), (q1, .inl (cA, 64, .inl (fun _ => 0))), (q2, .inl (cA, 64, .inl (fun _ => 0))), (q3, .inl (cA, 64, .inl (fun _ => 0))), (q4, .inl (cA, 64, .inl (fun _ => 0))), (q5, .inl (cA, 64, .inl (fun _ => 0)))] H := hP
  have hD : va_D A [(h0, .inr (4, [.null, .null, .ref q1, .ref q2, .ref q3, .ref q4, .ref q5, .int 0])), (q1, .inl (cA, 64, .inl (fun _ => 0))), (q2, .inl (cA, 64, .inl (fun _ => 0))), (q3, .inl (cA, 64, .inl (fun _ => 0))), (q4, .inl (cA, 64, .inl (fun _ => 0))), (q5, .inl (cA, 64, .inl (fun _ => 0)))] := hD
  refine lv_aload_n hx hb dX2_init_49 rfl (lv_at hl 0 rfl) ?_
  refine lv_aload_n hx hb dX2_init_50 rfl (lv_at hl 1 rfl) ?_
  refine va_putF (D := D) (ci := 4) (v := .ref a1) (ty := .object "Grainwright$Shape") (C := RX2) (T := TX2) (N := 8) hx hb htA iA_X2 tyX2 tyX2_ok nmX2 hown hK hP hD hS 0 rfl rfl 0 (by decide) (htA _ kw_94) (fun _ h9 => h9) rfl hin rfl (by decide +kernel) rfl rfl (Nat.le_of_ble_eq_true rfl) dX2_init_51 (fun H locs hP hD hS => ?_)
  have hP : va_P D vwCl [(h0, .inr (4, [.ref a1, .null, .ref q1, .ref q2, .ref q3, .ref q4, .ref q5, .int 0])), (q1, .inl (cA, 64, .inl (fun _ => 0))), (q2, .inl (cA, 64, .inl (fun _ => 0))), (q3, .inl (cA, 64, .inl (fun _ => 0))), (q4, .inl (cA, 64, .inl (fun _ => 0))), (q5, .inl (cA, 64, .inl (fun _ => 0)))] H := hP
  have hD : va_D A [(h0, .inr (4, [.ref a1, .null, .ref q1, .ref q2, .ref q3, .ref q4, .ref q5, .int 0])), (q1, .inl (cA, 64, .inl (fun _ => 0))), (q2, .inl (cA, 64, .inl (fun _ => 0))), (q3, .inl (cA, 64, .inl (fun _ => 0))), (q4, .inl (cA, 64, .inl (fun _ => 0))), (q5, .inl (cA, 64, .inl (fun _ => 0)))] := hD
  refine lv_aload_n hx hb dX2_init_54 rfl (lv_at hl 0 rfl) ?_
  refine lv_aload_n hx hb dX2_init_55 rfl (lv_at hl 2 rfl) ?_
  refine va_putF (D := D) (ci := 4) (v := .ref a2) (ty := .object "Grainwright$Rules") (C := RX2) (T := TX2) (N := 8) hx hb htA iA_X2 tyX2 tyX2_ok nmX2 hown hK hP hD hS 0 rfl rfl 1 (by decide) (htA _ kw_95) (fun _ h9 => h9) rfl hin rfl (by decide +kernel) rfl rfl (Nat.le_of_ble_eq_true rfl) dX2_init_56 (fun H locs hP hD hS => ?_)
  have hP : va_P D vwCl [(h0, .inr (4, [.ref a1, .ref a2, .ref q1, .ref q2, .ref q3, .ref q4, .ref q5, .int 0])), (q1, .inl (cA, 64, .inl (fun _ => 0))), (q2, .inl (cA, 64, .inl (fun _ => 0))), (q3, .inl (cA, 64, .inl (fun _ => 0))), (q4, .inl (cA, 64, .inl (fun _ => 0))), (q5, .inl (cA, 64, .inl (fun _ => 0)))] H := hP
  have hD : va_D A [(h0, .inr (4, [.ref a1, .ref a2, .ref q1, .ref q2, .ref q3, .ref q4, .ref q5, .int 0])), (q1, .inl (cA, 64, .inl (fun _ => 0))), (q2, .inl (cA, 64, .inl (fun _ => 0))), (q3, .inl (cA, 64, .inl (fun _ => 0))), (q4, .inl (cA, 64, .inl (fun _ => 0))), (q5, .inl (cA, 64, .inl (fun _ => 0)))] := hD
  have hP9 := hP.sub (ws' := [(h0, .inr (4, [.ref a1, .ref a2, .ref q1, .ref q2, .ref q3, .ref q4, .ref q5, .int 0])), (q1, .inl (cA, 64, .inl (fun _ => 0))), (q2, .inl (cA, 64, .inl (fun _ => 0))), (q3, .inl (cA, 64, .inl (fun _ => 0))), (q4, .inl (cA, 64, .inl (fun _ => 0))), (q5, .inl (cA, 64, .inl (fun _ => 0)))]) [0, 1, 2, 3, 4, 5] rfl
  have hD9 := hD.sub (ws' := [(h0, .inr (4, [.ref a1, .ref a2, .ref q1, .ref q2, .ref q3, .ref q4, .ref q5, .int 0])), (q1, .inl (cA, 64, .inl (fun _ => 0))), (q2, .inl (cA, 64, .inl (fun _ => 0))), (q3, .inl (cA, 64, .inl (fun _ => 0))), (q4, .inl (cA, 64, .inl (fun _ => 0))), (q5, .inl (cA, 64, .inl (fun _ => 0)))]) [0, 1, 2, 3, 4, 5] (by decide) rfl
  refine W.widen (k := 5) (n := 320) (Nat.le_of_ble_eq_true rfl) (Nat.le_of_ble_eq_true rfl) ?_
  exact W.vret hx hb hr (fun t ht hW => ⟨⟨fun k => ([q1, q2, q3, q4, q5] : List Nat).getD k 0, rfl, trivial, by rw [ht]; exact hP9, hD9⟩, hS.F ht⟩) hS.2.2 dX2_init_59 hlk
theorem hdI_X6_init : yX6_init.cls = yX6_init.cls ∧ yX6_init.cls ≠ "java/lang/invoke/MethodHandle" ∧ yX6_init.cls ≠ "java/lang/invoke/VarHandle" ∧ (parseMethodDescriptor yX6_init.desc).map (fun d => d.parameters.length) = some 3 := by decide +kernel
set_option maxHeartbeats 4000000 in
set_option maxRecDepth 100000 in
theorem k6_init (l : Launch) (D : va_G) (cA : ClassId) (h0 a1 a2 a3 : Nat) (sz : Nat) : Met l yX6_init (wM yX6_init cX6_init 4 none) ({ frames := 2, cells := 13, slots := 720, locals := 34 }) (va_Pc [.ref h0, .ref a1, .ref a2, .ref a3] (pI D cA [(h0, .inr (8, [.null, .null, .null, .null, .null, .null]))] sz)) (va_Qv (fun _ : Nat → Nat => True) (fun u t => va_P D vwCl [(h0, .inr (8, [.ref a1, .ref a2, .ref (u 1), .ref (u 7), .ref (u 0), .ref a3])), ((u 0), .inl (cA, 64, .inl (fun _ => 0))), ((u 1), .inr (4, [.ref a1, .ref a2, .ref (u 2), .ref (u 3), .ref (u 4), .ref (u 5), .ref (u 6), .int 0])), ((u 2), .inl (cA, 64, .inl (fun _ => 0))), ((u 3), .inl (cA, 64, .inl (fun _ => 0))), ((u 4), .inl (cA, 64, .inl (fun _ => 0))), ((u 5), .inl (cA, 64, .inl (fun _ => 0))), ((u 6), .inl (cA, 64, .inl (fun _ => 0))), ((u 7), .inr (4, [.ref a1, .ref a2, .ref (u 8), .ref (u 9), .ref (u 10), .ref (u 11), .ref (u 12), .int 0])), ((u 8), .inl (cA, 64, .inl (fun _ => 0))), ((u 9), .inl (cA, 64, .inl (fun _ => 0))), ((u 10), .inl (cA, 64, .inl (fun _ => 0))), ((u 11), .inl (cA, 64, .inl (fun _ => 0))), ((u 12), .inl (cA, 64, .inl (fun _ => 0)))] t.heap ∧ va_D (va_A [(h0, .inr (8, [.null, .null, .null, .null, .null, .null]))] sz) [(h0, .inr (8, [.ref a1, .ref a2, .ref (u 1), .ref (u 7), .ref (u 0), .ref a3])), ((u 0), .inl (cA, 64, .inl (fun _ => 0))), ((u 1), .inr (4, [.ref a1, .ref a2, .ref (u 2), .ref (u 3), .ref (u 4), .ref (u 5), .ref (u 6), .int 0])), ((u 2), .inl (cA, 64, .inl (fun _ => 0))), ((u 3), .inl (cA, 64, .inl (fun _ => 0))), ((u 4), .inl (cA, 64, .inl (fun _ => 0))), ((u 5), .inl (cA, 64, .inl (fun _ => 0))), ((u 6), .inl (cA, 64, .inl (fun _ => 0))), ((u 7), .inr (4, [.ref a1, .ref a2, .ref (u 8), .ref (u 9), .ref (u 10), .ref (u 11), .ref (u 12), .int 0])), ((u 8), .inl (cA, 64, .inl (fun _ => 0))), ((u 9), .inl (cA, 64, .inl (fun _ => 0))), ((u 10), .inl (cA, 64, .inl (fun _ => 0))), ((u 11), .inl (cA, 64, .inl (fun _ => 0))), ((u 12), .inl (cA, 64, .inl (fun _ => 0)))]) (va_A [(h0, .inr (8, [.null, .null, .null, .null, .null, .null]))] sz)) 13 720 (va_A [(h0, .inr (8, [.null, .null, .null, .null, .null, .null]))] sz) := by
  refine Met.ofW (cc := cX6_init) (maxL := 4) (ret := none) (by decide) rfl ?_
  intro p e s m args below meth c s₁ B hml hv
  obtain ⟨rfl, hsz, hP, hK, hD0⟩ := hv
  have hx := B.exec
  have hb := B.bytes
  have hr := B.returns
  have hts := atoms_spec (ws := wM yX6_init cX6_init 4 none) B.pre
  have hown : s.vm.findClass RX6 = some m.cls := findClass_of_methodNamed B.named
  have hlk := B.notSynchronized
  have hin : meth.name = "<init>" := (name_of_methodNamed B.named B.method).1
  have htA : ∀ w ∈ wA, w.before _ s = true := fun w h => hts w (List.mem_cons_of_mem _ h)
  subst hsz
  have hD := hD0.self (sz := s.heap.size)
  generalize hAe : (va_A [(h0, .inr (8, [.null, .null, .null, .null, .null, .null]))] s.heap.size) = A at hD ⊢
  have hA : ∀ q : Nat, s.heap.size ≤ q → A q := fun q h => by rw [← hAe]; exact Or.inr h
  have hS : va_S A s.heap s.heap [] := va_S.rf
  have hP : va_P D vwCl [(h0, .inr (8, [.null, .null, .null, .null, .null, .null]))] s.heap := hP
  have hl := lv_entry ([.ref h0, .ref a1, .ref a2, .ref a3]) (n := 4) (Nat.le_of_ble_eq_true rfl)
  rw [lg_entry_eq]
  generalize (lg_sl ([.ref h0, .ref a1, .ref a2, .ref a3]) ++ List.replicate (4 - (lg_sl ([.ref h0, .ref a1, .ref a2, .ref a3])).length) Slot.unset).toArray = ls at hl ⊢
  have hl : lv_has ls 4 [(0, .ref h0), (1, .ref a1), (2, .ref a2), (3, .ref a3)] := hl
  refine lv_aload_n hx hb dX6_init_0 rfl (lv_at hl 0 rfl) ?_
  refine W.objInit hx hb hown (htA _ kw_74) (htA _ kw_12) (htA _ kw_13) rfl (by rw [hml]; exact hl.1) rfl dX6_init_1 (Nat.le_of_ble_eq_true rfl) (Nat.le_of_ble_eq_true rfl) ?_
  refine W.eq (g2 := F0 m 4 ls []) rfl ?_
  refine lv_aload_n hx hb dX6_init_4 rfl (lv_at hl 0 rfl) ?_
  refine lv_bipush (v := 64) hx hb dX6_init_5 (by decide) ?_
  refine ct_newa (N' := 64) hx hb (htA _ kw_42) hK hP hD hS hA (by decide) (by decide) (Nat.le_of_ble_eq_true rfl) (Nat.le_of_ble_eq_true rfl) (Nat.le_of_ble_eq_true rfl) dX6_init_7 (fun q1 H hP hD hS => ?_)
  have hP : va_P D vwCl [(h0, .inr (8, [.null, .null, .null, .null, .null, .null])), (q1, .inl (cA, 64, .inl (fun _ => 0)))] H := hP
  have hD : va_D A [(h0, .inr (8, [.null, .null, .null, .null, .null, .null])), (q1, .inl (cA, 64, .inl (fun _ => 0)))] := hD
  refine va_putF (D := D) (ci := 8) (v := .ref q1) (ty := .array .int) (C := RX6) (T := TX6) (N := 6) hx hb htA iA_X6 tyX6 tyX6_ok nmX6 hown hK hP hD hS 0 rfl rfl 4 (by decide) (htA _ kw_75) (fun _ h9 => h9) rfl hin rfl (by decide +kernel) rfl rfl (Nat.le_of_ble_eq_true rfl) dX6_init_9 (fun H locs hP hD hS => ?_)
  have hP : va_P D vwCl [(h0, .inr (8, [.null, .null, .null, .null, .ref q1, .null])), (q1, .inl (cA, 64, .inl (fun _ => 0)))] H := hP
  have hD : va_D A [(h0, .inr (8, [.null, .null, .null, .null, .ref q1, .null])), (q1, .inl (cA, 64, .inl (fun _ => 0)))] := hD
  refine lv_aload_n hx hb dX6_init_12 rfl (lv_at hl 0 rfl) ?_
  refine lv_aload_n hx hb dX6_init_13 rfl (lv_at hl 1 rfl) ?_
  refine va_putF (D := D) (ci := 8) (v := .ref a1) (ty := .object "Grainwright$Shape") (C := RX6) (T := TX6) (N := 6) hx hb htA iA_X6 tyX6 tyX6_ok nmX6 hown hK hP hD hS 0 rfl rfl 0 (by decide) (htA _ kw_76) (fun _ h9 => h9) rfl hin rfl (by decide +kernel) rfl rfl (Nat.le_of_ble_eq_true rfl) dX6_init_14 (fun H locs hP hD hS => ?_)
  have hP : va_P D vwCl [(h0, .inr (8, [.ref a1, .null, .null, .null, .ref q1, .null])), (q1, .inl (cA, 64, .inl (fun _ => 0)))] H := hP
  have hD : va_D A [(h0, .inr (8, [.ref a1, .null, .null, .null, .ref q1, .null])), (q1, .inl (cA, 64, .inl (fun _ => 0)))] := hD
  refine lv_aload_n hx hb dX6_init_17 rfl (lv_at hl 0 rfl) ?_
  refine lv_aload_n hx hb dX6_init_18 rfl (lv_at hl 2 rfl) ?_
  refine va_putF (D := D) (ci := 8) (v := .ref a2) (ty := .object "Grainwright$Rules") (C := RX6) (T := TX6) (N := 6) hx hb htA iA_X6 tyX6 tyX6_ok nmX6 hown hK hP hD hS 0 rfl rfl 1 (by decide) (htA _ kw_77) (fun _ h9 => h9) rfl hin rfl (by decide +kernel) rfl rfl (Nat.le_of_ble_eq_true rfl) dX6_init_19 (fun H locs hP hD hS => ?_)
  have hP : va_P D vwCl [(h0, .inr (8, [.ref a1, .ref a2, .null, .null, .ref q1, .null])), (q1, .inl (cA, 64, .inl (fun _ => 0)))] H := hP
  have hD : va_D A [(h0, .inr (8, [.ref a1, .ref a2, .null, .null, .ref q1, .null])), (q1, .inl (cA, 64, .inl (fun _ => 0)))] := hD
  refine lv_aload_n hx hb dX6_init_22 rfl (lv_at hl 0 rfl) ?_
  refine lv_aload_n hx hb dX6_init_23 rfl (lv_at hl 3 rfl) ?_
  refine va_put (D := D) (ci := 8) (v := .ref a3) (ty := .object "Grainwright$Piece") (C := RX6) (T := TX6) (N := 6) hx hb htA iA_X6 tyX6 tyX6_ok nmX6 hown hK hP hD hS 0 rfl rfl 5 (by decide) (htA _ kw_78) (fun _ h9 => h9) rfl (by decide +kernel) rfl rfl (Nat.le_of_ble_eq_true rfl) dX6_init_24 (fun H locs hP hD hS => ?_)
  have hP : va_P D vwCl [(h0, .inr (8, [.ref a1, .ref a2, .null, .null, .ref q1, .ref a3])), (q1, .inl (cA, 64, .inl (fun _ => 0)))] H := hP
  have hD : va_D A [(h0, .inr (8, [.ref a1, .ref a2, .null, .null, .ref q1, .ref a3])), (q1, .inl (cA, 64, .inl (fun _ => 0)))] := hD
  refine lv_aload_n hx hb dX6_init_27 rfl (lv_at hl 0 rfl) ?_
  refine va_new (D := D) (ci := 4) (fs := [.null, .null, .null, .null, .null, .null, .null, .int 0]) (C := RX2) (T := TX2) (N := 8) hx hb htA iA_X2 tyX2 tyX2_ok hown (htA _ kw_79) (htA _ kw_80) (htA _ kw_81) hK hP hD hS hA rfl (fun j hj => by rcases (show j = 0 ∨ j = 1 ∨ j = 2 ∨ j = 3 ∨ j = 4 ∨ j = 5 ∨ j = 6 ∨ j = 7 by omega) with rfl | rfl | rfl | rfl | rfl | rfl | rfl | rfl <;> rfl) (Nat.le_of_ble_eq_true rfl) (Nat.le_of_ble_eq_true rfl) dX6_init_28 (fun q2 H hP hD hS => ?_)
  have hP : va_P D vwCl [(h0, .inr (8, [.ref a1, .ref a2, .null, .null, .ref q1, .ref a3])), (q1, .inl (cA, 64, .inl (fun _ => 0))), (q2, .inr (4, [.null, .null, .null, .null, .null, .null, .null, .int 0]))] H := hP
  have hD : va_D A [(h0, .inr (8, [.ref a1, .ref a2, .null, .null, .ref q1, .ref a3])), (q1, .inl (cA, 64, .inl (fun _ => 0))), (q2, .inr (4, [.null, .null, .null, .null, .null, .null, .null, .int 0]))] := hD
  refine lv_dup hx hb dX6_init_31 rfl ?_
  refine lv_aload_n hx hb dX6_init_32 rfl (lv_at hl 1 rfl) ?_
  refine lv_aload_n hx hb dX6_init_33 rfl (lv_at hl 2 rfl) ?_
  have hPc := hP.sub (ws' := [(q2, .inr (4, [.null, .null, .null, .null, .null, .null, .null, .int 0]))]) [2] rfl
  have hDc := hD.sub (ws' := [(q2, .inr (4, [.null, .null, .null, .null, .null, .null, .null, .int 0]))]) [2] (by decide) rfl
  have hFc := va_free (wc := [(q2, .inr (4, [.null, .null, .null, .null, .null, .null, .null, .int 0]))]) hD hS hA [2] rfl
  refine va_callv (va_runI (As := [.ref a1, .ref a2]) (rest := [.ref q2, .ref h0]) ⟨hx, hb, hml, hown, hts⟩ (k2_init l D cA q2 a1 a2 H.size) (cwI 2 hts (sy_goodI kw_86) rfl rfl rfl (htA _ kw_81) (htA _ kw_84) (htA _ kw_85) rfl (by decide +kernel) ⟨Nat.le_of_ble_eq_true rfl, Nat.le_of_ble_eq_true rfl⟩) ⟨pI_blind, fun U hU hW => ⟨rfl, by rw [hU], by rw [hU]; exact hPc, va_K.moved hW.alike hK, hDc.weaken (fun _ _ _ _ => trivial)⟩⟩ rfl rfl hl.1 rfl (lv_room (Nat.le_of_ble_eq_true rfl)) dX6_init_34 ⟨Nat.le_of_ble_eq_true rfl, Nat.le_of_ble_eq_true rfl⟩) hS (fun q _ h => hFc q h) hFc (fun u t H1 locs ht hvm hw hB hz1 hk1 hS => ?_)
  obtain ⟨hP1, hD1⟩ := hB
  rw [ht] at hP1
  obtain ⟨hP, hD⟩ := va_join (wr := [(h0, .inr (8, [.ref a1, .ref a2, .null, .null, .ref q1, .ref a3])), (q1, .inl (cA, 64, .inl (fun _ => 0)))]) (w1 := [(q2, .inr (4, [.ref a1, .ref a2, .ref (u 0), .ref (u 1), .ref (u 2), .ref (u 3), .ref (u 4), .int 0])), ((u 0), .inl (cA, 64, .inl (fun _ => 0))), ((u 1), .inl (cA, 64, .inl (fun _ => 0))), ((u 2), .inl (cA, 64, .inl (fun _ => 0))), ((u 3), .inl (cA, 64, .inl (fun _ => 0))), ((u 4), .inl (cA, 64, .inl (fun _ => 0)))]) hP hD [2] [0, 1] rfl rfl (by decide) (by decide) hk1 hFc hP1 hD1
  generalize H1 = H at hP hS ⊢
  generalize u 0 = q3 at hP hD
  generalize u 1 = q4 at hP hD
  generalize u 2 = q5 at hP hD
  generalize u 3 = q6 at hP hD
  generalize u 4 = q7 at hP hD
  have hP : va_P D vwCl [(h0, .inr (8, [.ref a1, .ref a2, .null, .null, .ref q1, .ref a3])), (q1, .inl (cA, 64, .inl (fun _ => 0))), (q2, .inr (4, [.ref a1, .ref a2, .ref q3, .ref q4, .ref q5, .ref q6, .ref q7, .int 0])), (q3, .inl (cA, 64, .inl (fun _ => 0))), (q4, .inl (cA, 64, .inl (fun _ => 0))), (q5, .inl (cA, 64, .inl (fun _ => 0))), (q6, .inl (cA, 64, .inl (fun _ => 0))), (q7, .inl (cA, 64, .inl (fun _ => 0)))] H := hP
  have hD : va_D A [(h0, .inr (8, [.ref a1, .ref a2, .null, .null, .ref q1, .ref a3])), (q1, .inl (cA, 64, .inl (fun _ => 0))), (q2, .inr (4, [.ref a1, .ref a2, .ref q3, .ref q4, .ref q5, .ref q6, .ref q7, .int 0])), (q3, .inl (cA, 64, .inl (fun _ => 0))), (q4, .inl (cA, 64, .inl (fun _ => 0))), (q5, .inl (cA, 64, .inl (fun _ => 0))), (q6, .inl (cA, 64, .inl (fun _ => 0))), (q7, .inl (cA, 64, .inl (fun _ => 0)))] := hD
  refine va_putF (D := D) (ci := 8) (v := .ref q2) (ty := .object "Grainwright$Grains") (C := RX6) (T := TX6) (N := 6) hx hb htA iA_X6 tyX6 tyX6_ok nmX6 hown hK hP hD hS 0 rfl rfl 2 (by decide) (htA _ kw_82) (fun _ h9 => h9) rfl hin rfl (by decide +kernel) rfl rfl (Nat.le_of_ble_eq_true rfl) dX6_init_37 (fun H locs hP hD hS => ?_)
  have hP : va_P D vwCl [(h0, .inr (8, [.ref a1, .ref a2, .ref q2, .null, .ref q1, .ref a3])), (q1, .inl (cA, 64, .inl (fun _ => 0))), (q2, .inr (4, [.ref a1, .ref a2, .ref q3, .ref q4, .ref q5, .ref q6, .ref q7, .int 0])), (q3, .inl (cA, 64, .inl (fun _ => 0))), (q4, .inl (cA, 64, .inl (fun _ => 0))), (q5, .inl (cA, 64, .inl (fun _ => 0))), (q6, .inl (cA, 64, .inl (fun _ => 0))), (q7, .inl (cA, 64, .inl (fun _ => 0)))] H := hP
  have hD : va_D A [(h0, .inr (8, [.ref a1, .ref a2, .ref q2, .null, .ref q1, .ref a3])), (q1, .inl (cA, 64, .inl (fun _ => 0))), (q2, .inr (4, [.ref a1, .ref a2, .ref q3, .ref q4, .ref q5, .ref q6, .ref q7, .int 0])), (q3, .inl (cA, 64, .inl (fun _ => 0))), (q4, .inl (cA, 64, .inl (fun _ => 0))), (q5, .inl (cA, 64, .inl (fun _ => 0))), (q6, .inl (cA, 64, .inl (fun _ => 0))), (q7, .inl (cA, 64, .inl (fun _ => 0)))] := hD
  refine lv_aload_n hx hb dX6_init_40 rfl (lv_at hl 0 rfl) ?_
  refine va_new (D := D) (ci := 4) (fs := [.null, .null, .null, .null, .null, .null, .null, .int 0]) (C := RX2) (T := TX2) (N := 8) hx hb htA iA_X2 tyX2 tyX2_ok hown (htA _ kw_79) (htA _ kw_80) (htA _ kw_81) hK hP hD hS hA rfl (fun j hj => by rcases (show j = 0 ∨ j = 1 ∨ j = 2 ∨ j = 3 ∨ j = 4 ∨ j = 5 ∨ j = 6 ∨ j = 7 by omega) with rfl | rfl | rfl | rfl | rfl | rfl | rfl | rfl <;> rfl) (Nat.le_of_ble_eq_true rfl) (Nat.le_of_ble_eq_true rfl) dX6_init_41 (fun q8 H hP hD hS => ?_)
  have hP : va_P D vwCl [(h0, .inr (8, [.ref a1, .ref a2, .ref q2, .null, .ref q1, .ref a3])), (q1, .inl (cA, 64, .inl (fun _ => 0))), (q2, .inr (4, [.ref a1, .ref a2, .ref q3, .ref q4, .ref q5, .ref q6, .ref q7, .int 0])), (q3, .inl (cA, 64, .inl (fun _ => 0))), (q4, .inl (cA, 64, .inl (fun _ => 0))), (q5, .inl (cA, 64, .inl (fun _ => 0))), (q6, .inl (cA, 64, .inl (fun _ => 0))), (q7, .inl (cA, 64, .inl (fun _ => 0))), (q8, .inr (4, [.null, .null, .null, .null, .null, .null, .null, .int 0]))] H := hP
  have hD : va_D A [(h0, .inr (8, [.ref a1, .ref a2, .ref q2, .null, .ref q1, .ref a3])), (q1, .inl (cA, 64, .inl (fun _ => 0))), (q2, .inr (4, [.ref a1, .ref a2, .ref q3, .ref q4, .ref q5, .ref q6, .ref q7, .int 0])), (q3, .inl (cA, 64, .inl (fun _ => 0))), (q4, .inl (cA, 64, .inl (fun _ => 0))), (q5, .inl (cA, 64, .inl (fun _ => 0))), (q6, .inl (cA, 64, .inl (fun _ => 0))), (q7, .inl (cA, 64, .inl (fun _ => 0))), (q8, .inr (4, [.null, .null, .null, .null, .null, .null, .null, .int 0]))] := hD
  refine lv_dup hx hb dX6_init_44 rfl ?_
  refine lv_aload_n hx hb dX6_init_45 rfl (lv_at hl 1 rfl) ?_
  refine lv_aload_n hx hb dX6_init_46 rfl (lv_at hl 2 rfl) ?_
  have hPc := hP.sub (ws' := [(q8, .inr (4, [.null, .null, .null, .null, .null, .null, .null, .int 0]))]) [8] rfl
  have hDc := hD.sub (ws' := [(q8, .inr (4, [.null, .null, .null, .null, .null, .null, .null, .int 0]))]) [8] (by decide) rfl
  have hFc := va_free (wc := [(q8, .inr (4, [.null, .null, .null, .null, .null, .null, .null, .int 0]))]) hD hS hA [8] rfl
  refine va_callv (va_runI (As := [.ref a1, .ref a2]) (rest := [.ref q8, .ref h0]) ⟨hx, hb, hml, hown, hts⟩ (k2_init l D cA q8 a1 a2 H.size) (cwI 2 hts (sy_goodI kw_86) rfl rfl rfl (htA _ kw_81) (htA _ kw_84) (htA _ kw_85) rfl (by decide +kernel) ⟨Nat.le_of_ble_eq_true rfl, Nat.le_of_ble_eq_true rfl⟩) ⟨pI_blind, fun U hU hW => ⟨rfl, by rw [hU], by rw [hU]; exact hPc, va_K.moved hW.alike hK, hDc.weaken (fun _ _ _ _ => trivial)⟩⟩ rfl rfl hl.1 rfl (lv_room (Nat.le_of_ble_eq_true rfl)) dX6_init_47 ⟨Nat.le_of_ble_eq_true rfl, Nat.le_of_ble_eq_true rfl⟩) hS (fun q _ h => hFc q h) hFc (fun u t H1 locs ht hvm hw hB hz1 hk1 hS => ?_)
  obtain ⟨hP1, hD1⟩ := hB
  rw [ht] at hP1
  obtain ⟨hP, hD⟩ := va_join (wr := [(h0, .inr (8, [.ref a1, .ref a2, .ref q2, .null, .ref q1, .ref a3])), (q1, .inl (cA, 64, .inl (fun _ => 0))), (q2, .inr (4, [.ref a1, .ref a2, .ref q3, .ref q4, .ref q5, .ref q6, .ref q7, .int 0])), (q3, .inl (cA, 64, .inl (fun _ => 0))), (q4, .inl (cA, 64, .inl (fun _ => 0))), (q5, .inl (cA, 64, .inl (fun _ => 0))), (q6, .inl (cA, 64, .inl (fun _ => 0))), (q7, .inl (cA, 64, .inl (fun _ => 0)))]) (w1 := [(q8, .inr (4, [.ref a1, .ref a2, .ref (u 0), .ref (u 1), .ref (u 2), .ref (u 3), .ref (u 4), .int 0])), ((u 0), .inl (cA, 64, .inl (fun _ => 0))), ((u 1), .inl (cA, 64, .inl (fun _ => 0))), ((u 2), .inl (cA, 64, .inl (fun _ => 0))), ((u 3), .inl (cA, 64, .inl (fun _ => 0))), ((u 4), .inl (cA, 64, .inl (fun _ => 0)))]) hP hD [8] [0, 1, 2, 3, 4, 5, 6, 7] rfl rfl (by decide) (by decide) hk1 hFc hP1 hD1
  generalize H1 = H at hP hS ⊢
  generalize u 0 = q9 at hP hD
  generalize u 1 = q10 at hP hD
  generalize u 2 = q11 at hP hD
  generalize u 3 = q12 at hP hD
  generalize u 4 = q13 at hP hD
  have hP : va_P D vwCl [(h0, .inr (8, [.ref a1, .ref a2, .ref q2, .null, .ref q1, .ref a3])), (q1, .inl (cA, 64, .inl (fun _ => 0))), (q2, .inr (4, [.ref a1, .ref a2, .ref q3, .ref q4, .ref q5, .ref q6, .ref q7, .int 0])), (q3, .inl (cA, 64, .inl (fun _ => 0))), (q4, .inl (cA, 64, .inl (fun _ => 0))), (q5, .inl (cA, 64, .inl (fun _ => 0))), (q6, .inl (cA, 64, .inl (fun _ => 0))), (q7, .inl (cA, 64, .inl (fun _ => 0))), (q8, .inr (4, [.ref a1, .ref a2, .ref q9, .ref q10, .ref q11, .ref q12, .ref q13, .int 0])), (q9, .inl (cA, 64, .inl (fun _ => 0))), (q10, .inl (cA, 64, .inl (fun _ => 0))), (q11, .inl (cA, 64, .inl (fun _ => 0))), (q12, .inl (cA, 64, .inl (fun _ => 0))), (q13, .inl (cA, 64, .inl (fun _ => 0)))] H := hP
  have hD : va_D A [(h0, .inr (8, [.ref a1, .ref a2, .ref q2, .null, .ref q1, .ref a3])), (q1, .inl (cA, 64, .inl (fun _ => 0))), (q2, .inr (4, [.ref a1, .ref a2, .ref q3, .ref q4, .ref q5, .ref q6, .ref q7, .int 0])), (q3, .inl (cA, 64, .inl (fun _ => 0))), (q4, .inl (cA, 64, .inl (fun _ => 0))), (q5, .inl (cA, 64, .inl (fun _ => 0))), (q6, .inl (cA, 64, .inl (fun _ => 0))), (q7, .inl (cA, 64, .inl (fun _ => 0))), (q8, .inr (4, [.ref a1, .ref a2, .ref q9, .ref q10, .ref q11, .ref q12, .ref q13, .int 0])), (q9, .inl (cA, 64, .inl (fun _ => 0))), (q10, .inl (cA, 64, .inl (fun _ => 0))), (q11, .inl (cA, 64, .inl (fun _ => 0))), (q12, .inl (cA, 64, .inl (fun _ => 0))), (q13, .inl (cA, 64, .inl (fun _ => 0)))] := hD
  refine va_putF (D := D) (ci := 8) (v := .ref q8) (ty := .object "Grainwright$Grains") (C := RX6) (T := TX6) (N := 6) hx hb htA iA_X6 tyX6 tyX6_ok nmX6 hown hK hP hD hS 0 rfl rfl 3 (by decide) (htA _ kw_83) (fun _ h9 => h9) rfl hin rfl (by decide +kernel) rfl rfl (Nat.le_of_ble_eq_true rfl) dX6_init_50 (fun H locs hP hD hS => ?_)
  have hP : va_P D vwCl [(h0, .inr (8, [.ref a1, .ref a2, .ref q2, .ref q8, .ref q1, .ref a3])), (q1, .inl (cA, 64, .inl (fun _ => 0))), (q2, .inr (4, [.ref a1, .ref a2, .ref q3, .ref q4, .ref q5, .ref q6, .ref q7, .int 0])), (q3, .inl (cA, 64, .inl (fun _ => 0))), (q4, .inl (cA, 64, .inl (fun _ => 0))), (q5, .inl (cA, 64, .inl (fun _ => 0))), (q6, .inl (cA, 64, .inl (fun _ => 0))), (q7, .inl (cA, 64, .inl (fun _ => 0))), (q8, .inr (4, [.ref a1, .ref a2, .ref q9, .ref q10, .ref q11, .ref q12, .ref q13, .int 0])), (q9, .inl (cA, 64, .inl (fun _ => 0))), (q10, .inl (cA, 64, .inl (fun _ => 0))), (q11, .inl (cA, 64, .inl (fun _ => 0))), (q12, .inl (cA, 64, .inl (fun _ => 0))), (q13, .inl (cA, 64, .inl (fun _ => 0)))] H := hP
  have hD : va_D A [(h0, .inr (8, [.ref a1, .ref a2, .ref q2, .ref q8, .ref q1, .ref a3])), (q1, .inl (cA, 64, .inl (fun _ => 0))), (q2, .inr (4, [.ref a1, .ref a2, .ref q3, .ref q4, .ref q5, .ref q6, .ref q7, .int 0])), (q3, .inl (cA, 64, .inl (fun _ => 0))), (q4, .inl (cA, 64, .inl (fun _ => 0))), (q5, .inl (cA, 64, .inl (fun _ => 0))), (q6, .inl (cA, 64, .inl (fun _ => 0))), (q7, .inl (cA, 64, .inl (fun _ => 0))), (q8, .inr (4, [.ref a1, .ref a2, .ref q9, .ref q10, .ref q11, .ref q12, .ref q13, .int 0])), (q9, .inl (cA, 64, .inl (fun _ => 0))), (q10, .inl (cA, 64, .inl (fun _ => 0))), (q11, .inl (cA, 64, .inl (fun _ => 0))), (q12, .inl (cA, 64, .inl (fun _ => 0))), (q13, .inl (cA, 64, .inl (fun _ => 0)))] := hD
  have hP9 := hP.sub (ws' := [(h0, .inr (8, [.ref a1, .ref a2, .ref q2, .ref q8, .ref q1, .ref a3])), (q1, .inl (cA, 64, .inl (fun _ => 0))), (q2, .inr (4, [.ref a1, .ref a2, .ref q3, .ref q4, .ref q5, .ref q6, .ref q7, .int 0])), (q3, .inl (cA, 64, .inl (fun _ => 0))), (q4, .inl (cA, 64, .inl (fun _ => 0))), (q5, .inl (cA, 64, .inl (fun _ => 0))), (q6, .inl (cA, 64, .inl (fun _ => 0))), (q7, .inl (cA, 64, .inl (fun _ => 0))), (q8, .inr (4, [.ref a1, .ref a2, .ref q9, .ref q10, .ref q11, .ref q12, .ref q13, .int 0])), (q9, .inl (cA, 64, .inl (fun _ => 0))), (q10, .inl (cA, 64, .inl (fun _ => 0))), (q11, .inl (cA, 64, .inl (fun _ => 0))), (q12, .inl (cA, 64, .inl (fun _ => 0))), (q13, .inl (cA, 64, .inl (fun _ => 0)))]) [0, 1, 2, 3, 4, 5, 6, 7, 8, 9, 10, 11, 12, 13] rfl
  have hD9 := hD.sub (ws' := [(h0, .inr (8, [.ref a1, .ref a2, .ref q2, .ref q8, .ref q1, .ref a3])), (q1, .inl (cA, 64, .inl (fun _ => 0))), (q2, .inr (4, [.ref a1, .ref a2, .ref q3, .ref q4, .ref q5, .ref q6, .ref q7, .int 0])), (q3, .inl (cA, 64, .inl (fun _ => 0))), (q4, .inl (cA, 64, .inl (fun _ => 0))), (q5, .inl (cA, 64, .inl (fun _ => 0))), (q6, .inl (cA, 64, .inl (fun _ => 0))), (q7, .inl (cA, 64, .inl (fun _ => 0))), (q8, .inr (4, [.ref a1, .ref a2, .ref q9, .ref q10, .ref q11, .ref q12, .ref q13, .int 0])), (q9, .inl (cA, 64, .inl (fun _ => 0))), (q10, .inl (cA, 64, .inl (fun _ => 0))), (q11, .inl (cA, 64, .inl (fun _ => 0))), (q12, .inl (cA, 64, .inl (fun _ => 0))), (q13, .inl (cA, 64, .inl (fun _ => 0)))]) [0, 1, 2, 3, 4, 5, 6, 7, 8, 9, 10, 11, 12, 13] (by decide) rfl
  refine W.widen (k := 13) (n := 720) (Nat.le_of_ble_eq_true rfl) (Nat.le_of_ble_eq_true rfl) ?_
  exact W.vret hx hb hr (fun t ht hW => ⟨⟨fun k => ([q1, q2, q3, q4, q5, q6, q7, q8, q9, q10, q11, q12, q13] : List Nat).getD k 0, rfl, trivial, by rw [ht]; exact hP9, hD9⟩, hS.F ht⟩) hS.2.2 dX6_init_53 hlk
theorem hdI_X1_init : yX1_init.cls = yX1_init.cls ∧ yX1_init.cls ≠ "java/lang/invoke/MethodHandle" ∧ yX1_init.cls ≠ "java/lang/invoke/VarHandle" ∧ (parseMethodDescriptor yX1_init.desc).map (fun d => d.parameters.length) = some 3 := by decide +kernel
set_option maxHeartbeats 4000000 in
set_option maxRecDepth 100000 in
theorem k1_init (l : Launch) (D : va_G) (cA : ClassId) (h0 a1 a2 a3 : Nat) (sz : Nat) : Met l yX1_init (wM yX1_init cX1_init 4 none) ({ frames := 2, cells := 14, slots := 726, locals := 34 }) (va_Pc [.ref h0, .ref a1, .ref a2, .ref a3] (pI D cA [(h0, .inr (3, [.null, .null, .null, .null, .null, .int 0, .int 0, .int 0]))] sz)) (va_Qv (fun _ : Nat → Nat => True) (fun u t => va_P D vwCl [(h0, .inr (3, [.ref a2, .ref (u 0), .ref a3, .ref (u 6), .ref (u 10), .int 0, .int (-1), .int 0])), ((u 0), .inr (4, [.ref a1, .ref a2, .ref (u 1), .ref (u 2), .ref (u 3), .ref (u 4), .ref (u 5), .int 0])), ((u 1), .inl (cA, 64, .inl (fun _ => 0))), ((u 2), .inl (cA, 64, .inl (fun _ => 0))), ((u 3), .inl (cA, 64, .inl (fun _ => 0))), ((u 4), .inl (cA, 64, .inl (fun _ => 0))), ((u 5), .inl (cA, 64, .inl (fun _ => 0))), ((u 6), .inr (5, [.ref a1, .ref a2, .ref (u 7), .ref (u 8), .ref (u 9), .int 7, .int 0])), ((u 7), .inl (cA, 64, .inl (fun _ => 0))), ((u 8), .inl (cA, 64, .inl (fun _ => 0))), ((u 9), .inl (cA, 64, .inl (fun _ => 0))), ((u 10), .inr (5, [.ref a1, .ref a2, .ref (u 11), .ref (u 12), .ref (u 13), .int 7, .int 0])), ((u 11), .inl (cA, 64, .inl (fun _ => 0))), ((u 12), .inl (cA, 64, .inl (fun _ => 0))), ((u 13), .inl (cA, 64, .inl (fun _ => 0)))] t.heap ∧ va_D (va_A [(h0, .inr (3, [.null, .null, .null, .null, .null, .int 0, .int 0, .int 0]))] sz) [(h0, .inr (3, [.ref a2, .ref (u 0), .ref a3, .ref (u 6), .ref (u 10), .int 0, .int (-1), .int 0])), ((u 0), .inr (4, [.ref a1, .ref a2, .ref (u 1), .ref (u 2), .ref (u 3), .ref (u 4), .ref (u 5), .int 0])), ((u 1), .inl (cA, 64, .inl (fun _ => 0))), ((u 2), .inl (cA, 64, .inl (fun _ => 0))), ((u 3), .inl (cA, 64, .inl (fun _ => 0))), ((u 4), .inl (cA, 64, .inl (fun _ => 0))), ((u 5), .inl (cA, 64, .inl (fun _ => 0))), ((u 6), .inr (5, [.ref a1, .ref a2, .ref (u 7), .ref (u 8), .ref (u 9), .int 7, .int 0])), ((u 7), .inl (cA, 64, .inl (fun _ => 0))), ((u 8), .inl (cA, 64, .inl (fun _ => 0))), ((u 9), .inl (cA, 64, .inl (fun _ => 0))), ((u 10), .inr (5, [.ref a1, .ref a2, .ref (u 11), .ref (u 12), .ref (u 13), .int 7, .int 0])), ((u 11), .inl (cA, 64, .inl (fun _ => 0))), ((u 12), .inl (cA, 64, .inl (fun _ => 0))), ((u 13), .inl (cA, 64, .inl (fun _ => 0)))]) (va_A [(h0, .inr (3, [.null, .null, .null, .null, .null, .int 0, .int 0, .int 0]))] sz)) 14 726 (va_A [(h0, .inr (3, [.null, .null, .null, .null, .null, .int 0, .int 0, .int 0]))] sz) := by
  refine Met.ofW (cc := cX1_init) (maxL := 4) (ret := none) (by decide) rfl ?_
  intro p e s m args below meth c s₁ B hml hv
  obtain ⟨rfl, hsz, hP, hK, hD0⟩ := hv
  have hx := B.exec
  have hb := B.bytes
  have hr := B.returns
  have hts := atoms_spec (ws := wM yX1_init cX1_init 4 none) B.pre
  have hown : s.vm.findClass RX1 = some m.cls := findClass_of_methodNamed B.named
  have hlk := B.notSynchronized
  have hin : meth.name = "<init>" := (name_of_methodNamed B.named B.method).1
  have htA : ∀ w ∈ wA, w.before _ s = true := fun w h => hts w (List.mem_cons_of_mem _ h)
  subst hsz
  have hD := hD0.self (sz := s.heap.size)
  generalize hAe : (va_A [(h0, .inr (3, [.null, .null, .null, .null, .null, .int 0, .int 0, .int 0]))] s.heap.size) = A at hD ⊢
  have hA : ∀ q : Nat, s.heap.size ≤ q → A q := fun q h => by rw [← hAe]; exact Or.inr h
  have hS : va_S A s.heap s.heap [] := va_S.rf
  have hP : va_P D vwCl [(h0, .inr (3, [.null, .null, .null, .null, .null, .int 0, .int 0, .int 0]))] s.heap := hP
  have hl := lv_entry ([.ref h0, .ref a1, .ref a2, .ref a3]) (n := 4) (Nat.le_of_ble_eq_true rfl)
  rw [lg_entry_eq]
  generalize (lg_sl ([.ref h0, .ref a1, .ref a2, .ref a3]) ++ List.replicate (4 - (lg_sl ([.ref h0, .ref a1, .ref a2, .ref a3])).length) Slot.unset).toArray = ls at hl ⊢
  have hl : lv_has ls 4 [(0, .ref h0), (1, .ref a1), (2, .ref a2), (3, .ref a3)] := hl
  refine lv_aload_n hx hb dX1_init_0 rfl (lv_at hl 0 rfl) ?_
  refine W.objInit hx hb hown (htA _ kw_99) (htA _ kw_12) (htA _ kw_13) rfl (by rw [hml]; exact hl.1) rfl dX1_init_1 (Nat.le_of_ble_eq_true rfl) (Nat.le_of_ble_eq_true rfl) ?_
  refine W.eq (g2 := F0 m 4 ls []) rfl ?_
  refine lv_aload_n hx hb dX1_init_4 rfl (lv_at hl 0 rfl) ?_
  refine lv_iconst (v := 0) hx hb dX1_init_5 (by decide) ?_
  refine va_put (D := D) (ci := 3) (v := .int 0) (ty := .int) (C := RX1) (T := TX1) (N := 8) hx hb htA iA_X1 tyX1 tyX1_ok nmX1 hown hK hP hD hS 0 rfl rfl 5 (by decide) (htA _ kw_100) (fun _ h9 => h9) rfl (by decide +kernel) rfl rfl (Nat.le_of_ble_eq_true rfl) dX1_init_6 (fun H locs hP hD hS => ?_)
  have hP : va_P D vwCl [(h0, .inr (3, [.null, .null, .null, .null, .null, .int 0, .int 0, .int 0]))] H := hP
  have hD : va_D A [(h0, .inr (3, [.null, .null, .null, .null, .null, .int 0, .int 0, .int 0]))] := hD
  refine lv_aload_n hx hb dX1_init_9 rfl (lv_at hl 0 rfl) ?_
  refine lv_iconst (v := (-1)) hx hb dX1_init_10 (by decide) ?_
  refine va_put (D := D) (ci := 3) (v := .int (-1)) (ty := .int) (C := RX1) (T := TX1) (N := 8) hx hb htA iA_X1 tyX1 tyX1_ok nmX1 hown hK hP hD hS 0 rfl rfl 6 (by decide) (htA _ kw_101) (fun _ h9 => h9) rfl (by decide +kernel) rfl rfl (Nat.le_of_ble_eq_true rfl) dX1_init_11 (fun H locs hP hD hS => ?_)
  have hP : va_P D vwCl [(h0, .inr (3, [.null, .null, .null, .null, .null, .int 0, .int (-1), .int 0]))] H := hP
  have hD : va_D A [(h0, .inr (3, [.null, .null, .null, .null, .null, .int 0, .int (-1), .int 0]))] := hD
  refine lv_aload_n hx hb dX1_init_14 rfl (lv_at hl 0 rfl) ?_
  refine lv_iconst (v := 0) hx hb dX1_init_15 (by decide) ?_
  refine va_put (D := D) (ci := 3) (v := .int 0) (ty := .int) (C := RX1) (T := TX1) (N := 8) hx hb htA iA_X1 tyX1 tyX1_ok nmX1 hown hK hP hD hS 0 rfl rfl 7 (by decide) (htA _ kw_102) (fun _ h9 => h9) rfl (by decide +kernel) rfl rfl (Nat.le_of_ble_eq_true rfl) dX1_init_16 (fun H locs hP hD hS => ?_)
  have hP : va_P D vwCl [(h0, .inr (3, [.null, .null, .null, .null, .null, .int 0, .int (-1), .int 0]))] H := hP
  have hD : va_D A [(h0, .inr (3, [.null, .null, .null, .null, .null, .int 0, .int (-1), .int 0]))] := hD
  refine lv_aload_n hx hb dX1_init_19 rfl (lv_at hl 0 rfl) ?_
  refine lv_aload_n hx hb dX1_init_20 rfl (lv_at hl 2 rfl) ?_
  refine va_putF (D := D) (ci := 3) (v := .ref a2) (ty := .object "Grainwright$Rules") (C := RX1) (T := TX1) (N := 8) hx hb htA iA_X1 tyX1 tyX1_ok nmX1 hown hK hP hD hS 0 rfl rfl 0 (by decide) (htA _ kw_103) (fun _ h9 => h9) rfl hin rfl (by decide +kernel) rfl rfl (Nat.le_of_ble_eq_true rfl) dX1_init_21 (fun H locs hP hD hS => ?_)
  have hP : va_P D vwCl [(h0, .inr (3, [.ref a2, .null, .null, .null, .null, .int 0, .int (-1), .int 0]))] H := hP
  have hD : va_D A [(h0, .inr (3, [.ref a2, .null, .null, .null, .null, .int 0, .int (-1), .int 0]))] := hD
  refine lv_aload_n hx hb dX1_init_24 rfl (lv_at hl 0 rfl) ?_
  refine va_new (D := D) (ci := 4) (fs := [.null, .null, .null, .null, .null, .null, .null, .int 0]) (C := RX2) (T := TX2) (N := 8) hx hb htA iA_X2 tyX2 tyX2_ok hown (htA _ kw_104) (htA _ kw_80) (htA _ kw_81) hK hP hD hS hA rfl (fun j hj => by rcases (show j = 0 ∨ j = 1 ∨ j = 2 ∨ j = 3 ∨ j = 4 ∨ j = 5 ∨ j = 6 ∨ j = 7 by omega) with rfl | rfl | rfl | rfl | rfl | rfl | rfl | rfl <;> rfl) (Nat.le_of_ble_eq_true rfl) (Nat.le_of_ble_eq_true rfl) dX1_init_25 (fun q1 H hP hD hS => ?_)
  have hP : va_P D vwCl [(h0, .inr (3, [.ref a2, .null, .null, .null, .null, .int 0, .int (-1), .int 0])), (q1, .inr (4, [.null, .null, .null, .null, .null, .null, .null, .int 0]))] H := hP
  have hD : va_D A [(h0, .inr (3, [.ref a2, .null, .null, .null, .null, .int 0, .int (-1), .int 0])), (q1, .inr (4, [.null, .null, .null, .null, .null, .null, .null, .int 0]))] := hD
  refine lv_dup hx hb dX1_init_28 rfl ?_
  refine lv_aload_n hx hb dX1_init_29 rfl (lv_at hl 1 rfl) ?_
  refine lv_aload_n hx hb dX1_init_30 rfl (lv_at hl 2 rfl) ?_
  have hPc := hP.sub (ws' := [(q1, .inr (4, [.null, .null, .null, .null, .null, .null, .null, .int 0]))]) [1] rfl
  have hDc := hD.sub (ws' := [(q1, .inr (4, [.null, .null, .null, .null, .null, .null, .null, .int 0]))]) [1] (by decide) rfl
  have hFc := va_free (wc := [(q1, .inr (4, [.null, .null, .null, .null, .null, .null, .null, .int 0]))]) hD hS hA [1] rfl
  refine va_callv (va_runI (As := [.ref a1, .ref a2]) (rest := [.ref q1, .ref h0]) ⟨hx, hb, hml, hown, hts⟩ (k2_init l D cA q1 a1 a2 H.size) (cwI 2 hts (sy_goodI kw_86) rfl rfl rfl (htA _ kw_81) (htA _ kw_110) (htA _ kw_85) rfl (by decide +kernel) ⟨Nat.le_of_ble_eq_true rfl, Nat.le_of_ble_eq_true rfl⟩) ⟨pI_blind, fun U hU hW => ⟨rfl, by rw [hU], by rw [hU]; exact hPc, va_K.moved hW.alike hK, hDc.weaken (fun _ _ _ _ => trivial)⟩⟩ rfl rfl hl.1 rfl (lv_room (Nat.le_of_ble_eq_true rfl)) dX1_init_31 ⟨Nat.le_of_ble_eq_true rfl, Nat.le_of_ble_eq_true rfl⟩) hS (fun q _ h => hFc q h) hFc (fun u t H1 locs ht hvm hw hB hz1 hk1 hS => ?_)
  obtain ⟨hP1, hD1⟩ := hB
  rw [ht] at hP1
  obtain ⟨hP, hD⟩ := va_join (wr := [(h0, .inr (3, [.ref a2, .null, .null, .null, .null, .int 0, .int (-1), .int 0]))]) (w1 := [(q1, .inr (4, [.ref a1, .ref a2, .ref (u 0), .ref (u 1), .ref (u 2), .ref (u 3), .ref (u 4), .int 0])), ((u 0), .inl (cA, 64, .inl (fun _ => 0))), ((u 1), .inl (cA, 64, .inl (fun _ => 0))), ((u 2), .inl (cA, 64, .inl (fun _ => 0))), ((u 3), .inl (cA, 64, .inl (fun _ => 0))), ((u 4), .inl (cA, 64, .inl (fun _ => 0)))]) hP hD [1] [0] rfl rfl (by decide) (by decide) hk1 hFc hP1 hD1
  generalize H1 = H at hP hS ⊢
  generalize u 0 = q2 at hP hD
  generalize u 1 = q3 at hP hD
  generalize u 2 = q4 at hP hD
  generalize u 3 = q5 at hP hD
  generalize u 4 = q6 at hP hD
  have hP : va_P D vwCl [(h0, .inr (3, [.ref a2, .null, .null, .null, .null, .int 0, .int (-1), .int 0])), (q1, .inr (4, [.ref a1, .ref a2, .ref q2, .ref q3, .ref q4, .ref q5, .ref q6, .int 0])), (q2, .inl (cA, 64, .inl (fun _ => 0))), (q3, .inl (cA, 64, .inl (fun _ => 0))), (q4, .inl (cA, 64, .inl (fun _ => 0))), (q5, .inl (cA, 64, .inl (fun _ => 0))), (q6, .inl (cA, 64, .inl (fun _ => 0)))] H := hP
  have hD : va_D A [(h0, .inr (3, [.ref a2, .null, .null, .null, .null, .int 0, .int (-1), .int 0])), (q1, .inr (4, [.ref a1, .ref a2, .ref q2, .ref q3, .ref q4, .ref q5, .ref q6, .int 0])), (q2, .inl (cA, 64, .inl (fun _ => 0))), (q3, .inl (cA, 64, .inl (fun _ => 0))), (q4, .inl (cA, 64, .inl (fun _ => 0))), (q5, .inl (cA, 64, .inl (fun _ => 0))), (q6, .inl (cA, 64, .inl (fun _ => 0)))] := hD
  refine va_putF (D := D) (ci := 3) (v := .ref q1) (ty := .object "Grainwright$Grains") (C := RX1) (T := TX1) (N := 8) hx hb htA iA_X1 tyX1 tyX1_ok nmX1 hown hK hP hD hS 0 rfl rfl 1 (by decide) (htA _ kw_105) (fun _ h9 => h9) rfl hin rfl (by decide +kernel) rfl rfl (Nat.le_of_ble_eq_true rfl) dX1_init_34 (fun H locs hP hD hS => ?_)
  have hP : va_P D vwCl [(h0, .inr (3, [.ref a2, .ref q1, .null, .null, .null, .int 0, .int (-1), .int 0])), (q1, .inr (4, [.ref a1, .ref a2, .ref q2, .ref q3, .ref q4, .ref q5, .ref q6, .int 0])), (q2, .inl (cA, 64, .inl (fun _ => 0))), (q3, .inl (cA, 64, .inl (fun _ => 0))), (q4, .inl (cA, 64, .inl (fun _ => 0))), (q5, .inl (cA, 64, .inl (fun _ => 0))), (q6, .inl (cA, 64, .inl (fun _ => 0)))] H := hP
  have hD : va_D A [(h0, .inr (3, [.ref a2, .ref q1, .null, .null, .null, .int 0, .int (-1), .int 0])), (q1, .inr (4, [.ref a1, .ref a2, .ref q2, .ref q3, .ref q4, .ref q5, .ref q6, .int 0])), (q2, .inl (cA, 64, .inl (fun _ => 0))), (q3, .inl (cA, 64, .inl (fun _ => 0))), (q4, .inl (cA, 64, .inl (fun _ => 0))), (q5, .inl (cA, 64, .inl (fun _ => 0))), (q6, .inl (cA, 64, .inl (fun _ => 0)))] := hD
  refine lv_aload_n hx hb dX1_init_37 rfl (lv_at hl 0 rfl) ?_
  refine lv_aload_n hx hb dX1_init_38 rfl (lv_at hl 3 rfl) ?_
  refine va_putF (D := D) (ci := 3) (v := .ref a3) (ty := .object "Grainwright$Piece") (C := RX1) (T := TX1) (N := 8) hx hb htA iA_X1 tyX1 tyX1_ok nmX1 hown hK hP hD hS 0 rfl rfl 2 (by decide) (htA _ kw_106) (fun _ h9 => h9) rfl hin rfl (by decide +kernel) rfl rfl (Nat.le_of_ble_eq_true rfl) dX1_init_39 (fun H locs hP hD hS => ?_)
  have hP : va_P D vwCl [(h0, .inr (3, [.ref a2, .ref q1, .ref a3, .null, .null, .int 0, .int (-1), .int 0])), (q1, .inr (4, [.ref a1, .ref a2, .ref q2, .ref q3, .ref q4, .ref q5, .ref q6, .int 0])), (q2, .inl (cA, 64, .inl (fun _ => 0))), (q3, .inl (cA, 64, .inl (fun _ => 0))), (q4, .inl (cA, 64, .inl (fun _ => 0))), (q5, .inl (cA, 64, .inl (fun _ => 0))), (q6, .inl (cA, 64, .inl (fun _ => 0)))] H := hP
  have hD : va_D A [(h0, .inr (3, [.ref a2, .ref q1, .ref a3, .null, .null, .int 0, .int (-1), .int 0])), (q1, .inr (4, [.ref a1, .ref a2, .ref q2, .ref q3, .ref q4, .ref q5, .ref q6, .int 0])), (q2, .inl (cA, 64, .inl (fun _ => 0))), (q3, .inl (cA, 64, .inl (fun _ => 0))), (q4, .inl (cA, 64, .inl (fun _ => 0))), (q5, .inl (cA, 64, .inl (fun _ => 0))), (q6, .inl (cA, 64, .inl (fun _ => 0)))] := hD
  refine lv_aload_n hx hb dX1_init_42 rfl (lv_at hl 0 rfl) ?_
  refine va_new (D := D) (ci := 5) (fs := [.null, .null, .null, .null, .null, .int 0, .int 0]) (C := RX3) (T := TX3) (N := 7) hx hb htA iA_X3 tyX3 tyX3_ok hown (htA _ kw_107) (htA _ kw_23) (htA _ kw_24) hK hP hD hS hA rfl (fun j hj => by rcases (show j = 0 ∨ j = 1 ∨ j = 2 ∨ j = 3 ∨ j = 4 ∨ j = 5 ∨ j = 6 by omega) with rfl | rfl | rfl | rfl | rfl | rfl | rfl <;> rfl) (Nat.le_of_ble_eq_true rfl) (Nat.le_of_ble_eq_true rfl) dX1_init_43 (fun q7 H hP hD hS => ?_)
  have hP : va_P D vwCl [(h0, .inr (3, [.ref a2, .ref q1, .ref a3, .null, .null, .int 0, .int (-1), .int 0])), (q1, .inr (4, [.ref a1, .ref a2, .ref q2, .ref q3, .ref q4, .ref q5, .ref q6, .int 0])), (q2, .inl (cA, 64, .inl (fun _ => 0))), (q3, .inl (cA, 64, .inl (fun _ => 0))), (q4, .inl (cA, 64, .inl (fun _ => 0))), (q5, .inl (cA, 64, .inl (fun _ => 0))), (q6, .inl (cA, 64, .inl (fun _ => 0))), (q7, .inr (5, [.null, .null, .null, .null, .null, .int 0, .int 0]))] H := hP
  have hD : va_D A [(h0, .inr (3, [.ref a2, .ref q1, .ref a3, .null, .null, .int 0, .int (-1), .int 0])), (q1, .inr (4, [.ref a1, .ref a2, .ref q2, .ref q3, .ref q4, .ref q5, .ref q6, .int 0])), (q2, .inl (cA, 64, .inl (fun _ => 0))), (q3, .inl (cA, 64, .inl (fun _ => 0))), (q4, .inl (cA, 64, .inl (fun _ => 0))), (q5, .inl (cA, 64, .inl (fun _ => 0))), (q6, .inl (cA, 64, .inl (fun _ => 0))), (q7, .inr (5, [.null, .null, .null, .null, .null, .int 0, .int 0]))] := hD
  refine lv_dup hx hb dX1_init_46 rfl ?_
  refine lv_aload_n hx hb dX1_init_47 rfl (lv_at hl 1 rfl) ?_
  refine lv_aload_n hx hb dX1_init_48 rfl (lv_at hl 2 rfl) ?_
  have hPc := hP.sub (ws' := [(q7, .inr (5, [.null, .null, .null, .null, .null, .int 0, .int 0]))]) [7] rfl
  have hDc := hD.sub (ws' := [(q7, .inr (5, [.null, .null, .null, .null, .null, .int 0, .int 0]))]) [7] (by decide) rfl
  have hFc := va_free (wc := [(q7, .inr (5, [.null, .null, .null, .null, .null, .int 0, .int 0]))]) hD hS hA [7] rfl
  refine va_callv (va_runI (As := [.ref a1, .ref a2]) (rest := [.ref q7, .ref h0]) ⟨hx, hb, hml, hown, hts⟩ (k3_init l D cA q7 a1 a2 H.size) (cwI 2 hts (sy_goodI kw_62) rfl rfl rfl (htA _ kw_24) (htA _ kw_111) (htA _ kw_61) rfl (by decide +kernel) ⟨Nat.le_of_ble_eq_true rfl, Nat.le_of_ble_eq_true rfl⟩) ⟨pI_blind, fun U hU hW => ⟨rfl, by rw [hU], by rw [hU]; exact hPc, va_K.moved hW.alike hK, hDc.weaken (fun _ _ _ _ => trivial)⟩⟩ rfl rfl hl.1 rfl (lv_room (Nat.le_of_ble_eq_true rfl)) dX1_init_49 ⟨Nat.le_of_ble_eq_true rfl, Nat.le_of_ble_eq_true rfl⟩) hS (fun q _ h => hFc q h) hFc (fun u t H1 locs ht hvm hw hB hz1 hk1 hS => ?_)
  obtain ⟨hP1, hD1⟩ := hB
  rw [ht] at hP1
  obtain ⟨hP, hD⟩ := va_join (wr := [(h0, .inr (3, [.ref a2, .ref q1, .ref a3, .null, .null, .int 0, .int (-1), .int 0])), (q1, .inr (4, [.ref a1, .ref a2, .ref q2, .ref q3, .ref q4, .ref q5, .ref q6, .int 0])), (q2, .inl (cA, 64, .inl (fun _ => 0))), (q3, .inl (cA, 64, .inl (fun _ => 0))), (q4, .inl (cA, 64, .inl (fun _ => 0))), (q5, .inl (cA, 64, .inl (fun _ => 0))), (q6, .inl (cA, 64, .inl (fun _ => 0)))]) (w1 := [(q7, .inr (5, [.ref a1, .ref a2, .ref (u 0), .ref (u 1), .ref (u 2), .int 7, .int 0])), ((u 0), .inl (cA, 64, .inl (fun _ => 0))), ((u 1), .inl (cA, 64, .inl (fun _ => 0))), ((u 2), .inl (cA, 64, .inl (fun _ => 0)))]) hP hD [7] [0, 1, 2, 3, 4, 5, 6] rfl rfl (by decide) (by decide) hk1 hFc hP1 hD1
  generalize H1 = H at hP hS ⊢
  generalize u 0 = q8 at hP hD
  generalize u 1 = q9 at hP hD
  generalize u 2 = q10 at hP hD
  have hP : va_P D vwCl [(h0, .inr (3, [.ref a2, .ref q1, .ref a3, .null, .null, .int 0, .int (-1), .int 0])), (q1, .inr (4, [.ref a1, .ref a2, .ref q2, .ref q3, .ref q4, .ref q5, .ref q6, .int 0])), (q2, .inl (cA, 64, .inl (fun _ => 0))), (q3, .inl (cA, 64, .inl (fun _ => 0))), (q4, .inl (cA, 64, .inl (fun _ => 0))), (q5, .inl (cA, 64, .inl (fun _ => 0))), (q6, .inl (cA, 64, .inl (fun _ => 0))), (q7, .inr (5, [.ref a1, .ref a2, .ref q8, .ref q9, .ref q10, .int 7, .int 0])), (q8, .inl (cA, 64, .inl (fun _ => 0))), (q9, .inl (cA, 64, .inl (fun _ => 0))), (q10, .inl (cA, 64, .inl (fun _ => 0)))] H := hP
  have hD : va_D A [(h0, .inr (3, [.ref a2, .ref q1, .ref a3, .null, .null, .int 0, .int (-1), .int 0])), (q1, .inr (4, [.ref a1, .ref a2, .ref q2, .ref q3, .ref q4, .ref q5, .ref q6, .int 0])), (q2, .inl (cA, 64, .inl (fun _ => 0))), (q3, .inl (cA, 64, .inl (fun _ => 0))), (q4, .inl (cA, 64, .inl (fun _ => 0))), (q5, .inl (cA, 64, .inl (fun _ => 0))), (q6, .inl (cA, 64, .inl (fun _ => 0))), (q7, .inr (5, [.ref a1, .ref a2, .ref q8, .ref q9, .ref q10, .int 7, .int 0])), (q8, .inl (cA, 64, .inl (fun _ => 0))), (q9, .inl (cA, 64, .inl (fun _ => 0))), (q10, .inl (cA, 64, .inl (fun _ => 0)))] := hD
  refine va_putF (D := D) (ci := 3) (v := .ref q7) (ty := .object "Grainwright$Piece") (C := RX1) (T := TX1) (N := 8) hx hb htA iA_X1 tyX1 tyX1_ok nmX1 hown hK hP hD hS 0 rfl rfl 3 (by decide) (htA _ kw_108) (fun _ h9 => h9) rfl hin rfl (by decide +kernel) rfl rfl (Nat.le_of_ble_eq_true rfl) dX1_init_52 (fun H locs hP hD hS => ?_)
  have hP : va_P D vwCl [(h0, .inr (3, [.ref a2, .ref q1, .ref a3, .ref q7, .null, .int 0, .int (-1), .int 0])), (q1, .inr (4, [.ref a1, .ref a2, .ref q2, .ref q3, .ref q4, .ref q5, .ref q6, .int 0])), (q2, .inl (cA, 64, .inl (fun _ => 0))), (q3, .inl (cA, 64, .inl (fun _ => 0))), (q4, .inl (cA, 64, .inl (fun _ => 0))), (q5, .inl (cA, 64, .inl (fun _ => 0))), (q6, .inl (cA, 64, .inl (fun _ => 0))), (q7, .inr (5, [.ref a1, .ref a2, .ref q8, .ref q9, .ref q10, .int 7, .int 0])), (q8, .inl (cA, 64, .inl (fun _ => 0))), (q9, .inl (cA, 64, .inl (fun _ => 0))), (q10, .inl (cA, 64, .inl (fun _ => 0)))] H := hP
  have hD : va_D A [(h0, .inr (3, [.ref a2, .ref q1, .ref a3, .ref q7, .null, .int 0, .int (-1), .int 0])), (q1, .inr (4, [.ref a1, .ref a2, .ref q2, .ref q3, .ref q4, .ref q5, .ref q6, .int 0])), (q2, .inl (cA, 64, .inl (fun _ => 0))), (q3, .inl (cA, 64, .inl (fun _ => 0))), (q4, .inl (cA, 64, .inl (fun _ => 0))), (q5, .inl (cA, 64, .inl (fun _ => 0))), (q6, .inl (cA, 64, .inl (fun _ => 0))), (q7, .inr (5, [.ref a1, .ref a2, .ref q8, .ref q9, .ref q10, .int 7, .int 0])), (q8, .inl (cA, 64, .inl (fun _ => 0))), (q9, .inl (cA, 64, .inl (fun _ => 0))), (q10, .inl (cA, 64, .inl (fun _ => 0)))] := hD
  refine lv_aload_n hx hb dX1_init_55 rfl (lv_at hl 0 rfl) ?_
  refine va_new (D := D) (ci := 5) (fs := [.null, .null, .null, .null, .null, .int 0, .int 0]) (C := RX3) (T := TX3) (N := 7) hx hb htA iA_X3 tyX3 tyX3_ok hown (htA _ kw_107) (htA _ kw_23) (htA _ kw_24) hK hP hD hS hA rfl (fun j hj => by rcases (show j = 0 ∨ j = 1 ∨ j = 2 ∨ j = 3 ∨ j = 4 ∨ j = 5 ∨ j = 6 by omega) with rfl | rfl | rfl | rfl | rfl | rfl | rfl <;> rfl) (Nat.le_of_ble_eq_true rfl) (Nat.le_of_ble_eq_true rfl) dX1_init_56 (fun q11 H hP hD hS => ?_)
  have hP : va_P D vwCl [(h0, .inr (3, [.ref a2, .ref q1, .ref a3, .ref q7, .null, .int 0, .int (-1), .int 0])), (q1, .inr (4, [.ref a1, .ref a2, .ref q2, .ref q3, .ref q4, .ref q5, .ref q6, .int 0])), (q2, .inl (cA, 64, .inl (fun _ => 0))), (q3, .inl (cA, 64, .inl (fun _ => 0))), (q4, .inl (cA, 64, .inl (fun _ => 0))), (q5, .inl (cA, 64, .inl (fun _ => 0))), (q6, .inl (cA, 64, .inl (fun _ => 0))), (q7, .inr (5, [.ref a1, .ref a2, .ref q8, .ref q9, .ref q10, .int 7, .int 0])), (q8, .inl (cA, 64, .inl (fun _ => 0))), (q9, .inl (cA, 64, .inl (fun _ => 0))), (q10, .inl (cA, 64, .inl (fun _ => 0))), (q11, .inr (5, [.null, .null, .null, .null, .null, .int 0, .int 0]))] H := hP
  have hD : va_D A [(h0, .inr (3, [.ref a2, .ref q1, .ref a3, .ref q7, .null, .int 0, .int (-1), .int 0])), (q1, .inr (4, [.ref a1, .ref a2, .ref q2, .ref q3, .ref q4, .ref q5, .ref q6, .int 0])), (q2, .inl (cA, 64, .inl (fun _ => 0))), (q3, .inl (cA, 64, .inl (fun _ => 0))), (q4, .inl (cA, 64, .inl (fun _ => 0))), (q5, .inl (cA, 64, .inl (fun _ => 0))), (q6, .inl (cA, 64, .inl (fun _ => 0))), (q7, .inr (5, [.ref a1, .ref a2, .ref q8, .ref q9, .ref q10, .int 7, .int 0])), (q8, .inl (cA, 64, .inl (fun _ => 0))), (q9, .inl (cA, 64, .inl (fun _ => 0))), (q10, .inl (cA, 64, .inl (fun _ => 0))), (q11, .inr (5, [.null, .null, .null, .null, .null, .int 0, .int 0]))] := hD
  refine lv_dup hx hb dX1_init_59 rfl ?_
  refine lv_aload_n hx hb dX1_init_60 rfl (lv_at hl 1 rfl) ?_
  refine lv_aload_n hx hb dX1_init_61 rfl (lv_at hl 2 rfl) ?_
  have hPc := hP.sub (ws' := [(q11, .inr (5, [.null, .null, .null, .null, .null, .int 0, .int 0]))]) [11] rfl
  have hDc := hD.sub (ws' := [(q11, .inr (5, [.null, .null, .null, .null, .null, .int 0, .int 0]))]) [11] (by decide) rfl
  have hFc := va_free (wc := [(q11, .inr (5, [.null, .null, .null, .null, .null, .int 0, .int 0]))]) hD hS hA [11] rfl
  refine va_callv (va_runI (As := [.ref a1, .ref a2]) (rest := [.ref q11, .ref h0]) ⟨hx, hb, hml, hown, hts⟩ (k3_init l D cA q11 a1 a2 H.size) (cwI 2 hts (sy_goodI kw_62) rfl rfl rfl (htA _ kw_24) (htA _ kw_111) (htA _ kw_61) rfl (by decide +kernel) ⟨Nat.le_of_ble_eq_true rfl, Nat.le_of_ble_eq_true rfl⟩) ⟨pI_blind, fun U hU hW => ⟨rfl, by rw [hU], by rw [hU]; exact hPc, va_K.moved hW.alike hK, hDc.weaken (fun _ _ _ _ => trivial)⟩⟩ rfl rfl hl.1 rfl (lv_room (Nat.le_of_ble_eq_true rfl)) dX1_init_62 ⟨Nat.le_of_ble_eq_true rfl, Nat.le_of_ble_eq_true rfl⟩) hS (fun q _ h => hFc q h) hFc (fun u t H1 locs ht hvm hw hB hz1 hk1 hS => ?_)
  obtain ⟨hP1, hD1⟩ := hB
  rw [ht] at hP1
  obtain ⟨hP, hD⟩ := va_join (wr := [(h0, .inr (3, [.ref a2, .ref q1, .ref a3, .ref q7, .null, .int 0, .int (-1), .int 0])), (q1, .inr (4, [.ref a1, .ref a2, .ref q2, .ref q3, .ref q4, .ref q5, .ref q6, .int 0])), (q2, .inl (cA, 64, .inl (fun _ => 0))), (q3, .inl (cA, 64, .inl (fun _ => 0))), (q4, .inl (cA, 64, .inl (fun _ => 0))), (q5, .inl (cA, 64, .inl (fun _ => 0))), (q6, .inl (cA, 64, .inl (fun _ => 0))), (q7, .inr (5, [.ref a1, .ref a2, .ref q8, .ref q9, .ref q10, .int 7, .int 0])), (q8, .inl (cA, 64, .inl (fun _ => 0))), (q9, .inl (cA, 64, .inl (fun _ => 0))), (q10, .inl (cA, 64, .inl (fun _ => 0)))]) (w1 := [(q11, .inr (5, [.ref a1, .ref a2, .ref (u 0), .ref (u 1), .ref (u 2), .int 7, .int 0])), ((u 0), .inl (cA, 64, .inl (fun _ => 0))), ((u 1), .inl (cA, 64, .inl (fun _ => 0))), ((u 2), .inl (cA, 64, .inl (fun _ => 0)))]) hP hD [11] [0, 1, 2, 3, 4, 5, 6, 7, 8, 9, 10] rfl rfl (by decide) (by decide) hk1 hFc hP1 hD1
  generalize H1 = H at hP hS ⊢
  generalize u 0 = q12 at hP hD
  generalize u 1 = q13 at hP hD
  generalize u 2 = q14 at hP hD
  have hP : va_P D vwCl [(h0, .inr (3, [.ref a2, .ref q1, .ref a3, .ref q7, .null, .int 0, .int (-1), .int 0])), (q1, .inr (4, [.ref a1, .ref a2, .ref q2, .ref q3, .ref q4, .ref q5, .ref q6, .int 0])), (q2, .inl (cA, 64, .inl (fun _ => 0))), (q3, .inl (cA, 64, .inl (fun _ => 0))), (q4, .inl (cA, 64, .inl (fun _ => 0))), (q5, .inl (cA, 64, .inl (fun _ => 0))), (q6, .inl (cA, 64, .inl (fun _ => 0))), (q7, .inr (5, [.ref a1, .ref a2, .ref q8, .ref q9, .ref q10, .int 7, .int 0])), (q8, .inl (cA, 64, .inl (fun _ => 0))), (q9, .inl (cA, 64, .inl (fun _ => 0))), (q10, .inl (cA, 64, .inl (fun _ => 0))), (q11, .inr (5, [.ref a1, .ref a2, .ref q12, .ref q13, .ref q14, .int 7, .int 0])), (q12, .inl (cA, 64, .inl (fun _ => 0))), (q13, .inl (cA, 64, .inl (fun _ => 0))), (q14, .inl (cA, 64, .inl (fun _ => 0)))] H := hP
  have hD : va_D A [(h0, .inr (3, [.ref a2, .ref q1, .ref a3, .ref q7, .null, .int 0, .int (-1), .int 0])), (q1, .inr (4, [.ref a1, .ref a2, .ref q2, .ref q3, .ref q4, .ref q5, .ref q6, .int 0])), (q2, .inl (cA, 64, .inl (fun _ => 0))), (q3, .inl (cA, 64, .inl (fun _ => 0))), (q4, .inl (cA, 64, .inl (fun _ => 0))), (q5, .inl (cA, 64, .inl (fun _ => 0))), (q6, .inl (cA, 64, .inl (fun _ => 0))), (q7, .inr (5, [.ref a1, .ref a2, .ref q8, .ref q9, .ref q10, .int 7, .int 0])), (q8, .inl (cA, 64, .inl (fun _ => 0))), (q9, .inl (cA, 64, .inl (fun _ => 0))), (q10, .inl (cA, 64, .inl (fun _ => 0))), (q11, .inr (5, [.ref a1, .ref a2, .ref q12, .ref q13, .ref q14, .int 7, .int 0])), (q12, .inl (cA, 64, .inl (fun _ => 0))), (q13, .inl (cA, 64, .inl (fun _ => 0))), (q14, .inl (cA, 64, .inl (fun _ => 0)))] := hD
  refine va_putF (D := D) (ci := 3) (v := .ref q11) (ty := .object "Grainwright$Piece") (C := RX1) (T := TX1) (N := 8) hx hb htA iA_X1 tyX1 tyX1_ok nmX1 hown hK hP hD hS 0 rfl rfl 4 (by decide) (htA _ kw_109) (fun _ h9 => h9) rfl hin rfl (by decide +kernel) rfl rfl (Nat.le_of_ble_eq_true rfl) dX1_init_65 (fun H locs hP hD hS => ?_)
  have hP : va_P D vwCl [(h0, .inr (3, [.ref a2, .ref q1, .ref a3, .ref q7, .ref q11, .int 0, .int (-1), .int 0])), (q1, .inr (4, [.ref a1, .ref a2, .ref q2, .ref q3, .ref q4, .ref q5, .ref q6, .int 0])), (q2, .inl (cA, 64, .inl (fun _ => 0))), (q3, .inl (cA, 64, .inl (fun _ => 0))), (q4, .inl (cA, 64, .inl (fun _ => 0))), (q5, .inl (cA, 64, .inl (fun _ => 0))), (q6, .inl (cA, 64, .inl (fun _ => 0))), (q7, .inr (5, [.ref a1, .ref a2, .ref q8, .ref q9, .ref q10, .int 7, .int 0])), (q8, .inl (cA, 64, .inl (fun _ => 0))), (q9, .inl (cA, 64, .inl (fun _ => 0))), (q10, .inl (cA, 64, .inl (fun _ => 0))), (q11, .inr (5, [.ref a1, .ref a2, .ref q12, .ref q13, .ref q14, .int 7, .int 0])), (q12, .inl (cA, 64, .inl (fun _ => 0))), (q13, .inl (cA, 64, .inl (fun _ => 0))), (q14, .inl (cA, 64, .inl (fun _ => 0)))] H := hP
  have hD : va_D A [(h0, .inr (3, [.ref a2, .ref q1, .ref a3, .ref q7, .ref q11, .int 0, .int (-1), .int 0])), (q1, .inr (4, [.ref a1, .ref a2, .ref q2, .ref q3, .ref q4, .ref q5, .ref q6, .int 0])), (q2, .inl (cA, 64, .inl (fun _ => 0))), (q3, .inl (cA, 64, .inl (fun _ => 0))), (q4, .inl (cA, 64, .inl (fun _ => 0))), (q5, .inl (cA, 64, .inl (fun _ => 0))), (q6, .inl (cA, 64, .inl (fun _ => 0))), (q7, .inr (5, [.ref a1, .ref a2, .ref q8, .ref q9, .ref q10, .int 7, .int 0])), (q8, .inl (cA, 64, .inl (fun _ => 0))), (q9, .inl (cA, 64, .inl (fun _ => 0))), (q10, .inl (cA, 64, .inl (fun _ => 0))), (q11, .inr (5, [.ref a1, .ref a2, .ref q12, .ref q13, .ref q14, .int 7, .int 0])), (q12, .inl (cA, 64, .inl (fun _ => 0))), (q13, .inl (cA, 64, .inl (fun _ => 0))), (q14, .inl (cA, 64, .inl (fun _ => 0)))] := hD
  have hP9 := hP.sub (ws' := [(h0, .inr (3, [.ref a2, .ref q1, .ref a3, .ref q7, .ref q11, .int 0, .int (-1), .int 0])), (q1, .inr (4, [.ref a1, .ref a2, .ref q2, .ref q3, .ref q4, .ref q5, .ref q6, .int 0])), (q2, .inl (cA, 64, .inl (fun _ => 0))), (q3, .inl (cA, 64, .inl (fun _ => 0))), (q4, .inl (cA, 64, .inl (fun _ => 0))), (q5, .inl (cA, 64, .inl (fun _ => 0))), (q6, .inl (cA, 64, .inl (fun _ => 0))), (q7, .inr (5, [.ref a1, .ref a2, .ref q8, .ref q9, .ref q10, .int 7, .int 0])), (q8, .inl (cA, 64, .inl (fun _ => 0))), (q9, .inl (cA, 64, .inl (fun _ => 0))), (q10, .inl (cA, 64, .inl (fun _ => 0))), (q11, .inr (5, [.ref a1, .ref a2, .ref q12, .ref q13, .ref q14, .int 7, .int 0])), (q12, .inl (cA, 64, .inl (fun _ => 0))), (q13, .inl (cA, 64, .inl (fun _ => 0))), (q14, .inl (cA, 64, .inl (fun _ => 0)))]) [0, 1, 2, 3, 4, 5, 6, 7, 8, 9, 10, 11, 12, 13, 14] rfl
  have hD9 := hD.sub (ws' := [(h0, .inr (3, [.ref a2, .ref q1, .ref a3, .ref q7, .ref q11, .int 0, .int (-1), .int 0])), (q1, .inr (4, [.ref a1, .ref a2, .ref q2, .ref q3, .ref q4, .ref q5, .ref q6, .int 0])), (q2, .inl (cA, 64, .inl (fun _ => 0))), (q3, .inl (cA, 64, .inl (fun _ => 0))), (q4, .inl (cA, 64, .inl (fun _ => 0))), (q5, .inl (cA, 64, .inl (fun _ => 0))), (q6, .inl (cA, 64, .inl (fun _ => 0))), (q7, .inr (5, [.ref a1, .ref a2, .ref q8, .ref q9, .ref q10, .int 7, .int 0])), (q8, .inl (cA, 64, .inl (fun _ => 0))), (q9, .inl (cA, 64, .inl (fun _ => 0))), (q10, .inl (cA, 64, .inl (fun _ => 0))), (q11, .inr (5, [.ref a1, .ref a2, .ref q12, .ref q13, .ref q14, .int 7, .int 0])), (q12, .inl (cA, 64, .inl (fun _ => 0))), (q13, .inl (cA, 64, .inl (fun _ => 0))), (q14, .inl (cA, 64, .inl (fun _ => 0)))]) [0, 1, 2, 3, 4, 5, 6, 7, 8, 9, 10, 11, 12, 13, 14] (by decide) rfl
  refine W.widen (k := 14) (n := 726) (Nat.le_of_ble_eq_true rfl) (Nat.le_of_ble_eq_true rfl) ?_
  exact W.vret hx hb hr (fun t ht hW => ⟨⟨fun k => ([q1, q2, q3, q4, q5, q6, q7, q8, q9, q10, q11, q12, q13, q14] : List Nat).getD k 0, rfl, trivial, by rw [ht]; exact hP9, hD9⟩, hS.F ht⟩) hS.2.2 dX1_init_68 hlk
theorem hdI_X0_init : yX0_init.cls = yX0_init.cls ∧ yX0_init.cls ≠ "java/lang/invoke/MethodHandle" ∧ yX0_init.cls ≠ "java/lang/invoke/VarHandle" ∧ (parseMethodDescriptor yX0_init.desc).map (fun d => d.parameters.length) = some 3 := by decide +kernel
set_option maxHeartbeats 4000000 in
set_option maxRecDepth 100000 in
theorem k0_init (l : Launch) (D : va_G) (cA : ClassId) (h0 a1 a2 a3 : Nat) (sz : Nat) : Met l yX0_init (wM yX0_init cX0_init 4 none) ({ frames := 1, cells := 2, slots := 13, locals := 12 }) (va_Pc [.ref h0, .ref a1, .ref a2, .ref a3] (pI D cA [(h0, .inr (2, [.null, .null, .null, .null, .null, .int 0, .int 0, .int 0, .int 0]))] sz)) (va_Qv (fun _ : Nat → Nat => True) (fun u t => va_P D vwCl [(h0, .inr (2, [.ref a1, .ref a2, .ref a3, .ref (u 0), .ref (u 1), .int 0, .int 0, .int 0, .int 0])), ((u 0), .inl (cA, 4, .inl (fun _ => 0))), ((u 1), .inl (cA, 9, .inl (fun _ => 0)))] t.heap ∧ va_D (va_A [(h0, .inr (2, [.null, .null, .null, .null, .null, .int 0, .int 0, .int 0, .int 0]))] sz) [(h0, .inr (2, [.ref a1, .ref a2, .ref a3, .ref (u 0), .ref (u 1), .int 0, .int 0, .int 0, .int 0])), ((u 0), .inl (cA, 4, .inl (fun _ => 0))), ((u 1), .inl (cA, 9, .inl (fun _ => 0)))]) (va_A [(h0, .inr (2, [.null, .null, .null, .null, .null, .int 0, .int 0, .int 0, .int 0]))] sz)) 2 13 (va_A [(h0, .inr (2, [.null, .null, .null, .null, .null, .int 0, .int 0, .int 0, .int 0]))] sz) := by
  refine Met.ofW (cc := cX0_init) (maxL := 4) (ret := none) (by decide) rfl ?_
  intro p e s m args below meth c s₁ B hml hv
  obtain ⟨rfl, hsz, hP, hK, hD0⟩ := hv
  have hx := B.exec
  have hb := B.bytes
  have hr := B.returns
  have hts := atoms_spec (ws := wM yX0_init cX0_init 4 none) B.pre
  have hown : s.vm.findClass RX0 = some m.cls := findClass_of_methodNamed B.named
  have hlk := B.notSynchronized
  have hin : meth.name = "<init>" := (name_of_methodNamed B.named B.method).1
  have htA : ∀ w ∈ wA, w.before _ s = true := fun w h => hts w (List.mem_cons_of_mem _ h)
  subst hsz
  have hD := hD0.self (sz := s.heap.size)
  generalize hAe : (va_A [(h0, .inr (2, [.null, .null, .null, .null, .null, .int 0, .int 0, .int 0, .int 0]))] s.heap.size) = A at hD ⊢
  have hA : ∀ q : Nat, s.heap.size ≤ q → A q := fun q h => by rw [← hAe]; exact Or.inr h
  have hS : va_S A s.heap s.heap [] := va_S.rf
  have hP : va_P D vwCl [(h0, .inr (2, [.null, .null, .null, .null, .null, .int 0, .int 0, .int 0, .int 0]))] s.heap := hP
  have hl := lv_entry ([.ref h0, .ref a1, .ref a2, .ref a3]) (n := 4) (Nat.le_of_ble_eq_true rfl)
  rw [lg_entry_eq]
  generalize (lg_sl ([.ref h0, .ref a1, .ref a2, .ref a3]) ++ List.replicate (4 - (lg_sl ([.ref h0, .ref a1, .ref a2, .ref a3])).length) Slot.unset).toArray = ls at hl ⊢
  have hl : lv_has ls 4 [(0, .ref h0), (1, .ref a1), (2, .ref a2), (3, .ref a3)] := hl
  refine lv_aload_n hx hb dX0_init_0 rfl (lv_at hl 0 rfl) ?_
  refine W.objInit hx hb hown (htA _ kw_115) (htA _ kw_12) (htA _ kw_13) rfl (by rw [hml]; exact hl.1) rfl dX0_init_1 (Nat.le_of_ble_eq_true rfl) (Nat.le_of_ble_eq_true rfl) ?_
  refine W.eq (g2 := F0 m 4 ls []) rfl ?_
  refine lv_aload_n hx hb dX0_init_4 rfl (lv_at hl 0 rfl) ?_
  refine lv_iconst (v := 4) hx hb dX0_init_5 (by decide) ?_
  refine ct_newa (N' := 4) hx hb (htA _ kw_42) hK hP hD hS hA (by decide) (by decide) (Nat.le_of_ble_eq_true rfl) (Nat.le_of_ble_eq_true rfl) (Nat.le_of_ble_eq_true rfl) dX0_init_6 (fun q1 H hP hD hS => ?_)
  have hP : va_P D vwCl [(h0, .inr (2, [.null, .null, .null, .null, .null, .int 0, .int 0, .int 0, .int 0])), (q1, .inl (cA, 4, .inl (fun _ => 0)))] H := hP
  have hD : va_D A [(h0, .inr (2, [.null, .null, .null, .null, .null, .int 0, .int 0, .int 0, .int 0])), (q1, .inl (cA, 4, .inl (fun _ => 0)))] := hD
  refine va_putF (D := D) (ci := 2) (v := .ref q1) (ty := .array .int) (C := RX0) (T := TX0) (N := 9) hx hb htA iA_X0 tyX0 tyX0_ok nmX0 hown hK hP hD hS 0 rfl rfl 3 (by decide) (htA _ kw_116) (fun _ h9 => h9) rfl hin rfl (by decide +kernel) rfl rfl (Nat.le_of_ble_eq_true rfl) dX0_init_8 (fun H locs hP hD hS => ?_)
  have hP : va_P D vwCl [(h0, .inr (2, [.null, .null, .null, .ref q1, .null, .int 0, .int 0, .int 0, .int 0])), (q1, .inl (cA, 4, .inl (fun _ => 0)))] H := hP
  have hD : va_D A [(h0, .inr (2, [.null, .null, .null, .ref q1, .null, .int 0, .int 0, .int 0, .int 0])), (q1, .inl (cA, 4, .inl (fun _ => 0)))] := hD
  refine lv_aload_n hx hb dX0_init_11 rfl (lv_at hl 0 rfl) ?_
  refine lv_bipush (v := 9) hx hb dX0_init_12 (by decide) ?_
  refine ct_newa (N' := 9) hx hb (htA _ kw_42) hK hP hD hS hA (by decide) (by decide) (Nat.le_of_ble_eq_true rfl) (Nat.le_of_ble_eq_true rfl) (Nat.le_of_ble_eq_true rfl) dX0_init_14 (fun q2 H hP hD hS => ?_)
  have hP : va_P D vwCl [(h0, .inr (2, [.null, .null, .null, .ref q1, .null, .int 0, .int 0, .int 0, .int 0])), (q1, .inl (cA, 4, .inl (fun _ => 0))), (q2, .inl (cA, 9, .inl (fun _ => 0)))] H := hP
  have hD : va_D A [(h0, .inr (2, [.null, .null, .null, .ref q1, .null, .int 0, .int 0, .int 0, .int 0])), (q1, .inl (cA, 4, .inl (fun _ => 0))), (q2, .inl (cA, 9, .inl (fun _ => 0)))] := hD
  refine va_putF (D := D) (ci := 2) (v := .ref q2) (ty := .array .int) (C := RX0) (T := TX0) (N := 9) hx hb htA iA_X0 tyX0 tyX0_ok nmX0 hown hK hP hD hS 0 rfl rfl 4 (by decide) (htA _ kw_117) (fun _ h9 => h9) rfl hin rfl (by decide +kernel) rfl rfl (Nat.le_of_ble_eq_true rfl) dX0_init_16 (fun H locs hP hD hS => ?_)
  have hP : va_P D vwCl [(h0, .inr (2, [.null, .null, .null, .ref q1, .ref q2, .int 0, .int 0, .int 0, .int 0])), (q1, .inl (cA, 4, .inl (fun _ => 0))), (q2, .inl (cA, 9, .inl (fun _ => 0)))] H := hP
  have hD : va_D A [(h0, .inr (2, [.null, .null, .null, .ref q1, .ref q2, .int 0, .int 0, .int 0, .int 0])), (q1, .inl (cA, 4, .inl (fun _ => 0))), (q2, .inl (cA, 9, .inl (fun _ => 0)))] := hD
  refine lv_aload_n hx hb dX0_init_19 rfl (lv_at hl 0 rfl) ?_
  refine lv_iconst (v := 0) hx hb dX0_init_20 (by decide) ?_
  refine va_put (D := D) (ci := 2) (v := .int 0) (ty := .int) (C := RX0) (T := TX0) (N := 9) hx hb htA iA_X0 tyX0 tyX0_ok nmX0 hown hK hP hD hS 0 rfl rfl 5 (by decide) (htA _ kw_118) (fun _ h9 => h9) rfl (by decide +kernel) rfl rfl (Nat.le_of_ble_eq_true rfl) dX0_init_21 (fun H locs hP hD hS => ?_)
  have hP : va_P D vwCl [(h0, .inr (2, [.null, .null, .null, .ref q1, .ref q2, .int 0, .int 0, .int 0, .int 0])), (q1, .inl (cA, 4, .inl (fun _ => 0))), (q2, .inl (cA, 9, .inl (fun _ => 0)))] H := hP
  have hD : va_D A [(h0, .inr (2, [.null, .null, .null, .ref q1, .ref q2, .int 0, .int 0, .int 0, .int 0])), (q1, .inl (cA, 4, .inl (fun _ => 0))), (q2, .inl (cA, 9, .inl (fun _ => 0)))] := hD
  refine lv_aload_n hx hb dX0_init_24 rfl (lv_at hl 0 rfl) ?_
  refine lv_iconst (v := 0) hx hb dX0_init_25 (by decide) ?_
  refine va_put (D := D) (ci := 2) (v := .int 0) (ty := .int) (C := RX0) (T := TX0) (N := 9) hx hb htA iA_X0 tyX0 tyX0_ok nmX0 hown hK hP hD hS 0 rfl rfl 6 (by decide) (htA _ kw_119) (fun _ h9 => h9) rfl (by decide +kernel) rfl rfl (Nat.le_of_ble_eq_true rfl) dX0_init_26 (fun H locs hP hD hS => ?_)
  have hP : va_P D vwCl [(h0, .inr (2, [.null, .null, .null, .ref q1, .ref q2, .int 0, .int 0, .int 0, .int 0])), (q1, .inl (cA, 4, .inl (fun _ => 0))), (q2, .inl (cA, 9, .inl (fun _ => 0)))] H := hP
  have hD : va_D A [(h0, .inr (2, [.null, .null, .null, .ref q1, .ref q2, .int 0, .int 0, .int 0, .int 0])), (q1, .inl (cA, 4, .inl (fun _ => 0))), (q2, .inl (cA, 9, .inl (fun _ => 0)))] := hD
  refine lv_aload_n hx hb dX0_init_29 rfl (lv_at hl 0 rfl) ?_
  refine lv_iconst (v := 0) hx hb dX0_init_30 (by decide) ?_
  refine va_put (D := D) (ci := 2) (v := .int 0) (ty := .int) (C := RX0) (T := TX0) (N := 9) hx hb htA iA_X0 tyX0 tyX0_ok nmX0 hown hK hP hD hS 0 rfl rfl 7 (by decide) (htA _ kw_120) (fun _ h9 => h9) rfl (by decide +kernel) rfl rfl (Nat.le_of_ble_eq_true rfl) dX0_init_31 (fun H locs hP hD hS => ?_)
  have hP : va_P D vwCl [(h0, .inr (2, [.null, .null, .null, .ref q1, .ref q2, .int 0, .int 0, .int 0, .int 0])), (q1, .inl (cA, 4, .inl (fun _ => 0))), (q2, .inl (cA, 9, .inl (fun _ => 0)))] H := hP
  have hD : va_D A [(h0, .inr (2, [.null, .null, .null, .ref q1, .ref q2, .int 0, .int 0, .int 0, .int 0])), (q1, .inl (cA, 4, .inl (fun _ => 0))), (q2, .inl (cA, 9, .inl (fun _ => 0)))] := hD
  refine lv_aload_n hx hb dX0_init_34 rfl (lv_at hl 0 rfl) ?_
  refine lv_iconst (v := 0) hx hb dX0_init_35 (by decide) ?_
  refine va_put (D := D) (ci := 2) (v := .int 0) (ty := .int) (C := RX0) (T := TX0) (N := 9) hx hb htA iA_X0 tyX0 tyX0_ok nmX0 hown hK hP hD hS 0 rfl rfl 8 (by decide) (htA _ kw_121) (fun _ h9 => h9) rfl (by decide +kernel) rfl rfl (Nat.le_of_ble_eq_true rfl) dX0_init_36 (fun H locs hP hD hS => ?_)
  have hP : va_P D vwCl [(h0, .inr (2, [.null, .null, .null, .ref q1, .ref q2, .int 0, .int 0, .int 0, .int 0])), (q1, .inl (cA, 4, .inl (fun _ => 0))), (q2, .inl (cA, 9, .inl (fun _ => 0)))] H := hP
  have hD : va_D A [(h0, .inr (2, [.null, .null, .null, .ref q1, .ref q2, .int 0, .int 0, .int 0, .int 0])), (q1, .inl (cA, 4, .inl (fun _ => 0))), (q2, .inl (cA, 9, .inl (fun _ => 0)))] := hD
  refine lv_aload_n hx hb dX0_init_39 rfl (lv_at hl 0 rfl) ?_
  refine lv_aload_n hx hb dX0_init_40 rfl (lv_at hl 1 rfl) ?_
  refine va_putF (D := D) (ci := 2) (v := .ref a1) (ty := .object "Grainwright$Shape") (C := RX0) (T := TX0) (N := 9) hx hb htA iA_X0 tyX0 tyX0_ok nmX0 hown hK hP hD hS 0 rfl rfl 0 (by decide) (htA _ kw_122) (fun _ h9 => h9) rfl hin rfl (by decide +kernel) rfl rfl (Nat.le_of_ble_eq_true rfl) dX0_init_41 (fun H locs hP hD hS => ?_)
  have hP : va_P D vwCl [(h0, .inr (2, [.ref a1, .null, .null, .ref q1, .ref q2, .int 0, .int 0, .int 0, .int 0])), (q1, .inl (cA, 4, .inl (fun _ => 0))), (q2, .inl (cA, 9, .inl (fun _ => 0)))] H := hP
  have hD : va_D A [(h0, .inr (2, [.ref a1, .null, .null, .ref q1, .ref q2, .int 0, .int 0, .int 0, .int 0])), (q1, .inl (cA, 4, .inl (fun _ => 0))), (q2, .inl (cA, 9, .inl (fun _ => 0)))] := hD
  refine lv_aload_n hx hb dX0_init_44 rfl (lv_at hl 0 rfl) ?_
  refine lv_aload_n hx hb dX0_init_45 rfl (lv_at hl 2 rfl) ?_
  refine va_putF (D := D) (ci := 2) (v := .ref a2) (ty := .object "Grainwright$Rules") (C := RX0) (T := TX0) (N := 9) hx hb htA iA_X0 tyX0 tyX0_ok nmX0 hown hK hP hD hS 0 rfl rfl 1 (by decide) (htA _ kw_123) (fun _ h9 => h9) rfl hin rfl (by decide +kernel) rfl rfl (Nat.le_of_ble_eq_true rfl) dX0_init_46 (fun H locs hP hD hS => ?_)
  have hP : va_P D vwCl [(h0, .inr (2, [.ref a1, .ref a2, .null, .ref q1, .ref q2, .int 0, .int 0, .int 0, .int 0])), (q1, .inl (cA, 4, .inl (fun _ => 0))), (q2, .inl (cA, 9, .inl (fun _ => 0)))] H := hP
  have hD : va_D A [(h0, .inr (2, [.ref a1, .ref a2, .null, .ref q1, .ref q2, .int 0, .int 0, .int 0, .int 0])), (q1, .inl (cA, 4, .inl (fun _ => 0))), (q2, .inl (cA, 9, .inl (fun _ => 0)))] := hD
  refine lv_aload_n hx hb dX0_init_49 rfl (lv_at hl 0 rfl) ?_
  refine lv_aload_n hx hb dX0_init_50 rfl (lv_at hl 3 rfl) ?_
  refine va_putF (D := D) (ci := 2) (v := .ref a3) (ty := .object "Grainwright$Piece") (C := RX0) (T := TX0) (N := 9) hx hb htA iA_X0 tyX0 tyX0_ok nmX0 hown hK hP hD hS 0 rfl rfl 2 (by decide) (htA _ kw_124) (fun _ h9 => h9) rfl hin rfl (by decide +kernel) rfl rfl (Nat.le_of_ble_eq_true rfl) dX0_init_51 (fun H locs hP hD hS => ?_)
  have hP : va_P D vwCl [(h0, .inr (2, [.ref a1, .ref a2, .ref a3, .ref q1, .ref q2, .int 0, .int 0, .int 0, .int 0])), (q1, .inl (cA, 4, .inl (fun _ => 0))), (q2, .inl (cA, 9, .inl (fun _ => 0)))] H := hP
  have hD : va_D A [(h0, .inr (2, [.ref a1, .ref a2, .ref a3, .ref q1, .ref q2, .int 0, .int 0, .int 0, .int 0])), (q1, .inl (cA, 4, .inl (fun _ => 0))), (q2, .inl (cA, 9, .inl (fun _ => 0)))] := hD
  have hP9 := hP.sub (ws' := [(h0, .inr (2, [.ref a1, .ref a2, .ref a3, .ref q1, .ref q2, .int 0, .int 0, .int 0, .int 0])), (q1, .inl (cA, 4, .inl (fun _ => 0))), (q2, .inl (cA, 9, .inl (fun _ => 0)))]) [0, 1, 2] rfl
  have hD9 := hD.sub (ws' := [(h0, .inr (2, [.ref a1, .ref a2, .ref a3, .ref q1, .ref q2, .int 0, .int 0, .int 0, .int 0])), (q1, .inl (cA, 4, .inl (fun _ => 0))), (q2, .inl (cA, 9, .inl (fun _ => 0)))]) [0, 1, 2] (by decide) rfl
  refine W.widen (k := 2) (n := 13) (Nat.le_of_ble_eq_true rfl) (Nat.le_of_ble_eq_true rfl) ?_
  exact W.vret hx hb hr (fun t ht hW => ⟨⟨fun k => ([q1, q2] : List Nat).getD k 0, rfl, trivial, by rw [ht]; exact hP9, hD9⟩, hS.F ht⟩) hS.2.2 dX0_init_54 hlk

/-! THE LAW'S HELPERS: below, cell, wide, high, told -/
/-- the entry of a method, whatever it asks -/
theorem lh_of {cc : ByteArray} {l : Launch} {Bp : State → Prop} {y : MethodName} {maxL : Nat} {ret : Option FieldType} {rm : Room} {As : List Value} {Qc : Array Value → State → Outcome → State → Prop} {mc ms : Nat} {free : Addr → Prop} (hy : plainName y.cls = true) (hn : (lg_sl As).length ≤ maxL)
    (body : ∀ (p : Program) (e : Env) (s : State) (m : MethodId) (below : List Frame) (meth : Method) (c : Code) (ls : Array Slot), CallFix p m c cc maxL s As.toArray (wM y cc maxL ret) y.cls → meth.sig.returnType = ret → meth.locks = false → Bp s → lv_has ls maxL (lv_args 0 As) →
      W p l e rm s m As.toArray below meth c s.heap [] 0 0 (MQ below Qc As.toArray s mc ms free) (F0 m 0 ls [])) : Met l y (wM y cc maxL ret) rm (va_Pc As Bp) Qc mc ms free := by
  refine Met.ofW (cc := cc) (maxL := maxL) (ret := ret) hy rfl ?_
  intro p e s m args below meth c s₁ B hml hv
  obtain ⟨rfl, hP⟩ := hv
  have hl := lv_entry As (n := maxL) hn
  rw [lg_entry_eq]
  exact body p e s m below meth c _ ⟨B.exec, B.bytes, hml, findClass_of_methodNamed B.named, atoms_spec (ws := wM y cc maxL ret) B.pre⟩ B.returns B.notSynchronized hP hl
theorem hdL_below : yL_below.cls = yL_below.cls ∧ yL_below.cls ≠ "java/lang/invoke/MethodHandle" ∧ yL_below.cls ≠ "java/lang/invoke/VarHandle" ∧ (parseMethodDescriptor yL_below.desc).map (fun d => d.parameters.length) = some 2 := by decide +kernel
theorem hdL_cell : yL_cell.cls = yL_cell.cls ∧ yL_cell.cls ≠ "java/lang/invoke/MethodHandle" ∧ yL_cell.cls ≠ "java/lang/invoke/VarHandle" ∧ (parseMethodDescriptor yL_cell.desc).map (fun d => d.parameters.length) = some 2 := by decide +kernel
theorem hdL_wide : yL_wide.cls = yL_wide.cls ∧ yL_wide.cls ≠ "java/lang/invoke/MethodHandle" ∧ yL_wide.cls ≠ "java/lang/invoke/VarHandle" ∧ (parseMethodDescriptor yL_wide.desc).map (fun d => d.parameters.length) = some 1 := by decide +kernel
theorem hdL_high : yL_high.cls = yL_high.cls ∧ yL_high.cls ≠ "java/lang/invoke/MethodHandle" ∧ yL_high.cls ≠ "java/lang/invoke/VarHandle" ∧ (parseMethodDescriptor yL_high.desc).map (fun d => d.parameters.length) = some 1 := by decide +kernel
theorem hdL_told : yL_told.cls = yL_told.cls ∧ yL_told.cls ≠ "java/lang/invoke/MethodHandle" ∧ yL_told.cls ≠ "java/lang/invoke/VarHandle" ∧ (parseMethodDescriptor yL_told.desc).map (fun d => d.parameters.length) = some 2 := by decide +kernel
set_option maxHeartbeats 4000000 in
set_option maxRecDepth 100000 in
theorem kL_below (l : Launch) (v : Int32) {n : Nat} (h0 : 0 < n) (h1 : n < 2147483648) : Met l yL_below (wM yL_below cL_below 2 (some .int)) ({ frames := 0, cells := 0, slots := 0, locals := 0 }) (va_Pc [.int v, .int (nI n)] (fun _ => True)) (QcRead (bl v (nI n))) 0 0 noA := by
  refine lh_of (by decide) (Nat.le_of_ble_eq_true rfl) ?_
  intro p e s m below meth c ls C hr hlk _ hl
  obtain ⟨hx, hb, hml, hown, hts⟩ := id C
  have htA : ∀ w ∈ wA, w.before ([.int v, .int (nI n)] : List Value).toArray s = true := fun w h => hts w (List.mem_cons_of_mem _ h)
  have hl : lv_has ls 2 [(0, .int v), (1, .int (nI n))] := hl
  refine lv_iload_n hx hb dL_below_0 rfl (lv_at hl 0 rfl) ?_
  refine lv_ldc (v := 2147483647) hx hb hown (htA _ kw_132) dL_below_1 ?_
  refine lv_iand hx hb dL_below_3 ?_
  refine lv_iload_n hx hb dL_below_4 rfl (lv_at hl 1 rfl) ?_
  refine lv_irem hx hb dL_below_5 (nI_ne0 h0 (by omega)) ?_
  exact sy_ret hx hb hr hlk rfl dL_below_6
/-- a number of the script, or what stands for it behind its end -/
def cl (xs : Nat → Int32) (L : Nat) (k : Int32) : Int32 := if nI L ≤ k then 790386105 * (k + 3) else xs k.toNatClampNeg
set_option maxHeartbeats 4000000 in
set_option maxRecDepth 100000 in
theorem kL_cell (l : Launch) {b L : Nat} {xs : Nat → Int32} (hL : L ≤ 260) {k : Int32} (hk : 0 ≤ k.toInt) : Met l yL_cell (wM yL_cell cL_cell 2 (some .int)) ({ frames := 0, cells := 0, slots := 0, locals := 0 }) (va_Pc [.ref b, .int k] (fun U => va_X b L xs U U.heap ∧ b < U.heap.size)) (QcRead (cl xs L k)) 0 0 noA := by
  refine lh_of (by decide) (Nat.le_of_ble_eq_true rfl) ?_
  intro p e s m below meth c ls C hr hlk hX hl
  obtain ⟨hX, hbl⟩ := hX
  obtain ⟨hx, hb, hml, hown, hts⟩ := id C
  have htA : ∀ w ∈ wA, w.before ([.ref b, .int k] : List Value).toArray s = true := fun w h => hts w (List.mem_cons_of_mem _ h)
  have hl : lv_has ls 2 [(0, .ref b), (1, .int k)] := hl
  have hS : va_S noA s.heap s.heap [] := va_S.rf
  refine lv_iload_n hx hb dL_cell_0 rfl (lv_at hl 1 rfl) ?_
  refine lv_aload_n hx hb dL_cell_1 rfl (lv_at hl 0 rfl) ?_
  refine va_slen hx hb hX hbl (fun h => h) hS dL_cell_2 ?_
  refine lv_icmp_ge (tgt := 12) hx hb dL_cell_3 (by decide) (fun c_1 => ?_) (fun c_1 => ?_)
  · refine lv_ldc (v := 790386105) hx hb hown (htA _ kw_128) dL_cell_12 ?_
    refine lv_iload_n hx hb dL_cell_14 rfl (lv_at hl 1 rfl) ?_
    refine lv_iconst (v := 3) hx hb dL_cell_15 (by decide) ?_
    refine lv_iadd hx hb dL_cell_16 ?_
    refine lv_imul hx hb dL_cell_17 ?_
    exact sy_ret hx hb hr hlk (by unfold cl; exact (if_pos c_1).symm) dL_cell_18
  · have hin : vp_in k L := vin_of_toInt hk (by
      have c_2 : ¬ nI L ≤ k := c_1
      rw [z_le, nI_int (by omega)] at c_2
      omega)
    refine lv_aload_n hx hb dL_cell_6 rfl (lv_at hl 0 rfl) ?_
    refine lv_iload_n hx hb dL_cell_7 rfl (lv_at hl 1 rfl) ?_
    refine va_sld hx hb hX hbl (fun h => h) hS hin dL_cell_8 ?_
    refine lv_goto (tgt := 18) hx hb dL_cell_9 (by decide) ?_
    exact sy_ret hx hb hr hlk (by unfold cl; exact (if_neg c_1).symm) dL_cell_18
/-- what the law's helpers find, and leave -/
def pZ (D : va_G) (cA cB : ClassId) (ad : Nat → Nat) (τ ρ π : Sg) (sz : Nat) (U : State) : Prop := U.heap.size = sz ∧ (∃ γ, va_P D vwCl (wS cA ad τ ρ π γ) U.heap) ∧ va_K D vwCl [(cA, .int), (cB, .byte)] U ∧ nW U ∧ zC U ∧ zW (aL ad sz) U U.heap
theorem pZ_blind {D : va_G} {cA cB : ClassId} {ad : Nat → Nat} {sz : Nat} {τ ρ π : Sg} {As : List Value} : FrameBlind (va_Pc As (pZ D cA cB ad τ ρ π sz)) := fun a U g mk q => by
  obtain ⟨q0, q1, qP, qK, qN, qC, qZ⟩ := q
  exact ⟨q0, q1, qP, va_K.moved (u := U) (U := U.calling g mk a) (Vm.Alike.refl U.vm) qK, va_Nw.same (u := U) (U := U.calling g mk a) rfl rfl qN, va_Nw.same (u := U) (U := U.calling g mk a) rfl rfl qC, va_Z.moved (u := U) (U := U.calling g mk a) (Vm.Alike.refl U.vm) qZ⟩
def qZ (D : va_G) (cA : ClassId) (ad : Nat → Nat) (τ ρ π : Sg) (sz : Nat) (r : Int32) : Array Value → State → Outcome → State → Prop := fun _ st o t => o = .returned (some (.int r)) ∧ (∃ γ, va_P D vwCl (wS cA ad τ ρ π γ) t.heap) ∧ va_F (aL ad sz) st t
/-- one that makes a row: the row's numbers are told -/
def qR (D : va_G) (cA : ClassId) (ad : Nat → Nat) (τ ρ π : Sg) (sz n : Nat) (v : Nat → Int32) : Array Value → State → Outcome → State → Prop := fun _ st o t => ∃ (a : Nat) (f : Nat → Int32), o = .returned (some (.ref a)) ∧ (∃ γ, va_P D vwCl (wS cA ad τ ρ π γ) t.heap) ∧ va_P D vwCl [(a, .inl (cA, n, .inl f))] t.heap ∧ sz ≤ a ∧ (∀ k, k < n → f k = v k) ∧ va_F (aL ad sz) st t
theorem vaP_l {D : va_G} {cl : List vw_C} {w1 w2 : va_W} {H : Heap} (h : va_P D cl (w1 ++ w2) H) : va_P D cl w1 H := fun k q hk => h k q (by rw [List.getElem?_append_left (List.getElem?_eq_some_iff.mp hk).1]; exact hk)
theorem vaP_r {D : va_G} {cl : List vw_C} {w1 w2 : va_W} {H : Heap} (h : va_P D cl (w1 ++ w2) H) : va_P D cl w2 H := fun k q hk => h (w1.length + k) q (by rw [List.getElem?_append_right (by omega), Nat.add_sub_cancel_left]; exact hk)
theorem aS_lt {D : va_G} {cA : ClassId} {ad : Nat → Nat} {τ ρ π γ : Sg} {H : Heap} (hP : va_P D vwCl (wS cA ad τ ρ π γ) H) {q : Nat} (h : aS ad q) : q < H.size := by
  obtain ⟨k, hk, rfl⟩ := h
  have h1 : ((wS cA ad τ ρ π γ).map (·.1))[k]? = some (ad k) := by
    rw [wS_map, List.getElem?_map, List.getElem?_range hk]
    rfl
  rw [List.getElem?_map] at h1
  cases h2 : (wS cA ad τ ρ π γ)[k]? with
  | none => rw [h2] at h1; cases h1
  | some x =>
    rw [h2] at h1
    have e : x.1 = ad k := Option.some.inj h1
    rw [← e]
    exact (hP k x h2).lt
theorem D1 {A : Nat → Prop} {a : Nat} {e : va_E} (h : A a) : va_D A [(a, e)] := by
  refine ⟨fun i j x y h1 h2 _ => ?_, fun k x h1 => ?_⟩
  · have a1 := (List.getElem?_eq_some_iff.mp h1).1
    have a2 := (List.getElem?_eq_some_iff.mp h2).1
    simp at a1 a2
    omega
  · have a1 := (List.getElem?_eq_some_iff.mp h1).1
    simp at a1
    subst a1
    cases h1
    exact h
section LHELP
variable {p : Program} {l : Launch} {e : Env} {R : Room} {s : State} {m : MethodId} {args : Array Value} {below : List Frame} {meth : Method} {c : Code} {H : Heap} {locs : List Loc} {cells slots : Nat} {Q : State → Prop}
variable {cc : ByteArray} {pc n0 : Nat} {ls : Array Slot} {rest : List Value} {Ts : List Cond}
variable {D : va_G} {cA cB : ClassId} {ad : Nat → Nat} {A : Nat → Prop} {ext : va_W} {τ ρ π : Sg}
theorem lr_below (S : CallFix p m c cc n0 s args Ts RL) (hTs : ∀ w ∈ wA, w ∈ Ts) {v : Int32} {n : Nat} (h0 : 0 < n) (h1 : n < 2147483648) (hR : 1 ≤ R.frames ∧ 30 ≤ R.locals) (hf : cells ≤ R.cells ∧ slots ≤ R.slots) (hsz : ls.size = n0) (hW : (rest.map fun v => v.category).sum ≤ 8) (hdg : decode cc pc = .ok (.invokestatic 18, 3))
    (kk : W p l e R s m args below meth c H locs cells slots Q (F0 m (pc + 3) ls (.int (bl v (nI n)) :: rest))) : W p l e R s m args below meth c H locs cells slots Q (F0 m pc ls (.int (nI n) :: .int v :: rest)) :=
  W.callR (W.runS (As := [.int v, .int (nI n)]) (rest := rest) S (kL_below l v h0 h1) (va_cwS 2 S.2.2.2.2 (lg_goodS hTs kw_129 kw_130 kw_3 kw_131) rfl rfl rfl hdL_below.2 ⟨hR.1, Nat.le_trans (Nat.le_of_ble_eq_true rfl) hR.2⟩) ⟨fun a U g mk q => ⟨q.1, trivial⟩, fun U hU hW => ⟨rfl, trivial⟩⟩ rfl rfl hsz rfl (lv_room hW) hdg ⟨hf.1, hf.2⟩) kk
theorem lr_scr (S : CallFix p m c cc n0 s args Ts RL) (hTs : ∀ w ∈ wA, w ∈ Ts) {b L : Nat} {xs : Nat → Int32} (hL : L ≤ 260) (hX : va_X b L xs s s.heap) (hbl : b < s.heap.size) (hbA : ¬ A b) (hS : va_S A s.heap H locs) {k : Int32} (hk : 0 ≤ k.toInt) (hR : 1 ≤ R.frames ∧ 30 ≤ R.locals) (hf : cells ≤ R.cells ∧ slots ≤ R.slots) (hsz : ls.size = n0) (hW : (rest.map fun v => v.category).sum ≤ 8) (hdg : decode cc pc = .ok (.invokestatic 12, 3))
    (kk : W p l e R s m args below meth c H locs cells slots Q (F0 m (pc + 3) ls (.int (cl xs L k) :: rest))) : W p l e R s m args below meth c H locs cells slots Q (F0 m pc ls (.int k :: .ref b :: rest)) :=
  W.callR (W.runS (As := [.ref b, .int k]) (rest := rest) S (kL_cell l hL hk) (va_cwS 2 S.2.2.2.2 (lg_goodS hTs kw_125 kw_126 kw_3 kw_127) rfl rfl rfl hdL_cell.2 ⟨hR.1, Nat.le_trans (Nat.le_of_ble_eq_true rfl) hR.2⟩) ⟨fun a U g mk q => ⟨q.1, va_X.moved (u := U) (U := U.calling g mk a) (Vm.Alike.refl U.vm) q.2.1, q.2.2⟩, fun U hU hW => ⟨rfl, by rw [hU]; exact va_X.moved hW.alike (hX.kept (hS.2.1 b hbl hbA)), by rw [hU]; exact Nat.lt_of_lt_of_le hbl hS.1⟩⟩ rfl rfl hsz rfl (lv_room hW) hdg ⟨hf.1, hf.2⟩) kk
/-- what the callee finds of what rides along -/
theorem LW.pZ (F : LF p m c cc n0 s args Ts D cA cB ad A) (hL : LW D cA ad A ext s τ ρ π H locs) {U : State} (hU : U.heap = H) (hW : s.WarmedH U.vm) : pZ D cA cB ad τ ρ π H.size U := by
  obtain ⟨hP, hE, hDe, hX, hS⟩ := hL
  have hA : ∀ q, aL ad H.size q → A q := fun q h => by
    rcases h with h | h
    · exact F.aA q h
    · exact F.nA q (Nat.le_trans hS.1 h)
  exact ⟨by rw [hU], by rw [hU]; exact hP, va_K.moved hW.alike F.2.2.1, va_Nw.warmM hW F.N, va_Nw.warmC hW F.cl, by rw [hU]; exact va_Z.moved hW.alike (va_Z.narrow (va_Z.kept F.Z (fun a ha hn => hS.2.1 a ha hn)) hA)⟩
/-- behind a callee that keeps what is old and not the system's -/
theorem LW.behind (F : LF p m c cc n0 s args Ts D cA cB ad A) (hL : LW D cA ad A ext s τ ρ π H locs) {τ' ρ' π' : Sg} {H1 : Heap} {L : List Loc} (hp : ∃ γ, va_P D vwCl (wS cA ad τ' ρ' π' γ) H1) (hz : H.size ≤ H1.size) (hk : ∀ q : Nat, q < H.size → ¬ aL ad H.size q → H1[q]? = H[q]?) (hLL : ∀ q ∈ L, aL ad H.size q.base) : LW D cA ad A ext s τ' ρ' π' H1 (locs ++ L) := by
  obtain ⟨hP, hE, hDe, hX, hS⟩ := hL
  have hA : ∀ q, aL ad H.size q → A q := fun q h => by
    rcases h with h | h
    · exact F.aA q h
    · exact F.nA q (Nat.le_trans hS.1 h)
  refine ⟨hp, hE.kept (fun k q hq => hk q.1 (hE k q hq).lt (fun z => ?_)), hDe, hX, Nat.le_trans hS.1 hz, fun q h1 h2 => ?_, fun q hq => ?_⟩
  · rcases z with z | z
    · exact hX k q hq z
    · exact absurd (hE k q hq).lt (by omega)
  · rw [hk q (Nat.lt_of_lt_of_le h1 hS.1) (fun z => h2 (hA q z))]
    exact hS.2.1 q h1 h2
  · rcases List.mem_append.mp hq with h | h
    · exact hS.2.2 q h
    · exact hA _ (hLL q h)
/-- a static helper of the law that answers an int -/
theorem lr_S {index : Nat} {y : MethodName} {bytes : ByteArray} {maxL n mc ms : Nat} {ret : Option FieldType} {rm : Room} {As : List Value} {r : Int32} (F : LF p m c cc n0 s args Ts D cA cB ad A)
    (hM : ∀ sz, Met l y (wM y bytes maxL ret) rm (va_Pc As (pZ D cA cB ad τ ρ π sz)) (qZ D cA ad τ ρ π sz r) mc ms (aL ad sz))
    (k1 : Cond.methodLink RL index y ∈ wA) (k2 : Cond.static y ∈ wA) (k3 : Cond.initialized y.cls ∈ wA) (k5 : Cond.code y bytes maxL ret ∈ wA)
    (hd : y.cls = y.cls ∧ y.cls ≠ "java/lang/invoke/MethodHandle" ∧ y.cls ≠ "java/lang/invoke/VarHandle" ∧ (parseMethodDescriptor y.desc).map (fun d => d.parameters.length) = some n) (hR : rm.frames + 1 ≤ R.frames ∧ 8 + (maxL + 11) + rm.locals ≤ R.locals) (hrc : rm.cells = mc) (hrs : rm.slots = ms)
    (hn : As.length = n) (hsz : ls.size = n0) {st0 : List Value} (hst : st0 = As.reverse ++ rest) (hW : (rest.map fun v => v.category).sum ≤ 8) (hdg : decode cc pc = .ok (.invokestatic index, 3)) (hf : cells + mc ≤ R.cells ∧ slots + ms ≤ R.slots)
    (hL : LW D cA ad A ext s τ ρ π H locs) (kk : ∀ (H : Heap) (locs : List Loc), LW D cA ad A ext s τ ρ π H locs → W p l e R s m args below meth c H locs (cells + mc) (slots + ms) Q (F0 m (pc + 3) ls (.int r :: rest))) : W p l e R s m args below meth c H locs cells slots Q (F0 m pc ls st0) := by
  intro T hT X
  obtain ⟨v, st₀, t, T', L, h0, X', hLL, e1, e2, ⟨hv, hp, hz, hk⟩, st⟩ := (va_runS (As := As) (rest := rest) (free := aL ad H.size) (mc := mc) (ms := ms) (cells := cells) (slots := slots) (locs := locs) (H := H) (g := F0 m pc ls st0) F.C (hM H.size) (va_cwS n F.C.2.2.2.2 (lg_goodS F.2.1 k1 k2 k3 k5) rfl hrc hrs hd.2 hR) ⟨pZ_blind, fun U hU hW => ⟨rfl, hL.pZ F hU hW⟩⟩ rfl hn hsz hst (lv_room hW) hdg ⟨hf.1, hf.2⟩) T hT X
  cases hv
  rw [h0] at hz hk
  rw [← e1] at hp hz hk
  obtain ⟨t2, a1, b1⟩ := kk T'.heap (locs ++ L) (hL.behind F hp hz hk hLL) T' rfl X'
  exact ⟨t2, st t2 a1, b1⟩
/-- one that makes a row -/
theorem lr_R {index : Nat} {y : MethodName} {bytes : ByteArray} {maxL n N mc ms : Nat} {ret : Option FieldType} {rm : Room} {As : List Value} {v : Nat → Int32} (F : LF p m c cc n0 s args Ts D cA cB ad A)
    (hM : ∀ sz, Met l y (wM y bytes maxL ret) rm (va_Pc As (pZ D cA cB ad τ ρ π sz)) (qR D cA ad τ ρ π sz N v) mc ms (aL ad sz))
    (k1 : Cond.methodLink RL index y ∈ wA) (k2 : Cond.static y ∈ wA) (k3 : Cond.initialized y.cls ∈ wA) (k5 : Cond.code y bytes maxL ret ∈ wA)
    (hd : y.cls = y.cls ∧ y.cls ≠ "java/lang/invoke/MethodHandle" ∧ y.cls ≠ "java/lang/invoke/VarHandle" ∧ (parseMethodDescriptor y.desc).map (fun d => d.parameters.length) = some n) (hR : rm.frames + 1 ≤ R.frames ∧ 8 + (maxL + 11) + rm.locals ≤ R.locals) (hrc : rm.cells = mc) (hrs : rm.slots = ms)
    (hn : As.length = n) (hsz : ls.size = n0) {st0 : List Value} (hst : st0 = As.reverse ++ rest) (hW : (rest.map fun v => v.category).sum ≤ 8) (hdg : decode cc pc = .ok (.invokestatic index, 3)) (hf : cells + mc ≤ R.cells ∧ slots + ms ≤ R.slots)
    (hL : LW D cA ad A ext s τ ρ π H locs) (kk : ∀ (a : Nat) (f : Nat → Int32) (H : Heap) (locs : List Loc), (∀ k, k < N → f k = v k) → LW D cA ad A (ext ++ [(a, .inl (cA, N, .inl f))]) s τ ρ π H locs → W p l e R s m args below meth c H locs (cells + mc) (slots + ms) Q (F0 m (pc + 3) ls (.ref a :: rest))) : W p l e R s m args below meth c H locs cells slots Q (F0 m pc ls st0) := by
  intro T hT X
  obtain ⟨w9, st₀, t, T', L, h0, X', hLL, e1, e2, ⟨a, f, hv, hp, hp2, ha, hfv, hz, hk⟩, st⟩ := (va_runS (As := As) (rest := rest) (free := aL ad H.size) (mc := mc) (ms := ms) (cells := cells) (slots := slots) (locs := locs) (H := H) (g := F0 m pc ls st0) F.C (hM H.size) (va_cwS n F.C.2.2.2.2 (lg_goodS F.2.1 k1 k2 k3 k5) rfl hrc hrs hd.2 hR) ⟨pZ_blind, fun U hU hW => ⟨rfl, hL.pZ F hU hW⟩⟩ rfl hn hsz hst (lv_room hW) hdg ⟨hf.1, hf.2⟩) T hT X
  cases hv
  rw [h0] at hz hk
  rw [← e1] at hp hp2 hz hk
  obtain ⟨g1, g2, g3, g4, g5⟩ := hL.behind F hp hz hk hLL
  obtain ⟨⟨γ, hP⟩, hE, hDe, hX, hS⟩ := hL
  have haA : A a := F.nA a (Nat.le_trans hS.1 ha)
  have hna : ¬ aS ad a := fun q => by have := aS_lt hP q; omega
  obtain ⟨t2, a1, b1⟩ := kk a f T'.heap (locs ++ L) hfv ⟨g1, g2.app hp2, g3.app (D1 haA) (fun i j x y h1 h2 => by
    have := (hE i x h1).lt
    have a2 := (List.getElem?_eq_some_iff.mp h2).1
    simp at a2
    subst a2
    cases h2
    show x.1 ≠ a
    omega), fun k x hx => by
    by_cases hk2 : k < ext.length
    · rw [List.getElem?_append_left hk2] at hx
      exact g4 k x hx
    · rw [List.getElem?_append_right (by omega)] at hx
      have a2 := (List.getElem?_eq_some_iff.mp hx).1
      simp at a2
      rw [show k - ext.length = 0 by omega] at hx
      cases hx
      exact hna, g5⟩ T' rfl X'
  exact ⟨t2, st t2 a1, b1⟩
/-- the system and the law's rows as one world -/
theorem LW.one (F : LF p m c cc n0 s args Ts D cA cB ad A) (hL : LW D cA ad A ext s τ ρ π H locs) : ∃ γ, va_P D vwCl (wS cA ad τ ρ π γ ++ ext) H ∧ va_D A (wS cA ad τ ρ π γ ++ ext) := by
  obtain ⟨⟨γ, hP⟩, hE, hDe, hX, hS⟩ := hL
  exact ⟨γ, hP.app hE, (wS_D F.had τ ρ π γ F.aA).app hDe (fun i j x y h1 h2 q => by
    obtain ⟨a, b⟩ := wS_adr h1
    exact hX j y h2 ⟨i, a, by rw [← q, b]⟩)⟩
theorem set25 {γ : Sg} {i : Nat} {x : Nat × va_E} : (wS cA ad τ ρ π γ ++ ext).set (25 + i) x = wS cA ad τ ρ π γ ++ ext.set i x := by
  rw [List.set_append, if_neg (by show ¬ 25 + i < 25; omega)]
  have : (wS cA ad τ ρ π γ).length = 25 := rfl
  rw [this, Nat.add_sub_cancel_left]
theorem get25 {γ : Sg} {i : Nat} : (wS cA ad τ ρ π γ ++ ext)[25 + i]? = ext[i]? := by
  have : (wS cA ad τ ρ π γ).length = 25 := rfl
  rw [List.getElem?_append_right (by omega), this, Nat.add_sub_cancel_left]
theorem notS_set {i a : Nat} {e0 e1 : va_E} (ha : ext[i]? = some (a, e0)) (hX : ∀ (k : Nat) (q : Nat × va_E), ext[k]? = some q → ¬ aS ad q.1) : ∀ (k : Nat) (q : Nat × va_E), (ext.set i (a, e1))[k]? = some q → ¬ aS ad q.1 := fun k q hq => by
  by_cases hk : i = k
  · subst hk
    rw [List.getElem?_set_self (List.getElem?_eq_some_iff.mp ha).1] at hq
    cases hq
    exact hX i (a, e0) ha
  · rw [List.getElem?_set_ne hk] at hq
    exact hX k q hq
theorem lr_iast (F : LF p m c cc n0 s args Ts D cA cB ad A) (i : Nat) {a n : Nat} {f : Nat → Int32} (ha : ext[i]? = some (a, .inl (cA, n, .inl f))) {j x : Int32} (hin : vp_in j n) (hdg : decode cc pc = .ok (.iastore, 1)) (hL : LW D cA ad A ext s τ ρ π H locs)
    (kk : ∀ (H : Heap) (locs : List Loc), LW D cA ad A (ext.set i (a, .inl (cA, n, .inl (upd f j.toNatClampNeg x)))) s τ ρ π H locs → W p l e R s m args below meth c H locs cells slots Q (F0 m (pc + 1) ls rest)) : W p l e R s m args below meth c H locs cells slots Q (F0 m pc ls (.int x :: .int j :: .ref a :: rest)) := by
  obtain ⟨γ, hP, hD⟩ := hL.one F
  refine va_iast F.C.1 F.C.2.1 F.Ki hP hD hL.2.2.2.2 (25 + i) 0 (by rw [get25]; exact ha) rfl hin hdg (fun H1 locs1 h1 h2 h3 => ?_)
  rw [set25] at h1 h2
  exact kk H1 locs1 ⟨⟨γ, vaP_l h1⟩, vaP_r h1, hL.2.2.1.set ha, notS_set ha hL.2.2.2.1, h3⟩
theorem lr_zast (F : LF p m c cc n0 s args Ts D cA cB ad A) {cZ : ClassId} (hKz : va_K D vwCl [(cZ, .boolean)] s) (i : Nat) {a n : Nat} {f : Nat → Int32} (ha : ext[i]? = some (a, .inl (cZ, n, .inl f))) {j x : Int32} (hin : vp_in j n) (hdg : decode cc pc = .ok (.bastore, 1)) (hL : LW D cA ad A ext s τ ρ π H locs)
    (kk : ∀ (H : Heap) (locs : List Loc), LW D cA ad A (ext.set i (a, .inl (cZ, n, .inl (upd f j.toNatClampNeg (vp_nar .boolean x))))) s τ ρ π H locs → W p l e R s m args below meth c H locs cells slots Q (F0 m (pc + 1) ls rest)) : W p l e R s m args below meth c H locs cells slots Q (F0 m pc ls (.int x :: .int j :: .ref a :: rest)) := by
  obtain ⟨γ, hP, hD⟩ := hL.one F
  refine va_zast F.C.1 F.C.2.1 hKz hP hD hL.2.2.2.2 (25 + i) 0 (by rw [get25]; exact ha) rfl hin hdg (fun H1 locs1 h1 h2 h3 => ?_)
  rw [set25] at h1 h2
  exact kk H1 locs1 ⟨⟨γ, vaP_l h1⟩, vaP_r h1, hL.2.2.1.set ha, notS_set ha hL.2.2.2.1, h3⟩
theorem lr_newi (F : LF p m c cc n0 s args Ts D cA cB ad A) (harr : (Cond.arrayClass .int).before args s = true) {n : Int32} {N : Nat} (hn : ¬ n < 0) (hN : n.toNatClampNeg = N) (hb : N ≤ 100) (hc : cells + 1 ≤ R.cells) (hs : slots + N ≤ R.slots) (hdg : decode cc pc = .ok (.newarray .int, 2)) (hL : LW D cA ad A ext s τ ρ π H locs)
    (kk : ∀ (a : Nat) (H : Heap) (locs : List Loc), LW D cA ad A (ext ++ [(a, .inl (cA, N, .inl (fun _ => 0)))]) s τ ρ π H locs → H.size = H.size → s.heap.size ≤ a → W p l e R s m args below meth c H locs (cells + 1) (slots + N) Q (F0 m (pc + 2) ls (.ref a :: rest))) : W p l e R s m args below meth c H locs cells slots Q (F0 m pc ls (.int n :: rest)) := by
  obtain ⟨γ, hP, hD⟩ := hL.one F
  have hS := hL.2.2.2.2
  refine va_newaK F.C.1 F.C.2.1 (atype := .int) harr rfl hdg rfl hn hN (by show N * 4 ≤ 536870912; omega) hc hs rfl (fun H1 cA' e1 z1 o1 hAr hNm => ?_)
  have e2 := (F.Ki.2 0 (cA, .int) rfl).2
  have e3 : cA' = cA := Option.some.inj (Eq.trans (Eq.symm hNm) e2)
  subst e3
  have hna : ¬ aS ad H.size := fun q => by have := aS_lt (vaP_l hP) q; omega
  have hk : ∀ (k : Nat) (x : Nat × va_E), (wS cA' ad τ ρ π γ ++ ext)[k]? = some x → H1[x.1]? = H[x.1]? := fun k x hx => o1 x.1 ((hP k x hx).lt)
  have hP1 := hP.kept hk
  have hDe := hL.2.2.1.push (e := .inl (cA', N, .inl (fun _ => 0))) (vaP_r hP) rfl (F.nA _ hS.1)
  have new : va_P D vwCl [(H.size, .inl (cA', N, .inl (fun _ => 0)))] H1 := fun k x hx => by
    have hz : k < 1 := (List.getElem?_eq_some_iff.mp hx).1
    rw [show k = 0 by omega] at hx
    cases hx
    exact e1
  refine kk H.size H1 locs ⟨⟨γ, vaP_l hP1⟩, (vaP_r hP1).app new, hDe, fun k x hx => ?_, Nat.le_trans hS.1 (by omega), fun x h1 h2 => (o1 x (Nat.lt_of_lt_of_le h1 hS.1)).trans (hS.2.1 x h1 h2), hS.2.2⟩ rfl hS.1
  by_cases hk2 : k < ext.length
  · rw [List.getElem?_append_left hk2] at hx
    exact hL.2.2.2.1 k x hx
  · rw [List.getElem?_append_right (by omega)] at hx
    have a2 := (List.getElem?_eq_some_iff.mp hx).1
    simp at a2
    rw [show k - ext.length = 0 by omega] at hx
    cases hx
    exact hna
theorem lr_newz (F : LF p m c cc n0 s args Ts D cA cB ad A) (harr : (Cond.arrayClass .boolean).before args s = true) {n : Int32} {N : Nat} (hn : ¬ n < 0) (hN : n.toNatClampNeg = N) (hb : N ≤ 100) (hc : cells + 1 ≤ R.cells) (hs : slots + N ≤ R.slots) (hdg : decode cc pc = .ok (.newarray .boolean, 2)) (hL : LW D cA ad A ext s τ ρ π H locs)
    (kk : ∀ (cZ : ClassId) (a : Nat) (H : Heap) (locs : List Loc), va_K D vwCl [(cZ, .boolean)] s → LW D cA ad A (ext ++ [(a, .inl (cZ, N, .inl (fun _ => 0)))]) s τ ρ π H locs → W p l e R s m args below meth c H locs (cells + 1) (slots + N) Q (F0 m (pc + 2) ls (.ref a :: rest))) : W p l e R s m args below meth c H locs cells slots Q (F0 m pc ls (.int n :: rest)) := by
  obtain ⟨γ, hP, hD⟩ := hL.one F
  have hS := hL.2.2.2.2
  have hna : ¬ aS ad H.size := fun q => by have := aS_lt (vaP_l hP) q; omega
  have hK0 : va_K D vwCl [] s := F.Ki.sub [] rfl
  refine va_newaK F.C.1 F.C.2.1 (atype := .boolean) harr rfl hdg rfl hn hN (by show N * 1 ≤ 536870912; omega) hc hs rfl (fun H1 cZ e1 z1 o1 hAr hNm => ?_)
  have hKz : va_K D vwCl [(cZ, .boolean)] s := ⟨hK0.1, fun k x hx => by
    have hz : k < 1 := (List.getElem?_eq_some_iff.mp hx).1
    rw [show k = 0 by omega] at hx
    cases hx
    exact ⟨hAr, hNm⟩⟩
  have hk : ∀ (k : Nat) (x : Nat × va_E), (wS cA ad τ ρ π γ ++ ext)[k]? = some x → H1[x.1]? = H[x.1]? := fun k x hx => o1 x.1 ((hP k x hx).lt)
  have hP1 := hP.kept hk
  have hDe := hL.2.2.1.push (e := .inl (cZ, N, .inl (fun _ => 0))) (vaP_r hP) rfl (F.nA _ hS.1)
  have new : va_P D vwCl [(H.size, .inl (cZ, N, .inl (fun _ => 0)))] H1 := fun k x hx => by
    have hz : k < 1 := (List.getElem?_eq_some_iff.mp hx).1
    rw [show k = 0 by omega] at hx
    cases hx
    exact e1
  refine kk cZ H.size H1 locs hKz ⟨⟨γ, vaP_l hP1⟩, (vaP_r hP1).app new, hDe, fun k x hx => ?_, Nat.le_trans hS.1 (by omega), fun x h1 h2 => (o1 x (Nat.lt_of_lt_of_le h1 hS.1)).trans (hS.2.1 x h1 h2), hS.2.2⟩
  by_cases hk2 : k < ext.length
  · rw [List.getElem?_append_left hk2] at hx
    exact hL.2.2.2.1 k x hx
  · rw [List.getElem?_append_right (by omega)] at hx
    have a2 := (List.getElem?_eq_some_iff.mp hx).1
    simp at a2
    rw [show k - ext.length = 0 by omega] at hx
    cases hx
    exact hna
end LHELP

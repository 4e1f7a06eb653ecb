/-! TEXTS: what is walked of the JDK (Latin-1 alone); of a text its length alone is told -/
/-- String's static that says that texts may be compact -/
abbrev zW (A : Nat → Prop) (U : State) (H : Heap) : Prop := va_Z "java/lang/String" "COMPACT_STRINGS" "Z" (.int 1) A U H
def pR (D : va_G) (cB : ClassId) (ws : va_W) (U : State) : Prop := va_P D vwCl ws U.heap ∧ va_K D vwCl [(cB, .byte)] U ∧ zW noA U U.heap
def pT (D : va_G) (cB : ClassId) (sz : Nat) (ws : va_W) (U : State) : Prop := U.heap.size = sz ∧ va_P D vwCl ws U.heap ∧ va_K D vwCl [(cB, .byte)] U ∧ va_D (fun _ => True) ws ∧ zW (va_A ws sz) U U.heap
theorem pR_blind {D : va_G} {cB : ClassId} {ws : va_W} {As : List Value} : FrameBlind (va_Pc As (pR D cB ws)) := fun a U g mk q => by
  obtain ⟨q0, qP, qK, qZ⟩ := q
  exact ⟨q0, qP, va_K.moved (u := U) (U := U.calling g mk a) (Vm.Alike.refl U.vm) qK, va_Z.moved (u := U) (U := U.calling g mk a) (Vm.Alike.refl U.vm) qZ⟩
theorem pT_blind {D : va_G} {cB : ClassId} {sz : Nat} {ws : va_W} {As : List Value} : FrameBlind (va_Pc As (pT D cB sz ws)) := fun a U g mk q => by
  obtain ⟨q0, q1, qP, qK, qD, qZ⟩ := q
  exact ⟨q0, q1, qP, va_K.moved (u := U) (U := U.calling g mk a) (Vm.Alike.refl U.vm) qK, qD, va_Z.moved (u := U) (U := U.calling g mk a) (Vm.Alike.refl U.vm) qZ⟩
/-- [B is cloneable: asked of the tables, rides along -/
def zC (U : State) : Prop := va_Nw (.castable "[B" "java/lang/Cloneable") U
def pK (D : va_G) (cB : ClassId) (sz : Nat) (ws : va_W) (U : State) : Prop := zC U ∧ pT D cB sz ws U
theorem pK_blind {D : va_G} {cB : ClassId} {sz : Nat} {ws : va_W} {As : List Value} : FrameBlind (va_Pc As (pK D cB sz ws)) := fun a U g mk q => by
  obtain ⟨q0, qC, q1, qP, qK, qD, qZ⟩ := q
  exact ⟨q0, va_Nw.same (u := U) (U := U.calling g mk a) rfl rfl qC, q1, qP, va_K.moved (u := U) (U := U.calling g mk a) (Vm.Alike.refl U.vm) qK, qD, va_Z.moved (u := U) (U := U.calling g mk a) (Vm.Alike.refl U.vm) qZ⟩
def ct_Read (v : Option Value) : Array Value → State → Outcome → State → Prop := fun _ st o t => o = .returned v ∧ t.heap = st.heap
section TXR
variable {p : Program} {l : Launch} {e : Env} {R : Room} {s : State} {m : MethodId} {args : Array Value} {below : List Frame} {meth : Method} {c : Code} {H : Heap} {locs : List Loc} {cells slots : Nat} {Q : State → Prop}
variable {cc : ByteArray} {pc : Nat} {ls : Array Slot} {rest : List Value}
variable {D : va_G} {cB : ClassId}
/-- a new row of bytes -/
theorem ct_newb {A : Nat → Prop} {H0 : Heap} {ws : va_W} {n : Int32} {N' : Nat} (hx : p.tables.exec = Jvm.exec) (hb : c.code = cc) (harr : (Cond.arrayClass .byte).before args s = true) (hK : va_K D vwCl [(cB, .byte)] s) (hP : va_P D vwCl ws H) (hD : va_D A ws) (hS : va_S A H0 H locs) (hA : ∀ q, H0.size ≤ q → A q)
    (hn : ¬ n < 0) (hN : n.toNatClampNeg = N') (hbytes : N' * componentBytes .byte ≤ 536870912) (hcells : cells + 1 ≤ R.cells) (hslots : slots + N' ≤ R.slots) (hd : decode cc pc = .ok (.newarray .byte, 2))
    (kk : ∀ (q : Nat) (H1 : Heap), va_P D vwCl (ws ++ [(q, .inl (cB, N', .inl (fun _ => 0)))]) H1 → va_D A (ws ++ [(q, .inl (cB, N', .inl (fun _ => 0)))]) → va_S A H0 H1 locs →
      W p l e R s m args below meth c H1 locs (cells + 1) (slots + N') Q (F0 m (pc + 2) ls (.ref q :: rest))) : W p l e R s m args below meth c H locs cells slots Q (F0 m pc ls (.int n :: rest)) := by
  refine va_newa (atype := .byte) (ty := .byte) (a0 := (N', .inl (fun _ => 0))) hx hb harr rfl hK hP hD hS hA (fun _ => rfl) hn hN hbytes hcells hslots hd (fun q cA' H1 hK' hP' hD' hS' => ?_)
  have e1 := (hK'.2 1 (cA', .byte) rfl).2
  have e2 := (hK.2 0 (cB, .byte) rfl).2
  have e3 : cA' = cB := Option.some.inj (Eq.trans (Eq.symm e1) e2)
  subst e3
  exact kk q H1 hP' hD' hS'
/-- a static call of a method that writes nothing, over a world of texts -/
theorem ct_cs {own : String} {index : Nat} {y y0 : MethodName} {bytes : ByteArray} {n0 maxL n : Nat} {r0 ret : Option FieldType} {rm : Room} {As : List Value} {r : Int32} {ws : va_W} (S : CallFix p m c cc n0 s args (wM y0 cc n0 r0) own)
    (hM : Met l y (wM y bytes maxL ret) rm (va_Pc As (pR D cB ws)) (QcRead r) 0 0 noA) (hp : ∀ U : State, U.heap = H → s.WarmedH U.vm → pR D cB ws U)
    (k1 : Cond.methodLink own index y ∈ wA) (k2 : Cond.static y ∈ wA) (k3 : Cond.initialized y.cls ∈ wA) (k5 : Cond.code y bytes maxL ret ∈ wA)
    (hd : y.cls = y.cls ∧ y.cls ≠ "java/lang/invoke/MethodHandle" ∧ y.cls ≠ "java/lang/invoke/VarHandle" ∧ (parseMethodDescriptor y.desc).map (fun d => d.parameters.length) = some n) (hR : rm.frames + 1 ≤ R.frames ∧ 8 + (maxL + 11) + rm.locals ≤ R.locals) (hrc : rm.cells = 0) (hrs : rm.slots = 0)
    (hn : As.length = n) (hsz : ls.size = n0) {st0 : List Value} (hst : st0 = As.reverse ++ rest) (hW : (rest.map fun v => v.category).sum ≤ 8) (hdg : decode cc pc = .ok (.invokestatic index, 3)) (hf : cells ≤ R.cells ∧ slots ≤ R.slots)
    (kk : W p l e R s m args below meth c H locs cells slots Q (F0 m (pc + 3) ls (.int r :: rest))) : W p l e R s m args below meth c H locs cells slots Q (F0 m pc ls st0) :=
  W.callR (W.runS (As := As) (rest := rest) S hM (va_cwS n S.2.2.2.2 (sy_goodS k1 k2 k3 k5) rfl hrc hrs hd.2 hR) ⟨pR_blind, fun U hU hW => ⟨rfl, hp U hU hW⟩⟩ rfl hn hsz hst (lv_room hW) hdg ⟨hf.1, hf.2⟩) kk
theorem sy_goodU {own : String} {index : Nat} {C : String} {y y0 : MethodName} {cc0 bytes : ByteArray} {n0 maxL : Nat} {r0 ret : Option FieldType} (k1 : Cond.methodLink own index y ∈ wA) (k2 : Cond.sameMethod y.cls y.cls y.name y.desc ∈ wA) (k3 : Cond.selects C y y ∈ wA) (k4 : Cond.instanceMethod y ∈ wA) (k5 : Cond.initialized y.cls ∈ wA) (k6 : Cond.code y bytes maxL ret ∈ wA) : GoodIn (wM y0 cc0 n0 r0) (va_wsU own index C y.cls y y (wM y bytes maxL ret)) := by
  intro w hw
  have h : w ∈ wA := by
    rcases List.mem_append.mp hw with h | h
    · simp only [List.mem_cons, List.not_mem_nil, or_false] at h
      rcases h with rfl | rfl | rfl | rfl | rfl <;> assumption
    · rcases List.mem_cons.mp h with rfl | h
      · exact k6
      · exact h
  exact ⟨List.mem_cons_of_mem _ h, good_of_word (wA_ok h)⟩
theorem sy_goodSU {own : String} {index : Nat} {y y0 : MethodName} {cc0 bytes : ByteArray} {n0 maxL : Nat} {r0 ret : Option FieldType} (k1 : Cond.methodLink own index y ∈ wA) (k2 : Cond.sameMethod y.cls y.cls y.name y.desc ∈ wA) (k3 : Cond.superclass own y.cls ∈ wA) (k4 : Cond.instanceMethod y ∈ wA) (k5 : Cond.initialized y.cls ∈ wA) (k6 : Cond.code y bytes maxL ret ∈ wA) : GoodIn (wM y0 cc0 n0 r0) (va_wsSU own index y (wM y bytes maxL ret)) := by
  intro w hw
  have h : w ∈ wA := by
    rcases List.mem_append.mp hw with h | h
    · simp only [List.mem_cons, List.not_mem_nil, or_false] at h
      rcases h with rfl | rfl | rfl | rfl | rfl <;> assumption
    · rcases List.mem_cons.mp h with rfl | h
      · exact k6
      · exact h
  exact ⟨List.mem_cons_of_mem _ h, good_of_word (wA_ok h)⟩
theorem sy_goodO {own : String} {index : Nat} {C owner : String} {x y y0 : MethodName} {cc0 bytes : ByteArray} {n0 maxL : Nat} {r0 ret : Option FieldType} (k1 : Cond.methodLink own index x ∈ wA) (k2 : Cond.sameMethod x.cls owner x.name x.desc ∈ wA) (k3 : Cond.instanceMethod ⟨owner, x.name, x.desc⟩ ∈ wA) (k4 : Cond.selects C x y ∈ wA) (k5 : Cond.instanceMethod y ∈ wA) (k6 : Cond.initialized y.cls ∈ wA) (k7 : Cond.code y bytes maxL ret ∈ wA) : GoodIn (wM y0 cc0 n0 r0) (va_wsO own index C owner x y (wM y bytes maxL ret)) := by
  intro w hw
  have h : w ∈ wA := by
    rcases List.mem_append.mp hw with h | h
    · simp only [List.mem_cons, List.not_mem_nil, or_false] at h
      rcases h with rfl | rfl | rfl | rfl | rfl | rfl <;> assumption
    · rcases List.mem_cons.mp h with rfl | h
      · exact k7
      · exact h
  exact ⟨List.mem_cons_of_mem _ h, good_of_word (wA_ok h)⟩
/-- a virtual call of a method of a class above that writes nothing, over a world of texts -/
theorem ct_cvU {own C : String} {index : Nat} {y y0 : MethodName} {bytes : ByteArray} {n0 maxL n b : Nat} {r0 ret : Option FieldType} {rm : Room} {As : List Value} {r : Int32} {ws : va_W} (S : CallFix p m c cc n0 s args (wM y0 cc n0 r0) own)
    (hM : Met l y (wM y bytes maxL ret) rm (va_Pc (.ref b :: As) (pR D cB ws)) (QcRead r) 0 0 noA) (hp : ∀ U : State, U.heap = H → s.WarmedH U.vm → pR D cB ws U) (hrecv : ∃ cell : Cell, H[b]? = some cell ∧ cell.vm.isStatics = false ∧ s.vm.findClass C = some cell.cls)
    (k1 : Cond.methodLink own index y ∈ wA) (k2 : Cond.sameMethod y.cls y.cls y.name y.desc ∈ wA) (k3 : Cond.selects C y y ∈ wA) (k4 : Cond.instanceMethod y ∈ wA) (k5 : Cond.initialized y.cls ∈ wA) (k6 : Cond.code y bytes maxL ret ∈ wA)
    (hd : y.cls = y.cls ∧ y.cls ≠ "java/lang/invoke/MethodHandle" ∧ y.cls ≠ "java/lang/invoke/VarHandle" ∧ (parseMethodDescriptor y.desc).map (fun d => d.parameters.length) = some n) (hR : rm.frames + 1 ≤ R.frames ∧ 8 + (maxL + 11) + rm.locals ≤ R.locals) (hrc : rm.cells = 0) (hrs : rm.slots = 0)
    (hn : As.length = n) (hsz : ls.size = n0) {st0 : List Value} (hst : st0 = As.reverse ++ .ref b :: rest) (hW : (rest.map fun v => v.category).sum ≤ 8) (hdg : decode cc pc = .ok (.invokevirtual index, 3)) (hf : cells ≤ R.cells ∧ slots ≤ R.slots)
    (kk : W p l e R s m args below meth c H locs cells slots Q (F0 m (pc + 3) ls (.int r :: rest))) : W p l e R s m args below meth c H locs cells slots Q (F0 m pc ls st0) :=
  W.callR (va_Run.run (va_runU (x := y) (As := As) (rest := rest) S hM (va_cwU (owner := y.cls) n S.2.2.2.2 (sy_goodU k1 k2 k3 k4 k5 k6) rfl hrc hrs rfl hd.2 hR) ⟨pR_blind, hrecv, fun U hU hW => ⟨rfl, hp U hU hW⟩⟩ rfl hn hsz hst (lv_room hW) hdg ⟨hf.1, hf.2⟩)) kk
/-- a private method of a class above, as a class selects it -/
theorem selects_priv {C : String} {n : Nat} {y z : MethodName} (hy : y.cls ≠ "java/lang/invoke/MethodHandle" ∧ y.cls ≠ "java/lang/invoke/VarHandle") (hz : z.cls ≠ "java/lang/invoke/MethodHandle" ∧ z.cls ≠ "java/lang/invoke/VarHandle") (hins : (Cond.instantiable C n).before args s = true) (hpriv : (Cond.privateMethod y).before args s = true) (hinst : (Cond.instanceMethod y).before args s = true)
    (hzs : (Cond.selects C z z).before args s = true) (hzi : (Cond.instanceMethod z).before args s = true) (hc : z.cls = y.cls) : (Cond.selects C y y).before args s = true := by
  obtain ⟨c0, k, hc0, hk, -, -, -, -⟩ := Cond.instantiable_spec hins
  obtain ⟨mk, methM, hnamed, hmethM, -, -⟩ := Cond.instanceMethod_spec hinst
  obtain ⟨mz, methZ, hnz, -, -, -⟩ := Cond.instanceMethod_spec hzi
  have hfound : s.methodFound? y.cls y.name y.desc = some mk := State.methodFound?_of_named hnamed hy
  have hfz : s.methodFound? z.cls z.name z.desc = some mz := State.methodFound?_of_named hnz hz
  have hcls : mk.cls = mz.cls := by
    have h1 := findClass_of_methodNamed hnamed
    have h2 := findClass_of_methodNamed hnz
    rw [hc] at h2
    exact Option.some.inj (h1.symm.trans h2)
  have hsel : selectMethod {} s.vm c0 mk = .method mk := selectMethod_private hmethM (Cond.privateMethod_at hpriv mk methM hnamed hmethM)
  have hif : (s.vm.classes[mz.cls]?).any (fun k => !k.isInterface) = true := by
    simp only [Cond.before, Cond.holds, Cond.value, hc0, hfz, hnz] at hzs
    revert hzs
    cases selectMethod {} s.vm c0 mz <;> simp
  simp only [Cond.before, Cond.holds, Cond.value, hc0, hfound, hnamed, hsel, hcls]
  simpa using hif
/-- a call that writes nothing, whatever it answers -/
theorem ct_callV {v : Option Value} {g : JFrame} {a : Array Value} (hr : CallRun p l e R s m args below meth c H locs cells slots 0 0 g rest (ct_Read v a) (fun _ => False)) (kk : W p l e R s m args below meth c H locs cells slots Q { g with pc := g.pc + 3, stack := v.toList ++ rest }) : W p l e R s m args below meth c H locs cells slots Q g := by
  intro T hT X
  obtain ⟨v, st₀, t, T', L, h0, X', hL, e1, ⟨hv, hh⟩, st⟩ := hr T hT X
  cases hv
  obtain ⟨t2, a1, b1⟩ := kk T' (by rw [e1, hh, h0]) (Stand.forget X' (fun q h => (hL q h).elim))
  exact ⟨t2, st t2 a1, b1⟩
end TXR
theorem sb_sub0 (x : Int32) : x - 0 = x := by simp
/-- what an append of one letter leaves: room enough, and not too much -/
def sbPost (m k : Nat) (u : Nat × Nat × (Nat → Int32)) : Prop := k + 1 ≤ u.2.1 ∧ (u.2.1 ≤ m ∨ u.2.1 ≤ 2 * k + 2) ∧ sb_Fit u.2.2
theorem in_nI {k m : Nat} (h : k < m) (hm : m < 2 ^ 31) : vp_in (nI k) m := fun h1 => by
  rcases h1 with h1 | h1
  · exact nI_pos (by omega) h1
  · rw [nI_clamp (by omega)] at h1
    omega
theorem ec_le {k m : Nat} (h : k + 1 ≤ m) (hm : m < 2 ^ 26) : nI (k + 1) - nI m ≤ 0 := by
  rw [Int32.le_iff_toInt_le, Int32.toInt_sub, nI_toInt (by omega), nI_toInt (by omega), Int32.toInt_zero]
  rw [Int.bmod_eq_of_le (by omega) (by omega)]
  omega
theorem ec_gt {k : Nat} (hm : k < 2 ^ 26) : ¬ nI (k + 1) - nI k ≤ 0 := by
  rw [Int32.le_iff_toInt_le, Int32.toInt_sub, nI_toInt (by omega), nI_toInt (by omega), Int32.toInt_zero]
  rw [Int.bmod_eq_of_le (by omega) (by omega)]
  omega
theorem nc_val {m : Nat} (hm : m < 2 ^ 27) : (nI m + if nI (m + 1) - nI m < nI m + 2 then nI m + 2 else nI (m + 1) - nI m) = nI (2 * m + 2) := by
  have e1 : nI (m + 1) - nI m = nI 1 := by
    rw [nI_succ]
    apply Int32.toInt_inj.mp
    rw [Int32.toInt_sub, ← nI_succ, nI_toInt (by omega), nI_toInt (by omega), nI_toInt (by omega)]
    exact (Int.bmod_eq_of_le (by omega) (by omega)).trans (by omega)
  have e2 : nI m + 2 = nI (m + 2) := by
    apply Int32.toInt_inj.mp
    have e : (2 : Int32).toInt = 2 := by decide
    rw [Int32.toInt_add, nI_toInt (by omega), nI_toInt (by omega), e]
    exact (Int.bmod_eq_of_le (by omega) (by omega)).trans (by omega)
  rw [e1, e2, if_pos (nI_lt (by omega) (by omega))]
  apply Int32.toInt_inj.mp
  rw [Int32.toInt_add, nI_toInt (by omega), nI_toInt (by omega), nI_toInt (by omega)]
  exact (Int.bmod_eq_of_le (by omega) (by omega)).trans (by omega)
theorem nc_pos {m : Nat} (hm : m < 2 ^ 27) : 0 < nI (2 * m + 2) := by
  rw [Int32.lt_iff_toInt_lt, nI_toInt (by omega), Int32.toInt_zero]
  omega
theorem nc_le {m : Nat} (hm : m < 2 ^ 27) : nI (2 * m + 2) ≤ 2147483639 := by
  have e : (2147483639 : Int32).toInt = 2147483639 := by decide
  rw [Int32.le_iff_toInt_le, nI_toInt (by omega), e]
  omega
theorem nc_ne {m : Nat} (hm : m < 2 ^ 27) : ¬ nI (2 * m + 2) = 2147483647 := by
  intro h
  have e : (2147483647 : Int32).toInt = 2147483647 := by decide
  have h1 := congrArg Int32.toInt h
  rw [nI_toInt (by omega), e] at h1
  omega

theorem dJ5_init_d00df_0 : decode cJ5_init_d00df 0 = .ok (.aload_n 0, 1) := by decide +kernel
theorem dJ5_init_d00df_1 : decode cJ5_init_d00df 1 = .ok (.invokespecial 3, 3) := by decide +kernel
theorem dJ5_init_d00df_4 : decode cJ5_init_d00df 4 = .ok (.getstatic 18, 3) := by decide +kernel
theorem dJ5_init_d00df_7 : decode cJ5_init_d00df 7 = .ok (.ifCond .eq 18, 3) := by decide +kernel
theorem dJ5_init_d00df_10 : decode cJ5_init_d00df 10 = .ok (.aload_n 0, 1) := by decide +kernel
theorem dJ5_init_d00df_11 : decode cJ5_init_d00df 11 = .ok (.iload_n 1, 1) := by decide +kernel
theorem dJ5_init_d00df_12 : decode cJ5_init_d00df 12 = .ok (.newarray .byte, 2) := by decide +kernel
theorem dJ5_init_d00df_14 : decode cJ5_init_d00df 14 = .ok (.putfield 15, 3) := by decide +kernel
theorem dJ5_init_d00df_17 : decode cJ5_init_d00df 17 = .ok (.aload_n 0, 1) := by decide +kernel
theorem dJ5_init_d00df_18 : decode cJ5_init_d00df 18 = .ok (.iconst 0, 1) := by decide +kernel
theorem dJ5_init_d00df_19 : decode cJ5_init_d00df 19 = .ok (.putfield 22, 3) := by decide +kernel
theorem dJ5_init_d00df_22 : decode cJ5_init_d00df 22 = .ok (.goto 16, 3) := by decide +kernel
theorem dJ5_init_d00df_25 : decode cJ5_init_d00df 25 = .ok (.aload_n 0, 1) := by decide +kernel
theorem dJ5_init_d00df_26 : decode cJ5_init_d00df 26 = .ok (.iload_n 1, 1) := by decide +kernel
theorem dJ5_init_d00df_27 : decode cJ5_init_d00df 27 = .ok (.invokestatic 26, 3) := by decide +kernel
theorem dJ5_init_d00df_30 : decode cJ5_init_d00df 30 = .ok (.putfield 15, 3) := by decide +kernel
theorem dJ5_init_d00df_33 : decode cJ5_init_d00df 33 = .ok (.aload_n 0, 1) := by decide +kernel
theorem dJ5_init_d00df_34 : decode cJ5_init_d00df 34 = .ok (.iconst 1, 1) := by decide +kernel
theorem dJ5_init_d00df_35 : decode cJ5_init_d00df 35 = .ok (.putfield 22, 3) := by decide +kernel
theorem dJ5_init_d00df_38 : decode cJ5_init_d00df 38 = .ok (.return_, 1) := by decide +kernel
theorem dJ5_length_8abf5_0 : decode cJ5_length_8abf5 0 = .ok (.aload_n 0, 1) := by decide +kernel
theorem dJ5_length_8abf5_1 : decode cJ5_length_8abf5 1 = .ok (.getfield 79, 3) := by decide +kernel
theorem dJ5_length_8abf5_4 : decode cJ5_length_8abf5 4 = .ok (.ireturn, 1) := by decide +kernel
theorem dJ5_ensureCapacityInternal_d00df_0 : decode cJ5_ensureCapacityInternal_d00df 0 = .ok (.aload_n 0, 1) := by decide +kernel
theorem dJ5_ensureCapacityInternal_d00df_1 : decode cJ5_ensureCapacityInternal_d00df 1 = .ok (.getfield 15, 3) := by decide +kernel
theorem dJ5_ensureCapacityInternal_d00df_4 : decode cJ5_ensureCapacityInternal_d00df 4 = .ok (.arraylength, 1) := by decide +kernel
theorem dJ5_ensureCapacityInternal_d00df_5 : decode cJ5_ensureCapacityInternal_d00df 5 = .ok (.aload_n 0, 1) := by decide +kernel
theorem dJ5_ensureCapacityInternal_d00df_6 : decode cJ5_ensureCapacityInternal_d00df 6 = .ok (.getfield 22, 3) := by decide +kernel
theorem dJ5_ensureCapacityInternal_d00df_9 : decode cJ5_ensureCapacityInternal_d00df 9 = .ok (.ishr, 1) := by decide +kernel
theorem dJ5_ensureCapacityInternal_d00df_10 : decode cJ5_ensureCapacityInternal_d00df 10 = .ok (.istore_n 2, 1) := by decide +kernel
theorem dJ5_ensureCapacityInternal_d00df_11 : decode cJ5_ensureCapacityInternal_d00df 11 = .ok (.iload_n 1, 1) := by decide +kernel
theorem dJ5_ensureCapacityInternal_d00df_12 : decode cJ5_ensureCapacityInternal_d00df 12 = .ok (.iload_n 2, 1) := by decide +kernel
theorem dJ5_ensureCapacityInternal_d00df_13 : decode cJ5_ensureCapacityInternal_d00df 13 = .ok (.isub, 1) := by decide +kernel
theorem dJ5_ensureCapacityInternal_d00df_14 : decode cJ5_ensureCapacityInternal_d00df 14 = .ok (.ifCond .le 24, 3) := by decide +kernel
theorem dJ5_ensureCapacityInternal_d00df_17 : decode cJ5_ensureCapacityInternal_d00df 17 = .ok (.aload_n 0, 1) := by decide +kernel
theorem dJ5_ensureCapacityInternal_d00df_18 : decode cJ5_ensureCapacityInternal_d00df 18 = .ok (.aload_n 0, 1) := by decide +kernel
theorem dJ5_ensureCapacityInternal_d00df_19 : decode cJ5_ensureCapacityInternal_d00df 19 = .ok (.getfield 15, 3) := by decide +kernel
theorem dJ5_ensureCapacityInternal_d00df_22 : decode cJ5_ensureCapacityInternal_d00df 22 = .ok (.aload_n 0, 1) := by decide +kernel
theorem dJ5_ensureCapacityInternal_d00df_23 : decode cJ5_ensureCapacityInternal_d00df 23 = .ok (.iload_n 1, 1) := by decide +kernel
theorem dJ5_ensureCapacityInternal_d00df_24 : decode cJ5_ensureCapacityInternal_d00df 24 = .ok (.invokevirtual 104, 3) := by decide +kernel
theorem dJ5_ensureCapacityInternal_d00df_27 : decode cJ5_ensureCapacityInternal_d00df 27 = .ok (.aload_n 0, 1) := by decide +kernel
theorem dJ5_ensureCapacityInternal_d00df_28 : decode cJ5_ensureCapacityInternal_d00df 28 = .ok (.getfield 22, 3) := by decide +kernel
theorem dJ5_ensureCapacityInternal_d00df_31 : decode cJ5_ensureCapacityInternal_d00df 31 = .ok (.ishl, 1) := by decide +kernel
theorem dJ5_ensureCapacityInternal_d00df_32 : decode cJ5_ensureCapacityInternal_d00df 32 = .ok (.invokestatic 108, 3) := by decide +kernel
theorem dJ5_ensureCapacityInternal_d00df_35 : decode cJ5_ensureCapacityInternal_d00df 35 = .ok (.putfield 15, 3) := by decide +kernel
theorem dJ5_ensureCapacityInternal_d00df_38 : decode cJ5_ensureCapacityInternal_d00df 38 = .ok (.return_, 1) := by decide +kernel
theorem dJ5_newCapacity_0f7a4_0 : decode cJ5_newCapacity_0f7a4 0 = .ok (.aload_n 0, 1) := by decide +kernel
theorem dJ5_newCapacity_0f7a4_1 : decode cJ5_newCapacity_0f7a4 1 = .ok (.getfield 15, 3) := by decide +kernel
theorem dJ5_newCapacity_0f7a4_4 : decode cJ5_newCapacity_0f7a4 4 = .ok (.arraylength, 1) := by decide +kernel
theorem dJ5_newCapacity_0f7a4_5 : decode cJ5_newCapacity_0f7a4 5 = .ok (.istore_n 2, 1) := by decide +kernel
theorem dJ5_newCapacity_0f7a4_6 : decode cJ5_newCapacity_0f7a4 6 = .ok (.iload_n 1, 1) := by decide +kernel
theorem dJ5_newCapacity_0f7a4_7 : decode cJ5_newCapacity_0f7a4 7 = .ok (.aload_n 0, 1) := by decide +kernel
theorem dJ5_newCapacity_0f7a4_8 : decode cJ5_newCapacity_0f7a4 8 = .ok (.getfield 22, 3) := by decide +kernel
theorem dJ5_newCapacity_0f7a4_11 : decode cJ5_newCapacity_0f7a4 11 = .ok (.ishl, 1) := by decide +kernel
theorem dJ5_newCapacity_0f7a4_12 : decode cJ5_newCapacity_0f7a4 12 = .ok (.istore_n 3, 1) := by decide +kernel
theorem dJ5_newCapacity_0f7a4_13 : decode cJ5_newCapacity_0f7a4 13 = .ok (.iload_n 3, 1) := by decide +kernel
theorem dJ5_newCapacity_0f7a4_14 : decode cJ5_newCapacity_0f7a4 14 = .ok (.iload_n 2, 1) := by decide +kernel
theorem dJ5_newCapacity_0f7a4_15 : decode cJ5_newCapacity_0f7a4 15 = .ok (.isub, 1) := by decide +kernel
theorem dJ5_newCapacity_0f7a4_16 : decode cJ5_newCapacity_0f7a4 16 = .ok (.istore 4, 2) := by decide +kernel
theorem dJ5_newCapacity_0f7a4_18 : decode cJ5_newCapacity_0f7a4 18 = .ok (.iload_n 2, 1) := by decide +kernel
theorem dJ5_newCapacity_0f7a4_19 : decode cJ5_newCapacity_0f7a4 19 = .ok (.iload 4, 2) := by decide +kernel
theorem dJ5_newCapacity_0f7a4_21 : decode cJ5_newCapacity_0f7a4 21 = .ok (.iload_n 2, 1) := by decide +kernel
theorem dJ5_newCapacity_0f7a4_22 : decode cJ5_newCapacity_0f7a4 22 = .ok (.iconst 2, 1) := by decide +kernel
theorem dJ5_newCapacity_0f7a4_23 : decode cJ5_newCapacity_0f7a4 23 = .ok (.aload_n 0, 1) := by decide +kernel
theorem dJ5_newCapacity_0f7a4_24 : decode cJ5_newCapacity_0f7a4 24 = .ok (.getfield 22, 3) := by decide +kernel
theorem dJ5_newCapacity_0f7a4_27 : decode cJ5_newCapacity_0f7a4 27 = .ok (.ishl, 1) := by decide +kernel
theorem dJ5_newCapacity_0f7a4_28 : decode cJ5_newCapacity_0f7a4 28 = .ok (.iadd, 1) := by decide +kernel
theorem dJ5_newCapacity_0f7a4_29 : decode cJ5_newCapacity_0f7a4 29 = .ok (.invokestatic 114, 3) := by decide +kernel
theorem dJ5_newCapacity_0f7a4_32 : decode cJ5_newCapacity_0f7a4 32 = .ok (.istore 5, 2) := by decide +kernel
theorem dJ5_newCapacity_0f7a4_34 : decode cJ5_newCapacity_0f7a4 34 = .ok (.iload 5, 2) := by decide +kernel
theorem dJ5_newCapacity_0f7a4_36 : decode cJ5_newCapacity_0f7a4 36 = .ok (.ldc 39, 2) := by decide +kernel
theorem dJ5_newCapacity_0f7a4_38 : decode cJ5_newCapacity_0f7a4 38 = .ok (.if_icmp .ne 13, 3) := by decide +kernel
theorem dJ5_newCapacity_0f7a4_41 : decode cJ5_newCapacity_0f7a4 41 = .ok (.new 120, 3) := by decide +kernel
theorem dJ5_newCapacity_0f7a4_44 : decode cJ5_newCapacity_0f7a4 44 = .ok (.dup, 1) := by decide +kernel
theorem dJ5_newCapacity_0f7a4_45 : decode cJ5_newCapacity_0f7a4 45 = .ok (.ldc 122, 2) := by decide +kernel
theorem dJ5_newCapacity_0f7a4_47 : decode cJ5_newCapacity_0f7a4 47 = .ok (.invokespecial 124, 3) := by decide +kernel
theorem dJ5_newCapacity_0f7a4_50 : decode cJ5_newCapacity_0f7a4 50 = .ok (.athrow, 1) := by decide +kernel
theorem dJ5_newCapacity_0f7a4_51 : decode cJ5_newCapacity_0f7a4 51 = .ok (.iload 5, 2) := by decide +kernel
theorem dJ5_newCapacity_0f7a4_53 : decode cJ5_newCapacity_0f7a4 53 = .ok (.aload_n 0, 1) := by decide +kernel
theorem dJ5_newCapacity_0f7a4_54 : decode cJ5_newCapacity_0f7a4 54 = .ok (.getfield 22, 3) := by decide +kernel
theorem dJ5_newCapacity_0f7a4_57 : decode cJ5_newCapacity_0f7a4 57 = .ok (.ishr, 1) := by decide +kernel
theorem dJ5_newCapacity_0f7a4_58 : decode cJ5_newCapacity_0f7a4 58 = .ok (.ireturn, 1) := by decide +kernel
theorem dJ5_append_3fe6f_0 : decode cJ5_append_3fe6f 0 = .ok (.aload_n 0, 1) := by decide +kernel
theorem dJ5_append_3fe6f_1 : decode cJ5_append_3fe6f 1 = .ok (.aload_n 0, 1) := by decide +kernel
theorem dJ5_append_3fe6f_2 : decode cJ5_append_3fe6f 2 = .ok (.getfield 79, 3) := by decide +kernel
theorem dJ5_append_3fe6f_5 : decode cJ5_append_3fe6f 5 = .ok (.iconst 1, 1) := by decide +kernel
theorem dJ5_append_3fe6f_6 : decode cJ5_append_3fe6f 6 = .ok (.iadd, 1) := by decide +kernel
theorem dJ5_append_3fe6f_7 : decode cJ5_append_3fe6f 7 = .ok (.invokevirtual 100, 3) := by decide +kernel
theorem dJ5_append_3fe6f_10 : decode cJ5_append_3fe6f 10 = .ok (.aload_n 0, 1) := by decide +kernel
theorem dJ5_append_3fe6f_11 : decode cJ5_append_3fe6f 11 = .ok (.invokevirtual 83, 3) := by decide +kernel
theorem dJ5_append_3fe6f_14 : decode cJ5_append_3fe6f 14 = .ok (.ifCond .eq 31, 3) := by decide +kernel
theorem dJ5_append_3fe6f_17 : decode cJ5_append_3fe6f 17 = .ok (.iload_n 1, 1) := by decide +kernel
theorem dJ5_append_3fe6f_18 : decode cJ5_append_3fe6f 18 = .ok (.invokestatic 191, 3) := by decide +kernel
theorem dJ5_append_3fe6f_21 : decode cJ5_append_3fe6f 21 = .ok (.ifCond .eq 24, 3) := by decide +kernel
theorem dJ5_append_3fe6f_24 : decode cJ5_append_3fe6f 24 = .ok (.aload_n 0, 1) := by decide +kernel
theorem dJ5_append_3fe6f_25 : decode cJ5_append_3fe6f 25 = .ok (.getfield 15, 3) := by decide +kernel
theorem dJ5_append_3fe6f_28 : decode cJ5_append_3fe6f 28 = .ok (.aload_n 0, 1) := by decide +kernel
theorem dJ5_append_3fe6f_29 : decode cJ5_append_3fe6f 29 = .ok (.dup, 1) := by decide +kernel
theorem dJ5_append_3fe6f_30 : decode cJ5_append_3fe6f 30 = .ok (.getfield 79, 3) := by decide +kernel
theorem dJ5_append_3fe6f_33 : decode cJ5_append_3fe6f 33 = .ok (.dup_x1, 1) := by decide +kernel
theorem dJ5_append_3fe6f_34 : decode cJ5_append_3fe6f 34 = .ok (.iconst 1, 1) := by decide +kernel
theorem dJ5_append_3fe6f_35 : decode cJ5_append_3fe6f 35 = .ok (.iadd, 1) := by decide +kernel
theorem dJ5_append_3fe6f_36 : decode cJ5_append_3fe6f 36 = .ok (.putfield 79, 3) := by decide +kernel
theorem dJ5_append_3fe6f_39 : decode cJ5_append_3fe6f 39 = .ok (.iload_n 1, 1) := by decide +kernel
theorem dJ5_append_3fe6f_40 : decode cJ5_append_3fe6f 40 = .ok (.i2b, 1) := by decide +kernel
theorem dJ5_append_3fe6f_41 : decode cJ5_append_3fe6f 41 = .ok (.bastore, 1) := by decide +kernel
theorem dJ5_append_3fe6f_42 : decode cJ5_append_3fe6f 42 = .ok (.goto 33, 3) := by decide +kernel
theorem dJ5_append_3fe6f_45 : decode cJ5_append_3fe6f 45 = .ok (.aload_n 0, 1) := by decide +kernel
theorem dJ5_append_3fe6f_46 : decode cJ5_append_3fe6f 46 = .ok (.invokevirtual 83, 3) := by decide +kernel
theorem dJ5_append_3fe6f_49 : decode cJ5_append_3fe6f 49 = .ok (.ifCond .eq 7, 3) := by decide +kernel
theorem dJ5_append_3fe6f_52 : decode cJ5_append_3fe6f 52 = .ok (.aload_n 0, 1) := by decide +kernel
theorem dJ5_append_3fe6f_53 : decode cJ5_append_3fe6f 53 = .ok (.invokevirtual 195, 3) := by decide +kernel
theorem dJ5_append_3fe6f_56 : decode cJ5_append_3fe6f 56 = .ok (.aload_n 0, 1) := by decide +kernel
theorem dJ5_append_3fe6f_57 : decode cJ5_append_3fe6f 57 = .ok (.getfield 15, 3) := by decide +kernel
theorem dJ5_append_3fe6f_60 : decode cJ5_append_3fe6f 60 = .ok (.aload_n 0, 1) := by decide +kernel
theorem dJ5_append_3fe6f_61 : decode cJ5_append_3fe6f 61 = .ok (.dup, 1) := by decide +kernel
theorem dJ5_append_3fe6f_62 : decode cJ5_append_3fe6f 62 = .ok (.getfield 79, 3) := by decide +kernel
theorem dJ5_append_3fe6f_65 : decode cJ5_append_3fe6f 65 = .ok (.dup_x1, 1) := by decide +kernel
theorem dJ5_append_3fe6f_66 : decode cJ5_append_3fe6f 66 = .ok (.iconst 1, 1) := by decide +kernel
theorem dJ5_append_3fe6f_67 : decode cJ5_append_3fe6f 67 = .ok (.iadd, 1) := by decide +kernel
theorem dJ5_append_3fe6f_68 : decode cJ5_append_3fe6f 68 = .ok (.putfield 79, 3) := by decide +kernel
theorem dJ5_append_3fe6f_71 : decode cJ5_append_3fe6f 71 = .ok (.iload_n 1, 1) := by decide +kernel
theorem dJ5_append_3fe6f_72 : decode cJ5_append_3fe6f 72 = .ok (.invokestatic 197, 3) := by decide +kernel
theorem dJ5_append_3fe6f_75 : decode cJ5_append_3fe6f 75 = .ok (.aload_n 0, 1) := by decide +kernel
theorem dJ5_append_3fe6f_76 : decode cJ5_append_3fe6f 76 = .ok (.areturn, 1) := by decide +kernel
theorem dJ5_getValue_6d5f1_0 : decode cJ5_getValue_6d5f1 0 = .ok (.aload_n 0, 1) := by decide +kernel
theorem dJ5_getValue_6d5f1_1 : decode cJ5_getValue_6d5f1 1 = .ok (.getfield 15, 3) := by decide +kernel
theorem dJ5_getValue_6d5f1_4 : decode cJ5_getValue_6d5f1 4 = .ok (.areturn, 1) := by decide +kernel
theorem dJ5_isLatin1_aae02_0 : decode cJ5_isLatin1_aae02 0 = .ok (.getstatic 18, 3) := by decide +kernel
theorem dJ5_isLatin1_aae02_3 : decode cJ5_isLatin1_aae02 3 = .ok (.ifCond .eq 14, 3) := by decide +kernel
theorem dJ5_isLatin1_aae02_6 : decode cJ5_isLatin1_aae02 6 = .ok (.aload_n 0, 1) := by decide +kernel
theorem dJ5_isLatin1_aae02_7 : decode cJ5_isLatin1_aae02 7 = .ok (.getfield 22, 3) := by decide +kernel
theorem dJ5_isLatin1_aae02_10 : decode cJ5_isLatin1_aae02 10 = .ok (.ifCond .ne 7, 3) := by decide +kernel
theorem dJ5_isLatin1_aae02_13 : decode cJ5_isLatin1_aae02 13 = .ok (.iconst 1, 1) := by decide +kernel
theorem dJ5_isLatin1_aae02_14 : decode cJ5_isLatin1_aae02 14 = .ok (.goto 4, 3) := by decide +kernel
theorem dJ5_isLatin1_aae02_17 : decode cJ5_isLatin1_aae02 17 = .ok (.iconst 0, 1) := by decide +kernel
theorem dJ5_isLatin1_aae02_18 : decode cJ5_isLatin1_aae02 18 = .ok (.ireturn, 1) := by decide +kernel
theorem dJ0_init_81219_0 : decode cJ0_init_81219 0 = .ok (.aload_n 0, 1) := by decide +kernel
theorem dJ0_init_81219_1 : decode cJ0_init_81219 1 = .ok (.aload_n 1, 1) := by decide +kernel
theorem dJ0_init_81219_2 : decode cJ0_init_81219 2 = .ok (.aconst_null, 1) := by decide +kernel
theorem dJ0_init_81219_3 : decode cJ0_init_81219 3 = .ok (.invokespecial 489, 3) := by decide +kernel
theorem dJ0_init_81219_6 : decode cJ0_init_81219 6 = .ok (.return_, 1) := by decide +kernel
theorem dJ0_length_8abf5_0 : decode cJ0_length_8abf5 0 = .ok (.aload_n 0, 1) := by decide +kernel
theorem dJ0_length_8abf5_1 : decode cJ0_length_8abf5 1 = .ok (.getfield 9, 3) := by decide +kernel
theorem dJ0_length_8abf5_4 : decode cJ0_length_8abf5 4 = .ok (.arraylength, 1) := by decide +kernel
theorem dJ0_length_8abf5_5 : decode cJ0_length_8abf5 5 = .ok (.aload_n 0, 1) := by decide +kernel
theorem dJ0_length_8abf5_6 : decode cJ0_length_8abf5 6 = .ok (.invokevirtual 335, 3) := by decide +kernel
theorem dJ0_length_8abf5_9 : decode cJ0_length_8abf5 9 = .ok (.ishr, 1) := by decide +kernel
theorem dJ0_length_8abf5_10 : decode cJ0_length_8abf5 10 = .ok (.ireturn, 1) := by decide +kernel
theorem dJ0_init_db425_0 : decode cJ0_init_db425 0 = .ok (.aload_n 0, 1) := by decide +kernel
theorem dJ0_init_db425_1 : decode cJ0_init_db425 1 = .ok (.invokespecial 1, 3) := by decide +kernel
theorem dJ0_init_db425_4 : decode cJ0_init_db425 4 = .ok (.aload_n 1, 1) := by decide +kernel
theorem dJ0_init_db425_5 : decode cJ0_init_db425 5 = .ok (.invokevirtual 552, 3) := by decide +kernel
theorem dJ0_init_db425_8 : decode cJ0_init_db425 8 = .ok (.astore_n 3, 1) := by decide +kernel
theorem dJ0_init_db425_9 : decode cJ0_init_db425 9 = .ok (.aload_n 1, 1) := by decide +kernel
theorem dJ0_init_db425_10 : decode cJ0_init_db425 10 = .ok (.invokevirtual 549, 3) := by decide +kernel
theorem dJ0_init_db425_13 : decode cJ0_init_db425 13 = .ok (.istore 4, 2) := by decide +kernel
theorem dJ0_init_db425_15 : decode cJ0_init_db425 15 = .ok (.aload_n 1, 1) := by decide +kernel
theorem dJ0_init_db425_16 : decode cJ0_init_db425 16 = .ok (.invokevirtual 1047, 3) := by decide +kernel
theorem dJ0_init_db425_19 : decode cJ0_init_db425 19 = .ok (.ifCond .eq 22, 3) := by decide +kernel
theorem dJ0_init_db425_22 : decode cJ0_init_db425 22 = .ok (.aload_n 0, 1) := by decide +kernel
theorem dJ0_init_db425_23 : decode cJ0_init_db425 23 = .ok (.iconst 0, 1) := by decide +kernel
theorem dJ0_init_db425_24 : decode cJ0_init_db425 24 = .ok (.putfield 15, 3) := by decide +kernel
theorem dJ0_init_db425_27 : decode cJ0_init_db425 27 = .ok (.aload_n 0, 1) := by decide +kernel
theorem dJ0_init_db425_28 : decode cJ0_init_db425 28 = .ok (.aload_n 3, 1) := by decide +kernel
theorem dJ0_init_db425_29 : decode cJ0_init_db425 29 = .ok (.iconst 0, 1) := by decide +kernel
theorem dJ0_init_db425_30 : decode cJ0_init_db425 30 = .ok (.iload 4, 2) := by decide +kernel
theorem dJ0_init_db425_32 : decode cJ0_init_db425 32 = .ok (.invokestatic 54, 3) := by decide +kernel
theorem dJ0_init_db425_35 : decode cJ0_init_db425 35 = .ok (.putfield 9, 3) := by decide +kernel
theorem dJ0_init_db425_38 : decode cJ0_init_db425 38 = .ok (.goto 59, 3) := by decide +kernel
theorem dJ0_init_db425_41 : decode cJ0_init_db425 41 = .ok (.getstatic 38, 3) := by decide +kernel
theorem dJ0_init_db425_44 : decode cJ0_init_db425 44 = .ok (.ifCond .eq 35, 3) := by decide +kernel
theorem dJ0_init_db425_47 : decode cJ0_init_db425 47 = .ok (.aload_n 1, 1) := by decide +kernel
theorem dJ0_init_db425_48 : decode cJ0_init_db425 48 = .ok (.getfield 1048, 3) := by decide +kernel
theorem dJ0_init_db425_51 : decode cJ0_init_db425 51 = .ok (.ifCond .eq 28, 3) := by decide +kernel
theorem dJ0_init_db425_54 : decode cJ0_init_db425 54 = .ok (.aload_n 0, 1) := by decide +kernel
theorem dJ0_init_db425_55 : decode cJ0_init_db425 55 = .ok (.aload_n 3, 1) := by decide +kernel
theorem dJ0_init_db425_56 : decode cJ0_init_db425 56 = .ok (.iconst 0, 1) := by decide +kernel
theorem dJ0_init_db425_57 : decode cJ0_init_db425 57 = .ok (.iload 4, 2) := by decide +kernel
theorem dJ0_init_db425_59 : decode cJ0_init_db425 59 = .ok (.invokestatic 1051, 3) := by decide +kernel
theorem dJ0_init_db425_62 : decode cJ0_init_db425 62 = .ok (.putfield 9, 3) := by decide +kernel
theorem dJ0_init_db425_65 : decode cJ0_init_db425 65 = .ok (.aload_n 0, 1) := by decide +kernel
theorem dJ0_init_db425_66 : decode cJ0_init_db425 66 = .ok (.aload_n 0, 1) := by decide +kernel
theorem dJ0_init_db425_67 : decode cJ0_init_db425 67 = .ok (.getfield 9, 3) := by decide +kernel
theorem dJ0_init_db425_70 : decode cJ0_init_db425 70 = .ok (.iload 4, 2) := by decide +kernel
theorem dJ0_init_db425_72 : decode cJ0_init_db425 72 = .ok (.invokestatic 47, 3) := by decide +kernel
theorem dJ0_init_db425_75 : decode cJ0_init_db425 75 = .ok (.putfield 15, 3) := by decide +kernel
theorem dJ0_init_db425_78 : decode cJ0_init_db425 78 = .ok (.return_, 1) := by decide +kernel
theorem dJ0_init_db425_79 : decode cJ0_init_db425 79 = .ok (.aload_n 0, 1) := by decide +kernel
theorem dJ0_init_db425_80 : decode cJ0_init_db425 80 = .ok (.iconst 1, 1) := by decide +kernel
theorem dJ0_init_db425_81 : decode cJ0_init_db425 81 = .ok (.putfield 15, 3) := by decide +kernel
theorem dJ0_init_db425_84 : decode cJ0_init_db425 84 = .ok (.aload_n 0, 1) := by decide +kernel
theorem dJ0_init_db425_85 : decode cJ0_init_db425 85 = .ok (.aload_n 3, 1) := by decide +kernel
theorem dJ0_init_db425_86 : decode cJ0_init_db425 86 = .ok (.iconst 0, 1) := by decide +kernel
theorem dJ0_init_db425_87 : decode cJ0_init_db425 87 = .ok (.iload 4, 2) := by decide +kernel
theorem dJ0_init_db425_89 : decode cJ0_init_db425 89 = .ok (.iconst 1, 1) := by decide +kernel
theorem dJ0_init_db425_90 : decode cJ0_init_db425 90 = .ok (.ishl, 1) := by decide +kernel
theorem dJ0_init_db425_91 : decode cJ0_init_db425 91 = .ok (.invokestatic 54, 3) := by decide +kernel
theorem dJ0_init_db425_94 : decode cJ0_init_db425 94 = .ok (.putfield 9, 3) := by decide +kernel
theorem dJ0_init_db425_97 : decode cJ0_init_db425 97 = .ok (.return_, 1) := by decide +kernel
theorem dJ0_coder_7d493_0 : decode cJ0_coder_7d493 0 = .ok (.getstatic 38, 3) := by decide +kernel
theorem dJ0_coder_7d493_3 : decode cJ0_coder_7d493 3 = .ok (.ifCond .eq 10, 3) := by decide +kernel
theorem dJ0_coder_7d493_6 : decode cJ0_coder_7d493 6 = .ok (.aload_n 0, 1) := by decide +kernel
theorem dJ0_coder_7d493_7 : decode cJ0_coder_7d493 7 = .ok (.getfield 15, 3) := by decide +kernel
theorem dJ0_coder_7d493_10 : decode cJ0_coder_7d493 10 = .ok (.goto 4, 3) := by decide +kernel
theorem dJ0_coder_7d493_13 : decode cJ0_coder_7d493 13 = .ok (.iconst 1, 1) := by decide +kernel
theorem dJ0_coder_7d493_14 : decode cJ0_coder_7d493 14 = .ok (.ireturn, 1) := by decide +kernel
theorem dJ4_init_da8c8_0 : decode cJ4_init_da8c8 0 = .ok (.aload_n 0, 1) := by decide +kernel
theorem dJ4_init_da8c8_1 : decode cJ4_init_da8c8 1 = .ok (.bipush 16, 2) := by decide +kernel
theorem dJ4_init_da8c8_3 : decode cJ4_init_da8c8 3 = .ok (.invokespecial 1, 3) := by decide +kernel
theorem dJ4_init_da8c8_6 : decode cJ4_init_da8c8 6 = .ok (.return_, 1) := by decide +kernel
theorem dJ4_append_cf468_0 : decode cJ4_append_cf468 0 = .ok (.aload_n 0, 1) := by decide +kernel
theorem dJ4_append_cf468_1 : decode cJ4_append_cf468 1 = .ok (.iload_n 1, 1) := by decide +kernel
theorem dJ4_append_cf468_2 : decode cJ4_append_cf468 2 = .ok (.invokespecial 50, 3) := by decide +kernel
theorem dJ4_append_cf468_5 : decode cJ4_append_cf468 5 = .ok (.pop, 1) := by decide +kernel
theorem dJ4_append_cf468_6 : decode cJ4_append_cf468 6 = .ok (.aload_n 0, 1) := by decide +kernel
theorem dJ4_append_cf468_7 : decode cJ4_append_cf468 7 = .ok (.areturn, 1) := by decide +kernel
theorem dJ4_toString_0e30d_0 : decode cJ4_toString_0e30d 0 = .ok (.new 18, 3) := by decide +kernel
theorem dJ4_toString_0e30d_3 : decode cJ4_toString_0e30d 3 = .ok (.dup, 1) := by decide +kernel
theorem dJ4_toString_0e30d_4 : decode cJ4_toString_0e30d 4 = .ok (.aload_n 0, 1) := by decide +kernel
theorem dJ4_toString_0e30d_5 : decode cJ4_toString_0e30d 5 = .ok (.invokespecial 137, 3) := by decide +kernel
theorem dJ4_toString_0e30d_8 : decode cJ4_toString_0e30d 8 = .ok (.areturn, 1) := by decide +kernel
theorem dJ4_length_8abf5_0 : decode cJ4_length_8abf5 0 = .ok (.aload_n 0, 1) := by decide +kernel
theorem dJ4_length_8abf5_1 : decode cJ4_length_8abf5 1 = .ok (.invokespecial 343, 3) := by decide +kernel
theorem dJ4_length_8abf5_4 : decode cJ4_length_8abf5 4 = .ok (.ireturn, 1) := by decide +kernel
theorem dJ1_canEncode_fc78d_0 : decode cJ1_canEncode_fc78d 0 = .ok (.iload_n 0, 1) := by decide +kernel
theorem dJ1_canEncode_fc78d_1 : decode cJ1_canEncode_fc78d 1 = .ok (.sipush 255, 3) := by decide +kernel
theorem dJ1_canEncode_fc78d_4 : decode cJ1_canEncode_fc78d 4 = .ok (.if_icmp .gt 7, 3) := by decide +kernel
theorem dJ1_canEncode_fc78d_7 : decode cJ1_canEncode_fc78d 7 = .ok (.iconst 1, 1) := by decide +kernel
theorem dJ1_canEncode_fc78d_8 : decode cJ1_canEncode_fc78d 8 = .ok (.goto 4, 3) := by decide +kernel
theorem dJ1_canEncode_fc78d_11 : decode cJ1_canEncode_fc78d 11 = .ok (.iconst 0, 1) := by decide +kernel
theorem dJ1_canEncode_fc78d_12 : decode cJ1_canEncode_fc78d 12 = .ok (.ireturn, 1) := by decide +kernel
theorem dJ7_copyOf_9075b_0 : decode cJ7_copyOf_9075b 0 = .ok (.iload_n 1, 1) := by decide +kernel
theorem dJ7_copyOf_9075b_1 : decode cJ7_copyOf_9075b 1 = .ok (.aload_n 0, 1) := by decide +kernel
theorem dJ7_copyOf_9075b_2 : decode cJ7_copyOf_9075b 2 = .ok (.arraylength, 1) := by decide +kernel
theorem dJ7_copyOf_9075b_3 : decode cJ7_copyOf_9075b 3 = .ok (.if_icmp .ne 11, 3) := by decide +kernel
theorem dJ7_copyOf_9075b_6 : decode cJ7_copyOf_9075b 6 = .ok (.aload_n 0, 1) := by decide +kernel
theorem dJ7_copyOf_9075b_7 : decode cJ7_copyOf_9075b 7 = .ok (.invokevirtual 310, 3) := by decide +kernel
theorem dJ7_copyOf_9075b_10 : decode cJ7_copyOf_9075b 10 = .ok (.checkcast 311, 3) := by decide +kernel
theorem dJ7_copyOf_9075b_13 : decode cJ7_copyOf_9075b 13 = .ok (.areturn, 1) := by decide +kernel
theorem dJ7_copyOf_9075b_14 : decode cJ7_copyOf_9075b 14 = .ok (.iload_n 1, 1) := by decide +kernel
theorem dJ7_copyOf_9075b_15 : decode cJ7_copyOf_9075b 15 = .ok (.newarray .byte, 2) := by decide +kernel
theorem dJ7_copyOf_9075b_17 : decode cJ7_copyOf_9075b 17 = .ok (.astore_n 2, 1) := by decide +kernel
theorem dJ7_copyOf_9075b_18 : decode cJ7_copyOf_9075b 18 = .ok (.aload_n 0, 1) := by decide +kernel
theorem dJ7_copyOf_9075b_19 : decode cJ7_copyOf_9075b 19 = .ok (.iconst 0, 1) := by decide +kernel
theorem dJ7_copyOf_9075b_20 : decode cJ7_copyOf_9075b 20 = .ok (.aload_n 2, 1) := by decide +kernel
theorem dJ7_copyOf_9075b_21 : decode cJ7_copyOf_9075b 21 = .ok (.iconst 0, 1) := by decide +kernel
theorem dJ7_copyOf_9075b_22 : decode cJ7_copyOf_9075b 22 = .ok (.aload_n 0, 1) := by decide +kernel
theorem dJ7_copyOf_9075b_23 : decode cJ7_copyOf_9075b 23 = .ok (.arraylength, 1) := by decide +kernel
theorem dJ7_copyOf_9075b_24 : decode cJ7_copyOf_9075b 24 = .ok (.iload_n 1, 1) := by decide +kernel
theorem dJ7_copyOf_9075b_25 : decode cJ7_copyOf_9075b 25 = .ok (.invokestatic 304, 3) := by decide +kernel
theorem dJ7_copyOf_9075b_28 : decode cJ7_copyOf_9075b 28 = .ok (.invokestatic 150, 3) := by decide +kernel
theorem dJ7_copyOf_9075b_31 : decode cJ7_copyOf_9075b 31 = .ok (.aload_n 2, 1) := by decide +kernel
theorem dJ7_copyOf_9075b_32 : decode cJ7_copyOf_9075b 32 = .ok (.areturn, 1) := by decide +kernel
theorem dJ7_checkLength_df160_0 : decode cJ7_checkLength_df160 0 = .ok (.iload_n 1, 1) := by decide +kernel
theorem dJ7_checkLength_df160_1 : decode cJ7_checkLength_df160 1 = .ok (.iload_n 0, 1) := by decide +kernel
theorem dJ7_checkLength_df160_2 : decode cJ7_checkLength_df160 2 = .ok (.if_icmp .ge 35, 3) := by decide +kernel
theorem dJ7_checkLength_df160_5 : decode cJ7_checkLength_df160 5 = .ok (.new 43, 3) := by decide +kernel
theorem dJ7_checkLength_df160_8 : decode cJ7_checkLength_df160 8 = .ok (.dup, 1) := by decide +kernel
theorem dJ7_checkLength_df160_9 : decode cJ7_checkLength_df160 9 = .ok (.new 45, 3) := by decide +kernel
theorem dJ7_checkLength_df160_12 : decode cJ7_checkLength_df160 12 = .ok (.dup, 1) := by decide +kernel
theorem dJ7_checkLength_df160_13 : decode cJ7_checkLength_df160 13 = .ok (.invokespecial 47, 3) := by decide +kernel
theorem dJ7_checkLength_df160_16 : decode cJ7_checkLength_df160 16 = .ok (.iload_n 0, 1) := by decide +kernel
theorem dJ7_checkLength_df160_17 : decode cJ7_checkLength_df160 17 = .ok (.invokevirtual 54, 3) := by decide +kernel
theorem dJ7_checkLength_df160_20 : decode cJ7_checkLength_df160 20 = .ok (.ldc_w 337, 3) := by decide +kernel
theorem dJ7_checkLength_df160_23 : decode cJ7_checkLength_df160 23 = .ok (.invokevirtual 50, 3) := by decide +kernel
theorem dJ7_checkLength_df160_26 : decode cJ7_checkLength_df160 26 = .ok (.iload_n 1, 1) := by decide +kernel
theorem dJ7_checkLength_df160_27 : decode cJ7_checkLength_df160 27 = .ok (.invokevirtual 54, 3) := by decide +kernel
theorem dJ7_checkLength_df160_30 : decode cJ7_checkLength_df160 30 = .ok (.invokevirtual 61, 3) := by decide +kernel
theorem dJ7_checkLength_df160_33 : decode cJ7_checkLength_df160 33 = .ok (.invokespecial 65, 3) := by decide +kernel
theorem dJ7_checkLength_df160_36 : decode cJ7_checkLength_df160 36 = .ok (.athrow, 1) := by decide +kernel
theorem dJ7_checkLength_df160_37 : decode cJ7_checkLength_df160 37 = .ok (.return_, 1) := by decide +kernel
theorem dJ7_copyOfRange_39247_0 : decode cJ7_copyOfRange_39247 0 = .ok (.iload_n 1, 1) := by decide +kernel
theorem dJ7_copyOfRange_39247_1 : decode cJ7_copyOfRange_39247 1 = .ok (.ifCond .ne 9, 3) := by decide +kernel
theorem dJ7_copyOfRange_39247_4 : decode cJ7_copyOfRange_39247 4 = .ok (.iload_n 2, 1) := by decide +kernel
theorem dJ7_copyOfRange_39247_5 : decode cJ7_copyOfRange_39247 5 = .ok (.aload_n 0, 1) := by decide +kernel
theorem dJ7_copyOfRange_39247_6 : decode cJ7_copyOfRange_39247 6 = .ok (.arraylength, 1) := by decide +kernel
theorem dJ7_copyOfRange_39247_7 : decode cJ7_copyOfRange_39247 7 = .ok (.if_icmp .eq 10, 3) := by decide +kernel
theorem dJ7_copyOfRange_39247_10 : decode cJ7_copyOfRange_39247 10 = .ok (.aload_n 0, 1) := by decide +kernel
theorem dJ7_copyOfRange_39247_11 : decode cJ7_copyOfRange_39247 11 = .ok (.iload_n 1, 1) := by decide +kernel
theorem dJ7_copyOfRange_39247_12 : decode cJ7_copyOfRange_39247 12 = .ok (.iload_n 2, 1) := by decide +kernel
theorem dJ7_copyOfRange_39247_13 : decode cJ7_copyOfRange_39247 13 = .ok (.invokestatic 339, 3) := by decide +kernel
theorem dJ7_copyOfRange_39247_16 : decode cJ7_copyOfRange_39247 16 = .ok (.areturn, 1) := by decide +kernel
theorem dJ7_copyOfRange_39247_17 : decode cJ7_copyOfRange_39247 17 = .ok (.aload_n 0, 1) := by decide +kernel
theorem dJ7_copyOfRange_39247_18 : decode cJ7_copyOfRange_39247 18 = .ok (.invokevirtual 310, 3) := by decide +kernel
theorem dJ7_copyOfRange_39247_21 : decode cJ7_copyOfRange_39247 21 = .ok (.checkcast 311, 3) := by decide +kernel
theorem dJ7_copyOfRange_39247_24 : decode cJ7_copyOfRange_39247 24 = .ok (.areturn, 1) := by decide +kernel
theorem dJ7_copyOfRangeByte_39247_0 : decode cJ7_copyOfRangeByte_39247 0 = .ok (.iload_n 1, 1) := by decide +kernel
theorem dJ7_copyOfRangeByte_39247_1 : decode cJ7_copyOfRangeByte_39247 1 = .ok (.iload_n 2, 1) := by decide +kernel
theorem dJ7_copyOfRangeByte_39247_2 : decode cJ7_copyOfRangeByte_39247 2 = .ok (.invokestatic 343, 3) := by decide +kernel
theorem dJ7_copyOfRangeByte_39247_5 : decode cJ7_copyOfRangeByte_39247 5 = .ok (.iload_n 2, 1) := by decide +kernel
theorem dJ7_copyOfRangeByte_39247_6 : decode cJ7_copyOfRangeByte_39247 6 = .ok (.iload_n 1, 1) := by decide +kernel
theorem dJ7_copyOfRangeByte_39247_7 : decode cJ7_copyOfRangeByte_39247 7 = .ok (.isub, 1) := by decide +kernel
theorem dJ7_copyOfRangeByte_39247_8 : decode cJ7_copyOfRangeByte_39247 8 = .ok (.istore_n 3, 1) := by decide +kernel
theorem dJ7_copyOfRangeByte_39247_9 : decode cJ7_copyOfRangeByte_39247 9 = .ok (.iload_n 3, 1) := by decide +kernel
theorem dJ7_copyOfRangeByte_39247_10 : decode cJ7_copyOfRangeByte_39247 10 = .ok (.newarray .byte, 2) := by decide +kernel
theorem dJ7_copyOfRangeByte_39247_12 : decode cJ7_copyOfRangeByte_39247 12 = .ok (.astore 4, 2) := by decide +kernel
theorem dJ7_copyOfRangeByte_39247_14 : decode cJ7_copyOfRangeByte_39247 14 = .ok (.aload_n 0, 1) := by decide +kernel
theorem dJ7_copyOfRangeByte_39247_15 : decode cJ7_copyOfRangeByte_39247 15 = .ok (.iload_n 1, 1) := by decide +kernel
theorem dJ7_copyOfRangeByte_39247_16 : decode cJ7_copyOfRangeByte_39247 16 = .ok (.aload 4, 2) := by decide +kernel
theorem dJ7_copyOfRangeByte_39247_18 : decode cJ7_copyOfRangeByte_39247 18 = .ok (.iconst 0, 1) := by decide +kernel
theorem dJ7_copyOfRangeByte_39247_19 : decode cJ7_copyOfRangeByte_39247 19 = .ok (.aload_n 0, 1) := by decide +kernel
theorem dJ7_copyOfRangeByte_39247_20 : decode cJ7_copyOfRangeByte_39247 20 = .ok (.arraylength, 1) := by decide +kernel
theorem dJ7_copyOfRangeByte_39247_21 : decode cJ7_copyOfRangeByte_39247 21 = .ok (.iload_n 1, 1) := by decide +kernel
theorem dJ7_copyOfRangeByte_39247_22 : decode cJ7_copyOfRangeByte_39247 22 = .ok (.isub, 1) := by decide +kernel
theorem dJ7_copyOfRangeByte_39247_23 : decode cJ7_copyOfRangeByte_39247 23 = .ok (.iload_n 3, 1) := by decide +kernel
theorem dJ7_copyOfRangeByte_39247_24 : decode cJ7_copyOfRangeByte_39247 24 = .ok (.invokestatic 304, 3) := by decide +kernel
theorem dJ7_copyOfRangeByte_39247_27 : decode cJ7_copyOfRangeByte_39247 27 = .ok (.invokestatic 150, 3) := by decide +kernel
theorem dJ7_copyOfRangeByte_39247_30 : decode cJ7_copyOfRangeByte_39247 30 = .ok (.aload 4, 2) := by decide +kernel
theorem dJ7_copyOfRangeByte_39247_32 : decode cJ7_copyOfRangeByte_39247 32 = .ok (.areturn, 1) := by decide +kernel
theorem dJ8_newLength_cabcc_0 : decode cJ8_newLength_cabcc 0 = .ok (.iload_n 0, 1) := by decide +kernel
theorem dJ8_newLength_cabcc_1 : decode cJ8_newLength_cabcc 1 = .ok (.iload_n 1, 1) := by decide +kernel
theorem dJ8_newLength_cabcc_2 : decode cJ8_newLength_cabcc 2 = .ok (.iload_n 2, 1) := by decide +kernel
theorem dJ8_newLength_cabcc_3 : decode cJ8_newLength_cabcc 3 = .ok (.invokestatic 194, 3) := by decide +kernel
theorem dJ8_newLength_cabcc_6 : decode cJ8_newLength_cabcc 6 = .ok (.iadd, 1) := by decide +kernel
theorem dJ8_newLength_cabcc_7 : decode cJ8_newLength_cabcc 7 = .ok (.istore_n 3, 1) := by decide +kernel
theorem dJ8_newLength_cabcc_8 : decode cJ8_newLength_cabcc 8 = .ok (.iconst 0, 1) := by decide +kernel
theorem dJ8_newLength_cabcc_9 : decode cJ8_newLength_cabcc 9 = .ok (.iload_n 3, 1) := by decide +kernel
theorem dJ8_newLength_cabcc_10 : decode cJ8_newLength_cabcc 10 = .ok (.if_icmp .ge 11, 3) := by decide +kernel
theorem dJ8_newLength_cabcc_13 : decode cJ8_newLength_cabcc 13 = .ok (.iload_n 3, 1) := by decide +kernel
theorem dJ8_newLength_cabcc_14 : decode cJ8_newLength_cabcc 14 = .ok (.ldc 200, 2) := by decide +kernel
theorem dJ8_newLength_cabcc_16 : decode cJ8_newLength_cabcc 16 = .ok (.if_icmp .gt 5, 3) := by decide +kernel
theorem dJ8_newLength_cabcc_19 : decode cJ8_newLength_cabcc 19 = .ok (.iload_n 3, 1) := by decide +kernel
theorem dJ8_newLength_cabcc_20 : decode cJ8_newLength_cabcc 20 = .ok (.ireturn, 1) := by decide +kernel
theorem dJ8_newLength_cabcc_21 : decode cJ8_newLength_cabcc 21 = .ok (.iload_n 0, 1) := by decide +kernel
theorem dJ8_newLength_cabcc_22 : decode cJ8_newLength_cabcc 22 = .ok (.iload_n 1, 1) := by decide +kernel
theorem dJ8_newLength_cabcc_23 : decode cJ8_newLength_cabcc 23 = .ok (.invokestatic 201, 3) := by decide +kernel
theorem dJ8_newLength_cabcc_26 : decode cJ8_newLength_cabcc 26 = .ok (.ireturn, 1) := by decide +kernel
set_option maxHeartbeats 4000000 in
set_option maxRecDepth 100000 in
theorem t_isLatin1 (l : Launch) (D : va_G) (cB : ClassId) (h0 h1 : Nat) (mb ct : Int32) : Met l yJ5_isLatin1_aae02 (wM yJ5_isLatin1_aae02 cJ5_isLatin1_aae02 1 (some .boolean)) ({ frames := 0, cells := 0, slots := 0, locals := 0 }) (va_Pc [.ref h0] (pR D cB [(h0, .inr (1, [.ref h1, .int 0, .int mb, .int ct]))])) (QcRead 1) 0 0 noA := by
  refine Met.ofW (cc := cJ5_isLatin1_aae02) (maxL := 1) (ret := (some .boolean)) (by decide) rfl ?_
  intro p e s mth args below meth c s₁ B hml hv
  obtain ⟨rfl, hP, hK, hZ⟩ := hv
  have hx := B.exec
  have hb := B.bytes
  have hr := B.returns
  have hts := atoms_spec (ws := wM yJ5_isLatin1_aae02 cJ5_isLatin1_aae02 1 (some .boolean)) B.pre
  have hown : s.vm.findClass RJ5 = some mth.cls := findClass_of_methodNamed B.named
  have hlk := B.notSynchronized
  have htA : ∀ w ∈ wA, w.before _ s = true := fun w h => hts w (List.mem_cons_of_mem _ h)
  have hS : va_S noA s.heap s.heap [] := va_S.rf
  have hl := lv_entry ([.ref h0]) (n := 1) (Nat.le_of_ble_eq_true rfl)
  rw [lg_entry_eq]
  generalize (lg_sl ([.ref h0]) ++ List.replicate (1 - (lg_sl ([.ref h0])).length) Slot.unset).toArray = ls at hl ⊢
  have hl : lv_has ls 1 [(0, .ref h0)] := hl
  have C : CallFix p mth c cJ5_isLatin1_aae02 1 s ([.ref h0] : List Value).toArray (wM yJ5_isLatin1_aae02 cJ5_isLatin1_aae02 1 (some .boolean)) RJ5 := ⟨hx, hb, hml, hown, hts⟩
  refine va_gets hx hb hZ hS hown (htA _ kw_623) (fun _ h9 => h9) dJ5_isLatin1_aae02_0 ?_
  refine lv_if_eq (tgt := 17) hx hb dJ5_isLatin1_aae02_3 (by decide) (fun c_3 => absurd c_3 (by decide)) (fun c_3 => ?_)
  refine lv_aload_n hx hb dJ5_isLatin1_aae02_6 rfl (lv_at hl 0 rfl) ?_
  refine va_get (D := D) (ci := 1) (v := .int 0) (C := RJ4) (T := TJ4) (N := 4) hx hb htA iA_J4 hown hK hP 0 rfl rfl 1 (by decide) (htA _ kw_626) (fun _ h9 => h9) rfl dJ5_isLatin1_aae02_7 ?_
  refine lv_if_ne (tgt := 17) hx hb dJ5_isLatin1_aae02_10 (by decide) (fun c_10 => absurd (rfl) c_10) (fun c_10 => ?_)
  refine lv_iconst (v := 1) hx hb dJ5_isLatin1_aae02_13 (by decide) ?_
  refine lv_goto (tgt := 18) hx hb dJ5_isLatin1_aae02_14 (by decide) ?_
  exact W.zret hx hb hr rfl (fun t ht _ => ⟨rfl, ht⟩) (fun _ h => by cases h) dJ5_isLatin1_aae02_18 hlk
set_option maxHeartbeats 4000000 in
set_option maxRecDepth 100000 in
theorem t_length5 (l : Launch) (D : va_G) (cB : ClassId) (h0 h1 : Nat) (mb ct : Int32)  : Met l yJ5_length_8abf5 (wM yJ5_length_8abf5 cJ5_length_8abf5 1 (some .int)) ({ frames := 0, cells := 0, slots := 0, locals := 0 }) (va_Pc [.ref h0] (pR D cB [(h0, .inr (1, [.ref h1, .int 0, .int mb, .int ct]))])) (QcRead ct) 0 0 noA := by
  refine Met.ofW (cc := cJ5_length_8abf5) (maxL := 1) (ret := (some .int)) (by decide) rfl ?_
  intro p e s mth args below meth c s₁ B hml hv
  obtain ⟨rfl, hP, hK, hZ⟩ := hv
  have hx := B.exec
  have hb := B.bytes
  have hr := B.returns
  have hts := atoms_spec (ws := wM yJ5_length_8abf5 cJ5_length_8abf5 1 (some .int)) B.pre
  have hown : s.vm.findClass RJ5 = some mth.cls := findClass_of_methodNamed B.named
  have hlk := B.notSynchronized
  have htA : ∀ w ∈ wA, w.before _ s = true := fun w h => hts w (List.mem_cons_of_mem _ h)
  have hS : va_S noA s.heap s.heap [] := va_S.rf
  have hl := lv_entry ([.ref h0]) (n := 1) (Nat.le_of_ble_eq_true rfl)
  rw [lg_entry_eq]
  generalize (lg_sl ([.ref h0]) ++ List.replicate (1 - (lg_sl ([.ref h0])).length) Slot.unset).toArray = ls at hl ⊢
  have hl : lv_has ls 1 [(0, .ref h0)] := hl
  have C : CallFix p mth c cJ5_length_8abf5 1 s ([.ref h0] : List Value).toArray (wM yJ5_length_8abf5 cJ5_length_8abf5 1 (some .int)) RJ5 := ⟨hx, hb, hml, hown, hts⟩
  refine lv_aload_n hx hb dJ5_length_8abf5_0 rfl (lv_at hl 0 rfl) ?_
  refine va_get (D := D) (ci := 1) (v := .int ct) (C := RJ4) (T := TJ4) (N := 4) hx hb htA iA_J4 hown hK hP 0 rfl rfl 3 (by decide) (htA _ kw_644) (fun _ h9 => h9) rfl dJ5_length_8abf5_1 ?_
  exact W.iret hx hb hr (fun t ht _ => ⟨rfl, ht⟩) (fun _ h => by cases h) dJ5_length_8abf5_4 hlk
set_option maxHeartbeats 4000000 in
set_option maxRecDepth 100000 in
theorem t_canEncode (l : Launch) (D : va_G) (cB : ClassId) (a0 : Int32) (ha : ¬ 255 < a0) : Met l yJ1_canEncode_fc78d (wM yJ1_canEncode_fc78d cJ1_canEncode_fc78d 1 (some .boolean)) ({ frames := 0, cells := 0, slots := 0, locals := 0 }) (va_Pc [.int a0] (pR D cB [])) (QcRead 1) 0 0 noA := by
  refine Met.ofW (cc := cJ1_canEncode_fc78d) (maxL := 1) (ret := (some .boolean)) (by decide) rfl ?_
  intro p e s mth args below meth c s₁ B hml hv
  obtain ⟨rfl, hP, hK, hZ⟩ := hv
  have hx := B.exec
  have hb := B.bytes
  have hr := B.returns
  have hts := atoms_spec (ws := wM yJ1_canEncode_fc78d cJ1_canEncode_fc78d 1 (some .boolean)) B.pre
  have hown : s.vm.findClass RJ1 = some mth.cls := findClass_of_methodNamed B.named
  have hlk := B.notSynchronized
  have htA : ∀ w ∈ wA, w.before _ s = true := fun w h => hts w (List.mem_cons_of_mem _ h)
  have hS : va_S noA s.heap s.heap [] := va_S.rf
  have hl := lv_entry ([.int a0]) (n := 1) (Nat.le_of_ble_eq_true rfl)
  rw [lg_entry_eq]
  generalize (lg_sl ([.int a0]) ++ List.replicate (1 - (lg_sl ([.int a0])).length) Slot.unset).toArray = ls at hl ⊢
  have hl : lv_has ls 1 [(0, .int a0)] := hl
  have C : CallFix p mth c cJ1_canEncode_fc78d 1 s ([.int a0] : List Value).toArray (wM yJ1_canEncode_fc78d cJ1_canEncode_fc78d 1 (some .boolean)) RJ1 := ⟨hx, hb, hml, hown, hts⟩
  refine lv_iload_n hx hb dJ1_canEncode_fc78d_0 rfl (lv_at hl 0 rfl) ?_
  refine lv_sipush (v := 255) hx hb dJ1_canEncode_fc78d_1 (by decide) ?_
  refine lv_icmp_gt (tgt := 11) hx hb dJ1_canEncode_fc78d_4 (by decide) (fun c_4 => absurd c_4 (ha)) (fun c_4 => ?_)
  refine lv_iconst (v := 1) hx hb dJ1_canEncode_fc78d_7 (by decide) ?_
  refine lv_goto (tgt := 12) hx hb dJ1_canEncode_fc78d_8 (by decide) ?_
  exact W.zret hx hb hr rfl (fun t ht _ => ⟨rfl, ht⟩) (fun _ h => by cases h) dJ1_canEncode_fc78d_12 hlk
theorem hdT_J8_newLength_cabcc : yJ8_newLength_cabcc.cls = yJ8_newLength_cabcc.cls ∧ yJ8_newLength_cabcc.cls ≠ "java/lang/invoke/MethodHandle" ∧ yJ8_newLength_cabcc.cls ≠ "java/lang/invoke/VarHandle" ∧ (parseMethodDescriptor yJ8_newLength_cabcc.desc).map (fun d => d.parameters.length) = some 3 := by decide +kernel
set_option maxHeartbeats 4000000 in
set_option maxRecDepth 100000 in
theorem t_newLength (l : Launch) (D : va_G) (cB : ClassId) (a0 a1 a2 : Int32) (h1 : 0 < a0 + if a1 < a2 then a2 else a1) (h2 : (a0 + if a1 < a2 then a2 else a1) ≤ 2147483639) : Met l yJ8_newLength_cabcc (wM yJ8_newLength_cabcc cJ8_newLength_cabcc 4 (some .int)) ({ frames := 1, cells := 0, slots := 0, locals := 21 }) (va_Pc [.int a0, .int a1, .int a2] (pR D cB [])) (QcRead (a0 + if a1 < a2 then a2 else a1)) 0 0 noA := by
  refine Met.ofW (cc := cJ8_newLength_cabcc) (maxL := 4) (ret := (some .int)) (by decide) rfl ?_
  intro p e s mth args below meth c s₁ B hml hv
  obtain ⟨rfl, hP, hK, hZ⟩ := hv
  have hx := B.exec
  have hb := B.bytes
  have hr := B.returns
  have hts := atoms_spec (ws := wM yJ8_newLength_cabcc cJ8_newLength_cabcc 4 (some .int)) B.pre
  have hown : s.vm.findClass RJ8 = some mth.cls := findClass_of_methodNamed B.named
  have hlk := B.notSynchronized
  have htA : ∀ w ∈ wA, w.before _ s = true := fun w h => hts w (List.mem_cons_of_mem _ h)
  have hS : va_S noA s.heap s.heap [] := va_S.rf
  have hl := lv_entry ([.int a0, .int a1, .int a2]) (n := 4) (Nat.le_of_ble_eq_true rfl)
  rw [lg_entry_eq]
  generalize (lg_sl ([.int a0, .int a1, .int a2]) ++ List.replicate (4 - (lg_sl ([.int a0, .int a1, .int a2])).length) Slot.unset).toArray = ls at hl ⊢
  have hl : lv_has ls 4 [(0, .int a0), (1, .int a1), (2, .int a2)] := hl
  have C : CallFix p mth c cJ8_newLength_cabcc 4 s ([.int a0, .int a1, .int a2] : List Value).toArray (wM yJ8_newLength_cabcc cJ8_newLength_cabcc 4 (some .int)) RJ8 := ⟨hx, hb, hml, hown, hts⟩
  refine lv_iload_n hx hb dJ8_newLength_cabcc_0 rfl (lv_at hl 0 rfl) ?_
  refine lv_iload_n hx hb dJ8_newLength_cabcc_1 rfl (lv_at hl 1 rfl) ?_
  refine lv_iload_n hx hb dJ8_newLength_cabcc_2 rfl (lv_at hl 2 rfl) ?_
  refine va_mmax hx hb (hml.trans hl.1.symm) hown (htA _ kw_658) (htA _ kw_458) (htA _ kw_162) (htA _ kw_459) (Nat.le_of_ble_eq_true rfl) (Nat.le_of_ble_eq_true rfl) (Nat.zero_le _) (Nat.zero_le _) dJ8_newLength_cabcc_3 ?_
  refine lv_iadd hx hb dJ8_newLength_cabcc_6 ?_
  refine lv_istore_n (lv' := [(3, .int (a0 + (if a1 < a2 then a2 else a1))), (0, .int a0), (1, .int a1), (2, .int a2)]) hx hb dJ8_newLength_cabcc_7 rfl hl (by decide) rfl (fun ls hl => ?_)
  refine lv_iconst (v := 0) hx hb dJ8_newLength_cabcc_8 (by decide) ?_
  refine lv_iload_n hx hb dJ8_newLength_cabcc_9 rfl (lv_at hl 0 rfl) ?_
  refine lv_icmp_ge (tgt := 21) hx hb dJ8_newLength_cabcc_10 (by decide) (fun c_10 => absurd c_10 (Int32.not_le.mpr h1)) (fun c_10 => ?_)
  refine lv_iload_n hx hb dJ8_newLength_cabcc_13 rfl (lv_at hl 0 rfl) ?_
  refine lv_ldc (v := 2147483639) hx hb hown (htA _ kw_659) dJ8_newLength_cabcc_14 ?_
  refine lv_icmp_gt (tgt := 21) hx hb dJ8_newLength_cabcc_16 (by decide) (fun c_16 => absurd c_16 (Int32.not_lt.mpr h2)) (fun c_16 => ?_)
  refine lv_iload_n hx hb dJ8_newLength_cabcc_19 rfl (lv_at hl 0 rfl) ?_
  exact W.iret hx hb hr (fun t ht _ => ⟨rfl, ht⟩) (fun _ h => by cases h) dJ8_newLength_cabcc_20 hlk
set_option maxHeartbeats 4000000 in
set_option maxRecDepth 100000 in
theorem t_newCapacity (l : Launch) (D : va_G) (cB : ClassId) (h0 h1 m : Nat) (mb ct : Int32) (f : Nat → Int32) (hm : m < 2 ^ 27) : Met l yJ5_newCapacity_0f7a4 (wM yJ5_newCapacity_0f7a4 cJ5_newCapacity_0f7a4 6 (some .int)) ({ frames := 2, cells := 0, slots := 0, locals := 44 }) (va_Pc [.ref h0, .int (nI (m + 1))] (pR D cB [(h0, .inr (1, [.ref h1, .int 0, .int mb, .int ct])), (h1, .inl (cB, m, .inl f))])) (QcRead (nI (2 * m + 2))) 0 0 noA := by
  refine Met.ofW (cc := cJ5_newCapacity_0f7a4) (maxL := 6) (ret := (some .int)) (by decide) rfl ?_
  intro p e s mth args below meth c s₁ B hml hv
  obtain ⟨rfl, hP, hK, hZ⟩ := hv
  have hx := B.exec
  have hb := B.bytes
  have hr := B.returns
  have hts := atoms_spec (ws := wM yJ5_newCapacity_0f7a4 cJ5_newCapacity_0f7a4 6 (some .int)) B.pre
  have hown : s.vm.findClass RJ5 = some mth.cls := findClass_of_methodNamed B.named
  have hlk := B.notSynchronized
  have htA : ∀ w ∈ wA, w.before _ s = true := fun w h => hts w (List.mem_cons_of_mem _ h)
  have hS : va_S noA s.heap s.heap [] := va_S.rf
  have hl := lv_entry ([.ref h0, .int (nI (m + 1))]) (n := 6) (Nat.le_of_ble_eq_true rfl)
  rw [lg_entry_eq]
  generalize (lg_sl ([.ref h0, .int (nI (m + 1))]) ++ List.replicate (6 - (lg_sl ([.ref h0, .int (nI (m + 1))])).length) Slot.unset).toArray = ls at hl ⊢
  have hl : lv_has ls 6 [(0, .ref h0), (1, .int (nI (m + 1)))] := hl
  have C : CallFix p mth c cJ5_newCapacity_0f7a4 6 s ([.ref h0, .int (nI (m + 1))] : List Value).toArray (wM yJ5_newCapacity_0f7a4 cJ5_newCapacity_0f7a4 6 (some .int)) RJ5 := ⟨hx, hb, hml, hown, hts⟩
  refine lv_aload_n hx hb dJ5_newCapacity_0f7a4_0 rfl (lv_at hl 0 rfl) ?_
  refine va_get (D := D) (ci := 1) (v := .ref h1) (C := RJ4) (T := TJ4) (N := 4) hx hb htA iA_J4 hown hK hP 0 rfl rfl 0 (by decide) (htA _ kw_625) (fun _ h9 => h9) rfl dJ5_newCapacity_0f7a4_1 ?_
  refine va_alen hx hb hK hP 1 0 rfl rfl (v := nI m) rfl dJ5_newCapacity_0f7a4_4 ?_
  refine lv_istore_n (lv' := [(2, .int (nI m)), (0, .ref h0), (1, .int (nI (m + 1)))]) hx hb dJ5_newCapacity_0f7a4_5 rfl hl (by decide) rfl (fun ls hl => ?_)
  refine lv_iload_n hx hb dJ5_newCapacity_0f7a4_6 rfl (lv_at hl 2 rfl) ?_
  refine lv_aload_n hx hb dJ5_newCapacity_0f7a4_7 rfl (lv_at hl 1 rfl) ?_
  refine va_get (D := D) (ci := 1) (v := .int 0) (C := RJ4) (T := TJ4) (N := 4) hx hb htA iA_J4 hown hK hP 0 rfl rfl 1 (by decide) (htA _ kw_626) (fun _ h9 => h9) rfl dJ5_newCapacity_0f7a4_8 ?_
  refine lv_ishl hx hb dJ5_newCapacity_0f7a4_11 ?_
  rw [sb_shl0]
  refine lv_istore_n (lv' := [(3, .int (nI (m + 1))), (2, .int (nI m)), (0, .ref h0), (1, .int (nI (m + 1)))]) hx hb dJ5_newCapacity_0f7a4_12 rfl hl (by decide) rfl (fun ls hl => ?_)
  refine lv_iload_n hx hb dJ5_newCapacity_0f7a4_13 rfl (lv_at hl 0 rfl) ?_
  refine lv_iload_n hx hb dJ5_newCapacity_0f7a4_14 rfl (lv_at hl 1 rfl) ?_
  refine lv_isub hx hb dJ5_newCapacity_0f7a4_15 ?_
  refine lv_istore (lv' := [(4, .int ((nI (m + 1)) - (nI m))), (3, .int (nI (m + 1))), (2, .int (nI m)), (0, .ref h0), (1, .int (nI (m + 1)))]) hx hb dJ5_newCapacity_0f7a4_16 hl (by decide) rfl (fun ls hl => ?_)
  refine lv_iload_n hx hb dJ5_newCapacity_0f7a4_18 rfl (lv_at hl 2 rfl) ?_
  refine lv_iload hx hb dJ5_newCapacity_0f7a4_19 (lv_at hl 0 rfl) ?_
  refine lv_iload_n hx hb dJ5_newCapacity_0f7a4_21 rfl (lv_at hl 2 rfl) ?_
  refine lv_iconst (v := 2) hx hb dJ5_newCapacity_0f7a4_22 (by decide) ?_
  refine lv_aload_n hx hb dJ5_newCapacity_0f7a4_23 rfl (lv_at hl 3 rfl) ?_
  refine va_get (D := D) (ci := 1) (v := .int 0) (C := RJ4) (T := TJ4) (N := 4) hx hb htA iA_J4 hown hK hP 0 rfl rfl 1 (by decide) (htA _ kw_626) (fun _ h9 => h9) rfl dJ5_newCapacity_0f7a4_24 ?_
  refine lv_ishl hx hb dJ5_newCapacity_0f7a4_27 ?_
  rw [sb_shl0]
  refine lv_iadd hx hb dJ5_newCapacity_0f7a4_28 ?_
  refine ct_cs (rest := []) C (t_newLength l D cB (nI m) ((nI (m + 1)) - (nI m)) ((nI m) + 2) (by rw [nc_val hm]; exact nc_pos hm) (by rw [nc_val hm]; exact nc_le hm)) (fun U hU hW => ⟨fun k q h => by simp at h, va_K.moved hW.alike hK, by rw [hU]; exact va_Z.moved hW.alike hZ⟩) kw_654 kw_655 kw_656 kw_657 hdT_J8_newLength_cabcc ⟨Nat.le_of_ble_eq_true rfl, Nat.le_of_ble_eq_true rfl⟩ rfl rfl rfl hl.1 rfl (Nat.le_of_ble_eq_true rfl) dJ5_newCapacity_0f7a4_29 ⟨Nat.zero_le _, Nat.zero_le _⟩ ?_
  rw [nc_val hm]
  refine lv_istore (lv' := [(5, .int (nI (2 * m + 2))), (4, .int ((nI (m + 1)) - (nI m))), (3, .int (nI (m + 1))), (2, .int (nI m)), (0, .ref h0), (1, .int (nI (m + 1)))]) hx hb dJ5_newCapacity_0f7a4_32 hl (by decide) rfl (fun ls hl => ?_)
  refine lv_iload hx hb dJ5_newCapacity_0f7a4_34 (lv_at hl 0 rfl) ?_
  refine lv_ldc (v := 2147483647) hx hb hown (htA _ kw_653) dJ5_newCapacity_0f7a4_36 ?_
  refine lv_icmp_ne (tgt := 51) hx hb dJ5_newCapacity_0f7a4_38 (by decide) (fun c_38 => ?_) (fun c_38 => absurd c_38 (nc_ne hm))
  refine lv_iload hx hb dJ5_newCapacity_0f7a4_51 (lv_at hl 0 rfl) ?_
  refine lv_aload_n hx hb dJ5_newCapacity_0f7a4_53 rfl (lv_at hl 4 rfl) ?_
  refine va_get (D := D) (ci := 1) (v := .int 0) (C := RJ4) (T := TJ4) (N := 4) hx hb htA iA_J4 hown hK hP 0 rfl rfl 1 (by decide) (htA _ kw_626) (fun _ h9 => h9) rfl dJ5_newCapacity_0f7a4_54 ?_
  refine lv_ishr hx hb dJ5_newCapacity_0f7a4_57 ?_
  rw [sb_shr0]
  exact W.iret hx hb hr (fun t ht _ => ⟨rfl, ht⟩) (fun _ h => by cases h) dJ5_newCapacity_0f7a4_58 hlk
theorem hdT_J7_copyOf_9075b : yJ7_copyOf_9075b.cls = yJ7_copyOf_9075b.cls ∧ yJ7_copyOf_9075b.cls ≠ "java/lang/invoke/MethodHandle" ∧ yJ7_copyOf_9075b.cls ≠ "java/lang/invoke/VarHandle" ∧ (parseMethodDescriptor yJ7_copyOf_9075b.desc).map (fun d => d.parameters.length) = some 2 := by decide +kernel
set_option maxHeartbeats 4000000 in
set_option maxRecDepth 100000 in
theorem t_copyOf (l : Launch) (D : va_G) (cB : ClassId) (h1 m q : Nat) (f : Nat → Int32) (sz : Nat) (hm : m ≤ q) (hmq : m ≠ q) (hq : q < 2 ^ 28) (hf : sb_Fit f) : Met l yJ7_copyOf_9075b (wM yJ7_copyOf_9075b cJ7_copyOf_9075b 3 (some (.array .byte))) ({ frames := 1, cells := 1, slots := q, locals := 80 }) (va_Pc [.ref h1, .int (nI q)] (pT D cB sz [(h1, .inl (cB, m, .inl f))])) (va_Qr (fun f' : Nat → Int32 => sb_Fit f') (fun f' a t => va_P D vwCl [(h1, .inl (cB, m, .inl f)), (a, .inl (cB, q, .inl f'))] t.heap ∧ va_D (va_A [(h1, .inl (cB, m, .inl f))] sz) [(h1, .inl (cB, m, .inl f)), (a, .inl (cB, q, .inl f'))]) (va_A [(h1, .inl (cB, m, .inl f))] sz)) 1 q (va_A [(h1, .inl (cB, m, .inl f))] sz) := by
  refine Met.ofW (cc := cJ7_copyOf_9075b) (maxL := 3) (ret := (some (.array .byte))) (by decide) rfl ?_
  intro p e s mth args below meth c s₁ B hml hv
  obtain ⟨rfl, hsz, hP, hK, hD0, hZ0⟩ := hv
  have hx := B.exec
  have hb := B.bytes
  have hr := B.returns
  have hts := atoms_spec (ws := wM yJ7_copyOf_9075b cJ7_copyOf_9075b 3 (some (.array .byte))) B.pre
  have hown : s.vm.findClass RJ7 = some mth.cls := findClass_of_methodNamed B.named
  have hlk := B.notSynchronized
  have htA : ∀ w ∈ wA, w.before _ s = true := fun w h => hts w (List.mem_cons_of_mem _ h)
  subst hsz
  have hD := hD0.self (sz := s.heap.size)
  generalize hAe : va_A [(h1, .inl (cB, m, .inl f))] s.heap.size = A at hD hZ0 ⊢
  have hZ := hZ0
  have hA : ∀ q : Nat, s.heap.size ≤ q → A q := fun q h => by rw [← hAe]; exact Or.inr h
  have hS : va_S A s.heap s.heap [] := va_S.rf
  have hP : va_P D vwCl [(h1, .inl (cB, m, .inl f))] s.heap := hP
  have hl := lv_entry ([.ref h1, .int (nI q)]) (n := 3) (Nat.le_of_ble_eq_true rfl)
  rw [lg_entry_eq]
  generalize (lg_sl ([.ref h1, .int (nI q)]) ++ List.replicate (3 - (lg_sl ([.ref h1, .int (nI q)])).length) Slot.unset).toArray = ls at hl ⊢
  have hl : lv_has ls 3 [(0, .ref h1), (1, .int (nI q))] := hl
  have C : CallFix p mth c cJ7_copyOf_9075b 3 s ([.ref h1, .int (nI q)] : List Value).toArray (wM yJ7_copyOf_9075b cJ7_copyOf_9075b 3 (some (.array .byte))) RJ7 := ⟨hx, hb, hml, hown, hts⟩
  refine lv_iload_n hx hb dJ7_copyOf_9075b_0 rfl (lv_at hl 1 rfl) ?_
  refine lv_aload_n hx hb dJ7_copyOf_9075b_1 rfl (lv_at hl 0 rfl) ?_
  refine va_alen hx hb hK hP 0 0 rfl rfl (v := nI m) rfl dJ7_copyOf_9075b_2 ?_
  refine lv_icmp_ne (tgt := 14) hx hb dJ7_copyOf_9075b_3 (by decide) (fun c_3 => ?_) (fun c_3 => absurd c_3 (fun h => hmq ((nI_eq (by omega) (by omega)).mp h).symm))
  refine lv_iload_n hx hb dJ7_copyOf_9075b_14 rfl (lv_at hl 1 rfl) ?_
  refine ct_newb (N' := q) hx hb (htA _ kw_624) hK hP hD hS hA (nI_pos (by omega)) (nI_clamp (by omega)) (by show q * 1 ≤ _; omega) (Nat.le_refl _) (Nat.le_of_eq (Nat.zero_add q)) dJ7_copyOf_9075b_15 (fun a H hP hD hS => ?_)
  have hP : va_P D vwCl [(h1, .inl (cB, m, .inl f)), (a, .inl (cB, q, .inl (fun _ => 0)))] H := hP
  have hD : va_D A [(h1, .inl (cB, m, .inl f)), (a, .inl (cB, q, .inl (fun _ => 0)))] := hD
  refine lv_astore_n (lv' := [(2, .ref a), (0, .ref h1), (1, .int (nI q))]) hx hb dJ7_copyOf_9075b_17 rfl hl (by decide) rfl (fun ls hl => ?_)
  refine lv_aload_n hx hb dJ7_copyOf_9075b_18 rfl (lv_at hl 1 rfl) ?_
  refine lv_iconst (v := 0) hx hb dJ7_copyOf_9075b_19 (by decide) ?_
  refine lv_aload_n hx hb dJ7_copyOf_9075b_20 rfl (lv_at hl 0 rfl) ?_
  refine lv_iconst (v := 0) hx hb dJ7_copyOf_9075b_21 (by decide) ?_
  refine lv_aload_n hx hb dJ7_copyOf_9075b_22 rfl (lv_at hl 1 rfl) ?_
  refine va_alen hx hb hK hP 0 0 rfl rfl (v := nI m) rfl dJ7_copyOf_9075b_23 ?_
  refine lv_iload_n hx hb dJ7_copyOf_9075b_24 rfl (lv_at hl 2 rfl) ?_
  refine va_mmin hx hb (hml.trans hl.1.symm) hown (htA _ kw_672) (htA _ kw_161) (htA _ kw_162) (htA _ kw_163) (Nat.le_of_ble_eq_true rfl) (Nat.le_of_ble_eq_true rfl) (Nat.le_refl _) (Nat.le_of_eq (Nat.zero_add q)) dJ7_copyOf_9075b_25 ?_
  rw [if_neg (nI_nlt (a := q) (b := m) hm (by omega))]
  refine va_copyi hx hb (hml.trans hl.1.symm) hown (htA _ kw_673) (htA _ kw_674) (htA _ kw_675) (htA _ kw_676) hK hP hD hS 0 1 0 0 rfl rfl rfl rfl rfl (by decide) (by decide) (nI_pos (by omega)) (by rw [sb_cl0, nI_clamp (by omega)]; omega) (by rw [sb_cl0, nI_clamp (by omega)]; omega) (fun i _ => hf _) (Nat.le_of_ble_eq_true rfl) (Nat.le_of_ble_eq_true rfl) dJ7_copyOf_9075b_28 (fun H locs hP hD hS => ?_)
  have hP : va_P D vwCl [(h1, .inl (cB, m, .inl f)), (a, .inl (cB, q, .inl (va_cpy f (fun _ => 0) (0 : Int32).toNatClampNeg (0 : Int32).toNatClampNeg (nI m).toNatClampNeg)))] H := hP
  have hD : va_D A [(h1, .inl (cB, m, .inl f)), (a, .inl (cB, q, .inl (va_cpy f (fun _ => 0) (0 : Int32).toNatClampNeg (0 : Int32).toNatClampNeg (nI m).toNatClampNeg)))] := hD
  refine lv_aload_n hx hb dJ7_copyOf_9075b_31 rfl (lv_at hl 0 rfl) ?_
  refine W.widen (k := 1) (n := q) (Nat.le_refl _) (Nat.le_of_eq (Nat.zero_add q)) ?_
  exact W.aret hx hb hr (Or.inr ⟨_, rfl⟩) (Or.inr ⟨_, rfl⟩) (fun t ht hW => ⟨⟨_, _, rfl, sb_fitC hf sb_fit0, by rw [ht]; exact hP, hD⟩, hS.F ht⟩) hS.2.2 dJ7_copyOf_9075b_32 hlk
theorem hdT_J5_newCapacity_0f7a4 : yJ5_newCapacity_0f7a4.cls = yJ5_newCapacity_0f7a4.cls ∧ yJ5_newCapacity_0f7a4.cls ≠ "java/lang/invoke/MethodHandle" ∧ yJ5_newCapacity_0f7a4.cls ≠ "java/lang/invoke/VarHandle" ∧ (parseMethodDescriptor yJ5_newCapacity_0f7a4.desc).map (fun d => d.parameters.length) = some 1 := by decide +kernel
theorem hdT_J5_ensureCapacityInternal_d00df : yJ5_ensureCapacityInternal_d00df.cls = yJ5_ensureCapacityInternal_d00df.cls ∧ yJ5_ensureCapacityInternal_d00df.cls ≠ "java/lang/invoke/MethodHandle" ∧ yJ5_ensureCapacityInternal_d00df.cls ≠ "java/lang/invoke/VarHandle" ∧ (parseMethodDescriptor yJ5_ensureCapacityInternal_d00df.desc).map (fun d => d.parameters.length) = some 1 := by decide +kernel
set_option maxHeartbeats 4000000 in
set_option maxRecDepth 100000 in
theorem t_ensure (l : Launch) (D : va_G) (cB : ClassId) (h0 h1 m k : Nat) (mb : Int32) (f : Nat → Int32) (sz : Nat) (hk : k ≤ m) (hm : m < 2 ^ 26) (hf : sb_Fit f) : Met l yJ5_ensureCapacityInternal_d00df (wM yJ5_ensureCapacityInternal_d00df cJ5_ensureCapacityInternal_d00df 3 none) ({ frames := 3, cells := 1, slots := 2 * m + 2, locals := 120 }) (va_Pc [.ref h0, .int (nI (k + 1))] (pT D cB sz [(h0, .inr (1, [.ref h1, .int 0, .int mb, .int (nI k)])), (h1, .inl (cB, m, .inl f))])) (va_Qv (sbPost m k) (fun u t => va_P D vwCl [(h0, .inr (1, [.ref u.1, .int 0, .int mb, .int (nI k)])), (u.1, .inl (cB, u.2.1, .inl u.2.2))] t.heap ∧ va_D (va_A [(h0, .inr (1, [.ref h1, .int 0, .int mb, .int (nI k)])), (h1, .inl (cB, m, .inl f))] sz) [(h0, .inr (1, [.ref u.1, .int 0, .int mb, .int (nI k)])), (u.1, .inl (cB, u.2.1, .inl u.2.2))]) (va_A [(h0, .inr (1, [.ref h1, .int 0, .int mb, .int (nI k)])), (h1, .inl (cB, m, .inl f))] sz)) 1 (2 * m + 2) (va_A [(h0, .inr (1, [.ref h1, .int 0, .int mb, .int (nI k)])), (h1, .inl (cB, m, .inl f))] sz) := by
  refine Met.ofW (cc := cJ5_ensureCapacityInternal_d00df) (maxL := 3) (ret := none) (by decide) rfl ?_
  intro p e s mth args below meth c s₁ B hml hv
  obtain ⟨rfl, hsz, hP, hK, hD0, hZ0⟩ := hv
  have hx := B.exec
  have hb := B.bytes
  have hr := B.returns
  have hts := atoms_spec (ws := wM yJ5_ensureCapacityInternal_d00df cJ5_ensureCapacityInternal_d00df 3 none) B.pre
  have hown : s.vm.findClass RJ5 = some mth.cls := findClass_of_methodNamed B.named
  have hlk := B.notSynchronized
  have htA : ∀ w ∈ wA, w.before _ s = true := fun w h => hts w (List.mem_cons_of_mem _ h)
  subst hsz
  have hD := hD0.self (sz := s.heap.size)
  generalize hAe : va_A [(h0, .inr (1, [.ref h1, .int 0, .int mb, .int (nI k)])), (h1, .inl (cB, m, .inl f))] s.heap.size = A at hD hZ0 ⊢
  have hZ := hZ0
  have hA : ∀ q : Nat, s.heap.size ≤ q → A q := fun q h => by rw [← hAe]; exact Or.inr h
  have hS : va_S A s.heap s.heap [] := va_S.rf
  have hP : va_P D vwCl [(h0, .inr (1, [.ref h1, .int 0, .int mb, .int (nI k)])), (h1, .inl (cB, m, .inl f))] s.heap := hP
  have hl := lv_entry ([.ref h0, .int (nI (k + 1))]) (n := 3) (Nat.le_of_ble_eq_true rfl)
  rw [lg_entry_eq]
  generalize (lg_sl ([.ref h0, .int (nI (k + 1))]) ++ List.replicate (3 - (lg_sl ([.ref h0, .int (nI (k + 1))])).length) Slot.unset).toArray = ls at hl ⊢
  have hl : lv_has ls 3 [(0, .ref h0), (1, .int (nI (k + 1)))] := hl
  have C : CallFix p mth c cJ5_ensureCapacityInternal_d00df 3 s ([.ref h0, .int (nI (k + 1))] : List Value).toArray (wM yJ5_ensureCapacityInternal_d00df cJ5_ensureCapacityInternal_d00df 3 none) RJ5 := ⟨hx, hb, hml, hown, hts⟩
  by_cases hkm : k + 1 ≤ m
  · refine lv_aload_n hx hb dJ5_ensureCapacityInternal_d00df_0 rfl (lv_at hl 0 rfl) ?_
    refine va_get (D := D) (ci := 1) (v := .ref h1) (C := RJ4) (T := TJ4) (N := 4) hx hb htA iA_J4 hown hK hP 0 rfl rfl 0 (by decide) (htA _ kw_625) (fun _ h9 => h9) rfl dJ5_ensureCapacityInternal_d00df_1 ?_
    refine va_alen hx hb hK hP 1 0 rfl rfl (v := nI m) rfl dJ5_ensureCapacityInternal_d00df_4 ?_
    refine lv_aload_n hx hb dJ5_ensureCapacityInternal_d00df_5 rfl (lv_at hl 0 rfl) ?_
    refine va_get (D := D) (ci := 1) (v := .int 0) (C := RJ4) (T := TJ4) (N := 4) hx hb htA iA_J4 hown hK hP 0 rfl rfl 1 (by decide) (htA _ kw_626) (fun _ h9 => h9) rfl dJ5_ensureCapacityInternal_d00df_6 ?_
    refine lv_ishr hx hb dJ5_ensureCapacityInternal_d00df_9 ?_
    rw [sb_shr0]
    refine lv_istore_n (lv' := [(2, .int (nI m)), (0, .ref h0), (1, .int (nI (k + 1)))]) hx hb dJ5_ensureCapacityInternal_d00df_10 rfl hl (by decide) rfl (fun ls hl => ?_)
    refine lv_iload_n hx hb dJ5_ensureCapacityInternal_d00df_11 rfl (lv_at hl 2 rfl) ?_
    refine lv_iload_n hx hb dJ5_ensureCapacityInternal_d00df_12 rfl (lv_at hl 0 rfl) ?_
    refine lv_isub hx hb dJ5_ensureCapacityInternal_d00df_13 ?_
    refine lv_if_le (tgt := 38) hx hb dJ5_ensureCapacityInternal_d00df_14 (by decide) (fun c_14 => ?_) (fun c_14 => absurd (ec_le hkm hm) c_14)
    refine W.widen (k := 1) (n := 2 * m + 2) (Nat.zero_le _) (Nat.zero_le _) ?_
    exact W.vret hx hb hr (fun t ht hW => ⟨⟨(h1, m, f), rfl, ⟨hkm, Or.inl (Nat.le_refl _), hf⟩, by rw [ht]; exact hP, hD⟩, hS.F ht⟩) hS.2.2 dJ5_ensureCapacityInternal_d00df_38 hlk
  · have hkm2 : k = m := by omega
    subst hkm2
    refine lv_aload_n hx hb dJ5_ensureCapacityInternal_d00df_0 rfl (lv_at hl 0 rfl) ?_
    refine va_get (D := D) (ci := 1) (v := .ref h1) (C := RJ4) (T := TJ4) (N := 4) hx hb htA iA_J4 hown hK hP 0 rfl rfl 0 (by decide) (htA _ kw_625) (fun _ h9 => h9) rfl dJ5_ensureCapacityInternal_d00df_1 ?_
    refine va_alen hx hb hK hP 1 0 rfl rfl (v := nI k) rfl dJ5_ensureCapacityInternal_d00df_4 ?_
    refine lv_aload_n hx hb dJ5_ensureCapacityInternal_d00df_5 rfl (lv_at hl 0 rfl) ?_
    refine va_get (D := D) (ci := 1) (v := .int 0) (C := RJ4) (T := TJ4) (N := 4) hx hb htA iA_J4 hown hK hP 0 rfl rfl 1 (by decide) (htA _ kw_626) (fun _ h9 => h9) rfl dJ5_ensureCapacityInternal_d00df_6 ?_
    refine lv_ishr hx hb dJ5_ensureCapacityInternal_d00df_9 ?_
    rw [sb_shr0]
    refine lv_istore_n (lv' := [(2, .int (nI k)), (0, .ref h0), (1, .int (nI (k + 1)))]) hx hb dJ5_ensureCapacityInternal_d00df_10 rfl hl (by decide) rfl (fun ls hl => ?_)
    refine lv_iload_n hx hb dJ5_ensureCapacityInternal_d00df_11 rfl (lv_at hl 2 rfl) ?_
    refine lv_iload_n hx hb dJ5_ensureCapacityInternal_d00df_12 rfl (lv_at hl 0 rfl) ?_
    refine lv_isub hx hb dJ5_ensureCapacityInternal_d00df_13 ?_
    refine lv_if_le (tgt := 38) hx hb dJ5_ensureCapacityInternal_d00df_14 (by decide) (fun c_14 => absurd c_14 (ec_gt hm)) (fun c_14 => ?_)
    refine lv_aload_n hx hb dJ5_ensureCapacityInternal_d00df_17 rfl (lv_at hl 1 rfl) ?_
    refine lv_aload_n hx hb dJ5_ensureCapacityInternal_d00df_18 rfl (lv_at hl 1 rfl) ?_
    refine va_get (D := D) (ci := 1) (v := .ref h1) (C := RJ4) (T := TJ4) (N := 4) hx hb htA iA_J4 hown hK hP 0 rfl rfl 0 (by decide) (htA _ kw_625) (fun _ h9 => h9) rfl dJ5_ensureCapacityInternal_d00df_19 ?_
    refine lv_aload_n hx hb dJ5_ensureCapacityInternal_d00df_22 rfl (lv_at hl 1 rfl) ?_
    refine lv_iload_n hx hb dJ5_ensureCapacityInternal_d00df_23 rfl (lv_at hl 2 rfl) ?_
    have hPc := hP.sub (ws' := [(h0, .inr (1, [.ref h1, .int 0, .int mb, .int (nI k)])), (h1, .inl (cB, k, .inl f))]) [0, 1] rfl
    refine ct_cvU (rest := [.ref h1, .ref h0]) C (t_newCapacity l D cB h0 h1 k mb (nI k) f (by omega)) (fun U hU hW => ⟨by rw [hU]; exact hPc, va_K.moved hW.alike hK, by rw [hU]; exact va_Z.moved hW.alike (va_Z.narrow (va_Z.kept hZ (fun a ha hn => hS.2.1 a ha hn)) (fun _ h => h.elim))⟩) (va_recv hK hP (ci := 1) (q0 := 0) rfl rfl) kw_649 kw_650 kw_845 kw_651 kw_620 kw_652 hdT_J5_newCapacity_0f7a4 ⟨Nat.le_of_ble_eq_true rfl, Nat.le_of_ble_eq_true rfl⟩ rfl rfl rfl hl.1 rfl (Nat.le_of_ble_eq_true rfl) dJ5_ensureCapacityInternal_d00df_24 ⟨Nat.zero_le _, Nat.zero_le _⟩ ?_
    refine lv_aload_n hx hb dJ5_ensureCapacityInternal_d00df_27 rfl (lv_at hl 1 rfl) ?_
    refine va_get (D := D) (ci := 1) (v := .int 0) (C := RJ4) (T := TJ4) (N := 4) hx hb htA iA_J4 hown hK hP 0 rfl rfl 1 (by decide) (htA _ kw_626) (fun _ h9 => h9) rfl dJ5_ensureCapacityInternal_d00df_28 ?_
    refine lv_ishl hx hb dJ5_ensureCapacityInternal_d00df_31 ?_
    rw [sb_shl0]
    have hPc := hP.sub (ws' := [(h1, .inl (cB, k, .inl f))]) [1] rfl
    have hDc := hD.sub (ws' := [(h1, .inl (cB, k, .inl f))]) [1] (by decide) rfl
    have hFc := va_free (wc := [(h1, .inl (cB, k, .inl f))]) hD hS hA [1] rfl
    refine va_callr (va_runS (As := [.ref h1, .int (nI (2 * k + 2))]) (rest := [.ref h0]) C (t_copyOf l D cB h1 k (2 * k + 2) f s.heap.size (by omega) (by omega) (by omega) hf) (va_cwS 2 hts (sy_goodS kw_663 kw_664 kw_54 kw_665) rfl rfl rfl hdT_J7_copyOf_9075b.2 ⟨Nat.le_of_ble_eq_true rfl, Nat.le_of_ble_eq_true rfl⟩) ⟨pT_blind, fun U hU hW => ⟨rfl, by rw [hU], by rw [hU]; exact hPc, va_K.moved hW.alike hK, hDc.weaken (fun _ _ _ _ => trivial), by rw [hU]; exact va_Z.moved hW.alike (va_Z.narrow (va_Z.kept hZ (fun a ha hn => hS.2.1 a ha hn)) (fun q h => hFc q h))⟩⟩ rfl rfl hl.1 rfl (lv_room (Nat.le_of_ble_eq_true rfl)) dJ5_ensureCapacityInternal_d00df_32 ⟨Nat.le_refl _, Nat.le_of_eq (Nat.zero_add _)⟩) hS (fun q _ h => hFc q h) hFc (fun f2 a2 t H1 locs ht hvm hw hB hz1 hk1 hS => ?_)
    obtain ⟨hP1, hD1⟩ := hB
    rw [ht] at hP1
    obtain ⟨hP, hD⟩ := va_join (wr := [(h0, .inr (1, [.ref h1, .int 0, .int mb, .int (nI k)]))]) (w1 := [(h1, .inl (cB, k, .inl f)), (a2, .inl (cB, 2 * k + 2, .inl f2))]) hP hD [1] [0] rfl rfl (by decide) (by decide) hk1 hFc hP1 hD1
    generalize H1 = H at hP hS ⊢
    have hP : va_P D vwCl [(h0, .inr (1, [.ref h1, .int 0, .int mb, .int (nI k)])), (h1, .inl (cB, k, .inl f)), (a2, .inl (cB, (2 * k + 2), .inl f2))] H := hP
    have hD : va_D A [(h0, .inr (1, [.ref h1, .int 0, .int mb, .int (nI k)])), (h1, .inl (cB, k, .inl f)), (a2, .inl (cB, (2 * k + 2), .inl f2))] := hD
    refine va_put (D := D) (ci := 1) (v := .ref a2) (ty := .array .byte) (C := RJ4) (T := TJ4) (N := 4) hx hb htA iA_J4 tyJ4 tyJ4_ok nmJ4 hown hK hP hD hS 0 rfl rfl 0 (by decide) (htA _ kw_625) (fun _ h9 => h9) rfl (by decide +kernel) rfl rfl (Nat.le_of_ble_eq_true rfl) dJ5_ensureCapacityInternal_d00df_35 (fun H locs hP hD hS => ?_)
    have hP : va_P D vwCl [(h0, .inr (1, [.ref a2, .int 0, .int mb, .int (nI k)])), (h1, .inl (cB, k, .inl f)), (a2, .inl (cB, (2 * k + 2), .inl f2))] H := hP
    have hD : va_D A [(h0, .inr (1, [.ref a2, .int 0, .int mb, .int (nI k)])), (h1, .inl (cB, k, .inl f)), (a2, .inl (cB, (2 * k + 2), .inl f2))] := hD
    have hP9 := hP.sub (ws' := [(h0, .inr (1, [.ref a2, .int 0, .int mb, .int (nI k)])), (a2, .inl (cB, 2 * k + 2, .inl f2))]) [0, 2] rfl
    have hD9 := hD.sub (ws' := [(h0, .inr (1, [.ref a2, .int 0, .int mb, .int (nI k)])), (a2, .inl (cB, 2 * k + 2, .inl f2))]) [0, 2] (by decide) rfl
    refine W.widen (k := 1) (n := 2 * k + 2) (Nat.le_refl _) (Nat.le_of_eq (Nat.zero_add _)) ?_
    exact W.vret hx hb hr (fun t ht hW => ⟨⟨(a2, 2 * k + 2, f2), rfl, ⟨by show k + 1 ≤ 2 * k + 2; omega, Or.inr (Nat.le_refl _), hw⟩, by rw [ht]; exact hP9, hD9⟩, hS.F ht⟩) hS.2.2 dJ5_ensureCapacityInternal_d00df_38 hlk
theorem hdT_J5_isLatin1_aae02 : yJ5_isLatin1_aae02.cls = yJ5_isLatin1_aae02.cls ∧ yJ5_isLatin1_aae02.cls ≠ "java/lang/invoke/MethodHandle" ∧ yJ5_isLatin1_aae02.cls ≠ "java/lang/invoke/VarHandle" ∧ (parseMethodDescriptor yJ5_isLatin1_aae02.desc).map (fun d => d.parameters.length) = some 0 := by decide +kernel
theorem hdT_J1_canEncode_fc78d : yJ1_canEncode_fc78d.cls = yJ1_canEncode_fc78d.cls ∧ yJ1_canEncode_fc78d.cls ≠ "java/lang/invoke/MethodHandle" ∧ yJ1_canEncode_fc78d.cls ≠ "java/lang/invoke/VarHandle" ∧ (parseMethodDescriptor yJ1_canEncode_fc78d.desc).map (fun d => d.parameters.length) = some 1 := by decide +kernel
theorem hdT_J5_append_3fe6f : yJ5_append_3fe6f.cls = yJ5_append_3fe6f.cls ∧ yJ5_append_3fe6f.cls ≠ "java/lang/invoke/MethodHandle" ∧ yJ5_append_3fe6f.cls ≠ "java/lang/invoke/VarHandle" ∧ (parseMethodDescriptor yJ5_append_3fe6f.desc).map (fun d => d.parameters.length) = some 1 := by decide +kernel
set_option maxHeartbeats 4000000 in
set_option maxRecDepth 100000 in
theorem t_append5 (l : Launch) (D : va_G) (cB : ClassId) (h0 h1 m k : Nat) (mb ch : Int32) (f : Nat → Int32) (sz : Nat) (hk : k ≤ m) (hm : m < 2 ^ 26) (hf : sb_Fit f) (ha : ¬ 255 < ch) : Met l yJ5_append_3fe6f (wM yJ5_append_3fe6f cJ5_append_3fe6f 2 (some (.object "java/lang/AbstractStringBuilder"))) ({ frames := 4, cells := 1, slots := 2 * m + 2, locals := 150 }) (va_Pc [.ref h0, .int ch] (pT D cB sz [(h0, .inr (1, [.ref h1, .int 0, .int mb, .int (nI k)])), (h1, .inl (cB, m, .inl f))])) (va_Qr (sbPost m k) (fun u a t => a = h0 ∧ va_P D vwCl [(h0, .inr (1, [.ref u.1, .int 0, .int mb, .int (nI (k + 1))])), (u.1, .inl (cB, u.2.1, .inl u.2.2))] t.heap ∧ va_D (va_A [(h0, .inr (1, [.ref h1, .int 0, .int mb, .int (nI k)])), (h1, .inl (cB, m, .inl f))] sz) [(h0, .inr (1, [.ref u.1, .int 0, .int mb, .int (nI (k + 1))])), (u.1, .inl (cB, u.2.1, .inl u.2.2))]) (va_A [(h0, .inr (1, [.ref h1, .int 0, .int mb, .int (nI k)])), (h1, .inl (cB, m, .inl f))] sz)) 1 (2 * m + 2) (va_A [(h0, .inr (1, [.ref h1, .int 0, .int mb, .int (nI k)])), (h1, .inl (cB, m, .inl f))] sz) := by
  refine Met.ofW (cc := cJ5_append_3fe6f) (maxL := 2) (ret := (some (.object "java/lang/AbstractStringBuilder"))) (by decide) rfl ?_
  intro p e s mth args below meth c s₁ B hml hv
  obtain ⟨rfl, hsz, hP, hK, hD0, hZ0⟩ := hv
  have hx := B.exec
  have hb := B.bytes
  have hr := B.returns
  have hts := atoms_spec (ws := wM yJ5_append_3fe6f cJ5_append_3fe6f 2 (some (.object "java/lang/AbstractStringBuilder"))) B.pre
  have hown : s.vm.findClass RJ5 = some mth.cls := findClass_of_methodNamed B.named
  have hlk := B.notSynchronized
  have htA : ∀ w ∈ wA, w.before _ s = true := fun w h => hts w (List.mem_cons_of_mem _ h)
  subst hsz
  have hD := hD0.self (sz := s.heap.size)
  generalize hAe : va_A [(h0, .inr (1, [.ref h1, .int 0, .int mb, .int (nI k)])), (h1, .inl (cB, m, .inl f))] s.heap.size = A at hD hZ0 ⊢
  have hZ := hZ0
  have hA : ∀ q : Nat, s.heap.size ≤ q → A q := fun q h => by rw [← hAe]; exact Or.inr h
  have hS : va_S A s.heap s.heap [] := va_S.rf
  have hP : va_P D vwCl [(h0, .inr (1, [.ref h1, .int 0, .int mb, .int (nI k)])), (h1, .inl (cB, m, .inl f))] s.heap := hP
  have hl := lv_entry ([.ref h0, .int ch]) (n := 2) (Nat.le_of_ble_eq_true rfl)
  rw [lg_entry_eq]
  generalize (lg_sl ([.ref h0, .int ch]) ++ List.replicate (2 - (lg_sl ([.ref h0, .int ch])).length) Slot.unset).toArray = ls at hl ⊢
  have hl : lv_has ls 2 [(0, .ref h0), (1, .int ch)] := hl
  have C : CallFix p mth c cJ5_append_3fe6f 2 s ([.ref h0, .int ch] : List Value).toArray (wM yJ5_append_3fe6f cJ5_append_3fe6f 2 (some (.object "java/lang/AbstractStringBuilder"))) RJ5 := ⟨hx, hb, hml, hown, hts⟩
  refine lv_aload_n hx hb dJ5_append_3fe6f_0 rfl (lv_at hl 0 rfl) ?_
  refine lv_aload_n hx hb dJ5_append_3fe6f_1 rfl (lv_at hl 0 rfl) ?_
  refine va_get (D := D) (ci := 1) (v := .int (nI k)) (C := RJ4) (T := TJ4) (N := 4) hx hb htA iA_J4 hown hK hP 0 rfl rfl 3 (by decide) (htA _ kw_644) (fun _ h9 => h9) rfl dJ5_append_3fe6f_2 ?_
  refine lv_iconst (v := 1) hx hb dJ5_append_3fe6f_5 (by decide) ?_
  refine lv_iadd hx hb dJ5_append_3fe6f_6 ?_
  rw [← nI_succ]
  have hFc := va_free (wc := [(h0, .inr (1, [.ref h1, .int 0, .int mb, .int (nI k)])), (h1, .inl (cB, m, .inl f))]) hD hS hA [0, 1] rfl
  refine va_callv (va_runU (x := yJ5_ensureCapacityInternal_d00df) (As := [.int (nI (k + 1))]) (rest := []) C (t_ensure l D cB h0 h1 m k mb f s.heap.size hk hm hf) (va_cwU (owner := RJ5) 1 hts (sy_goodU kw_645 kw_646 kw_844 kw_647 kw_620 kw_648) rfl rfl rfl rfl hdT_J5_ensureCapacityInternal_d00df.2 ⟨Nat.le_of_ble_eq_true rfl, Nat.le_of_ble_eq_true rfl⟩) ⟨pT_blind, va_recv hK hP (ci := 1) (q0 := 0) rfl rfl, fun U hU hW => ⟨rfl, by rw [hU], by rw [hU]; exact hP, va_K.moved hW.alike hK, hD.weaken (fun _ _ _ _ => trivial), by rw [hU]; exact va_Z.moved hW.alike (va_Z.narrow (va_Z.kept hZ (fun a ha hn => hS.2.1 a ha hn)) (fun q h => hFc q h))⟩⟩ rfl rfl hl.1 rfl (lv_room (Nat.le_of_ble_eq_true rfl)) dJ5_append_3fe6f_7 ⟨Nat.le_refl _, Nat.le_of_eq (Nat.zero_add _)⟩) hS (fun q _ h => hFc q h) hFc (fun u t H1 locs ht hvm hw hB hz1 hk1 hS => ?_)
  obtain ⟨b1, m1, f1⟩ := u
  obtain ⟨hP1, hD1⟩ := hB
  obtain ⟨hq1, hq2, hf1⟩ : k + 1 ≤ m1 ∧ (m1 ≤ m ∨ m1 ≤ 2 * k + 2) ∧ sb_Fit f1 := hw
  rw [ht] at hP1
  have hP : va_P D vwCl [(h0, .inr (1, [.ref b1, .int 0, .int mb, .int (nI k)])), (b1, .inl (cB, m1, .inl f1))] H1 := hP1
  have hD : va_D A [(h0, .inr (1, [.ref b1, .int 0, .int mb, .int (nI k)])), (b1, .inl (cB, m1, .inl f1))] := hD1.weaken (fun _ q _ h => hFc q.1 h)
  generalize H1 = H at hP hS ⊢
  refine lv_aload_n hx hb dJ5_append_3fe6f_10 rfl (lv_at hl 0 rfl) ?_
  have hPc := hP.sub (ws' := [(h0, .inr (1, [.ref b1, .int 0, .int mb, .int (nI k)]))]) [0] rfl
  refine ct_cvU (rest := []) C (t_isLatin1 l D cB h0 b1 mb (nI k)) (fun U hU hW => ⟨by rw [hU]; exact hPc, va_K.moved hW.alike hK, by rw [hU]; exact va_Z.moved hW.alike (va_Z.narrow (va_Z.kept hZ (fun a ha hn => hS.2.1 a ha hn)) (fun _ h => h.elim))⟩) (va_recv hK hP (ci := 1) (q0 := 0) rfl rfl) kw_677 kw_678 kw_679 kw_680 kw_620 kw_681 hdT_J5_isLatin1_aae02 ⟨Nat.le_of_ble_eq_true rfl, Nat.le_of_ble_eq_true rfl⟩ rfl rfl rfl hl.1 rfl (Nat.le_of_ble_eq_true rfl) dJ5_append_3fe6f_11 ⟨Nat.le_refl _, Nat.le_of_eq (Nat.zero_add _)⟩ ?_
  refine lv_if_eq (tgt := 45) hx hb dJ5_append_3fe6f_14 (by decide) (fun c_14 => absurd c_14 (by decide)) (fun c_14 => ?_)
  refine lv_iload_n hx hb dJ5_append_3fe6f_17 rfl (lv_at hl 1 rfl) ?_
  refine ct_cs (ws := []) (rest := []) C (t_canEncode l D cB ch ha) (fun U hU hW => ⟨fun k q h => by simp at h, va_K.moved hW.alike hK, by rw [hU]; exact va_Z.moved hW.alike (va_Z.narrow (va_Z.kept hZ (fun a ha hn => hS.2.1 a ha hn)) (fun _ h => h.elim))⟩) kw_682 kw_683 kw_684 kw_685 hdT_J1_canEncode_fc78d ⟨Nat.le_of_ble_eq_true rfl, Nat.le_of_ble_eq_true rfl⟩ rfl rfl rfl hl.1 rfl (Nat.le_of_ble_eq_true rfl) dJ5_append_3fe6f_18 ⟨Nat.le_refl _, Nat.le_of_eq (Nat.zero_add _)⟩ ?_
  refine lv_if_eq (tgt := 45) hx hb dJ5_append_3fe6f_21 (by decide) (fun c_21 => absurd c_21 (by decide)) (fun c_21 => ?_)
  refine lv_aload_n hx hb dJ5_append_3fe6f_24 rfl (lv_at hl 0 rfl) ?_
  refine va_get (D := D) (ci := 1) (v := .ref b1) (C := RJ4) (T := TJ4) (N := 4) hx hb htA iA_J4 hown hK hP 0 rfl rfl 0 (by decide) (htA _ kw_625) (fun _ h9 => h9) rfl dJ5_append_3fe6f_25 ?_
  refine lv_aload_n hx hb dJ5_append_3fe6f_28 rfl (lv_at hl 0 rfl) ?_
  refine lv_dup hx hb dJ5_append_3fe6f_29 rfl ?_
  refine va_get (D := D) (ci := 1) (v := .int (nI k)) (C := RJ4) (T := TJ4) (N := 4) hx hb htA iA_J4 hown hK hP 0 rfl rfl 3 (by decide) (htA _ kw_644) (fun _ h9 => h9) rfl dJ5_append_3fe6f_30 ?_
  refine lv_dup_x1 hx hb dJ5_append_3fe6f_33 rfl rfl ?_
  refine lv_iconst (v := 1) hx hb dJ5_append_3fe6f_34 (by decide) ?_
  refine lv_iadd hx hb dJ5_append_3fe6f_35 ?_
  rw [← nI_succ]
  refine va_put (D := D) (ci := 1) (v := .int (nI (k + 1))) (ty := .int) (C := RJ4) (T := TJ4) (N := 4) hx hb htA iA_J4 tyJ4 tyJ4_ok nmJ4 hown hK hP hD hS 0 rfl rfl 3 (by decide) (htA _ kw_644) (fun _ h9 => h9) rfl (by decide +kernel) rfl rfl (Nat.le_of_ble_eq_true rfl) dJ5_append_3fe6f_36 (fun H locs hP hD hS => ?_)
  have hP : va_P D vwCl [(h0, .inr (1, [.ref b1, .int 0, .int mb, .int (nI (k + 1))])), (b1, .inl (cB, m1, .inl f1))] H := hP
  have hD : va_D A [(h0, .inr (1, [.ref b1, .int 0, .int mb, .int (nI (k + 1))])), (b1, .inl (cB, m1, .inl f1))] := hD
  refine lv_iload_n hx hb dJ5_append_3fe6f_39 rfl (lv_at hl 1 rfl) ?_
  refine lv_i2b (v := ch.toInt8.toInt32) hx hb dJ5_append_3fe6f_40 rfl ?_
  refine va_bast hx hb hK hP hD hS 1 0 rfl rfl (in_nI (k := k) (m := m1) (by omega) (by omega)) dJ5_append_3fe6f_41 (fun H locs hP hD hS => ?_)
  have hP : va_P D vwCl [(h0, .inr (1, [.ref b1, .int 0, .int mb, .int (nI (k + 1))])), (b1, .inl (cB, m1, .inl (upd f1 ((nI k)).toNatClampNeg (vp_nar .byte ch.toInt8.toInt32))))] H := hP
  have hD : va_D A [(h0, .inr (1, [.ref b1, .int 0, .int mb, .int (nI (k + 1))])), (b1, .inl (cB, m1, .inl (upd f1 ((nI k)).toNatClampNeg (vp_nar .byte ch.toInt8.toInt32))))] := hD
  refine lv_goto (tgt := 75) hx hb dJ5_append_3fe6f_42 (by decide) ?_
  refine lv_aload_n hx hb dJ5_append_3fe6f_75 rfl (lv_at hl 0 rfl) ?_
  refine W.widen (k := 1) (n := 2 * m + 2) (Nat.le_refl _) (Nat.le_of_eq (Nat.zero_add _)) ?_
  exact W.aret hx hb hr (Or.inl ⟨_, rfl⟩) (Or.inr ⟨_, rfl⟩) (fun t ht hW => ⟨⟨(b1, m1, upd f1 ((nI k)).toNatClampNeg (vp_nar .byte ch.toInt8.toInt32)), _, rfl, ⟨hq1, hq2, sb_fitU hf1 (pk_fb _)⟩, rfl, by rw [ht]; exact hP, hD⟩, hS.F ht⟩) hS.2.2 dJ5_append_3fe6f_76 hlk
theorem hdT_J4_append_cf468 : yJ4_append_cf468.cls = yJ4_append_cf468.cls ∧ yJ4_append_cf468.cls ≠ "java/lang/invoke/MethodHandle" ∧ yJ4_append_cf468.cls ≠ "java/lang/invoke/VarHandle" ∧ (parseMethodDescriptor yJ4_append_cf468.desc).map (fun d => d.parameters.length) = some 1 := by decide +kernel
set_option maxHeartbeats 4000000 in
set_option maxRecDepth 100000 in
theorem t_append (l : Launch) (D : va_G) (cB : ClassId) (h0 h1 m k : Nat) (mb ch : Int32) (f : Nat → Int32) (sz : Nat) (hk : k ≤ m) (hm : m < 2 ^ 26) (hf : sb_Fit f) (ha : ¬ 255 < ch) : Met l yJ4_append_cf468 (wM yJ4_append_cf468 cJ4_append_cf468 2 (some (.object "java/lang/StringBuilder"))) ({ frames := 5, cells := 1, slots := 2 * m + 2, locals := 180 }) (va_Pc [.ref h0, .int ch] (pT D cB sz [(h0, .inr (1, [.ref h1, .int 0, .int mb, .int (nI k)])), (h1, .inl (cB, m, .inl f))])) (va_Qr (sbPost m k) (fun u a t => a = h0 ∧ va_P D vwCl [(h0, .inr (1, [.ref u.1, .int 0, .int mb, .int (nI (k + 1))])), (u.1, .inl (cB, u.2.1, .inl u.2.2))] t.heap ∧ va_D (va_A [(h0, .inr (1, [.ref h1, .int 0, .int mb, .int (nI k)])), (h1, .inl (cB, m, .inl f))] sz) [(h0, .inr (1, [.ref u.1, .int 0, .int mb, .int (nI (k + 1))])), (u.1, .inl (cB, u.2.1, .inl u.2.2))]) (va_A [(h0, .inr (1, [.ref h1, .int 0, .int mb, .int (nI k)])), (h1, .inl (cB, m, .inl f))] sz)) 1 (2 * m + 2) (va_A [(h0, .inr (1, [.ref h1, .int 0, .int mb, .int (nI k)])), (h1, .inl (cB, m, .inl f))] sz) := by
  refine Met.ofW (cc := cJ4_append_cf468) (maxL := 2) (ret := (some (.object "java/lang/StringBuilder"))) (by decide) rfl ?_
  intro p e s mth args below meth c s₁ B hml hv
  obtain ⟨rfl, hsz, hP, hK, hD0, hZ0⟩ := hv
  have hx := B.exec
  have hb := B.bytes
  have hr := B.returns
  have hts := atoms_spec (ws := wM yJ4_append_cf468 cJ4_append_cf468 2 (some (.object "java/lang/StringBuilder"))) B.pre
  have hown : s.vm.findClass RJ4 = some mth.cls := findClass_of_methodNamed B.named
  have hlk := B.notSynchronized
  have htA : ∀ w ∈ wA, w.before _ s = true := fun w h => hts w (List.mem_cons_of_mem _ h)
  subst hsz
  have hD := hD0.self (sz := s.heap.size)
  generalize hAe : va_A [(h0, .inr (1, [.ref h1, .int 0, .int mb, .int (nI k)])), (h1, .inl (cB, m, .inl f))] s.heap.size = A at hD hZ0 ⊢
  have hZ := hZ0
  have hA : ∀ q : Nat, s.heap.size ≤ q → A q := fun q h => by rw [← hAe]; exact Or.inr h
  have hS : va_S A s.heap s.heap [] := va_S.rf
  have hP : va_P D vwCl [(h0, .inr (1, [.ref h1, .int 0, .int mb, .int (nI k)])), (h1, .inl (cB, m, .inl f))] s.heap := hP
  have hl := lv_entry ([.ref h0, .int ch]) (n := 2) (Nat.le_of_ble_eq_true rfl)
  rw [lg_entry_eq]
  generalize (lg_sl ([.ref h0, .int ch]) ++ List.replicate (2 - (lg_sl ([.ref h0, .int ch])).length) Slot.unset).toArray = ls at hl ⊢
  have hl : lv_has ls 2 [(0, .ref h0), (1, .int ch)] := hl
  have C : CallFix p mth c cJ4_append_cf468 2 s ([.ref h0, .int ch] : List Value).toArray (wM yJ4_append_cf468 cJ4_append_cf468 2 (some (.object "java/lang/StringBuilder"))) RJ4 := ⟨hx, hb, hml, hown, hts⟩
  refine lv_aload_n hx hb dJ4_append_cf468_0 rfl (lv_at hl 0 rfl) ?_
  refine lv_iload_n hx hb dJ4_append_cf468_1 rfl (lv_at hl 1 rfl) ?_
  have hFc := va_free (wc := [(h0, .inr (1, [.ref h1, .int 0, .int mb, .int (nI k)])), (h1, .inl (cB, m, .inl f))]) hD hS hA [0, 1] rfl
  refine va_callr (va_runSU (C := RJ4) (As := [.int ch]) (rest := []) (hK.1 1 _ rfl).2 C (t_append5 l D cB h0 h1 m k mb ch f s.heap.size hk hm hf ha) (va_cwSU 1 hts (sy_goodSU kw_639 kw_640 kw_641 kw_642 kw_620 kw_643) rfl rfl rfl ⟨by decide, hdT_J5_append_3fe6f.2.2.2⟩ ⟨Nat.le_of_ble_eq_true rfl, Nat.le_of_ble_eq_true rfl⟩) ⟨pT_blind, va_recv hK hP (ci := 1) (q0 := 0) rfl rfl, fun U hU hW => ⟨rfl, by rw [hU], by rw [hU]; exact hP, va_K.moved hW.alike hK, hD.weaken (fun _ _ _ _ => trivial), by rw [hU]; exact va_Z.moved hW.alike (va_Z.narrow (va_Z.kept hZ (fun a ha hn => hS.2.1 a ha hn)) (fun q h => hFc q h))⟩⟩ rfl rfl hl.1 rfl (lv_room (Nat.le_of_ble_eq_true rfl)) dJ4_append_cf468_2 ⟨Nat.le_refl _, Nat.le_of_eq (Nat.zero_add _)⟩) hS (fun q _ h => hFc q h) hFc (fun u a2 t H1 locs ht hvm hw hB hz1 hk1 hS => ?_)
  obtain ⟨ha2, hB⟩ := hB
  rw [ha2]
  obtain ⟨b1, m1, f1⟩ := u
  obtain ⟨hP1, hD1⟩ := hB
  obtain ⟨hq1, hq2, hf1⟩ : k + 1 ≤ m1 ∧ (m1 ≤ m ∨ m1 ≤ 2 * k + 2) ∧ sb_Fit f1 := hw
  rw [ht] at hP1
  have hP : va_P D vwCl [(h0, .inr (1, [.ref b1, .int 0, .int mb, .int (nI (k + 1))])), (b1, .inl (cB, m1, .inl f1))] H1 := hP1
  have hD : va_D A [(h0, .inr (1, [.ref b1, .int 0, .int mb, .int (nI (k + 1))])), (b1, .inl (cB, m1, .inl f1))] := hD1.weaken (fun _ q _ h => hFc q.1 h)
  generalize H1 = H at hP hS ⊢
  refine lv_pop hx hb dJ4_append_cf468_5 rfl ?_
  refine lv_aload_n hx hb dJ4_append_cf468_6 rfl (lv_at hl 0 rfl) ?_
  refine W.widen (k := 1) (n := 2 * m + 2) (Nat.le_refl _) (Nat.le_of_eq (Nat.zero_add _)) ?_
  exact W.aret hx hb hr (Or.inl ⟨_, rfl⟩) (Or.inr ⟨_, rfl⟩) (fun t ht hW => ⟨⟨(b1, m1, f1), _, rfl, ⟨hq1, hq2, hf1⟩, rfl, by rw [ht]; exact hP, hD⟩, hS.F ht⟩) hS.2.2 dJ4_append_cf468_7 hlk
theorem hdT_J5_length_8abf5 : yJ5_length_8abf5.cls = yJ5_length_8abf5.cls ∧ yJ5_length_8abf5.cls ≠ "java/lang/invoke/MethodHandle" ∧ yJ5_length_8abf5.cls ≠ "java/lang/invoke/VarHandle" ∧ (parseMethodDescriptor yJ5_length_8abf5.desc).map (fun d => d.parameters.length) = some 0 := by decide +kernel
set_option maxHeartbeats 4000000 in
set_option maxRecDepth 100000 in
theorem t_length (l : Launch) (D : va_G) (cB : ClassId) (h0 h1 : Nat) (mb ct : Int32)  : Met l yJ4_length_8abf5 (wM yJ4_length_8abf5 cJ4_length_8abf5 1 (some .int)) ({ frames := 1, cells := 0, slots := 0, locals := 30 }) (va_Pc [.ref h0] (pR D cB [(h0, .inr (1, [.ref h1, .int 0, .int mb, .int ct]))])) (QcRead ct) 0 0 noA := by
  refine Met.ofW (cc := cJ4_length_8abf5) (maxL := 1) (ret := (some .int)) (by decide) rfl ?_
  intro p e s mth args below meth c s₁ B hml hv
  obtain ⟨rfl, hP, hK, hZ⟩ := hv
  have hx := B.exec
  have hb := B.bytes
  have hr := B.returns
  have hts := atoms_spec (ws := wM yJ4_length_8abf5 cJ4_length_8abf5 1 (some .int)) B.pre
  have hown : s.vm.findClass RJ4 = some mth.cls := findClass_of_methodNamed B.named
  have hlk := B.notSynchronized
  have htA : ∀ w ∈ wA, w.before _ s = true := fun w h => hts w (List.mem_cons_of_mem _ h)
  have hS : va_S noA s.heap s.heap [] := va_S.rf
  have hl := lv_entry ([.ref h0]) (n := 1) (Nat.le_of_ble_eq_true rfl)
  rw [lg_entry_eq]
  generalize (lg_sl ([.ref h0]) ++ List.replicate (1 - (lg_sl ([.ref h0])).length) Slot.unset).toArray = ls at hl ⊢
  have hl : lv_has ls 1 [(0, .ref h0)] := hl
  have C : CallFix p mth c cJ4_length_8abf5 1 s ([.ref h0] : List Value).toArray (wM yJ4_length_8abf5 cJ4_length_8abf5 1 (some .int)) RJ4 := ⟨hx, hb, hml, hown, hts⟩
  refine lv_aload_n hx hb dJ4_length_8abf5_0 rfl (lv_at hl 0 rfl) ?_
  refine W.callR (va_Run.run (va_runSU (C := RJ4) (As := []) (rest := []) (hK.1 1 _ rfl).2 C (t_length5 l D cB h0 h1 mb ct) (va_cwSU 0 hts (sy_goodSU kw_741 kw_742 kw_641 kw_743 kw_620 kw_744) rfl rfl rfl ⟨by decide, hdT_J5_length_8abf5.2.2.2⟩ ⟨Nat.le_of_ble_eq_true rfl, Nat.le_of_ble_eq_true rfl⟩) ⟨pR_blind, va_recv hK hP (ci := 1) (q0 := 0) rfl rfl, fun U hU hW => ⟨rfl, by rw [hU]; exact hP, va_K.moved hW.alike hK, by rw [hU]; exact va_Z.moved hW.alike hZ⟩⟩ rfl rfl hl.1 rfl (lv_room (Nat.le_of_ble_eq_true rfl)) dJ4_length_8abf5_1 ⟨Nat.zero_le _, Nat.zero_le _⟩)) ?_
  exact W.iret hx hb hr (fun t ht _ => ⟨rfl, ht⟩) (fun _ h => by cases h) dJ4_length_8abf5_4 hlk
set_option maxHeartbeats 4000000 in
set_option maxRecDepth 100000 in
theorem t_getValue (l : Launch) (D : va_G) (cB : ClassId) (h0 h1 : Nat) (mb ct : Int32)  : Met l yJ5_getValue_6d5f1 (wM yJ5_getValue_6d5f1 cJ5_getValue_6d5f1 1 (some (.array .byte))) ({ frames := 0, cells := 0, slots := 0, locals := 0 }) (va_Pc [.ref h0] (pR D cB [(h0, .inr (1, [.ref h1, .int 0, .int mb, .int ct]))])) (ct_Read (some (.ref h1))) 0 0 noA := by
  refine Met.ofW (cc := cJ5_getValue_6d5f1) (maxL := 1) (ret := (some (.array .byte))) (by decide) rfl ?_
  intro p e s mth args below meth c s₁ B hml hv
  obtain ⟨rfl, hP, hK, hZ⟩ := hv
  have hx := B.exec
  have hb := B.bytes
  have hr := B.returns
  have hts := atoms_spec (ws := wM yJ5_getValue_6d5f1 cJ5_getValue_6d5f1 1 (some (.array .byte))) B.pre
  have hown : s.vm.findClass RJ5 = some mth.cls := findClass_of_methodNamed B.named
  have hlk := B.notSynchronized
  have htA : ∀ w ∈ wA, w.before _ s = true := fun w h => hts w (List.mem_cons_of_mem _ h)
  have hS : va_S noA s.heap s.heap [] := va_S.rf
  have hl := lv_entry ([.ref h0]) (n := 1) (Nat.le_of_ble_eq_true rfl)
  rw [lg_entry_eq]
  generalize (lg_sl ([.ref h0]) ++ List.replicate (1 - (lg_sl ([.ref h0])).length) Slot.unset).toArray = ls at hl ⊢
  have hl : lv_has ls 1 [(0, .ref h0)] := hl
  have C : CallFix p mth c cJ5_getValue_6d5f1 1 s ([.ref h0] : List Value).toArray (wM yJ5_getValue_6d5f1 cJ5_getValue_6d5f1 1 (some (.array .byte))) RJ5 := ⟨hx, hb, hml, hown, hts⟩
  refine lv_aload_n hx hb dJ5_getValue_6d5f1_0 rfl (lv_at hl 0 rfl) ?_
  refine va_get (D := D) (ci := 1) (v := .ref h1) (C := RJ4) (T := TJ4) (N := 4) hx hb htA iA_J4 hown hK hP 0 rfl rfl 0 (by decide) (htA _ kw_625) (fun _ h9 => h9) rfl dJ5_getValue_6d5f1_1 ?_
  exact W.aret hx hb hr (Or.inr ⟨_, rfl⟩) (Or.inr ⟨_, rfl⟩) (fun t ht _ => ⟨rfl, ht⟩) (fun _ h => by cases h) dJ5_getValue_6d5f1_4 hlk
set_option maxHeartbeats 4000000 in
set_option maxRecDepth 100000 in
theorem t_checkLength (l : Launch) (D : va_G) (cB : ClassId) (a0 a1 : Int32) (h1 : a0 ≤ a1) : Met l yJ7_checkLength_df160 (wM yJ7_checkLength_df160 cJ7_checkLength_df160 2 none) ({ frames := 0, cells := 0, slots := 0, locals := 0 }) (va_Pc [.int a0, .int a1] (pR D cB [])) (ct_Read none) 0 0 noA := by
  refine Met.ofW (cc := cJ7_checkLength_df160) (maxL := 2) (ret := none) (by decide) rfl ?_
  intro p e s mth args below meth c s₁ B hml hv
  obtain ⟨rfl, hP, hK, hZ⟩ := hv
  have hx := B.exec
  have hb := B.bytes
  have hr := B.returns
  have hts := atoms_spec (ws := wM yJ7_checkLength_df160 cJ7_checkLength_df160 2 none) B.pre
  have hown : s.vm.findClass RJ7 = some mth.cls := findClass_of_methodNamed B.named
  have hlk := B.notSynchronized
  have htA : ∀ w ∈ wA, w.before _ s = true := fun w h => hts w (List.mem_cons_of_mem _ h)
  have hS : va_S noA s.heap s.heap [] := va_S.rf
  have hl := lv_entry ([.int a0, .int a1]) (n := 2) (Nat.le_of_ble_eq_true rfl)
  rw [lg_entry_eq]
  generalize (lg_sl ([.int a0, .int a1]) ++ List.replicate (2 - (lg_sl ([.int a0, .int a1])).length) Slot.unset).toArray = ls at hl ⊢
  have hl : lv_has ls 2 [(0, .int a0), (1, .int a1)] := hl
  have C : CallFix p mth c cJ7_checkLength_df160 2 s ([.int a0, .int a1] : List Value).toArray (wM yJ7_checkLength_df160 cJ7_checkLength_df160 2 none) RJ7 := ⟨hx, hb, hml, hown, hts⟩
  refine lv_iload_n hx hb dJ7_checkLength_df160_0 rfl (lv_at hl 1 rfl) ?_
  refine lv_iload_n hx hb dJ7_checkLength_df160_1 rfl (lv_at hl 0 rfl) ?_
  refine lv_icmp_ge (tgt := 37) hx hb dJ7_checkLength_df160_2 (by decide) (fun c_2 => ?_) (fun c_2 => absurd (h1) c_2)
  exact W.vret hx hb hr (fun t ht _ => ⟨rfl, ht⟩) (fun _ h => by cases h) dJ7_checkLength_df160_37 hlk
theorem hdT_J7_checkLength_df160 : yJ7_checkLength_df160.cls = yJ7_checkLength_df160.cls ∧ yJ7_checkLength_df160.cls ≠ "java/lang/invoke/MethodHandle" ∧ yJ7_checkLength_df160.cls ≠ "java/lang/invoke/VarHandle" ∧ (parseMethodDescriptor yJ7_checkLength_df160.desc).map (fun d => d.parameters.length) = some 2 := by decide +kernel
theorem hdT_J7_copyOfRangeByte_39247 : yJ7_copyOfRangeByte_39247.cls = yJ7_copyOfRangeByte_39247.cls ∧ yJ7_copyOfRangeByte_39247.cls ≠ "java/lang/invoke/MethodHandle" ∧ yJ7_copyOfRangeByte_39247.cls ≠ "java/lang/invoke/VarHandle" ∧ (parseMethodDescriptor yJ7_copyOfRangeByte_39247.desc).map (fun d => d.parameters.length) = some 3 := by decide +kernel
set_option maxHeartbeats 4000000 in
set_option maxRecDepth 100000 in
theorem t_copyOfRangeByte (l : Launch) (D : va_G) (cB : ClassId) (h1 m k : Nat) (f : Nat → Int32) (sz : Nat) (hkm : k < m) (hm : m < 2 ^ 28) (hf : sb_Fit f) : Met l yJ7_copyOfRangeByte_39247 (wM yJ7_copyOfRangeByte_39247 cJ7_copyOfRangeByte_39247 5 (some (.array .byte))) ({ frames := 1, cells := 1, slots := k, locals := 80 }) (va_Pc [.ref h1, .int 0, .int (nI k)] (pT D cB sz [(h1, .inl (cB, m, .inl f))])) (va_Qr (fun f' : Nat → Int32 => sb_Fit f') (fun f' a t => va_P D vwCl [(h1, .inl (cB, m, .inl f)), (a, .inl (cB, k, .inl f'))] t.heap ∧ va_D (va_A [(h1, .inl (cB, m, .inl f))] sz) [(h1, .inl (cB, m, .inl f)), (a, .inl (cB, k, .inl f'))]) (va_A [(h1, .inl (cB, m, .inl f))] sz)) 1 k (va_A [(h1, .inl (cB, m, .inl f))] sz) := by
  refine Met.ofW (cc := cJ7_copyOfRangeByte_39247) (maxL := 5) (ret := (some (.array .byte))) (by decide) rfl ?_
  intro p e s mth args below meth c s₁ B hml hv
  obtain ⟨rfl, hsz, hP, hK, hD0, hZ0⟩ := hv
  have hx := B.exec
  have hb := B.bytes
  have hr := B.returns
  have hts := atoms_spec (ws := wM yJ7_copyOfRangeByte_39247 cJ7_copyOfRangeByte_39247 5 (some (.array .byte))) B.pre
  have hown : s.vm.findClass RJ7 = some mth.cls := findClass_of_methodNamed B.named
  have hlk := B.notSynchronized
  have htA : ∀ w ∈ wA, w.before _ s = true := fun w h => hts w (List.mem_cons_of_mem _ h)
  subst hsz
  have hD := hD0.self (sz := s.heap.size)
  generalize hAe : va_A [(h1, .inl (cB, m, .inl f))] s.heap.size = A at hD hZ0 ⊢
  have hZ := hZ0
  have hA : ∀ q : Nat, s.heap.size ≤ q → A q := fun q h => by rw [← hAe]; exact Or.inr h
  have hS : va_S A s.heap s.heap [] := va_S.rf
  have hP : va_P D vwCl [(h1, .inl (cB, m, .inl f))] s.heap := hP
  have hl := lv_entry ([.ref h1, .int 0, .int (nI k)]) (n := 5) (Nat.le_of_ble_eq_true rfl)
  rw [lg_entry_eq]
  generalize (lg_sl ([.ref h1, .int 0, .int (nI k)]) ++ List.replicate (5 - (lg_sl ([.ref h1, .int 0, .int (nI k)])).length) Slot.unset).toArray = ls at hl ⊢
  have hl : lv_has ls 5 [(0, .ref h1), (1, .int 0), (2, .int (nI k))] := hl
  have C : CallFix p mth c cJ7_copyOfRangeByte_39247 5 s ([.ref h1, .int 0, .int (nI k)] : List Value).toArray (wM yJ7_copyOfRangeByte_39247 cJ7_copyOfRangeByte_39247 5 (some (.array .byte))) RJ7 := ⟨hx, hb, hml, hown, hts⟩
  refine lv_iload_n hx hb dJ7_copyOfRangeByte_39247_0 rfl (lv_at hl 1 rfl) ?_
  refine lv_iload_n hx hb dJ7_copyOfRangeByte_39247_1 rfl (lv_at hl 2 rfl) ?_
  refine ct_callV (W.runS (As := [.int 0, .int (nI k)]) (rest := []) C (t_checkLength l D cB 0 (nI k) (Int32.not_lt.mp (nI_pos (by omega)))) (va_cwS 2 hts (sy_goodS kw_777 kw_778 kw_54 kw_779) rfl rfl rfl hdT_J7_checkLength_df160.2 ⟨Nat.le_of_ble_eq_true rfl, Nat.le_of_ble_eq_true rfl⟩) ⟨pR_blind, fun U hU hW => ⟨rfl, fun k q h => by simp at h, va_K.moved hW.alike hK, by rw [hU]; exact va_Z.moved hW.alike (va_Z.narrow (va_Z.kept hZ (fun a ha hn => hS.2.1 a ha hn)) (fun _ h => h.elim))⟩⟩ rfl rfl hl.1 rfl (lv_room (Nat.le_of_ble_eq_true rfl)) dJ7_copyOfRangeByte_39247_2 ⟨Nat.zero_le _, Nat.zero_le _⟩) ?_
  refine lv_iload_n hx hb dJ7_copyOfRangeByte_39247_5 rfl (lv_at hl 2 rfl) ?_
  refine lv_iload_n hx hb dJ7_copyOfRangeByte_39247_6 rfl (lv_at hl 1 rfl) ?_
  refine lv_isub hx hb dJ7_copyOfRangeByte_39247_7 ?_
  rw [sb_sub0]
  refine lv_istore_n (lv' := [(3, .int (nI k)), (0, .ref h1), (1, .int 0), (2, .int (nI k))]) hx hb dJ7_copyOfRangeByte_39247_8 rfl hl (by decide) rfl (fun ls hl => ?_)
  refine lv_iload_n hx hb dJ7_copyOfRangeByte_39247_9 rfl (lv_at hl 0 rfl) ?_
  refine ct_newb (N' := k) hx hb (htA _ kw_624) hK hP hD hS hA (nI_pos (by omega)) (nI_clamp (by omega)) (by show k * 1 ≤ _; omega) (Nat.le_refl _) (Nat.le_of_eq (Nat.zero_add k)) dJ7_copyOfRangeByte_39247_10 (fun a H hP hD hS => ?_)
  have hP : va_P D vwCl [(h1, .inl (cB, m, .inl f)), (a, .inl (cB, k, .inl (fun _ => 0)))] H := hP
  have hD : va_D A [(h1, .inl (cB, m, .inl f)), (a, .inl (cB, k, .inl (fun _ => 0)))] := hD
  refine lv_astore (lv' := [(4, .ref a), (3, .int (nI k)), (0, .ref h1), (1, .int 0), (2, .int (nI k))]) hx hb dJ7_copyOfRangeByte_39247_12 hl (by decide) rfl (fun ls hl => ?_)
  refine lv_aload_n hx hb dJ7_copyOfRangeByte_39247_14 rfl (lv_at hl 2 rfl) ?_
  refine lv_iload_n hx hb dJ7_copyOfRangeByte_39247_15 rfl (lv_at hl 3 rfl) ?_
  refine lv_aload hx hb dJ7_copyOfRangeByte_39247_16 (lv_at hl 0 rfl) ?_
  refine lv_iconst (v := 0) hx hb dJ7_copyOfRangeByte_39247_18 (by decide) ?_
  refine lv_aload_n hx hb dJ7_copyOfRangeByte_39247_19 rfl (lv_at hl 2 rfl) ?_
  refine va_alen hx hb hK hP 0 0 rfl rfl (v := nI m) rfl dJ7_copyOfRangeByte_39247_20 ?_
  refine lv_iload_n hx hb dJ7_copyOfRangeByte_39247_21 rfl (lv_at hl 3 rfl) ?_
  refine lv_isub hx hb dJ7_copyOfRangeByte_39247_22 ?_
  rw [sb_sub0]
  refine lv_iload_n hx hb dJ7_copyOfRangeByte_39247_23 rfl (lv_at hl 1 rfl) ?_
  refine va_mmin hx hb (hml.trans hl.1.symm) hown (htA _ kw_672) (htA _ kw_161) (htA _ kw_162) (htA _ kw_163) (Nat.le_of_ble_eq_true rfl) (Nat.le_of_ble_eq_true rfl) (Nat.le_refl _) (Nat.le_of_eq (Nat.zero_add k)) dJ7_copyOfRangeByte_39247_24 ?_
  rw [if_pos (nI_lt hkm (by omega))]
  refine va_copyi hx hb (hml.trans hl.1.symm) hown (htA _ kw_673) (htA _ kw_674) (htA _ kw_675) (htA _ kw_676) hK hP hD hS 0 1 0 0 rfl rfl rfl rfl rfl (by decide) (by decide) (nI_pos (by omega)) (by rw [sb_cl0, nI_clamp (by omega)]; omega) (by rw [sb_cl0, nI_clamp (by omega)]; omega) (fun i _ => hf _) (Nat.le_of_ble_eq_true rfl) (Nat.le_of_ble_eq_true rfl) dJ7_copyOfRangeByte_39247_27 (fun H locs hP hD hS => ?_)
  have hP : va_P D vwCl [(h1, .inl (cB, m, .inl f)), (a, .inl (cB, k, .inl (va_cpy f (fun _ => 0) (0 : Int32).toNatClampNeg (0 : Int32).toNatClampNeg (nI k).toNatClampNeg)))] H := hP
  have hD : va_D A [(h1, .inl (cB, m, .inl f)), (a, .inl (cB, k, .inl (va_cpy f (fun _ => 0) (0 : Int32).toNatClampNeg (0 : Int32).toNatClampNeg (nI k).toNatClampNeg)))] := hD
  refine lv_aload hx hb dJ7_copyOfRangeByte_39247_30 (lv_at hl 0 rfl) ?_
  refine W.widen (k := 1) (n := k) (Nat.le_refl _) (Nat.le_of_eq (Nat.zero_add k)) ?_
  exact W.aret hx hb hr (Or.inr ⟨_, rfl⟩) (Or.inr ⟨_, rfl⟩) (fun t ht hW => ⟨⟨_, _, rfl, sb_fitC hf sb_fit0, by rw [ht]; exact hP, hD⟩, hS.F ht⟩) hS.2.2 dJ7_copyOfRangeByte_39247_32 hlk
theorem hdT_J7_copyOfRange_39247 : yJ7_copyOfRange_39247.cls = yJ7_copyOfRange_39247.cls ∧ yJ7_copyOfRange_39247.cls ≠ "java/lang/invoke/MethodHandle" ∧ yJ7_copyOfRange_39247.cls ≠ "java/lang/invoke/VarHandle" ∧ (parseMethodDescriptor yJ7_copyOfRange_39247.desc).map (fun d => d.parameters.length) = some 3 := by decide +kernel
set_option maxHeartbeats 4000000 in
set_option maxRecDepth 100000 in
theorem t_copyOfRange (l : Launch) (D : va_G) (cB : ClassId) (h1 m k : Nat) (f : Nat → Int32) (sz : Nat) (hkm : k ≤ m) (hm : m < 2 ^ 28) (hf : sb_Fit f) : Met l yJ7_copyOfRange_39247 (wM yJ7_copyOfRange_39247 cJ7_copyOfRange_39247 3 (some (.array .byte))) ({ frames := 2, cells := 1, slots := k, locals := 110 }) (va_Pc [.ref h1, .int 0, .int (nI k)] (pK D cB sz [(h1, .inl (cB, m, .inl f))])) (va_Qr (fun f' : Nat → Int32 => sb_Fit f') (fun f' a t => va_P D vwCl [(h1, .inl (cB, m, .inl f)), (a, .inl (cB, k, .inl f'))] t.heap ∧ va_D (va_A [(h1, .inl (cB, m, .inl f))] sz) [(h1, .inl (cB, m, .inl f)), (a, .inl (cB, k, .inl f'))]) (va_A [(h1, .inl (cB, m, .inl f))] sz)) 1 k (va_A [(h1, .inl (cB, m, .inl f))] sz) := by
  refine Met.ofW (cc := cJ7_copyOfRange_39247) (maxL := 3) (ret := (some (.array .byte))) (by decide) rfl ?_
  intro p e s mth args below meth c s₁ B hml hv
  obtain ⟨rfl, hcl, hsz, hP, hK, hD0, hZ0⟩ := hv
  have hx := B.exec
  have hb := B.bytes
  have hr := B.returns
  have hts := atoms_spec (ws := wM yJ7_copyOfRange_39247 cJ7_copyOfRange_39247 3 (some (.array .byte))) B.pre
  have hown : s.vm.findClass RJ7 = some mth.cls := findClass_of_methodNamed B.named
  have hlk := B.notSynchronized
  have htA : ∀ w ∈ wA, w.before _ s = true := fun w h => hts w (List.mem_cons_of_mem _ h)
  subst hsz
  have hD := hD0.self (sz := s.heap.size)
  generalize hAe : va_A [(h1, .inl (cB, m, .inl f))] s.heap.size = A at hD hZ0 ⊢
  have hZ := hZ0
  have hA : ∀ q : Nat, s.heap.size ≤ q → A q := fun q h => by rw [← hAe]; exact Or.inr h
  have hS : va_S A s.heap s.heap [] := va_S.rf
  have hP : va_P D vwCl [(h1, .inl (cB, m, .inl f))] s.heap := hP
  have hl := lv_entry ([.ref h1, .int 0, .int (nI k)]) (n := 3) (Nat.le_of_ble_eq_true rfl)
  rw [lg_entry_eq]
  generalize (lg_sl ([.ref h1, .int 0, .int (nI k)]) ++ List.replicate (3 - (lg_sl ([.ref h1, .int 0, .int (nI k)])).length) Slot.unset).toArray = ls at hl ⊢
  have hl : lv_has ls 3 [(0, .ref h1), (1, .int 0), (2, .int (nI k))] := hl
  have C : CallFix p mth c cJ7_copyOfRange_39247 3 s ([.ref h1, .int 0, .int (nI k)] : List Value).toArray (wM yJ7_copyOfRange_39247 cJ7_copyOfRange_39247 3 (some (.array .byte))) RJ7 := ⟨hx, hb, hml, hown, hts⟩
  by_cases hne : k ≠ m
  · refine lv_iload_n hx hb dJ7_copyOfRange_39247_0 rfl (lv_at hl 1 rfl) ?_
    refine lv_if_ne (tgt := 10) hx hb dJ7_copyOfRange_39247_1 (by decide) (fun c_1 => absurd (rfl) c_1) (fun c_1 => ?_)
    refine lv_iload_n hx hb dJ7_copyOfRange_39247_4 rfl (lv_at hl 2 rfl) ?_
    refine lv_aload_n hx hb dJ7_copyOfRange_39247_5 rfl (lv_at hl 0 rfl) ?_
    refine va_alen hx hb hK hP 0 0 rfl rfl (v := nI m) rfl dJ7_copyOfRange_39247_6 ?_
    refine lv_icmp_eq (tgt := 17) hx hb dJ7_copyOfRange_39247_7 (by decide) (fun c_7 => absurd c_7 (fun h => hne ((nI_eq (by omega) (by omega)).mp h))) (fun c_7 => ?_)
    refine lv_aload_n hx hb dJ7_copyOfRange_39247_10 rfl (lv_at hl 0 rfl) ?_
    refine lv_iload_n hx hb dJ7_copyOfRange_39247_11 rfl (lv_at hl 1 rfl) ?_
    refine lv_iload_n hx hb dJ7_copyOfRange_39247_12 rfl (lv_at hl 2 rfl) ?_
    have hFc := va_free (wc := [(h1, .inl (cB, m, .inl f))]) hD hS hA [0] rfl
    refine va_callr (va_runS (As := [.ref h1, .int 0, .int (nI k)]) (rest := []) C (t_copyOfRangeByte l D cB h1 m k f s.heap.size (by omega) hm hf) (va_cwS 3 hts (sy_goodS kw_774 kw_775 kw_54 kw_776) rfl rfl rfl hdT_J7_copyOfRangeByte_39247.2 ⟨Nat.le_of_ble_eq_true rfl, Nat.le_of_ble_eq_true rfl⟩) ⟨pT_blind, fun U hU hW => ⟨rfl, by rw [hU], by rw [hU]; exact hP, va_K.moved hW.alike hK, hD.weaken (fun _ _ _ _ => trivial), by rw [hU]; exact va_Z.moved hW.alike (va_Z.narrow (va_Z.kept hZ (fun a ha hn => hS.2.1 a ha hn)) (fun q h => hFc q h))⟩⟩ rfl rfl hl.1 rfl (lv_room (Nat.le_of_ble_eq_true rfl)) dJ7_copyOfRange_39247_13 ⟨Nat.le_refl _, Nat.le_of_eq (Nat.zero_add _)⟩) hS (fun q _ h => hFc q h) hFc (fun f2 a2 t H1 locs ht hvm hw hB hz1 hk1 hS => ?_)
    obtain ⟨hP1, hD1⟩ := hB
    rw [ht] at hP1
    have hP : va_P D vwCl [(h1, .inl (cB, m, .inl f)), (a2, .inl (cB, k, .inl f2))] H1 := hP1
    have hD : va_D A [(h1, .inl (cB, m, .inl f)), (a2, .inl (cB, k, .inl f2))] := hD1.weaken (fun _ q _ h => hFc q.1 h)
    generalize H1 = H at hP hS ⊢
    refine W.widen (k := 1) (n := k) (Nat.le_refl _) (Nat.le_of_eq (Nat.zero_add k)) ?_
    exact W.aret hx hb hr (Or.inr ⟨_, rfl⟩) (Or.inr ⟨_, rfl⟩) (fun t ht hW => ⟨⟨f2, _, rfl, hw, by rw [ht]; exact hP, hD⟩, hS.F ht⟩) hS.2.2 dJ7_copyOfRange_39247_16 hlk
  · have hne2 : k = m := by omega
    subst hne2
    refine lv_iload_n hx hb dJ7_copyOfRange_39247_0 rfl (lv_at hl 1 rfl) ?_
    refine lv_if_ne (tgt := 10) hx hb dJ7_copyOfRange_39247_1 (by decide) (fun c_1 => absurd (rfl) c_1) (fun c_1 => ?_)
    refine lv_iload_n hx hb dJ7_copyOfRange_39247_4 rfl (lv_at hl 2 rfl) ?_
    refine lv_aload_n hx hb dJ7_copyOfRange_39247_5 rfl (lv_at hl 0 rfl) ?_
    refine va_alen hx hb hK hP 0 0 rfl rfl (v := nI k) rfl dJ7_copyOfRange_39247_6 ?_
    refine lv_icmp_eq (tgt := 17) hx hb dJ7_copyOfRange_39247_7 (by decide) (fun c_7 => ?_) (fun c_7 => absurd (rfl) c_7)
    refine lv_aload_n hx hb dJ7_copyOfRange_39247_17 rfl (lv_at hl 0 rfl) ?_
    refine va_clone hx hb (hml.trans hl.1.symm) hown (htA _ kw_666) (htA _ kw_667) (htA _ kw_668) (htA _ kw_669) (htA _ kw_670) hcl hK hP hD hS hA 0 0 (x := (k, .inl f)) (ty := .byte) rfl rfl (va_nm_byte (hK.2 0 (cB, .byte) rfl).2) (fun i v h => va_fit (F := fun i => .int (f i)) (fun i _ => hf i) i v h) (Nat.le_of_ble_eq_true rfl) (Nat.le_of_ble_eq_true rfl) (Nat.le_refl _) (Nat.le_of_eq (Nat.zero_add k)) dJ7_copyOfRange_39247_18 (fun a2 H hK2 hP hD hS => ?_)
    have hP : va_P D vwCl [(h1, .inl (cB, k, .inl f)), (a2, .inl (cB, k, .inl f))] H := hP
    have hD : va_D A [(h1, .inl (cB, k, .inl f)), (a2, .inl (cB, k, .inl f))] := hD
    refine va_castA hx hb hown (htA _ kw_671) hP 1 rfl (va_nm_byte (hK.2 0 (cB, .byte) rfl).2) dJ7_copyOfRange_39247_21 ?_
    refine W.widen (k := 1) (n := k) (Nat.le_refl _) (Nat.le_of_eq (Nat.zero_add k)) ?_
    exact W.aret hx hb hr (Or.inr ⟨_, rfl⟩) (Or.inr ⟨_, rfl⟩) (fun t ht hW => ⟨⟨f, _, rfl, hf, by rw [ht]; exact hP, hD⟩, hS.F ht⟩) hS.2.2 dJ7_copyOfRange_39247_24 hlk
set_option maxHeartbeats 4000000 in
set_option maxRecDepth 100000 in
theorem t_init5 (l : Launch) (D : va_G) (cB : ClassId) (h0 : Nat) (sz : Nat)  : Met l yJ5_init_d00df (wM yJ5_init_d00df cJ5_init_d00df 2 none) ({ frames := 1, cells := 1, slots := 16, locals := 40 }) (va_Pc [.ref h0, .int 16] (pT D cB sz [(h0, .inr (1, [.null, .int 0, .int 0, .int 0]))])) (va_Qv (fun _ : Nat => True) (fun u t => va_P D vwCl [(h0, .inr (1, [.ref u, .int 0, .int 0, .int 0])), (u, .inl (cB, 16, .inl (fun _ => 0)))] t.heap ∧ va_D (va_A [(h0, .inr (1, [.null, .int 0, .int 0, .int 0]))] sz) [(h0, .inr (1, [.ref u, .int 0, .int 0, .int 0])), (u, .inl (cB, 16, .inl (fun _ => 0)))]) (va_A [(h0, .inr (1, [.null, .int 0, .int 0, .int 0]))] sz)) 1 16 (va_A [(h0, .inr (1, [.null, .int 0, .int 0, .int 0]))] sz) := by
  refine Met.ofW (cc := cJ5_init_d00df) (maxL := 2) (ret := none) (by decide) rfl ?_
  intro p e s mth args below meth c s₁ B hml hv
  obtain ⟨rfl, hsz, hP, hK, hD0, hZ0⟩ := hv
  have hx := B.exec
  have hb := B.bytes
  have hr := B.returns
  have hts := atoms_spec (ws := wM yJ5_init_d00df cJ5_init_d00df 2 none) B.pre
  have hown : s.vm.findClass RJ5 = some mth.cls := findClass_of_methodNamed B.named
  have hlk := B.notSynchronized
  have htA : ∀ w ∈ wA, w.before _ s = true := fun w h => hts w (List.mem_cons_of_mem _ h)
  subst hsz
  have hD := hD0.self (sz := s.heap.size)
  generalize hAe : va_A [(h0, .inr (1, [.null, .int 0, .int 0, .int 0]))] s.heap.size = A at hD hZ0 ⊢
  have hZ := hZ0
  have hA : ∀ q : Nat, s.heap.size ≤ q → A q := fun q h => by rw [← hAe]; exact Or.inr h
  have hS : va_S A s.heap s.heap [] := va_S.rf
  have hP : va_P D vwCl [(h0, .inr (1, [.null, .int 0, .int 0, .int 0]))] s.heap := hP
  have hl := lv_entry ([.ref h0, .int 16]) (n := 2) (Nat.le_of_ble_eq_true rfl)
  rw [lg_entry_eq]
  generalize (lg_sl ([.ref h0, .int 16]) ++ List.replicate (2 - (lg_sl ([.ref h0, .int 16])).length) Slot.unset).toArray = ls at hl ⊢
  have hl : lv_has ls 2 [(0, .ref h0), (1, .int 16)] := hl
  have C : CallFix p mth c cJ5_init_d00df 2 s ([.ref h0, .int 16] : List Value).toArray (wM yJ5_init_d00df cJ5_init_d00df 2 none) RJ5 := ⟨hx, hb, hml, hown, hts⟩
  refine lv_aload_n hx hb dJ5_init_d00df_0 rfl (lv_at hl 0 rfl) ?_
  refine W.objInit hx hb hown (htA _ kw_622) (htA _ kw_12) (htA _ kw_13) rfl (by rw [hml]; exact hl.1) rfl dJ5_init_d00df_1 (Nat.le_of_ble_eq_true rfl) (Nat.le_of_ble_eq_true rfl) ?_
  refine W.eq (g2 := F0 mth 4 ls []) rfl ?_
  refine va_gets hx hb hZ hS hown (htA _ kw_623) (fun _ h9 => h9) dJ5_init_d00df_4 ?_
  refine lv_if_eq (tgt := 25) hx hb dJ5_init_d00df_7 (by decide) (fun c_7 => absurd c_7 (by decide)) (fun c_7 => ?_)
  refine lv_aload_n hx hb dJ5_init_d00df_10 rfl (lv_at hl 0 rfl) ?_
  refine lv_iload_n hx hb dJ5_init_d00df_11 rfl (lv_at hl 1 rfl) ?_
  refine ct_newb (N' := 16) hx hb (htA _ kw_624) hK hP hD hS hA (by decide) (by decide) (Nat.le_of_ble_eq_true rfl) (Nat.le_refl _) (Nat.le_refl _) dJ5_init_d00df_12 (fun a H hP hD hS => ?_)
  have hP : va_P D vwCl [(h0, .inr (1, [.null, .int 0, .int 0, .int 0])), (a, .inl (cB, 16, .inl (fun _ => 0)))] H := hP
  have hD : va_D A [(h0, .inr (1, [.null, .int 0, .int 0, .int 0])), (a, .inl (cB, 16, .inl (fun _ => 0)))] := hD
  refine va_put (D := D) (ci := 1) (v := .ref a) (ty := .array .byte) (C := RJ4) (T := TJ4) (N := 4) hx hb htA iA_J4 tyJ4 tyJ4_ok nmJ4 hown hK hP hD hS 0 rfl rfl 0 (by decide) (htA _ kw_625) (fun _ h9 => h9) rfl (by decide +kernel) rfl rfl (Nat.le_of_ble_eq_true rfl) dJ5_init_d00df_14 (fun H locs hP hD hS => ?_)
  have hP : va_P D vwCl [(h0, .inr (1, [.ref a, .int 0, .int 0, .int 0])), (a, .inl (cB, 16, .inl (fun _ => 0)))] H := hP
  have hD : va_D A [(h0, .inr (1, [.ref a, .int 0, .int 0, .int 0])), (a, .inl (cB, 16, .inl (fun _ => 0)))] := hD
  refine lv_aload_n hx hb dJ5_init_d00df_17 rfl (lv_at hl 0 rfl) ?_
  refine lv_iconst (v := 0) hx hb dJ5_init_d00df_18 (by decide) ?_
  refine va_put (D := D) (ci := 1) (v := .int 0) (ty := .byte) (C := RJ4) (T := TJ4) (N := 4) hx hb htA iA_J4 tyJ4 tyJ4_ok nmJ4 hown hK hP hD hS 0 rfl rfl 1 (by decide) (htA _ kw_626) (fun _ h9 => h9) rfl (by decide +kernel) rfl rfl (Nat.le_of_ble_eq_true rfl) dJ5_init_d00df_19 (fun H locs hP hD hS => ?_)
  have hP : va_P D vwCl [(h0, .inr (1, [.ref a, .int 0, .int 0, .int 0])), (a, .inl (cB, 16, .inl (fun _ => 0)))] H := hP
  have hD : va_D A [(h0, .inr (1, [.ref a, .int 0, .int 0, .int 0])), (a, .inl (cB, 16, .inl (fun _ => 0)))] := hD
  refine lv_goto (tgt := 38) hx hb dJ5_init_d00df_22 (by decide) ?_
  refine W.widen (k := 1) (n := 16) (Nat.le_refl _) (Nat.le_refl _) ?_
  exact W.vret hx hb hr (fun t ht hW => ⟨⟨a, rfl, trivial, by rw [ht]; exact hP, hD⟩, hS.F ht⟩) hS.2.2 dJ5_init_d00df_38 hlk
set_option maxHeartbeats 4000000 in
set_option maxRecDepth 100000 in
theorem t_init4 (l : Launch) (D : va_G) (cB : ClassId) (h0 : Nat) (sz : Nat)  : Met l yJ4_init_da8c8 (wM yJ4_init_da8c8 cJ4_init_da8c8 1 none) ({ frames := 2, cells := 1, slots := 16, locals := 70 }) (va_Pc [.ref h0] (pT D cB sz [(h0, .inr (1, [.null, .int 0, .int 0, .int 0]))])) (va_Qv (fun _ : Nat => True) (fun u t => va_P D vwCl [(h0, .inr (1, [.ref u, .int 0, .int 0, .int 0])), (u, .inl (cB, 16, .inl (fun _ => 0)))] t.heap ∧ va_D (va_A [(h0, .inr (1, [.null, .int 0, .int 0, .int 0]))] sz) [(h0, .inr (1, [.ref u, .int 0, .int 0, .int 0])), (u, .inl (cB, 16, .inl (fun _ => 0)))]) (va_A [(h0, .inr (1, [.null, .int 0, .int 0, .int 0]))] sz)) 1 16 (va_A [(h0, .inr (1, [.null, .int 0, .int 0, .int 0]))] sz) := by
  refine Met.ofW (cc := cJ4_init_da8c8) (maxL := 1) (ret := none) (by decide) rfl ?_
  intro p e s mth args below meth c s₁ B hml hv
  obtain ⟨rfl, hsz, hP, hK, hD0, hZ0⟩ := hv
  have hx := B.exec
  have hb := B.bytes
  have hr := B.returns
  have hts := atoms_spec (ws := wM yJ4_init_da8c8 cJ4_init_da8c8 1 none) B.pre
  have hown : s.vm.findClass RJ4 = some mth.cls := findClass_of_methodNamed B.named
  have hlk := B.notSynchronized
  have htA : ∀ w ∈ wA, w.before _ s = true := fun w h => hts w (List.mem_cons_of_mem _ h)
  subst hsz
  have hD := hD0.self (sz := s.heap.size)
  generalize hAe : va_A [(h0, .inr (1, [.null, .int 0, .int 0, .int 0]))] s.heap.size = A at hD hZ0 ⊢
  have hZ := hZ0
  have hA : ∀ q : Nat, s.heap.size ≤ q → A q := fun q h => by rw [← hAe]; exact Or.inr h
  have hS : va_S A s.heap s.heap [] := va_S.rf
  have hP : va_P D vwCl [(h0, .inr (1, [.null, .int 0, .int 0, .int 0]))] s.heap := hP
  have hl := lv_entry ([.ref h0]) (n := 1) (Nat.le_of_ble_eq_true rfl)
  rw [lg_entry_eq]
  generalize (lg_sl ([.ref h0]) ++ List.replicate (1 - (lg_sl ([.ref h0])).length) Slot.unset).toArray = ls at hl ⊢
  have hl : lv_has ls 1 [(0, .ref h0)] := hl
  have C : CallFix p mth c cJ4_init_da8c8 1 s ([.ref h0] : List Value).toArray (wM yJ4_init_da8c8 cJ4_init_da8c8 1 none) RJ4 := ⟨hx, hb, hml, hown, hts⟩
  refine lv_aload_n hx hb dJ4_init_da8c8_0 rfl (lv_at hl 0 rfl) ?_
  refine lv_bipush (v := 16) hx hb dJ4_init_da8c8_1 (by decide) ?_
  have hFc := va_free (wc := [(h0, .inr (1, [.null, .int 0, .int 0, .int 0]))]) hD hS hA [0] rfl
  refine va_callv (va_runI (As := [.int 16]) (rest := []) C (t_init5 l D cB h0 s.heap.size) (cwI 1 hts (sy_goodI kw_621) rfl rfl rfl (htA _ kw_620) (htA _ kw_618) (htA _ kw_619) rfl (by decide +kernel) ⟨Nat.le_of_ble_eq_true rfl, Nat.le_of_ble_eq_true rfl⟩) ⟨pT_blind, fun U hU hW => ⟨rfl, by rw [hU], by rw [hU]; exact hP, va_K.moved hW.alike hK, hD.weaken (fun _ _ _ _ => trivial), by rw [hU]; exact va_Z.moved hW.alike (va_Z.narrow (va_Z.kept hZ (fun a ha hn => hS.2.1 a ha hn)) (fun q h => hFc q h))⟩⟩ rfl rfl hl.1 rfl (lv_room (Nat.le_of_ble_eq_true rfl)) dJ4_init_da8c8_3 ⟨Nat.le_refl _, Nat.le_refl _⟩) hS (fun q _ h => hFc q h) hFc (fun a t H1 locs ht hvm hw hB hz1 hk1 hS => ?_)
  obtain ⟨hP1, hD1⟩ := hB
  rw [ht] at hP1
  have hP : va_P D vwCl [(h0, .inr (1, [.ref a, .int 0, .int 0, .int 0])), (a, .inl (cB, 16, .inl (fun _ => 0)))] H1 := hP1
  have hD : va_D A [(h0, .inr (1, [.ref a, .int 0, .int 0, .int 0])), (a, .inl (cB, 16, .inl (fun _ => 0)))] := hD1.weaken (fun _ q _ h => hFc q.1 h)
  generalize H1 = H at hP hS ⊢
  refine W.widen (k := 1) (n := 16) (Nat.le_refl _) (Nat.le_refl _) ?_
  exact W.vret hx hb hr (fun t ht hW => ⟨⟨a, rfl, trivial, by rw [ht]; exact hP, hD⟩, hS.F ht⟩) hS.2.2 dJ4_init_da8c8_6 hlk
theorem hdT_J5_getValue_6d5f1 : yJ5_getValue_6d5f1.cls = yJ5_getValue_6d5f1.cls ∧ yJ5_getValue_6d5f1.cls ≠ "java/lang/invoke/MethodHandle" ∧ yJ5_getValue_6d5f1.cls ≠ "java/lang/invoke/VarHandle" ∧ (parseMethodDescriptor yJ5_getValue_6d5f1.desc).map (fun d => d.parameters.length) = some 0 := by decide +kernel
theorem hdT_J0_init_db425 : yJ0_init_db425.cls = yJ0_init_db425.cls ∧ yJ0_init_db425.cls ≠ "java/lang/invoke/MethodHandle" ∧ yJ0_init_db425.cls ≠ "java/lang/invoke/VarHandle" ∧ (parseMethodDescriptor yJ0_init_db425.desc).map (fun d => d.parameters.length) = some 2 := by decide +kernel
set_option maxHeartbeats 4000000 in
set_option maxRecDepth 100000 in
theorem t_strInit (l : Launch) (D : va_G) (cB : ClassId) (h2 h0 h1 m k : Nat) (mb : Int32) (f : Nat → Int32) (sz : Nat) (hkm : k ≤ m) (hm : m < 2 ^ 28) (hf : sb_Fit f) : Met l yJ0_init_db425 (wM yJ0_init_db425 cJ0_init_db425 5 none) ({ frames := 3, cells := 1, slots := k, locals := 140 }) (va_Pc [.ref h2, .ref h0, .null] (pK D cB sz [(h2, .inr (0, [.null, .int 0, .int 0, .int 0])), (h0, .inr (1, [.ref h1, .int 0, .int mb, .int (nI k)])), (h1, .inl (cB, m, .inl f))])) (va_Qv (fun u : Nat × (Nat → Int32) => sb_Fit u.2) (fun u t => va_P D vwCl [(h2, .inr (0, [.ref u.1, .int 0, .int 0, .int 0])), (h0, .inr (1, [.ref h1, .int 0, .int mb, .int (nI k)])), (h1, .inl (cB, m, .inl f)), (u.1, .inl (cB, k, .inl u.2))] t.heap ∧ va_D (va_A [(h2, .inr (0, [.null, .int 0, .int 0, .int 0])), (h0, .inr (1, [.ref h1, .int 0, .int mb, .int (nI k)])), (h1, .inl (cB, m, .inl f))] sz) [(h2, .inr (0, [.ref u.1, .int 0, .int 0, .int 0])), (h0, .inr (1, [.ref h1, .int 0, .int mb, .int (nI k)])), (h1, .inl (cB, m, .inl f)), (u.1, .inl (cB, k, .inl u.2))]) (va_A [(h2, .inr (0, [.null, .int 0, .int 0, .int 0])), (h0, .inr (1, [.ref h1, .int 0, .int mb, .int (nI k)])), (h1, .inl (cB, m, .inl f))] sz)) 1 k (va_A [(h2, .inr (0, [.null, .int 0, .int 0, .int 0])), (h0, .inr (1, [.ref h1, .int 0, .int mb, .int (nI k)])), (h1, .inl (cB, m, .inl f))] sz) := by
  refine Met.ofW (cc := cJ0_init_db425) (maxL := 5) (ret := none) (by decide) rfl ?_
  intro p e s mth args below meth c s₁ B hml hv
  obtain ⟨rfl, hcl, hsz, hP, hK, hD0, hZ0⟩ := hv
  have hx := B.exec
  have hb := B.bytes
  have hr := B.returns
  have hts := atoms_spec (ws := wM yJ0_init_db425 cJ0_init_db425 5 none) B.pre
  have hown : s.vm.findClass RJ0 = some mth.cls := findClass_of_methodNamed B.named
  have hlk := B.notSynchronized
  have htA : ∀ w ∈ wA, w.before _ s = true := fun w h => hts w (List.mem_cons_of_mem _ h)
  have hin : meth.name = "<init>" := (name_of_methodNamed B.named B.method).1
  subst hsz
  have hD := hD0.self (sz := s.heap.size)
  generalize hAe : va_A [(h2, .inr (0, [.null, .int 0, .int 0, .int 0])), (h0, .inr (1, [.ref h1, .int 0, .int mb, .int (nI k)])), (h1, .inl (cB, m, .inl f))] s.heap.size = A at hD hZ0 ⊢
  have hZ := hZ0
  have hA : ∀ q : Nat, s.heap.size ≤ q → A q := fun q h => by rw [← hAe]; exact Or.inr h
  have hS : va_S A s.heap s.heap [] := va_S.rf
  have hP : va_P D vwCl [(h2, .inr (0, [.null, .int 0, .int 0, .int 0])), (h0, .inr (1, [.ref h1, .int 0, .int mb, .int (nI k)])), (h1, .inl (cB, m, .inl f))] s.heap := hP
  have hl := lv_entry ([.ref h2, .ref h0, .null]) (n := 5) (Nat.le_of_ble_eq_true rfl)
  rw [lg_entry_eq]
  generalize (lg_sl ([.ref h2, .ref h0, .null]) ++ List.replicate (5 - (lg_sl ([.ref h2, .ref h0, .null])).length) Slot.unset).toArray = ls at hl ⊢
  have hl : lv_has ls 5 [(0, .ref h2), (1, .ref h0), (2, .null)] := hl
  have C : CallFix p mth c cJ0_init_db425 5 s ([.ref h2, .ref h0, .null] : List Value).toArray (wM yJ0_init_db425 cJ0_init_db425 5 none) RJ0 := ⟨hx, hb, hml, hown, hts⟩
  refine lv_aload_n hx hb dJ0_init_db425_0 rfl (lv_at hl 0 rfl) ?_
  refine W.objInit hx hb hown (htA _ kw_757) (htA _ kw_12) (htA _ kw_13) rfl (by rw [hml]; exact hl.1) rfl dJ0_init_db425_1 (Nat.le_of_ble_eq_true rfl) (Nat.le_of_ble_eq_true rfl) ?_
  refine W.eq (g2 := F0 mth 4 ls []) rfl ?_
  refine lv_aload_n hx hb dJ0_init_db425_4 rfl (lv_at hl 1 rfl) ?_
  have hPc := hP.sub (ws' := [(h0, .inr (1, [.ref h1, .int 0, .int mb, .int (nI k)]))]) [1] rfl
  refine ct_callV (va_Run.run (va_runU (x := yJ5_getValue_6d5f1) (As := []) (rest := []) C (t_getValue l D cB h0 h1 mb (nI k)) (va_cwU (owner := RJ5) 0 hts (sy_goodU kw_762 kw_763 kw_764 kw_765 kw_620 kw_766) rfl rfl rfl rfl hdT_J5_getValue_6d5f1.2 ⟨Nat.le_of_ble_eq_true rfl, Nat.le_of_ble_eq_true rfl⟩) ⟨pR_blind, va_recv hK hP (ci := 1) (q0 := 1) rfl rfl, fun U hU hW => ⟨rfl, by rw [hU]; exact hPc, va_K.moved hW.alike hK, by rw [hU]; exact va_Z.moved hW.alike (va_Z.narrow (va_Z.kept hZ (fun a ha hn => hS.2.1 a ha hn)) (fun _ h => h.elim))⟩⟩ rfl rfl hl.1 rfl (lv_room (Nat.le_of_ble_eq_true rfl)) dJ0_init_db425_5 ⟨Nat.zero_le _, Nat.zero_le _⟩)) ?_
  refine W.eq (g2 := F0 mth 8 ls [.ref h1]) rfl ?_
  refine lv_astore_n (lv' := [(3, .ref h1), (0, .ref h2), (1, .ref h0), (2, .null)]) hx hb dJ0_init_db425_8 rfl hl (by decide) rfl (fun ls hl => ?_)
  refine lv_aload_n hx hb dJ0_init_db425_9 rfl (lv_at hl 2 rfl) ?_
  have hPc := hP.sub (ws' := [(h0, .inr (1, [.ref h1, .int 0, .int mb, .int (nI k)]))]) [1] rfl
  refine W.callR (va_Run.run (va_runU (x := yJ5_length_8abf5) (As := []) (rest := []) C (t_length l D cB h0 h1 mb (nI k)) (va_cwO (owner := RJ5) 0 hts (sy_goodO kw_767 kw_742 kw_768 kw_769 kw_738 kw_614 kw_740) rfl rfl rfl (List.mem_cons_of_mem _ kw_744) ⟨by decide, by decide, hdT_J5_length_8abf5.2.2.2⟩ ⟨Nat.le_of_ble_eq_true rfl, Nat.le_of_ble_eq_true rfl⟩) ⟨pR_blind, va_recv hK hP (ci := 1) (q0 := 1) rfl rfl, fun U hU hW => ⟨rfl, by rw [hU]; exact hPc, va_K.moved hW.alike hK, by rw [hU]; exact va_Z.moved hW.alike (va_Z.narrow (va_Z.kept hZ (fun a ha hn => hS.2.1 a ha hn)) (fun _ h => h.elim))⟩⟩ rfl rfl hl.1 rfl (lv_room (Nat.le_of_ble_eq_true rfl)) dJ0_init_db425_10 ⟨Nat.zero_le _, Nat.zero_le _⟩)) ?_
  refine W.eq (g2 := F0 mth 13 ls [.int (nI k)]) rfl ?_
  refine lv_istore (lv' := [(4, .int (nI k)), (3, .ref h1), (0, .ref h2), (1, .ref h0), (2, .null)]) hx hb dJ0_init_db425_13 hl (by decide) rfl (fun ls hl => ?_)
  refine lv_aload_n hx hb dJ0_init_db425_15 rfl (lv_at hl 3 rfl) ?_
  have hPc := hP.sub (ws' := [(h0, .inr (1, [.ref h1, .int 0, .int mb, .int (nI k)]))]) [1] rfl
  refine ct_cvU (rest := []) C (t_isLatin1 l D cB h0 h1 mb (nI k)) (fun U hU hW => ⟨by rw [hU]; exact hPc, va_K.moved hW.alike hK, by rw [hU]; exact va_Z.moved hW.alike (va_Z.narrow (va_Z.kept hZ (fun a ha hn => hS.2.1 a ha hn)) (fun _ h => h.elim))⟩) (va_recv hK hP (ci := 1) (q0 := 1) rfl rfl) kw_770 kw_678 kw_679 kw_680 kw_620 kw_681 hdT_J5_isLatin1_aae02 ⟨Nat.le_of_ble_eq_true rfl, Nat.le_of_ble_eq_true rfl⟩ rfl rfl rfl hl.1 rfl (Nat.le_of_ble_eq_true rfl) dJ0_init_db425_16 ⟨Nat.zero_le _, Nat.zero_le _⟩ ?_
  refine lv_if_eq (tgt := 41) hx hb dJ0_init_db425_19 (by decide) (fun c_19 => absurd c_19 (by decide)) (fun c_19 => ?_)
  refine lv_aload_n hx hb dJ0_init_db425_22 rfl (lv_at hl 2 rfl) ?_
  refine lv_iconst (v := 0) hx hb dJ0_init_db425_23 (by decide) ?_
  refine va_putF (D := D) (ci := 0) (v := .int 0) (ty := .byte) (C := RJ0) (T := TJ0) (N := 4) hx hb htA iA_J0 tyJ0 tyJ0_ok nmJ0 hown hK hP hD hS 0 rfl rfl 1 (by decide) (htA _ kw_758) (fun _ h9 => h9) rfl hin rfl (by decide +kernel) rfl rfl (Nat.le_of_ble_eq_true rfl) dJ0_init_db425_24 (fun H locs hP hD hS => ?_)
  have hP : va_P D vwCl [(h2, .inr (0, [.null, .int 0, .int 0, .int 0])), (h0, .inr (1, [.ref h1, .int 0, .int mb, .int (nI k)])), (h1, .inl (cB, m, .inl f))] H := hP
  have hD : va_D A [(h2, .inr (0, [.null, .int 0, .int 0, .int 0])), (h0, .inr (1, [.ref h1, .int 0, .int mb, .int (nI k)])), (h1, .inl (cB, m, .inl f))] := hD
  refine lv_aload_n hx hb dJ0_init_db425_27 rfl (lv_at hl 2 rfl) ?_
  refine lv_aload_n hx hb dJ0_init_db425_28 rfl (lv_at hl 1 rfl) ?_
  refine lv_iconst (v := 0) hx hb dJ0_init_db425_29 (by decide) ?_
  refine lv_iload hx hb dJ0_init_db425_30 (lv_at hl 0 rfl) ?_
  have hPc := hP.sub (ws' := [(h1, .inl (cB, m, .inl f))]) [2] rfl
  have hDc := hD.sub (ws' := [(h1, .inl (cB, m, .inl f))]) [2] (by decide) rfl
  have hFc := va_free (wc := [(h1, .inl (cB, m, .inl f))]) hD hS hA [2] rfl
  refine va_callr (va_runS (As := [.ref h1, .int 0, .int (nI k)]) (rest := [.ref h2]) C (t_copyOfRange l D cB h1 m k f H.size hkm hm hf) (va_cwS 3 hts (sy_goodS kw_771 kw_772 kw_54 kw_773) rfl rfl rfl hdT_J7_copyOfRange_39247.2 ⟨Nat.le_of_ble_eq_true rfl, Nat.le_of_ble_eq_true rfl⟩) ⟨pK_blind, fun U hU hW => ⟨rfl, va_Nw.warmC hW hcl, by rw [hU], by rw [hU]; exact hPc, va_K.moved hW.alike hK, hDc.weaken (fun _ _ _ _ => trivial), by rw [hU]; exact va_Z.moved hW.alike (va_Z.narrow (va_Z.kept hZ (fun a ha hn => hS.2.1 a ha hn)) (fun q h => hFc q h))⟩⟩ rfl rfl hl.1 rfl (lv_room (Nat.le_of_ble_eq_true rfl)) dJ0_init_db425_32 ⟨Nat.le_refl _, Nat.le_of_eq (Nat.zero_add _)⟩) hS (fun q _ h => hFc q h) hFc (fun f2 a2 t H1 locs ht hvm hw hB hz1 hk1 hS => ?_)
  obtain ⟨hP1, hD1⟩ := hB
  rw [ht] at hP1
  obtain ⟨hP, hD⟩ := va_join (wr := [(h2, .inr (0, [.null, .int 0, .int 0, .int 0])), (h0, .inr (1, [.ref h1, .int 0, .int mb, .int (nI k)]))]) (w1 := [(h1, .inl (cB, m, .inl f)), (a2, .inl (cB, k, .inl f2))]) hP hD [2] [0, 1] rfl rfl (by decide) (by decide) hk1 hFc hP1 hD1
  generalize H1 = H at hP hS ⊢
  have hP : va_P D vwCl [(h2, .inr (0, [.null, .int 0, .int 0, .int 0])), (h0, .inr (1, [.ref h1, .int 0, .int mb, .int (nI k)])), (h1, .inl (cB, m, .inl f)), (a2, .inl (cB, k, .inl f2))] H := hP
  have hD : va_D A [(h2, .inr (0, [.null, .int 0, .int 0, .int 0])), (h0, .inr (1, [.ref h1, .int 0, .int mb, .int (nI k)])), (h1, .inl (cB, m, .inl f)), (a2, .inl (cB, k, .inl f2))] := hD
  refine va_putF (D := D) (ci := 0) (v := .ref a2) (ty := .array .byte) (C := RJ0) (T := TJ0) (N := 4) hx hb htA iA_J0 tyJ0 tyJ0_ok nmJ0 hown hK hP hD hS 0 rfl rfl 0 (by decide) (htA _ kw_759) (fun _ h9 => h9) rfl hin rfl (by decide +kernel) rfl rfl (Nat.le_of_ble_eq_true rfl) dJ0_init_db425_35 (fun H locs hP hD hS => ?_)
  have hP : va_P D vwCl [(h2, .inr (0, [.ref a2, .int 0, .int 0, .int 0])), (h0, .inr (1, [.ref h1, .int 0, .int mb, .int (nI k)])), (h1, .inl (cB, m, .inl f)), (a2, .inl (cB, k, .inl f2))] H := hP
  have hD : va_D A [(h2, .inr (0, [.ref a2, .int 0, .int 0, .int 0])), (h0, .inr (1, [.ref h1, .int 0, .int mb, .int (nI k)])), (h1, .inl (cB, m, .inl f)), (a2, .inl (cB, k, .inl f2))] := hD
  refine lv_goto (tgt := 97) hx hb dJ0_init_db425_38 (by decide) ?_
  refine W.widen (k := 1) (n := k) (Nat.le_refl _) (Nat.le_of_eq (Nat.zero_add _)) ?_
  exact W.vret hx hb hr (fun t ht hW => ⟨⟨(a2, f2), rfl, hw, by rw [ht]; exact hP, hD⟩, hS.F ht⟩) hS.2.2 dJ0_init_db425_97 hlk
set_option maxHeartbeats 4000000 in
set_option maxRecDepth 100000 in
theorem t_strInit1 (l : Launch) (D : va_G) (cB : ClassId) (h2 h0 h1 m k : Nat) (mb : Int32) (f : Nat → Int32) (sz : Nat) (hkm : k ≤ m) (hm : m < 2 ^ 28) (hf : sb_Fit f) : Met l yJ0_init_81219 (wM yJ0_init_81219 cJ0_init_81219 2 none) ({ frames := 4, cells := 1, slots := k, locals := 170 }) (va_Pc [.ref h2, .ref h0] (pK D cB sz [(h2, .inr (0, [.null, .int 0, .int 0, .int 0])), (h0, .inr (1, [.ref h1, .int 0, .int mb, .int (nI k)])), (h1, .inl (cB, m, .inl f))])) (va_Qv (fun u : Nat × (Nat → Int32) => sb_Fit u.2) (fun u t => va_P D vwCl [(h2, .inr (0, [.ref u.1, .int 0, .int 0, .int 0])), (h0, .inr (1, [.ref h1, .int 0, .int mb, .int (nI k)])), (h1, .inl (cB, m, .inl f)), (u.1, .inl (cB, k, .inl u.2))] t.heap ∧ va_D (va_A [(h2, .inr (0, [.null, .int 0, .int 0, .int 0])), (h0, .inr (1, [.ref h1, .int 0, .int mb, .int (nI k)])), (h1, .inl (cB, m, .inl f))] sz) [(h2, .inr (0, [.ref u.1, .int 0, .int 0, .int 0])), (h0, .inr (1, [.ref h1, .int 0, .int mb, .int (nI k)])), (h1, .inl (cB, m, .inl f)), (u.1, .inl (cB, k, .inl u.2))]) (va_A [(h2, .inr (0, [.null, .int 0, .int 0, .int 0])), (h0, .inr (1, [.ref h1, .int 0, .int mb, .int (nI k)])), (h1, .inl (cB, m, .inl f))] sz)) 1 k (va_A [(h2, .inr (0, [.null, .int 0, .int 0, .int 0])), (h0, .inr (1, [.ref h1, .int 0, .int mb, .int (nI k)])), (h1, .inl (cB, m, .inl f))] sz) := by
  refine Met.ofW (cc := cJ0_init_81219) (maxL := 2) (ret := none) (by decide) rfl ?_
  intro p e s mth args below meth c s₁ B hml hv
  obtain ⟨rfl, hcl, hsz, hP, hK, hD0, hZ0⟩ := hv
  have hx := B.exec
  have hb := B.bytes
  have hr := B.returns
  have hts := atoms_spec (ws := wM yJ0_init_81219 cJ0_init_81219 2 none) B.pre
  have hown : s.vm.findClass RJ0 = some mth.cls := findClass_of_methodNamed B.named
  have hlk := B.notSynchronized
  have htA : ∀ w ∈ wA, w.before _ s = true := fun w h => hts w (List.mem_cons_of_mem _ h)
  subst hsz
  have hD := hD0.self (sz := s.heap.size)
  generalize hAe : va_A [(h2, .inr (0, [.null, .int 0, .int 0, .int 0])), (h0, .inr (1, [.ref h1, .int 0, .int mb, .int (nI k)])), (h1, .inl (cB, m, .inl f))] s.heap.size = A at hD hZ0 ⊢
  have hZ := hZ0
  have hA : ∀ q : Nat, s.heap.size ≤ q → A q := fun q h => by rw [← hAe]; exact Or.inr h
  have hS : va_S A s.heap s.heap [] := va_S.rf
  have hP : va_P D vwCl [(h2, .inr (0, [.null, .int 0, .int 0, .int 0])), (h0, .inr (1, [.ref h1, .int 0, .int mb, .int (nI k)])), (h1, .inl (cB, m, .inl f))] s.heap := hP
  have hl := lv_entry ([.ref h2, .ref h0]) (n := 2) (Nat.le_of_ble_eq_true rfl)
  rw [lg_entry_eq]
  generalize (lg_sl ([.ref h2, .ref h0]) ++ List.replicate (2 - (lg_sl ([.ref h2, .ref h0])).length) Slot.unset).toArray = ls at hl ⊢
  have hl : lv_has ls 2 [(0, .ref h2), (1, .ref h0)] := hl
  have C : CallFix p mth c cJ0_init_81219 2 s ([.ref h2, .ref h0] : List Value).toArray (wM yJ0_init_81219 cJ0_init_81219 2 none) RJ0 := ⟨hx, hb, hml, hown, hts⟩
  refine lv_aload_n hx hb dJ0_init_81219_0 rfl (lv_at hl 0 rfl) ?_
  refine lv_aload_n hx hb dJ0_init_81219_1 rfl (lv_at hl 1 rfl) ?_
  refine lv_null hx hb dJ0_init_81219_2 ?_
  have hFc := va_free (wc := [(h2, .inr (0, [.null, .int 0, .int 0, .int 0])), (h0, .inr (1, [.ref h1, .int 0, .int mb, .int (nI k)])), (h1, .inl (cB, m, .inl f))]) hD hS hA [0, 1, 2] rfl
  refine va_callv (va_runI (As := [.ref h0, .null]) (rest := []) C (t_strInit l D cB h2 h0 h1 m k mb f s.heap.size hkm hm hf) (cwI 2 hts (sy_goodI kw_756) rfl rfl rfl (htA _ kw_704) (htA _ kw_754) (htA _ kw_755) rfl (by decide +kernel) ⟨Nat.le_of_ble_eq_true rfl, Nat.le_of_ble_eq_true rfl⟩) ⟨pK_blind, fun U hU hW => ⟨rfl, va_Nw.warmC hW hcl, by rw [hU], by rw [hU]; exact hP, va_K.moved hW.alike hK, hD.weaken (fun _ _ _ _ => trivial), by rw [hU]; exact va_Z.moved hW.alike (va_Z.narrow (va_Z.kept hZ (fun a ha hn => hS.2.1 a ha hn)) (fun q h => hFc q h))⟩⟩ rfl rfl hl.1 rfl (lv_room (Nat.le_of_ble_eq_true rfl)) dJ0_init_81219_3 ⟨Nat.le_refl _, Nat.le_of_eq (Nat.zero_add _)⟩) hS (fun q _ h => hFc q h) hFc (fun u t H1 locs ht hvm hw hB hz1 hk1 hS => ?_)
  obtain ⟨a2, f2⟩ := u
  obtain ⟨hP1, hD1⟩ := hB
  rw [ht] at hP1
  have hP : va_P D vwCl [(h2, .inr (0, [.ref a2, .int 0, .int 0, .int 0])), (h0, .inr (1, [.ref h1, .int 0, .int mb, .int (nI k)])), (h1, .inl (cB, m, .inl f)), (a2, .inl (cB, k, .inl f2))] H1 := hP1
  have hD : va_D A [(h2, .inr (0, [.ref a2, .int 0, .int 0, .int 0])), (h0, .inr (1, [.ref h1, .int 0, .int mb, .int (nI k)])), (h1, .inl (cB, m, .inl f)), (a2, .inl (cB, k, .inl f2))] := hD1.weaken (fun _ q _ h => hFc q.1 h)
  generalize H1 = H at hP hS ⊢
  refine W.widen (k := 1) (n := k) (Nat.le_refl _) (Nat.le_of_eq (Nat.zero_add _)) ?_
  exact W.vret hx hb hr (fun t ht hW => ⟨⟨(a2, f2), rfl, hw, by rw [ht]; exact hP, hD⟩, hS.F ht⟩) hS.2.2 dJ0_init_81219_6 hlk
set_option maxHeartbeats 4000000 in
set_option maxRecDepth 100000 in
theorem t_toString (l : Launch) (D : va_G) (cB : ClassId) (h0 h1 m k : Nat) (mb : Int32) (f : Nat → Int32) (sz : Nat) (hkm : k ≤ m) (hm : m < 2 ^ 28) (hf : sb_Fit f) : Met l yJ4_toString_0e30d (wM yJ4_toString_0e30d cJ4_toString_0e30d 1 (some (.object "java/lang/String"))) ({ frames := 5, cells := 2, slots := 4 + k, locals := 200 }) (va_Pc [.ref h0] (pK D cB sz [(h0, .inr (1, [.ref h1, .int 0, .int mb, .int (nI k)])), (h1, .inl (cB, m, .inl f))])) (va_Qr (fun u : Nat × (Nat → Int32) => sb_Fit u.2) (fun u a t => va_P D vwCl [(a, .inr (0, [.ref u.1, .int 0, .int 0, .int 0])), (h0, .inr (1, [.ref h1, .int 0, .int mb, .int (nI k)])), (h1, .inl (cB, m, .inl f)), (u.1, .inl (cB, k, .inl u.2))] t.heap ∧ va_D (va_A [(h0, .inr (1, [.ref h1, .int 0, .int mb, .int (nI k)])), (h1, .inl (cB, m, .inl f))] sz) [(a, .inr (0, [.ref u.1, .int 0, .int 0, .int 0])), (h0, .inr (1, [.ref h1, .int 0, .int mb, .int (nI k)])), (h1, .inl (cB, m, .inl f)), (u.1, .inl (cB, k, .inl u.2))]) (va_A [(h0, .inr (1, [.ref h1, .int 0, .int mb, .int (nI k)])), (h1, .inl (cB, m, .inl f))] sz)) 2 (4 + k) (va_A [(h0, .inr (1, [.ref h1, .int 0, .int mb, .int (nI k)])), (h1, .inl (cB, m, .inl f))] sz) := by
  refine Met.ofW (cc := cJ4_toString_0e30d) (maxL := 1) (ret := (some (.object "java/lang/String"))) (by decide) rfl ?_
  intro p e s mth args below meth c s₁ B hml hv
  obtain ⟨rfl, hcl, hsz, hP, hK, hD0, hZ0⟩ := hv
  have hx := B.exec
  have hb := B.bytes
  have hr := B.returns
  have hts := atoms_spec (ws := wM yJ4_toString_0e30d cJ4_toString_0e30d 1 (some (.object "java/lang/String"))) B.pre
  have hown : s.vm.findClass RJ4 = some mth.cls := findClass_of_methodNamed B.named
  have hlk := B.notSynchronized
  have htA : ∀ w ∈ wA, w.before _ s = true := fun w h => hts w (List.mem_cons_of_mem _ h)
  subst hsz
  have hD := hD0.self (sz := s.heap.size)
  generalize hAe : va_A [(h0, .inr (1, [.ref h1, .int 0, .int mb, .int (nI k)])), (h1, .inl (cB, m, .inl f))] s.heap.size = A at hD hZ0 ⊢
  have hZ := hZ0
  have hA : ∀ q : Nat, s.heap.size ≤ q → A q := fun q h => by rw [← hAe]; exact Or.inr h
  have hS : va_S A s.heap s.heap [] := va_S.rf
  have hP : va_P D vwCl [(h0, .inr (1, [.ref h1, .int 0, .int mb, .int (nI k)])), (h1, .inl (cB, m, .inl f))] s.heap := hP
  have hl := lv_entry ([.ref h0]) (n := 1) (Nat.le_of_ble_eq_true rfl)
  rw [lg_entry_eq]
  generalize (lg_sl ([.ref h0]) ++ List.replicate (1 - (lg_sl ([.ref h0])).length) Slot.unset).toArray = ls at hl ⊢
  have hl : lv_has ls 1 [(0, .ref h0)] := hl
  have C : CallFix p mth c cJ4_toString_0e30d 1 s ([.ref h0] : List Value).toArray (wM yJ4_toString_0e30d cJ4_toString_0e30d 1 (some (.object "java/lang/String"))) RJ4 := ⟨hx, hb, hml, hown, hts⟩
  refine va_new (D := D) (ci := 0) (fs := [.null, .int 0, .int 0, .int 0]) (C := RJ0) (T := TJ0) (N := 4) hx hb htA iA_J0 tyJ0 tyJ0_ok hown (htA _ kw_749) (htA _ kw_750) (htA _ kw_704) hK hP hD hS hA rfl (fun j hj => by rcases (show j = 0 ∨ j = 1 ∨ j = 2 ∨ j = 3 by omega) with rfl | rfl | rfl | rfl <;> rfl) (Nat.le_add_right 1 1) (Nat.le_add_right 4 k) dJ4_toString_0e30d_0 (fun h2 H hP hD hS => ?_)
  have hP : va_P D vwCl [(h0, .inr (1, [.ref h1, .int 0, .int mb, .int (nI k)])), (h1, .inl (cB, m, .inl f)), (h2, .inr (0, [.null, .int 0, .int 0, .int 0]))] H := hP
  have hD : va_D A [(h0, .inr (1, [.ref h1, .int 0, .int mb, .int (nI k)])), (h1, .inl (cB, m, .inl f)), (h2, .inr (0, [.null, .int 0, .int 0, .int 0]))] := hD
  refine lv_dup hx hb dJ4_toString_0e30d_3 rfl ?_
  refine lv_aload_n hx hb dJ4_toString_0e30d_4 rfl (lv_at hl 0 rfl) ?_
  have hPc := hP.sub (ws' := [(h2, .inr (0, [.null, .int 0, .int 0, .int 0])), (h0, .inr (1, [.ref h1, .int 0, .int mb, .int (nI k)])), (h1, .inl (cB, m, .inl f))]) [2, 0, 1] rfl
  have hDc := hD.sub (ws' := [(h2, .inr (0, [.null, .int 0, .int 0, .int 0])), (h0, .inr (1, [.ref h1, .int 0, .int mb, .int (nI k)])), (h1, .inl (cB, m, .inl f))]) [2, 0, 1] (by decide) rfl
  have hFc := va_free (wc := [(h2, .inr (0, [.null, .int 0, .int 0, .int 0])), (h0, .inr (1, [.ref h1, .int 0, .int mb, .int (nI k)])), (h1, .inl (cB, m, .inl f))]) hD hS hA [2, 0, 1] rfl
  refine va_callv (va_runI (As := [.ref h0]) (rest := [.ref h2]) C (t_strInit1 l D cB h2 h0 h1 m k mb f H.size hkm hm hf) (cwI 1 hts (sy_goodI kw_753) rfl rfl rfl (htA _ kw_704) (htA _ kw_751) (htA _ kw_752) rfl (by decide +kernel) ⟨Nat.le_of_ble_eq_true rfl, Nat.le_of_ble_eq_true rfl⟩) ⟨pK_blind, fun U hU hW => ⟨rfl, va_Nw.warmC hW hcl, by rw [hU], by rw [hU]; exact hPc, va_K.moved hW.alike hK, hDc.weaken (fun _ _ _ _ => trivial), by rw [hU]; exact va_Z.moved hW.alike (va_Z.narrow (va_Z.kept hZ (fun a ha hn => hS.2.1 a ha hn)) (fun q h => hFc q h))⟩⟩ rfl rfl hl.1 rfl (lv_room (Nat.le_of_ble_eq_true rfl)) dJ4_toString_0e30d_5 ⟨Nat.le_refl _, (show 0 + 4 + k ≤ 4 + k by omega)⟩) hS (fun q _ h => hFc q h) hFc (fun u t H1 locs ht hvm hw hB hz1 hk1 hS => ?_)
  obtain ⟨a2, f2⟩ := u
  obtain ⟨hP1, hD1⟩ := hB
  rw [ht] at hP1
  have hP : va_P D vwCl [(h2, .inr (0, [.ref a2, .int 0, .int 0, .int 0])), (h0, .inr (1, [.ref h1, .int 0, .int mb, .int (nI k)])), (h1, .inl (cB, m, .inl f)), (a2, .inl (cB, k, .inl f2))] H1 := hP1
  have hD : va_D A [(h2, .inr (0, [.ref a2, .int 0, .int 0, .int 0])), (h0, .inr (1, [.ref h1, .int 0, .int mb, .int (nI k)])), (h1, .inl (cB, m, .inl f)), (a2, .inl (cB, k, .inl f2))] := hD1.weaken (fun _ q _ h => hFc q.1 h)
  generalize H1 = H at hP hS ⊢
  refine W.widen (k := 2) (n := 4 + k) (Nat.le_refl _) (show 0 + 4 + k ≤ 4 + k by omega) ?_
  exact W.aret hx hb hr (Or.inl ⟨_, rfl⟩) (Or.inr ⟨_, rfl⟩) (fun t ht hW => ⟨⟨(a2, f2), _, rfl, hw, by rw [ht]; exact hP, hD⟩, hS.F ht⟩) hS.2.2 dJ4_toString_0e30d_8 hlk
theorem hdT_J0_coder_7d493 : yJ0_coder_7d493.cls = yJ0_coder_7d493.cls ∧ yJ0_coder_7d493.cls ≠ "java/lang/invoke/MethodHandle" ∧ yJ0_coder_7d493.cls ≠ "java/lang/invoke/VarHandle" ∧ (parseMethodDescriptor yJ0_coder_7d493.desc).map (fun d => d.parameters.length) = some 0 := by decide +kernel
set_option maxHeartbeats 4000000 in
set_option maxRecDepth 100000 in
theorem t_coder (l : Launch) (D : va_G) (cB : ClassId) (h2 b1 : Nat)  : Met l yJ0_coder_7d493 (wM yJ0_coder_7d493 cJ0_coder_7d493 1 (some .byte)) ({ frames := 0, cells := 0, slots := 0, locals := 0 }) (va_Pc [.ref h2] (pR D cB [(h2, .inr (0, [.ref b1, .int 0, .int 0, .int 0]))])) (QcRead 0) 0 0 noA := by
  refine Met.ofW (cc := cJ0_coder_7d493) (maxL := 1) (ret := (some .byte)) (by decide) rfl ?_
  intro p e s mth args below meth c s₁ B hml hv
  obtain ⟨rfl, hP, hK, hZ⟩ := hv
  have hx := B.exec
  have hb := B.bytes
  have hr := B.returns
  have hts := atoms_spec (ws := wM yJ0_coder_7d493 cJ0_coder_7d493 1 (some .byte)) B.pre
  have hown : s.vm.findClass RJ0 = some mth.cls := findClass_of_methodNamed B.named
  have hlk := B.notSynchronized
  have htA : ∀ w ∈ wA, w.before _ s = true := fun w h => hts w (List.mem_cons_of_mem _ h)
  have hS : va_S noA s.heap s.heap [] := va_S.rf
  have hl := lv_entry ([.ref h2]) (n := 1) (Nat.le_of_ble_eq_true rfl)
  rw [lg_entry_eq]
  generalize (lg_sl ([.ref h2]) ++ List.replicate (1 - (lg_sl ([.ref h2])).length) Slot.unset).toArray = ls at hl ⊢
  have hl : lv_has ls 1 [(0, .ref h2)] := hl
  have C : CallFix p mth c cJ0_coder_7d493 1 s ([.ref h2] : List Value).toArray (wM yJ0_coder_7d493 cJ0_coder_7d493 1 (some .byte)) RJ0 := ⟨hx, hb, hml, hown, hts⟩
  refine va_gets hx hb hZ hS hown (htA _ kw_760) (fun _ h9 => h9) dJ0_coder_7d493_0 ?_
  refine lv_if_eq (tgt := 13) hx hb dJ0_coder_7d493_3 (by decide) (fun c_3 => absurd c_3 (by decide)) (fun c_3 => ?_)
  refine lv_aload_n hx hb dJ0_coder_7d493_6 rfl (lv_at hl 0 rfl) ?_
  refine va_get (D := D) (ci := 0) (v := .int 0) (C := RJ0) (T := TJ0) (N := 4) hx hb htA iA_J0 hown hK hP 0 rfl rfl 1 (by decide) (htA _ kw_758) (fun _ h9 => h9) rfl dJ0_coder_7d493_7 ?_
  refine lv_goto (tgt := 14) hx hb dJ0_coder_7d493_10 (by decide) ?_
  exact W.zret hx hb hr rfl (fun t ht _ => ⟨rfl, ht⟩) (fun _ h => by cases h) dJ0_coder_7d493_14 hlk
theorem hdT_J0_length_8abf5 : yJ0_length_8abf5.cls = yJ0_length_8abf5.cls ∧ yJ0_length_8abf5.cls ≠ "java/lang/invoke/MethodHandle" ∧ yJ0_length_8abf5.cls ≠ "java/lang/invoke/VarHandle" ∧ (parseMethodDescriptor yJ0_length_8abf5.desc).map (fun d => d.parameters.length) = some 0 := by decide +kernel
set_option maxHeartbeats 4000000 in
set_option maxRecDepth 100000 in
theorem t_strlen (l : Launch) (D : va_G) (cB : ClassId) (h2 b1 k : Nat) (f : Nat → Int32)  : Met l yJ0_length_8abf5 (wM yJ0_length_8abf5 cJ0_length_8abf5 1 (some .int)) ({ frames := 1, cells := 0, slots := 0, locals := 30 }) (va_Pc [.ref h2] (pR D cB [(h2, .inr (0, [.ref b1, .int 0, .int 0, .int 0])), (b1, .inl (cB, k, .inl f))])) (QcRead (nI k)) 0 0 noA := by
  refine Met.ofW (cc := cJ0_length_8abf5) (maxL := 1) (ret := (some .int)) (by decide) rfl ?_
  intro p e s mth args below meth c s₁ B hml hv
  obtain ⟨rfl, hP, hK, hZ⟩ := hv
  have hx := B.exec
  have hb := B.bytes
  have hr := B.returns
  have hts := atoms_spec (ws := wM yJ0_length_8abf5 cJ0_length_8abf5 1 (some .int)) B.pre
  have hown : s.vm.findClass RJ0 = some mth.cls := findClass_of_methodNamed B.named
  have hlk := B.notSynchronized
  have htA : ∀ w ∈ wA, w.before _ s = true := fun w h => hts w (List.mem_cons_of_mem _ h)
  have hS : va_S noA s.heap s.heap [] := va_S.rf
  have hl := lv_entry ([.ref h2]) (n := 1) (Nat.le_of_ble_eq_true rfl)
  rw [lg_entry_eq]
  generalize (lg_sl ([.ref h2]) ++ List.replicate (1 - (lg_sl ([.ref h2])).length) Slot.unset).toArray = ls at hl ⊢
  have hl : lv_has ls 1 [(0, .ref h2)] := hl
  have C : CallFix p mth c cJ0_length_8abf5 1 s ([.ref h2] : List Value).toArray (wM yJ0_length_8abf5 cJ0_length_8abf5 1 (some .int)) RJ0 := ⟨hx, hb, hml, hown, hts⟩
  refine lv_aload_n hx hb dJ0_length_8abf5_0 rfl (lv_at hl 0 rfl) ?_
  refine va_get (D := D) (ci := 0) (v := .ref b1) (C := RJ0) (T := TJ0) (N := 4) hx hb htA iA_J0 hown hK hP 0 rfl rfl 0 (by decide) (htA _ kw_759) (fun _ h9 => h9) rfl dJ0_length_8abf5_1 ?_
  refine va_alen hx hb hK hP 1 0 rfl rfl (v := nI k) rfl dJ0_length_8abf5_4 ?_
  refine lv_aload_n hx hb dJ0_length_8abf5_5 rfl (lv_at hl 0 rfl) ?_
  have hPc := hP.sub (ws' := [(h2, .inr (0, [.ref b1, .int 0, .int 0, .int 0]))]) [0] rfl
  refine W.callR (va_Run.run (va_runV (As := []) (rest := [.int (nI k)]) C (t_coder l D cB h2 b1) (cwV 0 hts (sy_goodV kw_797 kw_798 kw_799 kw_704 kw_800) rfl rfl rfl hdT_J0_coder_7d493 ⟨Nat.le_of_ble_eq_true rfl, Nat.le_of_ble_eq_true rfl⟩) ⟨pR_blind, va_recv hK hP (ci := 0) (q0 := 0) rfl rfl, fun U hU hW => ⟨rfl, by rw [hU]; exact hPc, va_K.moved hW.alike hK, by rw [hU]; exact va_Z.moved hW.alike hZ⟩⟩ rfl rfl hl.1 rfl (lv_room (Nat.le_of_ble_eq_true rfl)) dJ0_length_8abf5_6 ⟨Nat.zero_le _, Nat.zero_le _⟩)) ?_
  refine W.eq (g2 := F0 mth 9 ls [.int 0, .int (nI k)]) rfl ?_
  refine lv_ishr hx hb dJ0_length_8abf5_9 ?_
  rw [sb_shr0]
  exact W.iret hx hb hr (fun t ht _ => ⟨rfl, ht⟩) (fun _ h => by cases h) dJ0_length_8abf5_10 hlk

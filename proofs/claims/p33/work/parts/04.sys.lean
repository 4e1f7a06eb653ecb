/-! THE SYSTEM: its state as numbers and rows of numbers in four parts (the form, the rules, the piece, the survey's notes), its cells as one list, and what a contract says of it -/
abbrev Sg : Type := (Nat → Int32) × (Nat → Nat → Int32)
def si (σ : Sg) (k : Nat) (v : Int32) : Sg := (upd σ.1 k v, σ.2)
def saf (σ : Sg) (k : Nat) (f : Nat → Int32) : Sg := (σ.1, fun j => if j = k then f else σ.2 j)
def sa (σ : Sg) (k i : Nat) (v : Int32) : Sg := saf σ k (upd (σ.2 k) i v)
/-- the cells: 0 Grainwright, 1 Shape, 2 Rules, 3 Piece, 4 Survey, 5 and 6 its Grains; 7, 8 the form's rows; 9, 10 the rules'; 11 to 13 the piece's; 14 to 18, 19 to 23 the Grains'; 24 met -/
def wS (cA : ClassId) (ad : Nat → Nat) (τ ρ π γ : Sg) : va_W := [
  (ad 0, .inr (9, [.ref (ad 1), .ref (ad 2), .ref (ad 3), .ref (ad 25), .ref (ad 4), .ref (ad 26), .ref (ad 27)])),
  (ad 1, .inr (7, [.int (τ.1 0), .int (τ.1 1), .int (τ.1 2), .ref (ad 7), .ref (ad 8)])),
  (ad 2, .inr (6, [.ref (ad 9), .ref (ad 10), .int (ρ.1 0)])),
  (ad 3, .inr (5, [.ref (ad 1), .ref (ad 2), .ref (ad 11), .ref (ad 12), .ref (ad 13), .int (π.1 0), .int (π.1 1)])),
  (ad 4, .inr (8, [.ref (ad 1), .ref (ad 2), .ref (ad 5), .ref (ad 6), .ref (ad 24), .ref (ad 3)])),
  (ad 5, .inr (4, [.ref (ad 1), .ref (ad 2), .ref (ad 14), .ref (ad 15), .ref (ad 16), .ref (ad 17), .ref (ad 18), .int (γ.1 0)])),
  (ad 6, .inr (4, [.ref (ad 1), .ref (ad 2), .ref (ad 19), .ref (ad 20), .ref (ad 21), .ref (ad 22), .ref (ad 23), .int (γ.1 1)])),
  (ad 7, .inl (cA, 256, .inl (τ.2 0))),
  (ad 8, .inl (cA, 64, .inl (τ.2 1))),
  (ad 9, .inl (cA, 100, .inl (ρ.2 0))),
  (ad 10, .inl (cA, 10, .inl (ρ.2 1))),
  (ad 11, .inl (cA, 64, .inl (π.2 0))),
  (ad 12, .inl (cA, 64, .inl (π.2 1))),
  (ad 13, .inl (cA, 64, .inl (π.2 2))),
  (ad 14, .inl (cA, 64, .inl (γ.2 0))),
  (ad 15, .inl (cA, 64, .inl (γ.2 1))),
  (ad 16, .inl (cA, 64, .inl (γ.2 2))),
  (ad 17, .inl (cA, 64, .inl (γ.2 3))),
  (ad 18, .inl (cA, 64, .inl (γ.2 4))),
  (ad 19, .inl (cA, 64, .inl (γ.2 5))),
  (ad 20, .inl (cA, 64, .inl (γ.2 6))),
  (ad 21, .inl (cA, 64, .inl (γ.2 7))),
  (ad 22, .inl (cA, 64, .inl (γ.2 8))),
  (ad 23, .inl (cA, 64, .inl (γ.2 9))),
  (ad 24, .inl (cA, 64, .inl (γ.2 10)))]
theorem wS_map (cA : ClassId) (ad : Nat → Nat) (τ ρ π γ : Sg) : (wS cA ad τ ρ π γ).map (·.1) = (List.range 25).map ad := rfl
theorem wS_adr {cA : ClassId} {ad : Nat → Nat} {τ ρ π γ : Sg} {i : Nat} {q : Nat × va_E} (h : (wS cA ad τ ρ π γ)[i]? = some q) : i < 25 ∧ q.1 = ad i := by
  have h1 : ((wS cA ad τ ρ π γ).map (·.1))[i]? = some q.1 := by rw [List.getElem?_map, h]; rfl
  rw [wS_map, List.getElem?_map] at h1
  by_cases hi : i < 25
  · rw [List.getElem?_range hi] at h1
    exact ⟨hi, (Option.some.inj h1).symm⟩
  · rw [List.getElem?_eq_none (by simpa using hi)] at h1
    cases h1
/-- the addresses are apart -/
def Apart (ad : Nat → Nat) : Prop := ∀ i j : Nat, i < 25 → j < 25 → ad i = ad j → i = j
/-- the system's own addresses -/
def aS (ad : Nat → Nat) : Nat → Prop := fun q => ∃ k, k < 25 ∧ q = ad k
theorem wS_D {cA : ClassId} {ad : Nat → Nat} (had : Apart ad) (τ ρ π γ : Sg) {A : Nat → Prop} (hA : ∀ q, aS ad q → A q) : va_D A (wS cA ad τ ρ π γ) := by
  refine ⟨fun i j p q h1 h2 e => ?_, fun k q h => ?_⟩
  · obtain ⟨a1, a2⟩ := wS_adr h1
    obtain ⟨b1, b2⟩ := wS_adr h2
    exact had i j a1 b1 (by rw [← a2, ← b2]; exact e)
  · obtain ⟨a1, a2⟩ := wS_adr h
    exact hA _ ⟨k, a1, a2⟩
/-- the form is one that the code keeps: at most 64 cells, at most 4 neighbours -/
def Ok (τ : Sg) : Prop := 0 ≤ τ.1 2 ∧ τ.1 2 ≤ 64 ∧ ∀ k : Nat, k < 64 → 0 ≤ τ.2 1 k ∧ τ.2 1 k ≤ 4
/-- what a method finds -/
def pS (D : va_G) (cA : ClassId) (ad : Nat → Nat) (τ ρ π γ : Sg) (U : State) : Prop := va_P D vwCl (wS cA ad τ ρ π γ) U.heap ∧ va_K D vwCl [(cA, .int)] U
/-- what a method that writes leaves: an answer and a state -/
def qV (D : va_G) (cA : ClassId) (ad : Nat → Nat) (τ ρ π γ : Sg) (r : Option Value) : Array Value → State → Outcome → State → Prop := fun _ st o t => o = .returned r ∧ va_P D vwCl (wS cA ad τ ρ π γ) t.heap ∧ va_F (aS ad) st t
def noA : Nat → Prop := fun _ => False
theorem pS_blind {D : va_G} {cA : ClassId} {ad : Nat → Nat} {τ ρ π γ : Sg} {As : List Value} : FrameBlind (va_Pc As (pS D cA ad τ ρ π γ)) := fun a U g mk q => by
  obtain ⟨q0, qP, qK⟩ := q
  exact ⟨q0, qP, va_K.moved (u := U) (U := U.calling g mk a) (Vm.Alike.refl U.vm) qK⟩
theorem wA_ok {w : Cond} (h : w ∈ wA) : goodWord w = true := List.all_eq_true.mp wA_good w h
/-- a contract of the system: its words are its code and the one list -/
abbrev wM (y : MethodName) (cc : ByteArray) (n : Nat) (ret : Option FieldType) : List Cond := Cond.code y cc n ret :: wA
theorem sy_goodV {own : String} {index : Nat} {y y0 : MethodName} {cc0 bytes : ByteArray} {n0 maxL : Nat} {r0 ret : Option FieldType} (k1 : Cond.methodLink own index y ∈ wA) (k2 : Cond.instanceMethod y ∈ wA) (k3 : Cond.selects y.cls y y ∈ wA) (k4 : Cond.initialized y.cls ∈ wA) (k5 : Cond.code y bytes maxL ret ∈ wA) : GoodIn (wM y0 cc0 n0 r0) (wsV own index y.cls y (wM y bytes maxL ret)) := by
  intro w hw
  have h : w ∈ wA := by
    rcases List.mem_append.mp hw with h | h
    · simp only [List.mem_cons, List.not_mem_nil, or_false] at h
      rcases h with rfl | rfl | rfl | rfl <;> assumption
    · rcases List.mem_cons.mp h with rfl | h
      · exact k5
      · exact h
  exact ⟨List.mem_cons_of_mem _ h, good_of_word (wA_ok h)⟩
theorem sy_goodS {own : String} {index : Nat} {y y0 : MethodName} {cc0 bytes : ByteArray} {n0 maxL : Nat} {r0 ret : Option FieldType} (k1 : Cond.methodLink own index y ∈ wA) (k2 : Cond.static y ∈ wA) (k3 : Cond.initialized own ∈ wA) (k5 : Cond.code y bytes maxL ret ∈ wA) : GoodIn (wM y0 cc0 n0 r0) (wsS own index y (wM y bytes maxL ret)) := by
  intro w hw
  have h : w ∈ wA := by
    rcases List.mem_append.mp hw with h | h
    · simp only [List.mem_cons, List.not_mem_nil, or_false] at h
      rcases h with rfl | rfl | rfl <;> assumption
    · rcases List.mem_cons.mp h with rfl | h
      · exact k5
      · exact h
  exact ⟨List.mem_cons_of_mem _ h, good_of_word (wA_ok h)⟩
theorem vin_lt {i : Int32} {n : Nat} {k : Int32} (h1 : ¬ i < 0) (h2 : i < k) (hk : k.toInt ≤ (n : Int)) : vp_in i n := by
  rw [Int32.lt_iff_toInt_lt] at h1 h2
  rw [Int32.toInt_zero] at h1
  intro h
  rcases h with h | h
  · rw [Int32.lt_iff_toInt_lt, Int32.toInt_zero] at h
    exact h1 h
  · have h3 : i.toNatClampNeg = i.toInt.toNat := rfl
    omega
theorem Ok_cells {τ : Sg} (h : Ok τ) : (τ.1 2).toInt ≤ ((64 : Nat) : Int) := by
  have h1 := h.2.1
  rw [Int32.le_iff_toInt_le] at h1
  exact h1
theorem ne_pos {y : Int32} (h : 0 < y) : ¬ y = 0 := fun e => by
  rw [e] at h
  exact absurd h (by decide)
theorem i1_toInt : (1 : Int32).toInt = 1 := by decide
theorem toInt_succ {x b : Int32} (h : x < b) : (x + 1).toInt = x.toInt + 1 := by
  rw [Int32.lt_iff_toInt_lt] at h
  have h1 := Int32.toInt_lt b
  have h2 := Int32.le_toInt x
  rw [Int32.toInt_add, i1_toInt]
  exact Int.bmod_eq_of_le (by omega) (by omega)
/-- the measure of a loop that counts up to a bound -/
def nm (i b : Int32) : Nat := (b.toInt - i.toInt).toNat
theorem nm_lt (i b : Int32) : nm i b < 4294967296 := by
  have h1 := Int32.toInt_lt b
  have h2 := Int32.le_toInt i
  unfold nm
  omega
theorem nm_dec {x b : Int32} {n : Nat} (h : x < b) (hn : nm x b < n + 1) : nm (x + 1) b < n := by
  have e := toInt_succ h
  rw [Int32.lt_iff_toInt_lt] at h
  unfold nm at hn ⊢
  omega
theorem clamp_toInt (i : Int32) : i.toNatClampNeg = i.toInt.toNat := rfl
theorem not_neg {i : Int32} (h : ¬ i < 0) : 0 ≤ i.toInt := by
  rw [Int32.lt_iff_toInt_lt, Int32.toInt_zero] at h
  omega
theorem mul_add_toInt {x y w : Int32} (h1 : 0 ≤ x.toInt) (h2 : x.toInt ≤ 64) (h3 : 0 ≤ y.toInt) (h4 : y.toInt ≤ 64) (h5 : 0 ≤ w.toInt) (h6 : w.toInt ≤ 64) : (x * w + y).toInt = x.toInt * w.toInt + y.toInt := by
  have h7 : x.toInt * w.toInt ≤ 64 * 64 := Int.mul_le_mul h2 h6 h5 (by decide)
  have h8 : 0 ≤ x.toInt * w.toInt := Int.mul_nonneg h1 h5
  have e : (x * w).toInt = x.toInt * w.toInt := by
    rw [Int32.toInt_mul]
    exact Int.bmod_eq_of_le (by omega) (by omega)
  rw [Int32.toInt_add, e]
  exact Int.bmod_eq_of_le (by omega) (by omega)
theorem vin_of_toInt {i : Int32} {n : Nat} (h1 : 0 ≤ i.toInt) (h2 : i.toInt < (n : Int)) : vp_in i n := by
  intro h
  rcases h with h | h
  · rw [Int32.lt_iff_toInt_lt, Int32.toInt_zero] at h
    omega
  · rw [clamp_toInt] at h
    omega
theorem vin_besides {τ : Sg} {x y : Int32} (h1 : ¬ x < 0) (h2 : ¬ τ.1 2 ≤ x) (h3 : ¬ y < 0) (h4 : y < τ.2 1 x.toNatClampNeg) (hT : Ok τ) : vp_in (x * 4 + y) 256 := by
  have a1 := not_neg h1
  have a3 := not_neg h3
  rw [Int32.le_iff_toInt_le] at h2
  have a2 := Ok_cells hT
  have a4 := (hT.2.2 x.toNatClampNeg (by rw [clamp_toInt]; omega)).2
  rw [Int32.lt_iff_toInt_lt] at h4
  rw [Int32.le_iff_toInt_le] at a4
  have e4 : (4 : Int32).toInt = 4 := by decide
  rw [e4] at a4
  have e := mul_add_toInt (x := x) (y := y) (w := 4) a1 (by omega) a3 (by omega) (by decide) (by decide)
  rw [e4] at e
  exact vin_of_toInt (by omega) (by omega)
theorem vin_misfit {x y : Int32} (h1 : ¬ x < 0) (h2 : ¬ 9 < x) (h3 : ¬ y < 0) (h4 : ¬ 9 < y) : vp_in (x * 10 + y) 100 := by
  have a1 := not_neg h1
  have a3 := not_neg h3
  rw [Int32.lt_iff_toInt_lt] at h2 h4
  have e9 : (9 : Int32).toInt = 9 := by decide
  have e4 : (10 : Int32).toInt = 10 := by decide
  rw [e9] at h2 h4
  have e := mul_add_toInt (x := x) (y := y) (w := 10) a1 (by omega) a3 (by omega) (by decide) (by decide)
  rw [e4] at e
  exact vin_of_toInt (by omega) (by omega)
section SYS
variable {p : Program} {l : Launch} {e : Env} {R : Room} {s : State} {m : MethodId} {args : Array Value} {below : List Frame} {meth : Method} {c : Code} {H : Heap} {locs : List Loc} {cells slots : Nat} {Q : State → Prop}
variable {cc : ByteArray} {pc : Nat} {ls : Array Slot} {rest : List Value}
variable {D : va_G} {cA : ClassId} {ad : Nat → Nat} {τ ρ π γ : Sg}
/-- the entry of a method's body -/
theorem sy_of {y : MethodName} {maxL : Nat} {ret : Option FieldType} {rm : Room} {As : List Value} {Qc : Array Value → State → Outcome → State → Prop} {mc ms : Nat} {free : Addr → Prop} (hy : plainName y.cls = true) (hn : (lg_sl As).length ≤ maxL)
    (body : ∀ (p : Program) (e : Env) (s : State) (m : MethodId) (below : List Frame) (meth : Method) (c : Code) (ls : Array Slot), CallFix p m c cc maxL s As.toArray (wM y cc maxL ret) y.cls → meth.sig.returnType = ret → meth.locks = false → va_K D vwCl [(cA, .int)] s → va_P D vwCl (wS cA ad τ ρ π γ) s.heap → lv_has ls maxL (lv_args 0 As) →
      W p l e rm s m As.toArray below meth c s.heap [] 0 0 (MQ below Qc As.toArray s mc ms free) (F0 m 0 ls [])) : Met l y (wM y cc maxL ret) rm (va_Pc As (pS D cA ad τ ρ π γ)) Qc mc ms free := by
  refine Met.ofW (cc := cc) (maxL := maxL) (ret := ret) hy rfl ?_
  intro p e s m args below meth c s₁ B hml hv
  obtain ⟨rfl, hP, hK⟩ := hv
  have hl := lv_entry As (n := maxL) hn
  rw [lg_entry_eq]
  exact body p e s m below meth c _ ⟨B.exec, B.bytes, hml, findClass_of_methodNamed B.named, atoms_spec (ws := wM y cc maxL ret) B.pre⟩ B.returns B.notSynchronized hK hP hl
/-- an int of a row is read, is written -/
theorem sy_iald (hx : p.tables.exec = Jvm.exec) (hb : c.code = cc) (hK : va_K D vwCl [(cA, .int)] s) (hP : va_P D vwCl (wS cA ad τ ρ π γ) H) (q : Nat) {a n : Nat} {f : Nat → Int32} (hk : (wS cA ad τ ρ π γ)[q]? = some (a, .inl (cA, n, .inl f))) {i : Int32} (hin : vp_in i n) (hd : decode cc pc = .ok (.iaload, 1))
    (kk : W p l e R s m args below meth c H locs cells slots Q (F0 m (pc + 1) ls (.int (f i.toNatClampNeg) :: rest))) : W p l e R s m args below meth c H locs cells slots Q (F0 m pc ls (.int i :: .ref a :: rest)) :=
  va_iald hx hb hK hP q 0 hk rfl hin hd kk
theorem sy_iast {τ' ρ' π' γ' : Sg} {A : Nat → Prop} {H0 : Heap} (hx : p.tables.exec = Jvm.exec) (hb : c.code = cc) (hK : va_K D vwCl [(cA, .int)] s) (hP : va_P D vwCl (wS cA ad τ ρ π γ) H) (had : Apart ad) (hA : ∀ q, aS ad q → A q) (hS : va_S A H0 H locs) (q : Nat) {a n : Nat} {f : Nat → Int32} (hk : (wS cA ad τ ρ π γ)[q]? = some (a, .inl (cA, n, .inl f))) {i x : Int32} (hset : (wS cA ad τ ρ π γ).set q (a, .inl (cA, n, .inl (upd f i.toNatClampNeg x))) = wS cA ad τ' ρ' π' γ') (hin : vp_in i n) (hd : decode cc pc = .ok (.iastore, 1))
    (kk : ∀ (H1 : Heap) (locs1 : List Loc), va_P D vwCl (wS cA ad τ' ρ' π' γ') H1 → va_S A H0 H1 locs1 → W p l e R s m args below meth c H1 locs1 cells slots Q (F0 m (pc + 1) ls rest)) : W p l e R s m args below meth c H locs cells slots Q (F0 m pc ls (.int x :: .int i :: .ref a :: rest)) :=
  va_iast hx hb hK hP (wS_D had τ ρ π γ hA) hS q 0 hk rfl hin hd (fun H1 locs1 h1 _ h3 => kk H1 locs1 (by rw [← hset]; exact h1) h3)
/-- a call of a method of the system that writes nothing and answers an int -/
theorem sy_cv {own : String} {index : Nat} {y y0 : MethodName} {bytes : ByteArray} {n0 maxL n N : Nat} {r0 ret : Option FieldType} {rm : Room} {As : List Value} {T : u_T} {b : Nat} {fs : List Value} {r : Int32} (S : CallFix p m c cc n0 s args (wM y0 cc n0 r0) own) (hK : va_K D vwCl [(cA, .int)] s) (hP : va_P D vwCl (wS cA ad τ ρ π γ) H)
    (hM : Met l y (wM y bytes maxL ret) rm (va_Pc (.ref b :: As) (pS D cA ad τ ρ π γ)) (QcRead r) 0 0 noA) (q0 ci : Nat) (he : (wS cA ad τ ρ π γ)[q0]? = some (b, .inr (ci, fs))) (hc : vwCl[ci]? = some (y.cls, T, N))
    (k1 : Cond.methodLink own index y ∈ wA) (k2 : Cond.instanceMethod y ∈ wA) (k3 : Cond.selects y.cls y y ∈ wA) (k4 : Cond.initialized y.cls ∈ wA) (k5 : Cond.code y bytes maxL ret ∈ wA)
    (hd : y.cls = y.cls ∧ y.cls ≠ "java/lang/invoke/MethodHandle" ∧ y.cls ≠ "java/lang/invoke/VarHandle" ∧ (parseMethodDescriptor y.desc).map (fun d => d.parameters.length) = some n) (hR : rm.frames + 1 ≤ R.frames ∧ 8 + (maxL + 11) + rm.locals ≤ R.locals) (hrc : rm.cells = 0) (hrs : rm.slots = 0)
    (hn : As.length = n) (hsz : ls.size = n0) {st0 : List Value} (hst : st0 = As.reverse ++ .ref b :: rest) (hW : (rest.map fun v => v.category).sum ≤ 8) (hdg : decode cc pc = .ok (.invokevirtual index, 3)) (hf : cells ≤ R.cells ∧ slots ≤ R.slots)
    (kk : W p l e R s m args below meth c H locs cells slots Q (F0 m (pc + 3) ls (.int r :: rest))) : W p l e R s m args below meth c H locs cells slots Q (F0 m pc ls st0) :=
  W.callR (W.runV (As := As) (rest := rest) S hM (cwV n S.2.2.2.2 (sy_goodV k1 k2 k3 k4 k5) rfl hrc hrs hd hR) ⟨pS_blind, va_recv hK hP hc he, fun U hU hW => ⟨rfl, by rw [hU]; exact hP, va_K.moved hW.alike hK⟩⟩ rfl hn hsz hst (lv_room hW) hdg ⟨hf.1, hf.2⟩) kk
/-- a call of a method of the system that writes -/
theorem sy_cvM {own : String} {index : Nat} {y y0 : MethodName} {bytes : ByteArray} {n0 maxL n N : Nat} {r0 ret : Option FieldType} {rm : Room} {As : List Value} {T : u_T} {b : Nat} {fs : List Value} {r : Option Value} {τ' ρ' π' γ' : Sg} {A : Nat → Prop} {H0 : Heap} (S : CallFix p m c cc n0 s args (wM y0 cc n0 r0) own) (hK : va_K D vwCl [(cA, .int)] s) (hP : va_P D vwCl (wS cA ad τ ρ π γ) H) (hA : ∀ q, aS ad q → A q) (hS : va_S A H0 H locs)
    (hM : Met l y (wM y bytes maxL ret) rm (va_Pc (.ref b :: As) (pS D cA ad τ ρ π γ)) (qV D cA ad τ' ρ' π' γ' r) 0 0 (aS ad)) (q0 ci : Nat) (he : (wS cA ad τ ρ π γ)[q0]? = some (b, .inr (ci, fs))) (hc : vwCl[ci]? = some (y.cls, T, N))
    (k1 : Cond.methodLink own index y ∈ wA) (k2 : Cond.instanceMethod y ∈ wA) (k3 : Cond.selects y.cls y y ∈ wA) (k4 : Cond.initialized y.cls ∈ wA) (k5 : Cond.code y bytes maxL ret ∈ wA)
    (hd : y.cls = y.cls ∧ y.cls ≠ "java/lang/invoke/MethodHandle" ∧ y.cls ≠ "java/lang/invoke/VarHandle" ∧ (parseMethodDescriptor y.desc).map (fun d => d.parameters.length) = some n) (hR : rm.frames + 1 ≤ R.frames ∧ 8 + (maxL + 11) + rm.locals ≤ R.locals) (hrc : rm.cells = 0) (hrs : rm.slots = 0)
    (hn : As.length = n) (hsz : ls.size = n0) {st0 : List Value} (hst : st0 = As.reverse ++ .ref b :: rest) (hW : (rest.map fun v => v.category).sum ≤ 8) (hdg : decode cc pc = .ok (.invokevirtual index, 3)) (hf : cells ≤ R.cells ∧ slots ≤ R.slots)
    {st1 : List Value} (hq : r.toList ++ rest = st1) (kk : ∀ (H1 : Heap) (locs1 : List Loc), va_P D vwCl (wS cA ad τ' ρ' π' γ') H1 → va_S A H0 H1 locs1 → W p l e R s m args below meth c H1 locs1 cells slots Q (F0 m (pc + 3) ls st1)) : W p l e R s m args below meth c H locs cells slots Q (F0 m pc ls st0) := by
  intro T hT X
  subst hq
  obtain ⟨v, st₀, t, T', L, h0, X', hL, e1, e2, ⟨hv, hp, hz, hk⟩, st⟩ := (va_runV (As := As) (rest := rest) (free := aS ad) (mc := 0) (ms := 0) (cells := cells) (slots := slots) (locs := locs) (H := H) (g := F0 m pc ls st0) S hM (cwV n S.2.2.2.2 (sy_goodV k1 k2 k3 k4 k5) rfl hrc hrs hd hR) ⟨pS_blind, va_recv hK hP hc he, fun U hU hW => ⟨rfl, by rw [hU]; exact hP, va_K.moved hW.alike hK⟩⟩ rfl hn hsz hst (lv_room hW) hdg ⟨hf.1, hf.2⟩) T hT X
  cases hv
  rw [h0] at hz hk
  obtain ⟨t2, a1, b1⟩ := kk T'.heap (locs ++ L) (by rw [e1]; exact hp)
    ⟨Nat.le_trans hS.1 (by rw [e1]; exact hz), fun q h1 h2 => by rw [e1, hk q (Nat.lt_of_lt_of_le h1 hS.1) (fun z => h2 (hA q z))]; exact hS.2.1 q h1 h2, fun q hq => by
      rcases List.mem_append.mp hq with h | h
      · exact hS.2.2 q h
      · exact hA _ (hL q h)⟩ T' rfl X'
  exact ⟨t2, st t2 a1, b1⟩
/-- the ends -/
theorem sy_ret {r v : Int32} (hx : p.tables.exec = Jvm.exec) (hb : c.code = cc) (hr : meth.sig.returnType = some .int) (hlk : meth.locks = false) (hv : v = r) (hd : decode cc pc = .ok (.ireturn, 1)) : W p l e R s m args below meth c s.heap [] 0 0 (MQ below (QcRead r) args s 0 0 noA) (F0 m pc ls [.int v]) := by
  subst hv
  exact W.iret hx hb hr (fun t ht _ => ⟨rfl, ht⟩) (fun _ h => by cases h) hd hlk
theorem sy_retZ {r v : Int32} {ty : FieldType} (hx : p.tables.exec = Jvm.exec) (hb : c.code = cc) (hr : meth.sig.returnType = some ty) (hlk : meth.locks = false) (hn : narrow ty (.int v) = .int v) (hv : v = r) (hd : decode cc pc = .ok (.ireturn, 1)) : W p l e R s m args below meth c s.heap [] 0 0 (MQ below (QcRead r) args s 0 0 noA) (F0 m pc ls [.int v]) := by
  subst hv
  exact W.zret hx hb hr hn (fun t ht _ => ⟨rfl, ht⟩) (fun _ h => by cases h) hd hlk
theorem sy_retL {r v : Int64} (hx : p.tables.exec = Jvm.exec) (hb : c.code = cc) (hr : meth.sig.returnType = some .long) (hlk : meth.locks = false) (hv : v = r) (hd : decode cc pc = .ok (.lreturn, 1)) : W p l e R s m args below meth c s.heap [] 0 0 (MQ below (fun _ st o t => o = .returned (some (.long r)) ∧ t.heap = st.heap) args s 0 0 noA) (F0 m pc ls [.long v]) := by
  subst hv
  exact W.lret hx hb hr (fun t ht _ => ⟨rfl, ht⟩) (fun _ h => by cases h) hd hlk
theorem sy_retV {τ' ρ' π' γ' : Sg} (hx : p.tables.exec = Jvm.exec) (hb : c.code = cc) (hr : meth.sig.returnType = none) (hlk : meth.locks = false) (hP : va_P D vwCl (wS cA ad τ ρ π γ) H) (hS : va_S (aS ad) s.heap H locs) (hw : wS cA ad τ ρ π γ = wS cA ad τ' ρ' π' γ') (hd : decode cc pc = .ok (.return_, 1)) : W p l e R s m args below meth c H locs 0 0 (MQ below (qV D cA ad τ' ρ' π' γ' none) args s 0 0 (aS ad)) (F0 m pc ls []) :=
  W.vret hx hb hr (fun t ht _ => ⟨rfl, by rw [ht, ← hw]; exact hP, hS.F ht⟩) hS.2.2 hd hlk
theorem sy_retVI {τ' ρ' π' γ' : Sg} {v r : Int32} {ty : FieldType} (hx : p.tables.exec = Jvm.exec) (hb : c.code = cc) (hr : meth.sig.returnType = some ty) (hlk : meth.locks = false) (hP : va_P D vwCl (wS cA ad τ ρ π γ) H) (hS : va_S (aS ad) s.heap H locs) (hn : narrow ty (.int v) = .int v) (hv : v = r) (hw : wS cA ad τ ρ π γ = wS cA ad τ' ρ' π' γ') (hd : decode cc pc = .ok (.ireturn, 1)) : W p l e R s m args below meth c H locs 0 0 (MQ below (qV D cA ad τ' ρ' π' γ' (some (.int r))) args s 0 0 (aS ad)) (F0 m pc ls [.int v]) := by
  subst hv
  exact W.zret hx hb hr hn (fun t ht _ => ⟨rfl, by rw [ht, ← hw]; exact hP, hS.F ht⟩) hS.2.2 hd hlk
/-- a static call of a method of the class that writes nothing and answers an int -/
theorem sy_cs {own : String} {index : Nat} {y y0 : MethodName} {bytes : ByteArray} {n0 maxL n : Nat} {r0 ret : Option FieldType} {rm : Room} {As : List Value} {r : Int32} (S : CallFix p m c cc n0 s args (wM y0 cc n0 r0) own) (hK : va_K D vwCl [(cA, .int)] s) (hP : va_P D vwCl (wS cA ad τ ρ π γ) H)
    (hM : Met l y (wM y bytes maxL ret) rm (va_Pc As (pS D cA ad τ ρ π γ)) (QcRead r) 0 0 noA)
    (k1 : Cond.methodLink own index y ∈ wA) (k2 : Cond.static y ∈ wA) (k3 : Cond.initialized own ∈ wA) (k5 : Cond.code y bytes maxL ret ∈ wA) (ho : y.cls = own)
    (hd : y.cls = y.cls ∧ y.cls ≠ "java/lang/invoke/MethodHandle" ∧ y.cls ≠ "java/lang/invoke/VarHandle" ∧ (parseMethodDescriptor y.desc).map (fun d => d.parameters.length) = some n) (hR : rm.frames + 1 ≤ R.frames ∧ 8 + (maxL + 11) + rm.locals ≤ R.locals) (hrc : rm.cells = 0) (hrs : rm.slots = 0)
    (hn : As.length = n) (hsz : ls.size = n0) {st0 : List Value} (hst : st0 = As.reverse ++ rest) (hW : (rest.map fun v => v.category).sum ≤ 8) (hdg : decode cc pc = .ok (.invokestatic index, 3)) (hf : cells ≤ R.cells ∧ slots ≤ R.slots)
    (kk : W p l e R s m args below meth c H locs cells slots Q (F0 m (pc + 3) ls (.int r :: rest))) : W p l e R s m args below meth c H locs cells slots Q (F0 m pc ls st0) :=
  W.callR (W.runS (As := As) (rest := rest) S hM (cwS n S.2.2.2.2 (sy_goodS k1 k2 k3 k5) rfl hrc hrs ⟨ho, hd.2⟩ hR) ⟨pS_blind, fun U hU hW => ⟨rfl, by rw [hU]; exact hP, va_K.moved hW.alike hK⟩⟩ rfl hn hsz hst (lv_room hW) hdg ⟨hf.1, hf.2⟩) kk
end SYS

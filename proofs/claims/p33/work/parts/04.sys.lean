/-! THE SYSTEM: its state as numbers and rows of numbers in four parts (the form, the rules, the piece, the survey's notes), its cells as one list, and what a contract says of it -/
abbrev Sg : Type := (Nat → Int32) × (Nat → Nat → Int32)
def si (σ : Sg) (k : Nat) (v : Int32) : Sg := (upd σ.1 k v, σ.2)
def saf (σ : Sg) (k : Nat) (f : Nat → Int32) : Sg := (σ.1, fun j => if j = k then f else σ.2 j)
def sa (σ : Sg) (k i : Nat) (v : Int32) : Sg := saf σ k (upd (σ.2 k) i v)
/-- the cells: 0 Grainwright, 1 Shape, 2 Rules, 3 Piece, 4 Survey, 5 and 6 its Grains; 7, 8 the form's rows; 9, 10 the rules'; 11 to 13 the piece's; 14 to 18, 19 to 23 the Grains'; 24 met -/
def wS (cA : ClassId) (ad : Nat → Nat) (τ ρ π γ : Sg) : va_W := [
  (ad 0, .inr (9, [.ref (ad 1), .ref (ad 2), .ref (ad 3), .ref (ad 25), .ref (ad 4), .ref (ad 26), .ref (ad 27)])),
  (ad 1, .inr (7, [.int (τ.1 0), .int (τ.1 1), .int (τ.1 2), .ref (ad 7), .ref (ad 8)])),
  (ad 2, .inr (6, [.ref (ad 9), .ref (ad 10), .int (ρ.1 0)])),
  (ad 3, .inr (5, [.ref (ad 1), .ref (ad 2), .ref (ad 11), .ref (ad 12), .ref (ad 13), .int (π.1 0), .int (π.1 1)])),
  (ad 4, .inr (8, [.ref (ad 1), .ref (ad 2), .ref (ad 5), .ref (ad 6), .ref (ad 24), .ref (ad 3)])),
  (ad 5, .inr (4, [.ref (ad 1), .ref (ad 2), .ref (ad 14), .ref (ad 15), .ref (ad 16), .ref (ad 17), .ref (ad 18), .int (γ.1 0)])),
  (ad 6, .inr (4, [.ref (ad 1), .ref (ad 2), .ref (ad 19), .ref (ad 20), .ref (ad 21), .ref (ad 22), .ref (ad 23), .int (γ.1 1)])),
  (ad 7, .inl (cA, 256, .inl (τ.2 0))),
  (ad 8, .inl (cA, 64, .inl (τ.2 1))),
  (ad 9, .inl (cA, 100, .inl (ρ.2 0))),
  (ad 10, .inl (cA, 10, .inl (ρ.2 1))),
  (ad 11, .inl (cA, 64, .inl (π.2 0))),
  (ad 12, .inl (cA, 64, .inl (π.2 1))),
  (ad 13, .inl (cA, 64, .inl (π.2 2))),
  (ad 14, .inl (cA, 64, .inl (γ.2 0))),
  (ad 15, .inl (cA, 64, .inl (γ.2 1))),
  (ad 16, .inl (cA, 64, .inl (γ.2 2))),
  (ad 17, .inl (cA, 64, .inl (γ.2 3))),
  (ad 18, .inl (cA, 64, .inl (γ.2 4))),
  (ad 19, .inl (cA, 64, .inl (γ.2 5))),
  (ad 20, .inl (cA, 64, .inl (γ.2 6))),
  (ad 21, .inl (cA, 64, .inl (γ.2 7))),
  (ad 22, .inl (cA, 64, .inl (γ.2 8))),
  (ad 23, .inl (cA, 64, .inl (γ.2 9))),
  (ad 24, .inl (cA, 64, .inl (γ.2 10)))]
theorem wS_map (cA : ClassId) (ad : Nat → Nat) (τ ρ π γ : Sg) : (wS cA ad τ ρ π γ).map (·.1) = (List.range 25).map ad := rfl
theorem wS_adr {cA : ClassId} {ad : Nat → Nat} {τ ρ π γ : Sg} {i : Nat} {q : Nat × va_E} (h : (wS cA ad τ ρ π γ)[i]? = some q) : i < 25 ∧ q.1 = ad i := by
  have h1 : ((wS cA ad τ ρ π γ).map (·.1))[i]? = some q.1 := by rw [List.getElem?_map, h]; rfl
  rw [wS_map, List.getElem?_map] at h1
  by_cases hi : i < 25
  · rw [List.getElem?_range hi] at h1
    exact ⟨hi, (Option.some.inj h1).symm⟩
  · rw [List.getElem?_eq_none (by simpa using hi)] at h1
    cases h1
/-- the addresses are apart -/
def Apart (ad : Nat → Nat) : Prop := ∀ i j : Nat, i < 25 → j < 25 → ad i = ad j → i = j
/-- the system's own addresses -/
def aS (ad : Nat → Nat) : Nat → Prop := fun q => ∃ k, k < 25 ∧ q = ad k
theorem wS_D {cA : ClassId} {ad : Nat → Nat} (had : Apart ad) (τ ρ π γ : Sg) {A : Nat → Prop} (hA : ∀ q, aS ad q → A q) : va_D A (wS cA ad τ ρ π γ) := by
  refine ⟨fun i j p q h1 h2 e => ?_, fun k q h => ?_⟩
  · obtain ⟨a1, a2⟩ := wS_adr h1
    obtain ⟨b1, b2⟩ := wS_adr h2
    exact had i j a1 b1 (by rw [← a2, ← b2]; exact e)
  · obtain ⟨a1, a2⟩ := wS_adr h
    exact hA _ ⟨k, a1, a2⟩
/-- the form is one that the code keeps: at most 64 cells, at most 4 neighbours -/
def Ok (τ : Sg) : Prop := 0 ≤ τ.1 2 ∧ τ.1 2 ≤ 64 ∧ ∀ k : Nat, k < 64 → 0 ≤ τ.2 1 k ∧ τ.2 1 k ≤ 4
/-- the one call of a nest mate -/
def nW (U : State) : Prop := va_Nw (Cond.methodLinkNest RX6 204 yX7_isWithin RX7) U
/-- what a method finds -/
def pW (D : va_G) (cA : ClassId) (ws : va_W) (U : State) : Prop := va_P D vwCl ws U.heap ∧ va_K D vwCl [(cA, .int)] U ∧ nW U
abbrev pS (D : va_G) (cA : ClassId) (ad : Nat → Nat) (τ ρ π γ : Sg) : State → Prop := pW D cA (wS cA ad τ ρ π γ)
/-- what a method that writes leaves: an answer and a state -/
def qW (D : va_G) (ws : va_W) (A : Nat → Prop) (r : Option Value) : Array Value → State → Outcome → State → Prop := fun _ st o t => o = .returned r ∧ va_P D vwCl ws t.heap ∧ va_F A st t
abbrev qV (D : va_G) (cA : ClassId) (ad : Nat → Nat) (τ ρ π γ : Sg) (r : Option Value) : Array Value → State → Outcome → State → Prop := qW D (wS cA ad τ ρ π γ) (aS ad) r
def noA : Nat → Prop := fun _ => False
theorem pS_blind {D : va_G} {cA : ClassId} {ws : va_W} {As : List Value} : FrameBlind (va_Pc As (pW D cA ws)) := fun a U g mk q => by
  obtain ⟨q0, qP, qK, qN⟩ := q
  exact ⟨q0, qP, va_K.moved (u := U) (U := U.calling g mk a) (Vm.Alike.refl U.vm) qK, va_Nw.same (u := U) (U := U.calling g mk a) rfl rfl qN⟩
theorem wA_ok {w : Cond} (h : w ∈ wA) : goodWord w = true := List.all_eq_true.mp wA_good w h
/-- a contract of the system: its words are its code and the one list -/
abbrev wM (y : MethodName) (cc : ByteArray) (n : Nat) (ret : Option FieldType) : List Cond := Cond.code y cc n ret :: wA
theorem sy_goodV {own : String} {index : Nat} {y y0 : MethodName} {cc0 bytes : ByteArray} {n0 maxL : Nat} {r0 ret : Option FieldType} (k1 : Cond.methodLink own index y ∈ wA) (k2 : Cond.instanceMethod y ∈ wA) (k3 : Cond.selects y.cls y y ∈ wA) (k4 : Cond.initialized y.cls ∈ wA) (k5 : Cond.code y bytes maxL ret ∈ wA) : GoodIn (wM y0 cc0 n0 r0) (wsV own index y.cls y (wM y bytes maxL ret)) := by
  intro w hw
  have h : w ∈ wA := by
    rcases List.mem_append.mp hw with h | h
    · simp only [List.mem_cons, List.not_mem_nil, or_false] at h
      rcases h with rfl | rfl | rfl | rfl <;> assumption
    · rcases List.mem_cons.mp h with rfl | h
      · exact k5
      · exact h
  exact ⟨List.mem_cons_of_mem _ h, good_of_word (wA_ok h)⟩
theorem sy_goodS {own : String} {index : Nat} {y y0 : MethodName} {cc0 bytes : ByteArray} {n0 maxL : Nat} {r0 ret : Option FieldType} (k1 : Cond.methodLink own index y ∈ wA) (k2 : Cond.static y ∈ wA) (k3 : Cond.initialized y.cls ∈ wA) (k5 : Cond.code y bytes maxL ret ∈ wA) : GoodIn (wM y0 cc0 n0 r0) (va_wsS own index y (wM y bytes maxL ret)) := by
  intro w hw
  have h : w ∈ wA := by
    rcases List.mem_append.mp hw with h | h
    · simp only [List.mem_cons, List.not_mem_nil, or_false] at h
      rcases h with rfl | rfl | rfl <;> assumption
    · rcases List.mem_cons.mp h with rfl | h
      · exact k5
      · exact h
  exact ⟨List.mem_cons_of_mem _ h, good_of_word (wA_ok h)⟩
theorem vin_lt {i : Int32} {n : Nat} {k : Int32} (h1 : ¬ i < 0) (h2 : i < k) (hk : k.toInt ≤ (n : Int)) : vp_in i n := by
  rw [Int32.lt_iff_toInt_lt] at h1 h2
  rw [Int32.toInt_zero] at h1
  intro h
  rcases h with h | h
  · rw [Int32.lt_iff_toInt_lt, Int32.toInt_zero] at h
    exact h1 h
  · have h3 : i.toNatClampNeg = i.toInt.toNat := rfl
    omega
theorem Ok_cells {τ : Sg} (h : Ok τ) : (τ.1 2).toInt ≤ ((64 : Nat) : Int) := by
  have h1 := h.2.1
  rw [Int32.le_iff_toInt_le] at h1
  exact h1
theorem ne_pos {y : Int32} (h : 0 < y) : ¬ y = 0 := fun e => by
  rw [e] at h
  exact absurd h (by decide)
theorem i1_toInt : (1 : Int32).toInt = 1 := by decide
theorem toInt_succ {x b : Int32} (h : x < b) : (x + 1).toInt = x.toInt + 1 := by
  rw [Int32.lt_iff_toInt_lt] at h
  have h1 := Int32.toInt_lt b
  have h2 := Int32.le_toInt x
  rw [Int32.toInt_add, i1_toInt]
  exact Int.bmod_eq_of_le (by omega) (by omega)
/-- the measure of a loop that counts up to a bound -/
def nm (i b : Int32) : Nat := (b.toInt - i.toInt).toNat
theorem nm_lt (i b : Int32) : nm i b < 8589934592 := by
  have h1 := Int32.toInt_lt b
  have h2 := Int32.le_toInt i
  unfold nm
  omega
theorem nm_dec {x b : Int32} {n : Nat} (h : x < b) (hn : nm x b < n + 1) : nm (x + 1) b < n := by
  have e := toInt_succ h
  rw [Int32.lt_iff_toInt_lt] at h
  unfold nm at hn ⊢
  omega
theorem clamp_toInt (i : Int32) : i.toNatClampNeg = i.toInt.toNat := rfl
theorem not_neg {i : Int32} (h : ¬ i < 0) : 0 ≤ i.toInt := by
  rw [Int32.lt_iff_toInt_lt, Int32.toInt_zero] at h
  omega
theorem mul_add_toInt {x y w : Int32} (h1 : 0 ≤ x.toInt) (h2 : x.toInt ≤ 64) (h3 : 0 ≤ y.toInt) (h4 : y.toInt ≤ 64) (h5 : 0 ≤ w.toInt) (h6 : w.toInt ≤ 64) : (x * w + y).toInt = x.toInt * w.toInt + y.toInt := by
  have h7 : x.toInt * w.toInt ≤ 64 * 64 := Int.mul_le_mul h2 h6 h5 (by decide)
  have h8 : 0 ≤ x.toInt * w.toInt := Int.mul_nonneg h1 h5
  have e : (x * w).toInt = x.toInt * w.toInt := by
    rw [Int32.toInt_mul]
    exact Int.bmod_eq_of_le (by omega) (by omega)
  rw [Int32.toInt_add, e]
  exact Int.bmod_eq_of_le (by omega) (by omega)
theorem vin_of_toInt {i : Int32} {n : Nat} (h1 : 0 ≤ i.toInt) (h2 : i.toInt < (n : Int)) : vp_in i n := by
  intro h
  rcases h with h | h
  · rw [Int32.lt_iff_toInt_lt, Int32.toInt_zero] at h
    omega
  · rw [clamp_toInt] at h
    omega
theorem vin_bd {i : Int32} {n : Nat} (h : vp_in i n) : 0 ≤ i.toInt ∧ i.toInt < (n : Int) := by
  unfold vp_in at h
  have h1 : ¬ i < 0 := fun q => h (Or.inl q)
  have h2 := not_neg h1
  have h3 : ¬ n ≤ i.toNatClampNeg := fun q => h (Or.inr q)
  rw [clamp_toInt] at h3
  omega
theorem vin_besides {τ : Sg} {x y : Int32} (h1 : ¬ x < 0) (h2 : ¬ τ.1 2 ≤ x) (h3 : ¬ y < 0) (h4 : y < τ.2 1 x.toNatClampNeg) (hT : Ok τ) : vp_in (x * 4 + y) 256 := by
  have a1 := not_neg h1
  have a3 := not_neg h3
  rw [Int32.le_iff_toInt_le] at h2
  have a2 := Ok_cells hT
  have a4 := (hT.2.2 x.toNatClampNeg (by rw [clamp_toInt]; omega)).2
  rw [Int32.lt_iff_toInt_lt] at h4
  rw [Int32.le_iff_toInt_le] at a4
  have e4 : (4 : Int32).toInt = 4 := by decide
  rw [e4] at a4
  have e := mul_add_toInt (x := x) (y := y) (w := 4) a1 (by omega) a3 (by omega) (by decide) (by decide)
  rw [e4] at e
  exact vin_of_toInt (by omega) (by omega)
theorem vin_misfit {x y : Int32} (h1 : ¬ x < 0) (h2 : ¬ 9 < x) (h3 : ¬ y < 0) (h4 : ¬ 9 < y) : vp_in (x * 10 + y) 100 := by
  have a1 := not_neg h1
  have a3 := not_neg h3
  rw [Int32.lt_iff_toInt_lt] at h2 h4
  have e9 : (9 : Int32).toInt = 9 := by decide
  have e4 : (10 : Int32).toInt = 10 := by decide
  rw [e9] at h2 h4
  have e := mul_add_toInt (x := x) (y := y) (w := 10) a1 (by omega) a3 (by omega) (by decide) (by decide)
  rw [e4] at e
  exact vin_of_toInt (by omega) (by omega)
theorem nmd_lt' (i : Int32) : i.toInt.toNat < 8589934592 := by
  have h1 := Int32.toInt_lt i
  omega
/-- loops that count down to a bound -/
def nmd (i b : Int32) : Nat := (i.toInt - b.toInt + 1).toNat
theorem nmd_lt (i b : Int32) : nmd i b < 8589934592 := by
  have h1 := Int32.toInt_lt i
  have h2 := Int32.le_toInt b
  unfold nmd
  omega
theorem toInt_pred {x b : Int32} (h : ¬ x < b) (hb : 0 ≤ b) : (x + Int32.ofInt (-1)).toInt = x.toInt - 1 := by
  rw [Int32.lt_iff_toInt_lt] at h
  rw [Int32.le_iff_toInt_le, Int32.toInt_zero] at hb
  have h1 := Int32.toInt_lt x
  have e : (Int32.ofInt (-1)).toInt = -1 := by decide
  rw [Int32.toInt_add, e]
  exact (Int.bmod_eq_of_le (by omega) (by omega)).trans (by omega)
theorem nmd_dec {x b : Int32} {n : Nat} (h : ¬ x < b) (hb : 0 ≤ b) (hn : nmd x b < n + 1) : nmd (x + Int32.ofInt (-1)) b < n := by
  have e := toInt_pred h hb
  rw [Int32.lt_iff_toInt_lt] at h
  unfold nmd at hn ⊢
  omega
theorem sub_dec {x k : Int32} {n : Nat} (hk : 0 < k) (h : k ≤ x) (hn : x.toInt.toNat < n + 1) : (x - k).toInt.toNat < n := by
  rw [Int32.lt_iff_toInt_lt, Int32.toInt_zero] at hk
  rw [Int32.le_iff_toInt_le] at h
  have h1 := Int32.toInt_lt x
  have e : (x - k).toInt = x.toInt - k.toInt := by
    rw [Int32.toInt_sub]
    exact Int.bmod_eq_of_le (by omega) (by omega)
  omega
theorem div6_toInt {x : Int32} (h : 0 < x) : (x / 6).toInt = x.toInt / 6 := by
  rw [Int32.lt_iff_toInt_lt, Int32.toInt_zero] at h
  have h1 := Int32.toInt_lt x
  have e : (6 : Int32).toInt = 6 := by decide
  rw [Int32.toInt_div, e, Int.tdiv_eq_ediv_of_nonneg (by omega)]
  exact Int.bmod_eq_of_le (by omega) (by omega)
theorem div6_dec {x : Int32} {n : Nat} (h : 0 < x) (hn : x.toInt.toNat < n + 1) : (x / 6).toInt.toNat < n := by
  have e := div6_toInt h
  rw [Int32.lt_iff_toInt_lt, Int32.toInt_zero] at h
  omega
theorem dbl_toInt {x : Int32} (h0 : 0 < x) (h : x < 64) : (x * 2).toInt = x.toInt * 2 := by
  rw [Int32.lt_iff_toInt_lt, Int32.toInt_zero] at h0
  rw [Int32.lt_iff_toInt_lt] at h
  have e6 : (64 : Int32).toInt = 64 := by decide
  have e : (2 : Int32).toInt = 2 := by decide
  rw [Int32.toInt_mul, e]
  exact Int.bmod_eq_of_le (by omega) (by omega)
theorem dbl_pos {x : Int32} (h0 : 0 < x) (h : x < 64) : 0 < x * 2 := by
  have e := dbl_toInt h0 h
  rw [Int32.lt_iff_toInt_lt, Int32.toInt_zero] at h0 ⊢
  omega
theorem dbl_dec {x : Int32} {n : Nat} (h0 : 0 < x) (h : x < 64) (hn : nm x 64 < n + 1) : nm (x * 2) 64 < n := by
  have e := dbl_toInt h0 h
  rw [Int32.lt_iff_toInt_lt, Int32.toInt_zero] at h0
  rw [Int32.lt_iff_toInt_lt] at h
  unfold nm at hn ⊢
  omega
theorem ne_toInt {x k : Int32} (h : ¬ x = k) : ¬ x.toInt = k.toInt := fun e => h (Int32.toInt_inj.mp e)
/-- Arrays.fill -/
def fillF (f : Nat → Int32) (n : Nat) (v : Int32) : Nat → Int32 := fun j => if j < n then v else f j
theorem fillF_0 (f : Nat → Int32) (v : Int32) : fillF f 0 v = f := by
  funext j
  simp [fillF]
theorem fillF_succ (f : Nat → Int32) (k : Nat) (v : Int32) : upd (fillF f k v) k v = fillF f (k + 1) v := by
  funext j
  unfold upd fillF
  by_cases h : j = k
  · rw [if_pos h, if_pos (by omega)]
  · rw [if_neg h]
    by_cases h2 : j < k
    · rw [if_pos h2, if_pos (by omega)]
    · rw [if_neg h2, if_neg (by omega)]
theorem vin_besides2 {τ : Sg} {x : Int32} (h1 : 0 ≤ x.toInt) (h2 : x.toInt < 64) (h4 : τ.2 1 x.toNatClampNeg < 4) (hT : Ok τ) : vp_in (x * 4 + τ.2 1 x.toNatClampNeg) 256 := by
  have a4 := (hT.2.2 x.toNatClampNeg (by rw [clamp_toInt]; omega)).1
  rw [Int32.lt_iff_toInt_lt] at h4
  rw [Int32.le_iff_toInt_le, Int32.toInt_zero] at a4
  have e4 : (4 : Int32).toInt = 4 := by decide
  rw [e4] at h4
  have e := mul_add_toInt (x := x) (y := τ.2 1 x.toNatClampNeg) (w := 4) h1 (by omega) a4 (by omega) (by decide) (by decide)
  rw [e4] at e
  exact vin_of_toInt (by omega) (by omega)
theorem Ok_inc {τ : Sg} {k : Nat} {i : Nat} {v : Int32} (hT : Ok τ) (h4 : τ.2 1 k < 4) (hk : k < 64) : Ok (sa (sa τ 0 i v) 1 k ((sa τ 0 i v).2 1 k + 1)) := by
  refine ⟨hT.1, hT.2.1, fun j hj => ?_⟩
  show 0 ≤ (if j = k then τ.2 1 k + 1 else τ.2 1 j) ∧ (if j = k then τ.2 1 k + 1 else τ.2 1 j) ≤ 4
  by_cases h : j = k
  · rw [if_pos h]
    have h1 := (hT.2.2 k hk).1
    have e := toInt_succ h4
    refine ⟨?_, ?_⟩
    · rw [Int32.le_iff_toInt_le, Int32.toInt_zero] at h1 ⊢
      omega
    · rw [Int32.lt_iff_toInt_lt] at h4
      rw [Int32.le_iff_toInt_le]
      omega
  · rw [if_neg h]
    exact hT.2.2 j hj
theorem Ok_lay0 {τ : Sg} {x y : Int32} (h : 0 ≤ x * y) : Ok (saf (si (si (si τ 0 x) 1 y) 2 (if 64 < x * y then 64 else x * y)) 1 (fillF (τ.2 1) 64 0)) := by
  refine ⟨?_, ?_, fun j hj => ?_⟩
  · show 0 ≤ (if 64 < x * y then 64 else x * y)
    split
    · decide
    · exact h
  · show (if 64 < x * y then 64 else x * y) ≤ 64
    split
    · decide
    · rename_i h1
      exact Int32.not_lt.mp h1
  · show 0 ≤ fillF (τ.2 1) 64 0 j ∧ fillF (τ.2 1) 64 0 j ≤ 4
    unfold fillF
    rw [if_pos hj]
    decide
theorem nar_i2c {x : Int32} : narrow .char (.int ((x.toUInt32 % 65536).toInt32)) = .int ((x.toUInt32 % 65536).toInt32) := by
  have h : ∀ z : BitVec 32, (((z % 65536#32)) % 65536#32) = z % 65536#32 := fun z => by
    apply BitVec.eq_of_toNat_eq
    simp
  show Value.int _ = Value.int _
  congr 1
  apply Int32.toBitVec_inj.mp
  exact h x.toBitVec
theorem lt10 {x : Int32} (h : ¬ 9 < x) : x < 10 := by
  rw [Int32.lt_iff_toInt_lt] at h ⊢
  have e9 : (9 : Int32).toInt = 9 := by decide
  have e10 : (10 : Int32).toInt = 10 := by decide
  omega
theorem k1000_dec {x : Int32} {n : Nat} (h : 1000 ≤ x) (hn : x.toInt.toNat < n + 1) : (x + Int32.ofInt (-1000)).toInt.toNat < n := by
  rw [Int32.le_iff_toInt_le] at h
  have e1 : (1000 : Int32).toInt = 1000 := by decide
  rw [e1] at h
  have h1 := Int32.toInt_lt x
  have e2 : (Int32.ofInt (-1000)).toInt = -1000 := by decide
  have e : (x + Int32.ofInt (-1000)).toInt = x.toInt - 1000 := by
    rw [Int32.toInt_add, e2]
    exact (Int.bmod_eq_of_le (by omega) (by omega)).trans (by omega)
  omega
theorem inc_nonneg {x b : Int32} (h0 : 0 ≤ x) (h : x < b) : 0 ≤ x + 1 := by
  have e := toInt_succ h
  rw [Int32.le_iff_toInt_le, Int32.toInt_zero] at h0 ⊢
  omega
theorem vin_le {i k : Int32} {n : Nat} (h1 : 0 ≤ i) (h2 : i < k) (hk : k.toInt ≤ (n : Int)) : vp_in i n := vin_lt (Int32.not_lt.mpr h1) h2 hk
section SYS
variable {p : Program} {l : Launch} {e : Env} {R : Room} {s : State} {m : MethodId} {args : Array Value} {below : List Frame} {meth : Method} {c : Code} {H : Heap} {locs : List Loc} {cells slots : Nat} {Q : State → Prop}
variable {cc : ByteArray} {pc : Nat} {ls : Array Slot} {rest : List Value}
variable {D : va_G} {cA : ClassId} {ad : Nat → Nat} {τ ρ π γ : Sg}
/-- the entry of a method's body -/
theorem sy_of {ws : va_W} {y : MethodName} {maxL : Nat} {ret : Option FieldType} {rm : Room} {As : List Value} {Qc : Array Value → State → Outcome → State → Prop} {mc ms : Nat} {free : Addr → Prop} (hy : plainName y.cls = true) (hn : (lg_sl As).length ≤ maxL)
    (body : ∀ (p : Program) (e : Env) (s : State) (m : MethodId) (below : List Frame) (meth : Method) (c : Code) (ls : Array Slot), CallFix p m c cc maxL s As.toArray (wM y cc maxL ret) y.cls → meth.sig.returnType = ret → meth.locks = false → va_K D vwCl [(cA, .int)] s → nW s → va_P D vwCl ws s.heap → lv_has ls maxL (lv_args 0 As) →
      W p l e rm s m As.toArray below meth c s.heap [] 0 0 (MQ below Qc As.toArray s mc ms free) (F0 m 0 ls [])) : Met l y (wM y cc maxL ret) rm (va_Pc As (pW D cA ws)) Qc mc ms free := by
  refine Met.ofW (cc := cc) (maxL := maxL) (ret := ret) hy rfl ?_
  intro p e s m args below meth c s₁ B hml hv
  obtain ⟨rfl, hP, hK, hN⟩ := hv
  have hl := lv_entry As (n := maxL) hn
  rw [lg_entry_eq]
  exact body p e s m below meth c _ ⟨B.exec, B.bytes, hml, findClass_of_methodNamed B.named, atoms_spec (ws := wM y cc maxL ret) B.pre⟩ B.returns B.notSynchronized hK hN hP hl
/-- an int of a row is read, is written -/
theorem sy_iald (hx : p.tables.exec = Jvm.exec) (hb : c.code = cc) (hK : va_K D vwCl [(cA, .int)] s) (hP : va_P D vwCl (wS cA ad τ ρ π γ) H) (q : Nat) {a n : Nat} {f : Nat → Int32} (hk : (wS cA ad τ ρ π γ)[q]? = some (a, .inl (cA, n, .inl f))) {i : Int32} (hin : vp_in i n) (hd : decode cc pc = .ok (.iaload, 1))
    (kk : W p l e R s m args below meth c H locs cells slots Q (F0 m (pc + 1) ls (.int (f i.toNatClampNeg) :: rest))) : W p l e R s m args below meth c H locs cells slots Q (F0 m pc ls (.int i :: .ref a :: rest)) :=
  va_iald hx hb hK hP q 0 hk rfl hin hd kk
theorem sy_iast {τ' ρ' π' γ' : Sg} {A : Nat → Prop} {H0 : Heap} (hx : p.tables.exec = Jvm.exec) (hb : c.code = cc) (hK : va_K D vwCl [(cA, .int)] s) (hP : va_P D vwCl (wS cA ad τ ρ π γ) H) (had : Apart ad) (hA : ∀ q, aS ad q → A q) (hS : va_S A H0 H locs) (q : Nat) {a n : Nat} {f : Nat → Int32} (hk : (wS cA ad τ ρ π γ)[q]? = some (a, .inl (cA, n, .inl f))) {i x : Int32} (hset : (wS cA ad τ ρ π γ).set q (a, .inl (cA, n, .inl (upd f i.toNatClampNeg x))) = wS cA ad τ' ρ' π' γ') (hin : vp_in i n) (hd : decode cc pc = .ok (.iastore, 1))
    (kk : ∀ (H1 : Heap) (locs1 : List Loc), va_P D vwCl (wS cA ad τ' ρ' π' γ') H1 → va_S A H0 H1 locs1 → W p l e R s m args below meth c H1 locs1 cells slots Q (F0 m (pc + 1) ls rest)) : W p l e R s m args below meth c H locs cells slots Q (F0 m pc ls (.int x :: .int i :: .ref a :: rest)) :=
  va_iast hx hb hK hP (wS_D had τ ρ π γ hA) hS q 0 hk rfl hin hd (fun H1 locs1 h1 _ h3 => kk H1 locs1 (by rw [← hset]; exact h1) h3)
/-- a call of a method of the system that writes nothing and answers an int -/
theorem sy_cv {own : String} {index : Nat} {y y0 : MethodName} {bytes : ByteArray} {n0 maxL n N : Nat} {r0 ret : Option FieldType} {rm : Room} {As : List Value} {T : u_T} {b : Nat} {fs : List Value} {r : Int32} (S : CallFix p m c cc n0 s args (wM y0 cc n0 r0) own) (hK : va_K D vwCl [(cA, .int)] s) (hN : nW s) (hP : va_P D vwCl (wS cA ad τ ρ π γ) H)
    (hM : Met l y (wM y bytes maxL ret) rm (va_Pc (.ref b :: As) (pS D cA ad τ ρ π γ)) (QcRead r) 0 0 noA) (q0 ci : Nat) (he : (wS cA ad τ ρ π γ)[q0]? = some (b, .inr (ci, fs))) (hc : vwCl[ci]? = some (y.cls, T, N))
    (k1 : Cond.methodLink own index y ∈ wA) (k2 : Cond.instanceMethod y ∈ wA) (k3 : Cond.selects y.cls y y ∈ wA) (k4 : Cond.initialized y.cls ∈ wA) (k5 : Cond.code y bytes maxL ret ∈ wA)
    (hd : y.cls = y.cls ∧ y.cls ≠ "java/lang/invoke/MethodHandle" ∧ y.cls ≠ "java/lang/invoke/VarHandle" ∧ (parseMethodDescriptor y.desc).map (fun d => d.parameters.length) = some n) (hR : rm.frames + 1 ≤ R.frames ∧ 8 + (maxL + 11) + rm.locals ≤ R.locals) (hrc : rm.cells = 0) (hrs : rm.slots = 0)
    (hn : As.length = n) (hsz : ls.size = n0) {st0 : List Value} (hst : st0 = As.reverse ++ .ref b :: rest) (hW : (rest.map fun v => v.category).sum ≤ 8) (hdg : decode cc pc = .ok (.invokevirtual index, 3)) (hf : cells ≤ R.cells ∧ slots ≤ R.slots)
    (kk : W p l e R s m args below meth c H locs cells slots Q (F0 m (pc + 3) ls (.int r :: rest))) : W p l e R s m args below meth c H locs cells slots Q (F0 m pc ls st0) :=
  W.callR (W.runV (As := As) (rest := rest) S hM (cwV n S.2.2.2.2 (sy_goodV k1 k2 k3 k4 k5) rfl hrc hrs hd hR) ⟨pS_blind, va_recv hK hP hc he, fun U hU hW => ⟨rfl, by rw [hU]; exact hP, va_K.moved hW.alike hK, va_Nw.warmM hW hN⟩⟩ rfl hn hsz hst (lv_room hW) hdg ⟨hf.1, hf.2⟩) kk
/-- a call of a method of the system that writes -/
theorem sy_cvM {own : String} {index : Nat} {y y0 : MethodName} {bytes : ByteArray} {n0 maxL n N : Nat} {r0 ret : Option FieldType} {rm : Room} {As : List Value} {T : u_T} {b : Nat} {fs : List Value} {r : Option Value} {τ' ρ' π' γ' : Sg} {A : Nat → Prop} {H0 : Heap} (S : CallFix p m c cc n0 s args (wM y0 cc n0 r0) own) (hK : va_K D vwCl [(cA, .int)] s) (hN : nW s) (hP : va_P D vwCl (wS cA ad τ ρ π γ) H) (hA : ∀ q, aS ad q → A q) (hS : va_S A H0 H locs)
    (hM : Met l y (wM y bytes maxL ret) rm (va_Pc (.ref b :: As) (pS D cA ad τ ρ π γ)) (qV D cA ad τ' ρ' π' γ' r) 0 0 (aS ad)) (q0 ci : Nat) (he : (wS cA ad τ ρ π γ)[q0]? = some (b, .inr (ci, fs))) (hc : vwCl[ci]? = some (y.cls, T, N))
    (k1 : Cond.methodLink own index y ∈ wA) (k2 : Cond.instanceMethod y ∈ wA) (k3 : Cond.selects y.cls y y ∈ wA) (k4 : Cond.initialized y.cls ∈ wA) (k5 : Cond.code y bytes maxL ret ∈ wA)
    (hd : y.cls = y.cls ∧ y.cls ≠ "java/lang/invoke/MethodHandle" ∧ y.cls ≠ "java/lang/invoke/VarHandle" ∧ (parseMethodDescriptor y.desc).map (fun d => d.parameters.length) = some n) (hR : rm.frames + 1 ≤ R.frames ∧ 8 + (maxL + 11) + rm.locals ≤ R.locals) (hrc : rm.cells = 0) (hrs : rm.slots = 0)
    (hn : As.length = n) (hsz : ls.size = n0) {st0 : List Value} (hst : st0 = As.reverse ++ .ref b :: rest) (hW : (rest.map fun v => v.category).sum ≤ 8) (hdg : decode cc pc = .ok (.invokevirtual index, 3)) (hf : cells ≤ R.cells ∧ slots ≤ R.slots)
    {st1 : List Value} (hq : r.toList ++ rest = st1) (kk : ∀ (H1 : Heap) (locs1 : List Loc), va_P D vwCl (wS cA ad τ' ρ' π' γ') H1 → va_S A H0 H1 locs1 → W p l e R s m args below meth c H1 locs1 cells slots Q (F0 m (pc + 3) ls st1)) : W p l e R s m args below meth c H locs cells slots Q (F0 m pc ls st0) := by
  intro T hT X
  subst hq
  obtain ⟨v, st₀, t, T', L, h0, X', hL, e1, e2, ⟨hv, hp, hz, hk⟩, st⟩ := (va_runV (As := As) (rest := rest) (free := aS ad) (mc := 0) (ms := 0) (cells := cells) (slots := slots) (locs := locs) (H := H) (g := F0 m pc ls st0) S hM (cwV n S.2.2.2.2 (sy_goodV k1 k2 k3 k4 k5) rfl hrc hrs hd hR) ⟨pS_blind, va_recv hK hP hc he, fun U hU hW => ⟨rfl, by rw [hU]; exact hP, va_K.moved hW.alike hK, va_Nw.warmM hW hN⟩⟩ rfl hn hsz hst (lv_room hW) hdg ⟨hf.1, hf.2⟩) T hT X
  cases hv
  rw [h0] at hz hk
  obtain ⟨t2, a1, b1⟩ := kk T'.heap (locs ++ L) (by rw [e1]; exact hp)
    ⟨Nat.le_trans hS.1 (by rw [e1]; exact hz), fun q h1 h2 => by rw [e1, hk q (Nat.lt_of_lt_of_le h1 hS.1) (fun z => h2 (hA q z))]; exact hS.2.1 q h1 h2, fun q hq => by
      rcases List.mem_append.mp hq with h | h
      · exact hS.2.2 q h
      · exact hA _ (hL q h)⟩ T' rfl X'
  exact ⟨t2, st t2 a1, b1⟩
/-- the ends -/
theorem sy_ret {r v : Int32} (hx : p.tables.exec = Jvm.exec) (hb : c.code = cc) (hr : meth.sig.returnType = some .int) (hlk : meth.locks = false) (hv : v = r) (hd : decode cc pc = .ok (.ireturn, 1)) : W p l e R s m args below meth c s.heap [] 0 0 (MQ below (QcRead r) args s 0 0 noA) (F0 m pc ls [.int v]) := by
  subst hv
  exact W.iret hx hb hr (fun t ht _ => ⟨rfl, ht⟩) (fun _ h => by cases h) hd hlk
theorem sy_retZ {r v : Int32} {ty : FieldType} (hx : p.tables.exec = Jvm.exec) (hb : c.code = cc) (hr : meth.sig.returnType = some ty) (hlk : meth.locks = false) (hn : narrow ty (.int v) = .int v) (hv : v = r) (hd : decode cc pc = .ok (.ireturn, 1)) : W p l e R s m args below meth c s.heap [] 0 0 (MQ below (QcRead r) args s 0 0 noA) (F0 m pc ls [.int v]) := by
  subst hv
  exact W.zret hx hb hr hn (fun t ht _ => ⟨rfl, ht⟩) (fun _ h => by cases h) hd hlk
theorem sy_retL {r v : Int64} (hx : p.tables.exec = Jvm.exec) (hb : c.code = cc) (hr : meth.sig.returnType = some .long) (hlk : meth.locks = false) (hv : v = r) (hd : decode cc pc = .ok (.lreturn, 1)) : W p l e R s m args below meth c s.heap [] 0 0 (MQ below (vp_Sl (fun x => x = r)) args s 0 0 noA) (F0 m pc ls [.long v]) :=
  W.lret hx hb hr (fun t ht _ => ⟨_, rfl, hv, ht⟩) (fun _ h => by cases h) hd hlk
theorem sy_retVL {τ' ρ' π' γ' : Sg} {v r : Int64} (hx : p.tables.exec = Jvm.exec) (hb : c.code = cc) (hr : meth.sig.returnType = some .long) (hlk : meth.locks = false) (hP : va_P D vwCl (wS cA ad τ ρ π γ) H) (hS : va_S (aS ad) s.heap H locs) (hv : v = r) (hw : wS cA ad τ ρ π γ = wS cA ad τ' ρ' π' γ') (hd : decode cc pc = .ok (.lreturn, 1)) : W p l e R s m args below meth c H locs 0 0 (MQ below (qV D cA ad τ' ρ' π' γ' (some (.long r))) args s 0 0 (aS ad)) (F0 m pc ls [.long v]) := by
  subst hv
  exact W.lret hx hb hr (fun t ht _ => ⟨rfl, by rw [ht, ← hw]; exact hP, hS.F ht⟩) hS.2.2 hd hlk
theorem sy_retV {τ' ρ' π' γ' : Sg} (hx : p.tables.exec = Jvm.exec) (hb : c.code = cc) (hr : meth.sig.returnType = none) (hlk : meth.locks = false) (hP : va_P D vwCl (wS cA ad τ ρ π γ) H) (hS : va_S (aS ad) s.heap H locs) (hw : wS cA ad τ ρ π γ = wS cA ad τ' ρ' π' γ') (hd : decode cc pc = .ok (.return_, 1)) : W p l e R s m args below meth c H locs 0 0 (MQ below (qV D cA ad τ' ρ' π' γ' none) args s 0 0 (aS ad)) (F0 m pc ls []) :=
  W.vret hx hb hr (fun t ht _ => ⟨rfl, by rw [ht, ← hw]; exact hP, hS.F ht⟩) hS.2.2 hd hlk
theorem sy_retVI {τ' ρ' π' γ' : Sg} {v r : Int32} {ty : FieldType} (hx : p.tables.exec = Jvm.exec) (hb : c.code = cc) (hr : meth.sig.returnType = some ty) (hlk : meth.locks = false) (hP : va_P D vwCl (wS cA ad τ ρ π γ) H) (hS : va_S (aS ad) s.heap H locs) (hn : narrow ty (.int v) = .int v) (hv : v = r) (hw : wS cA ad τ ρ π γ = wS cA ad τ' ρ' π' γ') (hd : decode cc pc = .ok (.ireturn, 1)) : W p l e R s m args below meth c H locs 0 0 (MQ below (qV D cA ad τ' ρ' π' γ' (some (.int r))) args s 0 0 (aS ad)) (F0 m pc ls [.int v]) := by
  subst hv
  exact W.zret hx hb hr hn (fun t ht _ => ⟨rfl, by rw [ht, ← hw]; exact hP, hS.F ht⟩) hS.2.2 hd hlk
/-- a static call of a method of the class that writes nothing and answers an int -/
theorem sy_cs {own : String} {index : Nat} {y y0 : MethodName} {bytes : ByteArray} {n0 maxL n : Nat} {r0 ret : Option FieldType} {rm : Room} {As : List Value} {r : Int32} (S : CallFix p m c cc n0 s args (wM y0 cc n0 r0) own) (hK : va_K D vwCl [(cA, .int)] s) (hN : nW s) (hP : va_P D vwCl (wS cA ad τ ρ π γ) H)
    (hM : Met l y (wM y bytes maxL ret) rm (va_Pc As (pS D cA ad τ ρ π γ)) (QcRead r) 0 0 noA)
    (k1 : Cond.methodLink own index y ∈ wA) (k2 : Cond.static y ∈ wA) (k3 : Cond.initialized y.cls ∈ wA) (k5 : Cond.code y bytes maxL ret ∈ wA)
    (hd : y.cls = y.cls ∧ y.cls ≠ "java/lang/invoke/MethodHandle" ∧ y.cls ≠ "java/lang/invoke/VarHandle" ∧ (parseMethodDescriptor y.desc).map (fun d => d.parameters.length) = some n) (hR : rm.frames + 1 ≤ R.frames ∧ 8 + (maxL + 11) + rm.locals ≤ R.locals) (hrc : rm.cells = 0) (hrs : rm.slots = 0)
    (hn : As.length = n) (hsz : ls.size = n0) {st0 : List Value} (hst : st0 = As.reverse ++ rest) (hW : (rest.map fun v => v.category).sum ≤ 8) (hdg : decode cc pc = .ok (.invokestatic index, 3)) (hf : cells ≤ R.cells ∧ slots ≤ R.slots)
    (kk : W p l e R s m args below meth c H locs cells slots Q (F0 m (pc + 3) ls (.int r :: rest))) : W p l e R s m args below meth c H locs cells slots Q (F0 m pc ls st0) :=
  W.callR (W.runS (As := As) (rest := rest) S hM (va_cwS n S.2.2.2.2 (sy_goodS k1 k2 k3 k5) rfl hrc hrs hd.2 hR) ⟨pS_blind, fun U hU hW => ⟨rfl, by rw [hU]; exact hP, va_K.moved hW.alike hK, va_Nw.warmM hW hN⟩⟩ rfl hn hsz hst (lv_room hW) hdg ⟨hf.1, hf.2⟩) kk
/-- a call of a method of the system that writes nothing and answers a long -/
theorem sy_cvL {own : String} {index : Nat} {y y0 : MethodName} {bytes : ByteArray} {n0 maxL n N : Nat} {r0 ret : Option FieldType} {rm : Room} {As : List Value} {T : u_T} {b : Nat} {fs : List Value} {r : Int64} (S : CallFix p m c cc n0 s args (wM y0 cc n0 r0) own) (hK : va_K D vwCl [(cA, .int)] s) (hN : nW s) (hP : va_P D vwCl (wS cA ad τ ρ π γ) H)
    (hM : Met l y (wM y bytes maxL ret) rm (va_Pc (.ref b :: As) (pS D cA ad τ ρ π γ)) (vp_Sl (fun x => x = r)) 0 0 noA) (q0 ci : Nat) (he : (wS cA ad τ ρ π γ)[q0]? = some (b, .inr (ci, fs))) (hc : vwCl[ci]? = some (y.cls, T, N))
    (k1 : Cond.methodLink own index y ∈ wA) (k2 : Cond.instanceMethod y ∈ wA) (k3 : Cond.selects y.cls y y ∈ wA) (k4 : Cond.initialized y.cls ∈ wA) (k5 : Cond.code y bytes maxL ret ∈ wA)
    (hd : y.cls = y.cls ∧ y.cls ≠ "java/lang/invoke/MethodHandle" ∧ y.cls ≠ "java/lang/invoke/VarHandle" ∧ (parseMethodDescriptor y.desc).map (fun d => d.parameters.length) = some n) (hR : rm.frames + 1 ≤ R.frames ∧ 8 + (maxL + 11) + rm.locals ≤ R.locals) (hrc : rm.cells = 0) (hrs : rm.slots = 0)
    (hn : As.length = n) (hsz : ls.size = n0) {st0 : List Value} (hst : st0 = As.reverse ++ .ref b :: rest) (hW : (rest.map fun v => v.category).sum ≤ 8) (hdg : decode cc pc = .ok (.invokevirtual index, 3)) (hf : cells ≤ R.cells ∧ slots ≤ R.slots)
    (kk : W p l e R s m args below meth c H locs cells slots Q (F0 m (pc + 3) ls (.long r :: rest))) : W p l e R s m args below meth c H locs cells slots Q (F0 m pc ls st0) :=
  vp_callSl (W.runV (As := As) (rest := rest) S hM (cwV n S.2.2.2.2 (sy_goodV k1 k2 k3 k4 k5) rfl hrc hrs hd hR) ⟨pS_blind, va_recv hK hP hc he, fun U hU hW => ⟨rfl, by rw [hU]; exact hP, va_K.moved hW.alike hK, va_Nw.warmM hW hN⟩⟩ rfl hn hsz hst (lv_room hW) hdg ⟨hf.1, hf.2⟩) (fun r1 e1 => by subst e1; exact kk)
/-- the static call of a nest mate, which writes nothing and answers an int -/
theorem sy_csN {y0 : MethodName} {n0 : Nat} {r0 : Option FieldType} {rm : Room} {As : List Value} {r : Int32} (S : CallFix p m c cc n0 s args (wM y0 cc n0 r0) RX6) (hK : va_K D vwCl [(cA, .int)] s) (hN : nW s) (hP : va_P D vwCl (wS cA ad τ ρ π γ) H)
    (hM : Met l yX7_isWithin (wM yX7_isWithin cX7_isWithin 3 (some .boolean)) rm (va_Pc As (pS D cA ad τ ρ π γ)) (QcRead r) 0 0 noA)
    (k2 : Cond.static yX7_isWithin ∈ wA) (k3 : Cond.initialized yX7_isWithin.cls ∈ wA) (k5 : Cond.code yX7_isWithin cX7_isWithin 3 (some .boolean) ∈ wA)
    (hd : yX7_isWithin.cls = yX7_isWithin.cls ∧ yX7_isWithin.cls ≠ "java/lang/invoke/MethodHandle" ∧ yX7_isWithin.cls ≠ "java/lang/invoke/VarHandle" ∧ (parseMethodDescriptor yX7_isWithin.desc).map (fun d => d.parameters.length) = some 3) (hR : rm.frames + 1 ≤ R.frames ∧ 8 + (3 + 11) + rm.locals ≤ R.locals) (hrc : rm.cells = 0) (hrs : rm.slots = 0)
    (hn : As.length = 3) (hsz : ls.size = n0) {st0 : List Value} (hst : st0 = As.reverse ++ rest) (hW : (rest.map fun v => v.category).sum ≤ 8) (hdg : decode cc pc = .ok (.invokestatic 204, 3)) (hf : cells ≤ R.cells ∧ slots ≤ R.slots)
    (kk : W p l e R s m args below meth c H locs cells slots Q (F0 m (pc + 3) ls (.int r :: rest))) : W p l e R s m args below meth c H locs cells slots Q (F0 m pc ls st0) := by
  have hG : GoodIn (wM y0 cc n0 r0) (wM yX7_isWithin cX7_isWithin 3 (some .boolean)) := by
    intro w hw
    have h : w ∈ wA := by
      rcases List.mem_cons.mp hw with rfl | h
      · exact k5
      · exact h
    exact ⟨List.mem_cons_of_mem _ h, good_of_word (wA_ok h)⟩
  have ht := S.2.2.2.2
  exact W.callR (va_Run.run (va_runSN (As := As) (rest := rest) S hM ⟨va_cnB 3 ht hG rfl hrc hrs hN (ht _ (List.mem_cons_of_mem _ k3)) hd.2 hR, ht _ (List.mem_cons_of_mem _ k2), trivial⟩ ⟨pS_blind, fun U hU hW => ⟨rfl, by rw [hU]; exact hP, va_K.moved hW.alike hK, va_Nw.warmM hW hN⟩⟩ rfl hn hsz hst (lv_room hW) hdg ⟨hf.1, hf.2⟩)) kk
/-- a static call of a method that writes -/
theorem sy_csM {own : String} {index : Nat} {y y0 : MethodName} {bytes : ByteArray} {n0 maxL n : Nat} {r0 ret : Option FieldType} {rm : Room} {As : List Value} {r : Option Value} {ws ws' : va_W} {A A1 : Nat → Prop} {H0 : Heap} (S : CallFix p m c cc n0 s args (wM y0 cc n0 r0) own) (hK : va_K D vwCl [(cA, .int)] s) (hN : nW s) (hP : va_P D vwCl ws H) (hA : ∀ q, A1 q → A q) (hS : va_S A H0 H locs)
    (hM : Met l y (wM y bytes maxL ret) rm (va_Pc As (pW D cA ws)) (qW D ws' A1 r) 0 0 A1)
    (k1 : Cond.methodLink own index y ∈ wA) (k2 : Cond.static y ∈ wA) (k3 : Cond.initialized y.cls ∈ wA) (k5 : Cond.code y bytes maxL ret ∈ wA)
    (hd : y.cls = y.cls ∧ y.cls ≠ "java/lang/invoke/MethodHandle" ∧ y.cls ≠ "java/lang/invoke/VarHandle" ∧ (parseMethodDescriptor y.desc).map (fun d => d.parameters.length) = some n) (hR : rm.frames + 1 ≤ R.frames ∧ 8 + (maxL + 11) + rm.locals ≤ R.locals) (hrc : rm.cells = 0) (hrs : rm.slots = 0)
    (hn : As.length = n) (hsz : ls.size = n0) {st0 : List Value} (hst : st0 = As.reverse ++ rest) (hW : (rest.map fun v => v.category).sum ≤ 8) (hdg : decode cc pc = .ok (.invokestatic index, 3)) (hf : cells ≤ R.cells ∧ slots ≤ R.slots)
    {st1 : List Value} (hq : r.toList ++ rest = st1) (kk : ∀ (H1 : Heap) (locs1 : List Loc), va_P D vwCl ws' H1 → va_S A H0 H1 locs1 → W p l e R s m args below meth c H1 locs1 cells slots Q (F0 m (pc + 3) ls st1)) : W p l e R s m args below meth c H locs cells slots Q (F0 m pc ls st0) := by
  intro T hT X
  subst hq
  obtain ⟨v, st₀, t, T', L, h0, X', hL, e1, e2, ⟨hv, hp, hz, hk⟩, st⟩ := (va_runS (As := As) (rest := rest) (free := A1) (mc := 0) (ms := 0) (cells := cells) (slots := slots) (locs := locs) (H := H) (g := F0 m pc ls st0) S hM (va_cwS n S.2.2.2.2 (sy_goodS k1 k2 k3 k5) rfl hrc hrs hd.2 hR) ⟨pS_blind, fun U hU hW => ⟨rfl, by rw [hU]; exact hP, va_K.moved hW.alike hK, va_Nw.warmM hW hN⟩⟩ rfl hn hsz hst (lv_room hW) hdg ⟨hf.1, hf.2⟩) T hT X
  cases hv
  rw [h0] at hz hk
  obtain ⟨t2, a1, b1⟩ := kk T'.heap (locs ++ L) (by rw [e1]; exact hp)
    ⟨Nat.le_trans hS.1 (by rw [e1]; exact hz), fun q h1 h2 => by rw [e1, hk q (Nat.lt_of_lt_of_le h1 hS.1) (fun z => h2 (hA q z))]; exact hS.2.1 q h1 h2, fun q hq => by
      rcases List.mem_append.mp hq with h | h
      · exact hS.2.2 q h
      · exact hA _ (hL q h)⟩ T' rfl X'
  exact ⟨t2, st t2 a1, b1⟩
end SYS
theorem hd_J7_fill : yJ7_fill_53178.cls = yJ7_fill_53178.cls ∧ yJ7_fill_53178.cls ≠ "java/lang/invoke/MethodHandle" ∧ yJ7_fill_53178.cls ≠ "java/lang/invoke/VarHandle" ∧ (parseMethodDescriptor yJ7_fill_53178.desc).map (fun d => d.parameters.length) = some 2 := by decide +kernel
theorem dJ6_bitCount_0f7a4_0 : decode cJ6_bitCount_0f7a4 0 = .ok (.iload_n 0, 1) := by decide +kernel
theorem dJ6_bitCount_0f7a4_1 : decode cJ6_bitCount_0f7a4 1 = .ok (.iload_n 0, 1) := by decide +kernel
theorem dJ6_bitCount_0f7a4_2 : decode cJ6_bitCount_0f7a4 2 = .ok (.iconst 1, 1) := by decide +kernel
theorem dJ6_bitCount_0f7a4_3 : decode cJ6_bitCount_0f7a4 3 = .ok (.iushr, 1) := by decide +kernel
theorem dJ6_bitCount_0f7a4_4 : decode cJ6_bitCount_0f7a4 4 = .ok (.ldc_w 265, 3) := by decide +kernel
theorem dJ6_bitCount_0f7a4_7 : decode cJ6_bitCount_0f7a4 7 = .ok (.iand, 1) := by decide +kernel
theorem dJ6_bitCount_0f7a4_8 : decode cJ6_bitCount_0f7a4 8 = .ok (.isub, 1) := by decide +kernel
theorem dJ6_bitCount_0f7a4_9 : decode cJ6_bitCount_0f7a4 9 = .ok (.istore_n 0, 1) := by decide +kernel
theorem dJ6_bitCount_0f7a4_10 : decode cJ6_bitCount_0f7a4 10 = .ok (.iload_n 0, 1) := by decide +kernel
theorem dJ6_bitCount_0f7a4_11 : decode cJ6_bitCount_0f7a4 11 = .ok (.ldc_w 266, 3) := by decide +kernel
theorem dJ6_bitCount_0f7a4_14 : decode cJ6_bitCount_0f7a4 14 = .ok (.iand, 1) := by decide +kernel
theorem dJ6_bitCount_0f7a4_15 : decode cJ6_bitCount_0f7a4 15 = .ok (.iload_n 0, 1) := by decide +kernel
theorem dJ6_bitCount_0f7a4_16 : decode cJ6_bitCount_0f7a4 16 = .ok (.iconst 2, 1) := by decide +kernel
theorem dJ6_bitCount_0f7a4_17 : decode cJ6_bitCount_0f7a4 17 = .ok (.iushr, 1) := by decide +kernel
theorem dJ6_bitCount_0f7a4_18 : decode cJ6_bitCount_0f7a4 18 = .ok (.ldc_w 266, 3) := by decide +kernel
theorem dJ6_bitCount_0f7a4_21 : decode cJ6_bitCount_0f7a4 21 = .ok (.iand, 1) := by decide +kernel
theorem dJ6_bitCount_0f7a4_22 : decode cJ6_bitCount_0f7a4 22 = .ok (.iadd, 1) := by decide +kernel
theorem dJ6_bitCount_0f7a4_23 : decode cJ6_bitCount_0f7a4 23 = .ok (.istore_n 0, 1) := by decide +kernel
theorem dJ6_bitCount_0f7a4_24 : decode cJ6_bitCount_0f7a4 24 = .ok (.iload_n 0, 1) := by decide +kernel
theorem dJ6_bitCount_0f7a4_25 : decode cJ6_bitCount_0f7a4 25 = .ok (.iload_n 0, 1) := by decide +kernel
theorem dJ6_bitCount_0f7a4_26 : decode cJ6_bitCount_0f7a4 26 = .ok (.iconst 4, 1) := by decide +kernel
theorem dJ6_bitCount_0f7a4_27 : decode cJ6_bitCount_0f7a4 27 = .ok (.iushr, 1) := by decide +kernel
theorem dJ6_bitCount_0f7a4_28 : decode cJ6_bitCount_0f7a4 28 = .ok (.iadd, 1) := by decide +kernel
theorem dJ6_bitCount_0f7a4_29 : decode cJ6_bitCount_0f7a4 29 = .ok (.ldc_w 267, 3) := by decide +kernel
theorem dJ6_bitCount_0f7a4_32 : decode cJ6_bitCount_0f7a4 32 = .ok (.iand, 1) := by decide +kernel
theorem dJ6_bitCount_0f7a4_33 : decode cJ6_bitCount_0f7a4 33 = .ok (.istore_n 0, 1) := by decide +kernel
theorem dJ6_bitCount_0f7a4_34 : decode cJ6_bitCount_0f7a4 34 = .ok (.iload_n 0, 1) := by decide +kernel
theorem dJ6_bitCount_0f7a4_35 : decode cJ6_bitCount_0f7a4 35 = .ok (.iload_n 0, 1) := by decide +kernel
theorem dJ6_bitCount_0f7a4_36 : decode cJ6_bitCount_0f7a4 36 = .ok (.bipush 8, 2) := by decide +kernel
theorem dJ6_bitCount_0f7a4_38 : decode cJ6_bitCount_0f7a4 38 = .ok (.iushr, 1) := by decide +kernel
theorem dJ6_bitCount_0f7a4_39 : decode cJ6_bitCount_0f7a4 39 = .ok (.iadd, 1) := by decide +kernel
theorem dJ6_bitCount_0f7a4_40 : decode cJ6_bitCount_0f7a4 40 = .ok (.istore_n 0, 1) := by decide +kernel
theorem dJ6_bitCount_0f7a4_41 : decode cJ6_bitCount_0f7a4 41 = .ok (.iload_n 0, 1) := by decide +kernel
theorem dJ6_bitCount_0f7a4_42 : decode cJ6_bitCount_0f7a4 42 = .ok (.iload_n 0, 1) := by decide +kernel
theorem dJ6_bitCount_0f7a4_43 : decode cJ6_bitCount_0f7a4 43 = .ok (.bipush 16, 2) := by decide +kernel
theorem dJ6_bitCount_0f7a4_45 : decode cJ6_bitCount_0f7a4 45 = .ok (.iushr, 1) := by decide +kernel
theorem dJ6_bitCount_0f7a4_46 : decode cJ6_bitCount_0f7a4 46 = .ok (.iadd, 1) := by decide +kernel
theorem dJ6_bitCount_0f7a4_47 : decode cJ6_bitCount_0f7a4 47 = .ok (.istore_n 0, 1) := by decide +kernel
theorem dJ6_bitCount_0f7a4_48 : decode cJ6_bitCount_0f7a4 48 = .ok (.iload_n 0, 1) := by decide +kernel
theorem dJ6_bitCount_0f7a4_49 : decode cJ6_bitCount_0f7a4 49 = .ok (.bipush 63, 2) := by decide +kernel
theorem dJ6_bitCount_0f7a4_51 : decode cJ6_bitCount_0f7a4 51 = .ok (.iand, 1) := by decide +kernel
theorem dJ6_bitCount_0f7a4_52 : decode cJ6_bitCount_0f7a4 52 = .ok (.ireturn, 1) := by decide +kernel
theorem dJ7_fill_53178_0 : decode cJ7_fill_53178 0 = .ok (.iconst 0, 1) := by decide +kernel
theorem dJ7_fill_53178_1 : decode cJ7_fill_53178 1 = .ok (.istore_n 2, 1) := by decide +kernel
theorem dJ7_fill_53178_2 : decode cJ7_fill_53178 2 = .ok (.aload_n 0, 1) := by decide +kernel
theorem dJ7_fill_53178_3 : decode cJ7_fill_53178 3 = .ok (.arraylength, 1) := by decide +kernel
theorem dJ7_fill_53178_4 : decode cJ7_fill_53178 4 = .ok (.istore_n 3, 1) := by decide +kernel
theorem dJ7_fill_53178_5 : decode cJ7_fill_53178 5 = .ok (.iload_n 2, 1) := by decide +kernel
theorem dJ7_fill_53178_6 : decode cJ7_fill_53178 6 = .ok (.iload_n 3, 1) := by decide +kernel
theorem dJ7_fill_53178_7 : decode cJ7_fill_53178 7 = .ok (.if_icmp .ge 13, 3) := by decide +kernel
theorem dJ7_fill_53178_10 : decode cJ7_fill_53178 10 = .ok (.aload_n 0, 1) := by decide +kernel
theorem dJ7_fill_53178_11 : decode cJ7_fill_53178 11 = .ok (.iload_n 2, 1) := by decide +kernel
theorem dJ7_fill_53178_12 : decode cJ7_fill_53178 12 = .ok (.iload_n 1, 1) := by decide +kernel
theorem dJ7_fill_53178_13 : decode cJ7_fill_53178 13 = .ok (.iastore, 1) := by decide +kernel
theorem dJ7_fill_53178_14 : decode cJ7_fill_53178 14 = .ok (.iinc 2 1, 3) := by decide +kernel
theorem dJ7_fill_53178_17 : decode cJ7_fill_53178 17 = .ok (.goto (-12), 3) := by decide +kernel
theorem dJ7_fill_53178_20 : decode cJ7_fill_53178 20 = .ok (.return_, 1) := by decide +kernel
set_option maxHeartbeats 4000000 in
set_option maxRecDepth 100000 in
/-- Arrays.fill(a, v): the first n of the row are v -/
theorem mJ7_fill (l : Launch) (D : va_G) (cA : ClassId) {A : Nat → Prop} (Wd : (Nat → Int32) → va_W) (q a n : Nat) (hn : n < 2 ^ 31) (h1 : ∀ f, (Wd f)[q]? = some (a, .inl (cA, n, .inl f))) (h2 : ∀ f f', (Wd f).set q (a, .inl (cA, n, .inl f')) = Wd f') (hD : ∀ f, va_D A (Wd f)) (f : Nat → Int32) (v : Int32) : Met l yJ7_fill_53178 (wM yJ7_fill_53178 cJ7_fill_53178 4 none) ({ frames := 0, cells := 0, slots := 0, locals := 0 }) (va_Pc [.ref a, .int v] (pW D cA (Wd f))) (qW D (Wd (fillF f n v)) A none) 0 0 A := by
  refine sy_of (by decide) (Nat.le_of_ble_eq_true rfl) ?_
  intro p e s m below meth c ls C hr hlk hK hN hP hl
  obtain ⟨hx, hb, hml, hown, hts⟩ := id C
  have hl : lv_has ls 4 [(0, .ref a), (1, .int v)] := hl
  have hS : va_S A s.heap s.heap [] := va_S.rf
  refine lv_iconst (v := 0) hx hb dJ7_fill_53178_0 (by decide) ?_
  refine lv_istore_n (lv' := [(2, .int 0), (0, .ref a), (1, .int v)]) hx hb dJ7_fill_53178_1 rfl hl (by decide) rfl (fun ls hl => ?_)
  refine lv_aload_n hx hb dJ7_fill_53178_2 rfl (lv_at hl 1 rfl) ?_
  refine va_alen hx hb hK hP q 0 (h1 f) rfl (v := nI n) rfl dJ7_fill_53178_3 ?_
  refine lv_istore_n (lv' := [(3, .int (nI n)), (2, .int 0), (0, .ref a), (1, .int v)]) hx hb dJ7_fill_53178_4 rfl hl (by decide) rfl (fun ls hl => ?_)
  have hL : ∀ (d k : Nat), k + d = n → ∀ (H : Heap) (locs : List Loc), va_P D vwCl (Wd (fillF f k v)) H → va_S A s.heap H locs → ∀ ls : Array Slot, lv_has ls 4 [(2, .int (nI k)), (3, .int (nI n)), (0, .ref a), (1, .int v)] → W p l e ({ frames := 0, cells := 0, slots := 0, locals := 0 }) s m ([.ref a, .int v] : List Value).toArray below meth c H locs 0 0 (MQ below (qW D (Wd (fillF f n v)) A none) ([.ref a, .int v] : List Value).toArray s 0 0 A) (F0 m 5 ls []) := by
    intro d
    induction d with
    | zero =>
      intro k hk H locs hP hS ls hl
      have ek : k = n := by omega
      subst ek
      refine lv_iload_n hx hb dJ7_fill_53178_5 rfl (lv_at hl 0 rfl) ?_
      refine lv_iload_n hx hb dJ7_fill_53178_6 rfl (lv_at hl 1 rfl) ?_
      refine lv_icmp_ge (tgt := 20) hx hb dJ7_fill_53178_7 (by decide) (fun c_1 => ?_) (fun c_1 => ?_)
      · exact W.vret hx hb hr (fun t ht _ => ⟨rfl, by rw [ht]; exact hP, hS.F ht⟩) hS.2.2 dJ7_fill_53178_20 hlk
      · exact absurd (nI_le (Nat.le_refl _) hn) c_1
    | succ d ih =>
      intro k hk H locs hP hS ls hl
      refine lv_iload_n hx hb dJ7_fill_53178_5 rfl (lv_at hl 0 rfl) ?_
      refine lv_iload_n hx hb dJ7_fill_53178_6 rfl (lv_at hl 1 rfl) ?_
      refine lv_icmp_ge (tgt := 20) hx hb dJ7_fill_53178_7 (by decide) (fun c_1 => ?_) (fun c_1 => ?_)
      · exact absurd c_1 (nI_ge (by omega) hn)
      · refine lv_aload_n hx hb dJ7_fill_53178_10 rfl (lv_at hl 2 rfl) ?_
        refine lv_iload_n hx hb dJ7_fill_53178_11 rfl (lv_at hl 0 rfl) ?_
        refine lv_iload_n hx hb dJ7_fill_53178_12 rfl (lv_at hl 3 rfl) ?_
        refine va_iast hx hb hK hP (hD _) hS q 0 (h1 _) rfl (nI_in (by omega) hn) dJ7_fill_53178_13 (fun H locs hP _ hS => ?_)
        rw [nI_clamp (by omega), h2, fillF_succ] at hP
        refine lv_iinc (v := nI (k + 1)) (lv' := [(2, .int (nI (k + 1))), (3, .int (nI n)), (0, .ref a), (1, .int v)]) hx hb dJ7_fill_53178_14 hl (k := 0) rfl (by rw [nI_succ]; rfl) (by decide) rfl (fun ls hl => ?_)
        refine lv_goto (tgt := 5) hx hb dJ7_fill_53178_17 (by decide) ?_
        exact ih (k + 1) (by omega) H locs hP hS ls hl
  exact hL n 0 (by omega) s.heap [] (by rw [fillF_0]; exact hP) hS ls (lv_sub hl [1, 0, 2, 3] rfl)

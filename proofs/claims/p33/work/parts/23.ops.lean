/-! OPERATIONS: what each does to a piece -/
theorem putMark_at (π : Sg) {c : Nat} (hc : c < 64) (v : Int32) : f3_putMark π (nI c) v = sa π 0 c v := by
  unfold f3_putMark
  rw [if_neg (nI_pos (by omega)), if_neg (by rw [show (64 : Int32) = nI 64 from rfl, nIle (by omega) (by omega)]; omega), nI_cl (by omega)]
theorem putWork_at (π : Sg) {c : Nat} (hc : c < 64) (v : Int32) : f3_putWork π (nI c) v = sa π 1 c v := by
  unfold f3_putWork
  rw [if_neg (nI_pos (by omega)), if_neg (by rw [show (64 : Int32) = nI 64 from rfl, nIle (by omega) (by omega)]; omega), nI_cl (by omega)]
theorem putHard_at (π : Sg) {c : Nat} (hc : c < 64) (v : Int32) : f3_putHard π (nI c) v = sa π 2 c v := by
  unfold f3_putHard
  rw [if_neg (nI_pos (by omega)), if_neg (by rw [show (64 : Int32) = nI 64 from rfl, nIle (by omega) (by omega)]; omega), nI_cl (by omega)]
theorem mk_sa0 (π : Sg) (c : Nat) (v : Int32) (j : Nat) : mk (sa π 0 c v) j = if j = c then v.toInt else mk π j := by
  show (if j = c then v else π.2 0 j).toInt = _
  by_cases h : j = c
  · rw [if_pos h, if_pos h]
  · rw [if_neg h, if_neg h]; rfl
theorem wk_sa0 (π : Sg) (c : Nat) (v : Int32) (j : Nat) : wk (sa π 0 c v) j = wk π j := rfl
theorem hk_sa0 (π : Sg) (c : Nat) (v : Int32) (j : Nat) : hk (sa π 0 c v) j = hk π j := rfl
theorem mk_sa1 (π : Sg) (c : Nat) (v : Int32) (j : Nat) : mk (sa π 1 c v) j = mk π j := rfl
theorem wk_sa1 (π : Sg) (c : Nat) (v : Int32) (j : Nat) : wk (sa π 1 c v) j = if j = c then v.toInt else wk π j := by
  show (if j = c then v else π.2 1 j).toInt = _
  by_cases h : j = c
  · rw [if_pos h, if_pos h]
  · rw [if_neg h, if_neg h]; rfl
theorem hk_sa1 (π : Sg) (c : Nat) (v : Int32) (j : Nat) : hk (sa π 1 c v) j = hk π j := rfl
theorem mk_sa2 (π : Sg) (c : Nat) (v : Int32) (j : Nat) : mk (sa π 2 c v) j = mk π j := rfl
theorem wk_sa2 (π : Sg) (c : Nat) (v : Int32) (j : Nat) : wk (sa π 2 c v) j = wk π j := rfl
theorem hk_sa2 (π : Sg) (c : Nat) (v : Int32) (j : Nat) : hk (sa π 2 c v) j = if j = c then v.toInt else hk π j := by
  show (if j = c then v else π.2 2 j).toInt = _
  by_cases h : j = c
  · rw [if_pos h, if_pos h]
  · rw [if_neg h, if_neg h]; rfl
theorem GP_mark {n : Nat} {B : Int} {π : Sg} (hG : GP n B π) {c : Nat} {v : Int32} (h1 : 1 ≤ v.toInt) (h2 : v.toInt ≤ 9) : GP n B (sa π 0 c v) := by
  obtain ⟨a, b, d, e⟩ := hG
  refine ⟨fun j hj => ?_, fun j hj => ?_, d, e⟩
  · rw [mk_sa0]
    split
    · omega
    · exact a j hj
  · rw [mk_sa0, wk_sa0, hk_sa0]
    refine ⟨(b j hj).1, (b j hj).2.1, ?_⟩
    split
    · omega
    · exact (b j hj).2.2
theorem GP_work {n : Nat} {B : Int} {π : Sg} (hG : GP n B π) {c : Nat} {v : Int32} (h1 : 0 ≤ v.toInt) (h2 : v.toInt ≤ 20) (h3 : c < n → mk π c = 0 → v.toInt = 0) : GP n B (sa π 1 c v) := by
  obtain ⟨a, b, d, e⟩ := hG
  refine ⟨a, fun j hj => ?_, d, e⟩
  rw [mk_sa1, wk_sa1, hk_sa1]
  have := b j hj
  by_cases hc : j = c
  · subst hc
    rw [if_pos rfl]
    exact ⟨⟨h1, h2⟩, this.2.1, fun q => ⟨h3 hj q, (this.2.2 q).2⟩⟩
  · rw [if_neg hc]
    exact this
theorem GP_hard {n : Nat} {B : Int} {π : Sg} (hG : GP n B π) {c : Nat} {v : Int32} (h1 : v.toInt = 0 ∨ v.toInt = 1) (h3 : c < n → mk π c = 0 → v.toInt = 0) : GP n B (sa π 2 c v) := by
  obtain ⟨a, b, d, e⟩ := hG
  refine ⟨a, fun j hj => ?_, d, e⟩
  rw [mk_sa2, wk_sa2, hk_sa2]
  have := b j hj
  by_cases hc : j = c
  · subst hc
    rw [if_pos rfl]
    exact ⟨this.1, h1, fun q => ⟨(this.2.2 q).1, h3 hj q⟩⟩
  · rw [if_neg hc]
    exact this
/-- numbers are drawn: the rows stay -/
def Dr (π π' : Sg) (d : Int) : Prop := π'.2 = π.2 ∧ (0 ≤ (π'.1 0).toInt ∧ (π'.1 0).toInt < 8191) ∧ (π'.1 1).toInt = (π.1 1).toInt + d
theorem Dr.trans {a b c : Sg} {d e : Int} (h1 : Dr a b d) (h2 : Dr b c e) : Dr a c (d + e) := ⟨h2.1.trans h1.1, h2.2.1, by rw [h2.2.2, h1.2.2]; omega⟩
theorem Dr.mk {a b : Sg} {d : Int} (h : Dr a b d) (c : Nat) : mk b c = mk a c := by
  show (b.2 0 c).toInt = (a.2 0 c).toInt
  rw [h.1]
theorem Dr.wk {a b : Sg} {d : Int} (h : Dr a b d) (c : Nat) : wk b c = wk a c := by
  show (b.2 1 c).toInt = (a.2 1 c).toInt
  rw [h.1]
theorem Dr.hk {a b : Sg} {d : Int} (h : Dr a b d) (c : Nat) : hk b c = hk a c := by
  show (b.2 2 c).toInt = (a.2 2 c).toInt
  rw [h.1]
theorem Dr.GP {n : Nat} {B d : Int} {a b : Sg} (h : Dr a b d) (hd : 0 ≤ d) (hG : GP n B a) : GP n (B + d) b := by
  refine ⟨fun c hc => ?_, fun c hc => ?_, h.2.1, ?_⟩
  · rw [h.mk]; exact hG.1 c hc
  · rw [h.mk, h.wk, h.hk]; exact hG.2.1 c hc
  · have := hG.2.2.2
    rw [h.2.2]
    omega
theorem drawBelow_at {n : Nat} {B : Int} {π : Sg} (hG : GP n B π) (hB : B < 1000000) {m : Nat} (hm : 0 < m) (hm2 : m < 1000000) : (∃ k, k < m ∧ (f3_drawBelow π (nI m)).1 = nI k) ∧ Dr π (f3_drawBelow π (nI m)).2 1 := by
  obtain ⟨n0, n1⟩ := hG.2.2.1
  obtain ⟨d0, d1⟩ := hG.2.2.2
  have em : (nI m).toInt = (m : Int) := nI_int (by omega)
  have hne : ¬ nI m ≤ 0 := by rw [z_le, em, i0]; omega
  unfold f3_drawBelow
  rw [if_neg hne]
  have e17 : (17 * (π.1 0)).toInt = 17 * (π.1 0).toInt := by rw [z_mul, i17] <;> (try rw [i17]) <;> omega
  have e23 : (17 * (π.1 0) + 23).toInt = 17 * (π.1 0).toInt + 23 := by rw [z_add, e17, i23] <;> (try rw [e17, i23]) <;> omega
  refine ⟨⟨((π.1 0).toInt % (m : Int)).toNat, ?_, ?_⟩, rfl, ?_, ?_⟩
  · have := Int.emod_lt_of_pos (π.1 0).toInt (b := (m : Int)) (by omega)
    have := Int.emod_nonneg (π.1 0).toInt (b := (m : Int)) (by omega)
    omega
  · refine z_eq.mpr ?_
    have r0 := Int.emod_nonneg (π.1 0).toInt (b := (m : Int)) (by omega)
    have r1 := Int.emod_lt_of_pos (π.1 0).toInt (b := (m : Int)) (by omega)
    show ((π.1 0) - (π.1 0) / nI m * nI m).toInt = _
    rw [z_rem n0 (by omega), em, nI_int (by omega)]
    omega
  · show 0 ≤ (((17 * (π.1 0)) + 23) - ((17 * (π.1 0)) + 23) / 8191 * 8191).toInt ∧ (((17 * (π.1 0)) + 23) - ((17 * (π.1 0)) + 23) / 8191 * 8191).toInt < 8191
    rw [z_rem (by omega) (by rw [i8191]; omega), i8191]
    omega
  · show ((π.1 1) + 1).toInt = _
    rw [z_add (by rw [i1]; omega) (by rw [i1]; omega), i1]
/-- what sweeps, rolls and births keep: hard ones stay, keep their marks, have no more work; none becomes a particle; numbers are drawn -/
def St (n : Nat) (π π' : Sg) : Prop := (∀ c, c < n → hk π' c = hk π c ∧ (mk π c ≠ 0 → mk π' c ≠ 0) ∧ (hk π c = 1 → mk π' c = mk π c ∧ wk π' c ≤ wk π c)) ∧ (π.1 1).toInt ≤ (π'.1 1).toInt
theorem St.rf (n : Nat) (π : Sg) : St n π π := ⟨fun _ _ => ⟨rfl, fun h => h, fun _ => ⟨rfl, Int.le_refl _⟩⟩, Int.le_refl _⟩
theorem St.trans {n : Nat} {a b c : Sg} (h1 : St n a b) (h2 : St n b c) : St n a c := by
  refine ⟨fun j hj => ?_, Int.le_trans h1.2 h2.2⟩
  obtain ⟨p1, p2, p3⟩ := h1.1 j hj
  obtain ⟨q1, q2, q3⟩ := h2.1 j hj
  refine ⟨q1.trans p1, fun h => q2 (p2 h), fun h => ?_⟩
  obtain ⟨r1, r2⟩ := p3 h
  obtain ⟨r3, r4⟩ := q3 (p1.trans h)
  exact ⟨r3.trans r1, Int.le_trans r4 r2⟩
/-- particles -/
def pc (n : Nat) (π : Sg) : Int := SI (fun c => if mk π c = 0 then 1 else 0) n
theorem pc_bd (n : Nat) (π : Sg) : 0 ≤ pc n π ∧ pc n π ≤ (n : Int) := by
  have h := SI_bd (g := fun c => if mk π c = 0 then 1 else 0) (n := n) (B := 1) (fun k _ => by
    show (0 : Int) ≤ (if mk π k = 0 then 1 else 0) ∧ (if mk π k = 0 then 1 else 0) ≤ (1 : Int)
    split <;> omega)
  rw [Int.mul_one] at h
  exact h
theorem pc_eq {n : Nat} {a b : Sg} (h : ∀ c, c < n → (mk b c = 0 ↔ mk a c = 0)) : pc n b = pc n a := SI_congr (fun c hc => by
  have := h c hc
  by_cases e : mk a c = 0
  · rw [if_pos e, if_pos (this.mpr e)]
  · rw [if_neg e, if_neg (fun q => e (this.mp q))])
def Ml (n : Nat) (k : Int) (a b : Sg) : Prop := pc n a - k ≤ pc n b ∧ pc n b ≤ pc n a
def Rl (n : Nat) (k : Int) (a b : Sg) : Prop := St n a b ∧ Ml n k a b
theorem Rl.rf (n : Nat) (π : Sg) : Rl n 0 π π := ⟨St.rf n π, by unfold Ml; omega⟩
theorem Rl.trans {n : Nat} {k m : Int} {a b c : Sg} (h1 : Rl n k a b) (h2 : Rl n m b c) : Rl n (k + m) a c := ⟨h1.1.trans h2.1, by
  have p := h1.2
  have q := h2.2
  unfold Ml at p q ⊢
  omega⟩
theorem Dr.Rl {n : Nat} {a b : Sg} {d : Int} (h : Dr a b d) (hd : 0 ≤ d) : Rl n 0 a b := by
  refine ⟨⟨fun c _ => ?_, by rw [h.2.2]; omega⟩, ?_⟩
  · rw [h.mk, h.wk, h.hk]
    exact ⟨rfl, fun h => h, fun _ => ⟨rfl, Int.le_refl _⟩⟩
  · have := pc_eq (n := n) (a := a) (b := b) (fun c _ => by rw [h.mk])
    unfold Ml
    omega
/-- a mark that is none of a particle, of a cell that isn't hard and is no particle; its work -/
theorem Rl_mark {n : Nat} {B : Int} {π : Sg} (hG : GP n B π) {c : Nat} {v : Int32} (hh : hk π c ≠ 1) (hm : mk π c ≠ 0) (hv : v.toInt ≠ 0) : Rl n 0 π (sa π 0 c v) := by
  refine ⟨⟨fun j hj => ?_, Int.le_refl _⟩, ?_⟩
  · rw [mk_sa0, wk_sa0, hk_sa0]
    refine ⟨rfl, fun h => ?_, fun h => ?_⟩
    · split
      · exact hv
      · exact h
    · by_cases e : j = c
      · subst e
        exact absurd h hh
      · rw [if_neg e]
        exact ⟨rfl, Int.le_refl _⟩
  · have := pc_eq (n := n) (a := π) (b := sa π 0 c v) (fun j _ => by
      rw [mk_sa0]
      by_cases e : j = c
      · subst e
        rw [if_pos rfl]
        exact ⟨fun q => absurd q hv, fun q => absurd q hm⟩
      · rw [if_neg e])
    unfold Ml
    omega
theorem Rl_work {n : Nat} {π : Sg} {c : Nat} {v : Int32} (hh : hk π c = 1 → v.toInt ≤ wk π c) : Rl n 0 π (sa π 1 c v) := by
  refine ⟨⟨fun j hj => ?_, Int.le_refl _⟩, ?_⟩
  · rw [mk_sa1, wk_sa1, hk_sa1]
    refine ⟨rfl, fun h => h, fun h => ⟨rfl, ?_⟩⟩
    by_cases e : j = c
    · subst e
      rw [if_pos rfl]
      exact hh h
    · rw [if_neg e]
      exact Int.le_refl _
  · have := pc_eq (n := n) (a := π) (b := sa π 1 c v) (fun j _ => by rw [mk_sa1])
    unfold Ml
    omega
section
variable {τ ρ π : Sg} {w h : Nat}
theorem changeBy_at (hS : Shp τ w h) (hR : GR ρ) {B : Int} (hG : GP (w * h) B π) {c o : Nat} (hc : c < w * h) (ho : o < w * h) (hmc : mk π c ≠ 0) (hmo : mk π o ≠ 0) : (f3_changeBy τ ρ π (nI c) (nI o)).toInt = (if wk π o = 0 then (-2) * wk π c else 0) + Lm (fun b => mfz ρ (mk π o) (mk π b) - mfz ρ (mk π c) (mk π b)) (nbL w h c) ∧ -100 ≤ (f3_changeBy τ ρ π (nI c) (nI o)).toInt ∧ (f3_changeBy τ ρ π (nI c) (nI o)).toInt ≤ 100 := by
  have h36 := hS.n36
  have h4 := nbL_len w h c
  have bc := hG.1 c (by omega)
  have bo := hG.1 o (by omega)
  have wc := (hG.2.1 c hc).1
  have wo := (hG.2.1 o ho).1
  have ec : ¬ π.2 0 c = 0 := fun e => hmc (by show (π.2 0 c).toInt = 0; rw [e]; exact i0)
  have eo : ¬ π.2 0 o = 0 := fun e => hmo (by show (π.2 0 o).toInt = 0; rw [e]; exact i0)
  have hb : ∀ b, b ∈ nbL w h c → (0 ≤ mfz ρ (mk π o) (mk π b) ∧ mfz ρ (mk π o) (mk π b) ≤ 9) ∧ 0 ≤ mfz ρ (mk π c) (mk π b) ∧ mfz ρ (mk π c) (mk π b) ≤ 9 := fun b hb => by
    have b0 := (nbL_ok hS.2.2.2.1 hS.2.2.2.2.1 hc).1 b hb
    have b1 := hG.1 b (by omega)
    exact ⟨(hR.1 _ _ bo.1 bo.2 b1.1 b1.2).1, (hR.1 _ _ bc.1 bc.2 b1.1 b1.2).1⟩
  have loop : ∀ x : Int32, -40 ≤ x.toInt → x.toInt ≤ 0 → (f3_changeBy_L49 τ ρ π (nI c) (nI o) (π.2 0 c) (π.2 0 o) 8589934592 x 0).1.toInt = x.toInt + Lm (fun b => mfz ρ (mk π o) (mk π b) - mfz ρ (mk π c) (mk π b)) (nbL w h c) := fun x hx1 hx2 => by
    have := loop_sum0 (F := f3_changeBy_L49 τ ρ π (nI c) (nI o) (π.2 0 c) (π.2 0 o)) (gi := fun i => (f4_misfitOf ρ (π.2 0 o) (f3_markAt π (f5_beside τ (nI c) i))) - (f4_misfitOf ρ (π.2 0 c) (f3_markAt π (f5_beside τ (nI c) i)))) (n := (nbL w h c).length) (b := f5_besideMany τ (nI c)) (besideMany_at hS hc) (by omega) (fun f x i => by
      rw [f3_changeBy_L49_s]) (B := 9) (by omega) (fun k => mfz ρ (mk π o) (mk π ((nbL w h c).getD k 0)) - mfz ρ (mk π c) (mk π ((nbL w h c).getD k 0))) (f := 8589934592) (x := x) (by omega) (fun k hk => by
      show ((f4_misfitOf ρ (π.2 0 o) (f3_markAt π (f5_beside τ (nI c) (nI k)))) - (f4_misfitOf ρ (π.2 0 c) (f3_markAt π (f5_beside τ (nI c) (nI k))))).toInt = _ ∧ _
      have hl := nb_lt hS hc hk
      have q := hb _ (nb_mem hk)
      have b1 := hG.1 ((nbL w h c).getD k 0) (by omega)
      have m1 := misfitOf_at (ρ := ρ) (x := π.2 0 o) (y := π.2 0 ((nbL w h c).getD k 0)) bo.1 bo.2 b1.1 b1.2
      have m2 := misfitOf_at (ρ := ρ) (x := π.2 0 c) (y := π.2 0 ((nbL w h c).getD k 0)) bc.1 bc.2 b1.1 b1.2
      rw [beside_at hS hc hk, markAt_at π (by omega)]
      have m1 : (f4_misfitOf ρ (π.2 0 o) (π.2 0 ((nbL w h c).getD k 0))).toInt = mfz ρ (mk π o) (mk π ((nbL w h c).getD k 0)) := m1
      have m2 : (f4_misfitOf ρ (π.2 0 c) (π.2 0 ((nbL w h c).getD k 0))).toInt = mfz ρ (mk π c) (mk π ((nbL w h c).getD k 0)) := m2
      rw [z_sub (by omega) (by omega), m1, m2]
      exact ⟨rfl, by omega, by omega⟩) (by omega) (by omega)
    rw [this, Lm_getD (fun b => mfz ρ (mk π o) (mk π b) - mfz ρ (mk π c) (mk π b))]
  have bd : -36 ≤ Lm (fun b => mfz ρ (mk π o) (mk π b) - mfz ρ (mk π c) (mk π b)) (nbL w h c) ∧ Lm (fun b => mfz ρ (mk π o) (mk π b) - mfz ρ (mk π c) (mk π b)) (nbL w h c) ≤ 36 := by
    rw [Lm_sub]
    have b1 := Lm_bd (f := fun b => mfz ρ (mk π o) (mk π b)) (B := 9) (by omega) (l := nbL w h c) (fun b q => (hb b q).1)
    have b2 := Lm_bd (f := fun b => mfz ρ (mk π c) (mk π b)) (B := 9) (by omega) (l := nbL w h c) (fun b q => (hb b q).2)
    omega
  have key : (f3_changeBy τ ρ π (nI c) (nI o)).toInt = (if wk π o = 0 then (-2) * wk π c else 0) + Lm (fun b => mfz ρ (mk π o) (mk π b) - mfz ρ (mk π c) (mk π b)) (nbL w h c) := by
    unfold f3_changeBy
    rw [markAt_at π (by omega), markAt_at π (by omega), workAt_at π (by omega), workAt_at π (by omega), if_neg ec, if_neg eo]
    have e1 : ((-2) * (π.2 1 c) : Int32).toInt = (-2) * wk π c := by
      have q : (π.2 1 c).toInt = wk π c := rfl
      rw [z_mul (by rw [im2, q]; omega) (by rw [im2, q]; omega), im2, q]
    by_cases c1 : wk π o = 0
    · rw [if_pos c1, if_pos (z_eq.mpr (c1.trans i0.symm)), loop _ (by omega) (by omega), e1]
    · rw [if_neg c1, if_neg (fun e => c1 (by show (π.2 1 o).toInt = 0; rw [e]; exact i0)), loop 0 (by rw [i0]; omega) (by rw [i0]; omega), i0]
  refine ⟨key, ?_, ?_⟩ <;> rw [key] <;> split <;> omega
/-- all misfits, where one mark is another one -/
theorem mA_upd (hS : Shp τ w h) (hR : GR ρ) {B B' : Int} {π' : Sg} (hG : GP (w * h) B π) (hG' : GP (w * h) B' π') {c : Nat} (hc : c < w * h) (hm : ∀ j, j < w * h → j ≠ c → mk π' j = mk π j) : SI (mA ρ π' w h) (w * h) = SI (mA ρ π w h) (w * h) + 2 * Lm (fun b => mfz ρ (mk π' c) (mk π b) - mfz ρ (mk π c) (mk π b)) (nbL w h c) := by
  have h36 := hS.n36
  have hw := hS.2.2.2.1
  have hh := hS.2.2.2.2.1
  have e1 := PL_LL (fun a b => mfz ρ (mk π a) (mk π b)) hw hh
  have e2 := PL_LL (fun a b => mfz ρ (mk π' a) (mk π' b)) hw hh
  have e3 := PL_LL (fun a b => if a = c then mfz ρ (mk π' c) (mk π b) - mfz ρ (mk π c) (mk π b) else 0) hw hh
  have e4 : SI (fun a => Lm (fun b => if a = c then mfz ρ (mk π' c) (mk π b) - mfz ρ (mk π c) (mk π b) else 0) (nbL w h a)) (w * h) = Lm (fun b => mfz ρ (mk π' c) (mk π b) - mfz ρ (mk π c) (mk π b)) (nbL w h c) := by
    have := SI_single c (Lm (fun b => mfz ρ (mk π' c) (mk π b) - mfz ρ (mk π c) (mk π b)) (nbL w h c)) (w * h)
    rw [if_pos hc] at this
    rw [← this]
    refine SI_congr (fun a _ => ?_)
    by_cases e : a = c
    · subst e
      rw [if_pos rfl]
      exact Lm_congr (fun b _ => by rw [if_pos rfl])
    · rw [if_neg e]
      have : ∀ l : List Nat, Lm (fun _ => (0 : Int)) l = 0 := fun l => by
        induction l with
        | nil => rfl
        | cons a l ih => rw [Lm_cons, ih]; rfl
      exact (Lm_congr (g := fun _ => 0) (fun b _ => by rw [if_neg e])).trans (this _)
  show SI (fun c => Lm (fun o => mfz ρ (mk π' c) (mk π' o)) (nbL w h c)) (w * h) = SI (fun c => Lm (fun o => mfz ρ (mk π c) (mk π o)) (nbL w h c)) (w * h) + _
  rw [e2, e1, ← e4, e3]
  have two : ∀ (f : Nat × Nat → Int) (l : List (Nat × Nat)), 2 * Lm f l = Lm (fun p => 2 * f p) l := fun f l => by
    induction l with
    | nil => rfl
    | cons a l ih => rw [Lm_cons, Lm_cons, ← ih]; omega
  rw [two, ← Lm_add]
  refine Lm_congr (fun p hp => ?_)
  obtain ⟨p1, p2, p3⟩ := LL_ok hw hh hp
  have b1 := hG.1 p.1 (by omega)
  have b2 := hG.1 p.2 (by omega)
  have bc := hG.1 c (by omega)
  have bc' := hG'.1 c (by omega)
  by_cases c1 : p.1 = c
  · have c2 : ¬ p.2 = c := fun e => p3 (c1.trans e.symm)
    rw [if_pos c1, if_neg c2, hm p.2 p2 c2, c1]
    have s1 := (hR.1 _ _ bc'.1 bc'.2 b2.1 b2.2).2.1
    have s2 := (hR.1 _ _ bc.1 bc.2 b2.1 b2.2).2.1
    omega
  · rw [if_neg c1, hm p.1 p1 c1]
    by_cases c2 : p.2 = c
    · rw [if_pos c2, c2]
      have s1 := (hR.1 _ _ bc'.1 bc'.2 b1.1 b1.2).2.1
      have s2 := (hR.1 _ _ bc.1 bc.2 b1.1 b1.2).2.1
      omega
    · rw [if_neg c2, hm p.2 p2 c2]
      omega
/-- energy, as the document has it -/
def En (ρ π : Sg) (w h : Nat) : Int := SI (mA ρ π w h) (w * h) / 2 + 2 * SI (wk π) (w * h)
theorem En_Dr {d : Int} {π' : Sg} (hd : Dr π π' d) : En ρ π' w h = En ρ π w h := by
  have e1 : ∀ c, mA ρ π' w h c = mA ρ π w h c := fun c => by
    unfold mA
    rw [hd.mk]
    exact Lm_congr (fun o _ => by rw [hd.mk])
  unfold En
  rw [SI_congr (fun c _ => e1 c), SI_congr (g := wk π') (g' := wk π) (fun c _ => hd.wk c)]
/-- the body of a try, behind its numbers -/
def tryK (τ ρ : Sg) (a1 c o : Int32) (π2 π3 : Sg) (t : Int32) : Int32 × Sg :=
  if f3_markAt π2 o = 0 then (0, π2) else if f3_markAt π2 c = 0 then (0, π2) else if f3_markAt π2 o = f3_markAt π2 c then (0, π2) else if f3_hardAt π2 c = 1 then (0, π2) else
  if f3_changeBy τ ρ π3 c o ≤ 0 then (if f3_workAt (f3_putMark π3 c (f3_markAt π2 o)) o = 0 then (1, f3_putWork (f3_putMark π3 c (f3_markAt π2 o)) c 0) else (1, f3_putMark π3 c (f3_markAt π2 o)))
  else if 10 * f3_changeBy τ ρ π3 c o ≤ a1 * t then (if f3_workAt (f3_putMark π3 c (f3_markAt π2 o)) o = 0 then (1, f3_putWork (f3_putMark π3 c (f3_markAt π2 o)) c 0) else (1, f3_putMark π3 c (f3_markAt π2 o))) else (0, π3)
theorem tryOne_eq (a1 : Int32) : f3_tryOne τ ρ π a1 = tryK τ ρ a1 (f3_drawBelow π (f5_cells τ)).1 (f5_beside τ (f3_drawBelow π (f5_cells τ)).1 (f3_drawBelow (f3_drawBelow π (f5_cells τ)).2 (f5_besideMany τ (f3_drawBelow π (f5_cells τ)).1)).1) (f3_drawBelow (f3_drawBelow π (f5_cells τ)).2 (f5_besideMany τ (f3_drawBelow π (f5_cells τ)).1)).2 (f3_drawBelow (f3_drawBelow (f3_drawBelow π (f5_cells τ)).2 (f5_besideMany τ (f3_drawBelow π (f5_cells τ)).1)).2 10).2 (f3_drawBelow (f3_drawBelow (f3_drawBelow π (f5_cells τ)).2 (f5_besideMany τ (f3_drawBelow π (f5_cells τ)).1)).2 10).1 := rfl
/-- what a try, or a row of them, leaves -/
def Ty (ρ : Sg) (w h : Nat) (z : Prop) (π π' : Sg) : Prop := Rl (w * h) 0 π π' ∧ (z → En ρ π' w h ≤ En ρ π w h)
theorem Ty.trans {z : Prop} {a b c : Sg} (h1 : Ty ρ w h z a b) (h2 : Ty ρ w h z b c) : Ty ρ w h z a c := ⟨h1.1.trans h2.1, fun q => Int.le_trans (h2.2 q) (h1.2 q)⟩
theorem Ty.dr {z : Prop} {π' : Sg} {d : Int} (hd : Dr π π' d) (h0 : 0 ≤ d) : Ty ρ w h z π π' := ⟨hd.Rl h0, fun _ => by rw [En_Dr hd]; exact Int.le_refl _⟩
theorem tryK_at (hS : Shp τ w h) (hR : GR ρ) {B : Int} {π2 π3 : Sg} (hG2 : GP (w * h) B π2) (hd : Dr π2 π3 1) {a1 t : Int32} (ha : 0 ≤ a1.toInt ∧ a1.toInt ≤ 9) (ht : 0 ≤ t.toInt ∧ t.toInt < 10) {c o : Nat} (hc : c < w * h) (ho : o < w * h) (hoc : o ≠ c) : (0 ≤ (tryK τ ρ a1 (nI c) (nI o) π2 π3 t).1.toInt ∧ (tryK τ ρ a1 (nI c) (nI o) π2 π3 t).1.toInt ≤ 1) ∧ GP (w * h) (B + 1) (tryK τ ρ a1 (nI c) (nI o) π2 π3 t).2 ∧ Ty ρ w h (a1.toInt = 0) π2 (tryK τ ρ a1 (nI c) (nI o) π2 π3 t).2 := by
  have h36 := hS.n36
  have hG3 := hd.GP (by omega) hG2
  have hG2' : GP (w * h) (B + 1) π2 := ⟨hG2.1, hG2.2.1, hG2.2.2.1, hG2.2.2.2.1, by have := hG2.2.2.2.2; omega⟩
  have T0 : (0 ≤ ((0 : Int32), π2).1.toInt ∧ ((0 : Int32), π2).1.toInt ≤ 1) ∧ GP (w * h) (B + 1) ((0 : Int32), π2).2 ∧ Ty ρ w h (a1.toInt = 0) π2 ((0 : Int32), π2).2 := ⟨by show 0 ≤ (0 : Int32).toInt ∧ (0 : Int32).toInt ≤ 1; rw [i0]; omega, hG2', Rl.rf _ _, fun _ => Int.le_refl _⟩
  unfold tryK
  by_cases k1 : f3_markAt π2 (nI o) = 0
  · rw [if_pos k1]; exact T0
  rw [if_neg k1]
  by_cases k2 : f3_markAt π2 (nI c) = 0
  · rw [if_pos k2]; exact T0
  rw [if_neg k2]
  by_cases k3 : f3_markAt π2 (nI o) = f3_markAt π2 (nI c)
  · rw [if_pos k3]; exact T0
  rw [if_neg k3]
  by_cases k4 : f3_hardAt π2 (nI c) = 1
  · rw [if_pos k4]; exact T0
  rw [if_neg k4]
  rw [markAt_at π2 (by omega)] at k1 k2
  rw [hardAt_at π2 (by omega)] at k4
  have mo : mk π2 o ≠ 0 := fun e => k1 (z_eq.mpr (e.trans i0.symm))
  have mc : mk π2 c ≠ 0 := fun e => k2 (z_eq.mpr (e.trans i0.symm))
  have hc1 : hk π2 c ≠ 1 := fun e => k4 (z_eq.mpr (e.trans i1.symm))
  have bo := hG2.1 o (by omega)
  obtain ⟨ch, ch1, ch2⟩ := changeBy_at hS hR hG3 hc ho (by rw [hd.mk]; exact mc) (by rw [hd.mk]; exact mo)
  have er : f3_putMark π3 (nI c) (f3_markAt π2 (nI o)) = sa π3 0 c (π2.2 0 o) := by rw [markAt_at π2 (by omega), putMark_at _ (by omega)]
  have hv : (π2.2 0 o).toInt = mk π2 o := rfl
  have G1 : GP (w * h) (B + 1) (sa π3 0 c (π2.2 0 o)) := GP_mark hG3 (by omega) (by omega)
  have R1 : Rl (w * h) 0 π3 (sa π3 0 c (π2.2 0 o)) := Rl_mark hG3 (by rw [hd.hk]; exact hc1) (by rw [hd.mk]; exact mc) (by omega)
  have Rd : Rl (w * h) 0 π2 π3 := hd.Rl (by omega)
  have eu := mA_upd hS hR hG3 G1 hc (fun j _ hj => by rw [mk_sa0, if_neg hj])
  have ec : mk (sa π3 0 c (π2.2 0 o)) c = mk π3 o := by rw [mk_sa0, if_pos rfl, hd.mk]; rfl
  rw [ec] at eu
  have eD : En ρ π3 w h = En ρ π2 w h := En_Dr hd
  -- what taking the mark leaves, if the change is not above 0 or nothing is asked of energy
  have T1 : ((a1.toInt = 0) → (f3_changeBy τ ρ π3 (nI c) (nI o)).toInt ≤ 0) → (0 ≤ (if f3_workAt (sa π3 0 c (π2.2 0 o)) (nI o) = 0 then ((1 : Int32), f3_putWork (sa π3 0 c (π2.2 0 o)) (nI c) 0) else (1, sa π3 0 c (π2.2 0 o))).1.toInt ∧ (if f3_workAt (sa π3 0 c (π2.2 0 o)) (nI o) = 0 then ((1 : Int32), f3_putWork (sa π3 0 c (π2.2 0 o)) (nI c) 0) else (1, sa π3 0 c (π2.2 0 o))).1.toInt ≤ 1) ∧ GP (w * h) (B + 1) (if f3_workAt (sa π3 0 c (π2.2 0 o)) (nI o) = 0 then ((1 : Int32), f3_putWork (sa π3 0 c (π2.2 0 o)) (nI c) 0) else (1, sa π3 0 c (π2.2 0 o))).2 ∧ Ty ρ w h (a1.toInt = 0) π2 (if f3_workAt (sa π3 0 c (π2.2 0 o)) (nI o) = 0 then ((1 : Int32), f3_putWork (sa π3 0 c (π2.2 0 o)) (nI c) 0) else (1, sa π3 0 c (π2.2 0 o))).2 := by
    intro hz
    rw [workAt_at _ (by omega), putWork_at _ (by omega)]
    have hw0 : (sa π3 0 c (π2.2 0 o)).2 1 o = π3.2 1 o := rfl
    rw [hw0]
    by_cases k5 : π3.2 1 o = 0
    · rw [if_pos k5]
      have wo0 : wk π3 o = 0 := (congrArg Int32.toInt k5).trans i0
      have G2 : GP (w * h) (B + 1) (sa (sa π3 0 c (π2.2 0 o)) 1 c 0) := GP_work G1 (by rw [i0]; omega) (by rw [i0]; omega) (fun _ _ => i0)
      have wnn := (hG3.2.1 c hc).1
      refine ⟨by show 0 ≤ (1 : Int32).toInt ∧ (1 : Int32).toInt ≤ 1; rw [i1]; omega, G2, ?_, fun z => ?_⟩
      · have R2 : Rl (w * h) 0 (sa π3 0 c (π2.2 0 o)) (sa (sa π3 0 c (π2.2 0 o)) 1 c 0) := Rl_work (fun _ => by rw [i0]; exact wnn.1)
        exact (Rd.trans R1).trans R2
      · rw [← eD]
        have e1 : SI (mA ρ (sa (sa π3 0 c (π2.2 0 o)) 1 c 0) w h) (w * h) = SI (mA ρ (sa π3 0 c (π2.2 0 o)) w h) (w * h) := rfl
        have e2 : SI (wk (sa (sa π3 0 c (π2.2 0 o)) 1 c 0)) (w * h) = SI (wk π3) (w * h) - wk π3 c := by
          rw [SI_upd (g := wk π3) (g' := wk (sa (sa π3 0 c (π2.2 0 o)) 1 c 0)) (c := c) (fun k _ hk => by rw [wk_sa1, if_neg hk, wk_sa0]) hc, wk_sa1, if_pos rfl, i0]
          omega
        have hz := hz z
        rw [ch, if_pos wo0] at hz
        show SI (mA ρ (sa (sa π3 0 c (π2.2 0 o)) 1 c 0) w h) (w * h) / 2 + 2 * SI (wk (sa (sa π3 0 c (π2.2 0 o)) 1 c 0)) (w * h) ≤ SI (mA ρ π3 w h) (w * h) / 2 + 2 * SI (wk π3) (w * h)
        rw [e1, e2, eu]
        omega
    · rw [if_neg k5]
      have wo0 : ¬ wk π3 o = 0 := fun e => k5 (z_eq.mpr (e.trans i0.symm))
      refine ⟨by show 0 ≤ (1 : Int32).toInt ∧ (1 : Int32).toInt ≤ 1; rw [i1]; omega, G1, Rd.trans R1, fun z => ?_⟩
      rw [← eD]
      have hz := hz z
      rw [ch, if_neg wo0] at hz
      show SI (mA ρ (sa π3 0 c (π2.2 0 o)) w h) (w * h) / 2 + 2 * SI (wk π3) (w * h) ≤ SI (mA ρ π3 w h) (w * h) / 2 + 2 * SI (wk π3) (w * h)
      rw [eu]
      omega
  rw [er]
  by_cases k6 : f3_changeBy τ ρ π3 (nI c) (nI o) ≤ 0
  · rw [if_pos k6]
    exact T1 (fun _ => by rw [z_le, i0] at k6; exact k6)
  · rw [if_neg k6]
    by_cases k7 : 10 * f3_changeBy τ ρ π3 (nI c) (nI o) ≤ a1 * t
    · rw [if_pos k7]
      refine T1 (fun z => ?_)
      rw [z_le] at k7
      have e0 : (a1 * t).toInt = 0 := by rw [z_mul (by rw [z]; omega) (by rw [z]; omega), z]; omega
      have e1 : (10 * f3_changeBy τ ρ π3 (nI c) (nI o)).toInt = 10 * (f3_changeBy τ ρ π3 (nI c) (nI o)).toInt := by rw [z_mul (by rw [i10]; omega) (by rw [i10]; omega), i10]
      omega
    · rw [if_neg k7]
      exact ⟨by show 0 ≤ (0 : Int32).toInt ∧ (0 : Int32).toInt ≤ 1; rw [i0]; omega, hG3, Ty.dr hd (by omega)⟩
theorem GP.up {n : Nat} {B B' : Int} (hG : GP n B π) (hb : B ≤ B') : GP n B' π := ⟨hG.1, hG.2.1, hG.2.2.1, hG.2.2.2.1, by have := hG.2.2.2.2; omega⟩
theorem tryOne_at (hS : Shp τ w h) (hR : GR ρ) {B : Int} (hB : B < 900000) (hG : GP (w * h) B π) {a1 : Int32} (ha : 0 ≤ a1.toInt ∧ a1.toInt ≤ 9) : (0 ≤ (f3_tryOne τ ρ π a1).1.toInt ∧ (f3_tryOne τ ρ π a1).1.toInt ≤ 1) ∧ GP (w * h) (B + 3) (f3_tryOne τ ρ π a1).2 ∧ Ty ρ w h (a1.toInt = 0) π (f3_tryOne τ ρ π a1).2 := by
  have h36 := hS.n36
  have hpos : 0 < w * h := Nat.mul_pos (by have := hS.2.2.2.1; omega) (by have := hS.2.2.2.2.1; omega)
  rw [tryOne_eq, cells_at hS]
  obtain ⟨⟨c, hc, ec⟩, D1⟩ := drawBelow_at hG (by omega) hpos (by omega)
  have G1 := D1.GP (by omega) hG
  rw [ec]
  generalize (f3_drawBelow π (nI (w * h))).2 = π1 at D1 G1 ⊢
  have nb := nbL_ok hS.2.2.2.1 hS.2.2.2.2.1 hc
  have h4 := nbL_len w h c
  rw [besideMany_at hS hc]
  obtain ⟨⟨k, hk, ek⟩, D2⟩ := drawBelow_at G1 (by omega) nb.2 (by omega)
  have G2 := D2.GP (by omega) G1
  rw [ek, beside_at hS hc hk]
  generalize (f3_drawBelow π1 (nI (nbL w h c).length)).2 = π2 at D2 G2 ⊢
  obtain ⟨⟨t, ht, et⟩, D3⟩ := drawBelow_at G2 (by omega) (m := 10) (by omega) (by omega)
  rw [show (10 : Int32) = nI 10 from rfl, et]
  generalize (f3_drawBelow π2 (nI 10)).2 = π3 at D3 ⊢
  have ho := nb.1 _ (nb_mem hk)
  obtain ⟨a, b, d⟩ := tryK_at hS hR G2 D3 ha (t := nI t) (by rw [nI_int (by omega)]; omega) hc ho.1 ho.2
  exact ⟨a, b.up (by omega), ((Ty.dr D1 (by omega)).trans (Ty.dr D2 (by omega))).trans d⟩
end

/-! GRAINS, further: spread, gather -/
/-- the first cell of its grain: none of the smaller ones comes to it -/
noncomputable def seedb (ρ π : Sg) (w h : Nat) (e : Int) (c : Nat) : Bool := @decide (mk π c ≠ 0 ∧ ¬ ∃ s, s < c ∧ mk π s ≠ 0 ∧ Rc ρ π w h e s c) (Classical.propDecidable _)
theorem seedb_iff (ρ π : Sg) (w h : Nat) (e : Int) (c : Nat) : seedb ρ π w h e c = true ↔ mk π c ≠ 0 ∧ ¬ ∃ s, s < c ∧ mk π s ≠ 0 ∧ Rc ρ π w h e s c := @decide_eq_true_iff _ (Classical.propDecidable _)
/-- what gather has done when all cells below k are looked at -/
def GI (ρ π : Sg) (w h b : Nat) (e : Int) (γ0 : Sg) (γ : Sg) (mm k : Nat) : Prop :=
  (γ.1 b = nI mm ∧ mm ≤ k) ∧
  (∀ c, c < w * h → γ.2 (5 * b + 0) c = -1 ∨ ∃ g, g < mm ∧ γ.2 (5 * b + 0) c = nI g) ∧
  (∀ c, c < w * h → γ.2 (5 * b + 0) c ≠ -1 → mk π c ≠ 0) ∧
  (∀ c, c < k → mk π c ≠ 0 → γ.2 (5 * b + 0) c ≠ -1) ∧
  (∀ c, c < w * h → γ.2 (5 * b + 0) c ≠ -1 → ∀ o ∈ nbL w h c, Ed ρ π e c o → γ.2 (5 * b + 0) o ≠ -1) ∧
  (∀ g, g < mm → ∃ f, f < w * h ∧ γ.2 (5 * b + 1) g = nI f ∧ γ.2 (5 * b + 0) f = nI g) ∧
  (∀ g, g < mm → (γ.2 (5 * b + 2) g).toInt = CI (fun c => decide (γ.2 (5 * b + 0) c = nI g)) (w * h)) ∧
  (∀ g, g < mm → 1 ≤ (γ.2 (5 * b + 3) g).toInt ∧ (γ.2 (5 * b + 3) g).toInt ≤ 9) ∧
  (∀ c, c < w * h → γ.2 (5 * b + 0) c ≠ -1 → ∃ s, s < k ∧ mk π s ≠ 0 ∧ Rc ρ π w h e s c) ∧
  (mm : Int) = CI (seedb ρ π w h e) k ∧
  ((∀ k, k < 5 * b ∨ 5 * b + 5 ≤ k → γ.2 k = γ0.2 k) ∧ ∀ j, j ≠ b → γ.1 j = γ0.1 j)
section
variable {τ ρ π : Sg} {w h : Nat}
def spB (b : Nat) (γ : Sg) (a2 mark : Int32) : Sg := sa (sa (sa (sa γ (5 * b + 0) a2.toNatClampNeg (γ.1 b)) (5 * b + 1) ((sa γ (5 * b + 0) a2.toNatClampNeg (γ.1 b)).1 b).toNatClampNeg a2) (5 * b + 3) ((sa (sa γ (5 * b + 0) a2.toNatClampNeg (γ.1 b)) (5 * b + 1) ((sa γ (5 * b + 0) a2.toNatClampNeg (γ.1 b)).1 b).toNatClampNeg a2).1 b).toNatClampNeg mark) (5 * b + 4) (0 : Int32).toNatClampNeg a2
def spE (b : Nat) (R : Int32 × Int32 × Sg) : Sg := si (sa R.2.2 (5 * b + 2) (R.2.2.1 b).toNatClampNeg R.1) b (((sa R.2.2 (5 * b + 2) (R.2.2.1 b).toNatClampNeg R.1).1 b) + 1)
theorem spread_eq (γ : Sg) (b : Nat) (a2 a3 : Int32) : f2_spread τ ρ π γ b a2 a3 = if f5_holds τ a2 = 0 then γ else if f5_holds τ (γ.1 b) = 0 then γ else spE b (f2_spread_L73 τ ρ π b a2 a3 8589934592 (spB b γ a2 (f3_markAt π a2)) 1 0) := by
  unfold f2_spread spE spB
  rfl
theorem spread_at (hS : Shp τ w h) {B : Int} (hG : GP (w * h) B π) {b : Nat} {a3 : Int32} {γ00 γ : Sg} {mm k : Nat} (hk : k < w * h) (hI : GI ρ π w h b a3.toInt γ00 γ mm k) (hm : mk π k ≠ 0) (hn : γ.2 (5 * b + 0) k = -1) : GI ρ π w h b a3.toInt γ00 (f2_spread τ ρ π γ b (nI k) a3) (mm + 1) (k + 1) := by
  have h36 := hS.n36
  obtain ⟨⟨a1, a2⟩, q2, q3, q4, q5, q6, q7, q8, q9, q10, q11, q12⟩ := hI
  have bk := hG.1 k (by omega)
  have hmk : (f3_markAt π (nI k)).toInt = mk π k := congrArg Int32.toInt (markAt_at π (by omega))
  rw [spread_eq, if_neg (holds_ne hS hk), a1, if_neg (holds_ne hS (by omega))]
  have hm1 : nI mm ≠ -1 := nI_m1 (by omega)
  have eB : spB b γ (nI k) (f3_markAt π (nI k)) = sa (sa (sa (sa γ (5 * b + 0) k (nI mm)) (5 * b + 1) mm (nI k)) (5 * b + 3) mm (f3_markAt π (nI k))) (5 * b + 4) 0 (nI k) := by
    unfold spB
    rw [sa_1, sa_1, sa_1, a1, nI_cl (by omega), nI_cl (by omega)]
    rfl
  have hGm : ∀ c, c < w * h → γ.2 (5 * b + 0) c ≠ nI mm := fun c hc q => by
    rcases q2 c hc with z | ⟨g, hg, z⟩
    · exact hm1 (q.symm.trans z)
    · have := nI_inj (by omega) (by omega) (q.symm.trans z)
      omega
  have st : SpI ρ π w h b a3.toInt γ mm k (spB b γ (nI k) (f3_markAt π (nI k))) 1 := by
    rw [eB]
    have e0 : ∀ c, (sa (sa (sa (sa γ (5 * b + 0) k (nI mm)) (5 * b + 1) mm (nI k)) (5 * b + 3) mm (f3_markAt π (nI k))) (5 * b + 4) 0 (nI k)).2 (5 * b + 0) c = if c = k then nI mm else γ.2 (5 * b + 0) c := fun c => by
      rw [sa_diff _ _ _ (by omega), sa_diff _ _ _ (by omega), sa_diff _ _ _ (by omega), sa_same]
    have e4 : ∀ i, (sa (sa (sa (sa γ (5 * b + 0) k (nI mm)) (5 * b + 1) mm (nI k)) (5 * b + 3) mm (f3_markAt π (nI k))) (5 * b + 4) 0 (nI k)).2 (5 * b + 4) i = if i = 0 then nI k else γ.2 (5 * b + 4) i := fun i => by
      rw [sa_same, sa_diff _ _ _ (by omega), sa_diff _ _ _ (by omega), sa_diff _ _ _ (by omega)]
    refine ⟨a1, fun c hc => ?_, fun c hc z => ?_, fun i hi => ⟨k, hk, ?_, ?_⟩, fun c hc z => ⟨0, by omega, ?_⟩, ?_, fun S _ hs c hc z => ?_, ?_, fun k' hk' => ?_, fun j hj => rfl, fun g hg => ⟨?_, ?_⟩, ?_, ?_⟩
    · rw [e0]
      by_cases e : c = k
      · rw [if_pos e]; exact Or.inl rfl
      · rw [if_neg e]; exact Or.inr rfl
    · rw [e0] at z
      by_cases e : c = k
      · subst e; exact ⟨hm, hn⟩
      · rw [if_neg e] at z; exact absurd z (hGm c hc)
    · rw [e4, if_pos (by omega)]
    · rw [e0, if_pos rfl]
    · rw [e0] at z
      by_cases e : c = k
      · rw [e4, if_pos rfl, e]
      · rw [if_neg e] at z; exact absurd z (hGm c hc)
    · rw [CI_new (p := fun _ => false) (c := k) hk rfl (by show decide (_ = nI mm) = true; rw [e0, if_pos rfl]; exact decide_eq_true rfl) (fun c hc e => by show decide (_ = nI mm) = false; rw [e0, if_neg e]; exact decide_eq_false (hGm c hc))]
      have : CI (fun _ => false) (w * h) = 0 := SI_zero _
      rw [this]
      rfl
    · rw [e0] at z
      by_cases e : c = k
      · subst e; exact hs
      · rw [if_neg e] at z; exact absurd z (hGm c hc)
    · rw [sa_diff _ _ _ (by omega), sa_same, if_pos rfl, hmk]
      omega
    · rw [sa_diff _ _ _ (by omega), sa_diff _ _ _ (by omega), sa_diff _ _ _ (by omega), sa_diff _ _ _ (by omega)]
    · rw [sa_diff _ _ _ (by omega), sa_diff _ _ _ (by omega), sa_same, if_neg hg, sa_diff _ _ _ (by omega)]
    · rw [sa_diff _ _ _ (by omega), sa_same, if_neg hg, sa_diff _ _ _ (by omega), sa_diff _ _ _ (by omega)]
    · rw [sa_diff _ _ _ (by omega), sa_diff _ _ _ (by omega), sa_diff _ _ _ (by omega), sa_diff _ _ _ (by omega)]
    · rw [sa_diff _ _ _ (by omega), sa_diff _ _ _ (by omega), sa_same, if_pos rfl]
  have hold : ∀ c, c < w * h → γ.2 (5 * b + 0) c ≠ -1 → (spB b γ (nI k) (f3_markAt π (nI k))).2 (5 * b + 0) c = γ.2 (5 * b + 0) c := fun c hc z => by
    rcases st.2.1 c hc with q | q
    · exact absurd (st.2.2.1 c hc q).2 z
    · exact q
  have hkk : (spB b γ (nI k) (f3_markAt π (nI k))).2 (5 * b + 0) k = nI mm := by
    rw [eB, sa_diff _ _ _ (by omega), sa_diff _ _ _ (by omega), sa_diff _ _ _ (by omega), sa_same, if_pos rfl]
  have run := sp73_at hS hG (x2 := nI k) (x3 := a3) (by omega) (w * h) 0 8589934592 (spB b γ (nI k) (f3_markAt π (nI k))) 1 (by omega) (by omega) (by omega) st (fun i' hi' => absurd hi' (Nat.not_lt_zero _))
  rw [nI_0, show nI 1 = 1 from rfl] at run
  generalize f2_spread_L73 τ ρ π b (nI k) a3 8589934592 (spB b γ (nI k) (f3_markAt π (nI k))) 1 0 = R at run ⊢
  obtain ⟨L, p1, ⟨s1, s2, s3, s4, s5, s6, s7, s8, s9, s10, s11, s12, s13⟩, p3, p4, p5⟩ := run
  have eE : spE b R = si (sa R.2.2 (5 * b + 2) mm (nI L)) b (nI (mm + 1)) := by
    unfold spE
    rw [sa_1, s1, p1, nI_cl (by omega), ← nI_succ]
  rw [eE]
  have f0 : (si (sa R.2.2 (5 * b + 2) mm (nI L)) b (nI (mm + 1))).2 (5 * b + 0) = R.2.2.2 (5 * b + 0) := sa_diff _ _ _ (by omega)
  have f1 : (si (sa R.2.2 (5 * b + 2) mm (nI L)) b (nI (mm + 1))).2 (5 * b + 1) = R.2.2.2 (5 * b + 1) := sa_diff _ _ _ (by omega)
  have f3 : (si (sa R.2.2 (5 * b + 2) mm (nI L)) b (nI (mm + 1))).2 (5 * b + 3) = R.2.2.2 (5 * b + 3) := sa_diff _ _ _ (by omega)
  have f2 : ∀ g, (si (sa R.2.2 (5 * b + 2) mm (nI L)) b (nI (mm + 1))).2 (5 * b + 2) g = if g = mm then nI L else γ.2 (5 * b + 2) g := fun g => by
    show (sa R.2.2 (5 * b + 2) mm (nI L)).2 (5 * b + 2) g = _
    rw [sa_same, s12]
  -- what was reached ahead stays
  have old : ∀ c, c < w * h → γ.2 (5 * b + 0) c ≠ -1 → R.2.2.2 (5 * b + 0) c = γ.2 (5 * b + 0) c := fun c hc z => by
    rw [p4 c (by rw [hold c hc z]; exact z), hold c hc z]
  have cnt : ∀ g, g < mm → CI (fun c => decide (R.2.2.2 (5 * b + 0) c = nI g)) (w * h) = CI (fun c => decide (γ.2 (5 * b + 0) c = nI g)) (w * h) := fun g hg => CI_congr (fun c hc => by
    have hg1 : nI g ≠ -1 := nI_m1 (by omega)
    have hgm : nI mm ≠ nI g := fun q => by have := nI_inj (by omega) (by omega) q; omega
    by_cases z : γ.2 (5 * b + 0) c = -1
    · rcases s2 c hc with q | q
      · rw [q, z, decide_eq_false hgm, decide_eq_false (fun q => hg1 q.symm)]
      · rw [q]
    · rw [old c hc z])
  refine ⟨⟨by rw [si_1, if_pos rfl], by omega⟩, fun c hc => ?_, fun c hc z => ?_, fun c hc z => ?_, fun c hc z o ho hE => ?_, fun g hg => ?_, fun g hg => ?_, fun g hg => ?_, fun c hc z => ?_, ?_, fun k' hk' => ?_, fun j hj => ?_⟩
  · rw [f0]
    rcases s2 c hc with q | q
    · exact Or.inr ⟨mm, by omega, q⟩
    · rw [q]
      rcases q2 c hc with z | ⟨g, hg, z⟩
      · exact Or.inl z
      · exact Or.inr ⟨g, by omega, z⟩
  · rw [f0] at z
    rcases s2 c hc with q | q
    · exact (s3 c hc q).1
    · rw [q] at z; exact q3 c hc z
  · rw [f0]
    by_cases e : c = k
    · subst e
      rw [p4 c (by rw [hkk]; exact hm1), hkk]
      exact hm1
    · have := q4 c (by omega) z
      rw [old c (by omega) this]
      exact this
  · rw [f0] at z ⊢
    rcases s2 c hc with q | q
    · exact p5 c hc q o ho hE
    · rw [q] at z
      have ho' := ((nbL_ok hS.2.2.2.1 hS.2.2.2.2.1 hc).1 o ho).1
      have := q5 c hc z o ho hE
      rw [old o ho' this]
      exact this
  · rw [f0, f1]
    by_cases e : g = mm
    · subst e
      exact ⟨k, hk, s13, by rw [p4 k (by rw [hkk]; exact hm1), hkk]⟩
    · obtain ⟨f, h1, h2, h3⟩ := q6 g (by omega)
      refine ⟨f, h1, by rw [(s11 g e).1]; exact h2, ?_⟩
      rw [old f h1 (by rw [h3]; exact nI_m1 (by omega))]
      exact h3
  · rw [f0, f2]
    by_cases e : g = mm
    · subst e
      rw [if_pos rfl, ← s6, nI_int]
      have := (CI_bd (fun c => decide (R.2.2.2 (5 * b + 0) c = nI g)) (w * h)).2
      omega
    · rw [if_neg e, cnt g (by omega)]
      exact q7 g (by omega)
  · rw [f3]
    by_cases e : g = mm
    · subst e; exact s8
    · rw [(s11 g e).2]; exact q8 g (by omega)
  · rw [f0] at z
    rcases s2 c hc with q | q
    · exact ⟨k, by omega, hm, fun S hS0 hs => s7 S hS0 hs c hc q⟩
    · rw [q] at z
      obtain ⟨s, h1, h2, h3⟩ := q9 c hc z
      exact ⟨s, by omega, h2, h3⟩
  · have hs : seedb ρ π w h a3.toInt k = true := (seedb_iff _ _ _ _ _ _).mpr ⟨hm, fun ⟨s, h1, h2, h3⟩ => by
      have := h3 (fun c => c < w * h ∧ γ.2 (5 * b + 0) c ≠ -1) (fun c o hc z ho hE => ⟨((nbL_ok hS.2.2.2.1 hS.2.2.2.2.1 hc).1 o ho).1, q5 c hc z.2 o ho hE⟩) ⟨by omega, q4 s h1 h2⟩
      exact this.2 hn⟩
    show _ = SI _ k + (if seedb ρ π w h a3.toInt k = true then 1 else 0)
    rw [if_pos hs]
    have : SI (fun k => if seedb ρ π w h a3.toInt k = true then 1 else 0) k = CI (seedb ρ π w h a3.toInt) k := rfl
    rw [this, ← q10]
    omega
  · rw [si_2, sa_diff _ _ _ (by omega), s9 k' hk']
    exact q11 k' hk'
  · rw [si_1, if_neg hj, sa_1, s10 j hj]
    exact q12 j hj
theorem GI.skip {b : Nat} {e : Int} {γ00 γ : Sg} {mm k : Nat} (hI : GI ρ π w h b e γ00 γ mm k) (hk : mk π k ≠ 0 → γ.2 (5 * b + 0) k ≠ -1) (hs : seedb ρ π w h e k = false) : GI ρ π w h b e γ00 γ mm (k + 1) := by
  obtain ⟨⟨a1, a2⟩, q2, q3, q4, q5, q6, q7, q8, q9, q10, q11⟩ := hI
  refine ⟨⟨a1, by omega⟩, q2, q3, fun c hc z => ?_, q5, q6, q7, q8, fun c hc z => ?_, ?_, q11⟩
  · by_cases e : c = k
    · subst e; exact hk z
    · exact q4 c (by omega) z
  · obtain ⟨s, h1, h2⟩ := q9 c hc z
    exact ⟨s, by omega, h2⟩
  · show _ = SI _ k + (if seedb ρ π w h e k = true then 1 else 0)
    rw [hs, q10]
    simp [CI]
theorem gather15_at (hS : Shp τ w h) {B : Int} (hG : GP (w * h) B π) {b : Nat} {a3 : Int32} {γ00 : Sg} : ∀ (d k f : Nat) (γ : Sg) (mm : Nat), k + d = w * h → d < f → GI ρ π w h b a3.toInt γ00 γ mm k → ∃ mm', GI ρ π w h b a3.toInt γ00 (f2_gather_L15 τ ρ π b a3 f γ (nI k)).2 mm' (w * h) := by
  have h36 := hS.n36
  intro d
  induction d with
  | zero =>
    intro k f γ mm hk hf hI
    obtain ⟨f, rfl⟩ : ∃ g, f = g + 1 := ⟨f - 1, by omega⟩
    have e : k = w * h := by omega
    subst e
    rw [f2_gather_L15_s, cells_at hS, if_pos (nI_le (by omega) (by omega))]
    exact ⟨mm, hI⟩
  | succ d ih =>
    intro k f γ mm hk hf hI
    obtain ⟨f, rfl⟩ : ∃ g, f = g + 1 := ⟨f - 1, by omega⟩
    have em : f3_markAt π (nI k) = 0 ↔ mk π k = 0 := by rw [markAt_at π (by omega), z_eq, i0]; exact Iff.rfl
    have ea : f2_at τ γ b (nI k) = γ.2 (5 * b + 0) k := by
      unfold f2_at
      rw [if_neg (holds_ne hS (by omega)), nI_cl (by omega)]
    rw [f2_gather_L15_s, cells_at hS, if_neg (nI_ge (by omega) (by omega)), ea, ← nI_succ]
    by_cases c1 : f3_markAt π (nI k) = 0
    · rw [if_pos c1]
      refine ih (k + 1) f γ mm (by omega) (by omega) (hI.skip (fun z => absurd (em.mp c1) z) ?_)
      cases hs : seedb ρ π w h a3.toInt k with
      | false => rfl
      | true => exact absurd (em.mp c1) ((seedb_iff _ _ _ _ _ _).mp hs).1
    rw [if_neg c1]
    have hm : mk π k ≠ 0 := fun q => c1 (em.mpr q)
    by_cases c2 : γ.2 (5 * b + 0) k = -1
    · rw [if_pos c2]
      exact ih (k + 1) f _ (mm + 1) (by omega) (by omega) (spread_at hS hG (by omega) hI hm c2)
    · rw [if_neg c2]
      refine ih (k + 1) f γ mm (by omega) (by omega) (hI.skip (fun _ => c2) ?_)
      cases hs : seedb ρ π w h a3.toInt k with
      | false => rfl
      | true => exact absurd (hI.2.2.2.2.2.2.2.2.1 k (by omega) c2) ((seedb_iff _ _ _ _ _ _).mp hs).2
theorem gather_at (hS : Shp τ w h) {B : Int} (hG : GP (w * h) B π) (γ : Sg) (b : Nat) (a3 : Int32) : ∃ mm, GI ρ π w h b a3.toInt γ (f2_gather τ ρ π γ b a3) mm (w * h) := by
  have h36 := hS.n36
  have e0 : ∀ c, c < w * h → (saf (si γ b 0) (5 * b + 0) (fillF ((si γ b 0).2 (5 * b + 0)) 64 (-1))).2 (5 * b + 0) c = -1 := fun c hc => by
    show (if 5 * b + 0 = 5 * b + 0 then fillF ((si γ b 0).2 (5 * b + 0)) 64 (-1) else _) c = _
    rw [if_pos rfl]
    unfold fillF
    rw [if_pos (by omega)]
  have st : GI ρ π w h b a3.toInt γ (saf (si γ b 0) (5 * b + 0) (fillF ((si γ b 0).2 (5 * b + 0)) 64 (-1))) 0 0 := by
    refine ⟨⟨?_, Nat.le_refl _⟩, fun c hc => Or.inl (e0 c hc), fun c hc z => absurd (e0 c hc) z, fun c hc => absurd hc (Nat.not_lt_zero _), fun c hc z => absurd (e0 c hc) z, fun g hg => absurd hg (Nat.not_lt_zero _), fun g hg => absurd hg (Nat.not_lt_zero _), fun g hg => absurd hg (Nat.not_lt_zero _), fun c hc z => absurd (e0 c hc) z, rfl, fun k hk => ?_, fun j hj => ?_⟩
    · show (if b = b then (0 : Int32) else γ.1 b) = nI 0
      rw [if_pos rfl, nI_0]
    · show (if k = 5 * b + 0 then _ else γ.2 k) = _
      rw [if_neg (by omega)]
    · show (if j = b then (0 : Int32) else γ.1 j) = _
      rw [if_neg hj]
  unfold f2_gather
  have := gather15_at (ρ := ρ) hS hG (w * h) 0 8589934592 _ 0 (by omega) (by omega) st
  rw [nI_0] at this
  exact this
/-- fewer grains through more pairs -/
theorem seeds_le (hS : Shp τ w h) (hR : GR ρ) {B : Int} (hG : GP (w * h) B π) {e : Int} (he : 1 ≤ e) : CI (seedb ρ π w h e) (w * h) ≤ CI (seedb ρ π w h 1) (w * h) := by
  have h36 := hS.n36
  refine CI_le (fun c hc hs => ?_)
  rw [seedb_iff] at hs ⊢
  refine ⟨hs.1, fun ⟨s, h1, h2, h3⟩ => hs.2 ⟨s, h1, h2, fun S hC hs0 => ?_⟩⟩
  refine h3 S (fun a o ha hSa ho hE => hC a o ha hSa ho ⟨hE.1, fun q => hE.2 ?_⟩) hs0
  rw [sn_iff] at q ⊢
  refine ⟨q.1, ?_⟩
  have ho' := ((nbL_ok hS.2.2.2.1 hS.2.2.2.2.1 ha).1 o ho).1
  have b1 := hG.1 a (by omega)
  have b2 := hG.1 o (by omega)
  by_cases z1 : mk π a = 0
  · exact Or.inl z1
  by_cases z2 : mk π o = 0
  · exact Or.inr (Or.inl z2)
  exact Or.inr (Or.inr ((hR.1 _ _ b1.1 b1.2 b2.1 b2.2).2.2.2.2 q.1 (by omega) (by omega)))
end

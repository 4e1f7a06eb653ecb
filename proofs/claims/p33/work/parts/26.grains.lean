/-! GRAINS: what gather leaves -/
theorem sa_same (σ : Sg) (k i : Nat) (v : Int32) (j : Nat) : (sa σ k i v).2 k j = if j = i then v else σ.2 k j := by
  show (if k = k then upd (σ.2 k) i v else σ.2 k) j = _
  rw [if_pos rfl]
  rfl
theorem sa_diff (σ : Sg) {k k' : Nat} (i : Nat) (v : Int32) (hk : k' ≠ k) : (sa σ k i v).2 k' = σ.2 k' := by
  show (if k' = k then upd (σ.2 k) i v else σ.2 k') = _
  rw [if_neg hk]
theorem sa_1 (σ : Sg) (k i : Nat) (v : Int32) : (sa σ k i v).1 = σ.1 := rfl
theorem si_2 (σ : Sg) (k : Nat) (v : Int32) : (si σ k v).2 = σ.2 := rfl
theorem si_1 (σ : Sg) (k : Nat) (v : Int32) (j : Nat) : (si σ k v).1 j = if j = k then v else σ.1 j := rfl
theorem nI_m1 {n : Nat} (hn : n < 2147483648) : nI n ≠ -1 := fun q => by
  have := congrArg Int32.toInt q
  rw [nI_int hn, im1] at this
  omega
/-- neighbours through which one comes -/
def Ed (ρ π : Sg) (e : Int) (c o : Nat) : Prop := mk π o ≠ 0 ∧ ¬ sn ρ e (mk π c) (mk π o) = true
def Cl (ρ π : Sg) (w h : Nat) (e : Int) (S : Nat → Prop) : Prop := ∀ c o, c < w * h → S c → o ∈ nbL w h c → Ed ρ π e c o → S o
def Rc (ρ π : Sg) (w h : Nat) (e : Int) (s c : Nat) : Prop := ∀ S : Nat → Prop, Cl ρ π w h e S → S s → S c
/-- while a grain is spread -/
def SpI (ρ π : Sg) (w h b : Nat) (e : Int) (γ0 : Sg) (mm c0 : Nat) (γ : Sg) (L : Nat) : Prop :=
  γ.1 b = nI mm ∧ (∀ c, c < w * h → γ.2 (5 * b + 0) c = nI mm ∨ γ.2 (5 * b + 0) c = γ0.2 (5 * b + 0) c) ∧
  (∀ c, c < w * h → γ.2 (5 * b + 0) c = nI mm → mk π c ≠ 0 ∧ γ0.2 (5 * b + 0) c = -1) ∧
  (∀ i, i < L → ∃ c, c < w * h ∧ γ.2 (5 * b + 4) i = nI c ∧ γ.2 (5 * b + 0) c = nI mm) ∧
  (∀ c, c < w * h → γ.2 (5 * b + 0) c = nI mm → ∃ i, i < L ∧ γ.2 (5 * b + 4) i = nI c) ∧
  (L : Int) = CI (fun c => decide (γ.2 (5 * b + 0) c = nI mm)) (w * h) ∧
  (∀ S : Nat → Prop, Cl ρ π w h e S → S c0 → ∀ c, c < w * h → γ.2 (5 * b + 0) c = nI mm → S c) ∧
  (1 ≤ (γ.2 (5 * b + 3) mm).toInt ∧ (γ.2 (5 * b + 3) mm).toInt ≤ 9) ∧
  ((∀ k, k < 5 * b ∨ 5 * b + 5 ≤ k → γ.2 k = γ0.2 k) ∧ (∀ j, j ≠ b → γ.1 j = γ0.1 j) ∧ (∀ g, g ≠ mm → γ.2 (5 * b + 1) g = γ0.2 (5 * b + 1) g ∧ γ.2 (5 * b + 3) g = γ0.2 (5 * b + 3) g) ∧ γ.2 (5 * b + 2) = γ0.2 (5 * b + 2) ∧ γ.2 (5 * b + 1) mm = nI c0)
section
variable {τ ρ π : Sg} {w h : Nat}
theorem holds_at (hS : Shp τ w h) {c : Nat} (hc : c < 1000) : f5_holds τ (nI c) = if c < w * h then 1 else 0 := by
  have h36 := hS.n36
  unfold f5_holds
  rw [if_neg (nI_pos (by omega)), hS.2.2.1]
  by_cases e : c < w * h
  · rw [if_pos e, if_neg (by rw [nIle (by omega) (by omega)]; omega)]
  · rw [if_neg e, if_pos (by rw [nIle (by omega) (by omega)]; omega)]
theorem holds_ne (hS : Shp τ w h) {c : Nat} (hc : c < w * h) : ¬ f5_holds τ (nI c) = 0 := by
  have h36 := hS.n36
  rw [holds_at hS (by omega), if_pos hc]
  decide
theorem isNew_at (hS : Shp τ w h) (γ : Sg) (b : Nat) {c : Nat} (hc : c < w * h) : f2_isNew τ π γ b (nI c) = 0 ↔ ¬ (γ.2 (5 * b + 0) c = -1 ∧ mk π c ≠ 0) := by
  have h36 := hS.n36
  have e0 : π.2 0 c = 0 ↔ mk π c = 0 := by rw [z_eq, i0]; exact Iff.rfl
  unfold f2_isNew
  rw [if_neg (holds_ne hS hc), nI_cl (by omega), markAt_at π (by omega)]
  by_cases c1 : γ.2 (5 * b + 0) c = -1
  · rw [if_pos c1]
    by_cases c2 : π.2 0 c = 0
    · rw [if_pos c2]
      exact ⟨fun _ q => q.2 (e0.mp c2), fun _ => rfl⟩
    · rw [if_neg c2]
      exact ⟨fun q => absurd q (by decide), fun q => absurd ⟨c1, fun z => c2 (e0.mpr z)⟩ q⟩
  · rw [if_neg c1]
    exact ⟨fun _ q => c1 q.1, fun _ => rfl⟩
theorem SpI.Ln {b : Nat} {e : Int} {γ0 γ : Sg} {mm c0 L : Nat} (hI : SpI ρ π w h b e γ0 mm c0 γ L) : L ≤ w * h := by
  have := (CI_bd (fun c => decide (γ.2 (5 * b + 0) c = nI mm)) (w * h)).2
  have := hI.2.2.2.2.2.1
  omega
/-- one more cell -/
theorem SpI.add {b : Nat} {e : Int} {γ0 γ : Sg} {mm c0 L cc o : Nat} (hmm : mm < 1000) (h36 : w * h ≤ 36) (hI : SpI ρ π w h b e γ0 mm c0 γ L) (hcc : cc < w * h) (hGc : γ.2 (5 * b + 0) cc = nI mm) (ho : o < w * h) (hob : o ∈ nbL w h cc) (hGo : γ.2 (5 * b + 0) o = -1) (hE : Ed ρ π e cc o) : SpI ρ π w h b e γ0 mm c0 (sa (sa γ (5 * b + 0) o (γ.1 b)) (5 * b + 4) L (nI o)) (L + 1) ∧ (∀ c, γ.2 (5 * b + 0) c ≠ -1 → (sa (sa γ (5 * b + 0) o (γ.1 b)) (5 * b + 4) L (nI o)).2 (5 * b + 0) c = γ.2 (5 * b + 0) c) := by
  obtain ⟨q1, q2, q3, q4, q5, q6, q7, q8, q9, q10, q11, q12, q13⟩ := hI
  have hm1 : nI mm ≠ -1 := nI_m1 (by omega)
  have eG : ∀ c, (sa (sa γ (5 * b + 0) o (γ.1 b)) (5 * b + 4) L (nI o)).2 (5 * b + 0) c = if c = o then nI mm else γ.2 (5 * b + 0) c := fun c => by
    rw [sa_diff _ _ _ (by omega), sa_same, q1]
  have eR : ∀ i, (sa (sa γ (5 * b + 0) o (γ.1 b)) (5 * b + 4) L (nI o)).2 (5 * b + 4) i = if i = L then nI o else γ.2 (5 * b + 4) i := fun i => by
    rw [sa_same, sa_diff _ _ _ (by omega)]
  have eo : ∀ k, k ≠ 5 * b + 0 → k ≠ 5 * b + 4 → (sa (sa γ (5 * b + 0) o (γ.1 b)) (5 * b + 4) L (nI o)).2 k = γ.2 k := fun k h1 h2 => by
    rw [sa_diff _ _ _ h2, sa_diff _ _ _ h1]
  have hG0 : γ0.2 (5 * b + 0) o = -1 := by
    rcases q2 o ho with q | q
    · exact absurd (q.symm.trans hGo) hm1
    · rw [← q]; exact hGo
  refine ⟨⟨q1, fun c hn => ?_, fun c hn hc => ?_, fun i hi => ?_, fun c hn hc => ?_, ?_, fun S hS0 hs c hn hc => ?_, ?_, fun k hk => ?_, q10, fun g hg => ?_, ?_, ?_⟩, fun c hc => ?_⟩
  · rw [eG]
    by_cases e : c = o
    · rw [if_pos e]; exact Or.inl rfl
    · rw [if_neg e]; exact q2 c hn
  · rw [eG] at hc
    by_cases e : c = o
    · subst e
      exact ⟨hE.1, hG0⟩
    · rw [if_neg e] at hc
      exact q3 c hn hc
  · by_cases e : i = L
    · exact ⟨o, ho, by rw [eR, if_pos e], by rw [eG, if_pos rfl]⟩
    · obtain ⟨c, h0, h1, h2⟩ := q4 i (by omega)
      refine ⟨c, h0, by rw [eR, if_neg e]; exact h1, ?_⟩
      rw [eG]
      by_cases e2 : c = o
      · rw [if_pos e2]
      · rw [if_neg e2]; exact h2
  · rw [eG] at hc
    by_cases e : c = o
    · exact ⟨L, by omega, by rw [eR, if_pos rfl, e]⟩
    · rw [if_neg e] at hc
      obtain ⟨i, h1, h2⟩ := q5 c hn hc
      exact ⟨i, by omega, by rw [eR, if_neg (by omega)]; exact h2⟩
  · rw [CI_new (p := fun c => decide (γ.2 (5 * b + 0) c = nI mm)) (c := o) ho (decide_eq_false (fun q => hm1 (q.symm.trans hGo))) (by show decide (_ = nI mm) = true; rw [eG, if_pos rfl]; exact decide_eq_true rfl) (fun k _ hk => by show decide (_ = nI mm) = _; rw [eG, if_neg hk]), ← q6]
    omega
  · rw [eG] at hc
    by_cases e : c = o
    · subst e
      exact hS0 cc c hcc (q7 S hS0 hs cc hcc hGc) hob hE
    · rw [if_neg e] at hc
      exact q7 S hS0 hs c hn hc
  · rw [eo _ (by omega) (by omega)]; exact q8
  · rw [eo _ (by omega) (by omega)]; exact q9 k hk
  · rw [eo _ (by omega) (by omega), eo _ (by omega) (by omega)]; exact q11 g hg
  · rw [eo _ (by omega) (by omega)]; exact q12
  · rw [eo _ (by omega) (by omega)]; exact q13
  · rw [eG]
    by_cases e : c = o
    · subst e
      exact absurd hGo hc
    · rw [if_neg e]
theorem sp130_at (hS : Shp τ w h) {B : Int} (hG : GP (w * h) B π) {b : Nat} {x2 x3 x5 : Int32} {γ0 : Sg} {mm c0 cc : Nat} (hmm : mm < 1000) (hcc : cc < w * h) : ∀ (d k f : Nat) (γ : Sg) (L : Nat), k + d = (nbL w h cc).length → d < f → SpI ρ π w h b x3.toInt γ0 mm c0 γ L → γ.2 (5 * b + 0) cc = nI mm → (∀ k', k' < k → Ed ρ π x3.toInt cc ((nbL w h cc).getD k' 0) → γ.2 (5 * b + 0) ((nbL w h cc).getD k' 0) ≠ -1) →
    ∃ L', (f2_spread_L130 τ ρ π b x2 x3 x5 (nI cc) (f3_markAt π (nI cc)) f γ (nI L) (nI k)).1 = nI L' ∧ SpI ρ π w h b x3.toInt γ0 mm c0 (f2_spread_L130 τ ρ π b x2 x3 x5 (nI cc) (f3_markAt π (nI cc)) f γ (nI L) (nI k)).2.2 L' ∧ L ≤ L' ∧ (∀ c, γ.2 (5 * b + 0) c ≠ -1 → (f2_spread_L130 τ ρ π b x2 x3 x5 (nI cc) (f3_markAt π (nI cc)) f γ (nI L) (nI k)).2.2.2 (5 * b + 0) c = γ.2 (5 * b + 0) c) ∧ (∀ k', k' < (nbL w h cc).length → Ed ρ π x3.toInt cc ((nbL w h cc).getD k' 0) → (f2_spread_L130 τ ρ π b x2 x3 x5 (nI cc) (f3_markAt π (nI cc)) f γ (nI L) (nI k)).2.2.2 (5 * b + 0) ((nbL w h cc).getD k' 0) ≠ -1) ∧ (∀ i, i < L → (f2_spread_L130 τ ρ π b x2 x3 x5 (nI cc) (f3_markAt π (nI cc)) f γ (nI L) (nI k)).2.2.2 (5 * b + 4) i = γ.2 (5 * b + 4) i) := by
  have h36 := hS.n36
  have h4 := nbL_len w h cc
  intro d
  induction d with
  | zero =>
    intro k f γ L hk hf hI hGc hK
    obtain ⟨f, rfl⟩ : ∃ g, f = g + 1 := ⟨f - 1, by omega⟩
    rw [f2_spread_L130_s, besideMany_at hS hcc, if_pos (nI_le (by omega) (by omega))]
    exact ⟨L, rfl, hI, Nat.le_refl _, fun _ _ => rfl, fun k' hk' => hK k' (by omega), fun _ _ => rfl⟩
  | succ d ih =>
    intro k f γ L hk hf hI hGc hK
    obtain ⟨f, rfl⟩ : ∃ g, f = g + 1 := ⟨f - 1, by omega⟩
    have ho := nb_lt hS hcc (k := k) (by omega)
    have hm := nb_mem (w := w) (h := h) (c := cc) (k := k) (by omega)
    rw [f2_spread_L130_s, besideMany_at hS hcc, if_neg (nI_ge (by omega) (by omega)), beside_at hS hcc (by omega), ← nI_succ]
    generalize hoE : (nbL w h cc).getD k 0 = o at ho hm ⊢
    have b1 := hG.1 cc (by omega)
    have b2 := hG.1 o (by omega)
    have hsn := seen_ne (ρ := ρ) (x := π.2 0 cc) (y := π.2 0 o) (e := x3) b1.1 b1.2 b2.1 b2.2
    have skip : (Ed ρ π x3.toInt cc o → γ.2 (5 * b + 0) o ≠ -1) → ∀ k', k' < k + 1 → Ed ρ π x3.toInt cc ((nbL w h cc).getD k' 0) → γ.2 (5 * b + 0) ((nbL w h cc).getD k' 0) ≠ -1 := fun hx k' hk' => by
      by_cases e : k' = k
      · subst e
        rw [hoE]
        exact hx
      · exact hK k' (by omega)
    by_cases c1 : f2_isNew τ π γ b (nI o) = 0
    · rw [if_pos c1]
      have q := (isNew_at hS γ b ho).mp c1
      exact ih (k + 1) f γ L (by omega) (by omega) hI hGc (skip (fun hE z => q ⟨z, hE.1⟩))
    rw [if_neg c1]
    have hnew : γ.2 (5 * b + 0) o = -1 ∧ mk π o ≠ 0 := by
      by_cases q : γ.2 (5 * b + 0) o = -1 ∧ mk π o ≠ 0
      · exact q
      · exact absurd ((isNew_at hS γ b ho).mpr q) c1
    rw [markAt_at π (c := cc) (by omega), markAt_at π (c := o) (by omega)]
    by_cases c2 : f4_isSeen ρ (π.2 0 cc) (π.2 0 o) x3 = 0
    · rw [if_pos c2]
      have hE : Ed ρ π x3.toInt cc o := ⟨hnew.2, hsn.mp c2⟩
      have hm1 : nI mm ≠ -1 := nI_m1 (by omega)
      have hLn : L < w * h := by
        have := CI_lt (p := fun c => decide (γ.2 (5 * b + 0) c = nI mm)) ho (decide_eq_false (fun q => hm1 (q.symm.trans hnew.1)))
        have := hI.2.2.2.2.2.1
        omega
      rw [if_neg (by rw [show (64 : Int32) = nI 64 from rfl, nIle (by omega) (by omega)]; omega), nI_cl (n := o) (by omega), nI_cl (n := L) (by omega), ← nI_succ]
      obtain ⟨hI2, hmono⟩ := hI.add hmm h36 hcc hGc ho hm hnew.1 hE
      have em : f3_markAt π (nI cc) = π.2 0 cc := markAt_at π (by omega)
      have := ih (k + 1) f _ (L + 1) (by omega) (by omega) hI2 (by rw [hmono cc (by rw [hGc]; exact hm1)]; exact hGc) (fun k' hk' hE' => by
        by_cases e : (nbL w h cc).getD k' 0 = o
        · rw [e, sa_diff _ _ _ (by omega), sa_same, if_pos rfl, hI.1]
          exact hm1
        · by_cases e2 : k' = k
          · subst e2
            exact absurd hoE e
          · have z := hK k' (by omega) hE'
            rw [hmono _ z]
            exact z)
      rw [em] at this
      obtain ⟨L', p1, p2, p3, p4, p5, p6⟩ := this
      refine ⟨L', p1, p2, by omega, fun c hc => ?_, p5, fun i hi => ?_⟩
      · rw [p4 c (by rw [hmono c hc]; exact hc), hmono c hc]
      · rw [p6 i (by omega), sa_same, if_neg (by omega), sa_diff _ _ _ (by omega)]
    · rw [if_neg c2]
      have em : f3_markAt π (nI cc) = π.2 0 cc := markAt_at π (by omega)
      have := ih (k + 1) f γ L (by omega) (by omega) hI hGc (skip (fun hE => absurd (hsn.mpr hE.2) c2))
      rw [em] at this
      exact this
/-- all cells that are reached have been looked from -/
theorem sp73_at (hS : Shp τ w h) {B : Int} (hG : GP (w * h) B π) {b : Nat} {x2 x3 : Int32} {γ0 : Sg} {mm c0 : Nat} (hmm : mm < 1000) : ∀ (d i f : Nat) (γ : Sg) (L : Nat), w * h ≤ i + d → d < f → i ≤ L → SpI ρ π w h b x3.toInt γ0 mm c0 γ L → (∀ i', i' < i → ∀ c, γ.2 (5 * b + 4) i' = nI c → c < w * h → ∀ o ∈ nbL w h c, Ed ρ π x3.toInt c o → γ.2 (5 * b + 0) o ≠ -1) →
    ∃ L', (f2_spread_L73 τ ρ π b x2 x3 f γ (nI L) (nI i)).1 = nI L' ∧ SpI ρ π w h b x3.toInt γ0 mm c0 (f2_spread_L73 τ ρ π b x2 x3 f γ (nI L) (nI i)).2.2 L' ∧ L ≤ L' ∧ (∀ c, γ.2 (5 * b + 0) c ≠ -1 → (f2_spread_L73 τ ρ π b x2 x3 f γ (nI L) (nI i)).2.2.2 (5 * b + 0) c = γ.2 (5 * b + 0) c) ∧ ∀ c, c < w * h → (f2_spread_L73 τ ρ π b x2 x3 f γ (nI L) (nI i)).2.2.2 (5 * b + 0) c = nI mm → ∀ o ∈ nbL w h c, Ed ρ π x3.toInt c o → (f2_spread_L73 τ ρ π b x2 x3 f γ (nI L) (nI i)).2.2.2 (5 * b + 0) o ≠ -1 := by
  have h36 := hS.n36
  intro d
  induction d with
  | zero =>
    intro i f γ L hi hf hiL hI hP
    obtain ⟨f, rfl⟩ : ∃ g, f = g + 1 := ⟨f - 1, by omega⟩
    have hLn := hI.Ln
    rw [f2_spread_L73_s, if_pos (nI_le (by omega) (by omega))]
    refine ⟨L, rfl, hI, Nat.le_refl _, fun _ _ => rfl, fun c hn hc => ?_⟩
    obtain ⟨i', h1, h2⟩ := hI.2.2.2.2.1 c hn hc
    exact hP i' (by omega) c h2 hn
  | succ d ih =>
    intro i f γ L hi hf hiL hI hP
    obtain ⟨f, rfl⟩ : ∃ g, f = g + 1 := ⟨f - 1, by omega⟩
    have hLn := hI.Ln
    rw [f2_spread_L73_s]
    by_cases c1 : L ≤ i
    · rw [if_pos (nI_le (by omega) (by omega))]
      refine ⟨L, rfl, hI, Nat.le_refl _, fun _ _ => rfl, fun c hn hc => ?_⟩
      obtain ⟨i', h1, h2⟩ := hI.2.2.2.2.1 c hn hc
      exact hP i' (by omega) c h2 hn
    rw [if_neg (nI_ge (by omega) (by omega)), if_neg (by rw [show (64 : Int32) = nI 64 from rfl, nIle (by omega) (by omega)]; omega), nI_cl (n := i) (by omega)]
    obtain ⟨c, hcn, hc1, hc2⟩ := hI.2.2.2.1 i (by omega)
    obtain ⟨hmc, -⟩ := hI.2.2.1 c hcn hc2
    rw [hc1, hI.1, nI_cl (n := mm) (by omega)]
    have bm := hG.1 c (by omega)
    have eml : f3_markAt π (nI c) = π.2 0 c := markAt_at π (by omega)
    -- the least mark
    have hI1 : SpI ρ π w h b x3.toInt γ0 mm c0 (sa γ (5 * b + 3) mm (if f3_markAt π (nI c) < γ.2 (5 * b + 3) mm then f3_markAt π (nI c) else γ.2 (5 * b + 3) mm)) L := by
      obtain ⟨q1, q2, q3, q4, q5, q6, q7, q8, q9, q10, q11, q12, q13⟩ := hI
      have e0 : (sa γ (5 * b + 3) mm (if f3_markAt π (nI c) < γ.2 (5 * b + 3) mm then f3_markAt π (nI c) else γ.2 (5 * b + 3) mm)).2 (5 * b + 0) = γ.2 (5 * b + 0) := sa_diff _ _ _ (by omega)
      have e4 : (sa γ (5 * b + 3) mm (if f3_markAt π (nI c) < γ.2 (5 * b + 3) mm then f3_markAt π (nI c) else γ.2 (5 * b + 3) mm)).2 (5 * b + 4) = γ.2 (5 * b + 4) := sa_diff _ _ _ (by omega)
      refine ⟨q1, by rw [e0]; exact q2, by rw [e0]; exact q3, by rw [e0, e4]; exact q4, by rw [e0, e4]; exact q5, by rw [e0]; exact q6, by rw [e0]; exact q7, ?_, fun k hk => ?_, q10, fun g hg => ⟨?_, ?_⟩, ?_, ?_⟩
      · rw [sa_same, if_pos rfl]
        split
        · rw [eml]
          have : (π.2 0 c).toInt = mk π c := rfl
          omega
        · exact q8
      · rw [sa_diff _ _ _ (by omega)]; exact q9 k hk
      · rw [sa_diff _ _ _ (by omega)]; exact (q11 g hg).1
      · rw [sa_same, if_neg hg]; exact (q11 g hg).2
      · rw [sa_diff _ _ _ (by omega)]; exact q12
      · rw [sa_diff _ _ _ (by omega)]; exact q13
    have e0 : (sa γ (5 * b + 3) mm (if f3_markAt π (nI c) < γ.2 (5 * b + 3) mm then f3_markAt π (nI c) else γ.2 (5 * b + 3) mm)).2 (5 * b + 0) = γ.2 (5 * b + 0) := sa_diff _ _ _ (by omega)
    have e4 : (sa γ (5 * b + 3) mm (if f3_markAt π (nI c) < γ.2 (5 * b + 3) mm then f3_markAt π (nI c) else γ.2 (5 * b + 3) mm)).2 (5 * b + 4) = γ.2 (5 * b + 4) := sa_diff _ _ _ (by omega)
    generalize (sa γ (5 * b + 3) mm (if f3_markAt π (nI c) < γ.2 (5 * b + 3) mm then f3_markAt π (nI c) else γ.2 (5 * b + 3) mm)) = γ1 at hI1 e0 e4 ⊢
    have := sp130_at hS hG (x2 := x2) (x5 := nI i) hmm hcn (nbL w h c).length 0 8589934592 γ1 L (by omega) (by have := nbL_len w h c; omega) hI1 (by rw [e0]; exact hc2) (fun k' hk' => absurd hk' (Nat.not_lt_zero _))
    rw [nI_0] at this
    generalize f2_spread_L130 τ ρ π b x2 x3 (nI i) (nI c) (f3_markAt π (nI c)) 8589934592 γ1 (nI L) 0 = R at this ⊢
    obtain ⟨L', p1, p2, p3, p4, p5, p6⟩ := this
    rw [p1, ← nI_succ]
    have hmono : ∀ c, γ.2 (5 * b + 0) c ≠ -1 → R.2.2.2 (5 * b + 0) c = γ.2 (5 * b + 0) c := fun c hc => by rw [p4 c (by rw [e0]; exact hc), e0]
    have := ih (i + 1) f R.2.2 L' (by omega) (by omega) (by omega) p2 (fun i' hi' c' h1 h2 o ho hE => by
      by_cases e : i' = i
      · subst e
        rw [p6 i' (by omega), e4, hc1] at h1
        have ec := nI_inj (by omega) (by omega) h1
        subst ec
        obtain ⟨k', hk', ek⟩ := List.getElem_of_mem ho
        have eo : (nbL w h c).getD k' 0 = o := by rw [List.getD_eq_getElem?_getD, List.getElem?_eq_getElem hk']; exact ek
        have := p5 k' hk'
        rw [eo] at this
        exact this hE
      · rw [p6 i' (by omega), e4] at h1
        have z := hP i' (by omega) c' h1 h2 o ho hE
        rw [hmono o z]
        exact z)
    obtain ⟨L2, r1, r2, r3, r4, r5⟩ := this
    refine ⟨L2, r1, r2, by omega, fun c hc => ?_, r5⟩
    rw [r4 c (by rw [hmono c hc]; exact hc), hmono c hc]
end

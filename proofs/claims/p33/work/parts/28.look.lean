/-! LOOKING: both kinds of grains, as they are read -/
section
variable {τ ρ π : Sg} {w h : Nat}
theorem GI.moved {b : Nat} {e : Int} {γ0 γ γ' : Sg} {mm k : Nat} (h1 : γ'.1 b = γ.1 b) (h2 : ∀ k, 5 * b ≤ k → k < 5 * b + 5 → γ'.2 k = γ.2 k) (hI : GI ρ π w h b e γ0 γ mm k) : GI ρ π w h b e γ' γ' mm k := by
  obtain ⟨q1, q2, q3, q4, q5, q6, q7, q8, q9, q10, q11⟩ := hI
  have e0 := h2 (5 * b + 0) (by omega) (by omega)
  have e1 := h2 (5 * b + 1) (by omega) (by omega)
  have e2 := h2 (5 * b + 2) (by omega) (by omega)
  have e3 := h2 (5 * b + 3) (by omega) (by omega)
  exact ⟨by rw [h1]; exact q1, by rw [e0]; exact q2, by rw [e0]; exact q3, by rw [e0]; exact q4, by rw [e0]; exact q5, by rw [e0, e1]; exact q6, by rw [e0, e2]; exact q7, by rw [e3]; exact q8, by rw [e0]; exact q9, q10, fun _ _ => rfl, fun _ _ => rfl⟩
/-- what looking leaves -/
def Lk (ρ π : Sg) (w h : Nat) (γ : Sg) (m0 m1 : Nat) : Prop := GI ρ π w h 0 1 γ γ m0 (w * h) ∧ GI ρ π w h 1 (ρ.1 0).toInt γ γ m1 (w * h) ∧ m1 ≤ m0
theorem look_at (hS : Shp τ w h) (hR : GR ρ) {B : Int} (hG : GP (w * h) B π) (γ : Sg) : ∃ m0 m1, Lk ρ π w h (f6_look τ ρ π γ) m0 m1 := by
  obtain ⟨m0, g0⟩ := gather_at hS hG (ρ := ρ) γ 0 1
  obtain ⟨m1, g1⟩ := gather_at hS hG (ρ := ρ) (f2_gather τ ρ π γ 0 1) 1 (f4_etchNow ρ)
  have fr := g1.2.2.2.2.2.2.2.2.2.2
  refine ⟨m0, m1, GI.moved (γ := f2_gather τ ρ π γ 0 1) (fr.2 0 (by omega)) (fun k _ hk => fr.1 k (Or.inl (by omega))) g0, GI.moved (γ := f6_look τ ρ π γ) rfl (fun _ _ _ => rfl) g1, ?_⟩
  have c0 := g0.2.2.2.2.2.2.2.2.2.1
  have c1 := g1.2.2.2.2.2.2.2.2.2.1
  have le := seeds_le hS hR hG (e := (f4_etchNow ρ).toInt) hR.2.1.1
  rw [i1] at c0
  omega
theorem at_at (hS : Shp τ w h) (γ : Sg) (b : Nat) {c : Nat} (hc : c < w * h) : f2_at τ γ b (nI c) = γ.2 (5 * b + 0) c := by
  have h36 := hS.n36
  unfold f2_at
  rw [if_neg (holds_ne hS hc), nI_cl (by omega)]
theorem hasGrain_at {γ : Sg} {b mm g : Nat} (h1 : γ.1 b = nI mm) (hm : mm ≤ 64) (hg : g < mm) : ¬ f2_hasGrain γ b (nI g) = 0 := by
  unfold f2_hasGrain
  rw [if_neg (nI_pos (by omega)), h1, if_neg (by rw [nIle (by omega) (by omega)]; omega), if_neg (by rw [show (64 : Int32) = nI 64 from rfl, nIle (by omega) (by omega)]; omega)]
  decide
theorem firstOf_at {γ : Sg} {b mm g : Nat} (h1 : γ.1 b = nI mm) (hm : mm ≤ 64) (hg : g < mm) : f2_firstOf γ b (nI g) = γ.2 (5 * b + 1) g := by
  unfold f2_firstOf
  rw [if_neg (hasGrain_at h1 hm hg), nI_cl (by omega)]
theorem sizeOf_at {γ : Sg} {b mm g : Nat} (h1 : γ.1 b = nI mm) (hm : mm ≤ 64) (hg : g < mm) : f2_sizeOf γ b (nI g) = γ.2 (5 * b + 2) g := by
  unfold f2_sizeOf
  rw [if_neg (hasGrain_at h1 hm hg), nI_cl (by omega)]
/-- how many cells a grain has -/
def szI (γ : Sg) (w h g : Nat) : Int := CI (fun c => decide (γ.2 (5 * 0 + 0) c = nI g)) (w * h)
theorem Lk.m0 {γ : Sg} {m0 m1 : Nat} (hL : Lk ρ π w h γ m0 m1) : γ.1 0 = nI m0 ∧ m0 ≤ w * h := hL.1.1
theorem Lk.size (hS : Shp τ w h) {γ : Sg} {m0 m1 g : Nat} (hL : Lk ρ π w h γ m0 m1) (hg : g < m0) : (f2_sizeOf γ 0 (nI g)).toInt = szI γ w h g ∧ 1 ≤ szI γ w h g ∧ szI γ w h g ≤ 36 := by
  have h36 := hS.n36
  obtain ⟨q1, q2, q3, q4, q5, q6, q7, q8, q9, q10, q11⟩ := hL.1
  rw [sizeOf_at q1.1 (by omega) hg]
  refine ⟨q7 g hg, ?_, ?_⟩
  · obtain ⟨f, hf, _, hf2⟩ := q6 g hg
    exact CI_pos hf (decide_eq_true hf2)
  · have := (CI_bd (fun c => decide (γ.2 (5 * 0 + 0) c = nI g)) (w * h)).2
    unfold szI
    omega
/-- sums over grains of what belongs to them -/
theorem Lk.sum (hS : Shp τ w h) {γ : Sg} {m0 m1 : Nat} (hL : Lk ρ π w h γ m0 m1) (v : Nat → Int) (hv : ∀ c, c < w * h → mk π c = 0 → v c = 0) : SI (fun g => SI (fun c => if γ.2 (5 * 0 + 0) c = nI g then v c else 0) (w * h)) m0 = SI v (w * h) := by
  have h36 := hS.n36
  obtain ⟨q1, q2, q3, q4, q5, q6, q7, q8, q9, q10, q11⟩ := hL.1
  rw [SI_swap (fun g c => if γ.2 (5 * 0 + 0) c = nI g then v c else 0)]
  refine SI_congr (fun c hc => ?_)
  rcases q2 c hc with z | ⟨g, hg, z⟩
  · rw [z]
    have e : SI (fun g => if (-1 : Int32) = nI g then v c else 0) m0 = SI (fun _ => 0) m0 := SI_congr (fun g hg => if_neg (fun q => nI_m1 (by omega) q.symm))
    rw [e, SI_zero]
    refine (hv c hc ?_).symm
    by_cases m : mk π c = 0
    · exact m
    · exact absurd z (q4 c hc m)
  · rw [z]
    have e : SI (fun g' => if nI g = nI g' then v c else 0) m0 = SI (fun g' => if g' = g then v c else 0) m0 := SI_congr (fun g' hg' => by
      by_cases q : g' = g
      · rw [if_pos q, if_pos (by rw [q])]
      · rw [if_neg q, if_neg (fun z => q (nI_inj (by omega) (by omega) z).symm)])
    rw [e, SI_single, if_pos hg]
theorem Lk.sizes (hS : Shp τ w h) {γ : Sg} {m0 m1 : Nat} (hL : Lk ρ π w h γ m0 m1) : SI (szI γ w h) m0 + pc (w * h) π = ((w * h : Nat) : Int) := by
  have e := hL.sum hS (fun c => if mk π c = 0 then 0 else 1) (fun c _ z => if_pos z)
  have e1 : SI (szI γ w h) m0 = SI (fun g => SI (fun c => if γ.2 (5 * 0 + 0) c = nI g then (if mk π c = 0 then 0 else 1) else 0) (w * h)) m0 := SI_congr (fun g _ => by
    unfold szI CI
    refine SI_congr (fun c hc => ?_)
    by_cases q : γ.2 (5 * 0 + 0) c = nI g
    · have h36 := hS.n36
      have m : mk π c ≠ 0 := hL.1.2.2.1 c hc (by rw [q]; exact nI_m1 (by have := hL.m0; omega))
      rw [if_pos (decide_eq_true q), if_pos q, if_neg m]
    · rw [if_neg q]
      exact if_neg (fun z => q (of_decide_eq_true z)))
  rw [e1, e]
  unfold pc
  rw [← SI_add]
  have e2 : SI (fun k => (if mk π k = 0 then (0 : Int) else 1) + if mk π k = 0 then 1 else 0) (w * h) = SI (fun _ => 1) (w * h) := SI_congr (fun c _ => by
    by_cases z : mk π c = 0
    · rw [if_pos z, if_pos z]; rfl
    · rw [if_neg z, if_neg z]; rfl)
  rw [e2, SI_const]
  omega
/-- the greatest one is not below any -/
theorem greatest_at (hS : Shp τ w h) {γ : Sg} {m0 m1 : Nat} (hL : Lk ρ π w h γ m0 m1) {g : Nat} (hg : g < m0) : szI γ w h g ≤ (f2_greatestSize γ 0).toInt := by
  have h36 := hS.n36
  have q1 := hL.m0
  unfold f2_greatestSize
  have := loop_inv (F := f2_greatestSize_L4 γ 0) (st := fun x i => if x < (f2_sizeOf γ 0 i) then (f2_sizeOf γ 0 i) else x) (fin := fun x i => (x, i)) (b := γ.1 0) (n := m0) (fun j x => ∀ g, g < j → szI γ w h g ≤ x.toInt) (fun r => ∀ g, g < m0 → szI γ w h g ≤ r.1.toInt) q1.1 (by omega) (fun f x i => f2_greatestSize_L4_s γ 0 f x i) (k := 0) (f := 8589934592) (s := 0) (Nat.zero_le _) (by omega) (fun g hg => absurd hg (Nat.not_lt_zero _)) (fun j x _ hj q g hg => by
    have s := (hL.size hS hj).1
    show szI γ w h g ≤ (if x < f2_sizeOf γ 0 (nI j) then f2_sizeOf γ 0 (nI j) else x).toInt
    by_cases c : x < f2_sizeOf γ 0 (nI j)
    · rw [if_pos c, s]
      rw [z_lt, s] at c
      by_cases e : g = j
      · subst e; omega
      · have := q g (by omega); omega
    · rw [if_neg c]
      rw [z_lt, s] at c
      by_cases e : g = j
      · subst e; omega
      · exact q g (by omega)) (fun x q => q)
  rw [nI_0] at this
  exact this g hg
theorem workOf_at (hS : Shp τ w h) {B : Int} (hG : GP (w * h) B π) (γ : Sg) (g : Nat) : (f6_workOf τ π γ (nI g)).toInt = SI (fun c => if γ.2 (5 * 0 + 0) c = nI g then wk π c else 0) (w * h) := by
  have h36 := hS.n36
  unfold f6_workOf
  have := loop_sum0 (F := f6_workOf_L4 τ π γ (nI g)) (gi := fun i => if (f2_at τ γ 0 i) = nI g then f3_workAt π i else 0) (n := w * h) (b := f5_cells τ) (cells_at hS) (by omega) (fun f x i => by
    rw [f6_workOf_L4_s]
    by_cases h1 : f5_cells τ ≤ i <;> by_cases h2 : f2_at τ γ 0 i = nI g <;> simp only [h1, h2, if_true, if_false]) (B := 20) (by omega) (fun c => if γ.2 (5 * 0 + 0) c = nI g then wk π c else 0) (f := 8589934592) (x := 0) (by omega) (fun j hj => by
    show (if (f2_at τ γ 0 (nI j)) = nI g then f3_workAt π (nI j) else 0).toInt = _ ∧ _
    have := (hG.2.1 j hj).1
    rw [at_at hS γ 0 hj, workAt_at π (by omega)]
    by_cases c : γ.2 (5 * 0 + 0) j = nI g
    · rw [if_pos c, if_pos c]
      exact ⟨rfl, by omega, by omega⟩
    · rw [if_neg c, if_neg c]
      exact ⟨i0, by omega, by omega⟩) (by rw [i0]; omega) (by rw [i0]; omega)
  rw [this, i0]
  omega
/-- pairs at the border of a grain -/
theorem round18_bd (hS : Shp τ w h) {γ : Sg} {x1 : Int32} {c : Nat} (hc : c < w * h) {x : Int32} (h0 : 0 ≤ x.toInt) (h1 : x.toInt ≤ 100000) : x.toInt ≤ (f6_roundOf_L18 τ γ x1 (nI c) 8589934592 x 0).1.toInt ∧ (f6_roundOf_L18 τ γ x1 (nI c) 8589934592 x 0).1.toInt ≤ x.toInt + 4 := by
  have h4 := nbL_len w h c
  have := loop_inv (F := f6_roundOf_L18 τ γ x1 (nI c)) (st := fun x i => if (f2_at τ γ 0 (nI c)) = x1 then (if (f2_at τ γ 0 (f5_beside τ (nI c) i)) = x1 then x else x + 1) else x) (fin := fun x i => (x, i)) (b := f5_besideMany τ (nI c)) (n := (nbL w h c).length) (fun j y => x.toInt ≤ y.toInt ∧ y.toInt ≤ x.toInt + (j : Int)) (fun r => x.toInt ≤ r.1.toInt ∧ r.1.toInt ≤ x.toInt + 4) (besideMany_at hS hc) (by omega) (fun f x i => by
    rw [f6_roundOf_L18_s]
    by_cases h1 : f5_besideMany τ (nI c) ≤ i <;> by_cases h2 : f2_at τ γ 0 (nI c) = x1 <;> by_cases h3 : (f2_at τ γ 0 (f5_beside τ (nI c) i)) = x1 <;> simp only [h1, h2, h3, if_true, if_false]) (k := 0) (f := 8589934592) (s := x) (Nat.zero_le _) (by omega) (by omega) (fun j y _ hj q => by
    have e1 : (y + 1).toInt = y.toInt + 1 := by rw [z_add (by rw [i1]; omega) (by rw [i1]; omega), i1]
    split
    · split
      · omega
      · rw [e1]; omega
    · omega) (fun y q => by
    show x.toInt ≤ y.toInt ∧ y.toInt ≤ _
    omega)
  rw [nI_0] at this
  exact this
theorem roundOf_bd (hS : Shp τ w h) (γ : Sg) (x1 : Int32) : 0 ≤ (f6_roundOf τ γ x1).toInt ∧ (f6_roundOf τ γ x1).toInt ≤ 144 := by
  have h36 := hS.n36
  unfold f6_roundOf
  have := loop_inv (F := f6_roundOf_L4 τ γ x1) (st := fun x i => (f6_roundOf_L18 τ γ x1 i 8589934592 x 0).1) (fin := fun x i => (x, i)) (b := f5_cells τ) (n := w * h) (fun j y => 0 ≤ y.toInt ∧ y.toInt ≤ 4 * (j : Int)) (fun r => 0 ≤ r.1.toInt ∧ r.1.toInt ≤ 144) (cells_at hS) (by omega) (fun f x i => f6_roundOf_L4_s τ γ x1 f x i) (k := 0) (f := 8589934592) (s := 0) (Nat.zero_le _) (by omega) (by rw [i0]; omega) (fun j y _ hj q => by
    have := round18_bd hS (γ := γ) (x1 := x1) hj (x := y) (by omega) (by omega)
    show 0 ≤ (f6_roundOf_L18 τ γ x1 (nI j) 8589934592 y 0).1.toInt ∧ (f6_roundOf_L18 τ γ x1 (nI j) 8589934592 y 0).1.toInt ≤ _
    omega) (fun y q => by
    show 0 ≤ y.toInt ∧ y.toInt ≤ 144
    omega)
  rw [nI_0] at this
  exact this
/-- borders are no more than pairs: step by step -/
theorem borders41_le (hS : Shp τ w h) {x1 : Int32} {c : Nat} (hc : c < w * h) {γ0 : Sg} (hx : f2_at τ γ0 0 (nI c) = x1) : ∀ (d k f f' : Nat) (γ : Sg) (x y : Int32), k + d = (nbL w h c).length → d < f → d < f' → (∀ i, f2_at τ γ 0 i = f2_at τ γ0 0 i) → 0 ≤ x.toInt → x.toInt ≤ y.toInt → y.toInt ≤ 100000 + (k : Int) → ((f6_bordersOf_L41 τ x1 (nI c) f γ x (nI k)).1.toInt ≤ (f6_roundOf_L18 τ γ0 x1 (nI c) f' y (nI k)).1.toInt ∧ 0 ≤ (f6_bordersOf_L41 τ x1 (nI c) f γ x (nI k)).1.toInt) ∧ ∀ i, f2_at τ (f6_bordersOf_L41 τ x1 (nI c) f γ x (nI k)).2.2 0 i = f2_at τ γ0 0 i := by
  have h4 := nbL_len w h c
  intro d
  induction d with
  | zero =>
    intro k f f' γ x y hk hf hf' ha h0 hxy hy
    obtain ⟨f, rfl⟩ : ∃ g, f = g + 1 := ⟨f - 1, by omega⟩
    obtain ⟨f', rfl⟩ : ∃ g, f' = g + 1 := ⟨f' - 1, by omega⟩
    rw [f6_bordersOf_L41_s, f6_roundOf_L18_s, besideMany_at hS hc, if_pos (nI_le (by omega) (by omega)), if_pos (nI_le (by omega) (by omega))]
    exact ⟨⟨hxy, h0⟩, ha⟩
  | succ d ih =>
    intro k f f' γ x y hk hf hf' ha h0 hxy hy
    obtain ⟨f, rfl⟩ : ∃ g, f = g + 1 := ⟨f - 1, by omega⟩
    obtain ⟨f', rfl⟩ : ∃ g, f' = g + 1 := ⟨f' - 1, by omega⟩
    have ey : (y + 1).toInt = y.toInt + 1 := by rw [z_add (by rw [i1]; omega) (by rw [i1]; omega), i1]
    have ex : (x + 1).toInt = x.toInt + 1 := by rw [z_add (by rw [i1]; omega) (by rw [i1]; omega), i1]
    rw [f6_bordersOf_L41_s, f6_roundOf_L18_s, besideMany_at hS hc, if_neg (nI_ge (by omega) (by omega)), if_neg (nI_ge (by omega) (by omega)), if_pos hx, ha, ← nI_succ]
    by_cases c3 : f2_at τ γ0 0 (f5_beside τ (nI c) (nI k)) = x1
    · rw [if_pos c3, if_pos c3]
      by_cases c1 : f2_at τ γ0 0 (f5_beside τ (nI c) (nI k)) < 0
      · rw [if_pos c1]
        exact ih (k + 1) f f' γ x y (by omega) (by omega) (by omega) ha h0 hxy (by omega)
      rw [if_neg c1]
      by_cases c2 : 64 ≤ f2_at τ γ0 0 (f5_beside τ (nI c) (nI k))
      · rw [if_pos c2]
        exact ih (k + 1) f f' γ x y (by omega) (by omega) (by omega) ha h0 hxy (by omega)
      · rw [if_neg c2]
        exact ih (k + 1) f f' γ x y (by omega) (by omega) (by omega) ha h0 hxy (by omega)
    rw [if_neg c3, if_neg c3]
    by_cases c1 : f2_at τ γ0 0 (f5_beside τ (nI c) (nI k)) < 0
    · rw [if_pos c1]
      exact ih (k + 1) f f' γ x (y + 1) (by omega) (by omega) (by omega) ha h0 (by rw [ey]; omega) (by rw [ey]; omega)
    rw [if_neg c1]
    by_cases c2 : 64 ≤ f2_at τ γ0 0 (f5_beside τ (nI c) (nI k))
    · rw [if_pos c2]
      exact ih (k + 1) f f' γ x (y + 1) (by omega) (by omega) (by omega) ha h0 (by rw [ey]; omega) (by rw [ey]; omega)
    rw [if_neg c2]
    split
    · refine ih (k + 1) f f' _ (x + 1) (y + 1) (by omega) (by omega) (by omega) (fun i => ?_) (by rw [ex]; omega) (by rw [ex, ey]; omega) (by rw [ey]; omega)
      rw [← ha i]
      unfold f2_at
      rw [sa_diff _ _ _ (by omega)]
    · exact ih (k + 1) f f' γ x (y + 1) (by omega) (by omega) (by omega) ha h0 (by rw [ey]; omega) (by rw [ey]; omega)
theorem round18_no {γ0 : Sg} {x1 : Int32} {c : Int32} (hx : ¬ f2_at τ γ0 0 c = x1) : ∀ (f : Nat) (y k : Int32), (f6_roundOf_L18 τ γ0 x1 c f y k).1 = y := by
  intro f
  induction f with
  | zero => intro y k; rfl
  | succ f ih =>
    intro y k
    rw [f6_roundOf_L18_s]
    split
    · rfl
    · first | exact ih y _ | (rw [if_neg hx]; exact ih y _)
theorem borders_le (hS : Shp τ w h) (γ : Sg) (x1 : Int32) : (f6_bordersOf τ γ x1).1.toInt ≤ (f6_roundOf τ γ x1).toInt ∧ 0 ≤ (f6_bordersOf τ γ x1).1.toInt := by
  have h36 := hS.n36
  have key : ∀ (d k f f' : Nat) (γ1 : Sg) (x y : Int32), k + d = w * h → d < f → d < f' → (∀ i, f2_at τ γ1 0 i = f2_at τ γ 0 i) → 0 ≤ x.toInt → x.toInt ≤ y.toInt → y.toInt ≤ 4 * (k : Int) → (f6_bordersOf_L12 τ x1 f γ1 x (nI k)).1.toInt ≤ (f6_roundOf_L4 τ γ x1 f' y (nI k)).1.toInt ∧ 0 ≤ (f6_bordersOf_L12 τ x1 f γ1 x (nI k)).1.toInt := by
    intro d
    induction d with
    | zero =>
      intro k f f' γ1 x y hk hf hf' ha h0 hxy hy
      obtain ⟨f, rfl⟩ : ∃ g, f = g + 1 := ⟨f - 1, by omega⟩
      obtain ⟨f', rfl⟩ : ∃ g, f' = g + 1 := ⟨f' - 1, by omega⟩
      rw [f6_bordersOf_L12_s, f6_roundOf_L4_s, cells_at hS, if_pos (nI_le (by omega) (by omega)), if_pos (nI_le (by omega) (by omega))]
      exact ⟨hxy, h0⟩
    | succ d ih =>
      intro k f f' γ1 x y hk hf hf' ha h0 hxy hy
      obtain ⟨f, rfl⟩ : ∃ g, f = g + 1 := ⟨f - 1, by omega⟩
      obtain ⟨f', rfl⟩ : ∃ g, f' = g + 1 := ⟨f' - 1, by omega⟩
      have hk2 : k < w * h := by omega
      rw [f6_bordersOf_L12_s, f6_roundOf_L4_s, cells_at hS, if_neg (nI_ge (by omega) (by omega)), if_neg (nI_ge (by omega) (by omega)), ha, ← nI_succ]
      by_cases c1 : f2_at τ γ 0 (nI k) = x1
      · rw [if_pos c1]
        have h4 := nbL_len w h k
        have a := borders41_le hS hk2 c1 (nbL w h k).length 0 8589934592 8589934592 γ1 x y (by omega) (by omega) (by omega) ha h0 hxy (by omega)
        have b := round18_bd hS (γ := γ) (x1 := x1) hk2 (x := y) (by omega) (by omega)
        rw [nI_0] at a
        exact ih (k + 1) f f' _ _ _ (by omega) (by omega) (by omega) a.2 a.1.2 a.1.1 (by omega)
      · rw [if_neg c1, round18_no c1]
        exact ih (k + 1) f f' γ1 x y (by omega) (by omega) (by omega) ha h0 hxy (by omega)
  have := key (w * h) 0 8589934592 8589934592 (saf γ 10 (fillF (γ.2 10) 64 0)) 0 0 (by omega) (by omega) (by omega) (fun i => by
    have e : (saf γ 10 (fillF (γ.2 10) 64 0)).2 (5 * 0 + 0) = γ.2 (5 * 0 + 0) := rfl
    unfold f2_at
    rw [e]) (by rw [i0]; omega) (by omega) (by rw [i0]; omega)
  rw [nI_0] at this
  exact this
/-- sizes by area: more grains, smaller ones -/
theorem sizeByArea_at (hS : Shp τ w h) {γ : Sg} {b m : Nat} (h1 : γ.1 b = nI m) (hm : m ≤ 64) : (f2_sizeByArea τ π γ b).toInt = if m = 0 then 0 else 100 * (((w * h : Nat) : Int) - pc (w * h) π) / (m : Int) := by
  have h36 := hS.n36
  have pb := pc_bd (w * h) π
  have ep : (f3_particles τ π).toInt = pc (w * h) π := particles_at hS
  have em : (nI m).toInt = (m : Int) := nI_int (by omega)
  unfold f2_sizeByArea
  rw [h1]
  by_cases c : m = 0
  · rw [if_pos c, if_pos (by rw [z_le, em, i0]; omega), i0]
  · rw [if_neg c, if_neg (by rw [z_le, em, i0]; omega)]
    have e1 : (f5_cells τ - f3_particles τ π).toInt = ((w * h : Nat) : Int) - pc (w * h) π := by
      rw [z_sub (by rw [cells_at hS, nI_int (by omega), ep]; omega) (by rw [cells_at hS, nI_int (by omega), ep]; omega), cells_at hS, nI_int (by omega), ep]
    have e2 : (100 * (f5_cells τ - f3_particles τ π)).toInt = 100 * (((w * h : Nat) : Int) - pc (w * h) π) := by
      rw [z_mul (by rw [i100, e1]; omega) (by rw [i100, e1]; omega), i100, e1]
    rw [z_div (by rw [e2]; omega) (by rw [em]; omega), e2, em]
theorem texture_at (hS : Shp τ w h) (m : Int32) : (f6_textureOf τ π m).toInt = 1000 * SI (fun c => if π.2 0 c = m then 1 else 0) (w * h) / ((w * h : Nat) : Int) := by
  have h36 := hS.n36
  have hp := hS.npos
  have bd := SI_bd (g := fun c => if π.2 0 c = m then 1 else 0) (n := w * h) (B := 1) (fun k _ => by
    show (0 : Int) ≤ (if π.2 0 k = m then 1 else 0) ∧ (if π.2 0 k = m then 1 else 0) ≤ (1 : Int)
    split <;> omega)
  have e1 : (f6_textureOf_L4 τ π m 8589934592 0 0).1.toInt = SI (fun c => if π.2 0 c = m then 1 else 0) (w * h) := by
    have := loop_sum0 (F := f6_textureOf_L4 τ π m) (gi := fun i => if f3_markAt π i = m then 1 else 0) (n := w * h) (b := f5_cells τ) (cells_at hS) (by omega) (fun f x i => by
      rw [f6_textureOf_L4_s]
      by_cases h1 : f5_cells τ ≤ i <;> by_cases h2 : f3_markAt π i = m <;> simp only [h1, h2, if_true, if_false, Int32.add_zero]) (B := 1) (by omega) (fun c => if π.2 0 c = m then 1 else 0) (f := 8589934592) (x := 0) (by omega) (fun j hj => by
      show (if f3_markAt π (nI j) = m then (1 : Int32) else 0).toInt = _ ∧ _
      rw [markAt_at π (by omega)]
      by_cases c : π.2 0 j = m
      · rw [if_pos c, if_pos c]; exact ⟨i1, by decide, by decide⟩
      · rw [if_neg c, if_neg c]; exact ⟨i0, by decide, by decide⟩) (by rw [i0]; omega) (by rw [i0]; omega)
    rw [this, i0]
    omega
  unfold f6_textureOf
  have ec : (f5_cells τ).toInt = ((w * h : Nat) : Int) := by rw [cells_at hS, nI_int (by omega)]
  rw [if_neg (by rw [z_le, ec, i0]; omega)]
  have e2 : (1000 * (f6_textureOf_L4 τ π m 8589934592 0 0).1).toInt = 1000 * SI (fun c => if π.2 0 c = m then 1 else 0) (w * h) := by
    rw [z_mul (by rw [i1000, e1]; omega) (by rw [i1000, e1]; omega), i1000, e1]
  rw [z_div (by rw [e2]; omega) (by rw [ec]; omega), e2, ec]
end

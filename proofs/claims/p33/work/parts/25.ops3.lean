/-! OPERATIONS, further: melting, sweeps, hard ones -/
section
variable {τ ρ π : Sg} {w h : Nat}
theorem firstMark_at (hS : Shp τ w h) {B : Int} (hG : GP (w * h) B π) {c : Nat} (hc : c < w * h) : 0 ≤ (f3_firstMarkBeside τ π (nI c)).toInt ∧ (f3_firstMarkBeside τ π (nI c)).toInt ≤ 9 := by
  have h36 := hS.n36
  have h4 := nbL_len w h c
  have key : ∀ (d k f : Nat), k + d = (nbL w h c).length → d < f → (∃ x, f3_firstMarkBeside_L2 τ π (nI c) f (nI k) = .inr x) ∨ ∃ r, f3_firstMarkBeside_L2 τ π (nI c) f (nI k) = .inl r ∧ 0 ≤ r.toInt ∧ r.toInt ≤ 9 := by
    intro d
    induction d with
    | zero =>
      intro k f hk hf
      obtain ⟨f, rfl⟩ : ∃ g, f = g + 1 := ⟨f - 1, by omega⟩
      rw [f3_firstMarkBeside_L2_s, besideMany_at hS hc, if_pos (nI_le (by omega) (by omega))]
      exact Or.inl ⟨_, rfl⟩
    | succ d ih =>
      intro k f hk hf
      obtain ⟨f, rfl⟩ : ∃ g, f = g + 1 := ⟨f - 1, by omega⟩
      have ho := nb_lt hS hc (k := k) (by omega)
      rw [f3_firstMarkBeside_L2_s, besideMany_at hS hc, if_neg (nI_ge (by omega) (by omega)), beside_at hS hc (by omega), markAt_at π (by omega)]
      by_cases e : π.2 0 ((nbL w h c).getD k 0) = 0
      · rw [if_pos e, ← nI_succ]
        exact ih (k + 1) f (by omega) (by omega)
      · rw [if_neg e]
        exact Or.inr ⟨_, rfl, hG.1 _ (by omega)⟩
  unfold f3_firstMarkBeside
  rcases key (nbL w h c).length 0 8589934592 (by omega) (by omega) with ⟨x, e⟩ | ⟨r, e, b⟩
  · rw [nI_0] at e
    rw [e]
    show 0 ≤ (0 : Int32).toInt ∧ (0 : Int32).toInt ≤ 9
    rw [i0]
    omega
  · rw [nI_0] at e
    rw [e]
    exact b
theorem melt_cases (hS : Shp τ w h) : ∀ (d k f : Nat), k + d = w * h → d < f → (∃ x, f3_meltOne_L2 τ f π (nI k) = .inr (x, π)) ∨ ∃ c, c < w * h ∧ π.2 0 c = 0 ∧ ¬ f3_firstMarkBeside τ π (nI c) = 0 ∧ f3_meltOne_L2 τ f π (nI k) = .inl (sa (sa π 0 c (f3_firstMarkBeside τ π (nI c))) 1 c 0) := by
  have h36 := hS.n36
  intro d
  induction d with
  | zero =>
    intro k f hk hf
    obtain ⟨f, rfl⟩ : ∃ g, f = g + 1 := ⟨f - 1, by omega⟩
    rw [f3_meltOne_L2_s, cells_at hS, if_pos (nI_le (by omega) (by omega))]
    exact Or.inl ⟨_, rfl⟩
  | succ d ih =>
    intro k f hk hf
    obtain ⟨f, rfl⟩ : ∃ g, f = g + 1 := ⟨f - 1, by omega⟩
    rw [f3_meltOne_L2_s, cells_at hS, if_neg (nI_ge (by omega) (by omega)), markAt_at π (by omega), ← nI_succ]
    by_cases e : π.2 0 k = 0
    · rw [if_pos e]
      by_cases e2 : f3_firstMarkBeside τ π (nI k) = 0
      · rw [if_pos e2]
        exact ih (k + 1) f (by omega) (by omega)
      · rw [if_neg e2, putMark_at _ (by omega), putWork_at _ (by omega)]
        exact Or.inr ⟨k, by omega, e, e2, rfl⟩
    · rw [if_neg e]
      exact ih (k + 1) f (by omega) (by omega)
theorem meltOne_at (hS : Shp τ w h) {B : Int} (hG : GP (w * h) B π) : GP (w * h) B (f3_meltOne τ π) ∧ Rl (w * h) 1 π (f3_meltOne τ π) := by
  have h36 := hS.n36
  unfold f3_meltOne
  rcases melt_cases (π := π) hS (w * h) 0 8589934592 (by omega) (by omega) with ⟨x, e⟩ | ⟨c, hc, m0, m1, e⟩
  · rw [nI_0] at e
    rw [e]
    exact ⟨hG, (Rl.rf _ _).1, by show pc (w * h) π - 1 ≤ pc (w * h) π ∧ pc (w * h) π ≤ pc (w * h) π; omega⟩
  · rw [nI_0] at e
    rw [e]
    have fm := firstMark_at hS hG hc
    have f1 : (f3_firstMarkBeside τ π (nI c)).toInt ≠ 0 := fun q => m1 (z_eq.mpr (q.trans i0.symm))
    generalize f3_firstMarkBeside τ π (nI c) = v at fm f1 ⊢
    have e0 : mk π c = 0 := (congrArg Int32.toInt m0).trans i0
    have b := hG.2.1 c hc
    have g1 : GP (w * h) B (sa π 0 c v) := GP_mark hG (by omega) (by omega)
    refine ⟨GP_work g1 (by rw [i0]; omega) (by rw [i0]; omega) (fun _ _ => i0), ⟨fun j hj => ?_, Int.le_refl _⟩, ?_⟩
    · rw [hk_sa1, hk_sa0, mk_sa1, mk_sa0, wk_sa1, wk_sa0]
      by_cases e : j = c
      · subst e
        rw [if_pos rfl]
        exact ⟨rfl, fun q => absurd e0 q, fun q => by have := (b.2.2 e0).2; omega⟩
      · rw [if_neg e, if_neg e]
        exact ⟨rfl, fun q => q, fun _ => ⟨rfl, Int.le_refl _⟩⟩
    · have : pc (w * h) (sa (sa π 0 c v) 1 c 0) = pc (w * h) π - 1 := by
        unfold pc
        rw [SI_upd (g := fun c => if mk π c = 0 then 1 else 0) (c := c) (fun k _ hk => by rw [mk_sa1, mk_sa0, if_neg hk]) hc, mk_sa1, mk_sa0, if_pos rfl, if_pos e0, if_neg f1]
        omega
      show pc (w * h) π - 1 ≤ pc (w * h) (sa (sa π 0 c v) 1 c 0) ∧ pc (w * h) (sa (sa π 0 c v) 1 c 0) ≤ pc (w * h) π
      omega
/-- what comes behind the tries of a sweep -/
def aft (τ : Sg) (x1 : Int32) (s : Sg) : Sg := if x1 < 8 then (if x1 ≤ 0 then s else if 4 < x1 then s else f3_easeAll τ s) else (if x1 ≤ 0 then f3_meltOne τ s else if 4 < x1 then f3_meltOne τ s else f3_easeAll τ (f3_meltOne τ s))
def hot (x1 : Int32) : Int := if x1 < 8 then 0 else 1
theorem aft_at (hS : Shp τ w h) {B : Int} (hG : GP (w * h) B π) (x1 : Int32) : GP (w * h) B (aft τ x1 π) ∧ Rl (w * h) (hot x1) π (aft τ x1 π) ∧ (x1.toInt = 0 → aft τ x1 π = π) := by
  have e := easeAll_at hS hG
  have m := meltOne_at hS hG
  have em := easeAll_at hS m.1
  unfold aft hot
  have z1 : x1.toInt = 0 → x1 < 8 ∧ x1 ≤ 0 := fun z => by rw [z_lt, z_le, i8, i0]; omega
  by_cases c1 : x1 < 8
  · rw [if_pos c1, if_pos c1]
    by_cases c2 : x1 ≤ 0
    · rw [if_pos c2]
      exact ⟨hG, Rl.rf _ _, fun _ => rfl⟩
    rw [if_neg c2]
    by_cases c3 : 4 < x1
    · rw [if_pos c3]
      exact ⟨hG, Rl.rf _ _, fun _ => rfl⟩
    rw [if_neg c3]
    exact ⟨e.1, e.2, fun z => absurd (z1 z).2 c2⟩
  · rw [if_neg c1, if_neg c1]
    by_cases c2 : x1 ≤ 0
    · rw [if_pos c2]
      exact ⟨m.1, m.2, fun z => absurd (z1 z).1 c1⟩
    rw [if_neg c2]
    by_cases c3 : 4 < x1
    · rw [if_pos c3]
      exact ⟨m.1, m.2, fun z => absurd (z1 z).1 c1⟩
    rw [if_neg c3]
    exact ⟨em.1, m.2.trans em.2, fun z => absurd (z1 z).1 c1⟩
theorem sweep14_at (hS : Shp τ w h) (hR : GR ρ) {B : Int} (hB : B < 800000) (hG : GP (w * h) B π) {a1 x2 x4 : Int32} (ha : 0 ≤ a1.toInt ∧ a1.toInt ≤ 9) {x : Int32} (hx : 0 ≤ x.toInt ∧ x.toInt ≤ 100000) : (x.toInt ≤ (f3_sweepOften_L14 τ ρ a1 x2 x4 8589934592 π x 0).1.toInt ∧ (f3_sweepOften_L14 τ ρ a1 x2 x4 8589934592 π x 0).1.toInt ≤ x.toInt + 36) ∧ GP (w * h) (B + 108) (f3_sweepOften_L14 τ ρ a1 x2 x4 8589934592 π x 0).2.2 ∧ Ty ρ w h (a1.toInt = 0) π (f3_sweepOften_L14 τ ρ a1 x2 x4 8589934592 π x 0).2.2 := by
  have h36 := hS.n36
  have := loop_inv (F := fun f (s : Sg × Int32) i => f3_sweepOften_L14 τ ρ a1 x2 x4 f s.1 s.2 i) (st := fun s _ => ((f3_tryOne τ ρ s.1 a1).2, s.2 + (f3_tryOne τ ρ s.1 a1).1)) (fin := fun s i => (s.2, i, s.1)) (b := f5_cells τ) (n := w * h) (fun j s => (x.toInt ≤ s.2.toInt ∧ s.2.toInt ≤ x.toInt + (j : Int)) ∧ GP (w * h) (B + 3 * (j : Int)) s.1 ∧ Ty ρ w h (a1.toInt = 0) π s.1) (fun r => (x.toInt ≤ r.1.toInt ∧ r.1.toInt ≤ x.toInt + ((w * h : Nat) : Int)) ∧ GP (w * h) (B + 3 * ((w * h : Nat) : Int)) r.2.2 ∧ Ty ρ w h (a1.toInt = 0) π r.2.2) (cells_at hS) (by omega) (fun f s i => f3_sweepOften_L14_s τ ρ a1 x2 x4 f s.1 s.2 i) (k := 0) (f := 8589934592) (s := (π, x)) (Nat.zero_le _) (by omega) ⟨by show x.toInt ≤ x.toInt ∧ x.toInt ≤ _; omega, hG.up (by omega), Rl.rf _ _, fun _ => Int.le_refl _⟩ (fun j s _ hj ⟨q, g, t⟩ => by
    obtain ⟨a, b, c⟩ := tryOne_at hS hR (by omega) g ha
    have e2 : (s.2 + (f3_tryOne τ ρ s.1 a1).1).toInt = s.2.toInt + (f3_tryOne τ ρ s.1 a1).1.toInt := z_add (by omega) (by omega)
    refine ⟨?_, b.up (by omega), t.trans c⟩
    show x.toInt ≤ (s.2 + (f3_tryOne τ ρ s.1 a1).1).toInt ∧ (s.2 + (f3_tryOne τ ρ s.1 a1).1).toInt ≤ _
    rw [e2]
    omega) (fun s q => q)
  rw [nI_0] at this
  obtain ⟨⟨a, a2⟩, b, c⟩ := this
  exact ⟨⟨a, Int.le_trans a2 (by omega)⟩, b.up (by omega), c⟩
theorem sweep5_s (a1 x2 : Int32) (f : Nat) (s : Sg × Int32) (i : Int32) : f3_sweepOften_L5 τ ρ a1 x2 (f + 1) s.1 s.2 i = if x2 ≤ i then (s.2, i, s.1) else f3_sweepOften_L5 τ ρ a1 x2 f (aft τ a1 (f3_sweepOften_L14 τ ρ a1 x2 i 8589934592 s.1 s.2 0).2.2) (f3_sweepOften_L14 τ ρ a1 x2 i 8589934592 s.1 s.2 0).1 (i + 1) := by
  rw [f3_sweepOften_L5_s]
  unfold aft
  by_cases h1 : x2 ≤ i
  · rw [if_pos h1, if_pos h1]
  rw [if_neg h1, if_neg h1]
  by_cases h2 : a1 < 8
  · rw [if_pos h2, if_pos h2]
    by_cases h3 : a1 ≤ 0
    · rw [if_pos h3, if_pos h3]
    rw [if_neg h3, if_neg h3]
    by_cases h4 : 4 < a1
    · rw [if_pos h4, if_pos h4]
    · rw [if_neg h4, if_neg h4]
  · rw [if_neg h2, if_neg h2]
    by_cases h3 : a1 ≤ 0
    · rw [if_pos h3, if_pos h3]
    rw [if_neg h3, if_neg h3]
    by_cases h4 : 4 < a1
    · rw [if_pos h4, if_pos h4]
    · rw [if_neg h4, if_neg h4]
theorem Rl.k {n : Nat} {k m : Int} {a b : Sg} (h : Rl n k a b) (e : k = m) : Rl n m a b := e ▸ h
theorem hot_bd (x : Int32) : 0 ≤ hot x ∧ hot x ≤ 1 := by unfold hot; split <;> omega
theorem sweepOften_at (hS : Shp τ w h) (hR : GR ρ) {B : Int} (hB : B < 700000) (hG : GP (w * h) B π) {a1 : Int32} (ha : 0 ≤ a1.toInt ∧ a1.toInt ≤ 9) {s0 : Nat} (hs : s0 ≤ 12) : (0 ≤ (f3_sweepOften τ ρ π a1 (nI s0)).1.toInt ∧ (f3_sweepOften τ ρ π a1 (nI s0)).1.toInt ≤ 432) ∧ GP (w * h) (B + 108 * (s0 : Int)) (f3_sweepOften τ ρ π a1 (nI s0)).2 ∧ Rl (w * h) ((s0 : Int) * hot a1) π (f3_sweepOften τ ρ π a1 (nI s0)).2 ∧ (a1.toInt = 0 → En ρ (f3_sweepOften τ ρ π a1 (nI s0)).2 w h ≤ En ρ π w h) := by
  have h36 := hS.n36
  unfold f3_sweepOften
  have := loop_inv (F := fun f (s : Sg × Int32) i => f3_sweepOften_L5 τ ρ a1 (nI s0) f s.1 s.2 i) (st := fun s i => (aft τ a1 (f3_sweepOften_L14 τ ρ a1 (nI s0) i 8589934592 s.1 s.2 0).2.2, (f3_sweepOften_L14 τ ρ a1 (nI s0) i 8589934592 s.1 s.2 0).1)) (fin := fun s i => (s.2, i, s.1)) (b := nI s0) (n := s0) (fun j s => (0 ≤ s.2.toInt ∧ s.2.toInt ≤ 36 * (j : Int)) ∧ GP (w * h) (B + 108 * (j : Int)) s.1 ∧ Rl (w * h) ((j : Int) * hot a1) π s.1 ∧ (a1.toInt = 0 → En ρ s.1 w h ≤ En ρ π w h)) (fun r => (0 ≤ r.1.toInt ∧ r.1.toInt ≤ 36 * (s0 : Int)) ∧ GP (w * h) (B + 108 * (s0 : Int)) r.2.2 ∧ Rl (w * h) ((s0 : Int) * hot a1) π r.2.2 ∧ (a1.toInt = 0 → En ρ r.2.2 w h ≤ En ρ π w h)) rfl (by omega) (fun f s i => sweep5_s a1 (nI s0) f s i) (k := 0) (f := 8589934592) (s := (π, 0)) (Nat.zero_le _) (by omega) ⟨by show 0 ≤ (0 : Int32).toInt ∧ (0 : Int32).toInt ≤ _; rw [i0]; omega, hG.up (by omega), (Rl.rf _ _).k (by simp), fun _ => Int.le_refl _⟩ (fun j s _ hj ⟨q, g, r, en⟩ => by
    obtain ⟨a, b, c⟩ := sweep14_at hS hR (by omega) g (x2 := nI s0) (x4 := nI j) ha (x := s.2) (by omega)
    obtain ⟨d, e, f⟩ := aft_at hS b a1
    have q2 : 0 ≤ (f3_sweepOften_L14 τ ρ a1 (nI s0) (nI j) 8589934592 s.1 s.2 0).1.toInt ∧ (f3_sweepOften_L14 τ ρ a1 (nI s0) (nI j) 8589934592 s.1 s.2 0).1.toInt ≤ 36 * ((j + 1 : Nat) : Int) := by omega
    refine ⟨q2, d.up (by omega), ((r.trans c.1).trans e).k ?_, fun z => ?_⟩
    · rw [Int.natCast_add, Int.add_mul]
      simp
    · rw [f z]
      exact Int.le_trans (c.2 z) (en z)) (fun s q => q)
  rw [nI_0] at this
  obtain ⟨⟨a, a2⟩, b, c, d⟩ := this
  exact ⟨⟨a, Int.le_trans a2 (by omega)⟩, b, c, d⟩
/-- hard ones -/
def Co (n : Nat) (π π' : Sg) (d : Int) : Prop := π'.1 = π.1 ∧ (∀ c, mk π' c = mk π c ∧ wk π' c = wk π c) ∧ (∀ c, c < n → hk π c = 1 → hk π' c = 1) ∧ SI (hk π') n = SI (hk π) n + d
theorem Co.rf (n : Nat) (π : Sg) : Co n π π 0 := ⟨rfl, fun _ => ⟨rfl, rfl⟩, fun _ _ h => h, by omega⟩
theorem Co.trans {n : Nat} {a b c : Sg} {d e : Int} (h1 : Co n a b d) (h2 : Co n b c e) : Co n a c (d + e) := ⟨h2.1.trans h1.1, fun j => ⟨(h2.2.1 j).1.trans (h1.2.1 j).1, (h2.2.1 j).2.trans (h1.2.1 j).2⟩, fun j hj q => h2.2.2.1 j hj (h1.2.2.1 j hj q), by rw [h2.2.2.2, h1.2.2.2]; omega⟩
theorem harden4_at (hS : Shp τ w h) : ∀ (d k f : Nat) (x : Int32), k + d = w * h → d < f → (x = -1 ∨ ∃ c, c < w * h ∧ x = nI c ∧ π.2 0 c ≠ 0 ∧ π.2 2 c = 0) → ((f3_hardenOne_L4 τ π f x (nI k)).1 = -1 ∨ ∃ c, c < w * h ∧ (f3_hardenOne_L4 τ π f x (nI k)).1 = nI c ∧ π.2 0 c ≠ 0 ∧ π.2 2 c = 0) := by
  have h36 := hS.n36
  intro d
  induction d with
  | zero =>
    intro k f x hk hf hx
    obtain ⟨f, rfl⟩ : ∃ g, f = g + 1 := ⟨f - 1, by omega⟩
    rw [f3_hardenOne_L4_s, cells_at hS, if_pos (nI_le (by omega) (by omega))]
    exact hx
  | succ d ih =>
    intro k f x hk hf hx
    obtain ⟨f, rfl⟩ : ∃ g, f = g + 1 := ⟨f - 1, by omega⟩
    rw [f3_hardenOne_L4_s, cells_at hS, if_neg (nI_ge (by omega) (by omega)), markAt_at π (by omega), hardAt_at π (by omega), ← nI_succ]
    by_cases e1 : π.2 0 k = 0
    · rw [if_pos e1]
      exact ih (k + 1) f x (by omega) (by omega) hx
    rw [if_neg e1]
    by_cases e2 : π.2 2 k = 0
    · rw [if_pos e2]
      have new : (nI k = -1 ∨ ∃ c, c < w * h ∧ nI k = nI c ∧ π.2 0 c ≠ 0 ∧ π.2 2 c = 0) := Or.inr ⟨k, by omega, rfl, e1, e2⟩
      by_cases e3 : x = -1
      · rw [if_pos e3]
        exact ih (k + 1) f _ (by omega) (by omega) new
      rw [if_neg e3]
      by_cases e4 : f3_workAt π (nI k) ≤ f3_workAt π x
      · rw [if_pos e4]
        exact ih (k + 1) f x (by omega) (by omega) hx
      · rw [if_neg e4]
        exact ih (k + 1) f _ (by omega) (by omega) new
    · rw [if_neg e2]
      exact ih (k + 1) f x (by omega) (by omega) hx
theorem hardenOne_at (hS : Shp τ w h) {B : Int} (hG : GP (w * h) B π) : GP (w * h) B (f3_hardenOne τ π).2 ∧ Co (w * h) π (f3_hardenOne τ π).2 (f3_hardenOne τ π).1.toInt ∧ 0 ≤ (f3_hardenOne τ π).1.toInt ∧ (f3_hardenOne τ π).1.toInt ≤ 1 := by
  have h36 := hS.n36
  have key := harden4_at (π := π) hS (w * h) 0 8589934592 (-1) (by omega) (by omega) (Or.inl rfl)
  rw [nI_0] at key
  unfold f3_hardenOne
  rcases key with e | ⟨c, hc, e, m0, k0⟩
  · rw [if_pos e, e]
    have ep : f3_putHard π (-1) 1 = π := by unfold f3_putHard; rw [if_pos (by decide)]
    rw [ep]
    show GP _ _ π ∧ Co _ π π (0 : Int32).toInt ∧ 0 ≤ (0 : Int32).toInt ∧ (0 : Int32).toInt ≤ 1
    rw [i0]
    exact ⟨hG, Co.rf _ _, by omega, by omega⟩
  · rw [e]
    have ne : ¬ nI c = -1 := fun q => by
      have := congrArg Int32.toInt q
      rw [nI_int (by omega), im1] at this
      omega
    rw [if_neg ne, putHard_at _ (by omega)]
    have mm : mk π c ≠ 0 := fun q => m0 (z_eq.mpr (q.trans i0.symm))
    have kk : hk π c = 0 := (congrArg Int32.toInt k0).trans i0
    show GP _ _ (sa π 2 c 1) ∧ Co _ π (sa π 2 c 1) (1 : Int32).toInt ∧ 0 ≤ (1 : Int32).toInt ∧ (1 : Int32).toInt ≤ 1
    refine ⟨GP_hard hG (by rw [i1]; omega) (fun _ q => absurd q mm), ⟨rfl, fun j => ⟨rfl, rfl⟩, fun j hj q => ?_, ?_⟩, by rw [i1]; omega, by rw [i1]; omega⟩
    · rw [hk_sa2]
      split
      · exact i1
      · exact q
    · rw [SI_upd (g := hk π) (g' := hk (sa π 2 c 1)) (c := c) (fun k _ hk => by rw [hk_sa2, if_neg hk]) hc, hk_sa2, if_pos rfl, i1, kk]
      omega
/-- a cooling under way: what is hard, and the sum -/
def CI0 (w h : Nat) (B : Int) (π0 π : Sg) (x4 : Int32) : Prop := GP (w * h) B π ∧ Co (w * h) π0 π x4.toInt ∧ 0 ≤ x4.toInt
theorem CI0.bd (hS : Shp τ w h) {B : Int} {π0 : Sg} {x4 : Int32} (hG0 : GP (w * h) B π0) (h : CI0 w h B π0 π x4) : x4.toInt ≤ 36 := by
  have b1 := SI_hk_bd hS h.1
  have b0 := SI_hk_bd hS hG0
  have e := h.2.1.2.2.2
  omega
theorem cool42_at (hS : Shp τ w h) {B : Int} {π0 : Sg} (hG0 : GP (w * h) B π0) {x1 x2 x3 x6 x7 x8 : Int32} : ∀ (f : Nat) (π : Sg) (x4 x5 : Int32), x5.toInt.toNat < f → CI0 w h B π0 π x4 → 0 ≤ x5.toInt → x5.toInt ≤ 100000 → CI0 w h B π0 (f3_coolDown_L42 τ ρ x1 x2 x3 x6 x7 x8 f π x4 x5).2.2 (f3_coolDown_L42 τ ρ x1 x2 x3 x6 x7 x8 f π x4 x5).1 ∧ 0 ≤ (f3_coolDown_L42 τ ρ x1 x2 x3 x6 x7 x8 f π x4 x5).2.1.toInt ∧ (f3_coolDown_L42 τ ρ x1 x2 x3 x6 x7 x8 f π x4 x5).2.1.toInt < 1000 := by
  intro f
  induction f with
  | zero => intro π x4 x5 hf; omega
  | succ f ih =>
    intro π x4 x5 hf hC h0 h1
    rw [f3_coolDown_L42_s]
    by_cases c : x5 < 1000
    · rw [if_pos c]
      rw [z_lt, i1000] at c
      exact ⟨hC, h0, c⟩
    rw [if_neg c]
    rw [z_lt, i1000] at c
    have em : (Int32.ofInt (-1000)).toInt = -1000 := by decide
    have e5 : (x5 + Int32.ofInt (-1000)).toInt = x5.toInt - 1000 := by rw [z_add (by rw [em]; omega) (by rw [em]; omega), em]; omega
    obtain ⟨g, co, l0, l1⟩ := hardenOne_at hS hC.1
    have b4 := hC.bd hS hG0
    have z4 := hC.2.2
    have e4 : (x4 + (f3_hardenOne τ π).1).toInt = x4.toInt + (f3_hardenOne τ π).1.toInt := z_add (by omega) (by omega)
    exact ih _ _ _ (by rw [e5]; omega) ⟨g, by rw [e4]; exact hC.2.1.trans co, by rw [e4]; omega⟩ (by rw [e5]; omega) (by rw [e5]; omega)
theorem cool29_at (hS : Shp τ w h) {B : Int} {π0 : Sg} (hG0 : GP (w * h) B π0) {x1 x2 x6 x7 : Int32} (h7 : 0 ≤ x7.toInt ∧ x7.toInt ≤ 1000) {t : Nat} (ht : t ≤ 50) {π : Sg} {x4 x5 : Int32} (hC : CI0 w h B π0 π x4) (h0 : 0 ≤ x5.toInt ∧ x5.toInt < 1000) : CI0 w h B π0 (f3_coolDown_L29 τ ρ x1 x2 (nI t) x6 x7 8589934592 π x4 x5 0).2.2.2 (f3_coolDown_L29 τ ρ x1 x2 (nI t) x6 x7 8589934592 π x4 x5 0).1 ∧ 0 ≤ (f3_coolDown_L29 τ ρ x1 x2 (nI t) x6 x7 8589934592 π x4 x5 0).2.1.toInt ∧ (f3_coolDown_L29 τ ρ x1 x2 (nI t) x6 x7 8589934592 π x4 x5 0).2.1.toInt < 1000 := by
  have := loop_inv (F := fun f (s : Sg × Int32 × Int32) i => f3_coolDown_L29 τ ρ x1 x2 (nI t) x6 x7 f s.1 s.2.1 s.2.2 i) (st := fun s i => ((f3_coolDown_L42 τ ρ x1 x2 (nI t) x6 x7 i 8589934592 s.1 s.2.1 (s.2.2 + x7)).2.2, (f3_coolDown_L42 τ ρ x1 x2 (nI t) x6 x7 i 8589934592 s.1 s.2.1 (s.2.2 + x7)).1, (f3_coolDown_L42 τ ρ x1 x2 (nI t) x6 x7 i 8589934592 s.1 s.2.1 (s.2.2 + x7)).2.1)) (fin := fun s i => (s.2.1, s.2.2, i, s.1)) (b := nI t) (n := t) (fun _ s => CI0 w h B π0 s.1 s.2.1 ∧ 0 ≤ s.2.2.toInt ∧ s.2.2.toInt < 1000) (fun r => CI0 w h B π0 r.2.2.2 r.1 ∧ 0 ≤ r.2.1.toInt ∧ r.2.1.toInt < 1000) rfl (by omega) (fun f s i => f3_coolDown_L29_s τ ρ x1 x2 (nI t) x6 x7 f s.1 s.2.1 s.2.2 i) (k := 0) (f := 8589934592) (s := (π, x4, x5)) (Nat.zero_le _) (by omega) ⟨hC, h0⟩ (fun j s _ hj ⟨q, l0, l1⟩ => by
    have e : (s.2.2 + x7).toInt = s.2.2.toInt + x7.toInt := z_add (by omega) (by omega)
    exact cool42_at hS hG0 8589934592 s.1 s.2.1 (s.2.2 + x7) (by rw [e]; omega) q (by rw [e]; omega) (by rw [e]; omega)) (fun s q => q)
  rw [nI_0] at this
  exact this
theorem tickAt_at (hR : GR ρ) (x : Int32) : 0 ≤ (f4_tickAt ρ x).toInt ∧ (f4_tickAt ρ x).toInt ≤ 1000 := by
  have ht : 1 ≤ (f4_timeAt ρ x).toInt ∧ (f4_timeAt ρ x).toInt ≤ 99 := by
    have e50 : (50 : Int32).toInt = 50 := by decide
    unfold f4_timeAt
    by_cases c1 : x < 0
    · rw [if_pos c1, e50]; omega
    rw [if_neg c1]
    by_cases c2 : 10 ≤ x
    · rw [if_pos c2, e50]; omega
    rw [if_neg c2]
    rw [z_lt, i0] at c1
    rw [z_le, i10] at c2
    exact hR.2.2 _ (by rw [clamp_toInt]; omega)
  unfold f4_tickAt
  rw [if_neg (by rw [z_le, i0]; omega), z_div (by rw [i1000]; omega) (by omega), i1000]
  refine ⟨Int.ediv_nonneg (by omega) (by omega), Int.ediv_le_self _ (by omega)⟩
theorem cool9_at (hS : Shp τ w h) (hR : GR ρ) {B : Int} {π0 : Sg} (hG0 : GP (w * h) B π0) {x1 x2 : Int32} {t : Nat} (ht : t ≤ 50) (h2 : 0 ≤ x2.toInt) : ∀ (f : Nat) (π : Sg) (x4 x5 x6 : Int32), (x6.toInt + 1).toNat < f → -1 ≤ x6.toInt → CI0 w h B π0 π x4 → 0 ≤ x5.toInt → x5.toInt < 1000 → CI0 w h B π0 (f3_coolDown_L9 τ ρ x1 x2 (nI t) f π x4 x5 x6).2.2.2 (f3_coolDown_L9 τ ρ x1 x2 (nI t) f π x4 x5 x6).1 := by
  intro f
  induction f with
  | zero => intro π x4 x5 x6 hf; omega
  | succ f ih =>
    intro π x4 x5 x6 hf h6 hC l0 l1
    rw [f3_coolDown_L9_s]
    by_cases c : x6 < x2
    · rw [if_pos c]
      exact hC
    rw [if_neg c]
    rw [z_lt] at c
    have em : (Int32.ofInt (-1)).toInt = -1 := by decide
    have r6 := z_rng x6
    have e6 : (x6 + Int32.ofInt (-1)).toInt = x6.toInt - 1 := by rw [z_add (by rw [em]; omega) (by rw [em]; omega), em]; omega
    have q := cool29_at hS hG0 (ρ := ρ) (x1 := x1) (x2 := x2) (x6 := x6) (tickAt_at hR x6) ht hC ⟨l0, l1⟩
    exact ih _ _ _ _ (by rw [e6]; omega) (by rw [e6]; omega) q.1 q.2.1 q.2.2
theorem coolDown_at (hS : Shp τ w h) (hR : GR ρ) {B : Int} (hG : GP (w * h) B π) {x1 x2 : Int32} {t : Nat} (ht : t ≤ 50) (h1 : 0 ≤ x1.toInt) (h2 : 0 ≤ x2.toInt) : GP (w * h) B (f3_coolDown τ ρ π x1 x2 (nI t)).2 ∧ Co (w * h) π (f3_coolDown τ ρ π x1 x2 (nI t)).2 (f3_coolDown τ ρ π x1 x2 (nI t)).1.toInt ∧ 0 ≤ (f3_coolDown τ ρ π x1 x2 (nI t)).1.toInt := by
  have r1 := z_rng x1
  unfold f3_coolDown
  exact cool9_at hS hR hG ht h2 8589934592 π 0 0 x1 (by omega) (by omega) ⟨hG, by rw [i0]; exact Co.rf _ _, by rw [i0]; omega⟩ (by rw [i0]; omega) (by rw [i0]; omega)
theorem loosen_at (hS : Shp τ w h) {B : Int} (hG : GP (w * h) B π) : GP (w * h) B (f3_loosenAll τ π).2 ∧ ((f3_loosenAll τ π).2.1 = π.1 ∧ (∀ c, mk (f3_loosenAll τ π).2 c = mk π c ∧ wk (f3_loosenAll τ π).2 c = wk π c)) ∧ 0 ≤ (f3_loosenAll τ π).1.toInt := by
  have h36 := hS.n36
  have b := SI_hk_bd hS hG
  have e := hardCells_at hS hG
  have hz : ∀ c, c < 64 → hk (f3_loosenAll τ π).2 c = 0 := fun c hc => by
    show (fillF (π.2 2) 64 0 c).toInt = 0
    unfold fillF
    rw [if_pos hc]
    exact i0
  refine ⟨⟨hG.1, fun c hc => ?_, hG.2.2⟩, ⟨rfl, fun _ => ⟨rfl, rfl⟩⟩, ?_⟩
  · have q := hG.2.1 c hc
    rw [hz c (by omega)]
    exact ⟨q.1, Or.inl rfl, fun m => ⟨(q.2.2 m).1, rfl⟩⟩
  · show 0 ≤ (f3_hardCells τ π).toInt
    rw [e]
    exact b.1
/-- a new metal -/
theorem castAnew_at (hS : Shp τ w h) {B : Int} (hB : B < 900000) (hG : GP 0 B π) {m : Nat} (hm : 1 ≤ m ∧ m ≤ 9) : GP (w * h) (B + 36) (f3_castAnew τ π (nI m)) := by
  have h36 := hS.n36
  unfold f3_castAnew
  have st : GP (w * h) B (saf (saf π 1 (fillF (π.2 1) 64 0)) 2 (fillF ((saf π 1 (fillF (π.2 1) 64 0)).2 2) 64 0)) := by
    refine ⟨hG.1, fun c hc => ?_, hG.2.2⟩
    have e1 : wk (saf (saf π 1 (fillF (π.2 1) 64 0)) 2 (fillF ((saf π 1 (fillF (π.2 1) 64 0)).2 2) 64 0)) c = 0 := by
      show (fillF (π.2 1) 64 0 c).toInt = 0
      unfold fillF
      rw [if_pos (by omega)]
      exact i0
    have e2 : hk (saf (saf π 1 (fillF (π.2 1) 64 0)) 2 (fillF ((saf π 1 (fillF (π.2 1) 64 0)).2 2) 64 0)) c = 0 := by
      show (fillF ((saf π 1 (fillF (π.2 1) 64 0)).2 2) 64 0 c).toInt = 0
      unfold fillF
      rw [if_pos (by omega)]
      exact i0
    rw [e1, e2]
    omega
  have := loop_inv (F := fun f (s : Sg) i => f3_castAnew_L18 τ (nI m) f s i) (st := fun s i => f3_putMark ((f3_drawBelow s (nI m)).2) i (1 + ((f3_drawBelow s (nI m)).1))) (fin := fun s i => (i, s)) (b := f5_cells τ) (n := w * h) (fun j s => GP (w * h) (B + (j : Int)) s) (fun r => GP (w * h) (B + ((w * h : Nat) : Int)) r.2) (cells_at hS) (by omega) (fun f s i => f3_castAnew_L18_s τ (nI m) f s i) (k := 0) (f := 8589934592) (s := _) (Nat.zero_le _) (by omega) (st.up (by omega)) (fun j s _ hj g => by
    obtain ⟨⟨k, hk, ek⟩, D⟩ := drawBelow_at g (by omega) (m := m) (by omega) (by omega)
    have g1 := D.GP (by omega) g
    rw [ek]
    have ev : (1 + nI k).toInt = 1 + (k : Int) := by
      rw [z_add, i1, nI_int] <;> (try rw [i1, nI_int]) <;> omega
    rw [putMark_at _ (by omega)]
    exact (GP_mark g1 (by omega) (by omega)).up (by omega)) (fun s q => q)
  rw [nI_0] at this
  exact this.up (by omega)
end

/-! WHAT IS READ BEHIND A LOOK doesn't depend on what the notes were before -/
/-- the notes agree while a grain is spread -/
def A1 (n b L : Nat) (γ γ' : Sg) : Prop := γ.1 b = γ'.1 b ∧ (∀ c, c < n → γ.2 (5 * b + 0) c = γ'.2 (5 * b + 0) c) ∧ ∀ i, i < L → γ.2 (5 * b + 4) i = γ'.2 (5 * b + 4) i
/-- they agree in what is read -/
def A2 (n b : Nat) (γ γ' : Sg) : Prop := γ.1 b = γ'.1 b ∧ (∀ c, c < n → γ.2 (5 * b + 0) c = γ'.2 (5 * b + 0) c) ∧ ∀ g, g < (γ.1 b).toInt.toNat → γ.2 (5 * b + 1) g = γ'.2 (5 * b + 1) g ∧ γ.2 (5 * b + 2) g = γ'.2 (5 * b + 2) g
section
variable {τ ρ π : Sg} {w h : Nat}
theorem holds_lt (hS : Shp τ w h) {x : Int32} (hx : ¬ f5_holds τ x = 0) : ∃ c, c < w * h ∧ x = nI c := by
  have h36 := hS.n36
  unfold f5_holds at hx
  by_cases c1 : x < 0
  · rw [if_pos c1] at hx; exact absurd rfl hx
  rw [if_neg c1] at hx
  by_cases c2 : τ.1 2 ≤ x
  · rw [if_pos c2] at hx; exact absurd rfl hx
  rw [z_lt, i0] at c1
  rw [z_le, hS.2.2.1, nI_int (by omega)] at c2
  exact ⟨x.toInt.toNat, by omega, (z_nI (by omega)).symm⟩
theorem isNew_A (hS : Shp τ w h) {b : Nat} {γ γ' : Sg} (hG : ∀ c, c < w * h → γ.2 (5 * b + 0) c = γ'.2 (5 * b + 0) c) (x : Int32) : f2_isNew τ π γ b x = f2_isNew τ π γ' b x := by
  have h36 := hS.n36
  unfold f2_isNew
  by_cases c : f5_holds τ x = 0
  · rw [if_pos c, if_pos c]
  · obtain ⟨k, hk, rfl⟩ := holds_lt hS c
    rw [nI_cl (by omega), hG k hk]
theorem at_A (hS : Shp τ w h) {b : Nat} {γ γ' : Sg} (hG : ∀ c, c < w * h → γ.2 (5 * b + 0) c = γ'.2 (5 * b + 0) c) (x : Int32) : f2_at τ γ b x = f2_at τ γ' b x := by
  have h36 := hS.n36
  unfold f2_at
  by_cases c : f5_holds τ x = 0
  · rw [if_pos c, if_pos c]
  · obtain ⟨k, hk, rfl⟩ := holds_lt hS c
    rw [if_neg c, if_neg c, nI_cl (by omega), hG k hk]
theorem sp130_A (hS : Shp τ w h) {b : Nat} {x2 x3 x5 x6 x7 : Int32} : ∀ (f : Nat) (γ γ' : Sg) (L : Nat) (k : Int32), L ≤ 64 → A1 (w * h) b L γ γ' → ∃ L', L' ≤ 64 ∧ L ≤ L' ∧ (f2_spread_L130 τ ρ π b x2 x3 x5 x6 x7 f γ (nI L) k).1 = nI L' ∧ (f2_spread_L130 τ ρ π b x2 x3 x5 x6 x7 f γ' (nI L) k).1 = nI L' ∧ A1 (w * h) b L' (f2_spread_L130 τ ρ π b x2 x3 x5 x6 x7 f γ (nI L) k).2.2 (f2_spread_L130 τ ρ π b x2 x3 x5 x6 x7 f γ' (nI L) k).2.2 ∧ ((f2_spread_L130 τ ρ π b x2 x3 x5 x6 x7 f γ (nI L) k).2.2.2 (5 * b + 1) = γ.2 (5 * b + 1) ∧ (f2_spread_L130 τ ρ π b x2 x3 x5 x6 x7 f γ (nI L) k).2.2.2 (5 * b + 2) = γ.2 (5 * b + 2)) ∧ (f2_spread_L130 τ ρ π b x2 x3 x5 x6 x7 f γ' (nI L) k).2.2.2 (5 * b + 1) = γ'.2 (5 * b + 1) ∧ (f2_spread_L130 τ ρ π b x2 x3 x5 x6 x7 f γ' (nI L) k).2.2.2 (5 * b + 2) = γ'.2 (5 * b + 2) ∧ (f2_spread_L130 τ ρ π b x2 x3 x5 x6 x7 f γ (nI L) k).2.2.1 = γ.1 ∧ (f2_spread_L130 τ ρ π b x2 x3 x5 x6 x7 f γ' (nI L) k).2.2.1 = γ'.1 := by
  have h36 := hS.n36
  intro f
  induction f with
  | zero => intro γ γ' L k hL hA; exact ⟨L, hL, Nat.le_refl _, rfl, rfl, hA, ⟨rfl, rfl⟩, rfl, rfl, rfl, rfl⟩
  | succ f ih =>
    intro γ γ' L k hL hA
    rw [f2_spread_L130_s, f2_spread_L130_s, ← isNew_A (π := π) hS hA.2.1]
    by_cases c0 : f5_besideMany τ x6 ≤ k
    · rw [if_pos c0, if_pos c0]
      exact ⟨L, hL, Nat.le_refl _, rfl, rfl, hA, ⟨rfl, rfl⟩, rfl, rfl, rfl, rfl⟩
    rw [if_neg c0, if_neg c0]
    by_cases c1 : f2_isNew τ π γ b (f5_beside τ x6 k) = 0
    · rw [if_pos c1, if_pos c1]
      exact ih γ γ' L _ hL hA
    rw [if_neg c1, if_neg c1]
    by_cases c2 : f4_isSeen ρ x7 (f3_markAt π (f5_beside τ x6 k)) x3 = 0
    · rw [if_pos c2, if_pos c2]
      by_cases c3 : 64 ≤ nI L
      · rw [if_pos c3, if_pos c3]
        exact ih γ γ' L _ hL hA
      rw [if_neg c3, if_neg c3]
      have hL2 : L < 64 := by
        rw [show (64 : Int32) = nI 64 from rfl, nIle (by omega) (by omega)] at c3
        omega
      rw [nI_cl (n := L) (by omega), ← nI_succ, ← hA.1]
      generalize (f5_beside τ x6 k) = o
      have hA2 : A1 (w * h) b (L + 1) (sa (sa γ (5 * b + 0) o.toNatClampNeg (γ.1 b)) (5 * b + 4) L o) (sa (sa γ' (5 * b + 0) o.toNatClampNeg (γ.1 b)) (5 * b + 4) L o) := by
        refine ⟨hA.1, fun c hc => ?_, fun i hi => ?_⟩
        · rw [sa_diff _ _ _ (by omega), sa_same, sa_diff _ _ _ (by omega), sa_same, hA.2.1 c hc]
        · rw [sa_same, sa_same, sa_diff _ _ _ (by omega), sa_diff _ _ _ (by omega)]
          by_cases e : i = L
          · rw [if_pos e, if_pos e]
          · rw [if_neg e, if_neg e]; exact hA.2.2 i (by omega)
      have r : ∀ (γ : Sg) (v : Int32) (j : Nat), j = 5 * b + 1 ∨ j = 5 * b + 2 → (sa (sa γ (5 * b + 0) o.toNatClampNeg v) (5 * b + 4) L o).2 j = γ.2 j := fun γ v j hj => by
        rw [sa_diff _ _ _ (by omega), sa_diff _ _ _ (by omega)]
      obtain ⟨L', p1, p2, p3, p4, p5, p6, p7, p8, p9, p10⟩ := ih _ _ (L + 1) (k + 1) (by omega) hA2
      rw [r _ _ _ (Or.inl rfl), r _ _ _ (Or.inr rfl)] at p6
      rw [r _ _ _ (Or.inl rfl)] at p7
      rw [r _ _ _ (Or.inr rfl)] at p8
      exact ⟨L', p1, by omega, p3, p4, p5, p6, p7, p8, p9, p10⟩
    · rw [if_neg c2, if_neg c2]
      exact ih γ γ' L _ hL hA
theorem sp73_A (hS : Shp τ w h) {b : Nat} {x2 x3 : Int32} : ∀ (f : Nat) (γ γ' : Sg) (L i : Nat), L ≤ 64 → i ≤ 64 → A1 (w * h) b L γ γ' → ∃ L', L' ≤ 64 ∧ (f2_spread_L73 τ ρ π b x2 x3 f γ (nI L) (nI i)).1 = nI L' ∧ (f2_spread_L73 τ ρ π b x2 x3 f γ' (nI L) (nI i)).1 = nI L' ∧ A1 (w * h) b L' (f2_spread_L73 τ ρ π b x2 x3 f γ (nI L) (nI i)).2.2 (f2_spread_L73 τ ρ π b x2 x3 f γ' (nI L) (nI i)).2.2 ∧ ((f2_spread_L73 τ ρ π b x2 x3 f γ (nI L) (nI i)).2.2.2 (5 * b + 1) = γ.2 (5 * b + 1) ∧ (f2_spread_L73 τ ρ π b x2 x3 f γ (nI L) (nI i)).2.2.2 (5 * b + 2) = γ.2 (5 * b + 2)) ∧ (f2_spread_L73 τ ρ π b x2 x3 f γ' (nI L) (nI i)).2.2.2 (5 * b + 1) = γ'.2 (5 * b + 1) ∧ (f2_spread_L73 τ ρ π b x2 x3 f γ' (nI L) (nI i)).2.2.2 (5 * b + 2) = γ'.2 (5 * b + 2) ∧ (f2_spread_L73 τ ρ π b x2 x3 f γ (nI L) (nI i)).2.2.1 = γ.1 ∧ (f2_spread_L73 τ ρ π b x2 x3 f γ' (nI L) (nI i)).2.2.1 = γ'.1 := by
  have h36 := hS.n36
  intro f
  induction f with
  | zero => intro γ γ' L i hL hi hA; exact ⟨L, hL, rfl, rfl, hA, ⟨rfl, rfl⟩, rfl, rfl, rfl, rfl⟩
  | succ f ih =>
    intro γ γ' L i hL hi hA
    rw [f2_spread_L73_s, f2_spread_L73_s]
    by_cases c0 : nI L ≤ nI i
    · rw [if_pos c0, if_pos c0]
      exact ⟨L, hL, rfl, rfl, hA, ⟨rfl, rfl⟩, rfl, rfl, rfl, rfl⟩
    rw [if_neg c0, if_neg c0]
    by_cases c1 : 64 ≤ nI i
    · rw [if_pos c1, if_pos c1]
      exact ⟨L, hL, rfl, rfl, hA, ⟨rfl, rfl⟩, rfl, rfl, rfl, rfl⟩
    rw [if_neg c1, if_neg c1]
    rw [nIle (by omega) (by omega)] at c0
    rw [show (64 : Int32) = nI 64 from rfl, nIle (by omega) (by omega)] at c1
    rw [nI_cl (n := i) (by omega), ← hA.2.2 i (by omega)]
    generalize γ.2 (5 * b + 4) i = c
    -- the rows of least marks may differ
    have hA2 : ∀ (j j' : Nat) (v v' : Int32), A1 (w * h) b L (sa γ (5 * b + 3) j v) (sa γ' (5 * b + 3) j' v') := fun j j' v v' => by
      refine ⟨hA.1, fun c hc => ?_, fun i hi => ?_⟩
      · rw [sa_diff _ _ _ (by omega), sa_diff _ _ _ (by omega)]; exact hA.2.1 c hc
      · rw [sa_diff _ _ _ (by omega), sa_diff _ _ _ (by omega)]; exact hA.2.2 i hi
    have r : ∀ (γ : Sg) (i : Nat) (v : Int32) (j : Nat), j = 5 * b + 1 ∨ j = 5 * b + 2 → (sa γ (5 * b + 3) i v).2 j = γ.2 j := fun γ i v j hj => sa_diff _ _ _ (by omega)
    have hA3 := hA2 (γ.1 b).toNatClampNeg (γ'.1 b).toNatClampNeg (if f3_markAt π c < γ.2 (5 * b + 3) (γ.1 b).toNatClampNeg then f3_markAt π c else γ.2 (5 * b + 3) (γ.1 b).toNatClampNeg) (if f3_markAt π c < γ'.2 (5 * b + 3) (γ'.1 b).toNatClampNeg then f3_markAt π c else γ'.2 (5 * b + 3) (γ'.1 b).toNatClampNeg)
    have r1 := r γ (γ.1 b).toNatClampNeg (if f3_markAt π c < γ.2 (5 * b + 3) (γ.1 b).toNatClampNeg then f3_markAt π c else γ.2 (5 * b + 3) (γ.1 b).toNatClampNeg)
    have r2 := r γ' (γ'.1 b).toNatClampNeg (if f3_markAt π c < γ'.2 (5 * b + 3) (γ'.1 b).toNatClampNeg then f3_markAt π c else γ'.2 (5 * b + 3) (γ'.1 b).toNatClampNeg)
    have s1 : (sa γ (5 * b + 3) (γ.1 b).toNatClampNeg (if f3_markAt π c < γ.2 (5 * b + 3) (γ.1 b).toNatClampNeg then f3_markAt π c else γ.2 (5 * b + 3) (γ.1 b).toNatClampNeg)).1 = γ.1 := rfl
    have s2 : (sa γ' (5 * b + 3) (γ'.1 b).toNatClampNeg (if f3_markAt π c < γ'.2 (5 * b + 3) (γ'.1 b).toNatClampNeg then f3_markAt π c else γ'.2 (5 * b + 3) (γ'.1 b).toNatClampNeg)).1 = γ'.1 := rfl
    generalize (sa γ (5 * b + 3) (γ.1 b).toNatClampNeg (if f3_markAt π c < γ.2 (5 * b + 3) (γ.1 b).toNatClampNeg then f3_markAt π c else γ.2 (5 * b + 3) (γ.1 b).toNatClampNeg)) = γ1 at hA3 r1 s1 ⊢
    generalize (sa γ' (5 * b + 3) (γ'.1 b).toNatClampNeg (if f3_markAt π c < γ'.2 (5 * b + 3) (γ'.1 b).toNatClampNeg then f3_markAt π c else γ'.2 (5 * b + 3) (γ'.1 b).toNatClampNeg)) = γ1' at hA3 r2 s2 ⊢
    obtain ⟨L', p1, p2, p3, p4, p5, ⟨p6, p7⟩, p8, p9, p10, p11⟩ := sp130_A (ρ := ρ) (π := π) hS (x2 := x2) (x3 := x3) (x5 := nI i) (x6 := c) (x7 := f3_markAt π c) 8589934592 γ1 γ1' L 0 hL hA3
    generalize f2_spread_L130 τ ρ π b x2 x3 (nI i) c (f3_markAt π c) 8589934592 γ1 (nI L) 0 = R at p3 p5 p6 p7 p10 ⊢
    generalize f2_spread_L130 τ ρ π b x2 x3 (nI i) c (f3_markAt π c) 8589934592 γ1' (nI L) 0 = R' at p4 p5 p8 p9 p11 ⊢
    rw [p3, p4, ← nI_succ]
    obtain ⟨L2, t1, t3, t4, t5, ⟨t6, t7⟩, t8, t9, t10, t11⟩ := ih R.2.2 R'.2.2 L' (i + 1) p1 (by omega) p5
    exact ⟨L2, t1, t3, t4, t5, ⟨by rw [t6, p6, r1 _ (Or.inl rfl)], by rw [t7, p7, r1 _ (Or.inr rfl)]⟩, by rw [t8, p8, r2 _ (Or.inl rfl)], by rw [t9, p9, r2 _ (Or.inr rfl)], by rw [t10, p10, s1], by rw [t11, p11, s2]⟩
theorem spread_A (hS : Shp τ w h) {b : Nat} {γ γ' : Sg} (hA : A2 (w * h) b γ γ') (a2 a3 : Int32) : A2 (w * h) b (f2_spread τ ρ π γ b a2 a3) (f2_spread τ ρ π γ' b a2 a3) := by
  have h36 := hS.n36
  rw [spread_eq, spread_eq, ← hA.1]
  by_cases c1 : f5_holds τ a2 = 0
  · rw [if_pos c1, if_pos c1]; exact hA
  rw [if_neg c1, if_neg c1]
  by_cases c2 : f5_holds τ (γ.1 b) = 0
  · rw [if_pos c2, if_pos c2]; exact hA
  rw [if_neg c2, if_neg c2]
  obtain ⟨k, hk, rfl⟩ := holds_lt hS c1
  obtain ⟨mm, hmm, em⟩ := holds_lt hS c2
  have em' : γ'.1 b = nI mm := by rw [← hA.1]; exact em
  have eB : ∀ (γ : Sg) (v : Int32), γ.1 b = nI mm → spB b γ (nI k) v = sa (sa (sa (sa γ (5 * b + 0) k (nI mm)) (5 * b + 1) mm (nI k)) (5 * b + 3) mm v) (5 * b + 4) 0 (nI k) := fun γ v e => by
    unfold spB
    rw [sa_1, sa_1, sa_1, e, nI_cl (by omega), nI_cl (by omega)]
    rfl
  rw [eB γ _ em, eB γ' _ em']
  generalize f3_markAt π (nI k) = v
  have rw0 : ∀ (γ : Sg) (c : Nat), (sa (sa (sa (sa γ (5 * b + 0) k (nI mm)) (5 * b + 1) mm (nI k)) (5 * b + 3) mm v) (5 * b + 4) 0 (nI k)).2 (5 * b + 0) c = if c = k then nI mm else γ.2 (5 * b + 0) c := fun γ c => by
    rw [sa_diff _ _ _ (by omega), sa_diff _ _ _ (by omega), sa_diff _ _ _ (by omega), sa_same]
  have rw1 : ∀ (γ : Sg) (c : Nat), (sa (sa (sa (sa γ (5 * b + 0) k (nI mm)) (5 * b + 1) mm (nI k)) (5 * b + 3) mm v) (5 * b + 4) 0 (nI k)).2 (5 * b + 1) c = if c = mm then nI k else γ.2 (5 * b + 1) c := fun γ c => by
    rw [sa_diff _ _ _ (by omega), sa_diff _ _ _ (by omega), sa_same, sa_diff _ _ _ (by omega)]
  have rw2 : ∀ (γ : Sg), (sa (sa (sa (sa γ (5 * b + 0) k (nI mm)) (5 * b + 1) mm (nI k)) (5 * b + 3) mm v) (5 * b + 4) 0 (nI k)).2 (5 * b + 2) = γ.2 (5 * b + 2) := fun γ => by
    rw [sa_diff _ _ _ (by omega), sa_diff _ _ _ (by omega), sa_diff _ _ _ (by omega), sa_diff _ _ _ (by omega)]
  have rw4 : ∀ (γ : Sg), (sa (sa (sa (sa γ (5 * b + 0) k (nI mm)) (5 * b + 1) mm (nI k)) (5 * b + 3) mm v) (5 * b + 4) 0 (nI k)).2 (5 * b + 4) 0 = nI k := fun γ => by
    rw [sa_same, if_pos rfl]
  have rwn : ∀ (γ : Sg), (sa (sa (sa (sa γ (5 * b + 0) k (nI mm)) (5 * b + 1) mm (nI k)) (5 * b + 3) mm v) (5 * b + 4) 0 (nI k)).1 = γ.1 := fun γ => rfl
  have st : A1 (w * h) b 1 (sa (sa (sa (sa γ (5 * b + 0) k (nI mm)) (5 * b + 1) mm (nI k)) (5 * b + 3) mm v) (5 * b + 4) 0 (nI k)) (sa (sa (sa (sa γ' (5 * b + 0) k (nI mm)) (5 * b + 1) mm (nI k)) (5 * b + 3) mm v) (5 * b + 4) 0 (nI k)) := by
    refine ⟨hA.1, fun c hc => ?_, fun i hi => ?_⟩
    · rw [rw0, rw0, hA.2.1 c hc]
    · have e : i = 0 := by omega
      rw [e, rw4, rw4]
  obtain ⟨L, p1, p3, p4, p5, ⟨p6, p7⟩, p8, p9, p10, p11⟩ := sp73_A (ρ := ρ) (π := π) hS (x2 := nI k) (x3 := a3) 8589934592 _ _ 1 0 (by omega) (by omega) st
  rw [show nI 1 = 1 from rfl, nI_0] at p3 p4 p5 p6 p7 p8 p9 p10 p11
  generalize f2_spread_L73 τ ρ π b (nI k) a3 8589934592 (sa (sa (sa (sa γ (5 * b + 0) k (nI mm)) (5 * b + 1) mm (nI k)) (5 * b + 3) mm v) (5 * b + 4) 0 (nI k)) 1 0 = R at p3 p5 p6 p7 p10 ⊢
  generalize f2_spread_L73 τ ρ π b (nI k) a3 8589934592 (sa (sa (sa (sa γ' (5 * b + 0) k (nI mm)) (5 * b + 1) mm (nI k)) (5 * b + 3) mm v) (5 * b + 4) 0 (nI k)) 1 0 = R' at p4 p5 p8 p9 p11 ⊢
  have eE : ∀ (Q : Int32 × Int32 × Sg), Q.2.2.1 b = nI mm → Q.1 = nI L → spE b Q = si (sa Q.2.2 (5 * b + 2) mm (nI L)) b (nI (mm + 1)) := fun Q h1 h2 => by
    unfold spE
    rw [sa_1, h1, h2, nI_cl (by omega), ← nI_succ]
  rw [eE R (by rw [p10, rwn]; exact em) p3, eE R' (by rw [p11, rwn]; exact em') p4]
  refine ⟨by rw [si_1, si_1, if_pos rfl, if_pos rfl], fun c hc => ?_, fun g hg => ⟨?_, ?_⟩⟩
  · rw [si_2, si_2, sa_diff _ _ _ (by omega), sa_diff _ _ _ (by omega)]
    exact p5.2.1 c hc
  · rw [si_1, if_pos rfl, nI_int (by omega)] at hg
    rw [si_2, si_2, sa_diff _ _ _ (by omega), sa_diff _ _ _ (by omega), p6, p8, rw1, rw1]
    by_cases e : g = mm
    · rw [if_pos e, if_pos e]
    · rw [if_neg e, if_neg e]
      exact (hA.2.2 g (by rw [em, nI_int (by omega)]; omega)).1
  · rw [si_1, if_pos rfl, nI_int (by omega)] at hg
    rw [si_2, si_2, sa_same, sa_same, p7, p9, rw2, rw2]
    by_cases e : g = mm
    · rw [if_pos e, if_pos e]
    · rw [if_neg e, if_neg e]
      exact (hA.2.2 g (by rw [em, nI_int (by omega)]; omega)).2
theorem gather15_A (hS : Shp τ w h) {b : Nat} {a3 : Int32} : ∀ (f : Nat) (γ γ' : Sg) (k : Int32), A2 (w * h) b γ γ' → A2 (w * h) b (f2_gather_L15 τ ρ π b a3 f γ k).2 (f2_gather_L15 τ ρ π b a3 f γ' k).2 := by
  intro f
  induction f with
  | zero => intro γ γ' k hA; exact hA
  | succ f ih =>
    intro γ γ' k hA
    rw [f2_gather_L15_s, f2_gather_L15_s, ← at_A hS hA.2.1]
    by_cases c0 : f5_cells τ ≤ k
    · rw [if_pos c0, if_pos c0]; exact hA
    rw [if_neg c0, if_neg c0]
    by_cases c1 : f3_markAt π k = 0
    · rw [if_pos c1, if_pos c1]; exact ih _ _ _ hA
    rw [if_neg c1, if_neg c1]
    by_cases c2 : f2_at τ γ b k = -1
    · rw [if_pos c2, if_pos c2]; exact ih _ _ _ (spread_A hS hA _ _)
    · rw [if_neg c2, if_neg c2]; exact ih _ _ _ hA
theorem gather_A (hS : Shp τ w h) (γ γ' : Sg) (b : Nat) (a3 : Int32) : A2 (w * h) b (f2_gather τ ρ π γ b a3) (f2_gather τ ρ π γ' b a3) := by
  have h36 := hS.n36
  have e0 : ∀ γ : Sg, ∀ c, c < w * h → (saf (si γ b 0) (5 * b + 0) (fillF ((si γ b 0).2 (5 * b + 0)) 64 (-1))).2 (5 * b + 0) c = -1 := fun γ c hc => by
    show (if 5 * b + 0 = 5 * b + 0 then fillF ((si γ b 0).2 (5 * b + 0)) 64 (-1) else _) c = _
    rw [if_pos rfl]
    unfold fillF
    rw [if_pos (by omega)]
  have e1 : ∀ γ : Sg, (saf (si γ b 0) (5 * b + 0) (fillF ((si γ b 0).2 (5 * b + 0)) 64 (-1))).1 b = 0 := fun γ => by
    show (if b = b then (0 : Int32) else γ.1 b) = 0
    rw [if_pos rfl]
  unfold f2_gather
  refine gather15_A hS _ _ _ _ ⟨by rw [e1, e1], fun c hc => by rw [e0 γ c hc, e0 γ' c hc], fun g hg => ?_⟩
  rw [e1, i0] at hg
  exact absurd hg (Nat.not_lt_zero _)
/-- what two looks have in common -/
def A3 (n : Nat) (γ γ' : Sg) : Prop := A2 n 0 γ γ' ∧ γ.1 1 = γ'.1 1
theorem look_A (hS : Shp τ w h) {B : Int} (hG : GP (w * h) B π) (γ γ' : Sg) : A3 (w * h) (f6_look τ ρ π γ) (f6_look τ ρ π γ') := by
  have a0 := gather_A (ρ := ρ) (π := π) hS γ γ' 0 1
  have a1 := gather_A (ρ := ρ) (π := π) hS (f2_gather τ ρ π γ 0 1) (f2_gather τ ρ π γ' 0 1) 1 (f4_etchNow ρ)
  obtain ⟨m1, g1⟩ := gather_at hS hG (ρ := ρ) (f2_gather τ ρ π γ 0 1) 1 (f4_etchNow ρ)
  obtain ⟨m2, g2⟩ := gather_at hS hG (ρ := ρ) (f2_gather τ ρ π γ' 0 1) 1 (f4_etchNow ρ)
  have f1 := g1.2.2.2.2.2.2.2.2.2.2
  have f2 := g2.2.2.2.2.2.2.2.2.2.2
  refine ⟨⟨?_, fun c hc => ?_, fun g hg => ⟨?_, ?_⟩⟩, a1.1⟩
  · show (f2_gather τ ρ π (f2_gather τ ρ π γ 0 1) 1 (f4_etchNow ρ)).1 0 = (f2_gather τ ρ π (f2_gather τ ρ π γ' 0 1) 1 (f4_etchNow ρ)).1 0
    rw [f1.2 0 (by omega), f2.2 0 (by omega)]
    exact a0.1
  · show (f2_gather τ ρ π (f2_gather τ ρ π γ 0 1) 1 (f4_etchNow ρ)).2 (5 * 0 + 0) c = (f2_gather τ ρ π (f2_gather τ ρ π γ' 0 1) 1 (f4_etchNow ρ)).2 (5 * 0 + 0) c
    rw [f1.1 _ (Or.inl (by omega)), f2.1 _ (Or.inl (by omega))]
    exact a0.2.1 c hc
  · have hg : g < ((f2_gather τ ρ π (f2_gather τ ρ π γ 0 1) 1 (f4_etchNow ρ)).1 0).toInt.toNat := hg
    rw [f1.2 0 (by omega)] at hg
    show (f2_gather τ ρ π (f2_gather τ ρ π γ 0 1) 1 (f4_etchNow ρ)).2 (5 * 0 + 1) g = (f2_gather τ ρ π (f2_gather τ ρ π γ' 0 1) 1 (f4_etchNow ρ)).2 (5 * 0 + 1) g
    rw [f1.1 _ (Or.inl (by omega)), f2.1 _ (Or.inl (by omega))]
    exact (a0.2.2 g hg).1
  · have hg : g < ((f2_gather τ ρ π (f2_gather τ ρ π γ 0 1) 1 (f4_etchNow ρ)).1 0).toInt.toNat := hg
    rw [f1.2 0 (by omega)] at hg
    show (f2_gather τ ρ π (f2_gather τ ρ π γ 0 1) 1 (f4_etchNow ρ)).2 (5 * 0 + 2) g = (f2_gather τ ρ π (f2_gather τ ρ π γ' 0 1) 1 (f4_etchNow ρ)).2 (5 * 0 + 2) g
    rw [f1.1 _ (Or.inl (by omega)), f2.1 _ (Or.inl (by omega))]
    exact (a0.2.2 g hg).2
end

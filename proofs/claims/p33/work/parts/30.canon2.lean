/-! WHAT IS READ BEHIND A LOOK, number by number -/
section
variable {τ ρ π : Sg} {w h : Nat} {γ γ' : Sg}
theorem A3.gat (hS : Shp τ w h) (hA : A3 (w * h) γ γ') (x : Int32) : f2_at τ γ 0 x = f2_at τ γ' 0 x := at_A hS hA.1.2.1 x
theorem A3.has (hA : A3 (w * h) γ γ') (x : Int32) : f2_hasGrain γ 0 x = f2_hasGrain γ' 0 x := by
  unfold f2_hasGrain
  rw [hA.1.1]
theorem has_lt {x : Int32} (hx : ¬ f2_hasGrain γ 0 x = 0) : x.toNatClampNeg < (γ.1 0).toInt.toNat := by
  unfold f2_hasGrain at hx
  by_cases c1 : x < 0
  · rw [if_pos c1] at hx; exact absurd rfl hx
  rw [if_neg c1] at hx
  by_cases c2 : γ.1 0 ≤ x
  · rw [if_pos c2] at hx; exact absurd rfl hx
  rw [z_lt, i0] at c1
  rw [z_le] at c2
  rw [clamp_toInt]
  omega
theorem A3.first (hA : A3 (w * h) γ γ') (x : Int32) : f2_firstOf γ 0 x = f2_firstOf γ' 0 x := by
  unfold f2_firstOf
  rw [← hA.has]
  by_cases c : f2_hasGrain γ 0 x = 0
  · rw [if_pos c, if_pos c]
  · rw [if_neg c, if_neg c]
    exact (hA.1.2.2 _ (has_lt c)).1
theorem A3.size (hA : A3 (w * h) γ γ') (x : Int32) : f2_sizeOf γ 0 x = f2_sizeOf γ' 0 x := by
  unfold f2_sizeOf
  rw [← hA.has]
  by_cases c : f2_hasGrain γ 0 x = 0
  · rw [if_pos c, if_pos c]
  · rw [if_neg c, if_neg c]
    exact (hA.1.2.2 _ (has_lt c)).2
theorem A3.greatest (hA : A3 (w * h) γ γ') : f2_greatestSize γ 0 = f2_greatestSize γ' 0 := by
  have key : ∀ (f : Nat) (x i : Int32), f2_greatestSize_L4 γ 0 f x i = f2_greatestSize_L4 γ' 0 f x i := by
    intro f
    induction f with
    | zero => intro x i; rfl
    | succ f ih => intro x i; rw [f2_greatestSize_L4_s, f2_greatestSize_L4_s, ← hA.1.1, ← hA.size, ih]
  unfold f2_greatestSize
  rw [key]
theorem A3.area0 (hA : A3 (w * h) γ γ') : f2_sizeByArea τ π γ 0 = f2_sizeByArea τ π γ' 0 := by
  unfold f2_sizeByArea
  rw [hA.1.1]
theorem A3.area1 (hA : A3 (w * h) γ γ') : f2_sizeByArea τ π γ 1 = f2_sizeByArea τ π γ' 1 := by
  unfold f2_sizeByArea
  rw [hA.2]
theorem A3.chart (hA : A3 (w * h) γ γ') : f6_sizeByChart γ = f6_sizeByChart γ' := by
  have key : ∀ (f : Nat) (x i : Int32), f6_sizeByChart_L4 γ f x i = f6_sizeByChart_L4 γ' f x i := by
    intro f
    induction f with
    | zero => intro x i; rfl
    | succ f ih =>
      intro x i
      rw [f6_sizeByChart_L4_s, f6_sizeByChart_L4_s, ih]
      unfold f2_many
      rw [hA.2]
  unfold f6_sizeByChart
  rw [key]
theorem A3.round (hS : Shp τ w h) (hA : A3 (w * h) γ γ') (x1 : Int32) : f6_roundOf τ γ x1 = f6_roundOf τ γ' x1 := by
  have k1 : ∀ (x3 : Int32) (f : Nat) (x i : Int32), f6_roundOf_L18 τ γ x1 x3 f x i = f6_roundOf_L18 τ γ' x1 x3 f x i := by
    intro x3 f
    induction f with
    | zero => intro x i; rfl
    | succ f ih => intro x i; rw [f6_roundOf_L18_s, f6_roundOf_L18_s, hA.gat hS, hA.gat hS, ih, ih]
  have k2 : ∀ (f : Nat) (x i : Int32), f6_roundOf_L4 τ γ x1 f x i = f6_roundOf_L4 τ γ' x1 f x i := by
    intro f
    induction f with
    | zero => intro x i; rfl
    | succ f ih => intro x i; rw [f6_roundOf_L4_s, f6_roundOf_L4_s, k1, ih]
  unfold f6_roundOf
  rw [k2]
theorem A3.work (hS : Shp τ w h) (hA : A3 (w * h) γ γ') (x1 : Int32) : f6_workOf τ π γ x1 = f6_workOf τ π γ' x1 := by
  have k2 : ∀ (f : Nat) (x i : Int32), f6_workOf_L4 τ π γ x1 f x i = f6_workOf_L4 τ π γ' x1 f x i := by
    intro f
    induction f with
    | zero => intro x i; rfl
    | succ f ih => intro x i; rw [f6_workOf_L4_s, f6_workOf_L4_s, hA.gat hS, ih, ih]
  unfold f6_workOf
  rw [k2]
theorem A3.hard (hS : Shp τ w h) (hA : A3 (w * h) γ γ') (x1 : Int32) : f6_hardOf τ π γ x1 = f6_hardOf τ π γ' x1 := by
  have k2 : ∀ (f : Nat) (x i : Int32), f6_hardOf_L4 τ π γ x1 f x i = f6_hardOf_L4 τ π γ' x1 f x i := by
    intro f
    induction f with
    | zero => intro x i; rfl
    | succ f ih => intro x i; rw [f6_hardOf_L4_s, f6_hardOf_L4_s, hA.gat hS, ih, ih]
  unfold f6_hardOf
  rw [k2]
/-- with the row of what was met -/
def A4 (n : Nat) (γ γ' : Sg) : Prop := A3 n γ γ' ∧ ∀ j, j < 64 → γ.2 10 j = γ'.2 10 j
theorem A3.met (hA : A3 (w * h) γ γ') {f f' : Nat → Int32} (hf : ∀ j, j < 64 → f j = f' j) : A4 (w * h) (saf γ 10 f) (saf γ' 10 f') := by
  refine ⟨⟨⟨hA.1.1, hA.1.2.1, hA.1.2.2⟩, hA.2⟩, fun j hj => ?_⟩
  show (if 10 = 10 then f else γ.2 10) j = (if 10 = 10 then f' else γ'.2 10) j
  rw [if_pos rfl, if_pos rfl]
  exact hf j hj
theorem borders41_A (hS : Shp τ w h) {x1 x3 : Int32} : ∀ (f : Nat) (γ γ' : Sg) (x i : Int32), A4 (w * h) γ γ' → (f6_bordersOf_L41 τ x1 x3 f γ x i).1 = (f6_bordersOf_L41 τ x1 x3 f γ' x i).1 ∧ A4 (w * h) (f6_bordersOf_L41 τ x1 x3 f γ x i).2.2 (f6_bordersOf_L41 τ x1 x3 f γ' x i).2.2 := by
  intro f
  induction f with
  | zero => intro γ γ' x i hA; exact ⟨rfl, hA⟩
  | succ f ih =>
    intro γ γ' x i hA
    rw [f6_bordersOf_L41_s, f6_bordersOf_L41_s, ← hA.1.gat hS]
    generalize f2_at τ γ 0 (f5_beside τ x3 i) = o
    by_cases c0 : f5_besideMany τ x3 ≤ i
    · rw [if_pos c0, if_pos c0]; exact ⟨rfl, hA⟩
    rw [if_neg c0, if_neg c0]
    by_cases c1 : o < 0
    · rw [if_pos c1, if_pos c1]; exact ih _ _ _ _ hA
    rw [if_neg c1, if_neg c1]
    by_cases c2 : 64 ≤ o
    · rw [if_pos c2, if_pos c2]; exact ih _ _ _ _ hA
    rw [if_neg c2, if_neg c2]
    by_cases c3 : o = x1
    · rw [if_pos c3, if_pos c3]; exact ih _ _ _ _ hA
    rw [if_neg c3, if_neg c3]
    have ho : o.toNatClampNeg < 64 := by
      rw [z_le, i64] at c2
      rw [clamp_toInt]
      omega
    rw [← hA.2 _ ho]
    by_cases c4 : γ.2 10 o.toNatClampNeg = 0
    · rw [if_pos c4, if_pos c4]
      refine ih _ _ _ _ (A3.met hA.1 (fun j hj => ?_))
      unfold upd
      by_cases e : j = o.toNatClampNeg
      · rw [if_pos e, if_pos e]
      · rw [if_neg e, if_neg e]; exact hA.2 j hj
    · rw [if_neg c4, if_neg c4]; exact ih _ _ _ _ hA
theorem A3.borders (hS : Shp τ w h) (hA : A3 (w * h) γ γ') (x1 : Int32) : (f6_bordersOf τ γ x1).1 = (f6_bordersOf τ γ' x1).1 ∧ A3 (w * h) (f6_bordersOf τ γ x1).2 (f6_bordersOf τ γ' x1).2 := by
  have key : ∀ (f : Nat) (γ γ' : Sg) (x i : Int32), A4 (w * h) γ γ' → (f6_bordersOf_L12 τ x1 f γ x i).1 = (f6_bordersOf_L12 τ x1 f γ' x i).1 ∧ A4 (w * h) (f6_bordersOf_L12 τ x1 f γ x i).2.2 (f6_bordersOf_L12 τ x1 f γ' x i).2.2 := by
    intro f
    induction f with
    | zero => intro γ γ' x i hA; exact ⟨rfl, hA⟩
    | succ f ih =>
      intro γ γ' x i hA
      rw [f6_bordersOf_L12_s, f6_bordersOf_L12_s, ← hA.1.gat hS]
      by_cases c0 : f5_cells τ ≤ i
      · rw [if_pos c0, if_pos c0]; exact ⟨rfl, hA⟩
      rw [if_neg c0, if_neg c0]
      by_cases c1 : f2_at τ γ 0 i = x1
      · rw [if_pos c1, if_pos c1]
        obtain ⟨a, b⟩ := borders41_A hS (x1 := x1) (x3 := i) 8589934592 γ γ' x 0 hA
        rw [← a]
        exact ih _ _ _ _ b
      · rw [if_neg c1, if_neg c1]; exact ih _ _ _ _ hA
  have st : A4 (w * h) (saf γ 10 (fillF (γ.2 10) 64 0)) (saf γ' 10 (fillF (γ'.2 10) 64 0)) := A3.met hA (fun j hj => by
    unfold fillF
    rw [if_pos hj, if_pos hj])
  have := key 8589934592 _ _ 0 0 st
  exact ⟨this.1, this.2.1⟩
theorem A3.grain (hS : Shp τ w h) (hA : A3 (w * h) γ γ') (g k : Int32) : (f6_grainNumber τ π γ g k).1 = (f6_grainNumber τ π γ' g k).1 ∧ A3 (w * h) (f6_grainNumber τ π γ g k).2 (f6_grainNumber τ π γ' g k).2 := by
  have b := hA.borders hS g
  unfold f6_grainNumber
  rw [← hA.first, ← hA.size, ← hA.round hS, ← hA.work hS, ← hA.hard hS]
  by_cases c0 : k = 0
  · rw [if_pos c0, if_pos c0]; exact ⟨rfl, hA⟩
  rw [if_neg c0, if_neg c0]
  by_cases c1 : k = 1
  · rw [if_pos c1, if_pos c1]; exact ⟨rfl, hA⟩
  rw [if_neg c1, if_neg c1]
  by_cases c2 : k = 2
  · rw [if_pos c2, if_pos c2]; exact ⟨rfl, hA⟩
  rw [if_neg c2, if_neg c2]
  by_cases c3 : k = 3
  · rw [if_pos c3, if_pos c3]; exact b
  rw [if_neg c3, if_neg c3]
  by_cases c4 : k = 4
  · rw [if_pos c4, if_pos c4]; exact ⟨rfl, hA⟩
  rw [if_neg c4, if_neg c4]
  by_cases c5 : k = 5
  · rw [if_pos c5, if_pos c5]; exact ⟨rfl, hA⟩
  rw [if_neg c5, if_neg c5]
  by_cases c6 : k = 6
  · rw [if_pos c6, if_pos c6]; exact ⟨rfl, hA⟩
  rw [if_neg c6, if_neg c6]
  exact ⟨rfl, hA⟩
theorem A3.cell (hS : Shp τ w h) (hA : A3 (w * h) γ γ') (c k : Int32) : f6_cellNumber τ ρ π γ c k = f6_cellNumber τ ρ π γ' c k := by
  unfold f6_cellNumber
  rw [← hA.gat hS]
theorem A3.metal (hA : A3 (w * h) γ γ') (k : Int32) : f6_metalNumber τ ρ π γ k = f6_metalNumber τ ρ π γ' k := by
  unfold f6_metalNumber
  have m0 : f2_many γ 0 = f2_many γ' 0 := hA.1.1
  have m1 : f2_many γ 1 = f2_many γ' 1 := hA.2
  rw [m0, m1, hA.area0, hA.area1, hA.chart, hA.greatest]
theorem A3.sound (hA : A3 (w * h) γ γ') : f6_isAllSound τ ρ π γ = f6_isAllSound τ ρ π γ' := by
  have k : ∀ (f : Nat) (x i : Int32), f6_isAllSound_L10 τ ρ π γ f x i = f6_isAllSound_L10 τ ρ π γ' f x i := by
    intro f
    induction f with
    | zero => intro x i; rfl
    | succ f ih =>
      intro x i
      have m0 : f2_many γ 0 = f2_many γ' 0 := hA.1.1
      rw [f6_isAllSound_L10_s, f6_isAllSound_L10_s, m0, hA.size, ih]
  unfold f6_isAllSound
  have m0 : f2_many γ 0 = f2_many γ' 0 := hA.1.1
  have m1 : f2_many γ 1 = f2_many γ' 1 := hA.2
  rw [k, m0, m1]
theorem A3.bordering (hS : Shp τ w h) (hA : A3 (w * h) γ γ') (m : Int32) : (f6_grainsBordering τ γ m).1 = (f6_grainsBordering τ γ' m).1 ∧ A3 (w * h) (f6_grainsBordering τ γ m).2 (f6_grainsBordering τ γ' m).2 := by
  have key : ∀ (f : Nat) (γ γ' : Sg) (x i : Int32), A3 (w * h) γ γ' → (f6_grainsBordering_L4 τ m f γ x i).1 = (f6_grainsBordering_L4 τ m f γ' x i).1 ∧ A3 (w * h) (f6_grainsBordering_L4 τ m f γ x i).2.2 (f6_grainsBordering_L4 τ m f γ' x i).2.2 := by
    intro f
    induction f with
    | zero => intro γ γ' x i hA; exact ⟨rfl, hA⟩
    | succ f ih =>
      intro γ γ' x i hA
      obtain ⟨a, b⟩ := hA.borders hS i
      have m0 : f2_many γ 0 = f2_many γ' 0 := hA.1.1
      rw [f6_grainsBordering_L4_s, f6_grainsBordering_L4_s, ← m0, ← a]
      by_cases c0 : f2_many γ 0 ≤ i
      · rw [if_pos c0, if_pos c0]; exact ⟨rfl, hA⟩
      rw [if_neg c0, if_neg c0]
      by_cases c1 : (f6_bordersOf τ γ i).1 = m
      · rw [if_pos c1, if_pos c1]; exact ih _ _ _ _ b
      · rw [if_neg c1, if_neg c1]; exact ih _ _ _ _ b
  exact key 8589934592 γ γ' 0 0 hA
theorem digestCells_A (hS : Shp τ w h) (hA : A3 (w * h) γ γ') (a : Int64) : f7_digestOfCells τ ρ π γ a = f7_digestOfCells τ ρ π γ' a := by
  have k1 : ∀ (x1 : Int64) (x5 : Int32) (f : Nat) (x : Int64) (i : Int32), f7_digestOfCells_L20 τ ρ π γ x1 x5 f x i = f7_digestOfCells_L20 τ ρ π γ' x1 x5 f x i := by
    intro x1 x5 f
    induction f with
    | zero => intro x i; rfl
    | succ f ih => intro x i; rw [f7_digestOfCells_L20_s, f7_digestOfCells_L20_s, hA.cell hS, ih]
  have k2 : ∀ (x1 : Int64) (f : Nat) (x : Int64) (i : Int32), f7_digestOfCells_L5 τ ρ π γ x1 f x i = f7_digestOfCells_L5 τ ρ π γ' x1 f x i := by
    intro x1 f
    induction f with
    | zero => intro x i; rfl
    | succ f ih => intro x i; rw [f7_digestOfCells_L5_s, f7_digestOfCells_L5_s, k1, ih]
  unfold f7_digestOfCells
  rw [k2]
theorem digestGrains_A (hS : Shp τ w h) (hA : A3 (w * h) γ γ') (a : Int64) : (f7_digestOfGrains τ π γ a).1 = (f7_digestOfGrains τ π γ' a).1 ∧ A3 (w * h) (f7_digestOfGrains τ π γ a).2 (f7_digestOfGrains τ π γ' a).2 := by
  have k1 : ∀ (x1 : Int64) (x5 : Int32) (f : Nat) (γ γ' : Sg) (x : Int64) (i : Int32), A3 (w * h) γ γ' → (f7_digestOfGrains_L20 τ π x1 x5 f γ x i).1 = (f7_digestOfGrains_L20 τ π x1 x5 f γ' x i).1 ∧ A3 (w * h) (f7_digestOfGrains_L20 τ π x1 x5 f γ x i).2.2 (f7_digestOfGrains_L20 τ π x1 x5 f γ' x i).2.2 := by
    intro x1 x5 f
    induction f with
    | zero => intro γ γ' x i hA; exact ⟨rfl, hA⟩
    | succ f ih =>
      intro γ γ' x i hA
      obtain ⟨a, b⟩ := hA.grain (π := π) hS x5 i
      rw [f7_digestOfGrains_L20_s, f7_digestOfGrains_L20_s, ← a]
      by_cases c0 : 7 ≤ i
      · rw [if_pos c0, if_pos c0]; exact ⟨rfl, hA⟩
      · rw [if_neg c0, if_neg c0]; exact ih _ _ _ _ b
  have k2 : ∀ (x1 : Int64) (f : Nat) (γ γ' : Sg) (x : Int64) (i : Int32), A3 (w * h) γ γ' → (f7_digestOfGrains_L5 τ π x1 f γ x i).1 = (f7_digestOfGrains_L5 τ π x1 f γ' x i).1 ∧ A3 (w * h) (f7_digestOfGrains_L5 τ π x1 f γ x i).2.2 (f7_digestOfGrains_L5 τ π x1 f γ' x i).2.2 := by
    intro x1 f
    induction f with
    | zero => intro γ γ' x i hA; exact ⟨rfl, hA⟩
    | succ f ih =>
      intro γ γ' x i hA
      have m0 : f6_grainMany γ = f6_grainMany γ' := hA.1.1
      obtain ⟨a, b⟩ := k1 x1 i 8589934592 γ γ' x 0 hA
      rw [f7_digestOfGrains_L5_s, f7_digestOfGrains_L5_s, ← m0, ← a]
      by_cases c0 : f6_grainMany γ ≤ i
      · rw [if_pos c0, if_pos c0]; exact ⟨rfl, hA⟩
      · rw [if_neg c0, if_neg c0]; exact ih _ _ _ _ b
  exact k2 a 8589934592 γ γ' a 0 hA
theorem digest17_A (hA : A3 (w * h) γ γ') : ∀ (f : Nat) (x : Int64) (i : Int32), f7_digest_L17 τ ρ π γ f x i = f7_digest_L17 τ ρ π γ' f x i := by
  intro f
  induction f with
  | zero => intro x i; rfl
  | succ f ih => intro x i; rw [f7_digest_L17_s, f7_digest_L17_s, hA.metal, ih]
theorem digest59_A : ∀ (f : Nat) (x : Int64) (i : Int32), f7_digest_L59 τ ρ π γ f x i = f7_digest_L59 τ ρ π γ' f x i := by
  intro f
  induction f with
  | zero => intro x i; rfl
  | succ f ih => intro x i; rw [f7_digest_L59_s, f7_digest_L59_s, ih]
theorem digest89_A : ∀ (f : Nat) (x : Int64) (i : Int32), f7_digest_L89 τ ρ π γ f x i = f7_digest_L89 τ ρ π γ' f x i := by
  intro f
  induction f with
  | zero => intro x i; rfl
  | succ f ih => intro x i; rw [f7_digest_L89_s, f7_digest_L89_s, ih]
theorem digest124_A (hS : Shp τ w h) : ∀ (f : Nat) (γ γ' : Sg) (x : Int64) (i : Int32), A3 (w * h) γ γ' → (f7_digest_L124 τ ρ π f γ x i).1 = (f7_digest_L124 τ ρ π f γ' x i).1 ∧ A3 (w * h) (f7_digest_L124 τ ρ π f γ x i).2.2 (f7_digest_L124 τ ρ π f γ' x i).2.2 := by
  intro f
  induction f with
  | zero => intro γ γ' x i hA; exact ⟨rfl, hA⟩
  | succ f ih =>
    intro γ γ' x i hA
    obtain ⟨a, b⟩ := hA.bordering hS i
    rw [f7_digest_L124_s, f7_digest_L124_s, ← a]
    by_cases c0 : 7 ≤ i
    · rw [if_pos c0, if_pos c0]; exact ⟨rfl, hA⟩
    · rw [if_neg c0, if_neg c0]; exact ih _ _ _ _ b
/-- the checksum, behind a look -/
def dgK (τ ρ π : Sg) (γ : Sg) : Int64 × Sg :=
  let a := (f7_digest_L17 τ ρ π γ 8589934592 58288 0).1
  let b := f7_digestOfGrains τ π γ (f7_digestOfCells τ ρ π γ a)
  let c := (f7_digest_L59 τ ρ π b.2 8589934592 b.1 1).1
  let d := (f7_digest_L89 τ ρ π b.2 8589934592 c 0).1
  let e := f7_digest_L124 τ ρ π 8589934592 b.2 d 0
  if (f6_isAllSound τ ρ π e.2.2) = 0 then (((((e.1) * 31) + ((f3_nextOfRow π).toInt64)) * 31) + ((0 : Int32).toInt64), e.2.2) else (((((e.1) * 31) + ((f3_nextOfRow π).toInt64)) * 31) + ((1 : Int32).toInt64), e.2.2)
theorem digest_eq (γ : Sg) : f7_digest τ ρ π γ = dgK τ ρ π (f6_look τ ρ π γ) := rfl
theorem digest_any (hS : Shp τ w h) {B : Int} (hG : GP (w * h) B π) (γ γ' : Sg) : (f7_digest τ ρ π γ).1 = (f7_digest τ ρ π γ').1 := by
  have hA := look_A (ρ := ρ) hS hG γ γ'
  rw [digest_eq, digest_eq]
  generalize f6_look τ ρ π γ = g at hA ⊢
  generalize f6_look τ ρ π γ' = g' at hA ⊢
  unfold dgK
  dsimp only
  rw [digest17_A (ρ := ρ) (π := π) (τ := τ) hA, digestCells_A (ρ := ρ) (π := π) hS hA]
  generalize f7_digestOfCells τ ρ π g' (f7_digest_L17 τ ρ π g' 8589934592 58288 0).1 = a
  obtain ⟨b1, b2⟩ := digestGrains_A (π := π) hS hA a
  rw [← b1]
  generalize f7_digestOfGrains τ π g a = q at b1 b2 ⊢
  generalize f7_digestOfGrains τ π g' a = q' at b1 b2 ⊢
  rw [digest59_A (γ := q.2) (γ' := q'.2), digest89_A (γ := q.2) (γ' := q'.2)]
  generalize (f7_digest_L89 τ ρ π q'.2 8589934592 (f7_digest_L59 τ ρ π q'.2 8589934592 q.1 1).1 0).1 = d
  obtain ⟨e1, e2⟩ := digest124_A (ρ := ρ) (π := π) hS 8589934592 q.2 q'.2 d 0 b2
  rw [← e1, ← e2.sound]
  split <;> rfl
end

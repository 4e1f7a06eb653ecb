/-! VALUES: what the public methods tell of a good system, whatever its notes are -/
def γz : Sg := (fun _ => 0, fun _ _ => 0)
def mt (τ ρ π : Sg) (k : Int32) : Int32 := f6_metalNumber τ ρ π (f6_look τ ρ π γz) k
def oc (τ ρ π : Sg) (c k : Int32) : Int32 := f6_cellNumber τ ρ π (f6_look τ ρ π γz) c k
def og (τ ρ π : Sg) (g k : Int32) : Int32 := (f6_grainNumber τ π (f6_look τ ρ π γz) g k).1
def Gd (w h : Nat) (B : Int) (τ ρ π : Sg) : Prop := Shp τ w h ∧ Ok τ ∧ GR ρ ∧ GP (w * h) B π
section
variable {τ ρ π : Sg} {w h : Nat} {B : Int}
theorem metal_v (hD : Gd w h B τ ρ π) (γ : Sg) {k : Int32} (hk : ¬ f7_isWithin k 0 15 = 0) : (f7_metal τ ρ π γ k).1 = mt τ ρ π k := by
  unfold f7_metal
  rw [if_neg hk]
  exact A3.metal (look_A hD.1 hD.2.2.2 γ γz) k
theorem cell_v (hD : Gd w h B τ ρ π) (γ : Sg) {c k : Int32} (hc : ¬ f5_holds τ c = 0) (hk : ¬ f7_isWithin k 0 5 = 0) : (f7_ofCell τ ρ π γ c k).1 = oc τ ρ π c k := by
  unfold f7_ofCell
  rw [if_neg hc, if_neg hk]
  exact A3.cell hD.1 (look_A hD.1 hD.2.2.2 γ γz) c k
theorem many_v (hD : Gd w h B τ ρ π) (γ : Sg) : f6_grainMany (f6_look τ ρ π γ) = f6_grainMany (f6_look τ ρ π γz) := (look_A hD.1 hD.2.2.2 γ γz).1.1
theorem grain_v (hD : Gd w h B τ ρ π) (γ : Sg) {g k : Int32} (hg : ¬ f7_isWithin g 0 ((f6_grainMany (f6_look τ ρ π γz)) - 1) = 0) (hk : ¬ f7_isWithin k 0 6 = 0) : (f7_ofGrain τ ρ π γ g k).1 = og τ ρ π g k := by
  unfold f7_ofGrain
  rw [many_v hD γ, if_neg hg, if_neg hk]
  exact (A3.grain (π := π) hD.1 (look_A hD.1 hD.2.2.2 γ γz) g k).1
theorem Gd.cells (hD : Gd w h B τ ρ π) : ¬ f5_cells τ = 0 := by
  have h36 := hD.1.n36
  have hp := hD.1.npos
  rw [cells_at hD.1]
  intro q
  have := nI_inj (a := w * h) (b := 0) (by omega) (by omega) (q.trans nI_0.symm)
  omega
theorem mt_0 (hD : Gd w h B τ ρ π) : mt τ ρ π 0 = f3_energy τ ρ π := by
  unfold mt f6_metalNumber
  rw [if_neg hD.cells]
  rfl
theorem mt_1 (hD : Gd w h B τ ρ π) : mt τ ρ π 1 = f2_many (f6_look τ ρ π γz) 0 := by
  unfold mt f6_metalNumber
  rw [if_neg hD.cells]
  rfl
theorem mt_2 (hD : Gd w h B τ ρ π) : mt τ ρ π 2 = f2_many (f6_look τ ρ π γz) 1 := by
  unfold mt f6_metalNumber
  rw [if_neg hD.cells]
  rfl
theorem mt_3 (hD : Gd w h B τ ρ π) : mt τ ρ π 3 = f2_sizeByArea τ π (f6_look τ ρ π γz) 1 := by
  unfold mt f6_metalNumber
  rw [if_neg hD.cells]
  rfl
theorem mt_6 (hD : Gd w h B τ ρ π) : mt τ ρ π 6 = f2_sizeByArea τ π (f6_look τ ρ π γz) 0 - f2_sizeByArea τ π (f6_look τ ρ π γz) 1 := by
  unfold mt f6_metalNumber
  rw [if_neg hD.cells]
  rfl
theorem mt_9 (hD : Gd w h B τ ρ π) : mt τ ρ π 9 = f6_allCuts τ ρ π := by
  unfold mt f6_metalNumber
  rw [if_neg hD.cells]
  rfl
theorem mt_10 (hD : Gd w h B τ ρ π) : mt τ ρ π 10 = f3_particles τ π := by
  unfold mt f6_metalNumber
  rw [if_neg hD.cells]
  rfl
theorem mt_11 (hD : Gd w h B τ ρ π) : mt τ ρ π 11 = f3_hardCells τ π := by
  unfold mt f6_metalNumber
  rw [if_neg hD.cells]
  rfl
theorem mt_12 (hD : Gd w h B τ ρ π) : mt τ ρ π 12 = f3_allWork τ π := by
  unfold mt f6_metalNumber
  rw [if_neg hD.cells]
  rfl
theorem mt_13 (hD : Gd w h B τ ρ π) : mt τ ρ π 13 = nI (w * h) := by
  rw [← cells_at hD.1]
  unfold mt f6_metalNumber
  rw [if_neg hD.cells]
  rfl
theorem mt_14 (hD : Gd w h B τ ρ π) : mt τ ρ π 14 = π.1 1 := by
  unfold mt f6_metalNumber
  rw [if_neg hD.cells]
  rfl
theorem mt_15 (hD : Gd w h B τ ρ π) : mt τ ρ π 15 = f2_greatestSize (f6_look τ ρ π γz) 0 := by
  unfold mt f6_metalNumber
  rw [if_neg hD.cells]
  rfl
theorem mt_0i (hD : Gd w h B τ ρ π) : (mt τ ρ π 0).toInt = En ρ π w h := by rw [mt_0 hD]; exact energy_at hD.1 hD.2.2.1 hD.2.2.2
theorem mt_9i (hD : Gd w h B τ ρ π) : (mt τ ρ π 9).toInt = SI (cutI ρ π w h) (w + h) := by rw [mt_9 hD]; exact allCuts_at hD.1 hD.2.2.1 hD.2.2.2
theorem mt_10i (hD : Gd w h B τ ρ π) : (mt τ ρ π 10).toInt = pc (w * h) π := by rw [mt_10 hD]; exact particles_at hD.1
theorem mt_11i (hD : Gd w h B τ ρ π) : (mt τ ρ π 11).toInt = SI (hk π) (w * h) := by rw [mt_11 hD]; exact hardCells_at hD.1 hD.2.2.2
theorem mt_12i (hD : Gd w h B τ ρ π) : (mt τ ρ π 12).toInt = SI (wk π) (w * h) := by rw [mt_12 hD]; exact allWork_at hD.1 hD.2.2.2
/-- cells -/
theorem oc_0 {c : Nat} (hc : c < 64) : oc τ ρ π (nI c) 0 = π.2 0 c := markAt_at π hc
theorem oc_1 {c : Nat} (hc : c < 64) : oc τ ρ π (nI c) 1 = π.2 1 c := workAt_at π hc
theorem oc_2 {c : Nat} (hc : c < 64) : oc τ ρ π (nI c) 2 = π.2 2 c := hardAt_at π hc
theorem oc_4 (hD : Gd w h B τ ρ π) {c : Nat} (hc : c < w * h) : oc τ ρ π (nI c) 4 = (f6_look τ ρ π γz).2 (5 * 0 + 0) c := at_at hD.1 _ 0 hc
theorem oc_5 (hD : Gd w h B τ ρ π) {c : Nat} (hc : c < w * h) : (oc τ ρ π (nI c) 5).toInt = mA ρ π w h c := misfitAround_at hD.1 hD.2.2.1 hD.2.2.2 hc
/-- the notes of a look at the system -/
theorem Gd.lk (hD : Gd w h B τ ρ π) : ∃ m0 m1, Lk ρ π w h (f6_look τ ρ π γz) m0 m1 ∧ mt τ ρ π 1 = nI m0 ∧ mt τ ρ π 2 = nI m1 := by
  obtain ⟨m0, m1, hL⟩ := look_at hD.1 hD.2.2.1 hD.2.2.2 γz
  exact ⟨m0, m1, hL, by rw [mt_1 hD]; exact hL.1.1.1, by rw [mt_2 hD]; exact hL.2.1.1.1⟩
theorem grain_in (hD : Gd w h B τ ρ π) {m0 m1 g : Nat} (hL : Lk ρ π w h (f6_look τ ρ π γz) m0 m1) (hg : g < m0) : ¬ f7_isWithin (nI g) 0 ((f6_grainMany (f6_look τ ρ π γz)) - 1) = 0 := by
  have h36 := hD.1.n36
  have hm := hL.m0
  have e : f6_grainMany (f6_look τ ρ π γz) = nI m0 := hm.1
  unfold f7_isWithin
  rw [e, nI_one, nIs (by omega), if_neg (nI_pos (by omega)), if_neg (by rw [nIlt (by omega) (by omega)]; omega)]
  decide
theorem og_first (hD : Gd w h B τ ρ π) {m0 m1 g : Nat} (hL : Lk ρ π w h (f6_look τ ρ π γz) m0 m1) (hg : g < m0) : ∃ f, f < w * h ∧ og τ ρ π (nI g) 4 = nI f ∧ og τ ρ π (nI g) 0 = π.2 0 f ∧ mk π f ≠ 0 ∧ oc τ ρ π (nI f) 4 = nI g := by
  have h36 := hD.1.n36
  have hm := hL.m0
  obtain ⟨f, h1, h2, h3⟩ := hL.1.2.2.2.2.2.1 g hg
  have e : f2_firstOf (f6_look τ ρ π γz) 0 (nI g) = nI f := by rw [firstOf_at hm.1 (by omega) hg]; exact h2
  refine ⟨f, h1, e, ?_, hL.1.2.2.1 f h1 (by rw [h3]; exact nI_m1 (by omega)), by rw [oc_4 hD h1]; exact h3⟩
  show f3_markAt π (f2_firstOf (f6_look τ ρ π γz) 0 (nI g)) = _
  rw [e]
  exact markAt_at π (by omega)
theorem og_1 (hD : Gd w h B τ ρ π) {m0 m1 g : Nat} (hL : Lk ρ π w h (f6_look τ ρ π γz) m0 m1) (hg : g < m0) : (og τ ρ π (nI g) 1).toInt = szI (f6_look τ ρ π γz) w h g ∧ 1 ≤ szI (f6_look τ ρ π γz) w h g ∧ szI (f6_look τ ρ π γz) w h g ≤ 36 ∧ szI (f6_look τ ρ π γz) w h g ≤ (mt τ ρ π 15).toInt := by
  obtain ⟨a, b, c⟩ := hL.size hD.1 hg
  exact ⟨a, b, c, by rw [mt_15 hD]; exact greatest_at hD.1 hL hg⟩
theorem og_2 (hD : Gd w h B τ ρ π) (g : Int32) : (0 ≤ (og τ ρ π g 2).toInt ∧ (og τ ρ π g 2).toInt ≤ 144) ∧ (og τ ρ π g 3).toInt ≤ (og τ ρ π g 2).toInt := ⟨roundOf_bd hD.1 _ _, (borders_le hD.1 _ _).1⟩
theorem og_5 (hD : Gd w h B τ ρ π) (g : Nat) : (og τ ρ π (nI g) 5).toInt = SI (fun c => if (f6_look τ ρ π γz).2 (5 * 0 + 0) c = nI g then wk π c else 0) (w * h) := workOf_at hD.1 hD.2.2.2 _ g
/-- works of the first grains -/
def wkG (τ ρ π : Sg) (w h g : Nat) : Int := SI (fun c => if (f6_look τ ρ π γz).2 (5 * 0 + 0) c = nI g then wk π c else 0) (w * h)
theorem wkG_bd (hD : Gd w h B τ ρ π) (g : Nat) : 0 ≤ wkG τ ρ π w h g ∧ wkG τ ρ π w h g ≤ 720 := by
  have h36 := hD.1.n36
  have := SI_bd (g := fun c => if (f6_look τ ρ π γz).2 (5 * 0 + 0) c = nI g then wk π c else 0) (n := w * h) (B := 20) (fun k hk => by
    have := (hD.2.2.2.2.1 k hk).1
    show (0 : Int) ≤ (if (f6_look τ ρ π γz).2 (5 * 0 + 0) k = nI g then wk π k else 0) ∧ (if (f6_look τ ρ π γz).2 (5 * 0 + 0) k = nI g then wk π k else 0) ≤ 20
    split <;> omega)
  unfold wkG
  omega
theorem wkG_sum (hD : Gd w h B τ ρ π) {m0 m1 : Nat} (hL : Lk ρ π w h (f6_look τ ρ π γz) m0 m1) : SI (wkG τ ρ π w h) m0 = SI (wk π) (w * h) := hL.sum hD.1 (wk π) (fun c hc z => ((hD.2.2.2.2.1 c hc).2.2 z).1)
/-- sizes by area -/
theorem ediv_anti {a b c : Int} (ha : 0 ≤ a) (hb : 0 < b) (hbc : b ≤ c) : a / c ≤ a / b := by
  have h1 : a / c * c ≤ a := Int.ediv_mul_le a (by omega)
  have h2 : 0 ≤ a / c := Int.ediv_nonneg ha (by omega)
  have h3 : a / c * b ≤ a / c * c := Int.mul_le_mul_of_nonneg_left hbc h2
  exact (Int.le_ediv_iff_mul_le hb).mpr (by omega)
theorem areas (hD : Gd w h B τ ρ π) {m0 m1 : Nat} (hL : Lk ρ π w h (f6_look τ ρ π γz) m0 m1) : (mt τ ρ π 6).toInt ≤ 0 ∧ (mt τ ρ π 3).toInt ≤ 100 * ((w * h : Nat) : Int) := by
  have h36 := hD.1.n36
  have hm := hL.m0
  have hm1 := hL.2.2
  have pb := pc_bd (w * h) π
  have e0 := sizeByArea_at (π := π) hD.1 (b := 0) hm.1 (by omega)
  have e1 := sizeByArea_at (π := π) hD.1 (b := 1) hL.2.1.1.1 (by omega)
  generalize hX : 100 * (((w * h : Nat) : Int) - pc (w * h) π) = X at e0 e1
  have hX0 : 0 ≤ X ∧ X ≤ 100 * ((w * h : Nat) : Int) := by omega
  have bd : ∀ m : Nat, 0 ≤ (if m = 0 then 0 else X / (m : Int)) ∧ (if m = 0 then 0 else X / (m : Int)) ≤ X := fun m => by
    split
    · omega
    · exact ⟨Int.ediv_nonneg hX0.1 (by omega), Int.ediv_le_self _ hX0.1⟩
  have le : (if m0 = 0 then 0 else X / (m0 : Int)) ≤ (if m1 = 0 then 0 else X / (m1 : Int)) ∨ m1 = 0 := by
    by_cases c1 : m1 = 0
    · exact Or.inr c1
    · rw [if_neg c1, if_neg (by omega)]
      exact Or.inl (ediv_anti hX0.1 (by omega) (by omega))
  rw [mt_6 hD, mt_3 hD]
  have b0 := bd m0
  have b1 := bd m1
  refine ⟨?_, by rw [e1]; omega⟩
  rw [z_sub (by rw [e0, e1]; omega) (by rw [e0, e1]; omega), e0, e1]
  rcases le with q | q
  · omega
  · -- no seen grain: no cell at all
    have z0 : m0 = 0 := by
      by_cases c : m0 = 0
      · exact c
      · obtain ⟨f, h1, _, h3⟩ := hL.1.2.2.2.2.2.1 0 (by omega)
        have mf := hL.1.2.2.1 f h1 (by rw [h3]; exact nI_m1 (by omega))
        have n1 := hL.2.1.2.2.2.1 f h1 mf
        rcases hL.2.1.2.1 f h1 with z | ⟨g, hg, _⟩
        · exact absurd z n1
        · omega
    rw [if_pos z0, if_pos q]
    omega
end

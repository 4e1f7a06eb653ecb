/-! COUNTS: what is read of a piece, as ints -/
def mk (π : Sg) (c : Nat) : Int := (π.2 0 c).toInt
def wk (π : Sg) (c : Nat) : Int := (π.2 1 c).toInt
def hk (π : Sg) (c : Nat) : Int := (π.2 2 c).toInt
def mfz (ρ : Sg) (a b : Int) : Int := (ρ.2 0 (a * 10 + b).toNat).toInt
def GR (ρ : Sg) : Prop := (∀ a b : Int, 0 ≤ a → a ≤ 9 → 0 ≤ b → b ≤ 9 → (0 ≤ mfz ρ a b ∧ mfz ρ a b ≤ 9) ∧ mfz ρ a b = mfz ρ b a ∧ (a = b → mfz ρ a b = 0) ∧ (a = 0 → mfz ρ a b = 0) ∧ (a ≠ b → 1 ≤ a → 1 ≤ b → 1 ≤ mfz ρ a b)) ∧ (1 ≤ (ρ.1 0).toInt ∧ (ρ.1 0).toInt ≤ 9) ∧ ∀ d, d < 10 → 1 ≤ (ρ.2 1 d).toInt ∧ (ρ.2 1 d).toInt ≤ 99
def GP (n : Nat) (B : Int) (π : Sg) : Prop := (∀ c, c < 64 → 0 ≤ mk π c ∧ mk π c ≤ 9) ∧ (∀ c, c < n → (0 ≤ wk π c ∧ wk π c ≤ 20) ∧ (hk π c = 0 ∨ hk π c = 1) ∧ (mk π c = 0 → wk π c = 0 ∧ hk π c = 0)) ∧ (0 ≤ (π.1 0).toInt ∧ (π.1 0).toInt < 8191) ∧ 0 ≤ (π.1 1).toInt ∧ (π.1 1).toInt ≤ B
theorem markAt_at (π : Sg) {c : Nat} (hc : c < 64) : f3_markAt π (nI c) = π.2 0 c := by
  unfold f3_markAt
  rw [if_neg (nI_pos (by omega)), if_neg (by rw [show (64 : Int32) = nI 64 from rfl, nIle (by omega) (by omega)]; omega), nI_cl (by omega)]
theorem workAt_at (π : Sg) {c : Nat} (hc : c < 64) : f3_workAt π (nI c) = π.2 1 c := by
  unfold f3_workAt
  rw [if_neg (nI_pos (by omega)), if_neg (by rw [show (64 : Int32) = nI 64 from rfl, nIle (by omega) (by omega)]; omega), nI_cl (by omega)]
theorem hardAt_at (π : Sg) {c : Nat} (hc : c < 64) : f3_hardAt π (nI c) = π.2 2 c := by
  unfold f3_hardAt
  rw [if_neg (nI_pos (by omega)), if_neg (by rw [show (64 : Int32) = nI 64 from rfl, nIle (by omega) (by omega)]; omega), nI_cl (by omega)]
section
variable {τ ρ π : Sg} {w h : Nat}
theorem Shp.n36 (hS : Shp τ w h) : w * h ≤ 36 := wh_le hS.2.2.2.1.2 hS.2.2.2.2.1.2
theorem besideMany_at (hS : Shp τ w h) {c : Nat} (hc : c < w * h) : f5_besideMany τ (nI c) = nI (nbL w h c).length := by
  have h36 := hS.n36
  unfold f5_besideMany
  rw [if_neg (nI_pos (by omega)), hS.2.2.1, if_neg (by rw [nIle (by omega) (by omega)]; omega), nI_cl (by omega)]
  exact (hS.2.2.2.2.2 c hc).1
theorem beside_at (hS : Shp τ w h) {c k : Nat} (hc : c < w * h) (hk : k < (nbL w h c).length) : f5_beside τ (nI c) (nI k) = nI ((nbL w h c).getD k 0) := by
  have h36 := hS.n36
  have h4 := nbL_len w h c
  unfold f5_beside
  rw [if_neg (nI_pos (by omega)), hS.2.2.1, if_neg (by rw [nIle (by omega) (by omega)]; omega), if_neg (nI_pos (by omega)), nI_cl (by omega), (hS.2.2.2.2.2 c hc).1, if_pos (by rw [nIlt (by omega) (by omega)]; exact hk), nI_four, nIm, nIa, nI_cl (by omega), Nat.mul_comm c 4]
  exact (hS.2.2.2.2.2 c hc).2 k hk
theorem nb_mem {c k : Nat} (hk : k < (nbL w h c).length) : (nbL w h c).getD k 0 ∈ nbL w h c := by
  rw [List.getD_eq_getElem?_getD, List.getElem?_eq_getElem hk]
  exact List.getElem_mem hk
theorem nb_lt (hS : Shp τ w h) {c k : Nat} (hc : c < w * h) (hk : k < (nbL w h c).length) : (nbL w h c).getD k 0 < w * h := ((nbL_ok hS.2.2.2.1 hS.2.2.2.2.1 hc).1 _ (nb_mem hk)).1
theorem cells_at (hS : Shp τ w h) : f5_cells τ = nI (w * h) := hS.2.2.1
theorem misfitOf_at {x y : Int32} (h1 : 0 ≤ x.toInt) (h2 : x.toInt ≤ 9) (h3 : 0 ≤ y.toInt) (h4 : y.toInt ≤ 9) : (f4_misfitOf ρ x y).toInt = mfz ρ x.toInt y.toInt := by
  have e : (x * 10 + y).toInt = x.toInt * 10 + y.toInt := by
    rw [z_add, z_mul, i10] <;> (try rw [z_mul]) <;> (try rw [i10]) <;> omega
  unfold f4_misfitOf
  rw [if_neg (by rw [z_lt, i0]; omega), if_neg (by rw [z_lt, i9]; omega), if_neg (by rw [z_lt, i0]; omega), if_pos (by rw [z_le, i9]; omega)]
  unfold mfz
  rw [← e]
  rfl
theorem particles_at (hS : Shp τ w h) : (f3_particles τ π).toInt = SI (fun c => if mk π c = 0 then 1 else 0) (w * h) := by
  have h36 := hS.n36
  unfold f3_particles
  have := loop_sum0 (F := f3_particles_L4 τ π) (gi := fun i => if f3_markAt π i = 0 then 1 else 0) (n := w * h) (b := f5_cells τ) (cells_at hS) (by omega) (fun f x i => by
    rw [f3_particles_L4_s]
    by_cases h1 : f5_cells τ ≤ i <;> by_cases h2 : f3_markAt π i = 0 <;> simp only [h1, h2, if_true, if_false, Int32.add_zero]) (B := 1) (by omega) (fun c => if mk π c = 0 then 1 else 0) (f := 8589934592) (x := 0) (by omega) (fun j hj => by
    show (if f3_markAt π (nI j) = 0 then (1 : Int32) else 0).toInt = (if mk π j = 0 then 1 else 0) ∧ _
    have e0 : f3_markAt π (nI j) = 0 ↔ mk π j = 0 := by
      rw [markAt_at π (by omega), z_eq, i0]
      exact Iff.rfl
    by_cases e : mk π j = 0
    · rw [if_pos e, if_pos (e0.mpr e)]; exact ⟨i1, by decide, by decide⟩
    · rw [if_neg e, if_neg (fun q => e (e0.mp q))]; exact ⟨i0, by decide, by decide⟩) (by rw [i0]; omega) (by rw [i0]; omega)
  rw [this, i0]
  omega
theorem hardCells_at (hS : Shp τ w h) {B : Int} (hG : GP (w * h) B π) : (f3_hardCells τ π).toInt = SI (hk π) (w * h) := by
  have h36 := hS.n36
  unfold f3_hardCells
  have := loop_sum0 (F := f3_hardCells_L4 τ π) (gi := fun i => f3_hardAt π i) (n := w * h) (b := f5_cells τ) (cells_at hS) (by omega) (fun f x i => by
    rw [f3_hardCells_L4_s]) (B := 1) (by omega) (hk π) (f := 8589934592) (x := 0) (by omega) (fun j hj => by
    show (f3_hardAt π (nI j)).toInt = hk π j ∧ _
    rw [hardAt_at π (by omega)]
    have := (hG.2.1 j hj).2.1
    exact ⟨rfl, by omega, by omega⟩) (by rw [i0]; omega) (by rw [i0]; omega)
  rw [this, i0]
  omega
theorem allWork_at (hS : Shp τ w h) {B : Int} (hG : GP (w * h) B π) : (f3_allWork τ π).toInt = SI (wk π) (w * h) := by
  have h36 := hS.n36
  unfold f3_allWork
  have := loop_sum0 (F := f3_allWork_L4 τ π) (gi := fun i => f3_workAt π i) (n := w * h) (b := f5_cells τ) (cells_at hS) (by omega) (fun f x i => by
    rw [f3_allWork_L4_s]) (B := 20) (by omega) (wk π) (f := 8589934592) (x := 0) (by omega) (fun j hj => by
    show (f3_workAt π (nI j)).toInt = wk π j ∧ _
    rw [workAt_at π (by omega)]
    have := (hG.2.1 j hj).1
    exact ⟨rfl, by omega, by omega⟩) (by rw [i0]; omega) (by rw [i0]; omega)
  rw [this, i0]
  omega
theorem misfitAround_at (hS : Shp τ w h) (hR : GR ρ) {B : Int} (hG : GP (w * h) B π) {c : Nat} (hc : c < w * h) : (f3_misfitAround τ ρ π (nI c)).toInt = Lm (fun o => mfz ρ (mk π c) (mk π o)) (nbL w h c) := by
  have h36 := hS.n36
  have h4 := nbL_len w h c
  unfold f3_misfitAround
  have := loop_sum0 (F := f3_misfitAround_L4 τ ρ π (nI c)) (gi := fun i => f4_misfitOf ρ (f3_markAt π (nI c)) (f3_markAt π (f5_beside τ (nI c) i))) (n := (nbL w h c).length) (b := f5_besideMany τ (nI c)) (besideMany_at hS hc) (by omega) (fun f x i => by
    rw [f3_misfitAround_L4_s]) (B := 9) (by omega) (fun k => mfz ρ (mk π c) (mk π ((nbL w h c).getD k 0))) (f := 8589934592) (x := 0) (by omega) (fun k hk => by
    show (f4_misfitOf ρ (f3_markAt π (nI c)) (f3_markAt π (f5_beside τ (nI c) (nI k)))).toInt = _ ∧ _
    have ho := nb_lt hS hc hk
    rw [beside_at hS hc hk, markAt_at π (by omega), markAt_at π (by omega)]
    have b1 := hG.1 c (by omega)
    have b2 := hG.1 ((nbL w h c).getD k 0) (by omega)
    have b3 := (hR.1 _ _ b1.1 b1.2 b2.1 b2.2).1
    exact ⟨misfitOf_at b1.1 b1.2 b2.1 b2.2, by omega, by omega⟩) (by rw [i0]; omega) (by rw [i0]; omega)
  rw [this, i0, Lm_getD (fun o => mfz ρ (mk π c) (mk π o))]
  omega
theorem Lm_bd {α : Type} {f : α → Int} {B : Int} (hB : 0 ≤ B) : ∀ {l : List α}, (∀ a ∈ l, 0 ≤ f a ∧ f a ≤ B) → 0 ≤ Lm f l ∧ Lm f l ≤ (l.length : Int) * B
  | [], _ => by
    rw [Lm_nil]
    simp
  | a :: l, h => by
    have h1 := h a List.mem_cons_self
    have h2 := Lm_bd hB (fun b hb => h b (List.mem_cons_of_mem a hb))
    rw [Lm_cons, List.length_cons, Int.natCast_add, Int.add_mul]
    simp only [Int.natCast_one, Int.one_mul]
    omega
/-- the misfits around a cell, and all of them -/
def mA (ρ π : Sg) (w h c : Nat) : Int := Lm (fun o => mfz ρ (mk π c) (mk π o)) (nbL w h c)
theorem mA_bd (hS : Shp τ w h) (hR : GR ρ) {B : Int} (hG : GP (w * h) B π) {c : Nat} (hc : c < w * h) : 0 ≤ mA ρ π w h c ∧ mA ρ π w h c ≤ 36 := by
  have h36 := hS.n36
  have h4 := nbL_len w h c
  have h2 := Lm_bd (f := fun o => mfz ρ (mk π c) (mk π o)) (B := 9) (by omega) (l := nbL w h c) (fun o ho => by
    have b0 := (nbL_ok hS.2.2.2.1 hS.2.2.2.2.1 hc).1 o ho
    have b1 := hG.1 c (by omega)
    have b2 := hG.1 o (by omega)
    exact (hR.1 _ _ b1.1 b1.2 b2.1 b2.2).1)
  unfold mA
  omega
theorem misfits_at (hS : Shp τ w h) (hR : GR ρ) {B : Int} (hG : GP (w * h) B π) : (f3_energy_L4 τ ρ π 8589934592 0 0).1.toInt = SI (mA ρ π w h) (w * h) := by
  have h36 := hS.n36
  have := loop_sum0 (F := f3_energy_L4 τ ρ π) (gi := fun i => f3_misfitAround τ ρ π i) (n := w * h) (b := f5_cells τ) (cells_at hS) (by omega) (fun f x i => by
    rw [f3_energy_L4_s]) (B := 36) (by omega) (mA ρ π w h) (f := 8589934592) (x := 0) (by omega) (fun j hj => by
    have b := mA_bd hS hR hG hj
    exact ⟨misfitAround_at hS hR hG hj, by omega, by omega⟩) (by rw [i0]; omega) (by rw [i0]; omega)
  rw [this, i0]
  omega
theorem SI_mA_bd (hS : Shp τ w h) (hR : GR ρ) {B : Int} (hG : GP (w * h) B π) : 0 ≤ SI (mA ρ π w h) (w * h) ∧ SI (mA ρ π w h) (w * h) ≤ 1296 := by
  have h36 := hS.n36
  have := SI_bd (g := mA ρ π w h) (n := w * h) (B := 36) (fun k hk => mA_bd hS hR hG hk)
  omega
theorem SI_wk_bd (hS : Shp τ w h) {B : Int} (hG : GP (w * h) B π) : 0 ≤ SI (wk π) (w * h) ∧ SI (wk π) (w * h) ≤ 720 := by
  have h36 := hS.n36
  have := SI_bd (g := wk π) (n := w * h) (B := 20) (fun k hk => (hG.2.1 k hk).1)
  omega
theorem SI_hk_bd (hS : Shp τ w h) {B : Int} (hG : GP (w * h) B π) : 0 ≤ SI (hk π) (w * h) ∧ SI (hk π) (w * h) ≤ 36 := by
  have h36 := hS.n36
  have := SI_bd (g := hk π) (n := w * h) (B := 1) (fun k hk => by have := (hG.2.1 k hk).2.1; omega)
  omega
theorem energy_at (hS : Shp τ w h) (hR : GR ρ) {B : Int} (hG : GP (w * h) B π) : (f3_energy τ ρ π).toInt = SI (mA ρ π w h) (w * h) / 2 + 2 * SI (wk π) (w * h) := by
  have b1 := SI_mA_bd hS hR hG
  have b2 := SI_wk_bd hS hG
  have e1 := misfits_at hS hR hG
  have e2 := allWork_at hS hG
  unfold f3_energy
  have d1 : (((f3_energy_L4 τ ρ π 8589934592 0 0).1) / 2).toInt = SI (mA ρ π w h) (w * h) / 2 := by
    rw [z_div (by rw [e1]; omega) (by rw [i2]; omega), e1, i2]
  have d2 : (2 * (f3_allWork τ π)).toInt = 2 * SI (wk π) (w * h) := by
    rw [z_mul (by rw [e2, i2]; omega) (by rw [e2, i2]; omega), e2, i2]
  rw [z_add (by rw [d1, d2]; omega) (by rw [d1, d2]; omega), d1, d2]
/-- whether a pair is seen -/
def sn (ρ : Sg) (e a b : Int) : Bool := decide (a ≠ b) && (decide (a = 0) || decide (b = 0) || decide (e ≤ mfz ρ a b))
theorem sn_iff (ρ : Sg) (e a b : Int) : sn ρ e a b = true ↔ a ≠ b ∧ (a = 0 ∨ b = 0 ∨ e ≤ mfz ρ a b) := by
  unfold sn
  simp [or_assoc]
def s1 (ρ π : Sg) (e : Int) (a b : Nat) : Int := if sn ρ e (mk π a) (mk π b) = true then 1 else 0
theorem isSeen_at {x y e : Int32} (h1 : 0 ≤ x.toInt) (h2 : x.toInt ≤ 9) (h3 : 0 ≤ y.toInt) (h4 : y.toInt ≤ 9) : f4_isSeen ρ x y e = if sn ρ e.toInt x.toInt y.toInt = true then 1 else 0 := by
  have em := misfitOf_at (ρ := ρ) h1 h2 h3 h4
  have z1 : x = 0 ↔ x.toInt = 0 := by rw [z_eq, i0]
  have z2 : y = 0 ↔ y.toInt = 0 := by rw [z_eq, i0]
  have z3 : x = y ↔ x.toInt = y.toInt := z_eq
  have z4 : f4_misfitOf ρ x y < e ↔ mfz ρ x.toInt y.toInt < e.toInt := by rw [z_lt, em]
  unfold f4_isSeen
  have hs := sn_iff ρ e.toInt x.toInt y.toInt
  by_cases c1 : x = 0
  · rw [if_pos c1]
    by_cases c3 : x = y
    · rw [if_pos c3, if_neg (fun q => (hs.mp q).1 (z3.mp c3))]
    · rw [if_neg c3, if_pos (hs.mpr ⟨fun q => c3 (z3.mpr q), Or.inl (z1.mp c1)⟩)]
  · rw [if_neg c1]
    by_cases c2 : y = 0
    · rw [if_pos c2]
      by_cases c3 : x = y
      · rw [if_pos c3, if_neg (fun q => (hs.mp q).1 (z3.mp c3))]
      · rw [if_neg c3, if_pos (hs.mpr ⟨fun q => c3 (z3.mpr q), Or.inr (Or.inl (z2.mp c2))⟩)]
    · rw [if_neg c2]
      by_cases c3 : x = y
      · rw [if_pos c3, if_neg (fun q => (hs.mp q).1 (z3.mp c3))]
      · rw [if_neg c3]
        have n1 := mt z1.mpr c1
        have n2 := mt z2.mpr c2
        by_cases c4 : f4_misfitOf ρ x y < e
        · rw [if_pos c4, if_neg (fun q => by have := (hs.mp q).2; have := z4.mp c4; omega)]
        · rw [if_neg c4, if_pos (hs.mpr ⟨fun q => c3 (z3.mpr q), Or.inr (Or.inr (by have := mt z4.mpr c4; omega))⟩)]
theorem seen_ne {x y e : Int32} (h1 : 0 ≤ x.toInt) (h2 : x.toInt ≤ 9) (h3 : 0 ≤ y.toInt) (h4 : y.toInt ≤ 9) : f4_isSeen ρ x y e = 0 ↔ ¬ sn ρ e.toInt x.toInt y.toInt = true := by
  rw [isSeen_at h1 h2 h3 h4]
  by_cases c : sn ρ e.toInt x.toInt y.toInt = true <;> simp only [c, if_true, if_false] <;> decide
theorem s1_bd (ρ π : Sg) (e : Int) (a b : Nat) : 0 ≤ s1 ρ π e a b ∧ s1 ρ π e a b ≤ 1 := by
  unfold s1
  split <;> omega
theorem s1_symm (hR : GR ρ) {n : Nat} {B e : Int} (hG : GP n B π) {a b : Nat} (ha : a < 64) (hb : b < 64) : s1 ρ π e a b = s1 ρ π e b a := by
  unfold s1
  have b1 := hG.1 a ha
  have b2 := hG.1 b hb
  have e1 := (hR.1 _ _ b1.1 b1.2 b2.1 b2.2).2.1
  have h1 := sn_iff ρ e (mk π a) (mk π b)
  have h2 := sn_iff ρ e (mk π b) (mk π a)
  have h3 : sn ρ e (mk π a) (mk π b) = sn ρ e (mk π b) (mk π a) := by
    rw [Bool.eq_iff_iff, h1, h2, e1]
    omega
  rw [h3]
theorem lines_at (hS : Shp τ w h) : f5_lines τ = nI (w + h) := by
  unfold f5_lines
  rw [hS.1, hS.2.1, nIa]
theorem lineCells_row (hS : Shp τ w h) {r : Nat} (hr : r < h) : f5_lineCells τ (nI r) = nI w := by
  have h6 := hS.2.2.2.2.1.2
  unfold f5_lineCells
  rw [hS.2.1, if_neg (by rw [nIle (by omega) (by omega)]; omega), hS.1]
theorem lineCells_col (hS : Shp τ w h) {j : Nat} (hj : j < w) : f5_lineCells τ (nI (h + j)) = nI h := by
  have h6 := hS.2.2.2.2.1.2
  have w6 := hS.2.2.2.1.2
  unfold f5_lineCells
  rw [hS.2.1, if_pos (by rw [nIle (by omega) (by omega)]; omega)]
theorem lineCell_row (hS : Shp τ w h) {r i : Nat} (hr : r < h) : f5_lineCell τ (nI r) (nI i) = nI (r * w + i) := by
  have h6 := hS.2.2.2.2.1.2
  unfold f5_lineCell
  rw [hS.2.1, if_neg (by rw [nIle (by omega) (by omega)]; omega), hS.1, nIm, nIa]
theorem lineCell_col (hS : Shp τ w h) {j i : Nat} (hj : j < w) : f5_lineCell τ (nI (h + j)) (nI i) = nI (i * w + j) := by
  have h6 := hS.2.2.2.2.1.2
  have w6 := hS.2.2.2.1.2
  unfold f5_lineCell
  rw [hS.2.1, if_pos (by rw [nIle (by omega) (by omega)]; omega), hS.1, nIm, nIa, nIs (by omega)]
  congr 1
  omega
theorem rc_lt {r i : Nat} (hr : r < h) (hi : i < w) : r * w + i < w * h := by
  have h1 : (r + 1) * w ≤ h * w := Nat.mul_le_mul_right w hr
  rw [Nat.add_mul, Nat.one_mul, Nat.mul_comm h w] at h1
  omega
/-- cuts of a line whose cells are told -/
theorem cuts_line (hS : Shp τ w h) (hR : GR ρ) {B : Int} (hG : GP (w * h) B π) {line : Int32} {m : Nat} {cl : Nat → Nat} (hm : f5_lineCells τ line = nI m) (hm6 : 1 ≤ m ∧ m ≤ 6) (hc : ∀ i, i < m → f5_lineCell τ line (nI i) = nI (cl i) ∧ cl i < w * h) : (f6_cutsOf τ ρ π line).toInt = SI (fun i => s1 ρ π (ρ.1 0).toInt (cl i) (cl (i + 1))) (m - 1) := by
  have h36 := hS.n36
  unfold f6_cutsOf
  have := loop_sum (F := f6_cutsOf_L4 τ ρ π line) (gi := fun i => if (f4_isSeen ρ (f3_markAt π (f5_lineCell τ line (i - 1))) (f3_markAt π (f5_lineCell τ line i)) (f4_etchNow ρ)) = 0 then 0 else 1) (n := m) (b := f5_lineCells τ line) hm (by omega) (fun f x i => by
    rw [f6_cutsOf_L4_s]
    by_cases h1 : f5_lineCells τ line ≤ i <;> by_cases h2 : (f4_isSeen ρ (f3_markAt π (f5_lineCell τ line (i - 1))) (f3_markAt π (f5_lineCell τ line i)) (f4_etchNow ρ)) = 0 <;> simp only [h1, h2, if_true, if_false, Int32.add_zero]) (B := 1) (by omega) (fun i => s1 ρ π (ρ.1 0).toInt (cl (i - 1)) (cl i)) (k := 1) (f := 8589934592) (x := 0) (by omega) (by omega) (fun j hj1 hj => by
    show (if (f4_isSeen ρ (f3_markAt π (f5_lineCell τ line (nI j - 1))) (f3_markAt π (f5_lineCell τ line (nI j))) (f4_etchNow ρ)) = 0 then (0 : Int32) else 1).toInt = _ ∧ _
    obtain ⟨a1, a2⟩ := hc j hj
    obtain ⟨b1, b2⟩ := hc (j - 1) (by omega)
    have q := s1_bd ρ π (ρ.1 0).toInt (cl (j - 1)) (cl j)
    refine ⟨?_, by omega, by omega⟩
    have g1 := hG.1 (cl j) (by omega)
    have g2 := hG.1 (cl (j - 1)) (by omega)
    rw [nI_one, nIs hj1, a1, b1, markAt_at π (by omega), markAt_at π (by omega)]
    have hs := seen_ne (ρ := ρ) (x := π.2 0 (cl (j - 1))) (y := π.2 0 (cl j)) (e := f4_etchNow ρ) g2.1 g2.2 g1.1 g1.2
    unfold s1
    by_cases c : sn ρ (ρ.1 0).toInt (mk π (cl (j - 1))) (mk π (cl j)) = true
    · rw [if_pos c, if_neg (fun e => hs.mp e c)]
      exact i1
    · rw [if_neg c, if_pos (hs.mpr c)]
      exact i0) (by rw [i0]; omega) (by rw [i0]; omega)
  rw [show nI 1 = 1 from rfl, i0] at this
  rw [this, Int.zero_add]
  exact SI_congr (fun k _ => by rw [show 1 + k - 1 = k by omega, Nat.add_comm 1 k])
theorem cuts_row (hS : Shp τ w h) (hR : GR ρ) {B : Int} (hG : GP (w * h) B π) {r : Nat} (hr : r < h) : (f6_cutsOf τ ρ π (nI r)).toInt = SI (fun i => s1 ρ π (ρ.1 0).toInt (r * w + i) (r * w + (i + 1))) (w - 1) := by
  have w6 := hS.2.2.2.1
  exact cuts_line hS hR hG (cl := fun i => r * w + i) (lineCells_row hS hr) (by omega) (fun i hi => ⟨lineCell_row hS hr, rc_lt hr hi⟩)
theorem cuts_col (hS : Shp τ w h) (hR : GR ρ) {B : Int} (hG : GP (w * h) B π) {j : Nat} (hj : j < w) : (f6_cutsOf τ ρ π (nI (h + j))).toInt = SI (fun i => s1 ρ π (ρ.1 0).toInt (i * w + j) ((i + 1) * w + j)) (h - 1) := by
  have h6 := hS.2.2.2.2.1
  exact cuts_line hS hR hG (cl := fun i => i * w + j) (lineCells_col hS hj) (by omega) (fun i hi => ⟨lineCell_col hS hj, rc_lt hi hj⟩)
def cutI (ρ π : Sg) (w h l : Nat) : Int := if l < h then SI (fun i => s1 ρ π (ρ.1 0).toInt (l * w + i) (l * w + (i + 1))) (w - 1) else SI (fun i => s1 ρ π (ρ.1 0).toInt (i * w + (l - h)) ((i + 1) * w + (l - h))) (h - 1)
theorem cutsOf_at (hS : Shp τ w h) (hR : GR ρ) {B : Int} (hG : GP (w * h) B π) {l : Nat} (hl : l < w + h) : (f6_cutsOf τ ρ π (nI l)).toInt = cutI ρ π w h l := by
  unfold cutI
  by_cases c : l < h
  · rw [if_pos c]
    exact cuts_row hS hR hG c
  · rw [if_neg c]
    have := cuts_col hS hR hG (j := l - h) (by omega)
    rw [show h + (l - h) = l by omega] at this
    exact this
theorem cutI_bd (hS : Shp τ w h) (l : Nat) : 0 ≤ cutI ρ π w h l ∧ cutI ρ π w h l ≤ 6 := by
  have w6 := hS.2.2.2.1
  have h6 := hS.2.2.2.2.1
  unfold cutI
  split
  · have := SI_bd (g := fun i => s1 ρ π (ρ.1 0).toInt (l * w + i) (l * w + (i + 1))) (n := w - 1) (B := 1) (fun k _ => s1_bd _ _ _ _ _)
    omega
  · have := SI_bd (g := fun i => s1 ρ π (ρ.1 0).toInt (i * w + (l - h)) ((i + 1) * w + (l - h))) (n := h - 1) (B := 1) (fun k _ => s1_bd _ _ _ _ _)
    omega
theorem allCuts_at (hS : Shp τ w h) (hR : GR ρ) {B : Int} (hG : GP (w * h) B π) : (f6_allCuts τ ρ π).toInt = SI (cutI ρ π w h) (w + h) := by
  have w6 := hS.2.2.2.1
  have h6 := hS.2.2.2.2.1
  unfold f6_allCuts
  have := loop_sum0 (F := f6_allCuts_L4 τ ρ π) (gi := fun i => f6_cutsOf τ ρ π i) (n := w + h) (b := f5_lines τ) (lines_at hS) (by omega) (fun f x i => by
    rw [f6_allCuts_L4_s]) (B := 6) (by omega) (cutI ρ π w h) (f := 8589934592) (x := 0) (by omega) (fun j hj => by
    have b := cutI_bd (ρ := ρ) (π := π) hS j
    exact ⟨cutsOf_at hS hR hG hj, by omega, by omega⟩) (by rw [i0]; omega) (by rw [i0]; omega)
  rw [this, i0]
  omega
theorem allCuts_LL (ρ π : Sg) (w h : Nat) : SI (cutI ρ π w h) (w + h) = Lm (fun p => s1 ρ π (ρ.1 0).toInt p.1 p.2) (LL w h) := by
  rw [LL_sum (s1 ρ π (ρ.1 0).toInt), Nat.add_comm w h, SI_split]
  congr 1
  · exact SI_congr (fun k hk => by unfold cutI; rw [if_pos hk])
  · exact SI_congr (fun k _ => by unfold cutI; rw [if_neg (by omega), show h + k - h = k by omega])
theorem seen27_at (hS : Shp τ w h) {B : Int} (hG : GP (w * h) B π) {c : Nat} (hc : c < w * h) {x : Int32} (h1 : 0 ≤ x.toInt) (h2 : x.toInt ≤ 1000) : (f6_seenPairs_L27 τ ρ π (nI c) (f3_markAt π (nI c)) 8589934592 x 0).1.toInt = x.toInt + Lm (fun o => s1 ρ π (ρ.1 0).toInt c o) (nbL w h c) := by
  have h36 := hS.n36
  have h4 := nbL_len w h c
  have := loop_sum0 (F := f6_seenPairs_L27 τ ρ π (nI c) (f3_markAt π (nI c))) (gi := fun i => if (f4_isSeen ρ (f3_markAt π (nI c)) (f3_markAt π (f5_beside τ (nI c) i)) (f4_etchNow ρ)) = 0 then 0 else 1) (n := (nbL w h c).length) (b := f5_besideMany τ (nI c)) (besideMany_at hS hc) (by omega) (fun f x i => by
    rw [f6_seenPairs_L27_s]
    by_cases h1 : f5_besideMany τ (nI c) ≤ i <;> by_cases h2 : (f4_isSeen ρ (f3_markAt π (nI c)) (f3_markAt π (f5_beside τ (nI c) i)) (f4_etchNow ρ)) = 0 <;> simp only [h1, h2, if_true, if_false, Int32.add_zero]) (B := 1) (by omega) (fun k => s1 ρ π (ρ.1 0).toInt c ((nbL w h c).getD k 0)) (f := 8589934592) (x := x) (by omega) (fun k hk => by
    show (if (f4_isSeen ρ (f3_markAt π (nI c)) (f3_markAt π (f5_beside τ (nI c) (nI k))) (f4_etchNow ρ)) = 0 then (0 : Int32) else 1).toInt = _ ∧ _
    have ho := nb_lt hS hc hk
    have q := s1_bd ρ π (ρ.1 0).toInt c ((nbL w h c).getD k 0)
    refine ⟨?_, by omega, by omega⟩
    rw [beside_at hS hc hk, markAt_at π (by omega), markAt_at π (by omega)]
    have b1 := hG.1 c (by omega)
    have b2 := hG.1 ((nbL w h c).getD k 0) (by omega)
    have hs := seen_ne (ρ := ρ) (x := π.2 0 c) (y := π.2 0 ((nbL w h c).getD k 0)) (e := f4_etchNow ρ) b1.1 b1.2 b2.1 b2.2
    unfold s1
    by_cases cc : sn ρ (ρ.1 0).toInt (mk π c) (mk π ((nbL w h c).getD k 0)) = true
    · rw [if_pos cc, if_neg (fun e => hs.mp e cc)]
      exact i1
    · rw [if_neg cc, if_pos (hs.mpr cc)]
      exact i0) (by omega) (by omega)
  rw [this, Lm_getD (fun o => s1 ρ π (ρ.1 0).toInt c o)]
theorem seenPairs_at (hS : Shp τ w h) (hR : GR ρ) {B : Int} (hG : GP (w * h) B π) : f6_seenPairs τ ρ π = f6_allCuts τ ρ π := by
  have h36 := hS.n36
  have w6 := hS.2.2.2.1
  have h6 := hS.2.2.2.2.1
  have bd : ∀ c, c < w * h → 0 ≤ Lm (fun o => s1 ρ π (ρ.1 0).toInt c o) (nbL w h c) ∧ Lm (fun o => s1 ρ π (ρ.1 0).toInt c o) (nbL w h c) ≤ 4 := fun c hc => by
    have h4 := nbL_len w h c
    have := Lm_bd (f := fun o => s1 ρ π (ρ.1 0).toInt c o) (B := 1) (by omega) (l := nbL w h c) (fun o _ => s1_bd _ _ _ _ _)
    omega
  have e1 : (f6_seenPairs_L4 τ ρ π 8589934592 0 0).1.toInt = SI (fun c => Lm (fun o => s1 ρ π (ρ.1 0).toInt c o) (nbL w h c)) (w * h) := by
    have := loop_inv (F := f6_seenPairs_L4 τ ρ π) (st := fun x i => (f6_seenPairs_L27 τ ρ π i (f3_markAt π i) 8589934592 x 0).1) (fin := fun x i => (x, i)) (b := f5_cells τ) (n := w * h) (fun j y => y.toInt = SI (fun c => Lm (fun o => s1 ρ π (ρ.1 0).toInt c o) (nbL w h c)) j) (fun r => r.1.toInt = SI (fun c => Lm (fun o => s1 ρ π (ρ.1 0).toInt c o) (nbL w h c)) (w * h)) (cells_at hS) (by omega) (fun f s i => f6_seenPairs_L4_s τ ρ π f s i) (k := 0) (f := 8589934592) (s := 0) (Nat.zero_le _) (by omega) i0 (fun j y _ hj e => by
      have b := SI_bd (g := fun c => Lm (fun o => s1 ρ π (ρ.1 0).toInt c o) (nbL w h c)) (n := j) (B := 4) (fun k hk => bd k (by omega))
      show (f6_seenPairs_L27 τ ρ π (nI j) (f3_markAt π (nI j)) 8589934592 y 0).1.toInt = _
      rw [seen27_at hS hG hj (by omega) (by omega), SI_s, e]) (fun y e => e)
    rw [nI_0] at this
    exact this
  have e2 : SI (fun c => Lm (fun o => s1 ρ π (ρ.1 0).toInt c o) (nbL w h c)) (w * h) = 2 * (f6_allCuts τ ρ π).toInt := by
    rw [allCuts_at hS hR hG, allCuts_LL, PL_LL (s1 ρ π (ρ.1 0).toInt) w6 h6, Lm_add]
    have : Lm (fun p => s1 ρ π (ρ.1 0).toInt p.2 p.1) (LL w h) = Lm (fun p => s1 ρ π (ρ.1 0).toInt p.1 p.2) (LL w h) := Lm_congr (fun p hp => by
      have := LL_ok w6 h6 hp
      exact s1_symm hR hG (by omega) (by omega))
    rw [this]
    omega
  refine z_eq.mpr ?_
  unfold f6_seenPairs
  have b := SI_bd (g := cutI ρ π w h) (n := w + h) (B := 6) (fun k _ => cutI_bd hS k)
  rw [← allCuts_at hS hR hG] at b
  rw [z_div (by rw [e1, e2]; omega) (by rw [i2]; omega), e1, e2, i2]
  omega
end

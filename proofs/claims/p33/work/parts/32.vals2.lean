/-! VALUES, further: textures, cuts, signs, soundness -/
theorem and_nn (v : Int32) : 0 ≤ (v &&& 2147483647).toInt := by
  rw [← Int32.toInt_toBitVec, Int32.toBitVec_and]
  have hle : (v.toBitVec &&& (2147483647 : Int32).toBitVec).toNat ≤ 2147483647 := by
    rw [BitVec.toNat_and]
    exact Nat.le_trans Nat.and_le_right (by decide)
  rw [BitVec.toInt_eq_toNat_of_lt (by omega)]
  omega
/-- the law's own remainder -/
def bl (v n : Int32) : Int32 := (v &&& 2147483647) - (v &&& 2147483647) / n * n
theorem bl_at (v : Int32) {n : Nat} (h0 : 0 < n) (h1 : n < 2147483648) : ∃ k, k < n ∧ bl v (nI n) = nI k := by
  have en : (nI n).toInt = (n : Int) := nI_int h1
  have a := and_nn v
  have r0 := Int.emod_nonneg (v &&& 2147483647).toInt (b := (n : Int)) (by omega)
  have r1 := Int.emod_lt_of_pos (v &&& 2147483647).toInt (b := (n : Int)) (by omega)
  have e : (bl v (nI n)).toInt = (v &&& 2147483647).toInt % (n : Int) := by
    unfold bl
    rw [z_rem a (by omega), en]
  refine ⟨((v &&& 2147483647).toInt % (n : Int)).toNat, by omega, z_eq.mpr ?_⟩
  rw [e, nI_int (by omega)]
  omega
theorem i2c_small : ∀ k, k < 61 → ¬ 255 < (((nI k).toUInt32 % 65536).toInt32) := by decide +kernel
theorem within_at {x lo hi : Int32} (h1 : lo.toInt ≤ x.toInt) (h2 : x.toInt ≤ hi.toInt) : ¬ f7_isWithin x lo hi = 0 := by
  unfold f7_isWithin
  rw [if_neg (by rw [z_lt]; omega), if_neg (by rw [z_lt]; omega)]
  decide
section
variable {τ ρ π : Sg} {w h : Nat} {B : Int}
theorem sign_le (hD : Gd w h B τ ρ π) (γ : Sg) (j a1 : Int32) : ¬ 255 < f6_signOf τ π (f6_look τ ρ π γ) j a1 := by
  have h36 := hD.1.n36
  obtain ⟨m0, m1, hL⟩ := look_at hD.1 hD.2.2.1 hD.2.2.2 γ
  have hm := hL.m0
  unfold f6_signOf
  by_cases c1 : f3_markAt π j = 0
  · rw [if_pos c1]; decide
  rw [if_neg c1]
  have e48 : (48 : Int32).toInt = 48 := by decide
  have small : ∀ x : Int32, 0 ≤ x.toInt → x.toInt ≤ 9 → ¬ 255 < (((48 + x).toUInt32 % 65536).toInt32) := fun x h1 h2 => by
    have e : 48 + x = nI (48 + x.toInt.toNat) := by
      refine z_eq.mpr ?_
      rw [z_add (by rw [e48]; omega) (by rw [e48]; omega), e48, nI_int (by omega)]
      omega
    rw [e]
    exact i2c_small _ (by omega)
  have hm9 : 0 ≤ (f3_markAt π j).toInt ∧ (f3_markAt π j).toInt ≤ 9 := by
    unfold f3_markAt
    by_cases c2 : j < 0
    · rw [if_pos c2, i0]; omega
    rw [if_neg c2]
    by_cases c3 : 64 ≤ j
    · rw [if_pos c3, i0]; omega
    rw [if_neg c3]
    rw [z_lt, i0] at c2
    rw [z_le, i64] at c3
    exact hD.2.2.2.1 _ (by rw [clamp_toInt]; omega)
  by_cases c2 : a1 = 0
  · rw [if_pos c2]
    exact small _ hm9.1 hm9.2
  rw [if_neg c2]
  by_cases c3 : f3_hardAt π j = 1
  · rw [if_pos c3]; decide
  rw [if_neg c3]
  refine small _ ?_ ?_ <;> unfold f2_leastMarkOf
  · by_cases c4 : f2_hasGrain (f6_look τ ρ π γ) 1 (f2_at τ (f6_look τ ρ π γ) 1 j) = 0
    · rw [if_pos c4, i0]; omega
    · rw [if_neg c4]
      have hlt : (f2_at τ (f6_look τ ρ π γ) 1 j).toNatClampNeg < m1 := by
        unfold f2_hasGrain at c4
        by_cases d1 : f2_at τ (f6_look τ ρ π γ) 1 j < 0
        · rw [if_pos d1] at c4; exact absurd rfl c4
        rw [if_neg d1] at c4
        by_cases d2 : (f6_look τ ρ π γ).1 1 ≤ f2_at τ (f6_look τ ρ π γ) 1 j
        · rw [if_pos d2] at c4; exact absurd rfl c4
        rw [z_lt, i0] at d1
        have hm1 := hL.2.2
        rw [z_le, hL.2.1.1.1, nI_int (by omega)] at d2
        rw [clamp_toInt]
        omega
      have := hL.2.1.2.2.2.2.2.2.2.1 _ hlt
      exact Int.le_trans (by omega) this.1
  · by_cases c4 : f2_hasGrain (f6_look τ ρ π γ) 1 (f2_at τ (f6_look τ ρ π γ) 1 j) = 0
    · rw [if_pos c4, i0]; omega
    · rw [if_neg c4]
      have hlt : (f2_at τ (f6_look τ ρ π γ) 1 j).toNatClampNeg < m1 := by
        unfold f2_hasGrain at c4
        by_cases d1 : f2_at τ (f6_look τ ρ π γ) 1 j < 0
        · rw [if_pos d1] at c4; exact absurd rfl c4
        rw [if_neg d1] at c4
        by_cases d2 : (f6_look τ ρ π γ).1 1 ≤ f2_at τ (f6_look τ ρ π γ) 1 j
        · rw [if_pos d2] at c4; exact absurd rfl c4
        rw [z_lt, i0] at d1
        have hm1 := hL.2.2
        rw [z_le, hL.2.1.1.1, nI_int (by omega)] at d2
        rw [clamp_toInt]
        omega
      exact (hL.2.1.2.2.2.2.2.2.2.1 _ hlt).2
/-- textures: all of them together are no more than a thousand -/
def tx (τ π : Sg) (m : Nat) : Int := (f6_textureOf τ π (nI m)).toInt
theorem tx_bd (hD : Gd w h B τ ρ π) (m : Nat) : 0 ≤ tx τ π m ∧ tx τ π m ≤ 1000 := by
  have h36 := hD.1.n36
  have hp := hD.1.npos
  have bd := SI_bd (g := fun c => if π.2 0 c = nI m then 1 else 0) (n := w * h) (B := 1) (fun k _ => by
    show (0 : Int) ≤ (if π.2 0 k = nI m then 1 else 0) ∧ (if π.2 0 k = nI m then 1 else 0) ≤ (1 : Int)
    split <;> omega)
  unfold tx
  rw [texture_at hD.1]
  generalize SI (fun c => if π.2 0 c = nI m then 1 else 0) (w * h) = X at bd
  refine ⟨Int.ediv_nonneg (by omega) (by omega), ?_⟩
  have h1 : 1000 * X / ((w * h : Nat) : Int) * ((w * h : Nat) : Int) ≤ 1000 * X := Int.ediv_mul_le _ (by omega)
  have h2 : 1000 * X ≤ 1000 * ((w * h : Nat) : Int) := by omega
  exact Int.le_of_mul_le_mul_right (Int.le_trans h1 h2) (by omega)
theorem tx_sum (hD : Gd w h B τ ρ π) : SI (fun j => tx τ π (j + 1)) 9 ≤ 1000 := by
  have h36 := hD.1.n36
  have hp := hD.1.npos
  have e1 : ((w * h : Nat) : Int) * SI (fun j => tx τ π (j + 1)) 9 ≤ SI (fun j => 1000 * SI (fun c => if π.2 0 c = nI (j + 1) then 1 else 0) (w * h)) 9 := by
    rw [← SI_mul]
    refine SI_le (fun j _ => ?_)
    unfold tx
    rw [texture_at hD.1, Int.mul_comm]
    exact Int.ediv_mul_le _ (by omega)
  have e2 : SI (fun j => SI (fun c => if π.2 0 c = nI (j + 1) then 1 else 0) (w * h)) 9 ≤ ((w * h : Nat) : Int) := by
    rw [SI_swap (fun j c => if π.2 0 c = nI (j + 1) then 1 else 0)]
    have : ∀ c, c < w * h → SI (fun j => if π.2 0 c = nI (j + 1) then (1 : Int) else 0) 9 ≤ 1 := fun c hc => by
      have b := hD.2.2.2.1 c (by omega)
      have e : SI (fun j => if π.2 0 c = nI (j + 1) then (1 : Int) else 0) 9 = SI (fun j => if j = (mk π c - 1).toNat then (if mk π c = 0 then 0 else 1) else 0) 9 := SI_congr (fun j hj => by
        have q : π.2 0 c = nI (j + 1) ↔ mk π c = ((j + 1 : Nat) : Int) := by
          rw [z_eq, nI_int (by omega)]
          exact Iff.rfl
        by_cases z : mk π c = ((j + 1 : Nat) : Int)
        · rw [if_pos (q.mpr z), if_pos (by omega), if_neg (by omega)]
        · rw [if_neg (fun y => z (q.mp y))]
          by_cases z2 : j = (mk π c - 1).toNat
          · rw [if_pos z2, if_pos (by omega)]
          · rw [if_neg z2])
      rw [e, SI_single]
      split
      · split <;> omega
      · omega
    have := SI_le (n := w * h) this
    rw [SI_const] at this
    omega
  rw [SI_mul] at e1
  have e3 : ((w * h : Nat) : Int) * SI (fun j => tx τ π (j + 1)) 9 ≤ ((w * h : Nat) : Int) * 1000 := by omega
  exact Int.le_of_mul_le_mul_left e3 (by omega)
theorem texture_in {m : Nat} (h1 : 1 ≤ m) (h2 : m ≤ 9) : ¬ f7_isWithin (nI m) 1 9 = 0 := within_at (by rw [i1, nI_int (by omega)]; omega) (by rw [i9, nI_int (by omega)]; omega)
/-- lines -/
theorem line_in (hD : Gd w h B τ ρ π) {l : Nat} (hl : l < w + h) : ¬ f7_isWithin (nI l) 0 (f5_lines τ - 1) = 0 := by
  have w6 := hD.1.2.2.2.1
  have h6 := hD.1.2.2.2.2.1
  rw [lines_at hD.1, nI_one, nIs (by omega)]
  exact within_at (by rw [i0, nI_int (by omega)]; omega) (by rw [nI_int (by omega), nI_int (by omega)]; omega)
theorem line_cut (hD : Gd w h B τ ρ π) (γ : Sg) {l : Nat} (hl : l < w + h) : (f7_line τ ρ π γ (nI l) 1).1 = f6_cutsOf τ ρ π (nI l) := by
  unfold f7_line
  rw [if_neg (line_in hD hl), if_neg (by decide)]
theorem line_wide (hD : Gd w h B τ ρ π) (γ : Sg) : (f7_line τ ρ π γ 0 0).1 = nI w := by
  have w6 := hD.1.2.2.2.1
  have h6 := hD.1.2.2.2.2.1
  have hi := line_in hD (l := 0) (by omega)
  have e := lineCells_row hD.1 (r := 0) (by omega)
  rw [nI_0] at hi e
  unfold f7_line
  rw [if_neg hi, if_pos rfl]
  exact e
theorem high_val (hD : Gd w h B τ ρ π) : nI (w * h) / nI w = nI h := by
  have h36 := hD.1.n36
  have w6 := hD.1.2.2.2.1
  have h6 := hD.1.2.2.2.2.1
  refine z_eq.mpr ?_
  rw [z_div (by rw [nI_int (by omega)]; omega) (by rw [nI_int (by omega)]; omega), nI_int (by omega), nI_int (by omega), nI_int (by omega)]
  rw [Int.natCast_mul, Int.mul_ediv_cancel_left _ (by omega)]
/-- all is sound -/
theorem cellsSound (hD : Gd w h B τ ρ π) : f6_areCellsSound τ π = 1 := by
  have h36 := hD.1.n36
  have key : ∀ (d k f : Nat), k + d = w * h → d < f → ∃ x, f6_areCellsSound_L2 τ π f (nI k) = .inr x := by
    intro d
    induction d with
    | zero =>
      intro k f hk hf
      obtain ⟨f, rfl⟩ : ∃ g, f = g + 1 := ⟨f - 1, by omega⟩
      rw [f6_areCellsSound_L2_s, cells_at hD.1, if_pos (nI_le (by omega) (by omega))]
      exact ⟨_, rfl⟩
    | succ d ih =>
      intro k f hk' hf
      obtain ⟨f, rfl⟩ : ∃ g, f = g + 1 := ⟨f - 1, by omega⟩
      have hb := hD.2.2.2.2.1 k (by omega)
      have ew : (π.2 1 k).toInt = wk π k := rfl
      have hin : ¬ f7_isWithin (π.2 1 k) 0 20 = 0 := within_at (by rw [i0, ew]; omega) (by rw [i20, ew]; omega)
      have hbare : π.2 0 k = 0 → π.2 1 k = 0 ∧ π.2 2 k = 0 := fun q => by
        have := hb.2.2 ((congrArg Int32.toInt q).trans i0)
        exact ⟨z_eq.mpr (this.1.trans i0.symm), z_eq.mpr (this.2.trans i0.symm)⟩
      obtain ⟨x, hx⟩ := ih (k + 1) f (by omega) (by omega)
      refine ⟨x, ?_⟩
      rw [f6_areCellsSound_L2_s, cells_at hD.1, if_neg (nI_ge (by omega) (by omega)), workAt_at π (by omega), hardAt_at π (by omega), markAt_at π (by omega), if_neg hin, if_neg hin, ← nI_succ]
      by_cases c1 : π.2 1 k = 0
      · rw [if_pos c1]
        by_cases c2 : π.2 2 k = 0
        · rw [if_pos c2]
          by_cases c3 : π.2 0 k = 0
          · rw [if_pos c3]; exact hx
          · rw [if_neg c3]; exact hx
        · rw [if_neg c2, if_neg (fun q => c2 (hbare q).2)]; exact hx
      · rw [if_neg c1, if_neg (fun q => c1 (hbare q).1)]; exact hx
  obtain ⟨x, hx⟩ := key (w * h) 0 8589934592 (by omega) (by omega)
  rw [nI_0] at hx
  unfold f6_areCellsSound
  rw [hx]
theorem sound_at (hD : Gd w h B τ ρ π) (γ : Sg) : (f7_isSound τ ρ π γ).1 = 1 := by
  have h36 := hD.1.n36
  obtain ⟨m0, m1, hL⟩ := look_at hD.1 hD.2.2.1 hD.2.2.2 γ
  have hm := hL.m0
  have hm1 := hL.2.2
  have pb := pc_bd (w * h) π
  have ep : (f3_particles τ π).toInt = pc (w * h) π := particles_at hD.1
  show f6_isAllSound τ ρ π (f6_look τ ρ π γ) = 1
  generalize f6_look τ ρ π γ = g at hL hm
  have e1 : (f6_isAllSound_L10 τ ρ π g 8589934592 (f3_particles τ π) 0).1 = f5_cells τ := by
    refine z_eq.mpr ?_
    have := loop_sum0 (F := f6_isAllSound_L10 τ ρ π g) (gi := fun i => f2_sizeOf g 0 i) (n := m0) (b := f2_many g 0) hm.1 (by omega) (fun f x i => by
      rw [f6_isAllSound_L10_s]) (B := 36) (by omega) (szI g w h) (f := 8589934592) (x := f3_particles τ π) (by omega) (fun j hj => by
      obtain ⟨a, b, c⟩ := hL.size hD.1 hj
      exact ⟨a, by omega, by omega⟩) (by omega) (by omega)
    rw [this, ep, cells_at hD.1, nI_int (by omega)]
    have := hL.sizes hD.1
    omega
  have e2 : ¬ f2_many g 0 < f2_many g 1 := by
    have a0 : f2_many g 0 = nI m0 := hm.1
    have a1 : f2_many g 1 = nI m1 := hL.2.1.1.1
    rw [a0, a1, nIlt (by omega) (by omega)]
    omega
  have e3 : ¬ f3_energy τ ρ π < 0 := by
    have b1 := SI_mA_bd hD.1 hD.2.2.1 hD.2.2.2
    have b2 := SI_wk_bd hD.1 hD.2.2.2
    rw [z_lt, i0, energy_at hD.1 hD.2.2.1 hD.2.2.2]
    omega
  unfold f6_isAllSound
  rw [if_pos e1, if_neg e2, cellsSound hD, if_neg (by decide), if_neg e3, if_pos (seenPairs_at hD.1 hD.2.2.1 hD.2.2.2).symm]
end

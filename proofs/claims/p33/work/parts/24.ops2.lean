/-! OPERATIONS, further: sweeps, rolls, births, coolings, a new metal -/
section
variable {τ ρ π : Sg} {w h : Nat}
theorem Shp.npos (hS : Shp τ w h) : 0 < w * h := Nat.mul_pos (by have := hS.2.2.2.1; omega) (by have := hS.2.2.2.2.1; omega)
theorem easeAll_at (hS : Shp τ w h) {B : Int} (hG : GP (w * h) B π) : GP (w * h) B (f3_easeAll τ π) ∧ Rl (w * h) 0 π (f3_easeAll τ π) := by
  have h36 := hS.n36
  unfold f3_easeAll
  have := loop_inv (F := f3_easeAll_L2 τ) (st := fun s i => f3_putWork s i (if 0 < ((f3_workAt s i) - 1) then ((f3_workAt s i) - 1) else 0)) (fin := fun s i => (i, s)) (b := f5_cells τ) (n := w * h) (fun _ s => GP (w * h) B s ∧ Rl (w * h) 0 π s) (fun r => GP (w * h) B r.2 ∧ Rl (w * h) 0 π r.2) (cells_at hS) (by omega) (fun f s i => f3_easeAll_L2_s τ f s i) (k := 0) (f := 8589934592) (s := π) (Nat.zero_le _) (by omega) ⟨hG, Rl.rf _ _⟩ (fun j s _ hj ⟨g, r⟩ => by
    rw [workAt_at _ (by omega), putWork_at _ (by omega)]
    have b := g.2.1 j hj
    have bw : (s.2 1 j).toInt = wk s j := rfl
    have e1 : (s.2 1 j - 1).toInt = wk s j - 1 := by rw [z_sub (by rw [i1]; omega) (by rw [i1]; omega), i1, bw]
    have hv : (if 0 < s.2 1 j - 1 then s.2 1 j - 1 else 0 : Int32).toInt = if 0 < wk s j - 1 then wk s j - 1 else 0 := by
      by_cases c : 0 < s.2 1 j - 1
      · rw [if_pos c]
        rw [z_lt, e1, i0] at c
        rw [if_pos c, e1]
      · rw [if_neg c]
        rw [z_lt, e1, i0] at c
        rw [if_neg c, i0]
    have hle : (if 0 < wk s j - 1 then wk s j - 1 else 0) ≤ wk s j := by split <;> omega
    have hge : 0 ≤ (if 0 < wk s j - 1 then wk s j - 1 else 0) := by split <;> omega
    refine ⟨GP_work g (by rw [hv]; exact hge) (by rw [hv]; omega) (fun _ q => by rw [hv]; have := (b.2.2 q).1; omega), r.trans (Rl_work (fun _ => by rw [hv]; exact hle))⟩) (fun s q => q)
  rw [nI_0] at this
  exact this
def rollV (s : Sg) (i : Int32) : Int32 := if (((f3_workAt s i) + 1) + ((f3_markAt s i) - (f3_markAt s i) / 3 * 3)) < 20 then (((f3_workAt s i) + 1) + ((f3_markAt s i) - (f3_markAt s i) / 3 * 3)) else 20
def rollSt (s : Sg) (i : Int32) : Sg := if f3_markAt s i = 0 then s else if f3_hardAt s i = 1 then s else if rollV s i ≤ 10 then f3_putWork s i (rollV s i) else if f3_markAt s i = 9 then f3_putMark (f3_putWork s i (rollV s i)) i 1 else f3_putMark (f3_putWork s i (rollV s i)) i (f3_markAt s i + 1)
theorem roll_s (f : Nat) (s : Sg) (i : Int32) : f3_rollOnce_L2 τ (f + 1) s i = if f5_cells τ ≤ i then (i, s) else f3_rollOnce_L2 τ f (rollSt s i) (i + 1) := by
  have e : f3_rollOnce_L2 τ (f + 1) s i = if f5_cells τ ≤ i then (i, s) else if f3_markAt s i = 0 then f3_rollOnce_L2 τ f s (i + 1) else if f3_hardAt s i = 1 then f3_rollOnce_L2 τ f s (i + 1) else if rollV s i ≤ 10 then f3_rollOnce_L2 τ f (f3_putWork s i (rollV s i)) (i + 1) else if f3_markAt s i = 9 then f3_rollOnce_L2 τ f (f3_putMark (f3_putWork s i (rollV s i)) i 1) (i + 1) else f3_rollOnce_L2 τ f (f3_putMark (f3_putWork s i (rollV s i)) i (f3_markAt s i + 1)) (i + 1) := f3_rollOnce_L2_s τ f s i
  rw [e]
  unfold rollSt
  by_cases h1 : f5_cells τ ≤ i
  · rw [if_pos h1, if_pos h1]
  rw [if_neg h1, if_neg h1]
  by_cases h2 : f3_markAt s i = 0
  · rw [if_pos h2, if_pos h2]
  rw [if_neg h2, if_neg h2]
  by_cases h3 : f3_hardAt s i = 1
  · rw [if_pos h3, if_pos h3]
  rw [if_neg h3, if_neg h3]
  by_cases h4 : rollV s i ≤ 10
  · rw [if_pos h4, if_pos h4]
  rw [if_neg h4, if_neg h4]
  by_cases h5 : f3_markAt s i = 9
  · rw [if_pos h5, if_pos h5]
  rw [if_neg h5, if_neg h5]
theorem rollOnce_at (hS : Shp τ w h) {B : Int} (hG : GP (w * h) B π) : GP (w * h) B (f3_rollOnce τ π) ∧ Rl (w * h) 0 π (f3_rollOnce τ π) ∧ (f3_rollOnce τ π).1 = π.1 := by
  have h36 := hS.n36
  unfold f3_rollOnce
  have := loop_inv (F := f3_rollOnce_L2 τ) (st := rollSt) (fin := fun s i => (i, s)) (b := f5_cells τ) (n := w * h) (fun _ s => GP (w * h) B s ∧ Rl (w * h) 0 π s ∧ s.1 = π.1) (fun r => GP (w * h) B r.2 ∧ Rl (w * h) 0 π r.2 ∧ r.2.1 = π.1) (cells_at hS) (by omega) (fun f s i => roll_s f s i) (k := 0) (f := 8589934592) (s := π) (Nat.zero_le _) (by omega) ⟨hG, Rl.rf _ _, rfl⟩ (fun j s _ hj ⟨g, r, en⟩ => by
    have b := g.2.1 j hj
    have bm := g.1 j (by omega)
    have ew : (s.2 1 j).toInt = wk s j := rfl
    have em : (s.2 0 j).toInt = mk s j := rfl
    unfold rollSt
    rw [markAt_at _ (by omega), hardAt_at _ (by omega)]
    by_cases h2 : s.2 0 j = 0
    · rw [if_pos h2]; exact ⟨g, r, en⟩
    rw [if_neg h2]
    by_cases h3 : s.2 2 j = 1
    · rw [if_pos h3]; exact ⟨g, r, en⟩
    rw [if_neg h3]
    have m0 : mk s j ≠ 0 := fun q => h2 (z_eq.mpr (q.trans i0.symm))
    have k0 : hk s j ≠ 1 := fun q => h3 (z_eq.mpr (q.trans i1.symm))
    have hv : 0 ≤ (rollV s (nI j)).toInt ∧ (rollV s (nI j)).toInt ≤ 20 := by
      unfold rollV
      rw [workAt_at _ (by omega), markAt_at _ (by omega)]
      have er : (s.2 0 j - s.2 0 j / 3 * 3).toInt = mk s j % 3 := by rw [z_rem (by omega) (by rw [i3]; omega), i3, em]
      have e1 : (s.2 1 j + 1).toInt = wk s j + 1 := by rw [z_add (by rw [i1]; omega) (by rw [i1]; omega), i1, ew]
      have e2 : (s.2 1 j + 1 + (s.2 0 j - s.2 0 j / 3 * 3)).toInt = wk s j + 1 + mk s j % 3 := by rw [z_add (by rw [e1, er]; omega) (by rw [e1, er]; omega), e1, er]
      by_cases c : s.2 1 j + 1 + (s.2 0 j - s.2 0 j / 3 * 3) < 20
      · rw [if_pos c]
        rw [z_lt, e2, i20] at c
        rw [e2]
        omega
      · rw [if_neg c, i20]
        omega
    rw [putWork_at _ (by omega)]
    have g1 : GP (w * h) B (sa s 1 j (rollV s (nI j))) := GP_work g hv.1 hv.2 (fun _ q => absurd q m0)
    have r1 : Rl (w * h) 0 s (sa s 1 j (rollV s (nI j))) := Rl_work (fun q => absurd q k0)
    by_cases h4 : rollV s (nI j) ≤ 10
    · rw [if_pos h4]
      exact ⟨g1, r.trans r1, en⟩
    rw [if_neg h4, putMark_at _ (by omega), putMark_at _ (by omega)]
    by_cases h5 : s.2 0 j = 9
    · rw [if_pos h5]
      exact ⟨GP_mark g1 (by rw [i1]; omega) (by rw [i1]; omega), (r.trans r1).trans (Rl_mark g1 k0 m0 (by rw [i1]; omega)), en⟩
    rw [if_neg h5]
    have n9 : mk s j ≠ 9 := fun q => h5 (z_eq.mpr (q.trans i9.symm))
    have e3 : (s.2 0 j + 1).toInt = mk s j + 1 := by rw [z_add (by rw [i1]; omega) (by rw [i1]; omega), i1, em]
    exact ⟨GP_mark g1 (by omega) (by omega), (r.trans r1).trans (Rl_mark g1 k0 m0 (by omega)), en⟩) (fun s q => q)
  rw [nI_0] at this
  exact this
theorem isBearing_ne {bar : Int32} {c : Nat} (hc : c < 64) (h1 : ¬ f3_isBearing τ π (nI c) bar = 0) : mk π c ≠ 0 ∧ hk π c ≠ 1 := by
  unfold f3_isBearing at h1
  rw [markAt_at _ hc, hardAt_at _ hc] at h1
  refine ⟨fun q => h1 (if_pos (z_eq.mpr (q.trans i0.symm))), fun q => ?_⟩
  rw [if_pos (z_eq.mpr (q.trans i1.symm) : π.2 2 c = 1)] at h1
  exact h1 (by split <;> rfl)
theorem bear_at (hS : Shp τ w h) {B : Int} (hB : B < 900000) (hG : GP (w * h) B π) (bar : Int32) : GP (w * h) (B + 36) (f3_bear τ π bar).2 ∧ Rl (w * h) 0 π (f3_bear τ π bar).2 ∧ (0 ≤ (f3_bear τ π bar).1.toInt ∧ (f3_bear τ π bar).1.toInt ≤ 36) ∧ ((f3_bear τ π bar).2.1 1).toInt = (π.1 1).toInt + (f3_bear τ π bar).1.toInt := by
  have h36 := hS.n36
  unfold f3_bear
  have := loop_inv (F := fun f (s : Sg × Int32) i => f3_bear_L4 τ bar f s.1 s.2 i) (st := fun s i => if f3_isBearing τ s.1 i bar = 0 then s else (f3_putWork (f3_putMark ((f3_drawBelow s.1 9).2) i (1 + ((f3_drawBelow s.1 9).1))) i 0, s.2 + 1)) (fin := fun s i => (s.2, i, s.1)) (b := f5_cells τ) (n := w * h) (fun j s => GP (w * h) (B + (j : Int)) s.1 ∧ Rl (w * h) 0 π s.1 ∧ (0 ≤ s.2.toInt ∧ s.2.toInt ≤ (j : Int)) ∧ (s.1.1 1).toInt = (π.1 1).toInt + s.2.toInt) (fun r => GP (w * h) (B + ((w * h : Nat) : Int)) r.2.2 ∧ Rl (w * h) 0 π r.2.2 ∧ (0 ≤ r.1.toInt ∧ r.1.toInt ≤ ((w * h : Nat) : Int)) ∧ (r.2.2.1 1).toInt = (π.1 1).toInt + r.1.toInt) (cells_at hS) (by omega) (fun f s i => by
    show f3_bear_L4 τ bar (f + 1) s.1 s.2 i = _
    rw [f3_bear_L4_s]
    by_cases h1 : f5_cells τ ≤ i
    · rw [if_pos h1, if_pos h1]
    rw [if_neg h1, if_neg h1]
    by_cases h2 : f3_isBearing τ s.1 i bar = 0
    · rw [if_pos h2, if_pos h2]
    · rw [if_neg h2, if_neg h2]) (k := 0) (f := 8589934592) (s := (π, 0)) (Nat.zero_le _) (by omega) ⟨hG.up (by omega), Rl.rf _ _, by show 0 ≤ (0 : Int32).toInt ∧ (0 : Int32).toInt ≤ ((0 : Nat) : Int); rw [i0]; omega, by show (π.1 1).toInt = (π.1 1).toInt + (0 : Int32).toInt; rw [i0]; omega⟩ (fun j s _ hj ⟨g, r, q, d⟩ => by
    by_cases h2 : f3_isBearing τ s.1 (nI j) bar = 0
    · rw [if_pos h2]
      exact ⟨g.up (by omega), r, by omega, d⟩
    rw [if_neg h2]
    obtain ⟨m0, k0⟩ := isBearing_ne (by omega) h2
    obtain ⟨⟨k, hk9, ek⟩, D⟩ := drawBelow_at g (by omega) (m := 9) (by omega) (by omega)
    rw [show (9 : Int32) = nI 9 from rfl, ek]
    have g1 := D.GP (by omega) g
    generalize (f3_drawBelow s.1 (nI 9)).2 = π1 at D g1 ⊢
    rw [putMark_at _ (by omega), putWork_at _ (by omega)]
    have ev : (1 + nI k).toInt = 1 + (k : Int) := by
      rw [z_add, i1, nI_int] <;> (try rw [i1, nI_int]) <;> omega
    have g2 : GP (w * h) (B + (j : Int) + 1) (sa π1 0 j (1 + nI k)) := GP_mark g1 (by omega) (by omega)
    have g3 : GP (w * h) (B + (j : Int) + 1) (sa (sa π1 0 j (1 + nI k)) 1 j 0) := GP_work g2 (by rw [i0]; omega) (by rw [i0]; omega) (fun _ _ => i0)
    have e2 : (s.2 + 1).toInt = s.2.toInt + 1 := by rw [z_add (by rw [i1]; omega) (by rw [i1]; omega), i1]
    refine ⟨g3.up (by omega), ((r.trans (D.Rl (by omega))).trans (Rl_mark g1 (by rw [D.hk]; exact k0) (by rw [D.mk]; exact m0) (by omega))).trans (Rl_work (fun q => ?_)), ?_, ?_⟩
    · rw [hk_sa0, D.hk] at q
      exact absurd q k0
    · show 0 ≤ (s.2 + 1).toInt ∧ (s.2 + 1).toInt ≤ _
      rw [e2]
      omega
    · show (π1.1 1).toInt = _ + (s.2 + 1).toInt
      rw [e2, D.2.2]
      omega) (fun s q => q)
  rw [nI_0] at this
  obtain ⟨a, b, ⟨c1, c2⟩, d⟩ := this
  exact ⟨a.up (by omega), b, ⟨c1, Int.le_trans c2 (by omega)⟩, d⟩
end

/-! ACTS: what a turn of the law does, and that its checks hold -/
/-- the checks of the law, of one turn -/
def Ck (w h : Nat) (ρ : Sg) (kind : Nat) (d : Int) (π π' : Sg) : Prop :=
  0 ≤ d ∧ (kind = 2 → En ρ π' w h ≤ En ρ π w h) ∧ (kind = 3 → d = SI (wk π') (w * h)) ∧ (kind = 4 → (π'.1 1).toInt = (π.1 1).toInt + d) ∧ (kind = 5 → SI (hk π') (w * h) = SI (hk π) (w * h) + d) ∧ (kind < 5 → SI (hk π') (w * h) = SI (hk π) (w * h)) ∧ pc (w * h) π' ≤ pc (w * h) π ∧ pc (w * h) π - 1 ≤ pc (w * h) π' ∧ (π.1 1).toInt ≤ (π'.1 1).toInt ∧
  ∀ c, c < w * h → (hk π c = 1 → mk π' c = mk π c ∧ wk π' c ≤ wk π c) ∧ (mk π c ≠ 0 → mk π' c ≠ 0) ∧ (hk π c = 1 → kind ≠ 6 → hk π' c ≠ 0)
section
variable {τ ρ π : Sg} {w h : Nat} {B : Int}
theorem Ck.ofRl {kind : Nat} {d k : Int} {π' : Sg} (hr : Rl (w * h) k π π') (hk01 : 0 ≤ k ∧ k ≤ 1) (hd : 0 ≤ d) (h2 : kind = 2 → En ρ π' w h ≤ En ρ π w h) (h3 : kind = 3 → d = SI (wk π') (w * h)) (h4 : kind = 4 → (π'.1 1).toInt = (π.1 1).toInt + d) (h5 : kind ≠ 5) : Ck w h ρ kind d π π' := by
  have hs : SI (hk π') (w * h) = SI (hk π) (w * h) := SI_congr (fun c hc => (hr.1.1 c hc).1)
  have hm := hr.2
  unfold Ml at hm
  refine ⟨hd, h2, h3, h4, fun q => absurd q h5, fun _ => hs, by omega, by omega, hr.1.2, fun c hc => ?_⟩
  obtain ⟨a, b, e⟩ := hr.1.1 c hc
  exact ⟨e, b, fun q _ => by rw [a, q]; omega⟩
theorem heat_in {a : Nat} (ha : a ≤ 9) : ¬ f7_isWithin (nI a) 0 9 = 0 := within_at (by rw [i0, nI_int (by omega)]; omega) (by rw [i9, nI_int (by omega)]; omega)
theorem i50 : (50 : Int32).toInt = 50 := by decide
theorem i99 : (99 : Int32).toInt = 99 := by decide
theorem i999 : (999 : Int32).toInt = 999 := by decide
theorem within_l (x : Nat) (lo hi : Int32) (h1 : lo.toInt ≤ (x : Int)) (h2 : (x : Int) ≤ hi.toInt) (hx : x < 2147483648) : ¬ f7_isWithin (nI x) lo hi = 0 := within_at (by rw [nI_int hx]; exact h1) (by rw [nI_int hx]; exact h2)
theorem hot_0 : hot 0 = 0 := by unfold hot; rw [if_pos (by decide)]
/-- kinds 0 and 1 -/
theorem act01 (hD : Gd w h B τ ρ π) (hB : B < 600000) {a : Nat} (ha : a ≤ 9) {kind : Nat} (hk : kind = 0 ∨ kind = 1) : Gd w h (B + 300) τ ρ (f7_heat τ ρ π (nI a) 1).2 ∧ Ck w h ρ kind (f7_heat τ ρ π (nI a) 1).1.toInt π (f7_heat τ ρ π (nI a) 1).2 := by
  have s1 := sweepOften_at hD.1 hD.2.2.1 (by omega) hD.2.2.2 (a1 := nI a) (by rw [nI_int (by omega)]; omega) (s0 := 1) (by omega)
  have hb := hot_bd (nI a)
  have e : f7_heat τ ρ π (nI a) 1 = ((f3_sweepOften τ ρ π (nI a) (nI 1)).1, (f3_sweepOften τ ρ π (nI a) (nI 1)).2) := by
    unfold f7_heat
    rw [if_neg (heat_in ha), if_neg (by decide)]
    rfl
  rw [e]
  obtain ⟨p1, p2, p3, p4⟩ := s1
  refine ⟨⟨hD.1, hD.2.1, hD.2.2.1, p2.up (by omega)⟩, Ck.ofRl p3 (by simp; omega) p1.1 (fun q => by omega) (fun q => by omega) (fun q => by omega) (by omega)⟩
theorem act2 (hD : Gd w h B τ ρ π) (hB : B < 600000) : Gd w h (B + 300) τ ρ (f7_heat τ ρ π 0 2).2 ∧ Ck w h ρ 2 (f7_heat τ ρ π 0 2).1.toInt π (f7_heat τ ρ π 0 2).2 := by
  have s1 := sweepOften_at hD.1 hD.2.2.1 (by omega) hD.2.2.2 (a1 := 0) (by rw [i0]; omega) (s0 := 2) (by omega)
  have e : f7_heat τ ρ π 0 2 = ((f3_sweepOften τ ρ π 0 (nI 2)).1, (f3_sweepOften τ ρ π 0 (nI 2)).2) := by
    unfold f7_heat
    rw [if_neg (by decide), if_neg (by decide)]
    rfl
  rw [e]
  obtain ⟨p1, p2, p3, p4⟩ := s1
  rw [hot_0] at p3
  refine ⟨⟨hD.1, hD.2.1, hD.2.2.1, p2.up (by omega)⟩, Ck.ofRl p3 (by simp) p1.1 (fun _ => p4 i0) (fun q => by omega) (fun q => by omega) (by omega)⟩
theorem act3 (hD : Gd w h B τ ρ π) : Gd w h (B + 300) τ ρ (f7_roll τ π 1).2 ∧ Ck w h ρ 3 (f7_roll τ π 1).1.toInt π (f7_roll τ π 1).2 := by
  obtain ⟨g, r, _⟩ := rollOnce_at hD.1 hD.2.2.2
  have e1 : f7_roll_L20 τ 1 8589934592 π 0 = (1, f3_rollOnce τ π) := by
    rw [f7_roll_L20_s, if_neg (by decide), f7_roll_L20_s, if_pos (by decide)]
    rfl
  have e : f7_roll τ π 1 = (f3_allWork τ (f3_rollOnce τ π), f3_rollOnce τ π) := by
    unfold f7_roll
    rw [if_neg (by decide), e1]
  rw [e]
  have b := SI_wk_bd hD.1 g
  have ea := allWork_at hD.1 g
  refine ⟨⟨hD.1, hD.2.1, hD.2.2.1, g.up (by omega)⟩, Ck.ofRl r (by omega) (by rw [ea]; omega) (fun q => by omega) (fun _ => ea) (fun q => by omega) (by omega)⟩
theorem act4 (hD : Gd w h B τ ρ π) (hB : B < 600000) {a : Nat} (ha : 1 ≤ a ∧ a ≤ 20) : Gd w h (B + 300) τ ρ (f7_born τ π (nI a)).2 ∧ Ck w h ρ 4 (f7_born τ π (nI a)).1.toInt π (f7_born τ π (nI a)).2 := by
  obtain ⟨g, r, n, d⟩ := bear_at hD.1 (by omega) hD.2.2.2 (nI a)
  have e : f7_born τ π (nI a) = ((f3_bear τ π (nI a)).1, (f3_bear τ π (nI a)).2) := by
    unfold f7_born
    rw [if_neg (within_l _ 1 20 (by rw [i1]; omega) (by rw [i20]; omega) (by omega))]
  rw [e]
  exact ⟨⟨hD.1, hD.2.1, hD.2.2.1, g.up (by omega)⟩, Ck.ofRl r (by omega) n.1 (fun q => by omega) (fun q => by omega) (fun _ => d) (by omega)⟩
theorem cooling_in {a : Nat} (ha : a ≤ 9) : ¬ f7_isCooling 9 (nI a) = 0 := by
  unfold f7_isCooling
  rw [if_neg (by decide), if_neg (heat_in ha)]
  decide
theorem act5 (hD : Gd w h B τ ρ π) {a t : Nat} (ha : a ≤ 9) (ht : 1 ≤ t ∧ t ≤ 50) : Gd w h (B + 300) τ ρ (f7_cool τ ρ π 9 (nI a) (nI t)).2 ∧ Ck w h ρ 5 (f7_cool τ ρ π 9 (nI a) (nI t)).1.toInt π (f7_cool τ ρ π 9 (nI a) (nI t)).2 := by
  obtain ⟨g, r, n⟩ := coolDown_at hD.1 hD.2.2.1 hD.2.2.2 (x1 := 9) (x2 := nI a) ht.2 (by rw [i9]; omega) (by rw [nI_int (by omega)]; omega)
  have e : f7_cool τ ρ π 9 (nI a) (nI t) = ((f3_coolDown τ ρ π 9 (nI a) (nI t)).1, (f3_coolDown τ ρ π 9 (nI a) (nI t)).2) := by
    unfold f7_cool
    rw [if_neg (cooling_in ha), if_neg (within_l _ 1 50 (by rw [i1]; omega) (by rw [i50]; omega) (by omega))]
  rw [e]
  have ep : pc (w * h) (f3_coolDown τ ρ π 9 (nI a) (nI t)).2 = pc (w * h) π := pc_eq (fun c _ => by rw [(r.2.1 c).1])
  refine ⟨⟨hD.1, hD.2.1, hD.2.2.1, g.up (by omega)⟩, n, fun q => by omega, fun q => by omega, fun q => by omega, fun _ => r.2.2.2, fun q => by omega, ?_, ?_, ?_, fun c hc => ⟨fun q => ⟨(r.2.1 c).1, by rw [(r.2.1 c).2]; exact Int.le_refl _⟩, fun q => by rw [(r.2.1 c).1]; exact q, fun q _ => by rw [r.2.2.1 c hc q]; omega⟩⟩
  · show pc (w * h) (f3_coolDown τ ρ π 9 (nI a) (nI t)).2 ≤ _
    omega
  · show _ ≤ pc (w * h) (f3_coolDown τ ρ π 9 (nI a) (nI t)).2
    omega
  · show _ ≤ ((f3_coolDown τ ρ π 9 (nI a) (nI t)).2.1 1).toInt
    rw [r.1]
    exact Int.le_refl _
theorem act6 (hD : Gd w h B τ ρ π) : Gd w h (B + 300) τ ρ (f7_soften τ π).2 ∧ Ck w h ρ 6 (f7_soften τ π).1.toInt π (f7_soften τ π).2 := by
  obtain ⟨g, ⟨r1, r2⟩, n⟩ := loosen_at hD.1 hD.2.2.2
  have e : f7_soften τ π = ((f3_loosenAll τ π).1, (f3_loosenAll τ π).2) := rfl
  rw [e]
  have ep : pc (w * h) (f3_loosenAll τ π).2 = pc (w * h) π := pc_eq (fun c _ => by rw [(r2 c).1])
  refine ⟨⟨hD.1, hD.2.1, hD.2.2.1, g.up (by omega)⟩, n, fun q => by omega, fun q => by omega, fun q => by omega, fun q => by omega, fun q => by omega, ?_, ?_, ?_, fun c hc => ⟨fun q => ⟨(r2 c).1, by rw [(r2 c).2]; exact Int.le_refl _⟩, fun q => by rw [(r2 c).1]; exact q, fun q z => absurd rfl z⟩⟩
  · show pc (w * h) (f3_loosenAll τ π).2 ≤ _
    omega
  · show _ ≤ pc (w * h) (f3_loosenAll τ π).2
    omega
  · show _ ≤ ((f3_loosenAll τ π).2.1 1).toInt
    rw [r1]
    exact Int.le_refl _
theorem act6n (hD : Gd w h B τ ρ π) : Gd w h (B + 300) τ ρ π ∧ Ck w h ρ 6 0 π π := ⟨⟨hD.1, hD.2.1, hD.2.2.1, hD.2.2.2.up (by omega)⟩, Ck.ofRl (Rl.rf _ _) (by omega) (by omega) (fun q => by omega) (fun q => by omega) (fun q => by omega) (by omega)⟩
/-- a programme of one step -/
theorem prog_in : ∀ k, k < 5 → ¬ f7_isProgramme (nI (1 + k)) = 0 := by
  intro k hk
  have e : ∀ k, k < 5 → f7_isWithin (nI (1 + k)) 0 215 ≠ 0 := by decide
  have d1 : ∀ k, k < 5 → (nI (1 + k) / 36) - (nI (1 + k) / 36) / 6 * 6 ≤ 0 := by decide
  have d2 : ∀ k, k < 5 → (nI (1 + k) / (36 / 6)) - (nI (1 + k) / (36 / 6)) / 6 * 6 ≤ 0 := by decide
  have d3 : ∀ k, k < 5 → ¬ (nI (1 + k) / (36 / 6 / 6)) - (nI (1 + k) / (36 / 6 / 6)) / 6 * 6 ≤ 0 := by decide
  unfold f7_isProgramme
  rw [if_neg (e k hk), f7_isProgramme_L18_s, if_neg (by decide), if_pos (d1 k hk), if_pos rfl, f7_isProgramme_L18_s, if_neg (by decide), if_pos (d2 k hk), if_pos rfl, f7_isProgramme_L18_s, if_neg (by decide), if_neg (d3 k hk), if_pos rfl, f7_isProgramme_L18_s, if_pos (by decide)]
  decide
theorem furn_L18 (γ : Sg) : ∀ k, k < 5 → (f7_furnace_L18 τ ρ γ (nI (1 + k)) 8589934592 π 36).2 = f3_doStep τ ρ π (nI k) := by
  intro k hk
  have d1 : ∀ k, k < 5 → (nI (1 + k) / 36) - (nI (1 + k) / 36) / 6 * 6 - 1 = -1 := by decide
  have d2 : ∀ k, k < 5 → (nI (1 + k) / (36 / 6)) - (nI (1 + k) / (36 / 6)) / 6 * 6 - 1 = -1 := by decide
  have d3 : ∀ k, k < 5 → (nI (1 + k) / (36 / 6 / 6)) - (nI (1 + k) / (36 / 6 / 6)) / 6 * 6 - 1 = nI k := by decide
  have no : ∀ π, f3_doStep τ ρ π (-1) = π := fun π => by
    unfold f3_doStep
    rw [if_neg (by decide), if_neg (by decide), if_neg (by decide), if_neg (by decide), if_neg (by decide)]
  rw [f7_furnace_L18_s, if_neg (by decide), d1 k hk, no, f7_furnace_L18_s, if_neg (by decide), d2 k hk, no, f7_furnace_L18_s, if_neg (by decide), d3 k hk, f7_furnace_L18_s, if_pos (by decide)]
theorem doStep_at (hD : Gd w h B τ ρ π) (hB : B < 600000) : ∀ k, k < 5 → GP (w * h) (B + 300) (f3_doStep τ ρ π (nI k)) ∧ ∃ j : Int, (0 ≤ j ∧ j ≤ 1) ∧ Rl (w * h) j π (f3_doStep τ ρ π (nI k)) := by
  intro k hk
  have s0 := sweepOften_at hD.1 hD.2.2.1 (by omega) hD.2.2.2 (a1 := 2) (by rw [i2]; omega) (s0 := 2) (by omega)
  have s1 := sweepOften_at hD.1 hD.2.2.1 (by omega) hD.2.2.2 (a1 := 6) (by rw [i6]; omega) (s0 := 2) (by omega)
  have s2 := sweepOften_at hD.1 hD.2.2.1 (by omega) hD.2.2.2 (a1 := 9) (by rw [i9]; omega) (s0 := 1) (by omega)
  have h2 : hot 2 = 0 := by unfold hot; rw [if_pos (by decide)]
  have h6 : hot 6 = 0 := by unfold hot; rw [if_pos (by decide)]
  have h9 : hot 9 = 1 := by unfold hot; rw [if_neg (by decide)]
  unfold f3_doStep
  rcases (show k = 0 ∨ k = 1 ∨ k = 2 ∨ k = 3 ∨ k = 4 by omega) with rfl | rfl | rfl | rfl | rfl
  · rw [if_pos (by decide)]
    exact ⟨s0.2.1.up (by omega), _, by rw [h2]; simp, s0.2.2.1⟩
  · rw [if_neg (by decide), if_pos (by decide)]
    exact ⟨s1.2.1.up (by omega), _, by rw [h6]; simp, s1.2.2.1⟩
  · rw [if_neg (by decide), if_neg (by decide), if_pos (by decide)]
    exact ⟨s2.2.1.up (by omega), _, by rw [h9]; simp, s2.2.2.1⟩
  · rw [if_neg (by decide), if_neg (by decide), if_neg (by decide), if_pos (by decide)]
    obtain ⟨a, b, _⟩ := rollOnce_at hD.1 hD.2.2.2
    exact ⟨a.up (by omega), 0, by omega, b⟩
  · rw [if_neg (by decide), if_neg (by decide), if_neg (by decide), if_neg (by decide), if_pos (by decide)]
    obtain ⟨a, b, _⟩ := bear_at hD.1 (by omega) hD.2.2.2 6
    exact ⟨a.up (by omega), 0, by omega, b⟩
/-- what a furnace does and tells, whatever the notes are -/
def fuR (τ ρ π : Sg) (k : Nat) : Int32 := f2_sizeByArea τ (f3_doStep τ ρ π (nI k)) (f6_look τ ρ (f3_doStep τ ρ π (nI k)) γz) 1
theorem act7 (hD : Gd w h B τ ρ π) (hB : B < 600000) {k : Nat} (hk : k < 5) : Gd w h (B + 300) τ ρ (f3_doStep τ ρ π (nI k)) ∧ Ck w h ρ 7 (fuR τ ρ π k).toInt π (f3_doStep τ ρ π (nI k)) := by
  obtain ⟨g, j, hj, r⟩ := doStep_at hD hB k hk
  have hD2 : Gd w h (B + 300) τ ρ (f3_doStep τ ρ π (nI k)) := ⟨hD.1, hD.2.1, hD.2.2.1, g⟩
  have h36 := hD.1.n36
  have pb := pc_bd (w * h) (f3_doStep τ ρ π (nI k))
  refine ⟨hD2, Ck.ofRl r hj ?_ (fun q => by omega) (fun q => by omega) (fun q => by omega) (by omega)⟩
  obtain ⟨m0, m1, hL⟩ := look_at hD2.1 hD2.2.2.1 hD2.2.2.2 γz
  have hm := hL.m0
  have hm1 := hL.2.2
  unfold fuR
  rw [sizeByArea_at hD2.1 (b := 1) hL.2.1.1.1 (by omega)]
  split
  · omega
  · exact Int.ediv_nonneg (by omega) (by omega)
theorem furnace_v (hD : Gd w h B τ ρ π) (hB : B < 600000) (γ : Sg) {k : Nat} (hk : k < 5) : (f7_furnace τ ρ π γ (nI (1 + k))).1 = fuR τ ρ π k ∧ (f7_furnace τ ρ π γ (nI (1 + k))).2.1 = f3_doStep τ ρ π (nI k) := by
  obtain ⟨g, _⟩ := doStep_at hD hB k hk
  unfold f7_furnace
  rw [if_neg (prog_in k hk)]
  dsimp only
  rw [furn_L18 γ k hk]
  exact ⟨A3.area1 (look_A hD.1 g γ γz), rfl⟩
end

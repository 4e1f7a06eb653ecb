/-! SETUP: what the law tells a new object -/
theorem mfz_nat (ρ : Sg) (a b : Nat) : mfz ρ (a : Int) (b : Int) = (ρ.2 0 (a * 10 + b)).toInt := by
  unfold mfz
  have e : ((a : Int) * 10 + (b : Int)).toNat = a * 10 + b := by omega
  rw [e]
set_option maxRecDepth 100000 in
theorem init_mf : ∀ a, a < 10 → ∀ b, b < 10 → (f4_init.2 0 (a * 10 + b)).toInt = if a = b ∨ a = 0 ∨ b = 0 then 0 else 1 := by decide +kernel
set_option maxRecDepth 100000 in
theorem init_tm : ∀ d, d < 10 → (f4_init.2 1 d).toInt = 50 := by decide +kernel
set_option maxRecDepth 100000 in
theorem init_et : (f4_init.1 0).toInt = 1 := by decide +kernel
theorem GR_init : GR f4_init := by
  refine ⟨fun a b h1 h2 h3 h4 => ?_, by rw [init_et]; omega, fun d hd => by rw [init_tm d hd]; omega⟩
  obtain ⟨x, rfl⟩ : ∃ x : Nat, a = (x : Int) := ⟨a.toNat, by omega⟩
  obtain ⟨y, rfl⟩ : ∃ y : Nat, b = (y : Int) := ⟨b.toNat, by omega⟩
  have e1 := init_mf x (by omega) y (by omega)
  have e2 := init_mf y (by omega) x (by omega)
  rw [mfz_nat, mfz_nat, e1, e2]
  by_cases c : x = y ∨ x = 0 ∨ y = 0
  · rw [if_pos c, if_pos (by omega)]
    refine ⟨by omega, rfl, fun _ => rfl, fun _ => rfl, fun q q1 q2 => by omega⟩
  · rw [if_neg c, if_neg (by omega)]
    refine ⟨by omega, rfl, fun q => by omega, fun q => by omega, fun _ _ _ => by omega⟩
theorem GR_misfit {ρ : Sg} (hR : GR ρ) {a b : Nat} {v : Int32} (ha : 1 ≤ a ∧ a ≤ 9) (hb : 1 ≤ b ∧ b ≤ 9) (hab : a ≠ b) (hv : 1 ≤ v.toInt ∧ v.toInt ≤ 9) : GR (f4_putMisfit ρ (nI a) (nI b) v) := by
  have e : f4_putMisfit ρ (nI a) (nI b) v = sa (sa ρ 0 (a * 10 + b) v) 0 (b * 10 + a) v := by
    unfold f4_putMisfit
    rw [if_neg (nI_pos (by omega)), if_neg (by rw [z_lt, i9, nI_int (by omega)]; omega), if_neg (nI_pos (by omega)), if_pos (by rw [z_le, i9, nI_int (by omega)]; omega), show (10 : Int32) = nI 10 from rfl, nIm, nIm, nIa, nIa, nI_cl (by omega), nI_cl (by omega)]
  rw [e]
  have em : ∀ x y : Nat, x ≤ 9 → y ≤ 9 → mfz (sa (sa ρ 0 (a * 10 + b) v) 0 (b * 10 + a) v) (x : Int) (y : Int) = if (x = a ∧ y = b) ∨ (x = b ∧ y = a) then v.toInt else mfz ρ (x : Int) (y : Int) := fun x y hx hy => by
    rw [mfz_nat, mfz_nat, sa_same, sa_same]
    by_cases c1 : x * 10 + y = b * 10 + a
    · rw [if_pos c1, if_pos (by omega)]
    · rw [if_neg c1]
      by_cases c2 : x * 10 + y = a * 10 + b
      · rw [if_pos c2, if_pos (by omega)]
      · rw [if_neg c2, if_neg (by omega)]
  refine ⟨fun x' y' h1 h2 h3 h4 => ?_, hR.2.1, fun d hd => hR.2.2 d hd⟩
  obtain ⟨x, rfl⟩ : ∃ x : Nat, x' = (x : Int) := ⟨x'.toNat, by omega⟩
  obtain ⟨y, rfl⟩ : ∃ y : Nat, y' = (y : Int) := ⟨y'.toNat, by omega⟩
  obtain ⟨q1, q2, q3, q4, q5⟩ := hR.1 x y h1 h2 h3 h4
  rw [em x y (by omega) (by omega), em y x (by omega) (by omega)]
  by_cases c : (x = a ∧ y = b) ∨ (x = b ∧ y = a)
  · rw [if_pos c, if_pos (by omega)]
    exact ⟨by omega, rfl, fun q => by omega, fun q => by omega, fun _ _ _ => by omega⟩
  · rw [if_neg c, if_neg (by omega)]
    exact ⟨q1, q2, q3, q4, q5⟩
theorem GR_etch {ρ : Sg} (hR : GR ρ) {v : Int32} (hv : 1 ≤ v.toInt ∧ v.toInt ≤ 9) : GR (f4_putEtch ρ v) := ⟨hR.1, hv, hR.2.2⟩
theorem GR_time {ρ : Sg} (hR : GR ρ) {d : Nat} (hd : d ≤ 9) {v : Int32} (hv : 1 ≤ v.toInt ∧ v.toInt ≤ 99) : GR (f4_putTime ρ (nI d) v) := by
  have e : f4_putTime ρ (nI d) v = sa ρ 1 d v := by
    unfold f4_putTime
    rw [if_neg (nI_pos (by omega)), if_neg (by rw [show (10 : Int32) = nI 10 from rfl, nIle (by omega) (by omega)]; omega), nI_cl (by omega)]
  rw [e]
  refine ⟨hR.1, hR.2.1, fun k hk => ?_⟩
  rw [sa_same]
  split
  · exact hv
  · exact hR.2.2 k hk
section
variable {τ ρ π : Sg} {w h : Nat} {B : Int}
theorem marks_in {a b : Nat} (ha : 1 ≤ a ∧ a ≤ 9) (hb : 1 ≤ b ∧ b ≤ 9) (hab : a ≠ b) : ¬ f7_areTwoMarks (nI a) (nI b) = 0 := by
  unfold f7_areTwoMarks
  rw [if_neg (within_l _ 1 9 (by rw [i1]; omega) (by rw [i9]; omega) (by omega)), if_neg (within_l _ 1 9 (by rw [i1]; omega) (by rw [i9]; omega) (by omega)), if_neg (fun q => hab (nI_inj (by omega) (by omega) q))]
  decide
theorem set_misfit (hD : Gd w h B τ ρ π) {a b v : Nat} (ha : 1 ≤ a ∧ a ≤ 9) (hb : 1 ≤ b ∧ b ≤ 9) (hab : a ≠ b) (hv : 1 ≤ v ∧ v ≤ 9) : Gd w h B τ (f7_misfit ρ (nI a) (nI b) (nI v)).2 π := by
  have e : f7_misfit ρ (nI a) (nI b) (nI v) = (f4_misfitOf ρ (nI a) (nI b), f4_putMisfit ρ (nI a) (nI b) (nI v)) := by
    unfold f7_misfit
    rw [if_neg (marks_in ha hb hab), if_neg (within_l _ 1 9 (by rw [i1]; omega) (by rw [i9]; omega) (by omega))]
  rw [e]
  exact ⟨hD.1, hD.2.1, GR_misfit hD.2.2.1 ha hb hab (by rw [nI_int (by omega)]; omega), hD.2.2.2⟩
theorem set_etch (hD : Gd w h B τ ρ π) (γ : Sg) {v : Nat} (hv : 1 ≤ v ∧ v ≤ 9) : Gd w h B τ (f4_putEtch ρ (nI v)) π ∧ (f7_etch τ ρ π γ (nI v)).2.1 = f4_putEtch ρ (nI v) := by
  refine ⟨⟨hD.1, hD.2.1, GR_etch hD.2.2.1 (by rw [nI_int (by omega)]; omega), hD.2.2.2⟩, ?_⟩
  unfold f7_etch
  rw [if_neg (within_l _ 1 9 (by rw [i1]; omega) (by rw [i9]; omega) (by omega))]
theorem set_curve (hD : Gd w h B τ ρ π) {d v : Nat} (hd : d ≤ 9) (hv : 1 ≤ v ∧ v ≤ 99) : Gd w h B τ (f7_curve ρ (nI d) (nI v)).2 π := by
  have e : f7_curve ρ (nI d) (nI v) = (f4_timeAt ρ (nI d), f4_putTime ρ (nI d) (nI v)) := by
    unfold f7_curve
    rw [if_neg (heat_in hd), if_neg (within_l _ 1 99 (by rw [i1]; omega) (by rw [i99]; omega) (by omega))]
  rw [e]
  exact ⟨hD.1, hD.2.1, GR_time hD.2.2.1 hd (by rw [nI_int (by omega)]; omega), hD.2.2.2⟩
theorem set_work (hD : Gd w h B τ ρ π) {c v : Nat} (hc : c < w * h) (hm : mk π c ≠ 0) (hv : v ≤ 20) : Gd w h B τ ρ (f7_work τ π (nI c) (nI v)).2 := by
  have h36 := hD.1.n36
  have e0 : ¬ f3_markAt π (nI c) = 0 := by
    rw [markAt_at π (by omega)]
    exact fun q => hm ((congrArg Int32.toInt q).trans i0)
  have e : f7_work τ π (nI c) (nI v) = (f3_workAt π (nI c), sa π 1 c (nI v)) := by
    unfold f7_work
    rw [if_neg (holds_ne hD.1 hc), if_neg (within_l _ 0 20 (by rw [i0]; omega) (by rw [i20]; omega) (by omega)), if_neg e0, putWork_at _ (by omega)]
  rw [e]
  exact ⟨hD.1, hD.2.1, hD.2.2.1, GP_work hD.2.2.2 (by rw [nI_int (by omega)]; omega) (by rw [nI_int (by omega)]; omega) (fun _ q => absurd q hm)⟩
theorem set_pin (hD : Gd w h B τ ρ π) {c : Nat} (hc : c < w * h) (hm : mk π c ≠ 0) : Gd w h B τ ρ (f7_pin τ π (nI c)).2 := by
  have h36 := hD.1.n36
  have e0 : ¬ f3_markAt π (nI c) = 0 := by
    rw [markAt_at π (by omega)]
    exact fun q => hm ((congrArg Int32.toInt q).trans i0)
  have e : (f7_pin τ π (nI c)).2 = sa (sa (sa π 0 c 0) 1 c 0) 2 c 0 := by
    unfold f7_pin
    rw [if_neg (holds_ne hD.1 hc), if_neg e0, putMark_at _ (by omega), putWork_at _ (by omega), putHard_at _ (by omega)]
  rw [e]
  refine ⟨hD.1, hD.2.1, hD.2.2.1, fun j hj => ?_, fun j hj => ?_, hD.2.2.2.2.2⟩
  · rw [mk_sa2, mk_sa1, mk_sa0]
    have := hD.2.2.2.1 j hj
    split
    · rw [i0]; omega
    · exact this
  · rw [mk_sa2, mk_sa1, mk_sa0, wk_sa2, wk_sa1, wk_sa0, hk_sa2, hk_sa1, hk_sa0]
    have := hD.2.2.2.2.1 j hj
    by_cases q : j = c
    · rw [if_pos q, if_pos q, if_pos q, i0]
      omega
    · rw [if_neg q, if_neg q, if_neg q]
      exact this
theorem set_cool (hD : Gd w h B τ ρ π) {t : Nat} (ht : 1 ≤ t ∧ t ≤ 50) : Gd w h B τ ρ (f7_cool τ ρ π 9 7 (nI t)).2 := by
  obtain ⟨g, r, n⟩ := coolDown_at hD.1 hD.2.2.1 hD.2.2.2 (x1 := 9) (x2 := 7) ht.2 (by decide) (by decide)
  have e : f7_cool τ ρ π 9 7 (nI t) = ((f3_coolDown τ ρ π 9 7 (nI t)).1, (f3_coolDown τ ρ π 9 7 (nI t)).2) := by
    unfold f7_cool
    rw [if_neg (by decide), if_neg (within_l _ 1 50 (by rw [i1]; omega) (by rw [i50]; omega) (by omega))]
  rw [e]
  exact ⟨hD.1, hD.2.1, hD.2.2.1, g⟩
end
/-- the state of a new object -/
def τ00 : Sg := (fun _ => 0, fun _ _ => 0)
def π00 : Sg := (fun k => if k = 0 then 7 else 0, fun _ _ => 0)
theorem seed_in {v : Nat} (hv : v ≤ 999) : ¬ f7_isWithin (nI v) 0 999 = 0 := within_l _ 0 999 (by rw [i0]; omega) (by rw [i999]; omega) (by omega)
theorem GP_seed {v : Nat} (hv : v ≤ 999) : GP 0 0 (f7_seed π00 (nI v)).2 := by
  have e : (f7_seed π00 (nI v)).2 = si π00 0 (nI v) := by
    unfold f7_seed
    rw [if_neg (seed_in hv)]
    rfl
  rw [e]
  refine ⟨fun c _ => ?_, fun c hc => absurd hc (Nat.not_lt_zero _), ?_, ?_⟩
  · show 0 ≤ (0 : Int32).toInt ∧ (0 : Int32).toInt ≤ 9
    rw [i0]; omega
  · show 0 ≤ (nI v).toInt ∧ (nI v).toInt < 8191
    rw [nI_int (by omega)]; omega
  · show 0 ≤ (0 : Int32).toInt ∧ (0 : Int32).toInt ≤ 0
    rw [i0]; omega
theorem lattice_at {π : Sg} (hG : GP 0 0 π) {ρ : Sg} (hR : GR ρ) (γ : Sg) {w h m : Nat} (hw : 2 ≤ w ∧ w ≤ 6) (hh : 2 ≤ h ∧ h ≤ 6) (hm : 1 ≤ m ∧ m ≤ 9) : Gd w h 36 (f7_lattice τ00 ρ π γ (nI w) (nI h) (nI m)).2.1 ρ (f7_lattice τ00 ρ π γ (nI w) (nI h) (nI m)).2.2.1 := by
  have hS : Shp (f5_layOut τ00 (nI w) (nI h)) w h := layOut_Shp hw hh
  have w1 : ¬ f7_isWithin (nI w) 2 8 = 0 := within_l _ 2 8 (by rw [i2]; omega) (by rw [i8]; omega) (by omega)
  have w2 : ¬ f7_isWithin (nI h) 2 8 = 0 := within_l _ 2 8 (by rw [i2]; omega) (by rw [i8]; omega) (by omega)
  have w3 : ¬ f7_isWithin (nI m) 1 9 = 0 := within_l _ 1 9 (by rw [i1]; omega) (by rw [i9]; omega) (by omega)
  unfold f7_lattice
  rw [if_neg w1, if_neg w2, if_neg w3]
  exact ⟨hS, Ok_layOut (within_mul w1 w2), hR, (castAnew_at hS (by omega) hG hm).up (by omega)⟩

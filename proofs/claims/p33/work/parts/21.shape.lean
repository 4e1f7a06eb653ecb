/-! THE SHAPE: what layOut lays; pairs of neighbours and pairs of lines -/
theorem nIa (a b : Nat) : nI a + nI b = nI (a + b) := (Int32.ofNat_add a b).symm
theorem nIm (a b : Nat) : nI a * nI b = nI (a * b) := (Int32.ofNat_mul a b).symm
theorem nIs {a b : Nat} (h : b ≤ a) : nI a - nI b = nI (a - b) := (Int32.ofNat_sub a b h).symm
theorem nI_one : (1 : Int32) = nI 1 := rfl
theorem nI_four : (4 : Int32) = nI 4 := rfl
theorem nIle {a b : Nat} (ha : a < 2147483648) (hb : b < 2147483648) : nI a ≤ nI b ↔ a ≤ b := by
  rw [z_le, nI_int ha, nI_int hb]
  omega
theorem nIlt {a b : Nat} (ha : a < 2147483648) (hb : b < 2147483648) : nI a < nI b ↔ a < b := by
  rw [z_lt, nI_int ha, nI_int hb]
  omega
/-- sums over rows -/
def Lm {α : Type} (f : α → Int) (l : List α) : Int := l.foldr (fun p a => f p + a) 0
theorem Lm_nil {α : Type} (f : α → Int) : Lm f [] = 0 := rfl
theorem Lm_cons {α : Type} (f : α → Int) (a : α) (l : List α) : Lm f (a :: l) = f a + Lm f l := rfl
theorem Lm_append {α : Type} (f : α → Int) : ∀ (l m : List α), Lm f (l ++ m) = Lm f l + Lm f m
  | [], m => by rw [List.nil_append, Lm_nil]; omega
  | a :: l, m => by rw [List.cons_append, Lm_cons, Lm_cons, Lm_append f l m]; omega
theorem Lm_perm {α : Type} (f : α → Int) {l m : List α} (h : l.Perm m) : Lm f l = Lm f m := by
  induction h with
  | nil => rfl
  | cons a _ ih => rw [Lm_cons, Lm_cons, ih]
  | swap a b l => simp only [Lm_cons]; omega
  | trans _ _ h1 h2 => rw [h1, h2]
theorem Lm_map {α β : Type} (f : β → Int) (g : α → β) : ∀ l : List α, Lm f (l.map g) = Lm (fun a => f (g a)) l
  | [] => rfl
  | a :: l => by rw [List.map_cons, Lm_cons, Lm_cons, Lm_map f g l]
theorem Lm_congr {α : Type} {f g : α → Int} : ∀ {l : List α}, (∀ a ∈ l, f a = g a) → Lm f l = Lm g l
  | [], _ => rfl
  | a :: l, h => by rw [Lm_cons, Lm_cons, h a List.mem_cons_self, Lm_congr (fun b hb => h b (List.mem_cons_of_mem _ hb))]
theorem Lm_add {α : Type} (f g : α → Int) : ∀ l : List α, Lm (fun a => f a + g a) l = Lm f l + Lm g l
  | [] => rfl
  | a :: l => by rw [Lm_cons, Lm_cons, Lm_cons, Lm_add f g l]; omega
theorem Lm_sub {α : Type} (f g : α → Int) : ∀ l : List α, Lm (fun a => f a - g a) l = Lm f l - Lm g l
  | [] => rfl
  | a :: l => by rw [Lm_cons, Lm_cons, Lm_cons, Lm_sub f g l]; omega
theorem Lm_range (f : Nat → Int) : ∀ n, Lm f (List.range n) = SI f n
  | 0 => rfl
  | n + 1 => by rw [List.range_succ, Lm_append, Lm_range f n, Lm_cons, Lm_nil, SI_s]; omega
theorem Lm_flat {α : Type} (f : α → Int) (G : Nat → List α) : ∀ n, Lm f ((List.range n).flatMap G) = SI (fun c => Lm f (G c)) n
  | 0 => rfl
  | n + 1 => by
    rw [List.range_succ, List.flatMap_append, Lm_append, Lm_flat f G n, SI_s]
    simp
theorem Lm_getD (f : Nat → Int) : ∀ l : List Nat, SI (fun k => f (l.getD k 0)) l.length = Lm f l
  | [] => rfl
  | a :: l => by
    rw [List.length_cons, SI_shift, Lm_cons, ← Lm_getD f l]
    rfl
/-- the neighbours of a cell -/
def nbL (w h c : Nat) : List Nat := (if 0 < c / w then [c - w] else []) ++ ((if c % w + 1 < w then [c + 1] else []) ++ ((if c / w + 1 < h then [c + w] else []) ++ (if 0 < c % w then [c - 1] else [])))
def Row (τ : Sg) (c : Nat) (l : List Nat) : Prop := τ.2 1 c = nI l.length ∧ ∀ k, k < l.length → τ.2 0 (4 * c + k) = nI (l.getD k 0)
theorem addBeside_at {τ : Sg} {n c o : Nat} {l : List Nat} (hn : τ.1 2 = nI n) (h64 : n ≤ 64) (hc : c < n) (ho : o < n) (hR : Row τ c l) (hl : l.length < 4) : f5_addBeside τ (nI c) (nI o) = sa (sa τ 0 (4 * c + l.length) (nI o)) 1 c (nI (l.length + 1)) := by
  have hh : ∀ x, x < n → ¬ f5_holds τ (nI x) = 0 := fun x hx => by
    unfold f5_holds
    rw [hn, if_neg (nI_pos (by omega)), if_neg (by rw [nIle (by omega) (by omega)]; omega)]
    decide
  unfold f5_addBeside
  rw [if_neg (hh c hc), if_neg (hh o ho), nI_cl (by omega), hR.1, if_pos (by rw [nI_four, nIlt (by omega) (by omega)]; omega), nI_four, nIm, nIa, nI_cl (by omega)]
  have e : (sa τ 0 (c * 4 + l.length) (nI o)).2 1 c = nI l.length := hR.1
  rw [e, nI_one, nIa, Nat.mul_comm c 4]
/-- one more neighbour: its own row grows, all others stay -/
theorem addBeside_row {τ : Sg} {n c o : Nat} {l : List Nat} (hn : τ.1 2 = nI n) (h64 : n ≤ 64) (hc : c < n) (ho : o < n) (hR : Row τ c l) (hl : l.length < 4) : Row (f5_addBeside τ (nI c) (nI o)) c (l ++ [o]) ∧ ∀ (c' : Nat) (l' : List Nat), c' ≠ c → l'.length ≤ 4 → Row τ c' l' → Row (f5_addBeside τ (nI c) (nI o)) c' l' := by
  rw [addBeside_at hn h64 hc ho hR hl]
  refine ⟨⟨?_, fun k hk => ?_⟩, fun c' l' hne hl' hR' => ⟨?_, fun k hk => ?_⟩⟩
  · show (if c = c then nI (l.length + 1) else _) = _
    rw [if_pos rfl, List.length_append]
    rfl
  · rw [List.length_append] at hk
    show (if 4 * c + k = 4 * c + l.length then nI o else τ.2 0 (4 * c + k)) = _
    by_cases e : k = l.length
    · subst e
      rw [if_pos rfl]
      simp
    · have hk2 : k < l.length := by
        have : ([o] : List Nat).length = 1 := rfl
        omega
      rw [if_neg (by omega), hR.2 k hk2]
      simp [List.getD_eq_getElem?_getD, List.getElem?_append_left hk2]
  · show (if c' = c then nI (l.length + 1) else τ.2 1 c') = _
    rw [if_neg hne]
    exact hR'.1
  · show (if 4 * c' + k = 4 * c + l.length then nI o else τ.2 0 (4 * c' + k)) = _
    rw [if_neg (by omega)]
    exact hR'.2 k hk
def lc1 (τ : Sg) (a1 a2 : Int32) : Sg := if a1 ≤ 0 then τ else f5_addBeside τ ((a1 * (τ.1 0)) + a2) (((a1 * (τ.1 0)) + a2) - (τ.1 0))
def lc2 (τ σ : Sg) (a1 a2 : Int32) : Sg := if (τ.1 0) - 1 ≤ a2 then σ else f5_addBeside σ ((a1 * (τ.1 0)) + a2) (((a1 * (τ.1 0)) + a2) + 1)
def lc3 (τ σ : Sg) (a1 a2 : Int32) : Sg := if (τ.1 1) - 1 ≤ a1 then σ else f5_addBeside σ ((a1 * (τ.1 0)) + a2) (((a1 * (τ.1 0)) + a2) + (τ.1 0))
def lc4 (τ σ : Sg) (a1 a2 : Int32) : Sg := if a2 ≤ 0 then σ else f5_addBeside σ ((a1 * (τ.1 0)) + a2) (((a1 * (τ.1 0)) + a2) - 1)
theorem layCell_eq (τ : Sg) (a1 a2 : Int32) : f5_layCell τ a1 a2 = lc4 τ (lc3 τ (lc2 τ (lc1 τ a1 a2) a1 a2) a1 a2) a1 a2 := by
  unfold f5_layCell lc1 lc2 lc3 lc4
  simp only [addBeside_1]
  by_cases h1 : a1 ≤ 0 <;> by_cases h2 : (τ.1 0) - 1 ≤ a2 <;> by_cases h3 : (τ.1 1) - 1 ≤ a1 <;> by_cases h4 : a2 ≤ 0 <;> simp only [h1, h2, h3, h4, if_true, if_false]
/-- what holds of the form when all cells below m are laid -/
def LI (τ : Sg) (w h m : Nat) : Prop := τ.1 0 = nI w ∧ τ.1 1 = nI h ∧ τ.1 2 = nI (w * h) ∧ (∀ c, c < m → Row τ c (nbL w h c)) ∧ ∀ c, m ≤ c → c < 64 → Row τ c []
theorem nbL_len (w h c : Nat) : (nbL w h c).length ≤ 4 := by
  unfold nbL
  simp only [List.length_append]
  have e : ∀ (p : Prop) [Decidable p] (x : Nat), (if p then [x] else []).length ≤ 1 := fun p _ x => by split <;> simp
  have e1 := e (0 < c / w) (c - w)
  have e2 := e (c % w + 1 < w) (c + 1)
  have e3 := e (c / w + 1 < h) (c + w)
  have e4 := e (0 < c % w) (c - 1)
  omega
/-- a step of layCell: one more neighbour under a condition -/
theorem lc_step {τ σ : Sg} {n c o : Nat} {l : List Nat} {p : Prop} [Decidable p] {A : Prop} [Decidable A] {x : Int32} (hA : A ↔ ¬ p) (hx : p → x = nI o ∧ o < n) (hn : σ.1 2 = nI n) (h64 : n ≤ 64) (hc : c < n) (hR : Row σ c l) (hl : l.length < 4) :
    (if A then σ else f5_addBeside σ (nI c) x).1 = σ.1 ∧ Row (if A then σ else f5_addBeside σ (nI c) x) c (l ++ (if p then [o] else [])) ∧ ∀ (c' : Nat) (l' : List Nat), c' ≠ c → l'.length ≤ 4 → Row σ c' l' → Row (if A then σ else f5_addBeside σ (nI c) x) c' l' := by
  by_cases h : p
  · obtain ⟨rfl, ho⟩ := hx h
    have r := addBeside_row hn h64 hc ho hR hl
    rw [if_neg (fun a => hA.mp a h), if_pos h]
    exact ⟨addBeside_1, r.1, r.2⟩
  · rw [if_pos (hA.mpr h), if_neg h, List.append_nil]
    exact ⟨rfl, hR, fun _ _ _ _ h => h⟩
theorem if_len (p : Prop) [Decidable p] (x : Nat) : (if p then [x] else []).length ≤ 1 := by split <;> simp
theorem layCell_LI {τ : Sg} {w h r j : Nat} (hw : 0 < w) (h64 : w * h ≤ 64) (hr : r < h) (hj : j < w) (hI : LI τ w h (r * w + j)) : LI (f5_layCell τ (nI r) (nI j)) w h (r * w + j + 1) := by
  obtain ⟨e0, e1, e2, hd, hf⟩ := hI
  have hw64 : w ≤ 64 := Nat.le_trans (Nat.le_mul_of_pos_right w (by omega)) h64
  have hh64 : h ≤ 64 := Nat.le_trans (Nat.le_mul_of_pos_left h hw) h64
  have hrw : r * w + w ≤ w * h := by
    have h1 : (r + 1) * w ≤ h * w := Nat.mul_le_mul_right w hr
    rw [Nat.add_mul, Nat.one_mul, Nat.mul_comm h w] at h1
    exact h1
  have hrw2 : r + 1 < h → r * w + w + w ≤ w * h := fun h2 => by
    have h1 : (r + 1 + 1) * w ≤ h * w := Nat.mul_le_mul_right w h2
    rw [Nat.add_mul, Nat.add_mul, Nat.one_mul, Nat.mul_comm h w] at h1
    exact h1
  have hrw3 : 0 < r → w ≤ r * w := fun h2 => Nat.le_mul_of_pos_left w h2
  generalize hcE : r * w + j = c at hd hf ⊢
  have hc : c < w * h := by omega
  have hdiv : c / w = r := by
    rw [← hcE, Nat.add_comm, Nat.add_mul_div_right _ _ hw, Nat.div_eq_of_lt hj, Nat.zero_add]
  have hmod : c % w = j := by
    rw [← hcE, Nat.add_comm, Nat.add_mul_mod_self_right, Nat.mod_eq_of_lt hj]
  have hcell : nI r * nI w + nI j = nI c := by rw [nIm, nIa, hcE]
  have hR0 : Row τ c [] := hf c (Nat.le_refl _) (by omega)
  rw [layCell_eq]
  unfold lc1 lc2 lc3 lc4
  rw [e0, e1, hcell]
  have z0 : (0 : Int32) = nI 0 := nI_0.symm
  have A1 : nI r ≤ 0 ↔ ¬ 0 < c / w := by rw [z0, nIle (by omega) (by omega), hdiv]; omega
  have A2 : nI w - 1 ≤ nI j ↔ ¬ c % w + 1 < w := by rw [nI_one, nIs hw, nIle (by omega) (by omega), hmod]; omega
  have A3 : nI h - 1 ≤ nI r ↔ ¬ c / w + 1 < h := by rw [nI_one, nIs (by omega), nIle (by omega) (by omega), hdiv]; omega
  have A4 : nI j ≤ 0 ↔ ¬ 0 < c % w := by rw [z0, nIle (by omega) (by omega), hmod]; omega
  obtain ⟨a1, a2, a3⟩ := lc_step (τ := τ) (σ := τ) (n := w * h) (c := c) (o := c - w) (l := []) (x := nI c - nI w) A1 (fun hp => ⟨nIs (by rw [hdiv] at hp; have := hrw3 hp; omega), by omega⟩) e2 h64 hc hR0 (by decide)
  generalize (if nI r ≤ 0 then τ else f5_addBeside τ (nI c) (nI c - nI w)) = σ1 at a1 a2 a3 ⊢
  have l1 := if_len (0 < c / w) (c - w)
  obtain ⟨b1, b2, b3⟩ := lc_step (τ := τ) (σ := σ1) (n := w * h) (c := c) (o := c + 1) (x := nI c + 1) A2 (fun hp => ⟨by rw [nI_one, nIa], by rw [hmod] at hp; omega⟩) (by rw [a1]; exact e2) h64 hc a2 (by rw [List.nil_append]; omega)
  generalize (if nI w - 1 ≤ nI j then σ1 else f5_addBeside σ1 (nI c) (nI c + 1)) = σ2 at b1 b2 b3 ⊢
  have l2 := if_len (c % w + 1 < w) (c + 1)
  obtain ⟨c1, c2, c3⟩ := lc_step (τ := τ) (σ := σ2) (n := w * h) (c := c) (o := c + w) (x := nI c + nI w) A3 (fun hp => ⟨by rw [nIa], by rw [hdiv] at hp; have := hrw2 hp; omega⟩) (by rw [b1, a1]; exact e2) h64 hc b2 (by rw [List.nil_append, List.length_append]; omega)
  generalize (if nI h - 1 ≤ nI r then σ2 else f5_addBeside σ2 (nI c) (nI c + nI w)) = σ3 at c1 c2 c3 ⊢
  have l3 := if_len (c / w + 1 < h) (c + w)
  obtain ⟨d1, d2, d3⟩ := lc_step (τ := τ) (σ := σ3) (n := w * h) (c := c) (o := c - 1) (x := nI c - 1) A4 (fun hp => ⟨by rw [nI_one, nIs (by rw [hmod] at hp; omega)], by omega⟩) (by rw [c1, b1, a1]; exact e2) h64 hc c2 (by rw [List.nil_append, List.length_append, List.length_append]; omega)
  generalize (if nI j ≤ 0 then σ3 else f5_addBeside σ3 (nI c) (nI c - 1)) = σ4 at d1 d2 d3 ⊢
  have eσ : σ4.1 = τ.1 := by rw [d1, c1, b1, a1]
  have hoth : ∀ (c' : Nat) (l' : List Nat), c' ≠ c → l'.length ≤ 4 → Row τ c' l' → Row σ4 c' l' := fun c' l' h1 h2 h3 => d3 c' l' h1 h2 (c3 c' l' h1 h2 (b3 c' l' h1 h2 (a3 c' l' h1 h2 h3)))
  refine ⟨by rw [eσ]; exact e0, by rw [eσ]; exact e1, by rw [eσ]; exact e2, fun c' hc' => ?_, fun c' h1 h2 => hoth c' [] (by omega) (by decide) (hf c' (by omega) h2)⟩
  by_cases e : c' = c
  · subst e
    unfold nbL
    simpa only [List.nil_append, List.append_assoc] using d2
  · exact hoth c' _ e (nbL_len w h c') (hd c' (by omega))
theorem lay49_LI {x1 x2 : Int32} {w h r : Nat} (hw : 0 < w) (h64 : w * h ≤ 64) (hr : r < h) (hw64 : w ≤ 64) : ∀ (d j : Nat) (f : Nat) (τ : Sg), j + d = w → d < f → LI τ w h (r * w + j) → LI (f5_layOut_L49 x1 x2 (nI r) f τ (nI j)).2 w h (r * w + w) := by
  intro d
  induction d with
  | zero =>
    intro j f τ hj hf hI
    obtain ⟨f, rfl⟩ : ∃ g, f = g + 1 := ⟨f - 1, by omega⟩
    have e : j = w := by omega
    subst e
    rw [f5_layOut_L49_s, if_pos (by rw [hI.1]; exact Int32.le_refl _)]
    exact hI
  | succ d ih =>
    intro j f τ hj hf hI
    obtain ⟨f, rfl⟩ : ∃ g, f = g + 1 := ⟨f - 1, by omega⟩
    rw [f5_layOut_L49_s, if_neg (by rw [hI.1]; exact nI_ge (by omega) (by omega)), ← nI_succ]
    exact ih (j + 1) f _ (by omega) (by omega) (layCell_LI hw h64 hr (by omega) hI)
theorem lay38_LI {x1 x2 : Int32} {w h : Nat} (hw : 0 < w) (h64 : w * h ≤ 64) (hw64 : w ≤ 64) (hh64 : h ≤ 64) : ∀ (d r : Nat) (f : Nat) (τ : Sg), r + d = h → d < f → LI τ w h (r * w) → LI (f5_layOut_L38 x1 x2 f τ (nI r)).2 w h (h * w) := by
  intro d
  induction d with
  | zero =>
    intro r f τ hj hf hI
    obtain ⟨f, rfl⟩ : ∃ g, f = g + 1 := ⟨f - 1, by omega⟩
    have e : r = h := by omega
    subst e
    rw [f5_layOut_L38_s, if_pos (by rw [hI.2.1]; exact Int32.le_refl _)]
    exact hI
  | succ d ih =>
    intro r f τ hj hf hI
    obtain ⟨f, rfl⟩ : ∃ g, f = g + 1 := ⟨f - 1, by omega⟩
    rw [f5_layOut_L38_s, if_neg (by rw [hI.2.1]; exact nI_ge (by omega) (by omega)), ← nI_succ]
    refine ih (r + 1) f _ (by omega) (by omega) ?_
    have := lay49_LI (x1 := x1) (x2 := x2) hw h64 (r := r) (by omega) hw64 w 0 8589934592 τ (by omega) (by omega) (by rw [Nat.add_zero]; exact hI)
    rw [nI_0] at this
    rw [Nat.add_mul, Nat.one_mul]
    exact this
/-- the shape as layOut leaves it -/
def Shp (τ : Sg) (w h : Nat) : Prop := τ.1 0 = nI w ∧ τ.1 1 = nI h ∧ τ.1 2 = nI (w * h) ∧ (2 ≤ w ∧ w ≤ 6) ∧ (2 ≤ h ∧ h ≤ 6) ∧ ∀ c, c < w * h → Row τ c (nbL w h c)
theorem wh_le {w h : Nat} (hw : w ≤ 6) (hh : h ≤ 6) : w * h ≤ 36 := Nat.mul_le_mul hw hh
theorem layOut_Shp {τ : Sg} {w h : Nat} (hw : 2 ≤ w ∧ w ≤ 6) (hh : 2 ≤ h ∧ h ≤ 6) : Shp (f5_layOut τ (nI w) (nI h)) w h := by
  have h36 := wh_le hw.2 hh.2
  have key : LI (f5_layOut τ (nI w) (nI h)) w h (h * w) := by
    unfold f5_layOut
    have e1 : (si (si τ 0 (nI w)) 1 (nI h)).1 0 = nI w := rfl
    have e2 : (si (si τ 0 (nI w)) 1 (nI h)).1 1 = nI h := rfl
    rw [e1, e2, nIm, if_neg (by rw [show (64 : Int32) = nI 64 from rfl, nIlt (by omega) (by omega)]; omega)]
    have st : LI (saf (si (si (si τ 0 (nI w)) 1 (nI h)) 2 (nI (w * h))) 1 (fillF ((si (si (si τ 0 (nI w)) 1 (nI h)) 2 (nI (w * h))).2 1) 64 0)) w h (0 * w) := by
      rw [Nat.zero_mul]
      refine ⟨rfl, rfl, rfl, fun c hc => by omega, fun c _ hc => ⟨?_, fun k hk => by cases hk⟩⟩
      show fillF _ 64 0 c = nI 0
      unfold fillF
      rw [if_pos hc, nI_0]
    have := lay38_LI (x1 := nI w) (x2 := nI h) (by omega) (by omega) (by omega) (by omega) h 0 8589934592 _ (by omega) (by omega) st
    rw [nI_0] at this
    exact this
  exact ⟨key.1, key.2.1, key.2.2.1, hw, hh, fun c hc => key.2.2.2.1 c (by rw [Nat.mul_comm]; exact hc)⟩
/-- pairs of neighbours, and pairs in lines -/
def PL (w h : Nat) : List (Nat × Nat) := (List.range (w * h)).flatMap (fun c => (nbL w h c).map (fun o => (c, o)))
def LL (w h : Nat) : List (Nat × Nat) := (List.range h).flatMap (fun r => (List.range (w - 1)).map (fun i => (r * w + i, r * w + (i + 1)))) ++ (List.range w).flatMap (fun j => (List.range (h - 1)).map (fun i => (i * w + j, (i + 1) * w + j)))
def swp (p : Nat × Nat) : Nat × Nat := (p.2, p.1)
set_option maxRecDepth 100000 in
theorem PL_perm0 : ∀ w, w < 7 → ∀ h, h < 7 → 2 ≤ w → 2 ≤ h → (PL w h).isPerm (LL w h ++ (LL w h).map swp) = true := by decide +kernel
theorem PL_perm {w h : Nat} (hw : 2 ≤ w ∧ w ≤ 6) (hh : 2 ≤ h ∧ h ≤ 6) : (PL w h).Perm (LL w h ++ (LL w h).map swp) := List.isPerm_iff.mp (PL_perm0 w (by omega) h (by omega) hw.1 hh.1)
set_option maxRecDepth 100000 in
theorem LL_ok0 : ∀ w, w < 7 → ∀ h, h < 7 → 2 ≤ w → 2 ≤ h → (LL w h).all (fun p => decide (p.1 < w * h) && decide (p.2 < w * h) && decide (p.1 ≠ p.2)) = true := by decide +kernel
theorem LL_ok {w h : Nat} (hw : 2 ≤ w ∧ w ≤ 6) (hh : 2 ≤ h ∧ h ≤ 6) {p : Nat × Nat} (hp : p ∈ LL w h) : p.1 < w * h ∧ p.2 < w * h ∧ p.1 ≠ p.2 := by
  have := List.all_eq_true.mp (LL_ok0 w (by omega) h (by omega) hw.1 hh.1) p hp
  simpa [and_assoc] using this
set_option maxRecDepth 100000 in
theorem nbL_ok0 : ∀ w, w < 7 → ∀ h, h < 7 → 2 ≤ w → 2 ≤ h → (List.range (w * h)).all (fun c => (nbL w h c).all (fun o => decide (o < w * h) && decide (o ≠ c)) && decide (0 < (nbL w h c).length)) = true := by decide +kernel
theorem nbL_ok {w h c : Nat} (hw : 2 ≤ w ∧ w ≤ 6) (hh : 2 ≤ h ∧ h ≤ 6) (hc : c < w * h) : (∀ o ∈ nbL w h c, o < w * h ∧ o ≠ c) ∧ 0 < (nbL w h c).length := by
  have h1 := List.all_eq_true.mp (nbL_ok0 w (by omega) h (by omega) hw.1 hh.1) c (List.mem_range.mpr hc)
  rw [Bool.and_eq_true] at h1
  refine ⟨fun o ho => ?_, of_decide_eq_true h1.2⟩
  have h2 := List.all_eq_true.mp h1.1 o ho
  rw [Bool.and_eq_true] at h2
  exact ⟨of_decide_eq_true h2.1, of_decide_eq_true h2.2⟩
theorem PL_sum (g : Nat → Nat → Int) (w h : Nat) : Lm (fun p => g p.1 p.2) (PL w h) = SI (fun c => Lm (fun o => g c o) (nbL w h c)) (w * h) := by
  unfold PL
  rw [Lm_flat]
  exact SI_congr (fun c _ => Lm_map _ _ _)
/-- a sum over all neighbours is one over the lines, both ways -/
theorem PL_LL (g : Nat → Nat → Int) {w h : Nat} (hw : 2 ≤ w ∧ w ≤ 6) (hh : 2 ≤ h ∧ h ≤ 6) : SI (fun c => Lm (fun o => g c o) (nbL w h c)) (w * h) = Lm (fun p => g p.1 p.2 + g p.2 p.1) (LL w h) := by
  rw [← PL_sum, Lm_perm _ (PL_perm hw hh), Lm_append, Lm_map, Lm_add]
  rfl
theorem LL_sum (g : Nat → Nat → Int) (w h : Nat) : Lm (fun p => g p.1 p.2) (LL w h) = SI (fun r => SI (fun i => g (r * w + i) (r * w + (i + 1))) (w - 1)) h + SI (fun j => SI (fun i => g (i * w + j) ((i + 1) * w + j)) (h - 1)) w := by
  unfold LL
  rw [Lm_append, Lm_flat, Lm_flat]
  congr 1
  · exact SI_congr (fun c _ => by rw [Lm_map, Lm_range])
  · exact SI_congr (fun c _ => by rw [Lm_map, Lm_range])

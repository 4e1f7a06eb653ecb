/-! NUMBERS: ints of 32 bits as ints; sums; loops as functions -/
theorem z_lt {x y : Int32} : x < y ↔ x.toInt < y.toInt := Int32.lt_iff_toInt_lt
theorem z_le {x y : Int32} : x ≤ y ↔ x.toInt ≤ y.toInt := Int32.le_iff_toInt_le
theorem z_eq {x y : Int32} : x = y ↔ x.toInt = y.toInt := Int32.toInt_inj.symm
theorem z_rng (x : Int32) : -2147483648 ≤ x.toInt ∧ x.toInt < 2147483648 := by
  have h1 := Int32.toInt_lt x
  have h2 := Int32.le_toInt x
  omega
theorem z_add {x y : Int32} (h1 : -2147483648 ≤ x.toInt + y.toInt) (h2 : x.toInt + y.toInt < 2147483648) : (x + y).toInt = x.toInt + y.toInt := by
  rw [Int32.toInt_add]
  exact Int.bmod_eq_of_le (by omega) (by omega)
theorem z_sub {x y : Int32} (h1 : -2147483648 ≤ x.toInt - y.toInt) (h2 : x.toInt - y.toInt < 2147483648) : (x - y).toInt = x.toInt - y.toInt := by
  rw [Int32.toInt_sub]
  exact Int.bmod_eq_of_le (by omega) (by omega)
theorem z_mul {x y : Int32} (h1 : -2147483648 ≤ x.toInt * y.toInt) (h2 : x.toInt * y.toInt < 2147483648) : (x * y).toInt = x.toInt * y.toInt := by
  rw [Int32.toInt_mul]
  exact Int.bmod_eq_of_le (by omega) (by omega)
theorem z_div {x y : Int32} (h1 : 0 ≤ x.toInt) (h2 : 0 < y.toInt) : (x / y).toInt = x.toInt / y.toInt := by
  have h3 := z_rng x
  have h4 : 0 ≤ x.toInt / y.toInt := Int.ediv_nonneg h1 (by omega)
  have h5 : x.toInt / y.toInt ≤ x.toInt := Int.ediv_le_self _ h1
  rw [Int32.toInt_div, Int.tdiv_eq_ediv_of_nonneg h1]
  exact Int.bmod_eq_of_le (by omega) (by omega)
theorem z_rem {x y : Int32} (h1 : 0 ≤ x.toInt) (h2 : 0 < y.toInt) : (x - x / y * y).toInt = x.toInt % y.toInt := by
  have h3 := z_rng x
  have hd := z_div h1 h2
  have e := Int.emod_def x.toInt y.toInt
  have r0 := Int.emod_nonneg x.toInt (b := y.toInt) (by omega)
  have r1 := Int.emod_lt_of_pos x.toInt h2
  have q0 : 0 ≤ x.toInt / y.toInt := Int.ediv_nonneg h1 (by omega)
  have p0 : 0 ≤ y.toInt * (x.toInt / y.toInt) := Int.mul_nonneg (by omega) q0
  have hm : (x / y * y).toInt = y.toInt * (x.toInt / y.toInt) := by
    have c := Int.mul_comm (x.toInt / y.toInt) y.toInt
    rw [z_mul (by rw [hd, c]; omega) (by rw [hd, c]; omega), hd, c]
  rw [z_sub (by rw [hm]; omega) (by rw [hm]; omega), hm]
  omega
theorem nI_int {n : Nat} (h : n < 2147483648) : (nI n).toInt = (n : Int) := nI_toInt (by omega)
theorem nI_inj {a b : Nat} (ha : a < 2147483648) (hb : b < 2147483648) (h : nI a = nI b) : a = b := by
  have e := congrArg Int32.toInt h
  rw [nI_int ha, nI_int hb] at e
  omega
theorem nI_cl {n : Nat} (h : n < 2147483648) : (nI n).toNatClampNeg = n := nI_clamp (by omega)
theorem z_nI {x : Int32} (h : 0 ≤ x.toInt) : nI x.toInt.toNat = x := by
  have h2 := (z_rng x).2
  refine z_eq.mpr ?_
  rw [nI_int (by omega)]
  omega
theorem i0 : (0 : Int32).toInt = 0 := by decide
theorem i1 : (1 : Int32).toInt = 1 := by decide
theorem i2 : (2 : Int32).toInt = 2 := by decide
theorem i3 : (3 : Int32).toInt = 3 := by decide
theorem i4 : (4 : Int32).toInt = 4 := by decide
theorem i6 : (6 : Int32).toInt = 6 := by decide
theorem i8 : (8 : Int32).toInt = 8 := by decide
theorem i9 : (9 : Int32).toInt = 9 := by decide
theorem i10 : (10 : Int32).toInt = 10 := by decide
theorem i17 : (17 : Int32).toInt = 17 := by decide
theorem i20 : (20 : Int32).toInt = 20 := by decide
theorem i23 : (23 : Int32).toInt = 23 := by decide
theorem i64 : (64 : Int32).toInt = 64 := by decide
theorem i100 : (100 : Int32).toInt = 100 := by decide
theorem i1000 : (1000 : Int32).toInt = 1000 := by decide
theorem i8191 : (8191 : Int32).toInt = 8191 := by decide
theorem im1 : (-1 : Int32).toInt = -1 := by decide
theorem im2 : (-2 : Int32).toInt = -2 := by decide
/-- sums -/
def SI (g : Nat → Int) : Nat → Int
  | 0 => 0
  | n + 1 => SI g n + g n
theorem SI_0 (g : Nat → Int) : SI g 0 = 0 := rfl
theorem SI_s (g : Nat → Int) (n : Nat) : SI g (n + 1) = SI g n + g n := rfl
theorem SI_congr {g g' : Nat → Int} : ∀ {n : Nat}, (∀ k, k < n → g k = g' k) → SI g n = SI g' n
  | 0, _ => rfl
  | n + 1, h => by rw [SI_s, SI_s, SI_congr (fun k hk => h k (by omega)), h n (by omega)]
theorem SI_shift (g : Nat → Int) : ∀ n, SI g (n + 1) = g 0 + SI (fun k => g (k + 1)) n
  | 0 => by rw [SI_s, SI_0, SI_0]; omega
  | n + 1 => by rw [SI_s, SI_shift g n, SI_s]; omega
theorem SI_add (g g' : Nat → Int) : ∀ n, SI (fun k => g k + g' k) n = SI g n + SI g' n
  | 0 => rfl
  | n + 1 => by rw [SI_s, SI_s, SI_s, SI_add g g' n]; omega
theorem SI_sub (g g' : Nat → Int) : ∀ n, SI (fun k => g k - g' k) n = SI g n - SI g' n
  | 0 => rfl
  | n + 1 => by rw [SI_s, SI_s, SI_s, SI_sub g g' n]; omega
theorem SI_mul (c : Int) (g : Nat → Int) : ∀ n, SI (fun k => c * g k) n = c * SI g n
  | 0 => by rw [SI_0, SI_0, Int.mul_zero]
  | n + 1 => by rw [SI_s, SI_s, SI_mul c g n, Int.mul_add]
theorem SI_le {g g' : Nat → Int} : ∀ {n : Nat}, (∀ k, k < n → g k ≤ g' k) → SI g n ≤ SI g' n
  | 0, _ => by rw [SI_0, SI_0]; omega
  | n + 1, h => by
    have h1 := SI_le (n := n) (fun k hk => h k (by omega))
    have h2 := h n (by omega)
    rw [SI_s, SI_s]
    omega
theorem SI_zero : ∀ n, SI (fun _ => 0) n = 0
  | 0 => rfl
  | n + 1 => by rw [SI_s, SI_zero n]; rfl
theorem SI_nonneg {g : Nat → Int} {n : Nat} (h : ∀ k, k < n → 0 ≤ g k) : 0 ≤ SI g n := by
  have h1 := SI_le (g := fun _ => 0) (g' := g) (n := n) h
  rw [SI_zero] at h1
  exact h1
theorem SI_const (c : Int) : ∀ n : Nat, SI (fun _ => c) n = (n : Int) * c
  | 0 => by rw [SI_0]; simp
  | n + 1 => by
    rw [SI_s, SI_const c n, Int.natCast_add, Int.add_mul]
    simp
theorem SI_bd {g : Nat → Int} {n : Nat} {B : Int} (h : ∀ k, k < n → 0 ≤ g k ∧ g k ≤ B) : 0 ≤ SI g n ∧ SI g n ≤ (n : Int) * B := by
  refine ⟨SI_nonneg (fun k hk => (h k hk).1), ?_⟩
  rw [← SI_const]
  exact SI_le (fun k hk => (h k hk).2)
theorem SI_swap (g : Nat → Nat → Int) (m : Nat) : ∀ n, SI (fun i => SI (fun j => g i j) m) n = SI (fun j => SI (fun i => g i j) n) m
  | 0 => by
    show (0 : Int) = SI (fun j => 0) m
    rw [SI_zero]
  | n + 1 => by
    rw [SI_s, SI_swap g m n, ← SI_add]
    rfl
theorem SI_single (c : Nat) (v : Int) : ∀ n, SI (fun k => if k = c then v else 0) n = if c < n then v else 0
  | 0 => by rw [SI_0, if_neg (by omega)]
  | n + 1 => by
    rw [SI_s, SI_single c v n]
    by_cases h : n = c
    · subst h
      rw [if_neg (by omega), if_pos rfl, if_pos (by omega)]
      omega
    · rw [if_neg h]
      by_cases h2 : c < n
      · rw [if_pos h2, if_pos (by omega)]; omega
      · rw [if_neg h2, if_neg (by omega)]; omega
theorem SI_split (g : Nat → Int) (a : Nat) : ∀ b, SI g (a + b) = SI g a + SI (fun k => g (a + k)) b
  | 0 => by rw [SI_0]; simp
  | b + 1 => by
    show SI g (a + b) + g (a + b) = SI g a + (SI (fun k => g (a + k)) b + g (a + b))
    rw [SI_split g a b]
    omega
/-- one term is another one -/
theorem SI_upd {g g' : Nat → Int} {c : Nat} : ∀ {n : Nat}, (∀ k, k < n → k ≠ c → g' k = g k) → c < n → SI g' n = SI g n + (g' c - g c)
  | 0, _, hc => by omega
  | n + 1, h, hc => by
    rw [SI_s, SI_s]
    by_cases e : n = c
    · subst e
      rw [SI_congr (g := g') (g' := g) (n := n) (fun k hk => h k (by omega) (by omega))]
      omega
    · rw [SI_upd (n := n) (fun k hk => h k (by omega)) (by omega), h n (by omega) e]
      omega
/-- counting -/
def CI (p : Nat → Bool) (n : Nat) : Int := SI (fun k => if p k = true then 1 else 0) n
theorem CI_bd (p : Nat → Bool) (n : Nat) : 0 ≤ CI p n ∧ CI p n ≤ (n : Int) := by
  have h := SI_bd (g := fun k => if p k = true then 1 else 0) (n := n) (B := 1) (fun k _ => by
    show (0 : Int) ≤ (if p k = true then 1 else 0) ∧ (if p k = true then 1 else 0) ≤ (1 : Int)
    split <;> omega)
  rw [Int.mul_one] at h
  exact h
theorem CI_congr {p q : Nat → Bool} {n : Nat} (h : ∀ k, k < n → p k = q k) : CI p n = CI q n := SI_congr (fun k hk => by rw [h k hk])
theorem CI_lt {p : Nat → Bool} {n c : Nat} (hc : c < n) (h : p c = false) : CI p n < (n : Int) := by
  have e : CI (fun k => if k = c then true else p k) n = CI p n + 1 := by
    unfold CI
    rw [SI_upd (g := fun k => if p k = true then 1 else 0) (c := c) (fun k _ hk => by simp [hk]) hc]
    simp [h]
  have b := (CI_bd (fun k => if k = c then true else p k) n).2
  omega
theorem CI_new {p q : Nat → Bool} {n c : Nat} (hc : c < n) (h : p c = false) (h1 : q c = true) (h2 : ∀ k, k < n → k ≠ c → q k = p k) : CI q n = CI p n + 1 := by
  unfold CI
  rw [SI_upd (g := fun k => if p k = true then 1 else 0) (c := c) (fun k hk e => by rw [h2 k hk e]) hc]
  simp [h, h1]
theorem CI_pos {p : Nat → Bool} {n c : Nat} (hc : c < n) (h : p c = true) : 1 ≤ CI p n := by
  have e := CI_new (p := fun k => if k = c then false else p k) (q := p) (n := n) hc (by simp) h (fun k _ hk => by simp [hk])
  have b := (CI_bd (fun k => if k = c then false else p k) n).1
  omega
theorem CI_le {p q : Nat → Bool} {n : Nat} (h : ∀ k, k < n → p k = true → q k = true) : CI p n ≤ CI q n := SI_le (fun k hk => by
  by_cases e : p k = true
  · rw [if_pos e, if_pos (h k hk e)]; omega
  · rw [if_neg e]; split <;> omega)
/-- loops that count up -/
def itr {S : Type} (st : S → Nat → S) : Nat → Nat → S → S
  | _, 0, s => s
  | k, d + 1, s => itr st (k + 1) d (st s k)
theorem itr_inv {S : Type} {st : S → Nat → S} (P : Nat → S → Prop) : ∀ (d k : Nat) (s : S), P k s → (∀ j s, k ≤ j → j < k + d → P j s → P (j + 1) (st s j)) → P (k + d) (itr st k d s)
  | 0, k, s, h, _ => h
  | d + 1, k, s, h, hs => by
    have := itr_inv P d (k + 1) (st s k) (hs k s (Nat.le_refl _) (by omega) h) (fun j s h1 h2 => hs j s (by omega) (by omega))
    rw [show k + (d + 1) = k + 1 + d by omega]
    exact this
theorem loop_it {S R : Type} {F : Nat → S → Int32 → R} {st : S → Int32 → S} {fin : S → Int32 → R} {n : Nat} {b : Int32} (hb : b = nI n) (hn : n < 65536) (hF : ∀ f s i, F (f + 1) s i = if b ≤ i then fin s i else F f (st s i) (i + 1)) : ∀ (d k : Nat), k + d = n → ∀ (f : Nat) (s : S), d < f → F f s (nI k) = fin (itr (fun s k => st s (nI k)) k d s) (nI n) := by
  intro d
  induction d with
  | zero =>
    intro k hk f s hf
    obtain ⟨f, rfl⟩ : ∃ g, f = g + 1 := ⟨f - 1, by omega⟩
    have e : k = n := by omega
    subst e
    rw [hF, hb, if_pos (Int32.le_refl _)]
    rfl
  | succ d ih =>
    intro k hk f s hf
    obtain ⟨f, rfl⟩ : ∃ g, f = g + 1 := ⟨f - 1, by omega⟩
    rw [hF, hb, if_neg (nI_ge (by omega) (by omega)), ← nI_succ]
    exact ih (k + 1) (by omega) f _ (by omega)
/-- a loop that counts up, by what holds ahead of each turn -/
theorem loop_inv {S R : Type} {F : Nat → S → Int32 → R} {st : S → Int32 → S} {fin : S → Int32 → R} {n : Nat} {b : Int32} (P : Nat → S → Prop) (Q : R → Prop) (hb : b = nI n) (hn : n < 65536) (hF : ∀ f s i, F (f + 1) s i = if b ≤ i then fin s i else F f (st s i) (i + 1)) {k f : Nat} {s : S} (hk : k ≤ n) (hf : n < f) (h0 : P k s) (hs : ∀ j s, k ≤ j → j < n → P j s → P (j + 1) (st s (nI j))) (hQ : ∀ s, P n s → Q (fin s (nI n))) : Q (F f s (nI k)) := by
  rw [loop_it hb hn hF (n - k) k (by omega) f s (by omega)]
  refine hQ _ ?_
  have := itr_inv (st := fun s k => st s (nI k)) P (n - k) k s h0 (fun j s h1 h2 => hs j s h1 (by omega))
  rw [show k + (n - k) = n by omega] at this
  exact this
/-- a loop that adds up -/
theorem loop_sum {F : Nat → Int32 → Int32 → Int32 × Int32} {gi : Int32 → Int32} {n : Nat} {b : Int32} (hb : b = nI n) (hn : n < 65536) (hF : ∀ f x i, F (f + 1) x i = if b ≤ i then (x, i) else F f (x + gi i) (i + 1)) {B : Int} (hB : 0 ≤ B) (g : Nat → Int) {k f : Nat} {x : Int32} (hk : k ≤ n) (hf : n < f) (hg : ∀ j, k ≤ j → j < n → (gi (nI j)).toInt = g j ∧ -B ≤ g j ∧ g j ≤ B) (h1 : -2147483648 ≤ x.toInt - (n : Int) * B) (h2 : x.toInt + (n : Int) * B < 2147483648) : (F f x (nI k)).1.toInt = x.toInt + SI (fun j => g (k + j)) (n - k) := by
  refine loop_inv (F := F) (st := fun x i => x + gi i) (fin := fun x i => (x, i)) (b := b) (n := n) (fun j y => y.toInt = x.toInt + SI (fun j => g (k + j)) (j - k) ∧ x.toInt - ((j - k : Nat) : Int) * B ≤ y.toInt ∧ y.toInt ≤ x.toInt + ((j - k : Nat) : Int) * B) (fun r => r.1.toInt = x.toInt + SI (fun j => g (k + j)) (n - k)) hb hn hF hk hf ?_ ?_ ?_
  · rw [show k - k = 0 by omega, SI_0]
    simp
  · intro j y h3 h4 ⟨e, l1, l2⟩
    obtain ⟨a1, a2, a3⟩ := hg j h3 h4
    have hm : ((j + 1 - k : Nat) : Int) * B = ((j - k : Nat) : Int) * B + B := by
      rw [show j + 1 - k = (j - k) + 1 by omega, Int.natCast_add, Int.add_mul]
      simp
    have hle : ((j + 1 - k : Nat) : Int) * B ≤ (n : Int) * B := Int.mul_le_mul_of_nonneg_right (by omega) hB
    have ea : (y + gi (nI j)).toInt = y.toInt + g j := by
      rw [z_add (by omega) (by omega), a1]
    show (y + gi (nI j)).toInt = _ ∧ _ ≤ (y + gi (nI j)).toInt ∧ (y + gi (nI j)).toInt ≤ _
    rw [ea, show j + 1 - k = (j - k) + 1 by omega, SI_s, show k + (j - k) = j by omega]
    rw [show j + 1 - k = (j - k) + 1 by omega] at hm
    rw [hm]
    refine ⟨by omega, by omega, by omega⟩
  · intro y h
    exact h.1
theorem loop_sum0 {F : Nat → Int32 → Int32 → Int32 × Int32} {gi : Int32 → Int32} {n : Nat} {b : Int32} (hb : b = nI n) (hn : n < 65536) (hF : ∀ f x i, F (f + 1) x i = if b ≤ i then (x, i) else F f (x + gi i) (i + 1)) {B : Int} (hB : 0 ≤ B) (g : Nat → Int) {f : Nat} {x : Int32} (hf : n < f) (hg : ∀ j, j < n → (gi (nI j)).toInt = g j ∧ -B ≤ g j ∧ g j ≤ B) (h1 : -2147483648 ≤ x.toInt - (n : Int) * B) (h2 : x.toInt + (n : Int) * B < 2147483648) : (F f x 0).1.toInt = x.toInt + SI g n := by
  have h := loop_sum hb hn hF hB g (k := 0) (Nat.zero_le n) hf (fun j _ hj => hg j hj) h1 h2
  rw [nI_0] at h
  rw [h, show n - 0 = n by omega]
  congr 1
  exact SI_congr (fun k _ => by rw [Nat.zero_add])

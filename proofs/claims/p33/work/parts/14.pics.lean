/-! PICTURES: texts that the class draws; the system's world stays, the text's world is new cells alone -/
section PIC
variable {p : Program} {l : Launch} {e : Env} {R : Room} {s : State} {m : MethodId} {args : Array Value} {below : List Frame} {meth : Method} {c : Code} {H : Heap} {locs : List Loc} {cells slots : Nat} {Q : State → Prop}
variable {cc : ByteArray} {pc : Nat} {ls : Array Slot} {rest : List Value}
variable {D : va_G} {cA cB : ClassId} {A : Nat → Prop}
/-- new cells alone -/
abbrev aN (sz : Nat) : Nat → Prop := va_A ([] : va_W) sz
theorem aN_lt {sz q : Nat} (h : q < sz) : ¬ aN sz q := by
  rintro (⟨k, e, h1⟩ | h1)
  · simp at h1
  · omega
theorem aN_ge {sz q : Nat} (h : sz ≤ q) : aN sz q := Or.inr h
/-- what stood before a method that makes new cells alone stands yet -/
theorem sx_sys {ws : va_W} (hP0 : va_P D vwCl ws s.heap) (hS : va_S (aN s.heap.size) s.heap H locs) : va_P D vwCl ws H :=
  hP0.kept (fun k y hy => hS.2.1 y.1 (hP0 k y hy).lt (aN_lt (hP0 k y hy).lt))
/-- a builder and its row -/
abbrev tB (cB : ClassId) (h0 b : Nat) (mb : Int32) (k m : Nat) (f : Nat → Int32) : va_W := [(h0, .inr (1, [.ref b, .int 0, .int mb, .int (nI k)])), (b, .inl (cB, m, .inl f))]
theorem sx_append {own : String} {index : Nat} {y0 : MethodName} {n0 : Nat} {r0 : Option FieldType} {h0 b k mm : Nat} {mb ch : Int32} {f : Nat → Int32} {st0 : List Value} (S : CallFix p m c cc n0 s args (wM y0 cc n0 r0) own)
    (hK : va_K D vwCl [(cB, .byte)] s) (hZ : zW A s s.heap) (hP : va_P D vwCl (tB cB h0 b mb k mm f) H) (hD : va_D A (tB cB h0 b mb k mm f)) (hS : va_S A s.heap H locs) (hA : ∀ q, s.heap.size ≤ q → A q)
    (hkm : k ≤ mm) (hm : mm < 2 ^ 26) (hf : sb_Fit f) (ha : ¬ 255 < ch) (k1 : Cond.methodLink own index yJ4_append_cf468 ∈ wA)
    (hsz : ls.size = n0) (hst : st0 = .int ch :: .ref h0 :: rest) (hW : (rest.map fun v => v.category).sum ≤ 8) (hd : decode cc pc = .ok (.invokevirtual index, 3)) (hR : 6 ≤ R.frames ∧ 201 ≤ R.locals) (hc : cells + 1 ≤ R.cells) (hs : slots + (2 * mm + 2) ≤ R.slots)
    (kk : ∀ (b1 m1 : Nat) (f1 : Nat → Int32) (H : Heap) (locs : List Loc), k + 1 ≤ m1 → (m1 ≤ mm ∨ m1 ≤ 2 * k + 2) → sb_Fit f1 → va_P D vwCl (tB cB h0 b1 mb (k + 1) m1 f1) H → va_D A (tB cB h0 b1 mb (k + 1) m1 f1) → va_S A s.heap H locs →
      W p l e R s m args below meth c H locs (cells + 1) (slots + (2 * mm + 2)) Q (F0 m (pc + 3) ls (.ref h0 :: rest))) : W p l e R s m args below meth c H locs cells slots Q (F0 m pc ls st0) := by
  have hFc := va_free (wc := tB cB h0 b mb k mm f) hD hS hA [0, 1] rfl
  refine va_callr (va_runV (As := [.int ch]) (rest := rest) S (t_append l D cB h0 b mm k mb ch f H.size hkm hm hf ha) (cwV 1 S.2.2.2.2 (sy_goodV k1 kw_636 kw_637 kw_614 kw_638) rfl rfl rfl hdT_J4_append_cf468 hR) ⟨pT_blind, va_recv hK hP (ci := 1) (q0 := 0) rfl rfl, fun U hU hW => ⟨rfl, by rw [hU], by rw [hU]; exact hP, va_K.moved hW.alike hK, hD.weaken (fun _ _ _ _ => trivial), by rw [hU]; exact va_Z.moved hW.alike (va_Z.narrow (va_Z.kept hZ (fun a ha hn => hS.2.1 a ha hn)) (fun q h => hFc q h))⟩⟩ rfl rfl hsz hst (lv_room hW) hd ⟨hc, hs⟩) hS (fun q _ h => hFc q h) hFc (fun u a2 t H1 locs1 ht hvm hw hB hz1 hk1 hS1 => ?_)
  obtain ⟨ha2, hP1, hD1⟩ := hB
  rw [ht] at hP1
  rw [ha2]
  exact kk u.1 u.2.1 u.2.2 H1 locs1 hw.1 hw.2.1 hw.2.2 hP1 (hD1.weaken (fun _ q _ h => hFc q.1 h)) hS1
end PIC

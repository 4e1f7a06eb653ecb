section FLD
variable {p : Program} {l : Launch} {e : Env} {R : Room} {s : State} {m : MethodId} {args : Array Value} {below : List Frame} {meth : Method} {c : Code} {H : Heap} {locs : List Loc} {cells slots : Nat} {Q : State → Prop}
variable {cc : ByteArray} {pc : Nat} {ls : Array Slot} {rest : List Value}
variable {D : va_G} {cA : ClassId} {ad : Nat → Nat} {τ ρ π γ : Sg}
theorem wGo {b : Nat} (hb : b < 2) : (wS cA ad τ ρ π γ)[5 + b]? = some (ad (5 + b), .inr (4, [.ref (ad 1), .ref (ad 2), .ref (ad (14 + 5 * b + 0)), .ref (ad (14 + 5 * b + 1)), .ref (ad (14 + 5 * b + 2)), .ref (ad (14 + 5 * b + 3)), .ref (ad (14 + 5 * b + 4)), .int (γ.1 b)])) := by
  match b, hb with
  | 0, _ => rfl
  | 1, _ => rfl
theorem wG_0 {b : Nat} (hb : b < 2) : (wS cA ad τ ρ π γ)[14 + 5 * b + 0]? = some (ad (14 + 5 * b + 0), .inl (cA, 64, .inl (γ.2 (5 * b + 0)))) := by
  match b, hb with
  | 0, _ => rfl
  | 1, _ => rfl
theorem wGs_0 {b : Nat} (hb : b < 2) {i : Nat} {x : Int32} : (wS cA ad τ ρ π γ).set (14 + 5 * b + 0) (ad (14 + 5 * b + 0), .inl (cA, 64, .inl (upd (γ.2 (5 * b + 0)) i x))) = wS cA ad τ ρ π (sa γ (5 * b + 0) i x) := by
  match b, hb with
  | 0, _ => rfl
  | 1, _ => rfl
theorem wG_1 {b : Nat} (hb : b < 2) : (wS cA ad τ ρ π γ)[14 + 5 * b + 1]? = some (ad (14 + 5 * b + 1), .inl (cA, 64, .inl (γ.2 (5 * b + 1)))) := by
  match b, hb with
  | 0, _ => rfl
  | 1, _ => rfl
theorem wGs_1 {b : Nat} (hb : b < 2) {i : Nat} {x : Int32} : (wS cA ad τ ρ π γ).set (14 + 5 * b + 1) (ad (14 + 5 * b + 1), .inl (cA, 64, .inl (upd (γ.2 (5 * b + 1)) i x))) = wS cA ad τ ρ π (sa γ (5 * b + 1) i x) := by
  match b, hb with
  | 0, _ => rfl
  | 1, _ => rfl
theorem wG_2 {b : Nat} (hb : b < 2) : (wS cA ad τ ρ π γ)[14 + 5 * b + 2]? = some (ad (14 + 5 * b + 2), .inl (cA, 64, .inl (γ.2 (5 * b + 2)))) := by
  match b, hb with
  | 0, _ => rfl
  | 1, _ => rfl
theorem wGs_2 {b : Nat} (hb : b < 2) {i : Nat} {x : Int32} : (wS cA ad τ ρ π γ).set (14 + 5 * b + 2) (ad (14 + 5 * b + 2), .inl (cA, 64, .inl (upd (γ.2 (5 * b + 2)) i x))) = wS cA ad τ ρ π (sa γ (5 * b + 2) i x) := by
  match b, hb with
  | 0, _ => rfl
  | 1, _ => rfl
theorem wG_3 {b : Nat} (hb : b < 2) : (wS cA ad τ ρ π γ)[14 + 5 * b + 3]? = some (ad (14 + 5 * b + 3), .inl (cA, 64, .inl (γ.2 (5 * b + 3)))) := by
  match b, hb with
  | 0, _ => rfl
  | 1, _ => rfl
theorem wGs_3 {b : Nat} (hb : b < 2) {i : Nat} {x : Int32} : (wS cA ad τ ρ π γ).set (14 + 5 * b + 3) (ad (14 + 5 * b + 3), .inl (cA, 64, .inl (upd (γ.2 (5 * b + 3)) i x))) = wS cA ad τ ρ π (sa γ (5 * b + 3) i x) := by
  match b, hb with
  | 0, _ => rfl
  | 1, _ => rfl
theorem wG_4 {b : Nat} (hb : b < 2) : (wS cA ad τ ρ π γ)[14 + 5 * b + 4]? = some (ad (14 + 5 * b + 4), .inl (cA, 64, .inl (γ.2 (5 * b + 4)))) := by
  match b, hb with
  | 0, _ => rfl
  | 1, _ => rfl
theorem wGs_4 {b : Nat} (hb : b < 2) {i : Nat} {x : Int32} : (wS cA ad τ ρ π γ).set (14 + 5 * b + 4) (ad (14 + 5 * b + 4), .inl (cA, 64, .inl (upd (γ.2 (5 * b + 4)) i x))) = wS cA ad τ ρ π (sa γ (5 * b + 4) i x) := by
  match b, hb with
  | 0, _ => rfl
  | 1, _ => rfl
theorem wAt_7 : (wS cA ad τ ρ π γ)[7]? = some (ad 7, .inl (cA, 256, .inl (τ.2 0))) := rfl
theorem wSt_7 {i : Nat} {x : Int32} : (wS cA ad τ ρ π γ).set 7 (ad 7, .inl (cA, 256, .inl (upd (τ.2 0) i x))) = wS cA ad (sa τ 0 i x) ρ π γ := rfl
theorem wAt_8 : (wS cA ad τ ρ π γ)[8]? = some (ad 8, .inl (cA, 64, .inl (τ.2 1))) := rfl
theorem wSt_8 {i : Nat} {x : Int32} : (wS cA ad τ ρ π γ).set 8 (ad 8, .inl (cA, 64, .inl (upd (τ.2 1) i x))) = wS cA ad (sa τ 1 i x) ρ π γ := rfl
theorem wAt_9 : (wS cA ad τ ρ π γ)[9]? = some (ad 9, .inl (cA, 100, .inl (ρ.2 0))) := rfl
theorem wSt_9 {i : Nat} {x : Int32} : (wS cA ad τ ρ π γ).set 9 (ad 9, .inl (cA, 100, .inl (upd (ρ.2 0) i x))) = wS cA ad τ (sa ρ 0 i x) π γ := rfl
theorem wAt_10 : (wS cA ad τ ρ π γ)[10]? = some (ad 10, .inl (cA, 10, .inl (ρ.2 1))) := rfl
theorem wSt_10 {i : Nat} {x : Int32} : (wS cA ad τ ρ π γ).set 10 (ad 10, .inl (cA, 10, .inl (upd (ρ.2 1) i x))) = wS cA ad τ (sa ρ 1 i x) π γ := rfl
theorem wAt_11 : (wS cA ad τ ρ π γ)[11]? = some (ad 11, .inl (cA, 64, .inl (π.2 0))) := rfl
theorem wSt_11 {i : Nat} {x : Int32} : (wS cA ad τ ρ π γ).set 11 (ad 11, .inl (cA, 64, .inl (upd (π.2 0) i x))) = wS cA ad τ ρ (sa π 0 i x) γ := rfl
theorem wAt_12 : (wS cA ad τ ρ π γ)[12]? = some (ad 12, .inl (cA, 64, .inl (π.2 1))) := rfl
theorem wSt_12 {i : Nat} {x : Int32} : (wS cA ad τ ρ π γ).set 12 (ad 12, .inl (cA, 64, .inl (upd (π.2 1) i x))) = wS cA ad τ ρ (sa π 1 i x) γ := rfl
theorem wAt_13 : (wS cA ad τ ρ π γ)[13]? = some (ad 13, .inl (cA, 64, .inl (π.2 2))) := rfl
theorem wSt_13 {i : Nat} {x : Int32} : (wS cA ad τ ρ π γ).set 13 (ad 13, .inl (cA, 64, .inl (upd (π.2 2) i x))) = wS cA ad τ ρ (sa π 2 i x) γ := rfl
theorem wAt_14 : (wS cA ad τ ρ π γ)[14]? = some (ad 14, .inl (cA, 64, .inl (γ.2 0))) := rfl
theorem wSt_14 {i : Nat} {x : Int32} : (wS cA ad τ ρ π γ).set 14 (ad 14, .inl (cA, 64, .inl (upd (γ.2 0) i x))) = wS cA ad τ ρ π (sa γ 0 i x) := rfl
theorem wAt_15 : (wS cA ad τ ρ π γ)[15]? = some (ad 15, .inl (cA, 64, .inl (γ.2 1))) := rfl
theorem wSt_15 {i : Nat} {x : Int32} : (wS cA ad τ ρ π γ).set 15 (ad 15, .inl (cA, 64, .inl (upd (γ.2 1) i x))) = wS cA ad τ ρ π (sa γ 1 i x) := rfl
theorem wAt_16 : (wS cA ad τ ρ π γ)[16]? = some (ad 16, .inl (cA, 64, .inl (γ.2 2))) := rfl
theorem wSt_16 {i : Nat} {x : Int32} : (wS cA ad τ ρ π γ).set 16 (ad 16, .inl (cA, 64, .inl (upd (γ.2 2) i x))) = wS cA ad τ ρ π (sa γ 2 i x) := rfl
theorem wAt_17 : (wS cA ad τ ρ π γ)[17]? = some (ad 17, .inl (cA, 64, .inl (γ.2 3))) := rfl
theorem wSt_17 {i : Nat} {x : Int32} : (wS cA ad τ ρ π γ).set 17 (ad 17, .inl (cA, 64, .inl (upd (γ.2 3) i x))) = wS cA ad τ ρ π (sa γ 3 i x) := rfl
theorem wAt_18 : (wS cA ad τ ρ π γ)[18]? = some (ad 18, .inl (cA, 64, .inl (γ.2 4))) := rfl
theorem wSt_18 {i : Nat} {x : Int32} : (wS cA ad τ ρ π γ).set 18 (ad 18, .inl (cA, 64, .inl (upd (γ.2 4) i x))) = wS cA ad τ ρ π (sa γ 4 i x) := rfl
theorem wAt_19 : (wS cA ad τ ρ π γ)[19]? = some (ad 19, .inl (cA, 64, .inl (γ.2 5))) := rfl
theorem wSt_19 {i : Nat} {x : Int32} : (wS cA ad τ ρ π γ).set 19 (ad 19, .inl (cA, 64, .inl (upd (γ.2 5) i x))) = wS cA ad τ ρ π (sa γ 5 i x) := rfl
theorem wAt_20 : (wS cA ad τ ρ π γ)[20]? = some (ad 20, .inl (cA, 64, .inl (γ.2 6))) := rfl
theorem wSt_20 {i : Nat} {x : Int32} : (wS cA ad τ ρ π γ).set 20 (ad 20, .inl (cA, 64, .inl (upd (γ.2 6) i x))) = wS cA ad τ ρ π (sa γ 6 i x) := rfl
theorem wAt_21 : (wS cA ad τ ρ π γ)[21]? = some (ad 21, .inl (cA, 64, .inl (γ.2 7))) := rfl
theorem wSt_21 {i : Nat} {x : Int32} : (wS cA ad τ ρ π γ).set 21 (ad 21, .inl (cA, 64, .inl (upd (γ.2 7) i x))) = wS cA ad τ ρ π (sa γ 7 i x) := rfl
theorem wAt_22 : (wS cA ad τ ρ π γ)[22]? = some (ad 22, .inl (cA, 64, .inl (γ.2 8))) := rfl
theorem wSt_22 {i : Nat} {x : Int32} : (wS cA ad τ ρ π γ).set 22 (ad 22, .inl (cA, 64, .inl (upd (γ.2 8) i x))) = wS cA ad τ ρ π (sa γ 8 i x) := rfl
theorem wAt_23 : (wS cA ad τ ρ π γ)[23]? = some (ad 23, .inl (cA, 64, .inl (γ.2 9))) := rfl
theorem wSt_23 {i : Nat} {x : Int32} : (wS cA ad τ ρ π γ).set 23 (ad 23, .inl (cA, 64, .inl (upd (γ.2 9) i x))) = wS cA ad τ ρ π (sa γ 9 i x) := rfl
theorem wAt_24 : (wS cA ad τ ρ π γ)[24]? = some (ad 24, .inl (cA, 64, .inl (γ.2 10))) := rfl
theorem wSt_24 {i : Nat} {x : Int32} : (wS cA ad τ ρ π γ).set 24 (ad 24, .inl (cA, 64, .inl (upd (γ.2 10) i x))) = wS cA ad τ ρ π (sa γ 10 i x) := rfl
theorem wF_7 : wS cA ad (saf τ 0 (τ.2 0)) ρ π γ = wS cA ad τ ρ π γ := rfl
theorem wFa_7 (f : Nat → Int32) : (wS cA ad (saf τ 0 f) ρ π γ)[7]? = some (ad 7, .inl (cA, 256, .inl f)) := rfl
theorem wFs_7 (f f' : Nat → Int32) : (wS cA ad (saf τ 0 f) ρ π γ).set 7 (ad 7, .inl (cA, 256, .inl f')) = wS cA ad (saf τ 0 f') ρ π γ := rfl
theorem wF_8 : wS cA ad (saf τ 1 (τ.2 1)) ρ π γ = wS cA ad τ ρ π γ := rfl
theorem wFa_8 (f : Nat → Int32) : (wS cA ad (saf τ 1 f) ρ π γ)[8]? = some (ad 8, .inl (cA, 64, .inl f)) := rfl
theorem wFs_8 (f f' : Nat → Int32) : (wS cA ad (saf τ 1 f) ρ π γ).set 8 (ad 8, .inl (cA, 64, .inl f')) = wS cA ad (saf τ 1 f') ρ π γ := rfl
theorem wF_9 : wS cA ad τ (saf ρ 0 (ρ.2 0)) π γ = wS cA ad τ ρ π γ := rfl
theorem wFa_9 (f : Nat → Int32) : (wS cA ad τ (saf ρ 0 f) π γ)[9]? = some (ad 9, .inl (cA, 100, .inl f)) := rfl
theorem wFs_9 (f f' : Nat → Int32) : (wS cA ad τ (saf ρ 0 f) π γ).set 9 (ad 9, .inl (cA, 100, .inl f')) = wS cA ad τ (saf ρ 0 f') π γ := rfl
theorem wF_10 : wS cA ad τ (saf ρ 1 (ρ.2 1)) π γ = wS cA ad τ ρ π γ := rfl
theorem wFa_10 (f : Nat → Int32) : (wS cA ad τ (saf ρ 1 f) π γ)[10]? = some (ad 10, .inl (cA, 10, .inl f)) := rfl
theorem wFs_10 (f f' : Nat → Int32) : (wS cA ad τ (saf ρ 1 f) π γ).set 10 (ad 10, .inl (cA, 10, .inl f')) = wS cA ad τ (saf ρ 1 f') π γ := rfl
theorem wF_11 : wS cA ad τ ρ (saf π 0 (π.2 0)) γ = wS cA ad τ ρ π γ := rfl
theorem wFa_11 (f : Nat → Int32) : (wS cA ad τ ρ (saf π 0 f) γ)[11]? = some (ad 11, .inl (cA, 64, .inl f)) := rfl
theorem wFs_11 (f f' : Nat → Int32) : (wS cA ad τ ρ (saf π 0 f) γ).set 11 (ad 11, .inl (cA, 64, .inl f')) = wS cA ad τ ρ (saf π 0 f') γ := rfl
theorem wF_12 : wS cA ad τ ρ (saf π 1 (π.2 1)) γ = wS cA ad τ ρ π γ := rfl
theorem wFa_12 (f : Nat → Int32) : (wS cA ad τ ρ (saf π 1 f) γ)[12]? = some (ad 12, .inl (cA, 64, .inl f)) := rfl
theorem wFs_12 (f f' : Nat → Int32) : (wS cA ad τ ρ (saf π 1 f) γ).set 12 (ad 12, .inl (cA, 64, .inl f')) = wS cA ad τ ρ (saf π 1 f') γ := rfl
theorem wF_13 : wS cA ad τ ρ (saf π 2 (π.2 2)) γ = wS cA ad τ ρ π γ := rfl
theorem wFa_13 (f : Nat → Int32) : (wS cA ad τ ρ (saf π 2 f) γ)[13]? = some (ad 13, .inl (cA, 64, .inl f)) := rfl
theorem wFs_13 (f f' : Nat → Int32) : (wS cA ad τ ρ (saf π 2 f) γ).set 13 (ad 13, .inl (cA, 64, .inl f')) = wS cA ad τ ρ (saf π 2 f') γ := rfl
theorem wF_14 : wS cA ad τ ρ π (saf γ 0 (γ.2 0)) = wS cA ad τ ρ π γ := rfl
theorem wFa_14 (f : Nat → Int32) : (wS cA ad τ ρ π (saf γ 0 f))[14]? = some (ad 14, .inl (cA, 64, .inl f)) := rfl
theorem wFs_14 (f f' : Nat → Int32) : (wS cA ad τ ρ π (saf γ 0 f)).set 14 (ad 14, .inl (cA, 64, .inl f')) = wS cA ad τ ρ π (saf γ 0 f') := rfl
theorem wF_15 : wS cA ad τ ρ π (saf γ 1 (γ.2 1)) = wS cA ad τ ρ π γ := rfl
theorem wFa_15 (f : Nat → Int32) : (wS cA ad τ ρ π (saf γ 1 f))[15]? = some (ad 15, .inl (cA, 64, .inl f)) := rfl
theorem wFs_15 (f f' : Nat → Int32) : (wS cA ad τ ρ π (saf γ 1 f)).set 15 (ad 15, .inl (cA, 64, .inl f')) = wS cA ad τ ρ π (saf γ 1 f') := rfl
theorem wF_16 : wS cA ad τ ρ π (saf γ 2 (γ.2 2)) = wS cA ad τ ρ π γ := rfl
theorem wFa_16 (f : Nat → Int32) : (wS cA ad τ ρ π (saf γ 2 f))[16]? = some (ad 16, .inl (cA, 64, .inl f)) := rfl
theorem wFs_16 (f f' : Nat → Int32) : (wS cA ad τ ρ π (saf γ 2 f)).set 16 (ad 16, .inl (cA, 64, .inl f')) = wS cA ad τ ρ π (saf γ 2 f') := rfl
theorem wF_17 : wS cA ad τ ρ π (saf γ 3 (γ.2 3)) = wS cA ad τ ρ π γ := rfl
theorem wFa_17 (f : Nat → Int32) : (wS cA ad τ ρ π (saf γ 3 f))[17]? = some (ad 17, .inl (cA, 64, .inl f)) := rfl
theorem wFs_17 (f f' : Nat → Int32) : (wS cA ad τ ρ π (saf γ 3 f)).set 17 (ad 17, .inl (cA, 64, .inl f')) = wS cA ad τ ρ π (saf γ 3 f') := rfl
theorem wF_18 : wS cA ad τ ρ π (saf γ 4 (γ.2 4)) = wS cA ad τ ρ π γ := rfl
theorem wFa_18 (f : Nat → Int32) : (wS cA ad τ ρ π (saf γ 4 f))[18]? = some (ad 18, .inl (cA, 64, .inl f)) := rfl
theorem wFs_18 (f f' : Nat → Int32) : (wS cA ad τ ρ π (saf γ 4 f)).set 18 (ad 18, .inl (cA, 64, .inl f')) = wS cA ad τ ρ π (saf γ 4 f') := rfl
theorem wF_19 : wS cA ad τ ρ π (saf γ 5 (γ.2 5)) = wS cA ad τ ρ π γ := rfl
theorem wFa_19 (f : Nat → Int32) : (wS cA ad τ ρ π (saf γ 5 f))[19]? = some (ad 19, .inl (cA, 64, .inl f)) := rfl
theorem wFs_19 (f f' : Nat → Int32) : (wS cA ad τ ρ π (saf γ 5 f)).set 19 (ad 19, .inl (cA, 64, .inl f')) = wS cA ad τ ρ π (saf γ 5 f') := rfl
theorem wF_20 : wS cA ad τ ρ π (saf γ 6 (γ.2 6)) = wS cA ad τ ρ π γ := rfl
theorem wFa_20 (f : Nat → Int32) : (wS cA ad τ ρ π (saf γ 6 f))[20]? = some (ad 20, .inl (cA, 64, .inl f)) := rfl
theorem wFs_20 (f f' : Nat → Int32) : (wS cA ad τ ρ π (saf γ 6 f)).set 20 (ad 20, .inl (cA, 64, .inl f')) = wS cA ad τ ρ π (saf γ 6 f') := rfl
theorem wF_21 : wS cA ad τ ρ π (saf γ 7 (γ.2 7)) = wS cA ad τ ρ π γ := rfl
theorem wFa_21 (f : Nat → Int32) : (wS cA ad τ ρ π (saf γ 7 f))[21]? = some (ad 21, .inl (cA, 64, .inl f)) := rfl
theorem wFs_21 (f f' : Nat → Int32) : (wS cA ad τ ρ π (saf γ 7 f)).set 21 (ad 21, .inl (cA, 64, .inl f')) = wS cA ad τ ρ π (saf γ 7 f') := rfl
theorem wF_22 : wS cA ad τ ρ π (saf γ 8 (γ.2 8)) = wS cA ad τ ρ π γ := rfl
theorem wFa_22 (f : Nat → Int32) : (wS cA ad τ ρ π (saf γ 8 f))[22]? = some (ad 22, .inl (cA, 64, .inl f)) := rfl
theorem wFs_22 (f f' : Nat → Int32) : (wS cA ad τ ρ π (saf γ 8 f)).set 22 (ad 22, .inl (cA, 64, .inl f')) = wS cA ad τ ρ π (saf γ 8 f') := rfl
theorem wF_23 : wS cA ad τ ρ π (saf γ 9 (γ.2 9)) = wS cA ad τ ρ π γ := rfl
theorem wFa_23 (f : Nat → Int32) : (wS cA ad τ ρ π (saf γ 9 f))[23]? = some (ad 23, .inl (cA, 64, .inl f)) := rfl
theorem wFs_23 (f f' : Nat → Int32) : (wS cA ad τ ρ π (saf γ 9 f)).set 23 (ad 23, .inl (cA, 64, .inl f')) = wS cA ad τ ρ π (saf γ 9 f') := rfl
theorem wF_24 : wS cA ad τ ρ π (saf γ 10 (γ.2 10)) = wS cA ad τ ρ π γ := rfl
theorem wFa_24 (f : Nat → Int32) : (wS cA ad τ ρ π (saf γ 10 f))[24]? = some (ad 24, .inl (cA, 64, .inl f)) := rfl
theorem wFs_24 (f f' : Nat → Int32) : (wS cA ad τ ρ π (saf γ 10 f)).set 24 (ad 24, .inl (cA, 64, .inl f')) = wS cA ad τ ρ π (saf γ 10 f') := rfl
theorem wF_g0 {b : Nat} (hb : b < 2) : wS cA ad τ ρ π (saf γ (5 * b + 0) (γ.2 (5 * b + 0))) = wS cA ad τ ρ π γ := by
  match b, hb with
  | 0, _ => rfl
  | 1, _ => rfl
theorem wFa_g0 {b : Nat} (hb : b < 2) (f : Nat → Int32) : (wS cA ad τ ρ π (saf γ (5 * b + 0) f))[14 + 5 * b + 0]? = some (ad (14 + 5 * b + 0), .inl (cA, 64, .inl f)) := by
  match b, hb with
  | 0, _ => rfl
  | 1, _ => rfl
theorem wFs_g0 {b : Nat} (hb : b < 2) (f f' : Nat → Int32) : (wS cA ad τ ρ π (saf γ (5 * b + 0) f)).set (14 + 5 * b + 0) (ad (14 + 5 * b + 0), .inl (cA, 64, .inl f')) = wS cA ad τ ρ π (saf γ (5 * b + 0) f') := by
  match b, hb with
  | 0, _ => rfl
  | 1, _ => rfl
theorem wGi {b : Nat} (hb : b < 2) {v : Int32} : (wS cA ad τ ρ π γ).set (5 + b) (ad (5 + b), .inr (4, ([.ref (ad 1), .ref (ad 2), .ref (ad (14 + 5 * b + 0)), .ref (ad (14 + 5 * b + 1)), .ref (ad (14 + 5 * b + 2)), .ref (ad (14 + 5 * b + 3)), .ref (ad (14 + 5 * b + 4)), .int (γ.1 b)] : List Value).set 7 (.int v))) = wS cA ad τ ρ π (si γ b v) := by
  match b, hb with
  | 0, _ => rfl
  | 1, _ => rfl
theorem gX2_2 (hx : p.tables.exec = Jvm.exec) (hb : c.code = cc) (htA : ∀ w ∈ wA, w.before args s = true) (hown : s.vm.findClass RX2 = some m.cls) (hK : va_K D vwCl [(cA, .int)] s) (hP : va_P D vwCl (wS cA ad τ ρ π γ) H) {b : Nat} (hb2 : b < 2) (hd : decode cc pc = .ok (.getfield 9, 3))
    (kk : W p l e R s m args below meth c H locs cells slots Q (F0 m (pc + 3) ls (.ref (ad (14 + 5 * b + 0)) :: rest))) : W p l e R s m args below meth c H locs cells slots Q (F0 m pc ls (.ref (ad (5 + b)) :: rest)) :=
  va_get (D := D) (ci := 4) (v := .ref (ad (14 + 5 * b + 0))) (C := RX2) (T := TX2) (N := 8) hx hb htA iA_X2 hown hK hP (5 + b) (wGo hb2) rfl 2 (by decide) (htA _ kw_88) (fun _ h9 => h9) rfl hd kk
theorem gX2_3 (hx : p.tables.exec = Jvm.exec) (hb : c.code = cc) (htA : ∀ w ∈ wA, w.before args s = true) (hown : s.vm.findClass RX2 = some m.cls) (hK : va_K D vwCl [(cA, .int)] s) (hP : va_P D vwCl (wS cA ad τ ρ π γ) H) {b : Nat} (hb2 : b < 2) (hd : decode cc pc = .ok (.getfield 15, 3))
    (kk : W p l e R s m args below meth c H locs cells slots Q (F0 m (pc + 3) ls (.ref (ad (14 + 5 * b + 1)) :: rest))) : W p l e R s m args below meth c H locs cells slots Q (F0 m pc ls (.ref (ad (5 + b)) :: rest)) :=
  va_get (D := D) (ci := 4) (v := .ref (ad (14 + 5 * b + 1))) (C := RX2) (T := TX2) (N := 8) hx hb htA iA_X2 hown hK hP (5 + b) (wGo hb2) rfl 3 (by decide) (htA _ kw_89) (fun _ h9 => h9) rfl hd kk
theorem gX2_4 (hx : p.tables.exec = Jvm.exec) (hb : c.code = cc) (htA : ∀ w ∈ wA, w.before args s = true) (hown : s.vm.findClass RX2 = some m.cls) (hK : va_K D vwCl [(cA, .int)] s) (hP : va_P D vwCl (wS cA ad τ ρ π γ) H) {b : Nat} (hb2 : b < 2) (hd : decode cc pc = .ok (.getfield 18, 3))
    (kk : W p l e R s m args below meth c H locs cells slots Q (F0 m (pc + 3) ls (.ref (ad (14 + 5 * b + 2)) :: rest))) : W p l e R s m args below meth c H locs cells slots Q (F0 m pc ls (.ref (ad (5 + b)) :: rest)) :=
  va_get (D := D) (ci := 4) (v := .ref (ad (14 + 5 * b + 2))) (C := RX2) (T := TX2) (N := 8) hx hb htA iA_X2 hown hK hP (5 + b) (wGo hb2) rfl 4 (by decide) (htA _ kw_90) (fun _ h9 => h9) rfl hd kk
theorem gX2_5 (hx : p.tables.exec = Jvm.exec) (hb : c.code = cc) (htA : ∀ w ∈ wA, w.before args s = true) (hown : s.vm.findClass RX2 = some m.cls) (hK : va_K D vwCl [(cA, .int)] s) (hP : va_P D vwCl (wS cA ad τ ρ π γ) H) {b : Nat} (hb2 : b < 2) (hd : decode cc pc = .ok (.getfield 21, 3))
    (kk : W p l e R s m args below meth c H locs cells slots Q (F0 m (pc + 3) ls (.ref (ad (14 + 5 * b + 3)) :: rest))) : W p l e R s m args below meth c H locs cells slots Q (F0 m pc ls (.ref (ad (5 + b)) :: rest)) :=
  va_get (D := D) (ci := 4) (v := .ref (ad (14 + 5 * b + 3))) (C := RX2) (T := TX2) (N := 8) hx hb htA iA_X2 hown hK hP (5 + b) (wGo hb2) rfl 5 (by decide) (htA _ kw_91) (fun _ h9 => h9) rfl hd kk
theorem gX2_6 (hx : p.tables.exec = Jvm.exec) (hb : c.code = cc) (htA : ∀ w ∈ wA, w.before args s = true) (hown : s.vm.findClass RX2 = some m.cls) (hK : va_K D vwCl [(cA, .int)] s) (hP : va_P D vwCl (wS cA ad τ ρ π γ) H) {b : Nat} (hb2 : b < 2) (hd : decode cc pc = .ok (.getfield 24, 3))
    (kk : W p l e R s m args below meth c H locs cells slots Q (F0 m (pc + 3) ls (.ref (ad (14 + 5 * b + 4)) :: rest))) : W p l e R s m args below meth c H locs cells slots Q (F0 m pc ls (.ref (ad (5 + b)) :: rest)) :=
  va_get (D := D) (ci := 4) (v := .ref (ad (14 + 5 * b + 4))) (C := RX2) (T := TX2) (N := 8) hx hb htA iA_X2 hown hK hP (5 + b) (wGo hb2) rfl 6 (by decide) (htA _ kw_92) (fun _ h9 => h9) rfl hd kk
theorem gX2_7 (hx : p.tables.exec = Jvm.exec) (hb : c.code = cc) (htA : ∀ w ∈ wA, w.before args s = true) (hown : s.vm.findClass RX2 = some m.cls) (hK : va_K D vwCl [(cA, .int)] s) (hP : va_P D vwCl (wS cA ad τ ρ π γ) H) {b : Nat} (hb2 : b < 2) (hd : decode cc pc = .ok (.getfield 27, 3))
    (kk : W p l e R s m args below meth c H locs cells slots Q (F0 m (pc + 3) ls (.int (γ.1 b) :: rest))) : W p l e R s m args below meth c H locs cells slots Q (F0 m pc ls (.ref (ad (5 + b)) :: rest)) :=
  va_get (D := D) (ci := 4) (v := .int (γ.1 b)) (C := RX2) (T := TX2) (N := 8) hx hb htA iA_X2 hown hK hP (5 + b) (wGo hb2) rfl 7 (by decide) (htA _ kw_93) (fun _ h9 => h9) rfl hd kk
theorem pX2_7 {A : Nat → Prop} {H0 : Heap} (hx : p.tables.exec = Jvm.exec) (hb : c.code = cc) (htA : ∀ w ∈ wA, w.before args s = true) (hown : s.vm.findClass RX2 = some m.cls) (hK : va_K D vwCl [(cA, .int)] s) (hP : va_P D vwCl (wS cA ad τ ρ π γ) H) (had : Apart ad) (hA : ∀ q, aS ad q → A q) (hS : va_S A H0 H locs) {b : Nat} (hb2 : b < 2) {v : Int32} (hd : decode cc pc = .ok (.putfield 27, 3))
    (kk : ∀ (H1 : Heap) (locs1 : List Loc), va_P D vwCl (wS cA ad τ ρ π (si γ b v)) H1 → va_S A H0 H1 locs1 → W p l e R s m args below meth c H1 locs1 cells slots Q (F0 m (pc + 3) ls (rest))) : W p l e R s m args below meth c H locs cells slots Q (F0 m pc ls (.int v :: .ref (ad (5 + b)) :: rest)) :=
  va_put (D := D) (ci := 4) (v := .int v) (ty := .int) (C := RX2) (T := TX2) (N := 8) hx hb htA iA_X2 tyX2 tyX2_ok nmX2 hown hK hP (wS_D had τ ρ π γ hA) hS (5 + b) (wGo hb2) rfl 7 (by decide) (htA _ kw_93) (fun _ h9 => h9) rfl (by decide +kernel) rfl rfl (Nat.le_of_ble_eq_true rfl) hd (fun H1 locs1 h1 _ h3 => kk H1 locs1 (by rw [← wGi hb2]; exact h1) h3)
theorem gX2_0 (hx : p.tables.exec = Jvm.exec) (hb : c.code = cc) (htA : ∀ w ∈ wA, w.before args s = true) (hown : s.vm.findClass RX2 = some m.cls) (hK : va_K D vwCl [(cA, .int)] s) (hP : va_P D vwCl (wS cA ad τ ρ π γ) H) {b : Nat} (hb2 : b < 2) (hd : decode cc pc = .ok (.getfield 31, 3))
    (kk : W p l e R s m args below meth c H locs cells slots Q (F0 m (pc + 3) ls (.ref (ad 1) :: rest))) : W p l e R s m args below meth c H locs cells slots Q (F0 m pc ls (.ref (ad (5 + b)) :: rest)) :=
  va_get (D := D) (ci := 4) (v := .ref (ad 1)) (C := RX2) (T := TX2) (N := 8) hx hb htA iA_X2 hown hK hP (5 + b) (wGo hb2) rfl 0 (by decide) (htA _ kw_94) (fun _ h9 => h9) rfl hd kk
theorem gX2_1 (hx : p.tables.exec = Jvm.exec) (hb : c.code = cc) (htA : ∀ w ∈ wA, w.before args s = true) (hown : s.vm.findClass RX2 = some m.cls) (hK : va_K D vwCl [(cA, .int)] s) (hP : va_P D vwCl (wS cA ad τ ρ π γ) H) {b : Nat} (hb2 : b < 2) (hd : decode cc pc = .ok (.getfield 35, 3))
    (kk : W p l e R s m args below meth c H locs cells slots Q (F0 m (pc + 3) ls (.ref (ad 2) :: rest))) : W p l e R s m args below meth c H locs cells slots Q (F0 m pc ls (.ref (ad (5 + b)) :: rest)) :=
  va_get (D := D) (ci := 4) (v := .ref (ad 2)) (C := RX2) (T := TX2) (N := 8) hx hb htA iA_X2 hown hK hP (5 + b) (wGo hb2) rfl 1 (by decide) (htA _ kw_95) (fun _ h9 => h9) rfl hd kk
theorem gX3_2 (hx : p.tables.exec = Jvm.exec) (hb : c.code = cc) (htA : ∀ w ∈ wA, w.before args s = true) (hown : s.vm.findClass RX3 = some m.cls) (hK : va_K D vwCl [(cA, .int)] s) (hP : va_P D vwCl (wS cA ad τ ρ π γ) H) (hd : decode cc pc = .ok (.getfield 9, 3))
    (kk : W p l e R s m args below meth c H locs cells slots Q (F0 m (pc + 3) ls (.ref (ad 11) :: rest))) : W p l e R s m args below meth c H locs cells slots Q (F0 m pc ls (.ref (ad 3) :: rest)) :=
  va_get (D := D) (ci := 5) (v := .ref (ad 11)) (C := RX3) (T := TX3) (N := 7) hx hb htA iA_X3 hown hK hP (3) rfl rfl 2 (by decide) (htA _ kw_64) (fun _ h9 => h9) rfl hd kk
theorem gX3_3 (hx : p.tables.exec = Jvm.exec) (hb : c.code = cc) (htA : ∀ w ∈ wA, w.before args s = true) (hown : s.vm.findClass RX3 = some m.cls) (hK : va_K D vwCl [(cA, .int)] s) (hP : va_P D vwCl (wS cA ad τ ρ π γ) H) (hd : decode cc pc = .ok (.getfield 15, 3))
    (kk : W p l e R s m args below meth c H locs cells slots Q (F0 m (pc + 3) ls (.ref (ad 12) :: rest))) : W p l e R s m args below meth c H locs cells slots Q (F0 m pc ls (.ref (ad 3) :: rest)) :=
  va_get (D := D) (ci := 5) (v := .ref (ad 12)) (C := RX3) (T := TX3) (N := 7) hx hb htA iA_X3 hown hK hP (3) rfl rfl 3 (by decide) (htA _ kw_65) (fun _ h9 => h9) rfl hd kk
theorem gX3_4 (hx : p.tables.exec = Jvm.exec) (hb : c.code = cc) (htA : ∀ w ∈ wA, w.before args s = true) (hown : s.vm.findClass RX3 = some m.cls) (hK : va_K D vwCl [(cA, .int)] s) (hP : va_P D vwCl (wS cA ad τ ρ π γ) H) (hd : decode cc pc = .ok (.getfield 18, 3))
    (kk : W p l e R s m args below meth c H locs cells slots Q (F0 m (pc + 3) ls (.ref (ad 13) :: rest))) : W p l e R s m args below meth c H locs cells slots Q (F0 m pc ls (.ref (ad 3) :: rest)) :=
  va_get (D := D) (ci := 5) (v := .ref (ad 13)) (C := RX3) (T := TX3) (N := 7) hx hb htA iA_X3 hown hK hP (3) rfl rfl 4 (by decide) (htA _ kw_66) (fun _ h9 => h9) rfl hd kk
theorem gX3_5 (hx : p.tables.exec = Jvm.exec) (hb : c.code = cc) (htA : ∀ w ∈ wA, w.before args s = true) (hown : s.vm.findClass RX3 = some m.cls) (hK : va_K D vwCl [(cA, .int)] s) (hP : va_P D vwCl (wS cA ad τ ρ π γ) H) (hd : decode cc pc = .ok (.getfield 21, 3))
    (kk : W p l e R s m args below meth c H locs cells slots Q (F0 m (pc + 3) ls (.int (π.1 0) :: rest))) : W p l e R s m args below meth c H locs cells slots Q (F0 m pc ls (.ref (ad 3) :: rest)) :=
  va_get (D := D) (ci := 5) (v := .int (π.1 0)) (C := RX3) (T := TX3) (N := 7) hx hb htA iA_X3 hown hK hP (3) rfl rfl 5 (by decide) (htA _ kw_67) (fun _ h9 => h9) rfl hd kk
theorem pX3_5 {A : Nat → Prop} {H0 : Heap} (hx : p.tables.exec = Jvm.exec) (hb : c.code = cc) (htA : ∀ w ∈ wA, w.before args s = true) (hown : s.vm.findClass RX3 = some m.cls) (hK : va_K D vwCl [(cA, .int)] s) (hP : va_P D vwCl (wS cA ad τ ρ π γ) H) (had : Apart ad) (hA : ∀ q, aS ad q → A q) (hS : va_S A H0 H locs) {v : Int32} (hd : decode cc pc = .ok (.putfield 21, 3))
    (kk : ∀ (H1 : Heap) (locs1 : List Loc), va_P D vwCl (wS cA ad τ ρ (si π 0 v) γ) H1 → va_S A H0 H1 locs1 → W p l e R s m args below meth c H1 locs1 cells slots Q (F0 m (pc + 3) ls (rest))) : W p l e R s m args below meth c H locs cells slots Q (F0 m pc ls (.int v :: .ref (ad 3) :: rest)) :=
  va_put (D := D) (ci := 5) (v := .int v) (ty := .int) (C := RX3) (T := TX3) (N := 7) hx hb htA iA_X3 tyX3 tyX3_ok nmX3 hown hK hP (wS_D had τ ρ π γ hA) hS (3) rfl rfl 5 (by decide) (htA _ kw_67) (fun _ h9 => h9) rfl (by decide +kernel) rfl rfl (Nat.le_of_ble_eq_true rfl) hd (fun H1 locs1 h1 _ h3 => kk H1 locs1 h1 h3)
theorem gX3_6 (hx : p.tables.exec = Jvm.exec) (hb : c.code = cc) (htA : ∀ w ∈ wA, w.before args s = true) (hown : s.vm.findClass RX3 = some m.cls) (hK : va_K D vwCl [(cA, .int)] s) (hP : va_P D vwCl (wS cA ad τ ρ π γ) H) (hd : decode cc pc = .ok (.getfield 25, 3))
    (kk : W p l e R s m args below meth c H locs cells slots Q (F0 m (pc + 3) ls (.int (π.1 1) :: rest))) : W p l e R s m args below meth c H locs cells slots Q (F0 m pc ls (.ref (ad 3) :: rest)) :=
  va_get (D := D) (ci := 5) (v := .int (π.1 1)) (C := RX3) (T := TX3) (N := 7) hx hb htA iA_X3 hown hK hP (3) rfl rfl 6 (by decide) (htA _ kw_68) (fun _ h9 => h9) rfl hd kk
theorem pX3_6 {A : Nat → Prop} {H0 : Heap} (hx : p.tables.exec = Jvm.exec) (hb : c.code = cc) (htA : ∀ w ∈ wA, w.before args s = true) (hown : s.vm.findClass RX3 = some m.cls) (hK : va_K D vwCl [(cA, .int)] s) (hP : va_P D vwCl (wS cA ad τ ρ π γ) H) (had : Apart ad) (hA : ∀ q, aS ad q → A q) (hS : va_S A H0 H locs) {v : Int32} (hd : decode cc pc = .ok (.putfield 25, 3))
    (kk : ∀ (H1 : Heap) (locs1 : List Loc), va_P D vwCl (wS cA ad τ ρ (si π 1 v) γ) H1 → va_S A H0 H1 locs1 → W p l e R s m args below meth c H1 locs1 cells slots Q (F0 m (pc + 3) ls (rest))) : W p l e R s m args below meth c H locs cells slots Q (F0 m pc ls (.int v :: .ref (ad 3) :: rest)) :=
  va_put (D := D) (ci := 5) (v := .int v) (ty := .int) (C := RX3) (T := TX3) (N := 7) hx hb htA iA_X3 tyX3 tyX3_ok nmX3 hown hK hP (wS_D had τ ρ π γ hA) hS (3) rfl rfl 6 (by decide) (htA _ kw_68) (fun _ h9 => h9) rfl (by decide +kernel) rfl rfl (Nat.le_of_ble_eq_true rfl) hd (fun H1 locs1 h1 _ h3 => kk H1 locs1 h1 h3)
theorem gX3_0 (hx : p.tables.exec = Jvm.exec) (hb : c.code = cc) (htA : ∀ w ∈ wA, w.before args s = true) (hown : s.vm.findClass RX3 = some m.cls) (hK : va_K D vwCl [(cA, .int)] s) (hP : va_P D vwCl (wS cA ad τ ρ π γ) H) (hd : decode cc pc = .ok (.getfield 28, 3))
    (kk : W p l e R s m args below meth c H locs cells slots Q (F0 m (pc + 3) ls (.ref (ad 1) :: rest))) : W p l e R s m args below meth c H locs cells slots Q (F0 m pc ls (.ref (ad 3) :: rest)) :=
  va_get (D := D) (ci := 5) (v := .ref (ad 1)) (C := RX3) (T := TX3) (N := 7) hx hb htA iA_X3 hown hK hP (3) rfl rfl 0 (by decide) (htA _ kw_69) (fun _ h9 => h9) rfl hd kk
theorem gX3_1 (hx : p.tables.exec = Jvm.exec) (hb : c.code = cc) (htA : ∀ w ∈ wA, w.before args s = true) (hown : s.vm.findClass RX3 = some m.cls) (hK : va_K D vwCl [(cA, .int)] s) (hP : va_P D vwCl (wS cA ad τ ρ π γ) H) (hd : decode cc pc = .ok (.getfield 32, 3))
    (kk : W p l e R s m args below meth c H locs cells slots Q (F0 m (pc + 3) ls (.ref (ad 2) :: rest))) : W p l e R s m args below meth c H locs cells slots Q (F0 m pc ls (.ref (ad 3) :: rest)) :=
  va_get (D := D) (ci := 5) (v := .ref (ad 2)) (C := RX3) (T := TX3) (N := 7) hx hb htA iA_X3 hown hK hP (3) rfl rfl 1 (by decide) (htA _ kw_70) (fun _ h9 => h9) rfl hd kk
theorem gX4_0 (hx : p.tables.exec = Jvm.exec) (hb : c.code = cc) (htA : ∀ w ∈ wA, w.before args s = true) (hown : s.vm.findClass RX4 = some m.cls) (hK : va_K D vwCl [(cA, .int)] s) (hP : va_P D vwCl (wS cA ad τ ρ π γ) H) (hd : decode cc pc = .ok (.getfield 9, 3))
    (kk : W p l e R s m args below meth c H locs cells slots Q (F0 m (pc + 3) ls (.ref (ad 9) :: rest))) : W p l e R s m args below meth c H locs cells slots Q (F0 m pc ls (.ref (ad 2) :: rest)) :=
  va_get (D := D) (ci := 6) (v := .ref (ad 9)) (C := RX4) (T := TX4) (N := 3) hx hb htA iA_X4 hown hK hP (2) rfl rfl 0 (by decide) (htA _ kw_49) (fun _ h9 => h9) rfl hd kk
theorem gX4_1 (hx : p.tables.exec = Jvm.exec) (hb : c.code = cc) (htA : ∀ w ∈ wA, w.before args s = true) (hown : s.vm.findClass RX4 = some m.cls) (hK : va_K D vwCl [(cA, .int)] s) (hP : va_P D vwCl (wS cA ad τ ρ π γ) H) (hd : decode cc pc = .ok (.getfield 15, 3))
    (kk : W p l e R s m args below meth c H locs cells slots Q (F0 m (pc + 3) ls (.ref (ad 10) :: rest))) : W p l e R s m args below meth c H locs cells slots Q (F0 m pc ls (.ref (ad 2) :: rest)) :=
  va_get (D := D) (ci := 6) (v := .ref (ad 10)) (C := RX4) (T := TX4) (N := 3) hx hb htA iA_X4 hown hK hP (2) rfl rfl 1 (by decide) (htA _ kw_50) (fun _ h9 => h9) rfl hd kk
theorem gX4_2 (hx : p.tables.exec = Jvm.exec) (hb : c.code = cc) (htA : ∀ w ∈ wA, w.before args s = true) (hown : s.vm.findClass RX4 = some m.cls) (hK : va_K D vwCl [(cA, .int)] s) (hP : va_P D vwCl (wS cA ad τ ρ π γ) H) (hd : decode cc pc = .ok (.getfield 18, 3))
    (kk : W p l e R s m args below meth c H locs cells slots Q (F0 m (pc + 3) ls (.int (ρ.1 0) :: rest))) : W p l e R s m args below meth c H locs cells slots Q (F0 m pc ls (.ref (ad 2) :: rest)) :=
  va_get (D := D) (ci := 6) (v := .int (ρ.1 0)) (C := RX4) (T := TX4) (N := 3) hx hb htA iA_X4 hown hK hP (2) rfl rfl 2 (by decide) (htA _ kw_51) (fun _ h9 => h9) rfl hd kk
theorem pX4_2 {A : Nat → Prop} {H0 : Heap} (hx : p.tables.exec = Jvm.exec) (hb : c.code = cc) (htA : ∀ w ∈ wA, w.before args s = true) (hown : s.vm.findClass RX4 = some m.cls) (hK : va_K D vwCl [(cA, .int)] s) (hP : va_P D vwCl (wS cA ad τ ρ π γ) H) (had : Apart ad) (hA : ∀ q, aS ad q → A q) (hS : va_S A H0 H locs) {v : Int32} (hd : decode cc pc = .ok (.putfield 18, 3))
    (kk : ∀ (H1 : Heap) (locs1 : List Loc), va_P D vwCl (wS cA ad τ (si ρ 0 v) π γ) H1 → va_S A H0 H1 locs1 → W p l e R s m args below meth c H1 locs1 cells slots Q (F0 m (pc + 3) ls (rest))) : W p l e R s m args below meth c H locs cells slots Q (F0 m pc ls (.int v :: .ref (ad 2) :: rest)) :=
  va_put (D := D) (ci := 6) (v := .int v) (ty := .int) (C := RX4) (T := TX4) (N := 3) hx hb htA iA_X4 tyX4 tyX4_ok nmX4 hown hK hP (wS_D had τ ρ π γ hA) hS (2) rfl rfl 2 (by decide) (htA _ kw_51) (fun _ h9 => h9) rfl (by decide +kernel) rfl rfl (Nat.le_of_ble_eq_true rfl) hd (fun H1 locs1 h1 _ h3 => kk H1 locs1 h1 h3)
theorem gX5_3 (hx : p.tables.exec = Jvm.exec) (hb : c.code = cc) (htA : ∀ w ∈ wA, w.before args s = true) (hown : s.vm.findClass RX5 = some m.cls) (hK : va_K D vwCl [(cA, .int)] s) (hP : va_P D vwCl (wS cA ad τ ρ π γ) H) (hd : decode cc pc = .ok (.getfield 9, 3))
    (kk : W p l e R s m args below meth c H locs cells slots Q (F0 m (pc + 3) ls (.ref (ad 7) :: rest))) : W p l e R s m args below meth c H locs cells slots Q (F0 m pc ls (.ref (ad 1) :: rest)) :=
  va_get (D := D) (ci := 7) (v := .ref (ad 7)) (C := RX5) (T := TX5) (N := 5) hx hb htA iA_X5 hown hK hP (1) rfl rfl 3 (by decide) (htA _ kw_43) (fun _ h9 => h9) rfl hd kk
theorem gX5_4 (hx : p.tables.exec = Jvm.exec) (hb : c.code = cc) (htA : ∀ w ∈ wA, w.before args s = true) (hown : s.vm.findClass RX5 = some m.cls) (hK : va_K D vwCl [(cA, .int)] s) (hP : va_P D vwCl (wS cA ad τ ρ π γ) H) (hd : decode cc pc = .ok (.getfield 15, 3))
    (kk : W p l e R s m args below meth c H locs cells slots Q (F0 m (pc + 3) ls (.ref (ad 8) :: rest))) : W p l e R s m args below meth c H locs cells slots Q (F0 m pc ls (.ref (ad 1) :: rest)) :=
  va_get (D := D) (ci := 7) (v := .ref (ad 8)) (C := RX5) (T := TX5) (N := 5) hx hb htA iA_X5 hown hK hP (1) rfl rfl 4 (by decide) (htA _ kw_44) (fun _ h9 => h9) rfl hd kk
theorem gX5_0 (hx : p.tables.exec = Jvm.exec) (hb : c.code = cc) (htA : ∀ w ∈ wA, w.before args s = true) (hown : s.vm.findClass RX5 = some m.cls) (hK : va_K D vwCl [(cA, .int)] s) (hP : va_P D vwCl (wS cA ad τ ρ π γ) H) (hd : decode cc pc = .ok (.getfield 18, 3))
    (kk : W p l e R s m args below meth c H locs cells slots Q (F0 m (pc + 3) ls (.int (τ.1 0) :: rest))) : W p l e R s m args below meth c H locs cells slots Q (F0 m pc ls (.ref (ad 1) :: rest)) :=
  va_get (D := D) (ci := 7) (v := .int (τ.1 0)) (C := RX5) (T := TX5) (N := 5) hx hb htA iA_X5 hown hK hP (1) rfl rfl 0 (by decide) (htA _ kw_158) (fun _ h9 => h9) rfl hd kk
theorem pX5_0 {A : Nat → Prop} {H0 : Heap} (hx : p.tables.exec = Jvm.exec) (hb : c.code = cc) (htA : ∀ w ∈ wA, w.before args s = true) (hown : s.vm.findClass RX5 = some m.cls) (hK : va_K D vwCl [(cA, .int)] s) (hP : va_P D vwCl (wS cA ad τ ρ π γ) H) (had : Apart ad) (hA : ∀ q, aS ad q → A q) (hS : va_S A H0 H locs) {v : Int32} (hd : decode cc pc = .ok (.putfield 18, 3))
    (kk : ∀ (H1 : Heap) (locs1 : List Loc), va_P D vwCl (wS cA ad (si τ 0 v) ρ π γ) H1 → va_S A H0 H1 locs1 → W p l e R s m args below meth c H1 locs1 cells slots Q (F0 m (pc + 3) ls (rest))) : W p l e R s m args below meth c H locs cells slots Q (F0 m pc ls (.int v :: .ref (ad 1) :: rest)) :=
  va_put (D := D) (ci := 7) (v := .int v) (ty := .int) (C := RX5) (T := TX5) (N := 5) hx hb htA iA_X5 tyX5 tyX5_ok nmX5 hown hK hP (wS_D had τ ρ π γ hA) hS (1) rfl rfl 0 (by decide) (htA _ kw_158) (fun _ h9 => h9) rfl (by decide +kernel) rfl rfl (Nat.le_of_ble_eq_true rfl) hd (fun H1 locs1 h1 _ h3 => kk H1 locs1 h1 h3)
theorem gX5_1 (hx : p.tables.exec = Jvm.exec) (hb : c.code = cc) (htA : ∀ w ∈ wA, w.before args s = true) (hown : s.vm.findClass RX5 = some m.cls) (hK : va_K D vwCl [(cA, .int)] s) (hP : va_P D vwCl (wS cA ad τ ρ π γ) H) (hd : decode cc pc = .ok (.getfield 22, 3))
    (kk : W p l e R s m args below meth c H locs cells slots Q (F0 m (pc + 3) ls (.int (τ.1 1) :: rest))) : W p l e R s m args below meth c H locs cells slots Q (F0 m pc ls (.ref (ad 1) :: rest)) :=
  va_get (D := D) (ci := 7) (v := .int (τ.1 1)) (C := RX5) (T := TX5) (N := 5) hx hb htA iA_X5 hown hK hP (1) rfl rfl 1 (by decide) (htA _ kw_159) (fun _ h9 => h9) rfl hd kk
theorem pX5_1 {A : Nat → Prop} {H0 : Heap} (hx : p.tables.exec = Jvm.exec) (hb : c.code = cc) (htA : ∀ w ∈ wA, w.before args s = true) (hown : s.vm.findClass RX5 = some m.cls) (hK : va_K D vwCl [(cA, .int)] s) (hP : va_P D vwCl (wS cA ad τ ρ π γ) H) (had : Apart ad) (hA : ∀ q, aS ad q → A q) (hS : va_S A H0 H locs) {v : Int32} (hd : decode cc pc = .ok (.putfield 22, 3))
    (kk : ∀ (H1 : Heap) (locs1 : List Loc), va_P D vwCl (wS cA ad (si τ 1 v) ρ π γ) H1 → va_S A H0 H1 locs1 → W p l e R s m args below meth c H1 locs1 cells slots Q (F0 m (pc + 3) ls (rest))) : W p l e R s m args below meth c H locs cells slots Q (F0 m pc ls (.int v :: .ref (ad 1) :: rest)) :=
  va_put (D := D) (ci := 7) (v := .int v) (ty := .int) (C := RX5) (T := TX5) (N := 5) hx hb htA iA_X5 tyX5 tyX5_ok nmX5 hown hK hP (wS_D had τ ρ π γ hA) hS (1) rfl rfl 1 (by decide) (htA _ kw_159) (fun _ h9 => h9) rfl (by decide +kernel) rfl rfl (Nat.le_of_ble_eq_true rfl) hd (fun H1 locs1 h1 _ h3 => kk H1 locs1 h1 h3)
theorem gX5_2 (hx : p.tables.exec = Jvm.exec) (hb : c.code = cc) (htA : ∀ w ∈ wA, w.before args s = true) (hown : s.vm.findClass RX5 = some m.cls) (hK : va_K D vwCl [(cA, .int)] s) (hP : va_P D vwCl (wS cA ad τ ρ π γ) H) (hd : decode cc pc = .ok (.getfield 31, 3))
    (kk : W p l e R s m args below meth c H locs cells slots Q (F0 m (pc + 3) ls (.int (τ.1 2) :: rest))) : W p l e R s m args below meth c H locs cells slots Q (F0 m pc ls (.ref (ad 1) :: rest)) :=
  va_get (D := D) (ci := 7) (v := .int (τ.1 2)) (C := RX5) (T := TX5) (N := 5) hx hb htA iA_X5 hown hK hP (1) rfl rfl 2 (by decide) (htA _ kw_164) (fun _ h9 => h9) rfl hd kk
theorem pX5_2 {A : Nat → Prop} {H0 : Heap} (hx : p.tables.exec = Jvm.exec) (hb : c.code = cc) (htA : ∀ w ∈ wA, w.before args s = true) (hown : s.vm.findClass RX5 = some m.cls) (hK : va_K D vwCl [(cA, .int)] s) (hP : va_P D vwCl (wS cA ad τ ρ π γ) H) (had : Apart ad) (hA : ∀ q, aS ad q → A q) (hS : va_S A H0 H locs) {v : Int32} (hd : decode cc pc = .ok (.putfield 31, 3))
    (kk : ∀ (H1 : Heap) (locs1 : List Loc), va_P D vwCl (wS cA ad (si τ 2 v) ρ π γ) H1 → va_S A H0 H1 locs1 → W p l e R s m args below meth c H1 locs1 cells slots Q (F0 m (pc + 3) ls (rest))) : W p l e R s m args below meth c H locs cells slots Q (F0 m pc ls (.int v :: .ref (ad 1) :: rest)) :=
  va_put (D := D) (ci := 7) (v := .int v) (ty := .int) (C := RX5) (T := TX5) (N := 5) hx hb htA iA_X5 tyX5 tyX5_ok nmX5 hown hK hP (wS_D had τ ρ π γ hA) hS (1) rfl rfl 2 (by decide) (htA _ kw_164) (fun _ h9 => h9) rfl (by decide +kernel) rfl rfl (Nat.le_of_ble_eq_true rfl) hd (fun H1 locs1 h1 _ h3 => kk H1 locs1 h1 h3)
theorem gX6_4 (hx : p.tables.exec = Jvm.exec) (hb : c.code = cc) (htA : ∀ w ∈ wA, w.before args s = true) (hown : s.vm.findClass RX6 = some m.cls) (hK : va_K D vwCl [(cA, .int)] s) (hP : va_P D vwCl (wS cA ad τ ρ π γ) H) (hd : decode cc pc = .ok (.getfield 9, 3))
    (kk : W p l e R s m args below meth c H locs cells slots Q (F0 m (pc + 3) ls (.ref (ad 24) :: rest))) : W p l e R s m args below meth c H locs cells slots Q (F0 m pc ls (.ref (ad 4) :: rest)) :=
  va_get (D := D) (ci := 8) (v := .ref (ad 24)) (C := RX6) (T := TX6) (N := 6) hx hb htA iA_X6 hown hK hP (4) rfl rfl 4 (by decide) (htA _ kw_75) (fun _ h9 => h9) rfl hd kk
theorem gX6_0 (hx : p.tables.exec = Jvm.exec) (hb : c.code = cc) (htA : ∀ w ∈ wA, w.before args s = true) (hown : s.vm.findClass RX6 = some m.cls) (hK : va_K D vwCl [(cA, .int)] s) (hP : va_P D vwCl (wS cA ad τ ρ π γ) H) (hd : decode cc pc = .ok (.getfield 15, 3))
    (kk : W p l e R s m args below meth c H locs cells slots Q (F0 m (pc + 3) ls (.ref (ad 1) :: rest))) : W p l e R s m args below meth c H locs cells slots Q (F0 m pc ls (.ref (ad 4) :: rest)) :=
  va_get (D := D) (ci := 8) (v := .ref (ad 1)) (C := RX6) (T := TX6) (N := 6) hx hb htA iA_X6 hown hK hP (4) rfl rfl 0 (by decide) (htA _ kw_76) (fun _ h9 => h9) rfl hd kk
theorem gX6_1 (hx : p.tables.exec = Jvm.exec) (hb : c.code = cc) (htA : ∀ w ∈ wA, w.before args s = true) (hown : s.vm.findClass RX6 = some m.cls) (hK : va_K D vwCl [(cA, .int)] s) (hP : va_P D vwCl (wS cA ad τ ρ π γ) H) (hd : decode cc pc = .ok (.getfield 19, 3))
    (kk : W p l e R s m args below meth c H locs cells slots Q (F0 m (pc + 3) ls (.ref (ad 2) :: rest))) : W p l e R s m args below meth c H locs cells slots Q (F0 m pc ls (.ref (ad 4) :: rest)) :=
  va_get (D := D) (ci := 8) (v := .ref (ad 2)) (C := RX6) (T := TX6) (N := 6) hx hb htA iA_X6 hown hK hP (4) rfl rfl 1 (by decide) (htA _ kw_77) (fun _ h9 => h9) rfl hd kk
theorem gX6_5 (hx : p.tables.exec = Jvm.exec) (hb : c.code = cc) (htA : ∀ w ∈ wA, w.before args s = true) (hown : s.vm.findClass RX6 = some m.cls) (hK : va_K D vwCl [(cA, .int)] s) (hP : va_P D vwCl (wS cA ad τ ρ π γ) H) (hd : decode cc pc = .ok (.getfield 23, 3))
    (kk : W p l e R s m args below meth c H locs cells slots Q (F0 m (pc + 3) ls (.ref (ad 3) :: rest))) : W p l e R s m args below meth c H locs cells slots Q (F0 m pc ls (.ref (ad 4) :: rest)) :=
  va_get (D := D) (ci := 8) (v := .ref (ad 3)) (C := RX6) (T := TX6) (N := 6) hx hb htA iA_X6 hown hK hP (4) rfl rfl 5 (by decide) (htA _ kw_78) (fun _ h9 => h9) rfl hd kk
theorem pX6_5 {A : Nat → Prop} {H0 : Heap} (hx : p.tables.exec = Jvm.exec) (hb : c.code = cc) (htA : ∀ w ∈ wA, w.before args s = true) (hown : s.vm.findClass RX6 = some m.cls) (hK : va_K D vwCl [(cA, .int)] s) (hP : va_P D vwCl (wS cA ad τ ρ π γ) H) (had : Apart ad) (hA : ∀ q, aS ad q → A q) (hS : va_S A H0 H locs)  (hd : decode cc pc = .ok (.putfield 23, 3))
    (kk : ∀ (H1 : Heap) (locs1 : List Loc), va_P D vwCl (wS cA ad τ ρ π γ) H1 → va_S A H0 H1 locs1 → W p l e R s m args below meth c H1 locs1 cells slots Q (F0 m (pc + 3) ls (rest))) : W p l e R s m args below meth c H locs cells slots Q (F0 m pc ls (.ref (ad 3) :: .ref (ad 4) :: rest)) :=
  va_put (D := D) (ci := 8) (v := .ref (ad 3)) (ty := .object "Grainwright$Piece") (C := RX6) (T := TX6) (N := 6) hx hb htA iA_X6 tyX6 tyX6_ok nmX6 hown hK hP (wS_D had τ ρ π γ hA) hS (4) rfl rfl 5 (by decide) (htA _ kw_78) (fun _ h9 => h9) rfl (by decide +kernel) rfl rfl (Nat.le_of_ble_eq_true rfl) hd (fun H1 locs1 h1 _ h3 => kk H1 locs1 h1 h3)
theorem gX6_2 (hx : p.tables.exec = Jvm.exec) (hb : c.code = cc) (htA : ∀ w ∈ wA, w.before args s = true) (hown : s.vm.findClass RX6 = some m.cls) (hK : va_K D vwCl [(cA, .int)] s) (hP : va_P D vwCl (wS cA ad τ ρ π γ) H) (hd : decode cc pc = .ok (.getfield 32, 3))
    (kk : W p l e R s m args below meth c H locs cells slots Q (F0 m (pc + 3) ls (.ref (ad 5) :: rest))) : W p l e R s m args below meth c H locs cells slots Q (F0 m pc ls (.ref (ad 4) :: rest)) :=
  va_get (D := D) (ci := 8) (v := .ref (ad 5)) (C := RX6) (T := TX6) (N := 6) hx hb htA iA_X6 hown hK hP (4) rfl rfl 2 (by decide) (htA _ kw_82) (fun _ h9 => h9) rfl hd kk
theorem gX6_3 (hx : p.tables.exec = Jvm.exec) (hb : c.code = cc) (htA : ∀ w ∈ wA, w.before args s = true) (hown : s.vm.findClass RX6 = some m.cls) (hK : va_K D vwCl [(cA, .int)] s) (hP : va_P D vwCl (wS cA ad τ ρ π γ) H) (hd : decode cc pc = .ok (.getfield 36, 3))
    (kk : W p l e R s m args below meth c H locs cells slots Q (F0 m (pc + 3) ls (.ref (ad 6) :: rest))) : W p l e R s m args below meth c H locs cells slots Q (F0 m pc ls (.ref (ad 4) :: rest)) :=
  va_get (D := D) (ci := 8) (v := .ref (ad 6)) (C := RX6) (T := TX6) (N := 6) hx hb htA iA_X6 hown hK hP (4) rfl rfl 3 (by decide) (htA _ kw_83) (fun _ h9 => h9) rfl hd kk
theorem gX7_0 (hx : p.tables.exec = Jvm.exec) (hb : c.code = cc) (htA : ∀ w ∈ wA, w.before args s = true) (hown : s.vm.findClass RX7 = some m.cls) (hK : va_K D vwCl [(cA, .int)] s) (hP : va_P D vwCl (wS cA ad τ ρ π γ) H) (hd : decode cc pc = .ok (.getfield 12, 3))
    (kk : W p l e R s m args below meth c H locs cells slots Q (F0 m (pc + 3) ls (.ref (ad 1) :: rest))) : W p l e R s m args below meth c H locs cells slots Q (F0 m pc ls (.ref (ad 0) :: rest)) :=
  va_get (D := D) (ci := 9) (v := .ref (ad 1)) (C := RX7) (T := TX7) (N := 7) hx hb htA iA_X7 hown hK hP (0) rfl rfl 0 (by decide) (htA _ kw_17) (fun _ h9 => h9) rfl hd kk
theorem gX7_1 (hx : p.tables.exec = Jvm.exec) (hb : c.code = cc) (htA : ∀ w ∈ wA, w.before args s = true) (hown : s.vm.findClass RX7 = some m.cls) (hK : va_K D vwCl [(cA, .int)] s) (hP : va_P D vwCl (wS cA ad τ ρ π γ) H) (hd : decode cc pc = .ok (.getfield 19, 3))
    (kk : W p l e R s m args below meth c H locs cells slots Q (F0 m (pc + 3) ls (.ref (ad 2) :: rest))) : W p l e R s m args below meth c H locs cells slots Q (F0 m pc ls (.ref (ad 0) :: rest)) :=
  va_get (D := D) (ci := 9) (v := .ref (ad 2)) (C := RX7) (T := TX7) (N := 7) hx hb htA iA_X7 hown hK hP (0) rfl rfl 1 (by decide) (htA _ kw_21) (fun _ h9 => h9) rfl hd kk
theorem gX7_2 (hx : p.tables.exec = Jvm.exec) (hb : c.code = cc) (htA : ∀ w ∈ wA, w.before args s = true) (hown : s.vm.findClass RX7 = some m.cls) (hK : va_K D vwCl [(cA, .int)] s) (hP : va_P D vwCl (wS cA ad τ ρ π γ) H) (hd : decode cc pc = .ok (.getfield 28, 3))
    (kk : W p l e R s m args below meth c H locs cells slots Q (F0 m (pc + 3) ls (.ref (ad 3) :: rest))) : W p l e R s m args below meth c H locs cells slots Q (F0 m pc ls (.ref (ad 0) :: rest)) :=
  va_get (D := D) (ci := 9) (v := .ref (ad 3)) (C := RX7) (T := TX7) (N := 7) hx hb htA iA_X7 hown hK hP (0) rfl rfl 2 (by decide) (htA _ kw_25) (fun _ h9 => h9) rfl hd kk
theorem gX7_3 (hx : p.tables.exec = Jvm.exec) (hb : c.code = cc) (htA : ∀ w ∈ wA, w.before args s = true) (hown : s.vm.findClass RX7 = some m.cls) (hK : va_K D vwCl [(cA, .int)] s) (hP : va_P D vwCl (wS cA ad τ ρ π γ) H) (hd : decode cc pc = .ok (.getfield 32, 3))
    (kk : W p l e R s m args below meth c H locs cells slots Q (F0 m (pc + 3) ls (.ref (ad 25) :: rest))) : W p l e R s m args below meth c H locs cells slots Q (F0 m pc ls (.ref (ad 0) :: rest)) :=
  va_get (D := D) (ci := 9) (v := .ref (ad 25)) (C := RX7) (T := TX7) (N := 7) hx hb htA iA_X7 hown hK hP (0) rfl rfl 3 (by decide) (htA _ kw_26) (fun _ h9 => h9) rfl hd kk
theorem gX7_4 (hx : p.tables.exec = Jvm.exec) (hb : c.code = cc) (htA : ∀ w ∈ wA, w.before args s = true) (hown : s.vm.findClass RX7 = some m.cls) (hK : va_K D vwCl [(cA, .int)] s) (hP : va_P D vwCl (wS cA ad τ ρ π γ) H) (hd : decode cc pc = .ok (.getfield 40, 3))
    (kk : W p l e R s m args below meth c H locs cells slots Q (F0 m (pc + 3) ls (.ref (ad 4) :: rest))) : W p l e R s m args below meth c H locs cells slots Q (F0 m pc ls (.ref (ad 0) :: rest)) :=
  va_get (D := D) (ci := 9) (v := .ref (ad 4)) (C := RX7) (T := TX7) (N := 7) hx hb htA iA_X7 hown hK hP (0) rfl rfl 4 (by decide) (htA _ kw_30) (fun _ h9 => h9) rfl hd kk
theorem gX7_5 (hx : p.tables.exec = Jvm.exec) (hb : c.code = cc) (htA : ∀ w ∈ wA, w.before args s = true) (hown : s.vm.findClass RX7 = some m.cls) (hK : va_K D vwCl [(cA, .int)] s) (hP : va_P D vwCl (wS cA ad τ ρ π γ) H) (hd : decode cc pc = .ok (.getfield 47, 3))
    (kk : W p l e R s m args below meth c H locs cells slots Q (F0 m (pc + 3) ls (.ref (ad 26) :: rest))) : W p l e R s m args below meth c H locs cells slots Q (F0 m pc ls (.ref (ad 0) :: rest)) :=
  va_get (D := D) (ci := 9) (v := .ref (ad 26)) (C := RX7) (T := TX7) (N := 7) hx hb htA iA_X7 hown hK hP (0) rfl rfl 5 (by decide) (htA _ kw_34) (fun _ h9 => h9) rfl hd kk
theorem gX7_6 (hx : p.tables.exec = Jvm.exec) (hb : c.code = cc) (htA : ∀ w ∈ wA, w.before args s = true) (hown : s.vm.findClass RX7 = some m.cls) (hK : va_K D vwCl [(cA, .int)] s) (hP : va_P D vwCl (wS cA ad τ ρ π γ) H) (hd : decode cc pc = .ok (.getfield 54, 3))
    (kk : W p l e R s m args below meth c H locs cells slots Q (F0 m (pc + 3) ls (.ref (ad 27) :: rest))) : W p l e R s m args below meth c H locs cells slots Q (F0 m pc ls (.ref (ad 0) :: rest)) :=
  va_get (D := D) (ci := 9) (v := .ref (ad 27)) (C := RX7) (T := TX7) (N := 7) hx hb htA iA_X7 hown hK hP (0) rfl rfl 6 (by decide) (htA _ kw_38) (fun _ h9 => h9) rfl hd kk
end FLD

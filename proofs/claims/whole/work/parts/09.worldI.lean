def wI (E : Ev) (a : Nat → Nat) (σ : St) : va_W := [
  (a 0, .inr (9, [.ref (a 100), .ref (a 200), .ref (a 300), .ref (a 400), .ref (a 500), .ref (a 700), .ref (a 900), .int (σ.1 7)])),
  (a 100, .inr (8, [.int (σ.1 100), .int (σ.1 101), .ref (a 103), .ref (a 104), .ref (a 105), .ref (a 106), .ref (a 107), .ref (a 108), .ref (a 109)])),
  (a 103, .inl (E.2.1 0, 40, .inl (σ.2 102))),
  (a 104, .inl (E.2.1 0, 40, .inl (σ.2 103))),
  (a 105, .inl (E.2.1 0, 40, .inl (σ.2 104))),
  (a 106, .inl (E.2.1 0, 40, .inl (σ.2 105))),
  (a 107, .inl (E.2.1 0, 40, .inl (σ.2 106))),
  (a 108, .inl (E.2.1 0, 6, .inl (σ.2 107))),
  (a 109, .inl (E.2.1 0, 12, .inl (σ.2 108))),
  (a 200, .inr (3, [.ref (a 201), .ref (a 202), .ref (a 203)])),
  (a 201, .inl (E.2.1 0, 4, .inl (σ.2 200))),
  (a 202, .inl (E.2.1 0, 4, .inl (σ.2 201))),
  (a 203, .inl (E.2.1 4, 4, .inr (.inr (.inr (.inr (fun i => some (a (250 + i)))))))),
  (a 250, .inl (E.2.1 0, 9, .inl (σ.2 250))),
  (a 251, .inl (E.2.1 0, 9, .inl (σ.2 251))),
  (a 252, .inl (E.2.1 0, 9, .inl (σ.2 252))),
  (a 253, .inl (E.2.1 0, 9, .inl (σ.2 253))),
  (a 300, .inr (5, [.int (σ.1 300), .ref (a 302), .ref (a 303), .ref (a 304), .ref (a 305), .ref (a 306)])),
  (a 302, .inl (E.2.1 0, 16, .inl (σ.2 301))),
  (a 303, .inl (E.2.1 0, 16, .inl (σ.2 302))),
  (a 304, .inl (E.2.1 0, 16, .inl (σ.2 303))),
  (a 305, .inl (E.2.1 0, 16, .inl (σ.2 304))),
  (a 306, .inl (E.2.1 0, 16, .inl (σ.2 305))),
  (a 400, .inr (7, [.int (σ.1 400), .ref (a 402)])),
  (a 402, .inl (E.2.1 1, 300, .inl (σ.2 401))),
  (a 500, .inr (0, [.ref (a 600), .ref (a 502), .int (σ.1 502)])),
  (a 502, .inl (E.2.1 0, 6, .inl (σ.2 501))),
  (a 600, .inr (1, [.ref (a 601), .int (σ.1 601), .int (σ.1 602), .int (σ.1 603), .int (σ.1 604)])),
  (a 601, .inl (E.2.1 0, 6, .inl (σ.2 600))),
  (a 700, .inr (2, [.int (σ.1 700), .int (σ.1 701), .int (σ.1 702), .int (σ.1 703), .int (σ.1 704), .int (σ.1 705), .int (σ.1 706), .int (σ.1 707), .ref (a 709), .ref (a 710), .ref (a 711), .ref (a 712), .ref (a 713), .ref (a 800)])),
  (a 709, .inl (E.2.1 0, 16, .inl (σ.2 708))),
  (a 710, .inl (E.2.1 0, 16, .inl (σ.2 709))),
  (a 711, .inl (E.2.1 2, 16, .inl (σ.2 710))),
  (a 712, .inl (E.2.1 0, 16, .inl (σ.2 711))),
  (a 713, .inl (E.2.1 0, 4, .inl (σ.2 712))),
  (a 800, .inr (4, [.ref (a 801), .ref (a 802), .ref (a 803), .ref (a 804), .ref (a 805)])),
  (a 801, .inl (E.2.1 2, 64, .inl (σ.2 800))),
  (a 802, .inl (E.2.1 0, 64, .inl (σ.2 801))),
  (a 803, .inl (E.2.1 0, 64, .inl (σ.2 802))),
  (a 804, .inl (E.2.1 0, 384, .inl (σ.2 803))),
  (a 805, .inl (E.2.1 0, 384, .inl (σ.2 804))),
  (a 900, .inr (6, [.ref (a 901), .ref (a 902), .ref (a 903)])),
  (a 901, .inl (E.2.1 2, 16, .inl (σ.2 900))),
  (a 902, .inl (E.2.1 0, 16, .inl (σ.2 901))),
  (a 903, .inl (E.2.1 0, 16, .inl (σ.2 902)))]
theorem inU_X10 : ∀ w ∈ wsX100, w ∈ UW := by decide +kernel
theorem inU_X8 : ∀ w ∈ wsX80, w ∈ UW := by decide +kernel
theorem inU_X3 : ∀ w ∈ wsX30, w ∈ UW := by decide +kernel
theorem inU_X5 : ∀ w ∈ wsX50, w ∈ UW := by decide +kernel
theorem inU_X7 : ∀ w ∈ wsX70, w ∈ UW := by decide +kernel
theorem inU_X0 : ∀ w ∈ wsX00, w ∈ UW := by decide +kernel
theorem inU_X1 : ∀ w ∈ wsX10, w ∈ UW := by decide +kernel
theorem inU_X2 : ∀ w ∈ wsX20, w ∈ UW := by decide +kernel
theorem inU_X4 : ∀ w ∈ wsX40, w ∈ UW := by decide +kernel
theorem inU_X6 : ∀ w ∈ wsX60, w ∈ UW := by decide +kernel
theorem wI_row {E : Ev} {a : Nat → Nat} {σ : St} : ∀ j : Nat, j < 4 → (wI E a σ)[13 + j]? = some (a (250 + j), .inl (E.2.1 0, 9, .inl (σ.2 (250 + j))))
  | 0, _ => rfl
  | 1, _ => rfl
  | 2, _ => rfl
  | 3, _ => rfl
  | j + 4, h => absurd h (by omega)
theorem wI_rowset {E : Ev} {a : Nat → Nat} {σ : St} : ∀ j : Nat, j < 4 → ∀ f : Nat → Int32, (wI E a σ).set (13 + j) (a (250 + j), .inl (E.2.1 0, 9, .inl f)) = wI E a (pC σ (250 + j) f)
  | 0, _, _ => rfl
  | 1, _, _ => rfl
  | 2, _, _ => rfl
  | 3, _, _ => rfl
  | j + 4, h, _ => absurd h (by omega)
theorem arI {X : Kx} {l : Launch} {E : Ev} {a : Nat → Nat} {σ : St} {cc : ByteArray} {rm : Room} {ret : Option FieldType} {pc : Nat} {lv : List (Option Value)} {st : List Value} {own : String} {i : Int32} (C : Cx X l E own cc rm ret) (hin : vp_in i 4) (d : decode cc pc = .ok (.aaload, 1)) (k : G X (wI E a) σ (pc + 1) lv (.ref (a (250 + i.toNatClampNeg)) :: st)) : G X (wI E a) σ pc lv (.int i :: .ref (a 203) :: st) := g_aald C (q0 := 12) (f := fun i => some (a (250 + i))) rfl hin d k
theorem alI_row {X : Kx} {l : Launch} {E : Ev} {a : Nat → Nat} {σ : St} {cc : ByteArray} {rm : Room} {ret : Option FieldType} {pc : Nat} {lv : List (Option Value)} {st : List Value} {own : String} {i : Int32} {j : Nat} (C : Cx X l E own cc rm ret) (hj : j < 4) (hin : vp_in i 9) (d : decode cc pc = .ok (.iaload, 1)) (k : G X (wI E a) σ (pc + 1) lv (.int (σ.2 (250 + j) i.toNatClampNeg) :: st)) : G X (wI E a) σ pc lv (.int i :: .ref (a (250 + j)) :: st) := g_iald C (wI_row j hj) hin d k
theorem asI_row {X : Kx} {l : Launch} {E : Ev} {a : Nat → Nat} {σ : St} {cc : ByteArray} {rm : Room} {ret : Option FieldType} {pc : Nat} {lv : List (Option Value)} {st : List Value} {own : String} {i x : Int32} {j : Nat} (C : Cx X l E own cc rm ret) (hj : j < 4) (hin : vp_in i 9) (d : decode cc pc = .ok (.iastore, 1)) (k : G X (wI E a) (pA σ (250 + j) i.toNatClampNeg x) (pc + 1) lv st) : G X (wI E a) σ pc lv (.int x :: .int i :: .ref (a (250 + j)) :: st) := g_iast C (wI_row j hj) (wI_rowset j hj _) hin d k

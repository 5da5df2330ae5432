theorem fgI_X7_9 {X : Kx} {l : Launch} {E : Ev} {a : Nat → Nat} {σ : St} {cc : ByteArray} {rm : Room} {ret : Option FieldType} {pc : Nat} {lv : List (Option Value)} {st : List Value} (C : Cx X l E RX7 cc rm ret) (d : decode cc pc = .ok (.getfield 9, 3)) (k : G X (wI E a) σ (pc + 3) lv (.int (σ.1 400) :: st)) : G X (wI E a) σ pc lv (.ref (a 400) :: st) := g_get C (q0 := 23) (ci := 7) (k := 0) rfl rfl inU_X7 (by decide) (by decide +kernel) rfl d k
theorem fgI_X7_15 {X : Kx} {l : Launch} {E : Ev} {a : Nat → Nat} {σ : St} {cc : ByteArray} {rm : Room} {ret : Option FieldType} {pc : Nat} {lv : List (Option Value)} {st : List Value} (C : Cx X l E RX7 cc rm ret) (d : decode cc pc = .ok (.getfield 15, 3)) (k : G X (wI E a) σ (pc + 3) lv (.ref (a 402) :: st)) : G X (wI E a) σ pc lv (.ref (a 400) :: st) := g_get C (q0 := 23) (ci := 7) (k := 1) rfl rfl inU_X7 (by decide) (by decide +kernel) rfl d k
theorem alI_401 {X : Kx} {l : Launch} {E : Ev} {a : Nat → Nat} {σ : St} {cc : ByteArray} {rm : Room} {ret : Option FieldType} {pc : Nat} {lv : List (Option Value)} {st : List Value} {own : String} {i : Int32} (C : Cx X l E own cc rm ret) (hin : vp_in i 300) (d : decode cc pc = .ok (.baload, 1)) (k : G X (wI E a) σ (pc + 1) lv (.int (σ.2 401 i.toNatClampNeg) :: st)) : G X (wI E a) σ pc lv (.int i :: .ref (a 402) :: st) := g_bald C (q0 := 24) rfl hin d k
/-! IceRun$Tape.byteAt(I)I -/
abbrev rmI_X7_byteAt : Room := { frames := 0, cells := 0, slots := 0, locals := 0 }
def wpI_X7_byteAt_26 (s0 : Int32) (σ : St) (post : Int32 → St → Prop) : Prop := post s0 σ
theorem kI_X7_byteAt_26 {X : Kx} {l : Launch} {E : Ev} {a : Nat → Nat} {post : Int32 → St → Prop} (C : Cx X l E RX7 cX7_byteAt rmI_X7_byteAt (some .int)) (hQ : QI X (wI E a) post) (s0 : Int32) (σ : St) (h : wpI_X7_byteAt_26  s0 σ post) : G X (wI E a) σ 26 [none, none] [.int s0] := by
  unfold wpI_X7_byteAt_26 at h
  exact g_ireturn C hQ dX7_byteAt_26 h
def wpI_X7_byteAt_25 (σ : St) (post : Int32 → St → Prop) : Prop := wpI_X7_byteAt_26 (-1) σ post
theorem kI_X7_byteAt_25 {X : Kx} {l : Launch} {E : Ev} {a : Nat → Nat} {post : Int32 → St → Prop} (C : Cx X l E RX7 cX7_byteAt rmI_X7_byteAt (some .int)) (hQ : QI X (wI E a) post) (σ : St) (h : wpI_X7_byteAt_25   σ post) : G X (wI E a) σ 25 [none, none] [] := by
  unfold wpI_X7_byteAt_25 at h
  refine g_iconst_m1 C dX7_byteAt_25 ?_
  exact g_wk (kI_X7_byteAt_26 C hQ _ _ h) (trivial)
def wpI_X7_byteAt (x1 : Int32) (σ : St) (post : Int32 → St → Prop) : Prop := ((x1 < 0 → wpI_X7_byteAt_25 σ post) ∧ (¬ x1 < 0 → (((σ.1 400) ≤ x1 → wpI_X7_byteAt_25 σ post) ∧ (¬ (σ.1 400) ≤ x1 → vp_in x1 300 ∧ (wpI_X7_byteAt_26 ((σ.2 401 (Int32.toNatClampNeg x1)) &&& 255) σ post)))))
theorem kI_X7_byteAt {X : Kx} {l : Launch} {E : Ev} {a : Nat → Nat} {post : Int32 → St → Prop} (C : Cx X l E RX7 cX7_byteAt rmI_X7_byteAt (some .int)) (hQ : QI X (wI E a) post) (x1 : Int32) (σ : St) (h : wpI_X7_byteAt x1 σ post) : G X (wI E a) σ 0 [some (.ref (a 400)), some (.int x1)] [] := by
  unfold wpI_X7_byteAt at h
  refine g_iload_1 C dX7_byteAt_0 rfl ?_
  refine g_if_lt C 25 dX7_byteAt_1 (by decide) (fun q => ?_) (fun q => ?_)
  · have h := h.1 q
    exact g_wk (kI_X7_byteAt_25 C hQ _ h) (trivial)
  · have h := h.2 q
    refine g_iload_1 C dX7_byteAt_4 rfl ?_
    refine g_aload_0 C dX7_byteAt_5 rfl ?_
    refine fgI_X7_9 C dX7_byteAt_6 ?_
    refine g_icmp_ge C 25 dX7_byteAt_9 (by decide) (fun q => ?_) (fun q => ?_)
    · have h := h.1 q
      exact g_wk (kI_X7_byteAt_25 C hQ _ h) (trivial)
    · have h := h.2 q
      refine g_aload_0 C dX7_byteAt_12 rfl ?_
      refine fgI_X7_15 C dX7_byteAt_13 ?_
      refine g_iload_1 C dX7_byteAt_16 rfl ?_
      obtain ⟨q, h⟩ := h
      refine alI_401 C q dX7_byteAt_17 ?_
      refine g_sipush C (v := 255) (by decide) dX7_byteAt_18 ?_
      refine g_iand C dX7_byteAt_21 ?_
      refine g_goto C 26 dX7_byteAt_22 (by decide) ?_
      exact g_wk (kI_X7_byteAt_26 C hQ _ _ h) (trivial)
theorem cI_X7_byteAt {l : Launch} {E : Ev} {a : Nat → Nat} {x1 : Int32} {σ : St} {post : Int32 → St → Prop} (h : wpI_X7_byteAt x1 σ post) : CI l E (wI E a) yX7_byteAt cX7_byteAt 2 .int rmI_X7_byteAt [.ref (a 400), .int x1] σ post := met_i (by decide) rfl (Nat.le_of_ble_eq_true rfl) rfl (fun X C hQ => kI_X7_byteAt C hQ _ _ h)
/-! IceRun$LawReader.isBlank(I)Z -/
abbrev rmI_X1_isBlank : Room := { frames := 0, cells := 0, slots := 0, locals := 0 }
def wpI_X1_isBlank_17 (s0 : Int32) (σ : St) (post : Int32 → St → Prop) : Prop := (s0 = 0 ∨ s0 = 1) ∧ post s0 σ
theorem kI_X1_isBlank_17 {X : Kx} {l : Launch} {E : Ev} {a : Nat → Nat} {post : Int32 → St → Prop} (C : Cx X l E RX1 cX1_isBlank rmI_X1_isBlank (some .boolean)) (hQ : QI X (wI E a) post) (s0 : Int32) (σ : St) (h : wpI_X1_isBlank_17  s0 σ post) : G X (wI E a) σ 17 [none] [.int s0] := by
  unfold wpI_X1_isBlank_17 at h
  exact g_zreturn C hQ dX1_isBlank_17 h.1 h.2
def wpI_X1_isBlank_12 (σ : St) (post : Int32 → St → Prop) : Prop := wpI_X1_isBlank_17 1 σ post
theorem kI_X1_isBlank_12 {X : Kx} {l : Launch} {E : Ev} {a : Nat → Nat} {post : Int32 → St → Prop} (C : Cx X l E RX1 cX1_isBlank rmI_X1_isBlank (some .boolean)) (hQ : QI X (wI E a) post) (σ : St) (h : wpI_X1_isBlank_12   σ post) : G X (wI E a) σ 12 [none] [] := by
  unfold wpI_X1_isBlank_12 at h
  refine g_iconst_1 C dX1_isBlank_12 ?_
  refine g_goto C 17 dX1_isBlank_13 (by decide) ?_
  exact g_wk (kI_X1_isBlank_17 C hQ _ _ h) (trivial)
def wpI_X1_isBlank (x0 : Int32) (σ : St) (post : Int32 → St → Prop) : Prop := ((x0 = 32 → wpI_X1_isBlank_12 σ post) ∧ (¬ x0 = 32 → ((¬ x0 = 10 → wpI_X1_isBlank_17 0 σ post) ∧ (x0 = 10 → wpI_X1_isBlank_12 σ post))))
theorem kI_X1_isBlank {X : Kx} {l : Launch} {E : Ev} {a : Nat → Nat} {post : Int32 → St → Prop} (C : Cx X l E RX1 cX1_isBlank rmI_X1_isBlank (some .boolean)) (hQ : QI X (wI E a) post) (x0 : Int32) (σ : St) (h : wpI_X1_isBlank x0 σ post) : G X (wI E a) σ 0 [some (.int x0)] [] := by
  unfold wpI_X1_isBlank at h
  refine g_iload_0 C dX1_isBlank_0 rfl ?_
  refine g_bipush C (v := 32) (by decide) dX1_isBlank_1 ?_
  refine g_icmp_eq C 12 dX1_isBlank_3 (by decide) (fun q => ?_) (fun q => ?_)
  · have h := h.1 q
    exact g_wk (kI_X1_isBlank_12 C hQ _ h) (trivial)
  · have h := h.2 q
    refine g_iload_0 C dX1_isBlank_6 rfl ?_
    refine g_bipush C (v := 10) (by decide) dX1_isBlank_7 ?_
    refine g_icmp_ne C 16 dX1_isBlank_9 (by decide) (fun q => ?_) (fun q => ?_)
    · have h := h.1 q
      refine g_iconst_0 C dX1_isBlank_16 ?_
      exact g_wk (kI_X1_isBlank_17 C hQ _ _ h) (trivial)
    · have h := h.2 q
      exact g_wk (kI_X1_isBlank_12 C hQ _ h) (trivial)
theorem cI_X1_isBlank {l : Launch} {E : Ev} {a : Nat → Nat} {x0 : Int32} {σ : St} {post : Int32 → St → Prop} (h : wpI_X1_isBlank x0 σ post) : CI l E (wI E a) yX1_isBlank cX1_isBlank 1 .boolean rmI_X1_isBlank [.int x0] σ post := met_i (by decide) rfl (Nat.le_of_ble_eq_true rfl) rfl (fun X C hQ => kI_X1_isBlank C hQ _ _ h)
/-! IceRun$LawReader.isLetter(I)Z -/
abbrev rmI_X1_isLetter : Room := { frames := 0, cells := 0, slots := 0, locals := 0 }
def wpI_X1_isLetter_17 (s0 : Int32) (σ : St) (post : Int32 → St → Prop) : Prop := (s0 = 0 ∨ s0 = 1) ∧ post s0 σ
theorem kI_X1_isLetter_17 {X : Kx} {l : Launch} {E : Ev} {a : Nat → Nat} {post : Int32 → St → Prop} (C : Cx X l E RX1 cX1_isLetter rmI_X1_isLetter (some .boolean)) (hQ : QI X (wI E a) post) (s0 : Int32) (σ : St) (h : wpI_X1_isLetter_17  s0 σ post) : G X (wI E a) σ 17 [none] [.int s0] := by
  unfold wpI_X1_isLetter_17 at h
  exact g_zreturn C hQ dX1_isLetter_17 h.1 h.2
def wpI_X1_isLetter_16 (σ : St) (post : Int32 → St → Prop) : Prop := wpI_X1_isLetter_17 0 σ post
theorem kI_X1_isLetter_16 {X : Kx} {l : Launch} {E : Ev} {a : Nat → Nat} {post : Int32 → St → Prop} (C : Cx X l E RX1 cX1_isLetter rmI_X1_isLetter (some .boolean)) (hQ : QI X (wI E a) post) (σ : St) (h : wpI_X1_isLetter_16   σ post) : G X (wI E a) σ 16 [none] [] := by
  unfold wpI_X1_isLetter_16 at h
  refine g_iconst_0 C dX1_isLetter_16 ?_
  exact g_wk (kI_X1_isLetter_17 C hQ _ _ h) (trivial)
def wpI_X1_isLetter (x0 : Int32) (σ : St) (post : Int32 → St → Prop) : Prop := ((x0 < 97 → wpI_X1_isLetter_16 σ post) ∧ (¬ x0 < 97 → ((122 < x0 → wpI_X1_isLetter_16 σ post) ∧ (¬ 122 < x0 → wpI_X1_isLetter_17 1 σ post))))
theorem kI_X1_isLetter {X : Kx} {l : Launch} {E : Ev} {a : Nat → Nat} {post : Int32 → St → Prop} (C : Cx X l E RX1 cX1_isLetter rmI_X1_isLetter (some .boolean)) (hQ : QI X (wI E a) post) (x0 : Int32) (σ : St) (h : wpI_X1_isLetter x0 σ post) : G X (wI E a) σ 0 [some (.int x0)] [] := by
  unfold wpI_X1_isLetter at h
  refine g_iload_0 C dX1_isLetter_0 rfl ?_
  refine g_bipush C (v := 97) (by decide) dX1_isLetter_1 ?_
  refine g_icmp_lt C 16 dX1_isLetter_3 (by decide) (fun q => ?_) (fun q => ?_)
  · have h := h.1 q
    exact g_wk (kI_X1_isLetter_16 C hQ _ h) (trivial)
  · have h := h.2 q
    refine g_iload_0 C dX1_isLetter_6 rfl ?_
    refine g_bipush C (v := 122) (by decide) dX1_isLetter_7 ?_
    refine g_icmp_gt C 16 dX1_isLetter_9 (by decide) (fun q => ?_) (fun q => ?_)
    · have h := h.1 q
      exact g_wk (kI_X1_isLetter_16 C hQ _ h) (trivial)
    · have h := h.2 q
      refine g_iconst_1 C dX1_isLetter_12 ?_
      refine g_goto C 17 dX1_isLetter_13 (by decide) ?_
      exact g_wk (kI_X1_isLetter_17 C hQ _ _ h) (trivial)
theorem cI_X1_isLetter {l : Launch} {E : Ev} {a : Nat → Nat} {x0 : Int32} {σ : St} {post : Int32 → St → Prop} (h : wpI_X1_isLetter x0 σ post) : CI l E (wI E a) yX1_isLetter cX1_isLetter 1 .boolean rmI_X1_isLetter [.int x0] σ post := met_i (by decide) rfl (Nat.le_of_ble_eq_true rfl) rfl (fun X C hQ => kI_X1_isLetter C hQ _ _ h)
/-! IceRun$LawReader.isDigit(I)Z -/
abbrev rmI_X1_isDigit : Room := { frames := 0, cells := 0, slots := 0, locals := 0 }
def wpI_X1_isDigit_17 (s0 : Int32) (σ : St) (post : Int32 → St → Prop) : Prop := (s0 = 0 ∨ s0 = 1) ∧ post s0 σ
theorem kI_X1_isDigit_17 {X : Kx} {l : Launch} {E : Ev} {a : Nat → Nat} {post : Int32 → St → Prop} (C : Cx X l E RX1 cX1_isDigit rmI_X1_isDigit (some .boolean)) (hQ : QI X (wI E a) post) (s0 : Int32) (σ : St) (h : wpI_X1_isDigit_17  s0 σ post) : G X (wI E a) σ 17 [none] [.int s0] := by
  unfold wpI_X1_isDigit_17 at h
  exact g_zreturn C hQ dX1_isDigit_17 h.1 h.2
def wpI_X1_isDigit_16 (σ : St) (post : Int32 → St → Prop) : Prop := wpI_X1_isDigit_17 0 σ post
theorem kI_X1_isDigit_16 {X : Kx} {l : Launch} {E : Ev} {a : Nat → Nat} {post : Int32 → St → Prop} (C : Cx X l E RX1 cX1_isDigit rmI_X1_isDigit (some .boolean)) (hQ : QI X (wI E a) post) (σ : St) (h : wpI_X1_isDigit_16   σ post) : G X (wI E a) σ 16 [none] [] := by
  unfold wpI_X1_isDigit_16 at h
  refine g_iconst_0 C dX1_isDigit_16 ?_
  exact g_wk (kI_X1_isDigit_17 C hQ _ _ h) (trivial)
def wpI_X1_isDigit (x0 : Int32) (σ : St) (post : Int32 → St → Prop) : Prop := ((x0 < 48 → wpI_X1_isDigit_16 σ post) ∧ (¬ x0 < 48 → ((57 < x0 → wpI_X1_isDigit_16 σ post) ∧ (¬ 57 < x0 → wpI_X1_isDigit_17 1 σ post))))
theorem kI_X1_isDigit {X : Kx} {l : Launch} {E : Ev} {a : Nat → Nat} {post : Int32 → St → Prop} (C : Cx X l E RX1 cX1_isDigit rmI_X1_isDigit (some .boolean)) (hQ : QI X (wI E a) post) (x0 : Int32) (σ : St) (h : wpI_X1_isDigit x0 σ post) : G X (wI E a) σ 0 [some (.int x0)] [] := by
  unfold wpI_X1_isDigit at h
  refine g_iload_0 C dX1_isDigit_0 rfl ?_
  refine g_bipush C (v := 48) (by decide) dX1_isDigit_1 ?_
  refine g_icmp_lt C 16 dX1_isDigit_3 (by decide) (fun q => ?_) (fun q => ?_)
  · have h := h.1 q
    exact g_wk (kI_X1_isDigit_16 C hQ _ h) (trivial)
  · have h := h.2 q
    refine g_iload_0 C dX1_isDigit_6 rfl ?_
    refine g_bipush C (v := 57) (by decide) dX1_isDigit_7 ?_
    refine g_icmp_gt C 16 dX1_isDigit_9 (by decide) (fun q => ?_) (fun q => ?_)
    · have h := h.1 q
      exact g_wk (kI_X1_isDigit_16 C hQ _ h) (trivial)
    · have h := h.2 q
      refine g_iconst_1 C dX1_isDigit_12 ?_
      refine g_goto C 17 dX1_isDigit_13 (by decide) ?_
      exact g_wk (kI_X1_isDigit_17 C hQ _ _ h) (trivial)
theorem cI_X1_isDigit {l : Launch} {E : Ev} {a : Nat → Nat} {x0 : Int32} {σ : St} {post : Int32 → St → Prop} (h : wpI_X1_isDigit x0 σ post) : CI l E (wI E a) yX1_isDigit cX1_isDigit 1 .boolean rmI_X1_isDigit [.int x0] σ post := met_i (by decide) rfl (Nat.le_of_ble_eq_true rfl) rfl (fun X C hQ => kI_X1_isDigit C hQ _ _ h)
theorem fpI_X1_15 {X : Kx} {l : Launch} {E : Ev} {a : Nat → Nat} {σ : St} {cc : ByteArray} {rm : Room} {ret : Option FieldType} {pc : Nat} {lv : List (Option Value)} {st : List Value} {v : Int32} (C : Cx X l E RX1 cc rm ret) (d : decode cc pc = .ok (.putfield 15, 3)) (k : G X (wI E a) (pI σ 601 v) (pc + 3) lv st) : G X (wI E a) σ pc lv (.int v :: .ref (a 600) :: st) := g_put C (q0 := 27) (ci := 1) (k := 1) (ty0 := tyX1) rfl rfl inU_X1 (by decide) tyX1_ok nmX1 (by decide +kernel) rfl rfl rfl (Nat.le_of_ble_eq_true rfl) rfl d k
theorem fgI_X1_22 {X : Kx} {l : Launch} {E : Ev} {a : Nat → Nat} {σ : St} {cc : ByteArray} {rm : Room} {ret : Option FieldType} {pc : Nat} {lv : List (Option Value)} {st : List Value} (C : Cx X l E RX1 cc rm ret) (d : decode cc pc = .ok (.getfield 22, 3)) (k : G X (wI E a) σ (pc + 3) lv (.int (σ.1 603) :: st)) : G X (wI E a) σ pc lv (.ref (a 600) :: st) := g_get C (q0 := 27) (ci := 1) (k := 3) rfl rfl inU_X1 (by decide) (by decide +kernel) rfl d k
theorem fgI_X1_19 {X : Kx} {l : Launch} {E : Ev} {a : Nat → Nat} {σ : St} {cc : ByteArray} {rm : Room} {ret : Option FieldType} {pc : Nat} {lv : List (Option Value)} {st : List Value} (C : Cx X l E RX1 cc rm ret) (d : decode cc pc = .ok (.getfield 19, 3)) (k : G X (wI E a) σ (pc + 3) lv (.int (σ.1 602) :: st)) : G X (wI E a) σ pc lv (.ref (a 600) :: st) := g_get C (q0 := 27) (ci := 1) (k := 2) rfl rfl inU_X1 (by decide) (by decide +kernel) rfl d k
theorem fgI_X1_99 {X : Kx} {l : Launch} {E : Ev} {a : Nat → Nat} {σ : St} {cc : ByteArray} {rm : Room} {ret : Option FieldType} {pc : Nat} {lv : List (Option Value)} {st : List Value} (C : Cx X l E RX1 cc rm ret) (d : decode cc pc = .ok (.getfield 99, 3)) (k : G X (wI E a) σ (pc + 3) lv (.int (σ.1 400) :: st)) : G X (wI E a) σ pc lv (.ref (a 400) :: st) := g_getN C (host := "IceRun") (q0 := 23) (ci := 7) (k := 0) rfl rfl inU_X7 (by decide) (by decide +kernel) rfl d k
theorem csI_X1_67 {X : Kx} {l : Launch} {E : Ev} {a : Nat → Nat} {σ : St} {cc : ByteArray} {rm : Room} {ret : Option FieldType} {pc : Nat} {lv : List (Option Value)} {rest : List Value} {x0 : Int32} {post : Int32 → St → Prop} (C : Cx X l E RX1 cc rm ret) (h : wpI_X7_byteAt x0 σ post) (hR : 0 + 1 ≤ rm.frames ∧ 8 + (2 + 11) + 0 ≤ rm.locals) (hW : (rest.map fun v => v.category).sum ≤ 8) (d : decode cc pc = .ok (.invokevirtual 67, 3)) (k : ∀ (r : Int32) (u : St), post r u → G X (wI E a) u (pc + 3) lv (.int r :: rest)) : G X (wI E a) σ pc lv (.int x0 :: .ref (a 400) :: rest) := g_callVi C 1 (As := [.int x0]) (rest := rest) (Cn := RX7) (T := TX7) (N := 2) (q0 := 23) (ci := 7) (by decide +kernel) (by decide +kernel) (by decide +kernel) (by decide +kernel) (by decide +kernel) (by decide +kernel) rfl rfl (cI_X7_byteAt h) ⟨rfl, rfl⟩ hR rfl rfl hW d k
theorem csI_X1_109 {X : Kx} {l : Launch} {E : Ev} {a : Nat → Nat} {σ : St} {cc : ByteArray} {rm : Room} {ret : Option FieldType} {pc : Nat} {lv : List (Option Value)} {rest : List Value} {x0 : Int32} {post : Int32 → St → Prop} (C : Cx X l E RX1 cc rm ret) (h : wpI_X1_isDigit x0 σ post) (hR : 0 + 1 ≤ rm.frames ∧ 8 + (1 + 11) + 0 ≤ rm.locals) (hW : (rest.map fun v => v.category).sum ≤ 8) (d : decode cc pc = .ok (.invokestatic 109, 3)) (k : ∀ (r : Int32) (u : St), post r u → G X (wI E a) u (pc + 3) lv (.int r :: rest)) : G X (wI E a) σ pc lv (.int x0 :: rest) := g_callSi C 1 (As := [.int x0]) (rest := rest) (by decide +kernel) (by decide +kernel) (by decide +kernel) (by decide +kernel) (by decide +kernel) (cI_X1_isDigit h) ⟨rfl, rfl⟩ hR rfl rfl hW d k
theorem fpI_X1_22 {X : Kx} {l : Launch} {E : Ev} {a : Nat → Nat} {σ : St} {cc : ByteArray} {rm : Room} {ret : Option FieldType} {pc : Nat} {lv : List (Option Value)} {st : List Value} {v : Int32} (C : Cx X l E RX1 cc rm ret) (d : decode cc pc = .ok (.putfield 22, 3)) (k : G X (wI E a) (pI σ 603 v) (pc + 3) lv st) : G X (wI E a) σ pc lv (.int v :: .ref (a 600) :: st) := g_put C (q0 := 27) (ci := 1) (k := 3) (ty0 := tyX1) rfl rfl inU_X1 (by decide) tyX1_ok nmX1 (by decide +kernel) rfl rfl rfl (Nat.le_of_ble_eq_true rfl) rfl d k
theorem csI_X1_106 {X : Kx} {l : Launch} {E : Ev} {a : Nat → Nat} {σ : St} {cc : ByteArray} {rm : Room} {ret : Option FieldType} {pc : Nat} {lv : List (Option Value)} {rest : List Value} {x0 : Int32} {post : Int32 → St → Prop} (C : Cx X l E RX1 cc rm ret) (h : wpI_X1_isLetter x0 σ post) (hR : 0 + 1 ≤ rm.frames ∧ 8 + (1 + 11) + 0 ≤ rm.locals) (hW : (rest.map fun v => v.category).sum ≤ 8) (d : decode cc pc = .ok (.invokestatic 106, 3)) (k : ∀ (r : Int32) (u : St), post r u → G X (wI E a) u (pc + 3) lv (.int r :: rest)) : G X (wI E a) σ pc lv (.int x0 :: rest) := g_callSi C 1 (As := [.int x0]) (rest := rest) (by decide +kernel) (by decide +kernel) (by decide +kernel) (by decide +kernel) (by decide +kernel) (cI_X1_isLetter h) ⟨rfl, rfl⟩ hR rfl rfl hW d k
theorem csI_X1_102 {X : Kx} {l : Launch} {E : Ev} {a : Nat → Nat} {σ : St} {cc : ByteArray} {rm : Room} {ret : Option FieldType} {pc : Nat} {lv : List (Option Value)} {rest : List Value} {x0 : Int32} {post : Int32 → St → Prop} (C : Cx X l E RX1 cc rm ret) (h : wpI_X1_isBlank x0 σ post) (hR : 0 + 1 ≤ rm.frames ∧ 8 + (1 + 11) + 0 ≤ rm.locals) (hW : (rest.map fun v => v.category).sum ≤ 8) (d : decode cc pc = .ok (.invokestatic 102, 3)) (k : ∀ (r : Int32) (u : St), post r u → G X (wI E a) u (pc + 3) lv (.int r :: rest)) : G X (wI E a) σ pc lv (.int x0 :: rest) := g_callSi C 1 (As := [.int x0]) (rest := rest) (by decide +kernel) (by decide +kernel) (by decide +kernel) (by decide +kernel) (by decide +kernel) (cI_X1_isBlank h) ⟨rfl, rfl⟩ hR rfl rfl hW d k
theorem fpI_X1_19 {X : Kx} {l : Launch} {E : Ev} {a : Nat → Nat} {σ : St} {cc : ByteArray} {rm : Room} {ret : Option FieldType} {pc : Nat} {lv : List (Option Value)} {st : List Value} {v : Int32} (C : Cx X l E RX1 cc rm ret) (d : decode cc pc = .ok (.putfield 19, 3)) (k : G X (wI E a) (pI σ 602 v) (pc + 3) lv st) : G X (wI E a) σ pc lv (.int v :: .ref (a 600) :: st) := g_put C (q0 := 27) (ci := 1) (k := 2) (ty0 := tyX1) rfl rfl inU_X1 (by decide) tyX1_ok nmX1 (by decide +kernel) rfl rfl rfl (Nat.le_of_ble_eq_true rfl) rfl d k
/-! IceRun$LawReader.advance(LIceRun$Tape;)V -/
abbrev rmI_X1_advance : Room := { frames := 1, cells := 0, slots := 0, locals := 21 }
def wpI_X1_advance_221 (σ : St) (post : St → Prop) : Prop := post σ
theorem kI_X1_advance_221 {X : Kx} {l : Launch} {E : Ev} {a : Nat → Nat} {post : St → Prop} (C : Cx X l E RX1 cX1_advance rmI_X1_advance none) (hQ : QV X (wI E a) post) (σ : St) (h : wpI_X1_advance_221   σ post) : G X (wI E a) σ 221 [none, none, none] [] := by
  unfold wpI_X1_advance_221 at h
  exact g_return C hQ dX1_advance_221 h
def wpI_X1_advance_218 (s1 : Int32) (σ : St) (post : St → Prop) : Prop := let σ1 : St := pI σ 601 s1; wpI_X1_advance_221 σ1 post
theorem kI_X1_advance_218 {X : Kx} {l : Launch} {E : Ev} {a : Nat → Nat} {post : St → Prop} (C : Cx X l E RX1 cX1_advance rmI_X1_advance none) (hQ : QV X (wI E a) post) (s1 : Int32) (σ : St) (h : wpI_X1_advance_218  s1 σ post) : G X (wI E a) σ 218 [none, none, none] [.int s1, .ref (a 600)] := by
  unfold wpI_X1_advance_218 at h
  refine fpI_X1_15 C dX1_advance_218 ?_
  exact g_wk (kI_X1_advance_221 C hQ _ h) (trivial)
def wpI_X1_advance_200 (s1 : Int32) (σ : St) (post : St → Prop) : Prop := let σ1 : St := pI σ 601 s1; wpI_X1_advance_221 σ1 post
theorem kI_X1_advance_200 {X : Kx} {l : Launch} {E : Ev} {a : Nat → Nat} {post : St → Prop} (C : Cx X l E RX1 cX1_advance rmI_X1_advance none) (hQ : QV X (wI E a) post) (s1 : Int32) (σ : St) (h : wpI_X1_advance_200  s1 σ post) : G X (wI E a) σ 200 [none, none, none] [.int s1, .ref (a 600)] := by
  unfold wpI_X1_advance_200 at h
  refine fpI_X1_15 C dX1_advance_200 ?_
  refine g_goto C 221 dX1_advance_203 (by decide) ?_
  exact g_wk (kI_X1_advance_221 C hQ _ h) (trivial)
def wpI_X1_advance_181 (σ : St) (post : St → Prop) : Prop := ((4 < ((σ.1 603) - (σ.1 602)) → wpI_X1_advance_200 4 σ post) ∧ (¬ 4 < ((σ.1 603) - (σ.1 602)) → wpI_X1_advance_200 2 σ post))
theorem kI_X1_advance_181 {X : Kx} {l : Launch} {E : Ev} {a : Nat → Nat} {post : St → Prop} (C : Cx X l E RX1 cX1_advance rmI_X1_advance none) (hQ : QV X (wI E a) post) (σ : St) (h : wpI_X1_advance_181   σ post) : G X (wI E a) σ 181 [some (.ref (a 600)), none, none] [] := by
  unfold wpI_X1_advance_181 at h
  refine g_aload_0 C dX1_advance_181 rfl ?_
  refine g_aload_0 C dX1_advance_182 rfl ?_
  refine fgI_X1_22 C dX1_advance_183 ?_
  refine g_aload_0 C dX1_advance_186 rfl ?_
  refine fgI_X1_19 C dX1_advance_187 ?_
  refine g_isub C dX1_advance_190 ?_
  refine g_iconst_4 C dX1_advance_191 ?_
  refine g_icmp_gt C 199 dX1_advance_192 (by decide) (fun q => ?_) (fun q => ?_)
  · have h := h.1 q
    refine g_iconst_4 C dX1_advance_199 ?_
    exact g_wk (kI_X1_advance_200 C hQ _ _ h) (trivial)
  · have h := h.2 q
    refine g_iconst_2 C dX1_advance_195 ?_
    refine g_goto C 200 dX1_advance_196 (by decide) ?_
    exact g_wk (kI_X1_advance_200 C hQ _ _ h) (trivial)
def wpBI_X1_advance_143 (k_143 : St → Prop) (σ : St) (post : St → Prop) : Prop := (((σ.1 400) ≤ (σ.1 603) → wpI_X1_advance_181 σ post) ∧ (¬ (σ.1 400) ≤ (σ.1 603) → wpI_X7_byteAt (σ.1 603) σ (fun r2 σ1 => wpI_X1_isDigit r2 σ1 (fun r4 σ3 => ((r4 = 0 → wpI_X1_advance_181 σ3 post) ∧ (¬ r4 = 0 → let σ5 : St := pI σ3 603 ((σ3.1 603) + 1); k_143 σ5))))))
def wpI_X1_advance_143 (σ : St) (post : St → Prop) : Prop := ∃ n : Nat, lpN (α := St) (fun kb t => wpBI_X1_advance_143 (fun σ => kb σ) t post) n σ
theorem kBI_X1_advance_143 {X : Kx} {l : Launch} {E : Ev} {a : Nat → Nat} {post : St → Prop} (C : Cx X l E RX1 cX1_advance rmI_X1_advance none) (hQ : QV X (wI E a) post) (k_143 : St → Prop) (hk_143 : ∀ (σ : St), k_143  σ → G X (wI E a) σ 143 [some (.ref (a 600)), some (.ref (a 400)), none] []) (σ : St) (h : wpBI_X1_advance_143 k_143  σ post) : G X (wI E a) σ 143 [some (.ref (a 600)), some (.ref (a 400)), none] [] := by
  unfold wpBI_X1_advance_143 at h
  refine g_aload_0 C dX1_advance_143 rfl ?_
  refine fgI_X1_22 C dX1_advance_144 ?_
  refine g_aload_1 C dX1_advance_147 rfl ?_
  refine fgI_X1_99 C dX1_advance_148 ?_
  refine g_icmp_ge C 181 dX1_advance_151 (by decide) (fun q => ?_) (fun q => ?_)
  · have h := h.1 q
    exact g_wk (kI_X1_advance_181 C hQ _ h) (And.intro rfl (trivial))
  · have h := h.2 q
    refine g_aload_1 C dX1_advance_154 rfl ?_
    refine g_aload_0 C dX1_advance_155 rfl ?_
    refine fgI_X1_22 C dX1_advance_156 ?_
    refine csI_X1_67 C h ⟨Nat.le_of_ble_eq_true rfl, Nat.le_of_ble_eq_true rfl⟩ (Nat.le_of_ble_eq_true rfl) dX1_advance_159 (fun _ _ h => ?_)
    refine csI_X1_109 C h ⟨Nat.le_of_ble_eq_true rfl, Nat.le_of_ble_eq_true rfl⟩ (Nat.le_of_ble_eq_true rfl) dX1_advance_162 (fun _ _ h => ?_)
    refine g_if_eq C 181 dX1_advance_165 (by decide) (fun q => ?_) (fun q => ?_)
    · have h := h.1 q
      exact g_wk (kI_X1_advance_181 C hQ _ h) (And.intro rfl (trivial))
    · have h := h.2 q
      refine g_aload_0 C dX1_advance_168 rfl ?_
      refine g_dup C dX1_advance_169 rfl ?_
      refine fgI_X1_22 C dX1_advance_170 ?_
      refine g_iconst_1 C dX1_advance_173 ?_
      refine g_iadd C dX1_advance_174 ?_
      refine fpI_X1_22 C dX1_advance_175 ?_
      refine g_goto C 143 dX1_advance_178 (by decide) ?_
      exact g_wk (hk_143 _ h) (And.intro rfl (And.intro rfl (trivial)))
theorem kI_X1_advance_143 {X : Kx} {l : Launch} {E : Ev} {a : Nat → Nat} {post : St → Prop} (C : Cx X l E RX1 cX1_advance rmI_X1_advance none) (hQ : QV X (wI E a) post) (σ : St) (h : wpI_X1_advance_143   σ post) : G X (wI E a) σ 143 [some (.ref (a 600)), some (.ref (a 400)), none] [] := by
  obtain ⟨n, h⟩ := h
  exact g_loop (J := fun t : St => G X (wI E a) t 143 [some (.ref (a 600)), some (.ref (a 400)), none] []) (fun kb hkb t ht => kBI_X1_advance_143 C hQ  (fun  σ => kb σ) (fun  σ hh => hkb σ hh) t ht) n σ h
def wpBI_X1_advance_98 (k_98 : St → Prop) (σ : St) (post : St → Prop) : Prop := (((σ.1 400) ≤ (σ.1 603) → wpI_X1_advance_221 σ post) ∧ (¬ (σ.1 400) ≤ (σ.1 603) → wpI_X7_byteAt (σ.1 603) σ (fun r2 σ1 => wpI_X1_isLetter r2 σ1 (fun r4 σ3 => ((r4 = 0 → wpI_X1_advance_221 σ3 post) ∧ (¬ r4 = 0 → let σ5 : St := pI σ3 603 ((σ3.1 603) + 1); k_98 σ5))))))
def wpI_X1_advance_98 (σ : St) (post : St → Prop) : Prop := ∃ n : Nat, lpN (α := St) (fun kb t => wpBI_X1_advance_98 (fun σ => kb σ) t post) n σ
theorem kBI_X1_advance_98 {X : Kx} {l : Launch} {E : Ev} {a : Nat → Nat} {post : St → Prop} (C : Cx X l E RX1 cX1_advance rmI_X1_advance none) (hQ : QV X (wI E a) post) (k_98 : St → Prop) (hk_98 : ∀ (σ : St), k_98  σ → G X (wI E a) σ 98 [some (.ref (a 600)), some (.ref (a 400)), none] []) (σ : St) (h : wpBI_X1_advance_98 k_98  σ post) : G X (wI E a) σ 98 [some (.ref (a 600)), some (.ref (a 400)), none] [] := by
  unfold wpBI_X1_advance_98 at h
  refine g_aload_0 C dX1_advance_98 rfl ?_
  refine fgI_X1_22 C dX1_advance_99 ?_
  refine g_aload_1 C dX1_advance_102 rfl ?_
  refine fgI_X1_99 C dX1_advance_103 ?_
  refine g_icmp_ge C 221 dX1_advance_106 (by decide) (fun q => ?_) (fun q => ?_)
  · have h := h.1 q
    exact g_wk (kI_X1_advance_221 C hQ _ h) (trivial)
  · have h := h.2 q
    refine g_aload_1 C dX1_advance_109 rfl ?_
    refine g_aload_0 C dX1_advance_110 rfl ?_
    refine fgI_X1_22 C dX1_advance_111 ?_
    refine csI_X1_67 C h ⟨Nat.le_of_ble_eq_true rfl, Nat.le_of_ble_eq_true rfl⟩ (Nat.le_of_ble_eq_true rfl) dX1_advance_114 (fun _ _ h => ?_)
    refine csI_X1_106 C h ⟨Nat.le_of_ble_eq_true rfl, Nat.le_of_ble_eq_true rfl⟩ (Nat.le_of_ble_eq_true rfl) dX1_advance_117 (fun _ _ h => ?_)
    refine g_if_eq C 221 dX1_advance_120 (by decide) (fun q => ?_) (fun q => ?_)
    · have h := h.1 q
      exact g_wk (kI_X1_advance_221 C hQ _ h) (trivial)
    · have h := h.2 q
      refine g_aload_0 C dX1_advance_123 rfl ?_
      refine g_dup C dX1_advance_124 rfl ?_
      refine fgI_X1_22 C dX1_advance_125 ?_
      refine g_iconst_1 C dX1_advance_128 ?_
      refine g_iadd C dX1_advance_129 ?_
      refine fpI_X1_22 C dX1_advance_130 ?_
      refine g_goto C 98 dX1_advance_133 (by decide) ?_
      exact g_wk (hk_98 _ h) (And.intro rfl (And.intro rfl (trivial)))
theorem kI_X1_advance_98 {X : Kx} {l : Launch} {E : Ev} {a : Nat → Nat} {post : St → Prop} (C : Cx X l E RX1 cX1_advance rmI_X1_advance none) (hQ : QV X (wI E a) post) (σ : St) (h : wpI_X1_advance_98   σ post) : G X (wI E a) σ 98 [some (.ref (a 600)), some (.ref (a 400)), none] [] := by
  obtain ⟨n, h⟩ := h
  exact g_loop (J := fun t : St => G X (wI E a) t 98 [some (.ref (a 600)), some (.ref (a 400)), none] []) (fun kb hkb t ht => kBI_X1_advance_98 C hQ  (fun  σ => kb σ) (fun  σ hh => hkb σ hh) t ht) n σ h
def wpI_X1_advance_46 (σ : St) (post : St → Prop) : Prop := wpI_X7_byteAt (σ.1 602) σ (fun r2 σ1 => let σ3 : St := pI σ1 603 ((σ1.1 602) + 1); ((¬ r2 = (-1) → wpI_X1_isLetter r2 σ3 (fun r5 σ4 => ((r5 = 0 → wpI_X1_isDigit r2 σ4 (fun r7 σ6 => ((r7 = 0 → ((¬ r2 = 59 → wpI_X1_advance_218 4 σ6 post) ∧ (r2 = 59 → wpI_X1_advance_218 3 σ6 post))) ∧ (¬ r7 = 0 → wpI_X1_advance_143 σ6 post)))) ∧ (¬ r5 = 0 → let σ8 : St := pI σ4 601 1; wpI_X1_advance_98 σ8 post)))) ∧ (r2 = (-1) → let σ9 : St := pI σ3 601 0; let σ10 : St := pI σ9 603 (σ9.1 602); wpI_X1_advance_221 σ10 post)))
theorem kI_X1_advance_46 {X : Kx} {l : Launch} {E : Ev} {a : Nat → Nat} {post : St → Prop} (C : Cx X l E RX1 cX1_advance rmI_X1_advance none) (hQ : QV X (wI E a) post) (σ : St) (h : wpI_X1_advance_46   σ post) : G X (wI E a) σ 46 [some (.ref (a 600)), some (.ref (a 400)), none] [] := by
  unfold wpI_X1_advance_46 at h
  refine g_aload_1 C dX1_advance_46 rfl ?_
  refine g_aload_0 C dX1_advance_47 rfl ?_
  refine fgI_X1_19 C dX1_advance_48 ?_
  refine csI_X1_67 C h ⟨Nat.le_of_ble_eq_true rfl, Nat.le_of_ble_eq_true rfl⟩ (Nat.le_of_ble_eq_true rfl) dX1_advance_51 (fun _ _ h => ?_)
  refine g_istore_2 C dX1_advance_54 (Nat.le_of_ble_eq_true rfl) ?_
  refine g_aload_0 C dX1_advance_55 rfl ?_
  refine g_aload_0 C dX1_advance_56 rfl ?_
  refine fgI_X1_19 C dX1_advance_57 ?_
  refine g_iconst_1 C dX1_advance_60 ?_
  refine g_iadd C dX1_advance_61 ?_
  refine fpI_X1_22 C dX1_advance_62 ?_
  refine g_iload_2 C dX1_advance_65 rfl ?_
  refine g_iconst_m1 C dX1_advance_66 ?_
  refine g_icmp_ne C 86 dX1_advance_67 (by decide) (fun q => ?_) (fun q => ?_)
  · have h := h.1 q
    refine g_iload_2 C dX1_advance_86 rfl ?_
    refine csI_X1_106 C h ⟨Nat.le_of_ble_eq_true rfl, Nat.le_of_ble_eq_true rfl⟩ (Nat.le_of_ble_eq_true rfl) dX1_advance_87 (fun _ _ h => ?_)
    refine g_if_eq C 136 dX1_advance_90 (by decide) (fun q => ?_) (fun q => ?_)
    · have h := h.1 q
      refine g_iload_2 C dX1_advance_136 rfl ?_
      refine csI_X1_109 C h ⟨Nat.le_of_ble_eq_true rfl, Nat.le_of_ble_eq_true rfl⟩ (Nat.le_of_ble_eq_true rfl) dX1_advance_137 (fun _ _ h => ?_)
      refine g_if_eq C 206 dX1_advance_140 (by decide) (fun q => ?_) (fun q => ?_)
      · have h := h.1 q
        refine g_aload_0 C dX1_advance_206 rfl ?_
        refine g_iload_2 C dX1_advance_207 rfl ?_
        refine g_bipush C (v := 59) (by decide) dX1_advance_208 ?_
        refine g_icmp_ne C 217 dX1_advance_210 (by decide) (fun q => ?_) (fun q => ?_)
        · have h := h.1 q
          refine g_iconst_4 C dX1_advance_217 ?_
          exact g_wk (kI_X1_advance_218 C hQ _ _ h) (trivial)
        · have h := h.2 q
          refine g_iconst_3 C dX1_advance_213 ?_
          refine g_goto C 218 dX1_advance_214 (by decide) ?_
          exact g_wk (kI_X1_advance_218 C hQ _ _ h) (trivial)
      · have h := h.2 q
        exact g_wk (kI_X1_advance_143 C hQ _ h) (And.intro rfl (And.intro rfl (trivial)))
    · have h := h.2 q
      refine g_aload_0 C dX1_advance_93 rfl ?_
      refine g_iconst_1 C dX1_advance_94 ?_
      refine fpI_X1_15 C dX1_advance_95 ?_
      exact g_wk (kI_X1_advance_98 C hQ _ h) (And.intro rfl (And.intro rfl (trivial)))
  · have h := h.2 q
    refine g_aload_0 C dX1_advance_70 rfl ?_
    refine g_iconst_0 C dX1_advance_71 ?_
    refine fpI_X1_15 C dX1_advance_72 ?_
    refine g_aload_0 C dX1_advance_75 rfl ?_
    refine g_aload_0 C dX1_advance_76 rfl ?_
    refine fgI_X1_19 C dX1_advance_77 ?_
    refine fpI_X1_22 C dX1_advance_80 ?_
    refine g_goto C 221 dX1_advance_83 (by decide) ?_
    exact g_wk (kI_X1_advance_221 C hQ _ h) (trivial)
def wpBI_X1_advance_8 (k_8 : St → Prop) (σ : St) (post : St → Prop) : Prop := (((σ.1 400) ≤ (σ.1 602) → wpI_X1_advance_46 σ post) ∧ (¬ (σ.1 400) ≤ (σ.1 602) → wpI_X7_byteAt (σ.1 602) σ (fun r2 σ1 => wpI_X1_isBlank r2 σ1 (fun r4 σ3 => ((r4 = 0 → wpI_X1_advance_46 σ3 post) ∧ (¬ r4 = 0 → let σ5 : St := pI σ3 602 ((σ3.1 602) + 1); k_8 σ5))))))
def wpI_X1_advance_8 (σ : St) (post : St → Prop) : Prop := ∃ n : Nat, lpN (α := St) (fun kb t => wpBI_X1_advance_8 (fun σ => kb σ) t post) n σ
theorem kBI_X1_advance_8 {X : Kx} {l : Launch} {E : Ev} {a : Nat → Nat} {post : St → Prop} (C : Cx X l E RX1 cX1_advance rmI_X1_advance none) (hQ : QV X (wI E a) post) (k_8 : St → Prop) (hk_8 : ∀ (σ : St), k_8  σ → G X (wI E a) σ 8 [some (.ref (a 600)), some (.ref (a 400)), none] []) (σ : St) (h : wpBI_X1_advance_8 k_8  σ post) : G X (wI E a) σ 8 [some (.ref (a 600)), some (.ref (a 400)), none] [] := by
  unfold wpBI_X1_advance_8 at h
  refine g_aload_0 C dX1_advance_8 rfl ?_
  refine fgI_X1_19 C dX1_advance_9 ?_
  refine g_aload_1 C dX1_advance_12 rfl ?_
  refine fgI_X1_99 C dX1_advance_13 ?_
  refine g_icmp_ge C 46 dX1_advance_16 (by decide) (fun q => ?_) (fun q => ?_)
  · have h := h.1 q
    exact g_wk (kI_X1_advance_46 C hQ _ h) (And.intro rfl (And.intro rfl (trivial)))
  · have h := h.2 q
    refine g_aload_1 C dX1_advance_19 rfl ?_
    refine g_aload_0 C dX1_advance_20 rfl ?_
    refine fgI_X1_19 C dX1_advance_21 ?_
    refine csI_X1_67 C h ⟨Nat.le_of_ble_eq_true rfl, Nat.le_of_ble_eq_true rfl⟩ (Nat.le_of_ble_eq_true rfl) dX1_advance_24 (fun _ _ h => ?_)
    refine csI_X1_102 C h ⟨Nat.le_of_ble_eq_true rfl, Nat.le_of_ble_eq_true rfl⟩ (Nat.le_of_ble_eq_true rfl) dX1_advance_27 (fun _ _ h => ?_)
    refine g_if_eq C 46 dX1_advance_30 (by decide) (fun q => ?_) (fun q => ?_)
    · have h := h.1 q
      exact g_wk (kI_X1_advance_46 C hQ _ h) (And.intro rfl (And.intro rfl (trivial)))
    · have h := h.2 q
      refine g_aload_0 C dX1_advance_33 rfl ?_
      refine g_dup C dX1_advance_34 rfl ?_
      refine fgI_X1_19 C dX1_advance_35 ?_
      refine g_iconst_1 C dX1_advance_38 ?_
      refine g_iadd C dX1_advance_39 ?_
      refine fpI_X1_19 C dX1_advance_40 ?_
      refine g_goto C 8 dX1_advance_43 (by decide) ?_
      exact g_wk (hk_8 _ h) (And.intro rfl (And.intro rfl (trivial)))
theorem kI_X1_advance_8 {X : Kx} {l : Launch} {E : Ev} {a : Nat → Nat} {post : St → Prop} (C : Cx X l E RX1 cX1_advance rmI_X1_advance none) (hQ : QV X (wI E a) post) (σ : St) (h : wpI_X1_advance_8   σ post) : G X (wI E a) σ 8 [some (.ref (a 600)), some (.ref (a 400)), none] [] := by
  obtain ⟨n, h⟩ := h
  exact g_loop (J := fun t : St => G X (wI E a) t 8 [some (.ref (a 600)), some (.ref (a 400)), none] []) (fun kb hkb t ht => kBI_X1_advance_8 C hQ  (fun  σ => kb σ) (fun  σ hh => hkb σ hh) t ht) n σ h
def wpI_X1_advance (σ : St) (post : St → Prop) : Prop := let σ1 : St := pI σ 602 (σ.1 603); wpI_X1_advance_8 σ1 post
theorem kI_X1_advance {X : Kx} {l : Launch} {E : Ev} {a : Nat → Nat} {post : St → Prop} (C : Cx X l E RX1 cX1_advance rmI_X1_advance none) (hQ : QV X (wI E a) post) (σ : St) (h : wpI_X1_advance  σ post) : G X (wI E a) σ 0 [some (.ref (a 600)), some (.ref (a 400)), none] [] := by
  unfold wpI_X1_advance at h
  refine g_aload_0 C dX1_advance_0 rfl ?_
  refine g_aload_0 C dX1_advance_1 rfl ?_
  refine fgI_X1_22 C dX1_advance_2 ?_
  refine fpI_X1_19 C dX1_advance_5 ?_
  exact g_wk (kI_X1_advance_8 C hQ _ h) (And.intro rfl (And.intro rfl (trivial)))
theorem cI_X1_advance {l : Launch} {E : Ev} {a : Nat → Nat} {σ : St} {post : St → Prop} (h : wpI_X1_advance  σ post) : CV l E (wI E a) yX1_advance cX1_advance 3 rmI_X1_advance [.ref (a 600), .ref (a 400)] σ post := met_v (by decide) rfl (Nat.le_of_ble_eq_true rfl) rfl (fun X C hQ => kI_X1_advance C hQ _ h)
/-! IceRun.within(III)Z -/
abbrev rmI_X10_within : Room := { frames := 0, cells := 0, slots := 0, locals := 0 }
def wpI_X10_within_15 (s0 : Int32) (σ : St) (post : Int32 → St → Prop) : Prop := (s0 = 0 ∨ s0 = 1) ∧ post s0 σ
theorem kI_X10_within_15 {X : Kx} {l : Launch} {E : Ev} {a : Nat → Nat} {post : Int32 → St → Prop} (C : Cx X l E RX10 cX10_within rmI_X10_within (some .boolean)) (hQ : QI X (wI E a) post) (s0 : Int32) (σ : St) (h : wpI_X10_within_15  s0 σ post) : G X (wI E a) σ 15 [none, none, none] [.int s0] := by
  unfold wpI_X10_within_15 at h
  exact g_zreturn C hQ dX10_within_15 h.1 h.2
def wpI_X10_within_14 (σ : St) (post : Int32 → St → Prop) : Prop := wpI_X10_within_15 0 σ post
theorem kI_X10_within_14 {X : Kx} {l : Launch} {E : Ev} {a : Nat → Nat} {post : Int32 → St → Prop} (C : Cx X l E RX10 cX10_within rmI_X10_within (some .boolean)) (hQ : QI X (wI E a) post) (σ : St) (h : wpI_X10_within_14   σ post) : G X (wI E a) σ 14 [none, none, none] [] := by
  unfold wpI_X10_within_14 at h
  refine g_iconst_0 C dX10_within_14 ?_
  exact g_wk (kI_X10_within_15 C hQ _ _ h) (trivial)
def wpI_X10_within (x0 x1 x2 : Int32) (σ : St) (post : Int32 → St → Prop) : Prop := ((x0 < x1 → wpI_X10_within_14 σ post) ∧ (¬ x0 < x1 → ((x2 < x0 → wpI_X10_within_14 σ post) ∧ (¬ x2 < x0 → wpI_X10_within_15 1 σ post))))
theorem kI_X10_within {X : Kx} {l : Launch} {E : Ev} {a : Nat → Nat} {post : Int32 → St → Prop} (C : Cx X l E RX10 cX10_within rmI_X10_within (some .boolean)) (hQ : QI X (wI E a) post) (x0 x1 x2 : Int32) (σ : St) (h : wpI_X10_within x0 x1 x2 σ post) : G X (wI E a) σ 0 [some (.int x0), some (.int x1), some (.int x2)] [] := by
  unfold wpI_X10_within at h
  refine g_iload_0 C dX10_within_0 rfl ?_
  refine g_iload_1 C dX10_within_1 rfl ?_
  refine g_icmp_lt C 14 dX10_within_2 (by decide) (fun q => ?_) (fun q => ?_)
  · have h := h.1 q
    exact g_wk (kI_X10_within_14 C hQ _ h) (trivial)
  · have h := h.2 q
    refine g_iload_0 C dX10_within_5 rfl ?_
    refine g_iload_2 C dX10_within_6 rfl ?_
    refine g_icmp_gt C 14 dX10_within_7 (by decide) (fun q => ?_) (fun q => ?_)
    · have h := h.1 q
      exact g_wk (kI_X10_within_14 C hQ _ h) (trivial)
    · have h := h.2 q
      refine g_iconst_1 C dX10_within_10 ?_
      refine g_goto C 15 dX10_within_11 (by decide) ?_
      exact g_wk (kI_X10_within_15 C hQ _ _ h) (trivial)
theorem cI_X10_within {l : Launch} {E : Ev} {a : Nat → Nat} {x0 x1 x2 : Int32} {σ : St} {post : Int32 → St → Prop} (h : wpI_X10_within x0 x1 x2 σ post) : CI l E (wI E a) yX10_within cX10_within 3 .boolean rmI_X10_within [.int x0, .int x1, .int x2] σ post := met_i (by decide) rfl (Nat.le_of_ble_eq_true rfl) rfl (fun X C hQ => kI_X10_within C hQ _ _ _ _ h)
theorem csI_X1_73 {X : Kx} {l : Launch} {E : Ev} {a : Nat → Nat} {σ : St} {cc : ByteArray} {rm : Room} {ret : Option FieldType} {pc : Nat} {lv : List (Option Value)} {rest : List Value} {x0 x1 x2 : Int32} {post : Int32 → St → Prop} (C : Cx X l E RX1 cc rm ret) (h : wpI_X10_within x0 x1 x2 σ post) (hR : 0 + 1 ≤ rm.frames ∧ 8 + (3 + 11) + 0 ≤ rm.locals) (hW : (rest.map fun v => v.category).sum ≤ 8) (d : decode cc pc = .ok (.invokestatic 73, 3)) (k : ∀ (r : Int32) (u : St), post r u → G X (wI E a) u (pc + 3) lv (.int r :: rest)) : G X (wI E a) σ pc lv (.int x2 :: .int x1 :: .int x0 :: rest) := g_callSNi C 3 (host := "IceRun") (As := [.int x0, .int x1, .int x2]) (rest := rest) (by decide +kernel) (by decide +kernel) (by decide +kernel) (by decide +kernel) (by decide +kernel) (cI_X10_within h) ⟨rfl, rfl⟩ hR rfl rfl hW d k
theorem csI_X1_37 {X : Kx} {l : Launch} {E : Ev} {a : Nat → Nat} {σ : St} {cc : ByteArray} {rm : Room} {ret : Option FieldType} {pc : Nat} {lv : List (Option Value)} {rest : List Value} {post : St → Prop} (C : Cx X l E RX1 cc rm ret) (h : wpI_X1_advance  σ post) (hR : 1 + 1 ≤ rm.frames ∧ 8 + (3 + 11) + 21 ≤ rm.locals) (hW : (rest.map fun v => v.category).sum ≤ 8) (d : decode cc pc = .ok (.invokevirtual 37, 3)) (k : ∀ u : St, post u → G X (wI E a) u (pc + 3) lv rest) : G X (wI E a) σ pc lv (.ref (a 400) :: .ref (a 600) :: rest) := g_callVv C 1 (As := [.ref (a 400)]) (rest := rest) (Cn := RX1) (T := TX1) (N := 5) (q0 := 27) (ci := 1) (by decide +kernel) (by decide +kernel) (by decide +kernel) (by decide +kernel) (by decide +kernel) (by decide +kernel) rfl rfl (cI_X1_advance h) ⟨rfl, rfl⟩ hR rfl rfl hW d k
theorem fpI_X1_25 {X : Kx} {l : Launch} {E : Ev} {a : Nat → Nat} {σ : St} {cc : ByteArray} {rm : Room} {ret : Option FieldType} {pc : Nat} {lv : List (Option Value)} {st : List Value} {v : Int32} (C : Cx X l E RX1 cc rm ret) (d : decode cc pc = .ok (.putfield 25, 3)) (k : G X (wI E a) (pI σ 604 v) (pc + 3) lv st) : G X (wI E a) σ pc lv (.int v :: .ref (a 600) :: st) := g_put C (q0 := 27) (ci := 1) (k := 4) (ty0 := tyX1) rfl rfl inU_X1 (by decide) tyX1_ok nmX1 (by decide +kernel) rfl rfl rfl (Nat.le_of_ble_eq_true rfl) rfl d k
theorem fgI_X1_15 {X : Kx} {l : Launch} {E : Ev} {a : Nat → Nat} {σ : St} {cc : ByteArray} {rm : Room} {ret : Option FieldType} {pc : Nat} {lv : List (Option Value)} {st : List Value} (C : Cx X l E RX1 cc rm ret) (d : decode cc pc = .ok (.getfield 15, 3)) (k : G X (wI E a) σ (pc + 3) lv (.int (σ.1 601) :: st)) : G X (wI E a) σ pc lv (.ref (a 600) :: st) := g_get C (q0 := 27) (ci := 1) (k := 1) rfl rfl inU_X1 (by decide) (by decide +kernel) rfl d k
/-! IceRun$LawReader.readNumber(LIceRun$Tape;II)I -/
abbrev rmI_X1_readNumber : Room := { frames := 2, cells := 0, slots := 0, locals := 43 }
def wpBI_X1_readNumber_24 (k_24 : Int32 → Int32 → Int32 → Int32 → St → Prop) (x2 x3 x4 x5 : Int32) (σ : St) (post : Int32 → St → Prop) : Prop := (((σ.1 603) ≤ x5 → wpI_X10_within x4 x2 x3 σ (fun r2 σ1 => ((¬ r2 = 0 → wpI_X1_advance σ1 (fun σ3 => post x4 σ3)) ∧ (r2 = 0 → let σ4 : St := pI σ1 604 2; post (-1) σ4)))) ∧ (¬ (σ.1 603) ≤ x5 → wpI_X7_byteAt x5 σ (fun r6 σ5 => let y7 : Int32 := (((x4 * 10) + r6) - 48); let y8 : Int32 := x5 + 1; k_24 x2 x3 y7 y8 σ5)))
def wpI_X1_readNumber_24 (x2 x3 x4 x5 : Int32) (σ : St) (post : Int32 → St → Prop) : Prop := ∃ n : Nat, lpN (α := Int32 × Int32 × Int32 × Int32 × St) (fun kb t => wpBI_X1_readNumber_24 (fun x2 x3 x4 x5 σ => kb (x2, x3, x4, x5, σ)) t.1 t.2.1 t.2.2.1 t.2.2.2.1 t.2.2.2.2 post) n (x2, x3, x4, x5, σ)
theorem kBI_X1_readNumber_24 {X : Kx} {l : Launch} {E : Ev} {a : Nat → Nat} {post : Int32 → St → Prop} (C : Cx X l E RX1 cX1_readNumber rmI_X1_readNumber (some .int)) (hQ : QI X (wI E a) post) (k_24 : Int32 → Int32 → Int32 → Int32 → St → Prop) (hk_24 : ∀ (x2 x3 x4 x5 : Int32) (σ : St), k_24 x2 x3 x4 x5 σ → G X (wI E a) σ 24 [some (.ref (a 600)), some (.ref (a 400)), some (.int x2), some (.int x3), some (.int x4), some (.int x5)] []) (x2 x3 x4 x5 : Int32) (σ : St) (h : wpBI_X1_readNumber_24 k_24 x2 x3 x4 x5 σ post) : G X (wI E a) σ 24 [some (.ref (a 600)), some (.ref (a 400)), some (.int x2), some (.int x3), some (.int x4), some (.int x5)] [] := by
  unfold wpBI_X1_readNumber_24 at h
  refine g_iload C dX1_readNumber_24 rfl ?_
  refine g_aload_0 C dX1_readNumber_26 rfl ?_
  refine fgI_X1_22 C dX1_readNumber_27 ?_
  refine g_icmp_ge C 56 dX1_readNumber_30 (by decide) (fun q => ?_) (fun q => ?_)
  · have h := h.1 q
    refine g_iload C dX1_readNumber_56 rfl ?_
    refine g_iload_2 C dX1_readNumber_58 rfl ?_
    refine g_iload_3 C dX1_readNumber_59 rfl ?_
    refine csI_X1_73 C h ⟨Nat.le_of_ble_eq_true rfl, Nat.le_of_ble_eq_true rfl⟩ (Nat.le_of_ble_eq_true rfl) dX1_readNumber_60 (fun _ _ h => ?_)
    refine g_if_ne C 73 dX1_readNumber_63 (by decide) (fun q => ?_) (fun q => ?_)
    · have h := h.1 q
      refine g_aload_0 C dX1_readNumber_73 rfl ?_
      refine g_aload_1 C dX1_readNumber_74 rfl ?_
      refine csI_X1_37 C h ⟨Nat.le_of_ble_eq_true rfl, Nat.le_of_ble_eq_true rfl⟩ (Nat.le_of_ble_eq_true rfl) dX1_readNumber_75 (fun _ h => ?_)
      refine g_iload C dX1_readNumber_78 rfl ?_
      exact g_ireturn C hQ dX1_readNumber_80 h
    · have h := h.2 q
      refine g_aload_0 C dX1_readNumber_66 rfl ?_
      refine g_iconst_2 C dX1_readNumber_67 ?_
      refine fpI_X1_25 C dX1_readNumber_68 ?_
      refine g_iconst_m1 C dX1_readNumber_71 ?_
      exact g_ireturn C hQ dX1_readNumber_72 h
  · have h := h.2 q
    refine g_iload C dX1_readNumber_33 rfl ?_
    refine g_bipush C (v := 10) (by decide) dX1_readNumber_35 ?_
    refine g_imul C dX1_readNumber_37 ?_
    refine g_aload_1 C dX1_readNumber_38 rfl ?_
    refine g_iload C dX1_readNumber_39 rfl ?_
    refine csI_X1_67 C h ⟨Nat.le_of_ble_eq_true rfl, Nat.le_of_ble_eq_true rfl⟩ (Nat.le_of_ble_eq_true rfl) dX1_readNumber_41 (fun _ _ h => ?_)
    refine g_iadd C dX1_readNumber_44 ?_
    refine g_bipush C (v := 48) (by decide) dX1_readNumber_45 ?_
    refine g_isub C dX1_readNumber_47 ?_
    refine g_istore C dX1_readNumber_48 (Nat.le_of_ble_eq_true rfl) ?_
    refine g_iinc C (v := 1) (by decide) dX1_readNumber_50 rfl ?_
    refine g_goto C 24 dX1_readNumber_53 (by decide) ?_
    exact g_wk (hk_24 _ _ _ _ _ h) (And.intro rfl (And.intro rfl (And.intro rfl (And.intro rfl (And.intro rfl (And.intro rfl (trivial)))))))
theorem kI_X1_readNumber_24 {X : Kx} {l : Launch} {E : Ev} {a : Nat → Nat} {post : Int32 → St → Prop} (C : Cx X l E RX1 cX1_readNumber rmI_X1_readNumber (some .int)) (hQ : QI X (wI E a) post) (x2 x3 x4 x5 : Int32) (σ : St) (h : wpI_X1_readNumber_24  x2 x3 x4 x5 σ post) : G X (wI E a) σ 24 [some (.ref (a 600)), some (.ref (a 400)), some (.int x2), some (.int x3), some (.int x4), some (.int x5)] [] := by
  obtain ⟨n, h⟩ := h
  exact g_loop (J := fun t : Int32 × Int32 × Int32 × Int32 × St => G X (wI E a) t.2.2.2.2 24 [some (.ref (a 600)), some (.ref (a 400)), some (.int t.1), some (.int t.2.1), some (.int t.2.2.1), some (.int t.2.2.2.1)] []) (fun kb hkb t ht => kBI_X1_readNumber_24 C hQ  (fun x2 x3 x4 x5 σ => kb (x2, x3, x4, x5, σ)) (fun x2 x3 x4 x5 σ hh => hkb (x2, x3, x4, x5, σ) hh) t.1 t.2.1 t.2.2.1 t.2.2.2.1 t.2.2.2.2 ht) n (x2, x3, x4, x5, σ) h
def wpI_X1_readNumber (x2 x3 : Int32) (σ : St) (post : Int32 → St → Prop) : Prop := (((σ.1 601) = 2 → let y1 : Int32 := (σ.1 602); wpI_X1_readNumber_24 x2 x3 0 y1 σ post) ∧ (¬ (σ.1 601) = 2 → let σ2 : St := pI σ 604 1; post (-1) σ2))
theorem kI_X1_readNumber {X : Kx} {l : Launch} {E : Ev} {a : Nat → Nat} {post : Int32 → St → Prop} (C : Cx X l E RX1 cX1_readNumber rmI_X1_readNumber (some .int)) (hQ : QI X (wI E a) post) (x2 x3 : Int32) (σ : St) (h : wpI_X1_readNumber x2 x3 σ post) : G X (wI E a) σ 0 [some (.ref (a 600)), some (.ref (a 400)), some (.int x2), some (.int x3), none, none] [] := by
  unfold wpI_X1_readNumber at h
  refine g_aload_0 C dX1_readNumber_0 rfl ?_
  refine fgI_X1_15 C dX1_readNumber_1 ?_
  refine g_iconst_2 C dX1_readNumber_4 ?_
  refine g_icmp_eq C 15 dX1_readNumber_5 (by decide) (fun q => ?_) (fun q => ?_)
  · have h := h.1 q
    refine g_iconst_0 C dX1_readNumber_15 ?_
    refine g_istore C dX1_readNumber_16 (Nat.le_of_ble_eq_true rfl) ?_
    refine g_aload_0 C dX1_readNumber_18 rfl ?_
    refine fgI_X1_19 C dX1_readNumber_19 ?_
    refine g_istore C dX1_readNumber_22 (Nat.le_of_ble_eq_true rfl) ?_
    exact g_wk (kI_X1_readNumber_24 C hQ _ _ _ _ _ h) (And.intro rfl (And.intro rfl (And.intro rfl (And.intro rfl (And.intro rfl (And.intro rfl (trivial)))))))
  · have h := h.2 q
    refine g_aload_0 C dX1_readNumber_8 rfl ?_
    refine g_iconst_1 C dX1_readNumber_9 ?_
    refine fpI_X1_25 C dX1_readNumber_10 ?_
    refine g_iconst_m1 C dX1_readNumber_13 ?_
    exact g_ireturn C hQ dX1_readNumber_14 h
theorem cI_X1_readNumber {l : Launch} {E : Ev} {a : Nat → Nat} {x2 x3 : Int32} {σ : St} {post : Int32 → St → Prop} (h : wpI_X1_readNumber x2 x3 σ post) : CI l E (wI E a) yX1_readNumber cX1_readNumber 6 .int rmI_X1_readNumber [.ref (a 600), .ref (a 400), .int x2, .int x3] σ post := met_i (by decide) rfl (Nat.le_of_ble_eq_true rfl) rfl (fun X C hQ => kI_X1_readNumber C hQ _ _ _ h)
theorem csI_X0_45 {X : Kx} {l : Launch} {E : Ev} {a : Nat → Nat} {σ : St} {cc : ByteArray} {rm : Room} {ret : Option FieldType} {pc : Nat} {lv : List (Option Value)} {rest : List Value} {x0 x1 x2 : Int32} {post : Int32 → St → Prop} (C : Cx X l E RX0 cc rm ret) (h : wpI_X10_within x0 x1 x2 σ post) (hR : 0 + 1 ≤ rm.frames ∧ 8 + (3 + 11) + 0 ≤ rm.locals) (hW : (rest.map fun v => v.category).sum ≤ 8) (d : decode cc pc = .ok (.invokestatic 45, 3)) (k : ∀ (r : Int32) (u : St), post r u → G X (wI E a) u (pc + 3) lv (.int r :: rest)) : G X (wI E a) σ pc lv (.int x2 :: .int x1 :: .int x0 :: rest) := g_callSNi C 3 (host := "IceRun") (As := [.int x0, .int x1, .int x2]) (rest := rest) (by decide +kernel) (by decide +kernel) (by decide +kernel) (by decide +kernel) (by decide +kernel) (cI_X10_within h) ⟨rfl, rfl⟩ hR rfl rfl hW d k
theorem fgI_X0_18 {X : Kx} {l : Launch} {E : Ev} {a : Nat → Nat} {σ : St} {cc : ByteArray} {rm : Room} {ret : Option FieldType} {pc : Nat} {lv : List (Option Value)} {st : List Value} (C : Cx X l E RX0 cc rm ret) (d : decode cc pc = .ok (.getfield 18, 3)) (k : G X (wI E a) σ (pc + 3) lv (.ref (a 502) :: st)) : G X (wI E a) σ pc lv (.ref (a 500) :: st) := g_get C (q0 := 25) (ci := 0) (k := 1) rfl rfl inU_X0 (by decide) (by decide +kernel) rfl d k
theorem alI_501 {X : Kx} {l : Launch} {E : Ev} {a : Nat → Nat} {σ : St} {cc : ByteArray} {rm : Room} {ret : Option FieldType} {pc : Nat} {lv : List (Option Value)} {st : List Value} {own : String} {i : Int32} (C : Cx X l E own cc rm ret) (hin : vp_in i 6) (d : decode cc pc = .ok (.iaload, 1)) (k : G X (wI E a) σ (pc + 1) lv (.int (σ.2 501 i.toNatClampNeg) :: st)) : G X (wI E a) σ pc lv (.int i :: .ref (a 502) :: st) := g_iald C (q0 := 26) rfl hin d k
/-! IceRun$LawBook.inForce(I)I -/
abbrev rmI_X0_inForce : Room := { frames := 1, cells := 0, slots := 0, locals := 22 }
def wpI_X0_inForce_19 (s0 : Int32) (σ : St) (post : Int32 → St → Prop) : Prop := post s0 σ
theorem kI_X0_inForce_19 {X : Kx} {l : Launch} {E : Ev} {a : Nat → Nat} {post : Int32 → St → Prop} (C : Cx X l E RX0 cX0_inForce rmI_X0_inForce (some .int)) (hQ : QI X (wI E a) post) (s0 : Int32) (σ : St) (h : wpI_X0_inForce_19  s0 σ post) : G X (wI E a) σ 19 [none, none] [.int s0] := by
  unfold wpI_X0_inForce_19 at h
  exact g_ireturn C hQ dX0_inForce_19 h
def wpI_X0_inForce (x1 : Int32) (σ : St) (post : Int32 → St → Prop) : Prop := wpI_X10_within x1 0 5 σ (fun r2 σ1 => ((r2 = 0 → wpI_X0_inForce_19 (-1) σ1 post) ∧ (¬ r2 = 0 → vp_in x1 6 ∧ (wpI_X0_inForce_19 (σ1.2 501 (Int32.toNatClampNeg x1)) σ1 post))))
theorem kI_X0_inForce {X : Kx} {l : Launch} {E : Ev} {a : Nat → Nat} {post : Int32 → St → Prop} (C : Cx X l E RX0 cX0_inForce rmI_X0_inForce (some .int)) (hQ : QI X (wI E a) post) (x1 : Int32) (σ : St) (h : wpI_X0_inForce x1 σ post) : G X (wI E a) σ 0 [some (.ref (a 500)), some (.int x1)] [] := by
  unfold wpI_X0_inForce at h
  refine g_iload_1 C dX0_inForce_0 rfl ?_
  refine g_iconst_0 C dX0_inForce_1 ?_
  refine g_iconst_5 C dX0_inForce_2 ?_
  refine csI_X0_45 C h ⟨Nat.le_of_ble_eq_true rfl, Nat.le_of_ble_eq_true rfl⟩ (Nat.le_of_ble_eq_true rfl) dX0_inForce_3 (fun _ _ h => ?_)
  refine g_if_eq C 18 dX0_inForce_6 (by decide) (fun q => ?_) (fun q => ?_)
  · have h := h.1 q
    refine g_iconst_m1 C dX0_inForce_18 ?_
    exact g_wk (kI_X0_inForce_19 C hQ _ _ h) (trivial)
  · have h := h.2 q
    refine g_aload_0 C dX0_inForce_9 rfl ?_
    refine fgI_X0_18 C dX0_inForce_10 ?_
    refine g_iload_1 C dX0_inForce_13 rfl ?_
    obtain ⟨q, h⟩ := h
    refine alI_501 C q dX0_inForce_14 ?_
    refine g_goto C 19 dX0_inForce_15 (by decide) ?_
    exact g_wk (kI_X0_inForce_19 C hQ _ _ h) (trivial)
theorem cI_X0_inForce {l : Launch} {E : Ev} {a : Nat → Nat} {x1 : Int32} {σ : St} {post : Int32 → St → Prop} (h : wpI_X0_inForce x1 σ post) : CI l E (wI E a) yX0_inForce cX0_inForce 2 .int rmI_X0_inForce [.ref (a 500), .int x1] σ post := met_i (by decide) rfl (Nat.le_of_ble_eq_true rfl) rfl (fun X C hQ => kI_X0_inForce C hQ _ _ h)
theorem fgI_X4_9 {X : Kx} {l : Launch} {E : Ev} {a : Nat → Nat} {σ : St} {cc : ByteArray} {rm : Room} {ret : Option FieldType} {pc : Nat} {lv : List (Option Value)} {st : List Value} (C : Cx X l E RX4 cc rm ret) (d : decode cc pc = .ok (.getfield 9, 3)) (k : G X (wI E a) σ (pc + 3) lv (.ref (a 801) :: st)) : G X (wI E a) σ pc lv (.ref (a 800) :: st) := g_get C (q0 := 35) (ci := 4) (k := 0) rfl rfl inU_X4 (by decide) (by decide +kernel) rfl d k
theorem asI_800 {X : Kx} {l : Launch} {E : Ev} {a : Nat → Nat} {σ : St} {cc : ByteArray} {rm : Room} {ret : Option FieldType} {pc : Nat} {lv : List (Option Value)} {st : List Value} {own : String} {i x : Int32} (C : Cx X l E own cc rm ret) (hin : vp_in i 64) (d : decode cc pc = .ok (.bastore, 1)) (k : G X (wI E a) (pA σ 800 i.toNatClampNeg (vp_nar .boolean x)) (pc + 1) lv st) : G X (wI E a) σ pc lv (.int x :: .int i :: .ref (a 801) :: st) := g_zast C (q0 := 36) rfl rfl hin d k
/-! IceRun$Sheet.forgetAll()V -/
abbrev rmI_X4_forgetAll : Room := { frames := 0, cells := 0, slots := 0, locals := 0 }
def wpBI_X4_forgetAll_2 (k_2 : Int32 → St → Prop) (x1 : Int32) (σ : St) (post : St → Prop) : Prop := ((64 ≤ x1 → post σ) ∧ (¬ 64 ≤ x1 → vp_in x1 64 ∧ (let σ1 : St := pA σ 800 (Int32.toNatClampNeg x1) (vp_nar .boolean 0); let y2 : Int32 := x1 + 1; k_2 y2 σ1)))
def wpI_X4_forgetAll_2 (x1 : Int32) (σ : St) (post : St → Prop) : Prop := ∃ n : Nat, lpN (α := Int32 × St) (fun kb t => wpBI_X4_forgetAll_2 (fun x1 σ => kb (x1, σ)) t.1 t.2 post) n (x1, σ)
theorem kBI_X4_forgetAll_2 {X : Kx} {l : Launch} {E : Ev} {a : Nat → Nat} {post : St → Prop} (C : Cx X l E RX4 cX4_forgetAll rmI_X4_forgetAll none) (hQ : QV X (wI E a) post) (k_2 : Int32 → St → Prop) (hk_2 : ∀ (x1 : Int32) (σ : St), k_2 x1 σ → G X (wI E a) σ 2 [some (.ref (a 800)), some (.int x1)] []) (x1 : Int32) (σ : St) (h : wpBI_X4_forgetAll_2 k_2 x1 σ post) : G X (wI E a) σ 2 [some (.ref (a 800)), some (.int x1)] [] := by
  unfold wpBI_X4_forgetAll_2 at h
  refine g_iload_1 C dX4_forgetAll_2 rfl ?_
  refine g_aload_0 C dX4_forgetAll_3 rfl ?_
  refine fgI_X4_9 C dX4_forgetAll_4 ?_
  refine g_alen2 C (q0 := 36) (v := 64) rfl rfl dX4_forgetAll_7 ?_
  refine g_icmp_ge C 24 dX4_forgetAll_8 (by decide) (fun q => ?_) (fun q => ?_)
  · have h := h.1 q
    exact g_return C hQ dX4_forgetAll_24 h
  · have h := h.2 q
    refine g_aload_0 C dX4_forgetAll_11 rfl ?_
    refine fgI_X4_9 C dX4_forgetAll_12 ?_
    refine g_iload_1 C dX4_forgetAll_15 rfl ?_
    refine g_iconst_0 C dX4_forgetAll_16 ?_
    obtain ⟨q, h⟩ := h
    refine asI_800 C q dX4_forgetAll_17 ?_
    refine g_iinc C (v := 1) (by decide) dX4_forgetAll_18 rfl ?_
    refine g_goto C 2 dX4_forgetAll_21 (by decide) ?_
    exact g_wk (hk_2 _ _ h) (And.intro rfl (And.intro rfl (trivial)))
theorem kI_X4_forgetAll_2 {X : Kx} {l : Launch} {E : Ev} {a : Nat → Nat} {post : St → Prop} (C : Cx X l E RX4 cX4_forgetAll rmI_X4_forgetAll none) (hQ : QV X (wI E a) post) (x1 : Int32) (σ : St) (h : wpI_X4_forgetAll_2  x1 σ post) : G X (wI E a) σ 2 [some (.ref (a 800)), some (.int x1)] [] := by
  obtain ⟨n, h⟩ := h
  exact g_loop (J := fun t : Int32 × St => G X (wI E a) t.2 2 [some (.ref (a 800)), some (.int t.1)] []) (fun kb hkb t ht => kBI_X4_forgetAll_2 C hQ  (fun x1 σ => kb (x1, σ)) (fun x1 σ hh => hkb (x1, σ) hh) t.1 t.2 ht) n (x1, σ) h
def wpI_X4_forgetAll (σ : St) (post : St → Prop) : Prop := wpI_X4_forgetAll_2 0 σ post
theorem kI_X4_forgetAll {X : Kx} {l : Launch} {E : Ev} {a : Nat → Nat} {post : St → Prop} (C : Cx X l E RX4 cX4_forgetAll rmI_X4_forgetAll none) (hQ : QV X (wI E a) post) (σ : St) (h : wpI_X4_forgetAll  σ post) : G X (wI E a) σ 0 [some (.ref (a 800)), none] [] := by
  unfold wpI_X4_forgetAll at h
  refine g_iconst_0 C dX4_forgetAll_0 ?_
  refine g_istore_1 C dX4_forgetAll_1 (Nat.le_of_ble_eq_true rfl) ?_
  exact g_wk (kI_X4_forgetAll_2 C hQ _ _ h) (And.intro rfl (And.intro rfl (trivial)))
theorem cI_X4_forgetAll {l : Launch} {E : Ev} {a : Nat → Nat} {σ : St} {post : St → Prop} (h : wpI_X4_forgetAll  σ post) : CV l E (wI E a) yX4_forgetAll cX4_forgetAll 2 rmI_X4_forgetAll [.ref (a 800)] σ post := met_v (by decide) rfl (Nat.le_of_ble_eq_true rfl) rfl (fun X C hQ => kI_X4_forgetAll C hQ _ h)
theorem fgI_X2_31 {X : Kx} {l : Launch} {E : Ev} {a : Nat → Nat} {σ : St} {cc : ByteArray} {rm : Room} {ret : Option FieldType} {pc : Nat} {lv : List (Option Value)} {st : List Value} (C : Cx X l E RX2 cc rm ret) (d : decode cc pc = .ok (.getfield 31, 3)) (k : G X (wI E a) σ (pc + 3) lv (.ref (a 800) :: st)) : G X (wI E a) σ pc lv (.ref (a 700) :: st) := g_get C (q0 := 29) (ci := 2) (k := 13) rfl rfl inU_X2 (by decide) (by decide +kernel) rfl d k
theorem csI_X2_64 {X : Kx} {l : Launch} {E : Ev} {a : Nat → Nat} {σ : St} {cc : ByteArray} {rm : Room} {ret : Option FieldType} {pc : Nat} {lv : List (Option Value)} {rest : List Value} {post : St → Prop} (C : Cx X l E RX2 cc rm ret) (h : wpI_X4_forgetAll  σ post) (hR : 0 + 1 ≤ rm.frames ∧ 8 + (2 + 11) + 0 ≤ rm.locals) (hW : (rest.map fun v => v.category).sum ≤ 8) (d : decode cc pc = .ok (.invokevirtual 64, 3)) (k : ∀ u : St, post u → G X (wI E a) u (pc + 3) lv rest) : G X (wI E a) σ pc lv (.ref (a 800) :: rest) := g_callVv C 0 (As := []) (rest := rest) (Cn := RX4) (T := TX4) (N := 5) (q0 := 35) (ci := 4) (by decide +kernel) (by decide +kernel) (by decide +kernel) (by decide +kernel) (by decide +kernel) (by decide +kernel) rfl rfl (cI_X4_forgetAll h) ⟨rfl, rfl⟩ hR rfl rfl hW d k
theorem fgI_X2_25 {X : Kx} {l : Launch} {E : Ev} {a : Nat → Nat} {σ : St} {cc : ByteArray} {rm : Room} {ret : Option FieldType} {pc : Nat} {lv : List (Option Value)} {st : List Value} (C : Cx X l E RX2 cc rm ret) (d : decode cc pc = .ok (.getfield 25, 3)) (k : G X (wI E a) σ (pc + 3) lv (.ref (a 713) :: st)) : G X (wI E a) σ pc lv (.ref (a 700) :: st) := g_get C (q0 := 29) (ci := 2) (k := 12) rfl rfl inU_X2 (by decide) (by decide +kernel) rfl d k
theorem asI_712 {X : Kx} {l : Launch} {E : Ev} {a : Nat → Nat} {σ : St} {cc : ByteArray} {rm : Room} {ret : Option FieldType} {pc : Nat} {lv : List (Option Value)} {st : List Value} {own : String} {i x : Int32} (C : Cx X l E own cc rm ret) (hin : vp_in i 4) (d : decode cc pc = .ok (.iastore, 1)) (k : G X (wI E a) (pA σ 712 i.toNatClampNeg x) (pc + 1) lv st) : G X (wI E a) σ pc lv (.int x :: .int i :: .ref (a 713) :: st) := g_iast C (q0 := 34) rfl rfl hin d k
theorem fgI_X2_18 {X : Kx} {l : Launch} {E : Ev} {a : Nat → Nat} {σ : St} {cc : ByteArray} {rm : Room} {ret : Option FieldType} {pc : Nat} {lv : List (Option Value)} {st : List Value} (C : Cx X l E RX2 cc rm ret) (d : decode cc pc = .ok (.getfield 18, 3)) (k : G X (wI E a) σ (pc + 3) lv (.ref (a 711) :: st)) : G X (wI E a) σ pc lv (.ref (a 700) :: st) := g_get C (q0 := 29) (ci := 2) (k := 10) rfl rfl inU_X2 (by decide) (by decide +kernel) rfl d k
theorem asI_710 {X : Kx} {l : Launch} {E : Ev} {a : Nat → Nat} {σ : St} {cc : ByteArray} {rm : Room} {ret : Option FieldType} {pc : Nat} {lv : List (Option Value)} {st : List Value} {own : String} {i x : Int32} (C : Cx X l E own cc rm ret) (hin : vp_in i 16) (d : decode cc pc = .ok (.bastore, 1)) (k : G X (wI E a) (pA σ 710 i.toNatClampNeg (vp_nar .boolean x)) (pc + 1) lv st) : G X (wI E a) σ pc lv (.int x :: .int i :: .ref (a 711) :: st) := g_zast C (q0 := 32) rfl rfl hin d k
theorem fgI_X2_22 {X : Kx} {l : Launch} {E : Ev} {a : Nat → Nat} {σ : St} {cc : ByteArray} {rm : Room} {ret : Option FieldType} {pc : Nat} {lv : List (Option Value)} {st : List Value} (C : Cx X l E RX2 cc rm ret) (d : decode cc pc = .ok (.getfield 22, 3)) (k : G X (wI E a) σ (pc + 3) lv (.ref (a 712) :: st)) : G X (wI E a) σ pc lv (.ref (a 700) :: st) := g_get C (q0 := 29) (ci := 2) (k := 11) rfl rfl inU_X2 (by decide) (by decide +kernel) rfl d k
theorem asI_711 {X : Kx} {l : Launch} {E : Ev} {a : Nat → Nat} {σ : St} {cc : ByteArray} {rm : Room} {ret : Option FieldType} {pc : Nat} {lv : List (Option Value)} {st : List Value} {own : String} {i x : Int32} (C : Cx X l E own cc rm ret) (hin : vp_in i 16) (d : decode cc pc = .ok (.iastore, 1)) (k : G X (wI E a) (pA σ 711 i.toNatClampNeg x) (pc + 1) lv st) : G X (wI E a) σ pc lv (.int x :: .int i :: .ref (a 712) :: st) := g_iast C (q0 := 33) rfl rfl hin d k
theorem fpI_X2_38 {X : Kx} {l : Launch} {E : Ev} {a : Nat → Nat} {σ : St} {cc : ByteArray} {rm : Room} {ret : Option FieldType} {pc : Nat} {lv : List (Option Value)} {st : List Value} {v : Int32} (C : Cx X l E RX2 cc rm ret) (hz : v = 0 ∨ v = 1) (d : decode cc pc = .ok (.putfield 38, 3)) (k : G X (wI E a) (pI σ 700 v) (pc + 3) lv st) : G X (wI E a) σ pc lv (.int v :: .ref (a 700) :: st) := g_put C (q0 := 29) (ci := 2) (k := 0) (ty0 := tyX2) rfl rfl inU_X2 (by decide) tyX2_ok nmX2 (by decide +kernel) rfl (nar_z hz) (fit_z hz) (Nat.le_of_ble_eq_true rfl) rfl d k
theorem fpI_X2_42 {X : Kx} {l : Launch} {E : Ev} {a : Nat → Nat} {σ : St} {cc : ByteArray} {rm : Room} {ret : Option FieldType} {pc : Nat} {lv : List (Option Value)} {st : List Value} {v : Int32} (C : Cx X l E RX2 cc rm ret) (d : decode cc pc = .ok (.putfield 42, 3)) (k : G X (wI E a) (pI σ 701 v) (pc + 3) lv st) : G X (wI E a) σ pc lv (.int v :: .ref (a 700) :: st) := g_put C (q0 := 29) (ci := 2) (k := 1) (ty0 := tyX2) rfl rfl inU_X2 (by decide) tyX2_ok nmX2 (by decide +kernel) rfl rfl rfl (Nat.le_of_ble_eq_true rfl) rfl d k
theorem fpI_X2_46 {X : Kx} {l : Launch} {E : Ev} {a : Nat → Nat} {σ : St} {cc : ByteArray} {rm : Room} {ret : Option FieldType} {pc : Nat} {lv : List (Option Value)} {st : List Value} {v : Int32} (C : Cx X l E RX2 cc rm ret) (d : decode cc pc = .ok (.putfield 46, 3)) (k : G X (wI E a) (pI σ 702 v) (pc + 3) lv st) : G X (wI E a) σ pc lv (.int v :: .ref (a 700) :: st) := g_put C (q0 := 29) (ci := 2) (k := 2) (ty0 := tyX2) rfl rfl inU_X2 (by decide) tyX2_ok nmX2 (by decide +kernel) rfl rfl rfl (Nat.le_of_ble_eq_true rfl) rfl d k
theorem fpI_X2_49 {X : Kx} {l : Launch} {E : Ev} {a : Nat → Nat} {σ : St} {cc : ByteArray} {rm : Room} {ret : Option FieldType} {pc : Nat} {lv : List (Option Value)} {st : List Value} {v : Int32} (C : Cx X l E RX2 cc rm ret) (d : decode cc pc = .ok (.putfield 49, 3)) (k : G X (wI E a) (pI σ 703 v) (pc + 3) lv st) : G X (wI E a) σ pc lv (.int v :: .ref (a 700) :: st) := g_put C (q0 := 29) (ci := 2) (k := 3) (ty0 := tyX2) rfl rfl inU_X2 (by decide) tyX2_ok nmX2 (by decide +kernel) rfl rfl rfl (Nat.le_of_ble_eq_true rfl) rfl d k
theorem fpI_X2_52 {X : Kx} {l : Launch} {E : Ev} {a : Nat → Nat} {σ : St} {cc : ByteArray} {rm : Room} {ret : Option FieldType} {pc : Nat} {lv : List (Option Value)} {st : List Value} {v : Int32} (C : Cx X l E RX2 cc rm ret) (d : decode cc pc = .ok (.putfield 52, 3)) (k : G X (wI E a) (pI σ 704 v) (pc + 3) lv st) : G X (wI E a) σ pc lv (.int v :: .ref (a 700) :: st) := g_put C (q0 := 29) (ci := 2) (k := 4) (ty0 := tyX2) rfl rfl inU_X2 (by decide) tyX2_ok nmX2 (by decide +kernel) rfl rfl rfl (Nat.le_of_ble_eq_true rfl) rfl d k
theorem fpI_X2_55 {X : Kx} {l : Launch} {E : Ev} {a : Nat → Nat} {σ : St} {cc : ByteArray} {rm : Room} {ret : Option FieldType} {pc : Nat} {lv : List (Option Value)} {st : List Value} {v : Int32} (C : Cx X l E RX2 cc rm ret) (d : decode cc pc = .ok (.putfield 55, 3)) (k : G X (wI E a) (pI σ 705 v) (pc + 3) lv st) : G X (wI E a) σ pc lv (.int v :: .ref (a 700) :: st) := g_put C (q0 := 29) (ci := 2) (k := 5) (ty0 := tyX2) rfl rfl inU_X2 (by decide) tyX2_ok nmX2 (by decide +kernel) rfl rfl rfl (Nat.le_of_ble_eq_true rfl) rfl d k
theorem fpI_X2_58 {X : Kx} {l : Launch} {E : Ev} {a : Nat → Nat} {σ : St} {cc : ByteArray} {rm : Room} {ret : Option FieldType} {pc : Nat} {lv : List (Option Value)} {st : List Value} {v : Int32} (C : Cx X l E RX2 cc rm ret) (d : decode cc pc = .ok (.putfield 58, 3)) (k : G X (wI E a) (pI σ 706 v) (pc + 3) lv st) : G X (wI E a) σ pc lv (.int v :: .ref (a 700) :: st) := g_put C (q0 := 29) (ci := 2) (k := 6) (ty0 := tyX2) rfl rfl inU_X2 (by decide) tyX2_ok nmX2 (by decide +kernel) rfl rfl rfl (Nat.le_of_ble_eq_true rfl) rfl d k
theorem fpI_X2_61 {X : Kx} {l : Launch} {E : Ev} {a : Nat → Nat} {σ : St} {cc : ByteArray} {rm : Room} {ret : Option FieldType} {pc : Nat} {lv : List (Option Value)} {st : List Value} {v : Int32} (C : Cx X l E RX2 cc rm ret) (d : decode cc pc = .ok (.putfield 61, 3)) (k : G X (wI E a) (pI σ 707 v) (pc + 3) lv st) : G X (wI E a) σ pc lv (.int v :: .ref (a 700) :: st) := g_put C (q0 := 29) (ci := 2) (k := 7) (ty0 := tyX2) rfl rfl inU_X2 (by decide) tyX2_ok nmX2 (by decide +kernel) rfl rfl rfl (Nat.le_of_ble_eq_true rfl) rfl d k
/-! IceRun$Race.forget()V -/
abbrev rmI_X2_forget : Room := { frames := 1, cells := 0, slots := 0, locals := 21 }
def wpBI_X2_forget_70 (k_70 : Int32 → St → Prop) (x1 : Int32) (σ : St) (post : St → Prop) : Prop := ((4 ≤ x1 → wpI_X4_forgetAll σ (fun σ1 => post σ1)) ∧ (¬ 4 ≤ x1 → vp_in x1 4 ∧ (let σ2 : St := pA σ 712 (Int32.toNatClampNeg x1) (-1); let y3 : Int32 := x1 + 1; k_70 y3 σ2)))
def wpI_X2_forget_70 (x1 : Int32) (σ : St) (post : St → Prop) : Prop := ∃ n : Nat, lpN (α := Int32 × St) (fun kb t => wpBI_X2_forget_70 (fun x1 σ => kb (x1, σ)) t.1 t.2 post) n (x1, σ)
theorem kBI_X2_forget_70 {X : Kx} {l : Launch} {E : Ev} {a : Nat → Nat} {post : St → Prop} (C : Cx X l E RX2 cX2_forget rmI_X2_forget none) (hQ : QV X (wI E a) post) (k_70 : Int32 → St → Prop) (hk_70 : ∀ (x1 : Int32) (σ : St), k_70 x1 σ → G X (wI E a) σ 70 [some (.ref (a 700)), some (.int x1)] []) (x1 : Int32) (σ : St) (h : wpBI_X2_forget_70 k_70 x1 σ post) : G X (wI E a) σ 70 [some (.ref (a 700)), some (.int x1)] [] := by
  unfold wpBI_X2_forget_70 at h
  refine g_iload_1 C dX2_forget_70 rfl ?_
  refine g_iconst_4 C dX2_forget_71 ?_
  refine g_icmp_ge C 88 dX2_forget_72 (by decide) (fun q => ?_) (fun q => ?_)
  · have h := h.1 q
    refine g_aload_0 C dX2_forget_88 rfl ?_
    refine fgI_X2_31 C dX2_forget_89 ?_
    refine csI_X2_64 C h ⟨Nat.le_of_ble_eq_true rfl, Nat.le_of_ble_eq_true rfl⟩ (Nat.le_of_ble_eq_true rfl) dX2_forget_92 (fun _ h => ?_)
    exact g_return C hQ dX2_forget_95 h
  · have h := h.2 q
    refine g_aload_0 C dX2_forget_75 rfl ?_
    refine fgI_X2_25 C dX2_forget_76 ?_
    refine g_iload_1 C dX2_forget_79 rfl ?_
    refine g_iconst_m1 C dX2_forget_80 ?_
    obtain ⟨q, h⟩ := h
    refine asI_712 C q dX2_forget_81 ?_
    refine g_iinc C (v := 1) (by decide) dX2_forget_82 rfl ?_
    refine g_goto C 70 dX2_forget_85 (by decide) ?_
    exact g_wk (hk_70 _ _ h) (And.intro rfl (And.intro rfl (trivial)))
theorem kI_X2_forget_70 {X : Kx} {l : Launch} {E : Ev} {a : Nat → Nat} {post : St → Prop} (C : Cx X l E RX2 cX2_forget rmI_X2_forget none) (hQ : QV X (wI E a) post) (x1 : Int32) (σ : St) (h : wpI_X2_forget_70  x1 σ post) : G X (wI E a) σ 70 [some (.ref (a 700)), some (.int x1)] [] := by
  obtain ⟨n, h⟩ := h
  exact g_loop (J := fun t : Int32 × St => G X (wI E a) t.2 70 [some (.ref (a 700)), some (.int t.1)] []) (fun kb hkb t ht => kBI_X2_forget_70 C hQ  (fun x1 σ => kb (x1, σ)) (fun x1 σ hh => hkb (x1, σ) hh) t.1 t.2 ht) n (x1, σ) h
def wpBI_X2_forget_42 (k_42 : Int32 → St → Prop) (x1 : Int32) (σ : St) (post : St → Prop) : Prop := ((16 ≤ x1 → wpI_X2_forget_70 0 σ post) ∧ (¬ 16 ≤ x1 → vp_in x1 16 ∧ (let σ1 : St := pA σ 710 (Int32.toNatClampNeg x1) (vp_nar .boolean 0); vp_in x1 16 ∧ (let σ2 : St := pA σ1 711 (Int32.toNatClampNeg x1) (-1); let y3 : Int32 := x1 + 1; k_42 y3 σ2))))
def wpI_X2_forget_42 (x1 : Int32) (σ : St) (post : St → Prop) : Prop := ∃ n : Nat, lpN (α := Int32 × St) (fun kb t => wpBI_X2_forget_42 (fun x1 σ => kb (x1, σ)) t.1 t.2 post) n (x1, σ)
theorem kBI_X2_forget_42 {X : Kx} {l : Launch} {E : Ev} {a : Nat → Nat} {post : St → Prop} (C : Cx X l E RX2 cX2_forget rmI_X2_forget none) (hQ : QV X (wI E a) post) (k_42 : Int32 → St → Prop) (hk_42 : ∀ (x1 : Int32) (σ : St), k_42 x1 σ → G X (wI E a) σ 42 [some (.ref (a 700)), some (.int x1)] []) (x1 : Int32) (σ : St) (h : wpBI_X2_forget_42 k_42 x1 σ post) : G X (wI E a) σ 42 [some (.ref (a 700)), some (.int x1)] [] := by
  unfold wpBI_X2_forget_42 at h
  refine g_iload_1 C dX2_forget_42 rfl ?_
  refine g_bipush C (v := 16) (by decide) dX2_forget_43 ?_
  refine g_icmp_ge C 68 dX2_forget_45 (by decide) (fun q => ?_) (fun q => ?_)
  · have h := h.1 q
    refine g_iconst_0 C dX2_forget_68 ?_
    refine g_istore_1 C dX2_forget_69 (Nat.le_of_ble_eq_true rfl) ?_
    exact g_wk (kI_X2_forget_70 C hQ _ _ h) (And.intro rfl (And.intro rfl (trivial)))
  · have h := h.2 q
    refine g_aload_0 C dX2_forget_48 rfl ?_
    refine fgI_X2_18 C dX2_forget_49 ?_
    refine g_iload_1 C dX2_forget_52 rfl ?_
    refine g_iconst_0 C dX2_forget_53 ?_
    obtain ⟨q, h⟩ := h
    refine asI_710 C q dX2_forget_54 ?_
    refine g_aload_0 C dX2_forget_55 rfl ?_
    refine fgI_X2_22 C dX2_forget_56 ?_
    refine g_iload_1 C dX2_forget_59 rfl ?_
    refine g_iconst_m1 C dX2_forget_60 ?_
    obtain ⟨q, h⟩ := h
    refine asI_711 C q dX2_forget_61 ?_
    refine g_iinc C (v := 1) (by decide) dX2_forget_62 rfl ?_
    refine g_goto C 42 dX2_forget_65 (by decide) ?_
    exact g_wk (hk_42 _ _ h) (And.intro rfl (And.intro rfl (trivial)))
theorem kI_X2_forget_42 {X : Kx} {l : Launch} {E : Ev} {a : Nat → Nat} {post : St → Prop} (C : Cx X l E RX2 cX2_forget rmI_X2_forget none) (hQ : QV X (wI E a) post) (x1 : Int32) (σ : St) (h : wpI_X2_forget_42  x1 σ post) : G X (wI E a) σ 42 [some (.ref (a 700)), some (.int x1)] [] := by
  obtain ⟨n, h⟩ := h
  exact g_loop (J := fun t : Int32 × St => G X (wI E a) t.2 42 [some (.ref (a 700)), some (.int t.1)] []) (fun kb hkb t ht => kBI_X2_forget_42 C hQ  (fun x1 σ => kb (x1, σ)) (fun x1 σ hh => hkb (x1, σ) hh) t.1 t.2 ht) n (x1, σ) h
def wpI_X2_forget (σ : St) (post : St → Prop) : Prop := let σ1 : St := pI σ 700 0; let σ2 : St := pI σ1 701 0; let σ3 : St := pI σ2 702 (-1); let σ4 : St := pI σ3 703 0; let σ5 : St := pI σ4 704 0; let σ6 : St := pI σ5 705 0; let σ7 : St := pI σ6 706 0; let σ8 : St := pI σ7 707 0; wpI_X2_forget_42 0 σ8 post
theorem kI_X2_forget {X : Kx} {l : Launch} {E : Ev} {a : Nat → Nat} {post : St → Prop} (C : Cx X l E RX2 cX2_forget rmI_X2_forget none) (hQ : QV X (wI E a) post) (σ : St) (h : wpI_X2_forget  σ post) : G X (wI E a) σ 0 [some (.ref (a 700)), none] [] := by
  unfold wpI_X2_forget at h
  refine g_aload_0 C dX2_forget_0 rfl ?_
  refine g_iconst_0 C dX2_forget_1 ?_
  refine fpI_X2_38 C (Or.inl rfl) dX2_forget_2 ?_
  refine g_aload_0 C dX2_forget_5 rfl ?_
  refine g_iconst_0 C dX2_forget_6 ?_
  refine fpI_X2_42 C dX2_forget_7 ?_
  refine g_aload_0 C dX2_forget_10 rfl ?_
  refine g_iconst_m1 C dX2_forget_11 ?_
  refine fpI_X2_46 C dX2_forget_12 ?_
  refine g_aload_0 C dX2_forget_15 rfl ?_
  refine g_iconst_0 C dX2_forget_16 ?_
  refine fpI_X2_49 C dX2_forget_17 ?_
  refine g_aload_0 C dX2_forget_20 rfl ?_
  refine g_iconst_0 C dX2_forget_21 ?_
  refine fpI_X2_52 C dX2_forget_22 ?_
  refine g_aload_0 C dX2_forget_25 rfl ?_
  refine g_iconst_0 C dX2_forget_26 ?_
  refine fpI_X2_55 C dX2_forget_27 ?_
  refine g_aload_0 C dX2_forget_30 rfl ?_
  refine g_iconst_0 C dX2_forget_31 ?_
  refine fpI_X2_58 C dX2_forget_32 ?_
  refine g_aload_0 C dX2_forget_35 rfl ?_
  refine g_iconst_0 C dX2_forget_36 ?_
  refine fpI_X2_61 C dX2_forget_37 ?_
  refine g_iconst_0 C dX2_forget_40 ?_
  refine g_istore_1 C dX2_forget_41 (Nat.le_of_ble_eq_true rfl) ?_
  exact g_wk (kI_X2_forget_42 C hQ _ _ h) (And.intro rfl (And.intro rfl (trivial)))
theorem cI_X2_forget {l : Launch} {E : Ev} {a : Nat → Nat} {σ : St} {post : St → Prop} (h : wpI_X2_forget  σ post) : CV l E (wI E a) yX2_forget cX2_forget 2 rmI_X2_forget [.ref (a 700)] σ post := met_v (by decide) rfl (Nat.le_of_ble_eq_true rfl) rfl (fun X C hQ => kI_X2_forget C hQ _ h)
theorem fgI_X2_15 {X : Kx} {l : Launch} {E : Ev} {a : Nat → Nat} {σ : St} {cc : ByteArray} {rm : Room} {ret : Option FieldType} {pc : Nat} {lv : List (Option Value)} {st : List Value} (C : Cx X l E RX2 cc rm ret) (d : decode cc pc = .ok (.getfield 15, 3)) (k : G X (wI E a) σ (pc + 3) lv (.ref (a 710) :: st)) : G X (wI E a) σ pc lv (.ref (a 700) :: st) := g_get C (q0 := 29) (ci := 2) (k := 9) rfl rfl inU_X2 (by decide) (by decide +kernel) rfl d k
theorem alI_709 {X : Kx} {l : Launch} {E : Ev} {a : Nat → Nat} {σ : St} {cc : ByteArray} {rm : Room} {ret : Option FieldType} {pc : Nat} {lv : List (Option Value)} {st : List Value} {own : String} {i : Int32} (C : Cx X l E own cc rm ret) (hin : vp_in i 16) (d : decode cc pc = .ok (.iaload, 1)) (k : G X (wI E a) σ (pc + 1) lv (.int (σ.2 709 i.toNatClampNeg) :: st)) : G X (wI E a) σ pc lv (.int i :: .ref (a 710) :: st) := g_iald C (q0 := 31) rfl hin d k
/-! IceRun$Race.enter(I)V -/
abbrev rmI_X2_enter : Room := { frames := 0, cells := 0, slots := 0, locals := 0 }
def wpBI_X2_enter_7 (k_7 : Int32 → Int32 → St → Prop) (x1 x2 : Int32) (σ : St) (post : St → Prop) : Prop := ((x1 ≤ x2 → post σ) ∧ (¬ x1 ≤ x2 → vp_in x2 16 ∧ (vp_in (σ.2 709 (Int32.toNatClampNeg x2)) 16 ∧ (let σ1 : St := pA σ 710 (Int32.toNatClampNeg (σ.2 709 (Int32.toNatClampNeg x2))) (vp_nar .boolean 1); let y2 : Int32 := x2 + 1; k_7 x1 y2 σ1))))
def wpI_X2_enter_7 (x1 x2 : Int32) (σ : St) (post : St → Prop) : Prop := ∃ n : Nat, lpN (α := Int32 × Int32 × St) (fun kb t => wpBI_X2_enter_7 (fun x1 x2 σ => kb (x1, x2, σ)) t.1 t.2.1 t.2.2 post) n (x1, x2, σ)
theorem kBI_X2_enter_7 {X : Kx} {l : Launch} {E : Ev} {a : Nat → Nat} {post : St → Prop} (C : Cx X l E RX2 cX2_enter rmI_X2_enter none) (hQ : QV X (wI E a) post) (k_7 : Int32 → Int32 → St → Prop) (hk_7 : ∀ (x1 x2 : Int32) (σ : St), k_7 x1 x2 σ → G X (wI E a) σ 7 [some (.ref (a 700)), some (.int x1), some (.int x2)] []) (x1 x2 : Int32) (σ : St) (h : wpBI_X2_enter_7 k_7 x1 x2 σ post) : G X (wI E a) σ 7 [some (.ref (a 700)), some (.int x1), some (.int x2)] [] := by
  unfold wpBI_X2_enter_7 at h
  refine g_iload_2 C dX2_enter_7 rfl ?_
  refine g_iload_1 C dX2_enter_8 rfl ?_
  refine g_icmp_ge C 30 dX2_enter_9 (by decide) (fun q => ?_) (fun q => ?_)
  · have h := h.1 q
    exact g_return C hQ dX2_enter_30 h
  · have h := h.2 q
    refine g_aload_0 C dX2_enter_12 rfl ?_
    refine fgI_X2_18 C dX2_enter_13 ?_
    refine g_aload_0 C dX2_enter_16 rfl ?_
    refine fgI_X2_15 C dX2_enter_17 ?_
    refine g_iload_2 C dX2_enter_20 rfl ?_
    obtain ⟨q, h⟩ := h
    refine alI_709 C q dX2_enter_21 ?_
    refine g_iconst_1 C dX2_enter_22 ?_
    obtain ⟨q, h⟩ := h
    refine asI_710 C q dX2_enter_23 ?_
    refine g_iinc C (v := 1) (by decide) dX2_enter_24 rfl ?_
    refine g_goto C 7 dX2_enter_27 (by decide) ?_
    exact g_wk (hk_7 _ _ _ h) (And.intro rfl (And.intro rfl (And.intro rfl (trivial))))
theorem kI_X2_enter_7 {X : Kx} {l : Launch} {E : Ev} {a : Nat → Nat} {post : St → Prop} (C : Cx X l E RX2 cX2_enter rmI_X2_enter none) (hQ : QV X (wI E a) post) (x1 x2 : Int32) (σ : St) (h : wpI_X2_enter_7  x1 x2 σ post) : G X (wI E a) σ 7 [some (.ref (a 700)), some (.int x1), some (.int x2)] [] := by
  obtain ⟨n, h⟩ := h
  exact g_loop (J := fun t : Int32 × Int32 × St => G X (wI E a) t.2.2 7 [some (.ref (a 700)), some (.int t.1), some (.int t.2.1)] []) (fun kb hkb t ht => kBI_X2_enter_7 C hQ  (fun x1 x2 σ => kb (x1, x2, σ)) (fun x1 x2 σ hh => hkb (x1, x2, σ) hh) t.1 t.2.1 t.2.2 ht) n (x1, x2, σ) h
def wpI_X2_enter (x1 : Int32) (σ : St) (post : St → Prop) : Prop := let σ1 : St := pI σ 707 x1; wpI_X2_enter_7 x1 0 σ1 post
theorem kI_X2_enter {X : Kx} {l : Launch} {E : Ev} {a : Nat → Nat} {post : St → Prop} (C : Cx X l E RX2 cX2_enter rmI_X2_enter none) (hQ : QV X (wI E a) post) (x1 : Int32) (σ : St) (h : wpI_X2_enter x1 σ post) : G X (wI E a) σ 0 [some (.ref (a 700)), some (.int x1), none] [] := by
  unfold wpI_X2_enter at h
  refine g_aload_0 C dX2_enter_0 rfl ?_
  refine g_iload_1 C dX2_enter_1 rfl ?_
  refine fpI_X2_61 C dX2_enter_2 ?_
  refine g_iconst_0 C dX2_enter_5 ?_
  refine g_istore_2 C dX2_enter_6 (Nat.le_of_ble_eq_true rfl) ?_
  exact g_wk (kI_X2_enter_7 C hQ _ _ _ h) (And.intro rfl (And.intro rfl (And.intro rfl (trivial))))
theorem cI_X2_enter {l : Launch} {E : Ev} {a : Nat → Nat} {x1 : Int32} {σ : St} {post : St → Prop} (h : wpI_X2_enter x1 σ post) : CV l E (wI E a) yX2_enter cX2_enter 3 rmI_X2_enter [.ref (a 700), .int x1] σ post := met_v (by decide) rfl (Nat.le_of_ble_eq_true rfl) rfl (fun X C hQ => kI_X2_enter C hQ _ _ h)
theorem fgI_X2_49 {X : Kx} {l : Launch} {E : Ev} {a : Nat → Nat} {σ : St} {cc : ByteArray} {rm : Room} {ret : Option FieldType} {pc : Nat} {lv : List (Option Value)} {st : List Value} (C : Cx X l E RX2 cc rm ret) (d : decode cc pc = .ok (.getfield 49, 3)) (k : G X (wI E a) σ (pc + 3) lv (.int (σ.1 703) :: st)) : G X (wI E a) σ pc lv (.ref (a 700) :: st) := g_get C (q0 := 29) (ci := 2) (k := 3) rfl rfl inU_X2 (by decide) (by decide +kernel) rfl d k
theorem lc_X2_67 : Cond.constant RX2 67 1103515245 ∈ UW := by decide +kernel
theorem fgI_X2_9 {X : Kx} {l : Launch} {E : Ev} {a : Nat → Nat} {σ : St} {cc : ByteArray} {rm : Room} {ret : Option FieldType} {pc : Nat} {lv : List (Option Value)} {st : List Value} (C : Cx X l E RX2 cc rm ret) (d : decode cc pc = .ok (.getfield 9, 3)) (k : G X (wI E a) σ (pc + 3) lv (.ref (a 709) :: st)) : G X (wI E a) σ pc lv (.ref (a 700) :: st) := g_get C (q0 := 29) (ci := 2) (k := 8) rfl rfl inU_X2 (by decide) (by decide +kernel) rfl d k
theorem asI_708 {X : Kx} {l : Launch} {E : Ev} {a : Nat → Nat} {σ : St} {cc : ByteArray} {rm : Room} {ret : Option FieldType} {pc : Nat} {lv : List (Option Value)} {st : List Value} {own : String} {i x : Int32} (C : Cx X l E own cc rm ret) (hin : vp_in i 16) (d : decode cc pc = .ok (.iastore, 1)) (k : G X (wI E a) (pA σ 708 i.toNatClampNeg x) (pc + 1) lv st) : G X (wI E a) σ pc lv (.int x :: .int i :: .ref (a 709) :: st) := g_iast C (q0 := 30) rfl rfl hin d k
theorem ac_X2_68 : Cond.methodLink RX2 68 arraycopyName ∈ UW := by decide +kernel
theorem acw : Cond.native arraycopyName ∈ UW ∧ Cond.static arraycopyName ∈ UW ∧ Cond.initialized "java/lang/System" ∈ UW := ⟨by decide +kernel, by decide +kernel, by decide +kernel⟩
theorem cpI_709_709 {X : Kx} {l : Launch} {E : Ev} {a : Nat → Nat} {σ : St} {cc : ByteArray} {rm : Room} {ret : Option FieldType} {pc : Nat} {lv : List (Option Value)} {st : List Value} {own : String} {idx : Nat} {sp dp n : Int32} (C : Cx X l E own cc rm ret) (h1 : Cond.methodLink own idx arraycopyName ∈ UW) (h2 : Cond.native arraycopyName ∈ UW) (h3 : Cond.static arraycopyName ∈ UW) (h4 : Cond.initialized "java/lang/System" ∈ UW) (hc : ¬ sp < 0 ∧ ¬ dp < 0 ∧ ¬ n < 0 ∧ sp.toNatClampNeg + n.toNatClampNeg ≤ 16 ∧ dp.toNatClampNeg + n.toNatClampNeg ≤ 16) (hR : 1 ≤ rm.frames ∧ (st.map fun v => v.category).sum + 18 ≤ rm.locals) (d : decode cc pc = .ok (.invokestatic idx, 3)) (k : G X (wI E a) (pC σ 709 (va_cpy (σ.2 709) (σ.2 709) sp.toNatClampNeg dp.toNatClampNeg n.toNatClampNeg)) (pc + 3) lv st) : G X (wI E a) σ pc lv (.int n :: .int dp :: .ref (a 710) :: .int sp :: .ref (a 710) :: st) := g_copyi C h1 h2 h3 h4 (q0 := 31) (q1 := 31) rfl rfl rfl hc hR d k
/-! IceRun$Race.drawOrder(II)V -/
abbrev rmI_X2_drawOrder : Room := { frames := 1, cells := 0, slots := 0, locals := 18 }
def wpI_X2_drawOrder_98 (σ : St) (post : St → Prop) : Prop := post σ
theorem kI_X2_drawOrder_98 {X : Kx} {l : Launch} {E : Ev} {a : Nat → Nat} {post : St → Prop} (C : Cx X l E RX2 cX2_drawOrder rmI_X2_drawOrder none) (hQ : QV X (wI E a) post) (σ : St) (h : wpI_X2_drawOrder_98   σ post) : G X (wI E a) σ 98 [none, none, none, none, none, none] [] := by
  unfold wpI_X2_drawOrder_98 at h
  exact g_return C hQ dX2_drawOrder_98 h
def wpBI_X2_drawOrder_10 (k_10 : Int32 → Int32 → St → Prop) (x3 x4 : Int32) (σ : St) (post : St → Prop) : Prop := ((x4 ≤ 0 → wpI_X2_drawOrder_98 σ post) ∧ (¬ x4 ≤ 0 → ((16 ≤ (σ.1 703) → wpI_X2_drawOrder_98 σ post) ∧ (¬ 16 ≤ (σ.1 703) → let y1 : Int32 := ((x3 * 1103515245) + 12345); (¬ x4 = 0) ∧ (let y2 : Int32 := (((Int32.toUInt32 y1 >>> (Int32.toUInt32 16 &&& Int32.toUInt32 31)).toInt32) - ((Int32.toUInt32 y1 >>> (Int32.toUInt32 16 &&& Int32.toUInt32 31)).toInt32) / x4 * x4); vp_in y2 16 ∧ (vp_in (σ.1 703) 16 ∧ (let σ3 : St := pA σ 708 (Int32.toNatClampNeg (σ.1 703)) (σ.2 709 (Int32.toNatClampNeg y2)); let σ4 : St := pI σ3 703 ((σ3.1 703) + 1); (¬ (y2 + 1) < 0 ∧ ¬ y2 < 0 ∧ ¬ ((x4 - y2) - 1) < 0 ∧ (Int32.toNatClampNeg (y2 + 1)) + (Int32.toNatClampNeg ((x4 - y2) - 1)) ≤ 16 ∧ (Int32.toNatClampNeg y2) + (Int32.toNatClampNeg ((x4 - y2) - 1)) ≤ 16) ∧ (let σ5 : St := pC σ4 709 (va_cpy (σ4.2 709) (σ4.2 709) (Int32.toNatClampNeg (y2 + 1)) (Int32.toNatClampNeg y2) (Int32.toNatClampNeg ((x4 - y2) - 1))); let y6 : Int32 := x4 + (-1); k_10 y1 y6 σ5))))))))
def wpI_X2_drawOrder_10 (x3 x4 : Int32) (σ : St) (post : St → Prop) : Prop := ∃ n : Nat, lpN (α := Int32 × Int32 × St) (fun kb t => wpBI_X2_drawOrder_10 (fun x3 x4 σ => kb (x3, x4, σ)) t.1 t.2.1 t.2.2 post) n (x3, x4, σ)
theorem kBI_X2_drawOrder_10 {X : Kx} {l : Launch} {E : Ev} {a : Nat → Nat} {post : St → Prop} (C : Cx X l E RX2 cX2_drawOrder rmI_X2_drawOrder none) (hQ : QV X (wI E a) post) (k_10 : Int32 → Int32 → St → Prop) (hk_10 : ∀ (x3 x4 : Int32) (σ : St), k_10 x3 x4 σ → G X (wI E a) σ 10 [some (.ref (a 700)), none, none, some (.int x3), some (.int x4), none] []) (x3 x4 : Int32) (σ : St) (h : wpBI_X2_drawOrder_10 k_10 x3 x4 σ post) : G X (wI E a) σ 10 [some (.ref (a 700)), none, none, some (.int x3), some (.int x4), none] [] := by
  unfold wpBI_X2_drawOrder_10 at h
  refine g_iload C dX2_drawOrder_10 rfl ?_
  refine g_if_le C 98 dX2_drawOrder_12 (by decide) (fun q => ?_) (fun q => ?_)
  · have h := h.1 q
    exact g_wk (kI_X2_drawOrder_98 C hQ _ h) (trivial)
  · have h := h.2 q
    refine g_aload_0 C dX2_drawOrder_15 rfl ?_
    refine fgI_X2_49 C dX2_drawOrder_16 ?_
    refine g_bipush C (v := 16) (by decide) dX2_drawOrder_19 ?_
    refine g_icmp_ge C 98 dX2_drawOrder_21 (by decide) (fun q => ?_) (fun q => ?_)
    · have h := h.1 q
      exact g_wk (kI_X2_drawOrder_98 C hQ _ h) (trivial)
    · have h := h.2 q
      refine g_iload_3 C dX2_drawOrder_24 rfl ?_
      refine g_ldc C lc_X2_67 dX2_drawOrder_25 ?_
      refine g_imul C dX2_drawOrder_27 ?_
      refine g_sipush C (v := 12345) (by decide) dX2_drawOrder_28 ?_
      refine g_iadd C dX2_drawOrder_31 ?_
      refine g_istore_3 C dX2_drawOrder_32 (Nat.le_of_ble_eq_true rfl) ?_
      refine g_iload_3 C dX2_drawOrder_33 rfl ?_
      refine g_bipush C (v := 16) (by decide) dX2_drawOrder_34 ?_
      refine g_iushr C dX2_drawOrder_36 ?_
      refine g_iload C dX2_drawOrder_37 rfl ?_
      obtain ⟨q, h⟩ := h
      refine g_irem C q dX2_drawOrder_39 ?_
      refine g_istore C dX2_drawOrder_40 (Nat.le_of_ble_eq_true rfl) ?_
      refine g_aload_0 C dX2_drawOrder_42 rfl ?_
      refine fgI_X2_9 C dX2_drawOrder_43 ?_
      refine g_aload_0 C dX2_drawOrder_46 rfl ?_
      refine fgI_X2_49 C dX2_drawOrder_47 ?_
      refine g_aload_0 C dX2_drawOrder_50 rfl ?_
      refine fgI_X2_15 C dX2_drawOrder_51 ?_
      refine g_iload C dX2_drawOrder_54 rfl ?_
      obtain ⟨q, h⟩ := h
      refine alI_709 C q dX2_drawOrder_56 ?_
      obtain ⟨q, h⟩ := h
      refine asI_708 C q dX2_drawOrder_57 ?_
      refine g_aload_0 C dX2_drawOrder_58 rfl ?_
      refine g_dup C dX2_drawOrder_59 rfl ?_
      refine fgI_X2_49 C dX2_drawOrder_60 ?_
      refine g_iconst_1 C dX2_drawOrder_63 ?_
      refine g_iadd C dX2_drawOrder_64 ?_
      refine fpI_X2_49 C dX2_drawOrder_65 ?_
      refine g_aload_0 C dX2_drawOrder_68 rfl ?_
      refine fgI_X2_15 C dX2_drawOrder_69 ?_
      refine g_iload C dX2_drawOrder_72 rfl ?_
      refine g_iconst_1 C dX2_drawOrder_74 ?_
      refine g_iadd C dX2_drawOrder_75 ?_
      refine g_aload_0 C dX2_drawOrder_76 rfl ?_
      refine fgI_X2_15 C dX2_drawOrder_77 ?_
      refine g_iload C dX2_drawOrder_80 rfl ?_
      refine g_iload C dX2_drawOrder_82 rfl ?_
      refine g_iload C dX2_drawOrder_84 rfl ?_
      refine g_isub C dX2_drawOrder_86 ?_
      refine g_iconst_1 C dX2_drawOrder_87 ?_
      refine g_isub C dX2_drawOrder_88 ?_
      obtain ⟨q, h⟩ := h
      refine cpI_709_709 C ac_X2_68 acw.1 acw.2.1 acw.2.2 q ⟨Nat.le_of_ble_eq_true rfl, Nat.le_of_ble_eq_true rfl⟩ dX2_drawOrder_89 ?_
      refine g_iinc C (v := (-1)) (by decide) dX2_drawOrder_92 rfl ?_
      refine g_goto C 10 dX2_drawOrder_95 (by decide) ?_
      exact g_wk (hk_10 _ _ _ h) (And.intro rfl (And.intro rfl (And.intro rfl (trivial))))
theorem kI_X2_drawOrder_10 {X : Kx} {l : Launch} {E : Ev} {a : Nat → Nat} {post : St → Prop} (C : Cx X l E RX2 cX2_drawOrder rmI_X2_drawOrder none) (hQ : QV X (wI E a) post) (x3 x4 : Int32) (σ : St) (h : wpI_X2_drawOrder_10  x3 x4 σ post) : G X (wI E a) σ 10 [some (.ref (a 700)), none, none, some (.int x3), some (.int x4), none] [] := by
  obtain ⟨n, h⟩ := h
  exact g_loop (J := fun t : Int32 × Int32 × St => G X (wI E a) t.2.2 10 [some (.ref (a 700)), none, none, some (.int t.1), some (.int t.2.1), none] []) (fun kb hkb t ht => kBI_X2_drawOrder_10 C hQ  (fun x3 x4 σ => kb (x3, x4, σ)) (fun x3 x4 σ hh => hkb (x3, x4, σ) hh) t.1 t.2.1 t.2.2 ht) n (x3, x4, σ) h
def wpI_X2_drawOrder (x1 x2 : Int32) (σ : St) (post : St → Prop) : Prop := let σ1 : St := pI σ 703 0; wpI_X2_drawOrder_10 x1 x2 σ1 post
theorem kI_X2_drawOrder {X : Kx} {l : Launch} {E : Ev} {a : Nat → Nat} {post : St → Prop} (C : Cx X l E RX2 cX2_drawOrder rmI_X2_drawOrder none) (hQ : QV X (wI E a) post) (x1 x2 : Int32) (σ : St) (h : wpI_X2_drawOrder x1 x2 σ post) : G X (wI E a) σ 0 [some (.ref (a 700)), some (.int x1), some (.int x2), none, none, none] [] := by
  unfold wpI_X2_drawOrder at h
  refine g_iload_1 C dX2_drawOrder_0 rfl ?_
  refine g_istore_3 C dX2_drawOrder_1 (Nat.le_of_ble_eq_true rfl) ?_
  refine g_aload_0 C dX2_drawOrder_2 rfl ?_
  refine g_iconst_0 C dX2_drawOrder_3 ?_
  refine fpI_X2_49 C dX2_drawOrder_4 ?_
  refine g_iload_2 C dX2_drawOrder_7 rfl ?_
  refine g_istore C dX2_drawOrder_8 (Nat.le_of_ble_eq_true rfl) ?_
  exact g_wk (kI_X2_drawOrder_10 C hQ _ _ _ h) (And.intro rfl (And.intro rfl (And.intro rfl (trivial))))
theorem cI_X2_drawOrder {l : Launch} {E : Ev} {a : Nat → Nat} {x1 x2 : Int32} {σ : St} {post : St → Prop} (h : wpI_X2_drawOrder x1 x2 σ post) : CV l E (wI E a) yX2_drawOrder cX2_drawOrder 6 rmI_X2_drawOrder [.ref (a 700), .int x1, .int x2] σ post := met_v (by decide) rfl (Nat.le_of_ble_eq_true rfl) rfl (fun X C hQ => kI_X2_drawOrder C hQ _ _ _ h)

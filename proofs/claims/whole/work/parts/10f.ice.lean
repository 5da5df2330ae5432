theorem csI_X10_126 {X : Kx} {l : Launch} {E : Ev} {a : Nat → Nat} {σ : St} {cc : ByteArray} {rm : Room} {ret : Option FieldType} {pc : Nat} {lv : List (Option Value)} {rest : List Value} {post : Int32 → St → Prop} (C : Cx X l E RX10 cc rm ret) (h : wpI_X10_standardNow  σ post) (hR : 3 + 1 ≤ rm.frames ∧ 8 + (3 + 11) + 70 ≤ rm.locals) (hW : (rest.map fun v => v.category).sum ≤ 8) (d : decode cc pc = .ok (.invokevirtual 126, 3)) (k : ∀ (r : Int32) (u : St), post r u → G X (wI E a) u (pc + 3) lv (.int r :: rest)) : G X (wI E a) σ pc lv (.ref (a 0) :: rest) := g_callVi C 0 (As := []) (rest := rest) (Cn := RX10) (T := TX10) (N := 8) (q0 := 0) (ci := 9) (by decide +kernel) (by decide +kernel) (by decide +kernel) (by decide +kernel) (by decide +kernel) (by decide +kernel) rfl rfl (cI_X10_standardNow h) ⟨rfl, rfl⟩ hR rfl rfl hW d k
/-! IceRun.standard()I -/
abbrev rmI_X10_standard : Room := { frames := 4, cells := 0, slots := 0, locals := 92 }
def wpI_X10_standard (σ : St) (post : Int32 → St → Prop) : Prop := wpI_X10_standardNow  σ (fun r2 σ1 => post r2 σ1)
theorem kI_X10_standard {X : Kx} {l : Launch} {E : Ev} {a : Nat → Nat} {post : Int32 → St → Prop} (C : Cx X l E RX10 cX10_standard rmI_X10_standard (some .int)) (hQ : QI X (wI E a) post) (σ : St) (h : wpI_X10_standard  σ post) : G X (wI E a) σ 0 [some (.ref (a 0))] [] := by
  unfold wpI_X10_standard at h
  refine g_aload_0 C dX10_standard_0 rfl ?_
  refine csI_X10_126 C h ⟨Nat.le_of_ble_eq_true rfl, Nat.le_of_ble_eq_true rfl⟩ (Nat.le_of_ble_eq_true rfl) dX10_standard_1 (fun _ _ h => ?_)
  exact g_ireturn C hQ dX10_standard_4 h
theorem cI_X10_standard {l : Launch} {E : Ev} {a : Nat → Nat} {σ : St} {post : Int32 → St → Prop} (h : wpI_X10_standard  σ post) : CI l E (wI E a) yX10_standard cX10_standard 1 .int rmI_X10_standard [.ref (a 0)] σ post := met_i (by decide) rfl (Nat.le_of_ble_eq_true rfl) rfl (fun X C hQ => kI_X10_standard C hQ _ h)
theorem fgI_X10_130 {X : Kx} {l : Launch} {E : Ev} {a : Nat → Nat} {σ : St} {cc : ByteArray} {rm : Room} {ret : Option FieldType} {pc : Nat} {lv : List (Option Value)} {st : List Value} (C : Cx X l E RX10 cc rm ret) (d : decode cc pc = .ok (.getfield 130, 3)) (k : G X (wI E a) σ (pc + 3) lv (.int (σ.1 101) :: st)) : G X (wI E a) σ pc lv (.ref (a 100) :: st) := g_getN C (host := "IceRun") (q0 := 1) (ci := 8) (k := 1) rfl rfl inU_X8 (by decide) (by decide +kernel) rfl d k
theorem csI_X10_133 {X : Kx} {l : Launch} {E : Ev} {a : Nat → Nat} {σ : St} {cc : ByteArray} {rm : Room} {ret : Option FieldType} {pc : Nat} {lv : List (Option Value)} {rest : List Value} {x0 x1 x2 : Int32} {post : St → Prop} (C : Cx X l E RX10 cc rm ret) (h : wpI_X8_setEye x0 x1 x2 σ post) (hR : 0 + 1 ≤ rm.frames ∧ 8 + (4 + 11) + 0 ≤ rm.locals) (hW : (rest.map fun v => v.category).sum ≤ 8) (d : decode cc pc = .ok (.invokevirtual 133, 3)) (k : ∀ u : St, post u → G X (wI E a) u (pc + 3) lv rest) : G X (wI E a) σ pc lv (.int x2 :: .int x1 :: .int x0 :: .ref (a 100) :: rest) := g_callVv C 3 (As := [.int x0, .int x1, .int x2]) (rest := rest) (Cn := RX8) (T := TX8) (N := 9) (q0 := 1) (ci := 8) (by decide +kernel) (by decide +kernel) (by decide +kernel) (by decide +kernel) (by decide +kernel) (by decide +kernel) rfl rfl (cI_X8_setEye h) ⟨rfl, rfl⟩ hR rfl rfl hW d k
/-! IceRun.eye(III)Z -/
abbrev rmI_X10_eye : Room := { frames := 1, cells := 0, slots := 0, locals := 23 }
def wpI_X10_eye_55 (σ : St) (post : Int32 → St → Prop) : Prop := post 0 σ
theorem kI_X10_eye_55 {X : Kx} {l : Launch} {E : Ev} {a : Nat → Nat} {post : Int32 → St → Prop} (C : Cx X l E RX10 cX10_eye rmI_X10_eye (some .boolean)) (hQ : QI X (wI E a) post) (σ : St) (h : wpI_X10_eye_55   σ post) : G X (wI E a) σ 55 [none, none, none, none, none] [] := by
  unfold wpI_X10_eye_55 at h
  refine g_iconst_0 C dX10_eye_55 ?_
  exact g_zreturn C hQ dX10_eye_56 (Or.inl rfl) h
def wpI_X10_eye_22 (x1 x2 x3 s0 : Int32) (σ : St) (post : Int32 → St → Prop) : Prop := ((s0 = 0 → wpI_X10_eye_55 σ post) ∧ (¬ s0 = 0 → wpI_X10_within x1 1 ((σ.1 101) - 1) σ (fun r2 σ1 => ((r2 = 0 → wpI_X10_eye_55 σ1 post) ∧ (¬ r2 = 0 → wpI_X10_within x2 0 1 σ1 (fun r4 σ3 => ((¬ r4 = 0 → wpI_X8_setEye x1 x2 x3 σ3 (fun σ5 => post 1 σ5)) ∧ (r4 = 0 → wpI_X10_eye_55 σ3 post))))))))
theorem kI_X10_eye_22 {X : Kx} {l : Launch} {E : Ev} {a : Nat → Nat} {post : Int32 → St → Prop} (C : Cx X l E RX10 cX10_eye rmI_X10_eye (some .boolean)) (hQ : QI X (wI E a) post) (x1 x2 x3 s0 : Int32) (σ : St) (h : wpI_X10_eye_22  x1 x2 x3 s0 σ post) : G X (wI E a) σ 22 [some (.ref (a 0)), some (.int x1), some (.int x2), some (.int x3), none] [.int s0] := by
  unfold wpI_X10_eye_22 at h
  refine g_istore C dX10_eye_22 (Nat.le_of_ble_eq_true rfl) ?_
  refine g_iload C dX10_eye_24 rfl ?_
  refine g_if_eq C 55 dX10_eye_26 (by decide) (fun q => ?_) (fun q => ?_)
  · have h := h.1 q
    exact g_wk (kI_X10_eye_55 C hQ _ h) (trivial)
  · have h := h.2 q
    refine g_iload_1 C dX10_eye_29 rfl ?_
    refine g_iconst_1 C dX10_eye_30 ?_
    refine g_aload_0 C dX10_eye_31 rfl ?_
    refine fgI_X10_10 C dX10_eye_32 ?_
    refine fgI_X10_130 C dX10_eye_35 ?_
    refine g_iconst_1 C dX10_eye_38 ?_
    refine g_isub C dX10_eye_39 ?_
    refine csI_X10_62 C h ⟨Nat.le_of_ble_eq_true rfl, Nat.le_of_ble_eq_true rfl⟩ (Nat.le_of_ble_eq_true rfl) dX10_eye_40 (fun _ _ h => ?_)
    refine g_if_eq C 55 dX10_eye_43 (by decide) (fun q => ?_) (fun q => ?_)
    · have h := h.1 q
      exact g_wk (kI_X10_eye_55 C hQ _ h) (trivial)
    · have h := h.2 q
      refine g_iload_2 C dX10_eye_46 rfl ?_
      refine g_iconst_0 C dX10_eye_47 ?_
      refine g_iconst_1 C dX10_eye_48 ?_
      refine csI_X10_62 C h ⟨Nat.le_of_ble_eq_true rfl, Nat.le_of_ble_eq_true rfl⟩ (Nat.le_of_ble_eq_true rfl) dX10_eye_49 (fun _ _ h => ?_)
      refine g_if_ne C 57 dX10_eye_52 (by decide) (fun q => ?_) (fun q => ?_)
      · have h := h.1 q
        refine g_aload_0 C dX10_eye_57 rfl ?_
        refine fgI_X10_10 C dX10_eye_58 ?_
        refine g_iload_1 C dX10_eye_61 rfl ?_
        refine g_iload_2 C dX10_eye_62 rfl ?_
        refine g_iload_3 C dX10_eye_63 rfl ?_
        refine csI_X10_133 C h ⟨Nat.le_of_ble_eq_true rfl, Nat.le_of_ble_eq_true rfl⟩ (Nat.le_of_ble_eq_true rfl) dX10_eye_64 (fun _ h => ?_)
        refine g_iconst_1 C dX10_eye_67 ?_
        exact g_zreturn C hQ dX10_eye_68 (Or.inr rfl) h
      · have h := h.2 q
        exact g_wk (kI_X10_eye_55 C hQ _ h) (trivial)
def wpI_X10_eye_17 (x1 x2 x3 : Int32) (σ : St) (post : Int32 → St → Prop) : Prop := wpI_X10_eye_22 x1 x2 x3 1 σ post
theorem kI_X10_eye_17 {X : Kx} {l : Launch} {E : Ev} {a : Nat → Nat} {post : Int32 → St → Prop} (C : Cx X l E RX10 cX10_eye rmI_X10_eye (some .boolean)) (hQ : QI X (wI E a) post) (x1 x2 x3 : Int32) (σ : St) (h : wpI_X10_eye_17  x1 x2 x3 σ post) : G X (wI E a) σ 17 [some (.ref (a 0)), some (.int x1), some (.int x2), some (.int x3), none] [] := by
  unfold wpI_X10_eye_17 at h
  refine g_iconst_1 C dX10_eye_17 ?_
  refine g_goto C 22 dX10_eye_18 (by decide) ?_
  exact g_wk (kI_X10_eye_22 C hQ _ _ _ _ _ h) (And.intro rfl (And.intro rfl (And.intro rfl (And.intro rfl (trivial)))))
def wpI_X10_eye (x1 x2 x3 : Int32) (σ : St) (post : Int32 → St → Prop) : Prop := wpI_X10_within x3 (-50) 50 σ (fun r2 σ1 => ((¬ r2 = 0 → wpI_X10_eye_17 x1 x2 x3 σ1 post) ∧ (r2 = 0 → ((¬ x3 = 100 → wpI_X10_eye_22 x1 x2 x3 0 σ1 post) ∧ (x3 = 100 → wpI_X10_eye_17 x1 x2 x3 σ1 post)))))
theorem kI_X10_eye {X : Kx} {l : Launch} {E : Ev} {a : Nat → Nat} {post : Int32 → St → Prop} (C : Cx X l E RX10 cX10_eye rmI_X10_eye (some .boolean)) (hQ : QI X (wI E a) post) (x1 x2 x3 : Int32) (σ : St) (h : wpI_X10_eye x1 x2 x3 σ post) : G X (wI E a) σ 0 [some (.ref (a 0)), some (.int x1), some (.int x2), some (.int x3), none] [] := by
  unfold wpI_X10_eye at h
  refine g_iload_3 C dX10_eye_0 rfl ?_
  refine g_bipush C (v := (-50)) (by decide) dX10_eye_1 ?_
  refine g_bipush C (v := 50) (by decide) dX10_eye_3 ?_
  refine csI_X10_62 C h ⟨Nat.le_of_ble_eq_true rfl, Nat.le_of_ble_eq_true rfl⟩ (Nat.le_of_ble_eq_true rfl) dX10_eye_5 (fun _ _ h => ?_)
  refine g_if_ne C 17 dX10_eye_8 (by decide) (fun q => ?_) (fun q => ?_)
  · have h := h.1 q
    exact g_wk (kI_X10_eye_17 C hQ _ _ _ _ h) (And.intro rfl (And.intro rfl (And.intro rfl (And.intro rfl (trivial)))))
  · have h := h.2 q
    refine g_iload_3 C dX10_eye_11 rfl ?_
    refine g_bipush C (v := 100) (by decide) dX10_eye_12 ?_
    refine g_icmp_ne C 21 dX10_eye_14 (by decide) (fun q => ?_) (fun q => ?_)
    · have h := h.1 q
      refine g_iconst_0 C dX10_eye_21 ?_
      exact g_wk (kI_X10_eye_22 C hQ _ _ _ _ _ h) (And.intro rfl (And.intro rfl (And.intro rfl (And.intro rfl (trivial)))))
    · have h := h.2 q
      exact g_wk (kI_X10_eye_17 C hQ _ _ _ _ h) (And.intro rfl (And.intro rfl (And.intro rfl (And.intro rfl (trivial)))))
theorem cI_X10_eye {l : Launch} {E : Ev} {a : Nat → Nat} {x1 x2 x3 : Int32} {σ : St} {post : Int32 → St → Prop} (h : wpI_X10_eye x1 x2 x3 σ post) : CI l E (wI E a) yX10_eye cX10_eye 5 .boolean rmI_X10_eye [.ref (a 0), .int x1, .int x2, .int x3] σ post := met_i (by decide) rfl (Nat.le_of_ble_eq_true rfl) rfl (fun X C hQ => kI_X10_eye C hQ _ _ _ _ h)
theorem fgI_X10_26 {X : Kx} {l : Launch} {E : Ev} {a : Nat → Nat} {σ : St} {cc : ByteArray} {rm : Room} {ret : Option FieldType} {pc : Nat} {lv : List (Option Value)} {st : List Value} (C : Cx X l E RX10 cc rm ret) (d : decode cc pc = .ok (.getfield 26, 3)) (k : G X (wI E a) σ (pc + 3) lv (.ref (a 300) :: st)) : G X (wI E a) σ pc lv (.ref (a 0) :: st) := g_get C (q0 := 0) (ci := 9) (k := 2) rfl rfl inU_X10 (by decide) (by decide +kernel) rfl d k
theorem fgI_X10_136 {X : Kx} {l : Launch} {E : Ev} {a : Nat → Nat} {σ : St} {cc : ByteArray} {rm : Room} {ret : Option FieldType} {pc : Nat} {lv : List (Option Value)} {st : List Value} (C : Cx X l E RX10 cc rm ret) (d : decode cc pc = .ok (.getfield 136, 3)) (k : G X (wI E a) σ (pc + 3) lv (.int (σ.1 300) :: st)) : G X (wI E a) σ pc lv (.ref (a 300) :: st) := g_getN C (host := "IceRun") (q0 := 17) (ci := 5) (k := 0) rfl rfl inU_X5 (by decide) (by decide +kernel) rfl d k
theorem csI_X10_139 {X : Kx} {l : Launch} {E : Ev} {a : Nat → Nat} {σ : St} {cc : ByteArray} {rm : Room} {ret : Option FieldType} {pc : Nat} {lv : List (Option Value)} {rest : List Value} {x0 x1 x2 x3 : Int32} {post : Int32 → St → Prop} (C : Cx X l E RX10 cc rm ret) (h : wpI_X5_add x0 x1 x2 x3 σ post) (hR : 0 + 1 ≤ rm.frames ∧ 8 + (6 + 11) + 0 ≤ rm.locals) (hW : (rest.map fun v => v.category).sum ≤ 8) (d : decode cc pc = .ok (.invokevirtual 139, 3)) (k : ∀ (r : Int32) (u : St), post r u → G X (wI E a) u (pc + 3) lv (.int r :: rest)) : G X (wI E a) σ pc lv (.int x3 :: .int x2 :: .int x1 :: .int x0 :: .ref (a 300) :: rest) := g_callVi C 4 (As := [.int x0, .int x1, .int x2, .int x3]) (rest := rest) (Cn := RX5) (T := TX5) (N := 6) (q0 := 17) (ci := 5) (by decide +kernel) (by decide +kernel) (by decide +kernel) (by decide +kernel) (by decide +kernel) (by decide +kernel) rfl rfl (cI_X5_add h) ⟨rfl, rfl⟩ hR rfl rfl hW d k
/-! IceRun.sled(IIII)I -/
abbrev rmI_X10_sled : Room := { frames := 1, cells := 0, slots := 0, locals := 25 }
def wpI_X10_sled_65 (σ : St) (post : Int32 → St → Prop) : Prop := post (-1) σ
theorem kI_X10_sled_65 {X : Kx} {l : Launch} {E : Ev} {a : Nat → Nat} {post : Int32 → St → Prop} (C : Cx X l E RX10 cX10_sled rmI_X10_sled (some .int)) (hQ : QI X (wI E a) post) (σ : St) (h : wpI_X10_sled_65   σ post) : G X (wI E a) σ 65 [none, none, none, none, none, none] [] := by
  unfold wpI_X10_sled_65 at h
  refine g_iconst_m1 C dX10_sled_65 ?_
  exact g_ireturn C hQ dX10_sled_66 h
def wpI_X10_sled_46 (x1 x2 x3 x4 s0 : Int32) (σ : St) (post : Int32 → St → Prop) : Prop := ((s0 = 0 → wpI_X10_sled_65 σ post) ∧ (¬ s0 = 0 → (((σ.1 300) < 16 → wpI_X5_add x1 x2 x3 x4 σ (fun r2 σ1 => post r2 σ1)) ∧ (¬ (σ.1 300) < 16 → wpI_X10_sled_65 σ post))))
theorem kI_X10_sled_46 {X : Kx} {l : Launch} {E : Ev} {a : Nat → Nat} {post : Int32 → St → Prop} (C : Cx X l E RX10 cX10_sled rmI_X10_sled (some .int)) (hQ : QI X (wI E a) post) (x1 x2 x3 x4 s0 : Int32) (σ : St) (h : wpI_X10_sled_46  x1 x2 x3 x4 s0 σ post) : G X (wI E a) σ 46 [some (.ref (a 0)), some (.int x1), some (.int x2), some (.int x3), some (.int x4), none] [.int s0] := by
  unfold wpI_X10_sled_46 at h
  refine g_istore C dX10_sled_46 (Nat.le_of_ble_eq_true rfl) ?_
  refine g_iload C dX10_sled_48 rfl ?_
  refine g_if_eq C 65 dX10_sled_50 (by decide) (fun q => ?_) (fun q => ?_)
  · have h := h.1 q
    exact g_wk (kI_X10_sled_65 C hQ _ h) (trivial)
  · have h := h.2 q
    refine g_aload_0 C dX10_sled_53 rfl ?_
    refine fgI_X10_26 C dX10_sled_54 ?_
    refine fgI_X10_136 C dX10_sled_57 ?_
    refine g_bipush C (v := 16) (by decide) dX10_sled_60 ?_
    refine g_icmp_lt C 67 dX10_sled_62 (by decide) (fun q => ?_) (fun q => ?_)
    · have h := h.1 q
      refine g_aload_0 C dX10_sled_67 rfl ?_
      refine fgI_X10_26 C dX10_sled_68 ?_
      refine g_iload_1 C dX10_sled_71 rfl ?_
      refine g_iload_2 C dX10_sled_72 rfl ?_
      refine g_iload_3 C dX10_sled_73 rfl ?_
      refine g_iload C dX10_sled_74 rfl ?_
      refine csI_X10_139 C h ⟨Nat.le_of_ble_eq_true rfl, Nat.le_of_ble_eq_true rfl⟩ (Nat.le_of_ble_eq_true rfl) dX10_sled_76 (fun _ _ h => ?_)
      exact g_ireturn C hQ dX10_sled_79 h
    · have h := h.2 q
      exact g_wk (kI_X10_sled_65 C hQ _ h) (trivial)
def wpI_X10_sled_45 (x1 x2 x3 x4 : Int32) (σ : St) (post : Int32 → St → Prop) : Prop := wpI_X10_sled_46 x1 x2 x3 x4 0 σ post
theorem kI_X10_sled_45 {X : Kx} {l : Launch} {E : Ev} {a : Nat → Nat} {post : Int32 → St → Prop} (C : Cx X l E RX10 cX10_sled rmI_X10_sled (some .int)) (hQ : QI X (wI E a) post) (x1 x2 x3 x4 : Int32) (σ : St) (h : wpI_X10_sled_45  x1 x2 x3 x4 σ post) : G X (wI E a) σ 45 [some (.ref (a 0)), some (.int x1), some (.int x2), some (.int x3), some (.int x4), none] [] := by
  unfold wpI_X10_sled_45 at h
  refine g_iconst_0 C dX10_sled_45 ?_
  exact g_wk (kI_X10_sled_46 C hQ _ _ _ _ _ _ h) (And.intro rfl (And.intro rfl (And.intro rfl (And.intro rfl (And.intro rfl (trivial))))))
def wpI_X10_sled (x1 x2 x3 x4 : Int32) (σ : St) (post : Int32 → St → Prop) : Prop := wpI_X10_within x1 0 3 σ (fun r2 σ1 => ((r2 = 0 → wpI_X10_sled_45 x1 x2 x3 x4 σ1 post) ∧ (¬ r2 = 0 → wpI_X10_within x2 50 200 σ1 (fun r4 σ3 => ((r4 = 0 → wpI_X10_sled_45 x1 x2 x3 x4 σ3 post) ∧ (¬ r4 = 0 → wpI_X10_within x3 0 3 σ3 (fun r6 σ5 => ((r6 = 0 → wpI_X10_sled_45 x1 x2 x3 x4 σ5 post) ∧ (¬ r6 = 0 → wpI_X10_within x4 0 9 σ5 (fun r8 σ7 => ((r8 = 0 → wpI_X10_sled_45 x1 x2 x3 x4 σ7 post) ∧ (¬ r8 = 0 → wpI_X10_sled_46 x1 x2 x3 x4 1 σ7 post))))))))))))
theorem kI_X10_sled {X : Kx} {l : Launch} {E : Ev} {a : Nat → Nat} {post : Int32 → St → Prop} (C : Cx X l E RX10 cX10_sled rmI_X10_sled (some .int)) (hQ : QI X (wI E a) post) (x1 x2 x3 x4 : Int32) (σ : St) (h : wpI_X10_sled x1 x2 x3 x4 σ post) : G X (wI E a) σ 0 [some (.ref (a 0)), some (.int x1), some (.int x2), some (.int x3), some (.int x4), none] [] := by
  unfold wpI_X10_sled at h
  refine g_iload_1 C dX10_sled_0 rfl ?_
  refine g_iconst_0 C dX10_sled_1 ?_
  refine g_iconst_3 C dX10_sled_2 ?_
  refine csI_X10_62 C h ⟨Nat.le_of_ble_eq_true rfl, Nat.le_of_ble_eq_true rfl⟩ (Nat.le_of_ble_eq_true rfl) dX10_sled_3 (fun _ _ h => ?_)
  refine g_if_eq C 45 dX10_sled_6 (by decide) (fun q => ?_) (fun q => ?_)
  · have h := h.1 q
    exact g_wk (kI_X10_sled_45 C hQ _ _ _ _ _ h) (And.intro rfl (And.intro rfl (And.intro rfl (And.intro rfl (And.intro rfl (trivial))))))
  · have h := h.2 q
    refine g_iload_2 C dX10_sled_9 rfl ?_
    refine g_bipush C (v := 50) (by decide) dX10_sled_10 ?_
    refine g_sipush C (v := 200) (by decide) dX10_sled_12 ?_
    refine csI_X10_62 C h ⟨Nat.le_of_ble_eq_true rfl, Nat.le_of_ble_eq_true rfl⟩ (Nat.le_of_ble_eq_true rfl) dX10_sled_15 (fun _ _ h => ?_)
    refine g_if_eq C 45 dX10_sled_18 (by decide) (fun q => ?_) (fun q => ?_)
    · have h := h.1 q
      exact g_wk (kI_X10_sled_45 C hQ _ _ _ _ _ h) (And.intro rfl (And.intro rfl (And.intro rfl (And.intro rfl (And.intro rfl (trivial))))))
    · have h := h.2 q
      refine g_iload_3 C dX10_sled_21 rfl ?_
      refine g_iconst_0 C dX10_sled_22 ?_
      refine g_iconst_3 C dX10_sled_23 ?_
      refine csI_X10_62 C h ⟨Nat.le_of_ble_eq_true rfl, Nat.le_of_ble_eq_true rfl⟩ (Nat.le_of_ble_eq_true rfl) dX10_sled_24 (fun _ _ h => ?_)
      refine g_if_eq C 45 dX10_sled_27 (by decide) (fun q => ?_) (fun q => ?_)
      · have h := h.1 q
        exact g_wk (kI_X10_sled_45 C hQ _ _ _ _ _ h) (And.intro rfl (And.intro rfl (And.intro rfl (And.intro rfl (And.intro rfl (trivial))))))
      · have h := h.2 q
        refine g_iload C dX10_sled_30 rfl ?_
        refine g_iconst_0 C dX10_sled_32 ?_
        refine g_bipush C (v := 9) (by decide) dX10_sled_33 ?_
        refine csI_X10_62 C h ⟨Nat.le_of_ble_eq_true rfl, Nat.le_of_ble_eq_true rfl⟩ (Nat.le_of_ble_eq_true rfl) dX10_sled_35 (fun _ _ h => ?_)
        refine g_if_eq C 45 dX10_sled_38 (by decide) (fun q => ?_) (fun q => ?_)
        · have h := h.1 q
          exact g_wk (kI_X10_sled_45 C hQ _ _ _ _ _ h) (And.intro rfl (And.intro rfl (And.intro rfl (And.intro rfl (And.intro rfl (trivial))))))
        · have h := h.2 q
          refine g_iconst_1 C dX10_sled_41 ?_
          refine g_goto C 46 dX10_sled_42 (by decide) ?_
          exact g_wk (kI_X10_sled_46 C hQ _ _ _ _ _ _ h) (And.intro rfl (And.intro rfl (And.intro rfl (And.intro rfl (And.intro rfl (trivial))))))
theorem cI_X10_sled {l : Launch} {E : Ev} {a : Nat → Nat} {x1 x2 x3 x4 : Int32} {σ : St} {post : Int32 → St → Prop} (h : wpI_X10_sled x1 x2 x3 x4 σ post) : CI l E (wI E a) yX10_sled cX10_sled 6 .int rmI_X10_sled [.ref (a 0), .int x1, .int x2, .int x3, .int x4] σ post := met_i (by decide) rfl (Nat.le_of_ble_eq_true rfl) rfl (fun X C hQ => kI_X10_sled C hQ _ _ _ _ _ h)
theorem fgI_X10_33 {X : Kx} {l : Launch} {E : Ev} {a : Nat → Nat} {σ : St} {cc : ByteArray} {rm : Room} {ret : Option FieldType} {pc : Nat} {lv : List (Option Value)} {st : List Value} (C : Cx X l E RX10 cc rm ret) (d : decode cc pc = .ok (.getfield 33, 3)) (k : G X (wI E a) σ (pc + 3) lv (.ref (a 400) :: st)) : G X (wI E a) σ pc lv (.ref (a 0) :: st) := g_get C (q0 := 0) (ci := 9) (k := 3) rfl rfl inU_X10 (by decide) (by decide +kernel) rfl d k
theorem fgI_X10_143 {X : Kx} {l : Launch} {E : Ev} {a : Nat → Nat} {σ : St} {cc : ByteArray} {rm : Room} {ret : Option FieldType} {pc : Nat} {lv : List (Option Value)} {st : List Value} (C : Cx X l E RX10 cc rm ret) (d : decode cc pc = .ok (.getfield 143, 3)) (k : G X (wI E a) σ (pc + 3) lv (.int (σ.1 400) :: st)) : G X (wI E a) σ pc lv (.ref (a 400) :: st) := g_getN C (host := "IceRun") (q0 := 23) (ci := 7) (k := 0) rfl rfl inU_X7 (by decide) (by decide +kernel) rfl d k
theorem csI_X10_146 {X : Kx} {l : Launch} {E : Ev} {a : Nat → Nat} {σ : St} {cc : ByteArray} {rm : Room} {ret : Option FieldType} {pc : Nat} {lv : List (Option Value)} {rest : List Value} {x0 : Int32} {post : St → Prop} (C : Cx X l E RX10 cc rm ret) (h : wpI_X7_append x0 σ post) (hR : 0 + 1 ≤ rm.frames ∧ 8 + (3 + 11) + 0 ≤ rm.locals) (hW : (rest.map fun v => v.category).sum ≤ 8) (d : decode cc pc = .ok (.invokevirtual 146, 3)) (k : ∀ u : St, post u → G X (wI E a) u (pc + 3) lv rest) : G X (wI E a) σ pc lv (.int x0 :: .ref (a 400) :: rest) := g_callVv C 1 (As := [.int x0]) (rest := rest) (Cn := RX7) (T := TX7) (N := 2) (q0 := 23) (ci := 7) (by decide +kernel) (by decide +kernel) (by decide +kernel) (by decide +kernel) (by decide +kernel) (by decide +kernel) rfl rfl (cI_X7_append h) ⟨rfl, rfl⟩ hR rfl rfl hW d k
/-! IceRun.feed(IIIII)I -/
abbrev rmI_X10_feed : Room := { frames := 1, cells := 0, slots := 0, locals := 22 }
def wpI_X10_feed (x1 x2 x3 x4 x5 : Int32) (σ : St) (post : Int32 → St → Prop) : Prop := (((σ.1 400) ≤ 280 → wpI_X7_append x1 σ (fun σ1 => wpI_X7_append x2 σ1 (fun σ2 => wpI_X7_append x3 σ2 (fun σ3 => wpI_X7_append x4 σ3 (fun σ4 => wpI_X7_append x5 σ4 (fun σ5 => post (σ5.1 400) σ5)))))) ∧ (¬ (σ.1 400) ≤ 280 → post (-1) σ))
theorem kI_X10_feed {X : Kx} {l : Launch} {E : Ev} {a : Nat → Nat} {post : Int32 → St → Prop} (C : Cx X l E RX10 cX10_feed rmI_X10_feed (some .int)) (hQ : QI X (wI E a) post) (x1 x2 x3 x4 x5 : Int32) (σ : St) (h : wpI_X10_feed x1 x2 x3 x4 x5 σ post) : G X (wI E a) σ 0 [some (.ref (a 0)), some (.int x1), some (.int x2), some (.int x3), some (.int x4), some (.int x5)] [] := by
  unfold wpI_X10_feed at h
  refine g_aload_0 C dX10_feed_0 rfl ?_
  refine fgI_X10_33 C dX10_feed_1 ?_
  refine fgI_X10_143 C dX10_feed_4 ?_
  refine g_sipush C (v := 280) (by decide) dX10_feed_7 ?_
  refine g_icmp_le C 15 dX10_feed_10 (by decide) (fun q => ?_) (fun q => ?_)
  · have h := h.1 q
    refine g_aload_0 C dX10_feed_15 rfl ?_
    refine fgI_X10_33 C dX10_feed_16 ?_
    refine g_iload_1 C dX10_feed_19 rfl ?_
    refine csI_X10_146 C h ⟨Nat.le_of_ble_eq_true rfl, Nat.le_of_ble_eq_true rfl⟩ (Nat.le_of_ble_eq_true rfl) dX10_feed_20 (fun _ h => ?_)
    refine g_aload_0 C dX10_feed_23 rfl ?_
    refine fgI_X10_33 C dX10_feed_24 ?_
    refine g_iload_2 C dX10_feed_27 rfl ?_
    refine csI_X10_146 C h ⟨Nat.le_of_ble_eq_true rfl, Nat.le_of_ble_eq_true rfl⟩ (Nat.le_of_ble_eq_true rfl) dX10_feed_28 (fun _ h => ?_)
    refine g_aload_0 C dX10_feed_31 rfl ?_
    refine fgI_X10_33 C dX10_feed_32 ?_
    refine g_iload_3 C dX10_feed_35 rfl ?_
    refine csI_X10_146 C h ⟨Nat.le_of_ble_eq_true rfl, Nat.le_of_ble_eq_true rfl⟩ (Nat.le_of_ble_eq_true rfl) dX10_feed_36 (fun _ h => ?_)
    refine g_aload_0 C dX10_feed_39 rfl ?_
    refine fgI_X10_33 C dX10_feed_40 ?_
    refine g_iload C dX10_feed_43 rfl ?_
    refine csI_X10_146 C h ⟨Nat.le_of_ble_eq_true rfl, Nat.le_of_ble_eq_true rfl⟩ (Nat.le_of_ble_eq_true rfl) dX10_feed_45 (fun _ h => ?_)
    refine g_aload_0 C dX10_feed_48 rfl ?_
    refine fgI_X10_33 C dX10_feed_49 ?_
    refine g_iload C dX10_feed_52 rfl ?_
    refine csI_X10_146 C h ⟨Nat.le_of_ble_eq_true rfl, Nat.le_of_ble_eq_true rfl⟩ (Nat.le_of_ble_eq_true rfl) dX10_feed_54 (fun _ h => ?_)
    refine g_aload_0 C dX10_feed_57 rfl ?_
    refine fgI_X10_33 C dX10_feed_58 ?_
    refine fgI_X10_143 C dX10_feed_61 ?_
    exact g_ireturn C hQ dX10_feed_64 h
  · have h := h.2 q
    refine g_iconst_m1 C dX10_feed_13 ?_
    exact g_ireturn C hQ dX10_feed_14 h
theorem cI_X10_feed {l : Launch} {E : Ev} {a : Nat → Nat} {x1 x2 x3 x4 x5 : Int32} {σ : St} {post : Int32 → St → Prop} (h : wpI_X10_feed x1 x2 x3 x4 x5 σ post) : CI l E (wI E a) yX10_feed cX10_feed 6 .int rmI_X10_feed [.ref (a 0), .int x1, .int x2, .int x3, .int x4, .int x5] σ post := met_i (by decide) rfl (Nat.le_of_ble_eq_true rfl) rfl (fun X C hQ => kI_X10_feed C hQ _ _ _ _ _ _ h)
theorem fpI_X10_143 {X : Kx} {l : Launch} {E : Ev} {a : Nat → Nat} {σ : St} {cc : ByteArray} {rm : Room} {ret : Option FieldType} {pc : Nat} {lv : List (Option Value)} {st : List Value} {v : Int32} (C : Cx X l E RX10 cc rm ret) (d : decode cc pc = .ok (.putfield 143, 3)) (k : G X (wI E a) (pI σ 400 v) (pc + 3) lv st) : G X (wI E a) σ pc lv (.int v :: .ref (a 400) :: st) := g_putN C (host := "IceRun") (q0 := 23) (ci := 7) (k := 0) (ty0 := tyX7) rfl rfl inU_X7 (by decide) tyX7_ok nmX7 (by decide +kernel) rfl rfl rfl (Nat.le_of_ble_eq_true rfl) rfl d k
/-! IceRun.end(I)I -/
abbrev rmI_X10_end : Room := { frames := 1, cells := 0, slots := 0, locals := 22 }
def wpI_X10_end (x1 : Int32) (σ : St) (post : Int32 → St → Prop) : Prop := wpI_X10_within x1 0 (σ.1 400) σ (fun r2 σ1 => ((¬ r2 = 0 → let σ3 : St := pI σ1 400 x1; post x1 σ3) ∧ (r2 = 0 → post (-1) σ1)))
theorem kI_X10_end {X : Kx} {l : Launch} {E : Ev} {a : Nat → Nat} {post : Int32 → St → Prop} (C : Cx X l E RX10 cX10_end rmI_X10_end (some .int)) (hQ : QI X (wI E a) post) (x1 : Int32) (σ : St) (h : wpI_X10_end x1 σ post) : G X (wI E a) σ 0 [some (.ref (a 0)), some (.int x1)] [] := by
  unfold wpI_X10_end at h
  refine g_iload_1 C dX10_end_0 rfl ?_
  refine g_iconst_0 C dX10_end_1 ?_
  refine g_aload_0 C dX10_end_2 rfl ?_
  refine fgI_X10_33 C dX10_end_3 ?_
  refine fgI_X10_143 C dX10_end_6 ?_
  refine csI_X10_62 C h ⟨Nat.le_of_ble_eq_true rfl, Nat.le_of_ble_eq_true rfl⟩ (Nat.le_of_ble_eq_true rfl) dX10_end_9 (fun _ _ h => ?_)
  refine g_if_ne C 17 dX10_end_12 (by decide) (fun q => ?_) (fun q => ?_)
  · have h := h.1 q
    refine g_aload_0 C dX10_end_17 rfl ?_
    refine fgI_X10_33 C dX10_end_18 ?_
    refine g_iload_1 C dX10_end_21 rfl ?_
    refine fpI_X10_143 C dX10_end_22 ?_
    refine g_iload_1 C dX10_end_25 rfl ?_
    exact g_ireturn C hQ dX10_end_26 h
  · have h := h.2 q
    refine g_iconst_m1 C dX10_end_15 ?_
    exact g_ireturn C hQ dX10_end_16 h
theorem cI_X10_end {l : Launch} {E : Ev} {a : Nat → Nat} {x1 : Int32} {σ : St} {post : Int32 → St → Prop} (h : wpI_X10_end x1 σ post) : CI l E (wI E a) yX10_end cX10_end 2 .int rmI_X10_end [.ref (a 0), .int x1] σ post := met_i (by decide) rfl (Nat.le_of_ble_eq_true rfl) rfl (fun X C hQ => kI_X10_end C hQ _ _ h)
theorem fgI_X10_40 {X : Kx} {l : Launch} {E : Ev} {a : Nat → Nat} {σ : St} {cc : ByteArray} {rm : Room} {ret : Option FieldType} {pc : Nat} {lv : List (Option Value)} {st : List Value} (C : Cx X l E RX10 cc rm ret) (d : decode cc pc = .ok (.getfield 40, 3)) (k : G X (wI E a) σ (pc + 3) lv (.ref (a 500) :: st)) : G X (wI E a) σ pc lv (.ref (a 0) :: st) := g_get C (q0 := 0) (ci := 9) (k := 4) rfl rfl inU_X10 (by decide) (by decide +kernel) rfl d k
theorem fgI_X10_154 {X : Kx} {l : Launch} {E : Ev} {a : Nat → Nat} {σ : St} {cc : ByteArray} {rm : Room} {ret : Option FieldType} {pc : Nat} {lv : List (Option Value)} {st : List Value} (C : Cx X l E RX10 cc rm ret) (d : decode cc pc = .ok (.getfield 154, 3)) (k : G X (wI E a) σ (pc + 3) lv (.int (σ.1 502) :: st)) : G X (wI E a) σ pc lv (.ref (a 500) :: st) := g_getN C (host := "IceRun") (q0 := 25) (ci := 0) (k := 2) rfl rfl inU_X0 (by decide) (by decide +kernel) rfl d k
/-! IceRun.place()I -/
abbrev rmI_X10_place : Room := { frames := 0, cells := 0, slots := 0, locals := 0 }
def wpI_X10_place (σ : St) (post : Int32 → St → Prop) : Prop := post (σ.1 502) σ
theorem kI_X10_place {X : Kx} {l : Launch} {E : Ev} {a : Nat → Nat} {post : Int32 → St → Prop} (C : Cx X l E RX10 cX10_place rmI_X10_place (some .int)) (hQ : QI X (wI E a) post) (σ : St) (h : wpI_X10_place  σ post) : G X (wI E a) σ 0 [some (.ref (a 0))] [] := by
  unfold wpI_X10_place at h
  refine g_aload_0 C dX10_place_0 rfl ?_
  refine fgI_X10_40 C dX10_place_1 ?_
  refine fgI_X10_154 C dX10_place_4 ?_
  exact g_ireturn C hQ dX10_place_7 h
theorem cI_X10_place {l : Launch} {E : Ev} {a : Nat → Nat} {σ : St} {post : Int32 → St → Prop} (h : wpI_X10_place  σ post) : CI l E (wI E a) yX10_place cX10_place 1 .int rmI_X10_place [.ref (a 0)] σ post := met_i (by decide) rfl (Nat.le_of_ble_eq_true rfl) rfl (fun X C hQ => kI_X10_place C hQ _ h)
theorem csI_X10_157 {X : Kx} {l : Launch} {E : Ev} {a : Nat → Nat} {σ : St} {cc : ByteArray} {rm : Room} {ret : Option FieldType} {pc : Nat} {lv : List (Option Value)} {rest : List Value} {x0 : Int32} {post : Int32 → St → Prop} (C : Cx X l E RX10 cc rm ret) (h : wpI_X0_inForce x0 σ post) (hR : 1 + 1 ≤ rm.frames ∧ 8 + (2 + 11) + 22 ≤ rm.locals) (hW : (rest.map fun v => v.category).sum ≤ 8) (d : decode cc pc = .ok (.invokevirtual 157, 3)) (k : ∀ (r : Int32) (u : St), post r u → G X (wI E a) u (pc + 3) lv (.int r :: rest)) : G X (wI E a) σ pc lv (.int x0 :: .ref (a 500) :: rest) := g_callVi C 1 (As := [.int x0]) (rest := rest) (Cn := RX0) (T := TX0) (N := 3) (q0 := 25) (ci := 0) (by decide +kernel) (by decide +kernel) (by decide +kernel) (by decide +kernel) (by decide +kernel) (by decide +kernel) rfl rfl (cI_X0_inForce h) ⟨rfl, rfl⟩ hR rfl rfl hW d k
/-! IceRun.law(I)I -/
abbrev rmI_X10_law : Room := { frames := 2, cells := 0, slots := 0, locals := 43 }
def wpI_X10_law (x1 : Int32) (σ : St) (post : Int32 → St → Prop) : Prop := wpI_X0_inForce x1 σ (fun r2 σ1 => post r2 σ1)
theorem kI_X10_law {X : Kx} {l : Launch} {E : Ev} {a : Nat → Nat} {post : Int32 → St → Prop} (C : Cx X l E RX10 cX10_law rmI_X10_law (some .int)) (hQ : QI X (wI E a) post) (x1 : Int32) (σ : St) (h : wpI_X10_law x1 σ post) : G X (wI E a) σ 0 [some (.ref (a 0)), some (.int x1)] [] := by
  unfold wpI_X10_law at h
  refine g_aload_0 C dX10_law_0 rfl ?_
  refine fgI_X10_40 C dX10_law_1 ?_
  refine g_iload_1 C dX10_law_4 rfl ?_
  refine csI_X10_157 C h ⟨Nat.le_of_ble_eq_true rfl, Nat.le_of_ble_eq_true rfl⟩ (Nat.le_of_ble_eq_true rfl) dX10_law_5 (fun _ _ h => ?_)
  exact g_ireturn C hQ dX10_law_8 h
theorem cI_X10_law {l : Launch} {E : Ev} {a : Nat → Nat} {x1 : Int32} {σ : St} {post : Int32 → St → Prop} (h : wpI_X10_law x1 σ post) : CI l E (wI E a) yX10_law cX10_law 2 .int rmI_X10_law [.ref (a 0), .int x1] σ post := met_i (by decide) rfl (Nat.le_of_ble_eq_true rfl) rfl (fun X C hQ => kI_X10_law C hQ _ _ h)
theorem csI_X10_161 {X : Kx} {l : Launch} {E : Ev} {a : Nat → Nat} {σ : St} {cc : ByteArray} {rm : Room} {ret : Option FieldType} {pc : Nat} {lv : List (Option Value)} {rest : List Value} {post : St → Prop} (C : Cx X l E RX10 cc rm ret) (h : wpI_X2_forget  σ post) (hR : 1 + 1 ≤ rm.frames ∧ 8 + (2 + 11) + 21 ≤ rm.locals) (hW : (rest.map fun v => v.category).sum ≤ 8) (d : decode cc pc = .ok (.invokevirtual 161, 3)) (k : ∀ u : St, post u → G X (wI E a) u (pc + 3) lv rest) : G X (wI E a) σ pc lv (.ref (a 700) :: rest) := g_callVv C 0 (As := []) (rest := rest) (Cn := RX2) (T := TX2) (N := 14) (q0 := 29) (ci := 2) (by decide +kernel) (by decide +kernel) (by decide +kernel) (by decide +kernel) (by decide +kernel) (by decide +kernel) rfl rfl (cI_X2_forget h) ⟨rfl, rfl⟩ hR rfl rfl hW d k
theorem fpI_X10_66 {X : Kx} {l : Launch} {E : Ev} {a : Nat → Nat} {σ : St} {cc : ByteArray} {rm : Room} {ret : Option FieldType} {pc : Nat} {lv : List (Option Value)} {st : List Value} {v : Int32} (C : Cx X l E RX10 cc rm ret) (hz : v = 0 ∨ v = 1) (d : decode cc pc = .ok (.putfield 66, 3)) (k : G X (wI E a) (pI σ 700 v) (pc + 3) lv st) : G X (wI E a) σ pc lv (.int v :: .ref (a 700) :: st) := g_putN C (host := "IceRun") (q0 := 29) (ci := 2) (k := 0) (ty0 := tyX2) rfl rfl inU_X2 (by decide) tyX2_ok nmX2 (by decide +kernel) rfl (nar_z hz) (fit_z hz) (Nat.le_of_ble_eq_true rfl) rfl d k
/-! IceRun.race()Z -/
abbrev rmI_X10_race : Room := { frames := 2, cells := 0, slots := 0, locals := 42 }
def wpI_X10_race_21 (σ : St) (post : Int32 → St → Prop) : Prop := post 0 σ
theorem kI_X10_race_21 {X : Kx} {l : Launch} {E : Ev} {a : Nat → Nat} {post : Int32 → St → Prop} (C : Cx X l E RX10 cX10_race rmI_X10_race (some .boolean)) (hQ : QI X (wI E a) post) (σ : St) (h : wpI_X10_race_21   σ post) : G X (wI E a) σ 21 [none] [] := by
  unfold wpI_X10_race_21 at h
  refine g_iconst_0 C dX10_race_21 ?_
  exact g_zreturn C hQ dX10_race_22 (Or.inl rfl) h
def wpI_X10_race (σ : St) (post : Int32 → St → Prop) : Prop := (((σ.1 100) = 0 → wpI_X10_race_21 σ post) ∧ (¬ (σ.1 100) = 0 → (((σ.1 702) = (-1) → wpI_X2_forget  σ (fun σ1 => let σ2 : St := pI σ1 700 1; post 1 σ2)) ∧ (¬ (σ.1 702) = (-1) → wpI_X10_race_21 σ post))))
theorem kI_X10_race {X : Kx} {l : Launch} {E : Ev} {a : Nat → Nat} {post : Int32 → St → Prop} (C : Cx X l E RX10 cX10_race rmI_X10_race (some .boolean)) (hQ : QI X (wI E a) post) (σ : St) (h : wpI_X10_race  σ post) : G X (wI E a) σ 0 [some (.ref (a 0))] [] := by
  unfold wpI_X10_race at h
  refine g_aload_0 C dX10_race_0 rfl ?_
  refine fgI_X10_10 C dX10_race_1 ?_
  refine fgI_X10_113 C dX10_race_4 ?_
  refine g_if_eq C 21 dX10_race_7 (by decide) (fun q => ?_) (fun q => ?_)
  · have h := h.1 q
    exact g_wk (kI_X10_race_21 C hQ _ h) (trivial)
  · have h := h.2 q
    refine g_aload_0 C dX10_race_10 rfl ?_
    refine fgI_X10_47 C dX10_race_11 ?_
    refine fgI_X10_78 C dX10_race_14 ?_
    refine g_iconst_m1 C dX10_race_17 ?_
    refine g_icmp_eq C 23 dX10_race_18 (by decide) (fun q => ?_) (fun q => ?_)
    · have h := h.1 q
      refine g_aload_0 C dX10_race_23 rfl ?_
      refine fgI_X10_47 C dX10_race_24 ?_
      refine csI_X10_161 C h ⟨Nat.le_of_ble_eq_true rfl, Nat.le_of_ble_eq_true rfl⟩ (Nat.le_of_ble_eq_true rfl) dX10_race_27 (fun _ h => ?_)
      refine g_aload_0 C dX10_race_30 rfl ?_
      refine fgI_X10_47 C dX10_race_31 ?_
      refine g_iconst_1 C dX10_race_34 ?_
      refine fpI_X10_66 C (Or.inr rfl) dX10_race_35 ?_
      refine g_iconst_1 C dX10_race_38 ?_
      exact g_zreturn C hQ dX10_race_39 (Or.inr rfl) h
    · have h := h.2 q
      exact g_wk (kI_X10_race_21 C hQ _ h) (trivial)
theorem cI_X10_race {l : Launch} {E : Ev} {a : Nat → Nat} {σ : St} {post : Int32 → St → Prop} (h : wpI_X10_race  σ post) : CI l E (wI E a) yX10_race cX10_race 1 .boolean rmI_X10_race [.ref (a 0)] σ post := met_i (by decide) rfl (Nat.le_of_ble_eq_true rfl) rfl (fun X C hQ => kI_X10_race C hQ _ h)
theorem fgI_X10_272 {X : Kx} {l : Launch} {E : Ev} {a : Nat → Nat} {σ : St} {cc : ByteArray} {rm : Room} {ret : Option FieldType} {pc : Nat} {lv : List (Option Value)} {st : List Value} (C : Cx X l E RX10 cc rm ret) (d : decode cc pc = .ok (.getfield 272, 3)) (k : G X (wI E a) σ (pc + 3) lv (.ref (a 710) :: st)) : G X (wI E a) σ pc lv (.ref (a 700) :: st) := g_getN C (host := "IceRun") (q0 := 29) (ci := 2) (k := 9) rfl rfl inU_X2 (by decide) (by decide +kernel) rfl d k
theorem csI_X10_275 {X : Kx} {l : Launch} {E : Ev} {a : Nat → Nat} {σ : St} {cc : ByteArray} {rm : Room} {ret : Option FieldType} {pc : Nat} {lv : List (Option Value)} {rest : List Value} {x0 : Int32} {post : Int32 → St → Prop} (C : Cx X l E RX10 cc rm ret) (h : wpI_X5_listUpTo x0 σ post) (hR : 0 + 1 ≤ rm.frames ∧ 8 + (5 + 11) + 0 ≤ rm.locals) (hW : (rest.map fun v => v.category).sum ≤ 8) (d : decode cc pc = .ok (.invokevirtual 275, 3)) (k : ∀ (r : Int32) (u : St), post r u → G X (wI E a) u (pc + 3) lv (.int r :: rest)) : G X (wI E a) σ pc lv (.ref (a 710) :: .int x0 :: .ref (a 300) :: rest) := g_callVi C 2 (As := [.int x0, .ref (a 710)]) (rest := rest) (Cn := RX5) (T := TX5) (N := 6) (q0 := 17) (ci := 5) (by decide +kernel) (by decide +kernel) (by decide +kernel) (by decide +kernel) (by decide +kernel) (by decide +kernel) rfl rfl (cI_X5_listUpTo h) ⟨rfl, rfl⟩ hR rfl rfl hW d k
theorem csI_X10_279 {X : Kx} {l : Launch} {E : Ev} {a : Nat → Nat} {σ : St} {cc : ByteArray} {rm : Room} {ret : Option FieldType} {pc : Nat} {lv : List (Option Value)} {rest : List Value} {x0 : Int32} {post : St → Prop} (C : Cx X l E RX10 cc rm ret) (h : wpI_X2_enter x0 σ post) (hR : 0 + 1 ≤ rm.frames ∧ 8 + (3 + 11) + 0 ≤ rm.locals) (hW : (rest.map fun v => v.category).sum ≤ 8) (d : decode cc pc = .ok (.invokevirtual 279, 3)) (k : ∀ u : St, post u → G X (wI E a) u (pc + 3) lv rest) : G X (wI E a) σ pc lv (.int x0 :: .ref (a 700) :: rest) := g_callVv C 1 (As := [.int x0]) (rest := rest) (Cn := RX2) (T := TX2) (N := 14) (q0 := 29) (ci := 2) (by decide +kernel) (by decide +kernel) (by decide +kernel) (by decide +kernel) (by decide +kernel) (by decide +kernel) rfl rfl (cI_X2_enter h) ⟨rfl, rfl⟩ hR rfl rfl hW d k
theorem csI_X10_282 {X : Kx} {l : Launch} {E : Ev} {a : Nat → Nat} {σ : St} {cc : ByteArray} {rm : Room} {ret : Option FieldType} {pc : Nat} {lv : List (Option Value)} {rest : List Value} {x0 x1 : Int32} {post : St → Prop} (C : Cx X l E RX10 cc rm ret) (h : wpI_X2_drawOrder x0 x1 σ post) (hR : 1 + 1 ≤ rm.frames ∧ 8 + (6 + 11) + 18 ≤ rm.locals) (hW : (rest.map fun v => v.category).sum ≤ 8) (d : decode cc pc = .ok (.invokevirtual 282, 3)) (k : ∀ u : St, post u → G X (wI E a) u (pc + 3) lv rest) : G X (wI E a) σ pc lv (.int x1 :: .int x0 :: .ref (a 700) :: rest) := g_callVv C 2 (As := [.int x0, .int x1]) (rest := rest) (Cn := RX2) (T := TX2) (N := 14) (q0 := 29) (ci := 2) (by decide +kernel) (by decide +kernel) (by decide +kernel) (by decide +kernel) (by decide +kernel) (by decide +kernel) rfl rfl (cI_X2_drawOrder h) ⟨rfl, rfl⟩ hR rfl rfl hW d k
theorem csI_X10_285 {X : Kx} {l : Launch} {E : Ev} {a : Nat → Nat} {σ : St} {cc : ByteArray} {rm : Room} {ret : Option FieldType} {pc : Nat} {lv : List (Option Value)} {rest : List Value} {post : Int32 → St → Prop} (C : Cx X l E RX10 cc rm ret) (h : wpI_X2_beginRun  σ post) (hR : 0 + 1 ≤ rm.frames ∧ 8 + (1 + 11) + 0 ≤ rm.locals) (hW : (rest.map fun v => v.category).sum ≤ 8) (d : decode cc pc = .ok (.invokevirtual 285, 3)) (k : ∀ (r : Int32) (u : St), post r u → G X (wI E a) u (pc + 3) lv (.int r :: rest)) : G X (wI E a) σ pc lv (.ref (a 700) :: rest) := g_callVi C 0 (As := []) (rest := rest) (Cn := RX2) (T := TX2) (N := 14) (q0 := 29) (ci := 2) (by decide +kernel) (by decide +kernel) (by decide +kernel) (by decide +kernel) (by decide +kernel) (by decide +kernel) rfl rfl (cI_X2_beginRun h) ⟨rfl, rfl⟩ hR rfl rfl hW d k
/-! IceRun.beginFirst(I)I -/
abbrev rmI_X10_beginFirst : Room := { frames := 2, cells := 0, slots := 0, locals := 43 }
def wpI_X10_beginFirst (x1 : Int32) (σ : St) (post : Int32 → St → Prop) : Prop := wpI_X0_inForce 0 σ (fun r2 σ1 => wpI_X5_listUpTo r2 σ1 (fun r4 σ3 => ((¬ r4 = 0 → wpI_X2_enter r4 σ3 (fun σ5 => wpI_X2_drawOrder x1 r4 σ5 (fun σ6 => wpI_X2_beginRun  σ6 (fun r8 σ7 => post r8 σ7)))) ∧ (r4 = 0 → post (-1) σ3))))
theorem kI_X10_beginFirst {X : Kx} {l : Launch} {E : Ev} {a : Nat → Nat} {post : Int32 → St → Prop} (C : Cx X l E RX10 cX10_beginFirst rmI_X10_beginFirst (some .int)) (hQ : QI X (wI E a) post) (x1 : Int32) (σ : St) (h : wpI_X10_beginFirst x1 σ post) : G X (wI E a) σ 0 [some (.ref (a 0)), some (.int x1), none] [] := by
  unfold wpI_X10_beginFirst at h
  refine g_aload_0 C dX10_beginFirst_0 rfl ?_
  refine fgI_X10_26 C dX10_beginFirst_1 ?_
  refine g_aload_0 C dX10_beginFirst_4 rfl ?_
  refine fgI_X10_40 C dX10_beginFirst_5 ?_
  refine g_iconst_0 C dX10_beginFirst_8 ?_
  refine csI_X10_157 C h ⟨Nat.le_of_ble_eq_true rfl, Nat.le_of_ble_eq_true rfl⟩ (Nat.le_of_ble_eq_true rfl) dX10_beginFirst_9 (fun _ _ h => ?_)
  refine g_aload_0 C dX10_beginFirst_12 rfl ?_
  refine fgI_X10_47 C dX10_beginFirst_13 ?_
  refine fgI_X10_272 C dX10_beginFirst_16 ?_
  refine csI_X10_275 C h ⟨Nat.le_of_ble_eq_true rfl, Nat.le_of_ble_eq_true rfl⟩ (Nat.le_of_ble_eq_true rfl) dX10_beginFirst_19 (fun _ _ h => ?_)
  refine g_istore_2 C dX10_beginFirst_22 (Nat.le_of_ble_eq_true rfl) ?_
  refine g_iload_2 C dX10_beginFirst_23 rfl ?_
  refine g_if_ne C 29 dX10_beginFirst_24 (by decide) (fun q => ?_) (fun q => ?_)
  · have h := h.1 q
    refine g_aload_0 C dX10_beginFirst_29 rfl ?_
    refine fgI_X10_47 C dX10_beginFirst_30 ?_
    refine g_iload_2 C dX10_beginFirst_33 rfl ?_
    refine csI_X10_279 C h ⟨Nat.le_of_ble_eq_true rfl, Nat.le_of_ble_eq_true rfl⟩ (Nat.le_of_ble_eq_true rfl) dX10_beginFirst_34 (fun _ h => ?_)
    refine g_aload_0 C dX10_beginFirst_37 rfl ?_
    refine fgI_X10_47 C dX10_beginFirst_38 ?_
    refine g_iload_1 C dX10_beginFirst_41 rfl ?_
    refine g_iload_2 C dX10_beginFirst_42 rfl ?_
    refine csI_X10_282 C h ⟨Nat.le_of_ble_eq_true rfl, Nat.le_of_ble_eq_true rfl⟩ (Nat.le_of_ble_eq_true rfl) dX10_beginFirst_43 (fun _ h => ?_)
    refine g_aload_0 C dX10_beginFirst_46 rfl ?_
    refine fgI_X10_47 C dX10_beginFirst_47 ?_
    refine csI_X10_285 C h ⟨Nat.le_of_ble_eq_true rfl, Nat.le_of_ble_eq_true rfl⟩ (Nat.le_of_ble_eq_true rfl) dX10_beginFirst_50 (fun _ _ h => ?_)
    exact g_ireturn C hQ dX10_beginFirst_53 h
  · have h := h.2 q
    refine g_iconst_m1 C dX10_beginFirst_27 ?_
    exact g_ireturn C hQ dX10_beginFirst_28 h
theorem cI_X10_beginFirst {l : Launch} {E : Ev} {a : Nat → Nat} {x1 : Int32} {σ : St} {post : Int32 → St → Prop} (h : wpI_X10_beginFirst x1 σ post) : CI l E (wI E a) yX10_beginFirst cX10_beginFirst 3 .int rmI_X10_beginFirst [.ref (a 0), .int x1] σ post := met_i (by decide) rfl (Nat.le_of_ble_eq_true rfl) rfl (fun X C hQ => kI_X10_beginFirst C hQ _ _ h)
theorem fgI_X10_54 {X : Kx} {l : Launch} {E : Ev} {a : Nat → Nat} {σ : St} {cc : ByteArray} {rm : Room} {ret : Option FieldType} {pc : Nat} {lv : List (Option Value)} {st : List Value} (C : Cx X l E RX10 cc rm ret) (d : decode cc pc = .ok (.getfield 54, 3)) (k : G X (wI E a) σ (pc + 3) lv (.ref (a 900) :: st)) : G X (wI E a) σ pc lv (.ref (a 0) :: st) := g_get C (q0 := 0) (ci := 9) (k := 6) rfl rfl inU_X10 (by decide) (by decide +kernel) rfl d k
theorem fgI_X10_214 {X : Kx} {l : Launch} {E : Ev} {a : Nat → Nat} {σ : St} {cc : ByteArray} {rm : Room} {ret : Option FieldType} {pc : Nat} {lv : List (Option Value)} {st : List Value} (C : Cx X l E RX10 cc rm ret) (d : decode cc pc = .ok (.getfield 214, 3)) (k : G X (wI E a) σ (pc + 3) lv (.int (σ.1 705) :: st)) : G X (wI E a) σ pc lv (.ref (a 700) :: st) := g_getN C (host := "IceRun") (q0 := 29) (ci := 2) (k := 5) rfl rfl inU_X2 (by decide) (by decide +kernel) rfl d k
theorem csI_X10_217 {X : Kx} {l : Launch} {E : Ev} {a : Nat → Nat} {σ : St} {cc : ByteArray} {rm : Room} {ret : Option FieldType} {pc : Nat} {lv : List (Option Value)} {rest : List Value} {x1 : Int32} {post : St → Prop} (C : Cx X l E RX10 cc rm ret) (h : wpI_X6_recall x1 σ post) (hR : 4 + 1 ≤ rm.frames ∧ 8 + (4 + 11) + 92 ≤ rm.locals) (hW : (rest.map fun v => v.category).sum ≤ 8) (d : decode cc pc = .ok (.invokevirtual 217, 3)) (k : ∀ u : St, post u → G X (wI E a) u (pc + 3) lv rest) : G X (wI E a) σ pc lv (.int x1 :: .ref (a 700) :: .ref (a 900) :: rest) := g_callVv C 2 (As := [.ref (a 700), .int x1]) (rest := rest) (Cn := RX6) (T := TX6) (N := 3) (q0 := 41) (ci := 6) (by decide +kernel) (by decide +kernel) (by decide +kernel) (by decide +kernel) (by decide +kernel) (by decide +kernel) rfl rfl (cI_X6_recall h) ⟨rfl, rfl⟩ hR rfl rfl hW d k
theorem csI_X10_288 {X : Kx} {l : Launch} {E : Ev} {a : Nat → Nat} {σ : St} {cc : ByteArray} {rm : Room} {ret : Option FieldType} {pc : Nat} {lv : List (Option Value)} {rest : List Value} {post : Int32 → St → Prop} (C : Cx X l E RX10 cc rm ret) (h : wpI_X6_listByRank  σ post) (hR : 3 + 1 ≤ rm.frames ∧ 8 + (5 + 11) + 64 ≤ rm.locals) (hW : (rest.map fun v => v.category).sum ≤ 8) (d : decode cc pc = .ok (.invokevirtual 288, 3)) (k : ∀ (r : Int32) (u : St), post r u → G X (wI E a) u (pc + 3) lv (.int r :: rest)) : G X (wI E a) σ pc lv (.ref (a 710) :: .ref (a 900) :: rest) := g_callVi C 1 (As := [.ref (a 710)]) (rest := rest) (Cn := RX6) (T := TX6) (N := 3) (q0 := 41) (ci := 6) (by decide +kernel) (by decide +kernel) (by decide +kernel) (by decide +kernel) (by decide +kernel) (by decide +kernel) rfl rfl (cI_X6_listByRank h) ⟨rfl, rfl⟩ hR rfl rfl hW d k
theorem mm_X10_292 : Cond.methodLink RX10 292 Lib.Math.min.name ∈ UW := by decide +kernel
theorem csI_X10_297 {X : Kx} {l : Launch} {E : Ev} {a : Nat → Nat} {σ : St} {cc : ByteArray} {rm : Room} {ret : Option FieldType} {pc : Nat} {lv : List (Option Value)} {rest : List Value} {x0 x1 : Int32} {post : St → Prop} (C : Cx X l E RX10 cc rm ret) (h : wpI_X2_turnOrder x0 x1 σ post) (hR : 1 + 1 ≤ rm.frames ∧ 8 + (5 + 11) + 13 ≤ rm.locals) (hW : (rest.map fun v => v.category).sum ≤ 8) (d : decode cc pc = .ok (.invokevirtual 297, 3)) (k : ∀ u : St, post u → G X (wI E a) u (pc + 3) lv rest) : G X (wI E a) σ pc lv (.int x1 :: .int x0 :: .ref (a 700) :: rest) := g_callVv C 2 (As := [.int x0, .int x1]) (rest := rest) (Cn := RX2) (T := TX2) (N := 14) (q0 := 29) (ci := 2) (by decide +kernel) (by decide +kernel) (by decide +kernel) (by decide +kernel) (by decide +kernel) (by decide +kernel) rfl rfl (cI_X2_turnOrder h) ⟨rfl, rfl⟩ hR rfl rfl hW d k
/-! IceRun.beginLater()I -/
abbrev rmI_X10_beginLater : Room := { frames := 5, cells := 0, slots := 0, locals := 115 }
def wpI_X10_beginLater (σ : St) (post : Int32 → St → Prop) : Prop := wpI_X6_recall (σ.1 705) σ (fun σ1 => wpI_X6_listByRank  σ1 (fun r3 σ2 => ((¬ r3 = 0 → wpI_X0_inForce 3 σ2 (fun r5 σ4 => let y6 : Int32 := (if r5 < r3 then r5 else r3); wpI_X0_inForce 2 σ4 (fun r8 σ7 => wpI_X2_turnOrder y6 r8 σ7 (fun σ9 => wpI_X2_beginRun  σ9 (fun r11 σ10 => post r11 σ10))))) ∧ (r3 = 0 → post (-1) σ2))))
theorem kI_X10_beginLater {X : Kx} {l : Launch} {E : Ev} {a : Nat → Nat} {post : Int32 → St → Prop} (C : Cx X l E RX10 cX10_beginLater rmI_X10_beginLater (some .int)) (hQ : QI X (wI E a) post) (σ : St) (h : wpI_X10_beginLater  σ post) : G X (wI E a) σ 0 [some (.ref (a 0)), none] [] := by
  unfold wpI_X10_beginLater at h
  refine g_aload_0 C dX10_beginLater_0 rfl ?_
  refine fgI_X10_54 C dX10_beginLater_1 ?_
  refine g_aload_0 C dX10_beginLater_4 rfl ?_
  refine fgI_X10_47 C dX10_beginLater_5 ?_
  refine g_aload_0 C dX10_beginLater_8 rfl ?_
  refine fgI_X10_47 C dX10_beginLater_9 ?_
  refine fgI_X10_214 C dX10_beginLater_12 ?_
  refine csI_X10_217 C h ⟨Nat.le_of_ble_eq_true rfl, Nat.le_of_ble_eq_true rfl⟩ (Nat.le_of_ble_eq_true rfl) dX10_beginLater_15 (fun _ h => ?_)
  refine g_aload_0 C dX10_beginLater_18 rfl ?_
  refine fgI_X10_54 C dX10_beginLater_19 ?_
  refine g_aload_0 C dX10_beginLater_22 rfl ?_
  refine fgI_X10_47 C dX10_beginLater_23 ?_
  refine fgI_X10_272 C dX10_beginLater_26 ?_
  refine csI_X10_288 C h ⟨Nat.le_of_ble_eq_true rfl, Nat.le_of_ble_eq_true rfl⟩ (Nat.le_of_ble_eq_true rfl) dX10_beginLater_29 (fun _ _ h => ?_)
  refine g_istore_1 C dX10_beginLater_32 (Nat.le_of_ble_eq_true rfl) ?_
  refine g_iload_1 C dX10_beginLater_33 rfl ?_
  refine g_if_ne C 39 dX10_beginLater_34 (by decide) (fun q => ?_) (fun q => ?_)
  · have h := h.1 q
    refine g_aload_0 C dX10_beginLater_39 rfl ?_
    refine fgI_X10_47 C dX10_beginLater_40 ?_
    refine g_iload_1 C dX10_beginLater_43 rfl ?_
    refine g_aload_0 C dX10_beginLater_44 rfl ?_
    refine fgI_X10_40 C dX10_beginLater_45 ?_
    refine g_iconst_3 C dX10_beginLater_48 ?_
    refine csI_X10_157 C h ⟨Nat.le_of_ble_eq_true rfl, Nat.le_of_ble_eq_true rfl⟩ (Nat.le_of_ble_eq_true rfl) dX10_beginLater_49 (fun _ _ h => ?_)
    refine g_mmin C mm_X10_292 mwI_min.1 mwI_min.2.1 mwI_min.2.2 ⟨Nat.le_of_ble_eq_true rfl, Nat.le_of_ble_eq_true rfl⟩ dX10_beginLater_52 ?_
    refine g_aload_0 C dX10_beginLater_55 rfl ?_
    refine fgI_X10_40 C dX10_beginLater_56 ?_
    refine g_iconst_2 C dX10_beginLater_59 ?_
    refine csI_X10_157 C h ⟨Nat.le_of_ble_eq_true rfl, Nat.le_of_ble_eq_true rfl⟩ (Nat.le_of_ble_eq_true rfl) dX10_beginLater_60 (fun _ _ h => ?_)
    refine csI_X10_297 C h ⟨Nat.le_of_ble_eq_true rfl, Nat.le_of_ble_eq_true rfl⟩ (Nat.le_of_ble_eq_true rfl) dX10_beginLater_63 (fun _ h => ?_)
    refine g_aload_0 C dX10_beginLater_66 rfl ?_
    refine fgI_X10_47 C dX10_beginLater_67 ?_
    refine csI_X10_285 C h ⟨Nat.le_of_ble_eq_true rfl, Nat.le_of_ble_eq_true rfl⟩ (Nat.le_of_ble_eq_true rfl) dX10_beginLater_70 (fun _ _ h => ?_)
    exact g_ireturn C hQ dX10_beginLater_73 h
  · have h := h.2 q
    refine g_iconst_m1 C dX10_beginLater_37 ?_
    exact g_ireturn C hQ dX10_beginLater_38 h
theorem cI_X10_beginLater {l : Launch} {E : Ev} {a : Nat → Nat} {σ : St} {post : Int32 → St → Prop} (h : wpI_X10_beginLater  σ post) : CI l E (wI E a) yX10_beginLater cX10_beginLater 2 .int rmI_X10_beginLater [.ref (a 0)] σ post := met_i (by decide) rfl (Nat.le_of_ble_eq_true rfl) rfl (fun X C hQ => kI_X10_beginLater C hQ _ h)
theorem fgI_X10_164 {X : Kx} {l : Launch} {E : Ev} {a : Nat → Nat} {σ : St} {cc : ByteArray} {rm : Room} {ret : Option FieldType} {pc : Nat} {lv : List (Option Value)} {st : List Value} (C : Cx X l E RX10 cc rm ret) (d : decode cc pc = .ok (.getfield 164, 3)) (k : G X (wI E a) σ (pc + 3) lv (.int (σ.1 701) :: st)) : G X (wI E a) σ pc lv (.ref (a 700) :: st) := g_getN C (host := "IceRun") (q0 := 29) (ci := 2) (k := 1) rfl rfl inU_X2 (by decide) (by decide +kernel) rfl d k
theorem csI_X10_170 {X : Kx} {l : Launch} {E : Ev} {a : Nat → Nat} {σ : St} {cc : ByteArray} {rm : Room} {ret : Option FieldType} {pc : Nat} {lv : List (Option Value)} {rest : List Value} {post : Int32 → St → Prop} (C : Cx X l E RX10 cc rm ret) (h : wpI_X10_beginLater  σ post) (hR : 5 + 1 ≤ rm.frames ∧ 8 + (2 + 11) + 115 ≤ rm.locals) (hW : (rest.map fun v => v.category).sum ≤ 8) (d : decode cc pc = .ok (.invokevirtual 170, 3)) (k : ∀ (r : Int32) (u : St), post r u → G X (wI E a) u (pc + 3) lv (.int r :: rest)) : G X (wI E a) σ pc lv (.ref (a 0) :: rest) := g_callVi C 0 (As := []) (rest := rest) (Cn := RX10) (T := TX10) (N := 8) (q0 := 0) (ci := 9) (by decide +kernel) (by decide +kernel) (by decide +kernel) (by decide +kernel) (by decide +kernel) (by decide +kernel) rfl rfl (cI_X10_beginLater h) ⟨rfl, rfl⟩ hR rfl rfl hW d k
theorem csI_X10_167 {X : Kx} {l : Launch} {E : Ev} {a : Nat → Nat} {σ : St} {cc : ByteArray} {rm : Room} {ret : Option FieldType} {pc : Nat} {lv : List (Option Value)} {rest : List Value} {x0 : Int32} {post : Int32 → St → Prop} (C : Cx X l E RX10 cc rm ret) (h : wpI_X10_beginFirst x0 σ post) (hR : 2 + 1 ≤ rm.frames ∧ 8 + (3 + 11) + 43 ≤ rm.locals) (hW : (rest.map fun v => v.category).sum ≤ 8) (d : decode cc pc = .ok (.invokevirtual 167, 3)) (k : ∀ (r : Int32) (u : St), post r u → G X (wI E a) u (pc + 3) lv (.int r :: rest)) : G X (wI E a) σ pc lv (.int x0 :: .ref (a 0) :: rest) := g_callVi C 1 (As := [.int x0]) (rest := rest) (Cn := RX10) (T := TX10) (N := 8) (q0 := 0) (ci := 9) (by decide +kernel) (by decide +kernel) (by decide +kernel) (by decide +kernel) (by decide +kernel) (by decide +kernel) rfl rfl (cI_X10_beginFirst h) ⟨rfl, rfl⟩ hR rfl rfl hW d k
/-! IceRun.begin(I)I -/
abbrev rmI_X10_begin : Room := { frames := 6, cells := 0, slots := 0, locals := 136 }
def wpI_X10_begin_50 (σ : St) (post : Int32 → St → Prop) : Prop := post (-1) σ
theorem kI_X10_begin_50 {X : Kx} {l : Launch} {E : Ev} {a : Nat → Nat} {post : Int32 → St → Prop} (C : Cx X l E RX10 cX10_begin rmI_X10_begin (some .int)) (hQ : QI X (wI E a) post) (σ : St) (h : wpI_X10_begin_50   σ post) : G X (wI E a) σ 50 [none, none] [] := by
  unfold wpI_X10_begin_50 at h
  refine g_iconst_m1 C dX10_begin_50 ?_
  exact g_ireturn C hQ dX10_begin_51 h
def wpI_X10_begin_74 (s0 : Int32) (σ : St) (post : Int32 → St → Prop) : Prop := post s0 σ
theorem kI_X10_begin_74 {X : Kx} {l : Launch} {E : Ev} {a : Nat → Nat} {post : Int32 → St → Prop} (C : Cx X l E RX10 cX10_begin rmI_X10_begin (some .int)) (hQ : QI X (wI E a) post) (s0 : Int32) (σ : St) (h : wpI_X10_begin_74  s0 σ post) : G X (wI E a) σ 74 [none, none] [.int s0] := by
  unfold wpI_X10_begin_74 at h
  exact g_ireturn C hQ dX10_begin_74 h
def wpI_X10_begin (x1 : Int32) (σ : St) (post : Int32 → St → Prop) : Prop := (((σ.1 700) = 0 → wpI_X10_begin_50 σ post) ∧ (¬ (σ.1 700) = 0 → ((¬ (σ.1 702) = (-1) → wpI_X10_begin_50 σ post) ∧ ((σ.1 702) = (-1) → wpI_X0_inForce 4 σ (fun r2 σ1 => ((r2 ≤ (σ.1 701) → wpI_X10_begin_50 σ1 post) ∧ (¬ r2 ≤ (σ.1 701) → (((σ1.1 701) < 4 → ((¬ (σ1.1 701) = 0 → wpI_X10_beginLater  σ1 (fun r4 σ3 => wpI_X10_begin_74 r4 σ3 post)) ∧ ((σ1.1 701) = 0 → wpI_X10_beginFirst x1 σ1 (fun r6 σ5 => wpI_X10_begin_74 r6 σ5 post)))) ∧ (¬ (σ1.1 701) < 4 → wpI_X10_begin_50 σ1 post)))))))))
theorem kI_X10_begin {X : Kx} {l : Launch} {E : Ev} {a : Nat → Nat} {post : Int32 → St → Prop} (C : Cx X l E RX10 cX10_begin rmI_X10_begin (some .int)) (hQ : QI X (wI E a) post) (x1 : Int32) (σ : St) (h : wpI_X10_begin x1 σ post) : G X (wI E a) σ 0 [some (.ref (a 0)), some (.int x1)] [] := by
  unfold wpI_X10_begin at h
  refine g_aload_0 C dX10_begin_0 rfl ?_
  refine fgI_X10_47 C dX10_begin_1 ?_
  refine fgI_X10_66 C dX10_begin_4 ?_
  refine g_if_eq C 50 dX10_begin_7 (by decide) (fun q => ?_) (fun q => ?_)
  · have h := h.1 q
    exact g_wk (kI_X10_begin_50 C hQ _ h) (trivial)
  · have h := h.2 q
    refine g_aload_0 C dX10_begin_10 rfl ?_
    refine fgI_X10_47 C dX10_begin_11 ?_
    refine fgI_X10_78 C dX10_begin_14 ?_
    refine g_iconst_m1 C dX10_begin_17 ?_
    refine g_icmp_ne C 50 dX10_begin_18 (by decide) (fun q => ?_) (fun q => ?_)
    · have h := h.1 q
      exact g_wk (kI_X10_begin_50 C hQ _ h) (trivial)
    · have h := h.2 q
      refine g_aload_0 C dX10_begin_21 rfl ?_
      refine fgI_X10_47 C dX10_begin_22 ?_
      refine fgI_X10_164 C dX10_begin_25 ?_
      refine g_aload_0 C dX10_begin_28 rfl ?_
      refine fgI_X10_40 C dX10_begin_29 ?_
      refine g_iconst_4 C dX10_begin_32 ?_
      refine csI_X10_157 C h ⟨Nat.le_of_ble_eq_true rfl, Nat.le_of_ble_eq_true rfl⟩ (Nat.le_of_ble_eq_true rfl) dX10_begin_33 (fun _ _ h => ?_)
      refine g_icmp_ge C 50 dX10_begin_36 (by decide) (fun q => ?_) (fun q => ?_)
      · have h := h.1 q
        exact g_wk (kI_X10_begin_50 C hQ _ h) (trivial)
      · have h := h.2 q
        refine g_aload_0 C dX10_begin_39 rfl ?_
        refine fgI_X10_47 C dX10_begin_40 ?_
        refine fgI_X10_164 C dX10_begin_43 ?_
        refine g_iconst_4 C dX10_begin_46 ?_
        refine g_icmp_lt C 52 dX10_begin_47 (by decide) (fun q => ?_) (fun q => ?_)
        · have h := h.1 q
          refine g_aload_0 C dX10_begin_52 rfl ?_
          refine fgI_X10_47 C dX10_begin_53 ?_
          refine fgI_X10_164 C dX10_begin_56 ?_
          refine g_if_ne C 70 dX10_begin_59 (by decide) (fun q => ?_) (fun q => ?_)
          · have h := h.1 q
            refine g_aload_0 C dX10_begin_70 rfl ?_
            refine csI_X10_170 C h ⟨Nat.le_of_ble_eq_true rfl, Nat.le_of_ble_eq_true rfl⟩ (Nat.le_of_ble_eq_true rfl) dX10_begin_71 (fun _ _ h => ?_)
            exact g_wk (kI_X10_begin_74 C hQ _ _ h) (trivial)
          · have h := h.2 q
            refine g_aload_0 C dX10_begin_62 rfl ?_
            refine g_iload_1 C dX10_begin_63 rfl ?_
            refine csI_X10_167 C h ⟨Nat.le_of_ble_eq_true rfl, Nat.le_of_ble_eq_true rfl⟩ (Nat.le_of_ble_eq_true rfl) dX10_begin_64 (fun _ _ h => ?_)
            refine g_goto C 74 dX10_begin_67 (by decide) ?_
            exact g_wk (kI_X10_begin_74 C hQ _ _ h) (trivial)
        · have h := h.2 q
          exact g_wk (kI_X10_begin_50 C hQ _ h) (trivial)
theorem cI_X10_begin {l : Launch} {E : Ev} {a : Nat → Nat} {x1 : Int32} {σ : St} {post : Int32 → St → Prop} (h : wpI_X10_begin x1 σ post) : CI l E (wI E a) yX10_begin cX10_begin 2 .int rmI_X10_begin [.ref (a 0), .int x1] σ post := met_i (by decide) rfl (Nat.le_of_ble_eq_true rfl) rfl (fun X C hQ => kI_X10_begin C hQ _ _ h)
theorem csI_X10_173 {X : Kx} {l : Launch} {E : Ev} {a : Nat → Nat} {σ : St} {cc : ByteArray} {rm : Room} {ret : Option FieldType} {pc : Nat} {lv : List (Option Value)} {rest : List Value} {x0 : Int32} {post : Int32 → St → Prop} (C : Cx X l E RX10 cc rm ret) (h : wpI_X2_orderAt x0 σ post) (hR : 1 + 1 ≤ rm.frames ∧ 8 + (2 + 11) + 22 ≤ rm.locals) (hW : (rest.map fun v => v.category).sum ≤ 8) (d : decode cc pc = .ok (.invokevirtual 173, 3)) (k : ∀ (r : Int32) (u : St), post r u → G X (wI E a) u (pc + 3) lv (.int r :: rest)) : G X (wI E a) σ pc lv (.int x0 :: .ref (a 700) :: rest) := g_callVi C 1 (As := [.int x0]) (rest := rest) (Cn := RX2) (T := TX2) (N := 14) (q0 := 29) (ci := 2) (by decide +kernel) (by decide +kernel) (by decide +kernel) (by decide +kernel) (by decide +kernel) (by decide +kernel) rfl rfl (cI_X2_orderAt h) ⟨rfl, rfl⟩ hR rfl rfl hW d k
/-! IceRun.order(I)I -/
abbrev rmI_X10_order : Room := { frames := 2, cells := 0, slots := 0, locals := 43 }
def wpI_X10_order (x1 : Int32) (σ : St) (post : Int32 → St → Prop) : Prop := wpI_X2_orderAt x1 σ (fun r2 σ1 => post r2 σ1)
theorem kI_X10_order {X : Kx} {l : Launch} {E : Ev} {a : Nat → Nat} {post : Int32 → St → Prop} (C : Cx X l E RX10 cX10_order rmI_X10_order (some .int)) (hQ : QI X (wI E a) post) (x1 : Int32) (σ : St) (h : wpI_X10_order x1 σ post) : G X (wI E a) σ 0 [some (.ref (a 0)), some (.int x1)] [] := by
  unfold wpI_X10_order at h
  refine g_aload_0 C dX10_order_0 rfl ?_
  refine fgI_X10_47 C dX10_order_1 ?_
  refine g_iload_1 C dX10_order_4 rfl ?_
  refine csI_X10_173 C h ⟨Nat.le_of_ble_eq_true rfl, Nat.le_of_ble_eq_true rfl⟩ (Nat.le_of_ble_eq_true rfl) dX10_order_5 (fun _ _ h => ?_)
  exact g_ireturn C hQ dX10_order_8 h
theorem cI_X10_order {l : Launch} {E : Ev} {a : Nat → Nat} {x1 : Int32} {σ : St} {post : Int32 → St → Prop} (h : wpI_X10_order x1 σ post) : CI l E (wI E a) yX10_order cX10_order 2 .int rmI_X10_order [.ref (a 0), .int x1] σ post := met_i (by decide) rfl (Nat.le_of_ble_eq_true rfl) rfl (fun X C hQ => kI_X10_order C hQ _ _ h)
theorem fgI_X10_321 {X : Kx} {l : Launch} {E : Ev} {a : Nat → Nat} {σ : St} {cc : ByteArray} {rm : Room} {ret : Option FieldType} {pc : Nat} {lv : List (Option Value)} {st : List Value} (C : Cx X l E RX10 cc rm ret) (d : decode cc pc = .ok (.getfield 321, 3)) (k : G X (wI E a) σ (pc + 3) lv (.ref (a 303) :: st)) : G X (wI E a) σ pc lv (.ref (a 300) :: st) := g_getN C (host := "IceRun") (q0 := 17) (ci := 5) (k := 2) rfl rfl inU_X5 (by decide) (by decide +kernel) rfl d k
theorem fgI_X10_324 {X : Kx} {l : Launch} {E : Ev} {a : Nat → Nat} {σ : St} {cc : ByteArray} {rm : Room} {ret : Option FieldType} {pc : Nat} {lv : List (Option Value)} {st : List Value} (C : Cx X l E RX10 cc rm ret) (d : decode cc pc = .ok (.getfield 324, 3)) (k : G X (wI E a) σ (pc + 3) lv (.ref (a 304) :: st)) : G X (wI E a) σ pc lv (.ref (a 300) :: st) := g_getN C (host := "IceRun") (q0 := 17) (ci := 5) (k := 3) rfl rfl inU_X5 (by decide) (by decide +kernel) rfl d k
theorem alI_303 {X : Kx} {l : Launch} {E : Ev} {a : Nat → Nat} {σ : St} {cc : ByteArray} {rm : Room} {ret : Option FieldType} {pc : Nat} {lv : List (Option Value)} {st : List Value} {own : String} {i : Int32} (C : Cx X l E own cc rm ret) (hin : vp_in i 16) (d : decode cc pc = .ok (.iaload, 1)) (k : G X (wI E a) σ (pc + 1) lv (.int (σ.2 303 i.toNatClampNeg) :: st)) : G X (wI E a) σ pc lv (.int i :: .ref (a 304) :: st) := g_iald C (q0 := 20) rfl hin d k
theorem fgI_X10_327 {X : Kx} {l : Launch} {E : Ev} {a : Nat → Nat} {σ : St} {cc : ByteArray} {rm : Room} {ret : Option FieldType} {pc : Nat} {lv : List (Option Value)} {st : List Value} (C : Cx X l E RX10 cc rm ret) (d : decode cc pc = .ok (.getfield 327, 3)) (k : G X (wI E a) σ (pc + 3) lv (.ref (a 305) :: st)) : G X (wI E a) σ pc lv (.ref (a 300) :: st) := g_getN C (host := "IceRun") (q0 := 17) (ci := 5) (k := 4) rfl rfl inU_X5 (by decide) (by decide +kernel) rfl d k
theorem alI_304 {X : Kx} {l : Launch} {E : Ev} {a : Nat → Nat} {σ : St} {cc : ByteArray} {rm : Room} {ret : Option FieldType} {pc : Nat} {lv : List (Option Value)} {st : List Value} {own : String} {i : Int32} (C : Cx X l E own cc rm ret) (hin : vp_in i 16) (d : decode cc pc = .ok (.iaload, 1)) (k : G X (wI E a) σ (pc + 1) lv (.int (σ.2 304 i.toNatClampNeg) :: st)) : G X (wI E a) σ pc lv (.int i :: .ref (a 305) :: st) := g_iald C (q0 := 21) rfl hin d k
theorem csI_X10_330 {X : Kx} {l : Launch} {E : Ev} {a : Nat → Nat} {σ : St} {cc : ByteArray} {rm : Room} {ret : Option FieldType} {pc : Nat} {lv : List (Option Value)} {rest : List Value} {x0 x1 : Int32} {post : St → Prop} (C : Cx X l E RX10 cc rm ret) (h : wpI_X8_wear x0 x1 σ post) (hR : 1 + 1 ≤ rm.frames ∧ 8 + (3 + 11) + 15 ≤ rm.locals) (hW : (rest.map fun v => v.category).sum ≤ 8) (d : decode cc pc = .ok (.invokevirtual 330, 3)) (k : ∀ u : St, post u → G X (wI E a) u (pc + 3) lv rest) : G X (wI E a) σ pc lv (.int x1 :: .int x0 :: .ref (a 100) :: rest) := g_callVv C 2 (As := [.int x0, .int x1]) (rest := rest) (Cn := RX8) (T := TX8) (N := 9) (q0 := 1) (ci := 8) (by decide +kernel) (by decide +kernel) (by decide +kernel) (by decide +kernel) (by decide +kernel) (by decide +kernel) rfl rfl (cI_X8_wear h) ⟨rfl, rfl⟩ hR rfl rfl hW d k
/-! IceRun.ride(III)I -/
abbrev rmI_X10_ride : Room := { frames := 3, cells := 0, slots := 0, locals := 70 }
def wpBI_X10_ride_6 (k_6 : Int32 → Int32 → Int32 → Int32 → St → Prop) (x1 x3 x4 x5 : Int32) (σ : St) (post : Int32 → St → Prop) : Prop := ((x3 ≤ x5 → post x4 σ) ∧ (¬ x3 ≤ x5 → vp_in x1 16 ∧ (vp_in x1 16 ∧ (vp_in x1 16 ∧ (wpI_X10_timeInCell x5 (σ.2 302 (Int32.toNatClampNeg x1)) (σ.2 303 (Int32.toNatClampNeg x1)) (σ.2 304 (Int32.toNatClampNeg x1)) σ (fun r2 σ1 => let y3 : Int32 := (x4 + r2); vp_in x1 16 ∧ (wpI_X8_wear x5 (σ1.2 302 (Int32.toNatClampNeg x1)) σ1 (fun σ4 => let y5 : Int32 := x5 + 1; k_6 x1 x3 y3 y5 σ4))))))))
def wpI_X10_ride_6 (x1 x3 x4 x5 : Int32) (σ : St) (post : Int32 → St → Prop) : Prop := ∃ n : Nat, lpN (α := Int32 × Int32 × Int32 × Int32 × St) (fun kb t => wpBI_X10_ride_6 (fun x1 x3 x4 x5 σ => kb (x1, x3, x4, x5, σ)) t.1 t.2.1 t.2.2.1 t.2.2.2.1 t.2.2.2.2 post) n (x1, x3, x4, x5, σ)
theorem kBI_X10_ride_6 {X : Kx} {l : Launch} {E : Ev} {a : Nat → Nat} {post : Int32 → St → Prop} (C : Cx X l E RX10 cX10_ride rmI_X10_ride (some .int)) (hQ : QI X (wI E a) post) (k_6 : Int32 → Int32 → Int32 → Int32 → St → Prop) (hk_6 : ∀ (x1 x3 x4 x5 : Int32) (σ : St), k_6 x1 x3 x4 x5 σ → G X (wI E a) σ 6 [some (.ref (a 0)), some (.int x1), none, some (.int x3), some (.int x4), some (.int x5)] []) (x1 x3 x4 x5 : Int32) (σ : St) (h : wpBI_X10_ride_6 k_6 x1 x3 x4 x5 σ post) : G X (wI E a) σ 6 [some (.ref (a 0)), some (.int x1), none, some (.int x3), some (.int x4), some (.int x5)] [] := by
  unfold wpBI_X10_ride_6 at h
  refine g_iload C dX10_ride_6 rfl ?_
  refine g_iload_3 C dX10_ride_8 rfl ?_
  refine g_icmp_ge C 74 dX10_ride_9 (by decide) (fun q => ?_) (fun q => ?_)
  · have h := h.1 q
    refine g_iload C dX10_ride_74 rfl ?_
    exact g_ireturn C hQ dX10_ride_76 h
  · have h := h.2 q
    refine g_iload C dX10_ride_12 rfl ?_
    refine g_aload_0 C dX10_ride_14 rfl ?_
    refine g_iload C dX10_ride_15 rfl ?_
    refine g_aload_0 C dX10_ride_17 rfl ?_
    refine fgI_X10_26 C dX10_ride_18 ?_
    refine fgI_X10_321 C dX10_ride_21 ?_
    refine g_iload_1 C dX10_ride_24 rfl ?_
    obtain ⟨q, h⟩ := h
    refine alI_302 C q dX10_ride_25 ?_
    refine g_aload_0 C dX10_ride_26 rfl ?_
    refine fgI_X10_26 C dX10_ride_27 ?_
    refine fgI_X10_324 C dX10_ride_30 ?_
    refine g_iload_1 C dX10_ride_33 rfl ?_
    obtain ⟨q, h⟩ := h
    refine alI_303 C q dX10_ride_34 ?_
    refine g_aload_0 C dX10_ride_35 rfl ?_
    refine fgI_X10_26 C dX10_ride_36 ?_
    refine fgI_X10_327 C dX10_ride_39 ?_
    refine g_iload_1 C dX10_ride_42 rfl ?_
    obtain ⟨q, h⟩ := h
    refine alI_304 C q dX10_ride_43 ?_
    refine csI_X10_269 C h ⟨Nat.le_of_ble_eq_true rfl, Nat.le_of_ble_eq_true rfl⟩ (Nat.le_of_ble_eq_true rfl) dX10_ride_44 (fun _ _ h => ?_)
    refine g_iadd C dX10_ride_47 ?_
    refine g_istore C dX10_ride_48 (Nat.le_of_ble_eq_true rfl) ?_
    refine g_aload_0 C dX10_ride_50 rfl ?_
    refine fgI_X10_10 C dX10_ride_51 ?_
    refine g_iload C dX10_ride_54 rfl ?_
    refine g_aload_0 C dX10_ride_56 rfl ?_
    refine fgI_X10_26 C dX10_ride_57 ?_
    refine fgI_X10_321 C dX10_ride_60 ?_
    refine g_iload_1 C dX10_ride_63 rfl ?_
    obtain ⟨q, h⟩ := h
    refine alI_302 C q dX10_ride_64 ?_
    refine csI_X10_330 C h ⟨Nat.le_of_ble_eq_true rfl, Nat.le_of_ble_eq_true rfl⟩ (Nat.le_of_ble_eq_true rfl) dX10_ride_65 (fun _ h => ?_)
    refine g_iinc C (v := 1) (by decide) dX10_ride_68 rfl ?_
    refine g_goto C 6 dX10_ride_71 (by decide) ?_
    exact g_wk (hk_6 _ _ _ _ _ h) (And.intro rfl (And.intro rfl (And.intro rfl (And.intro rfl (And.intro rfl (trivial))))))
theorem kI_X10_ride_6 {X : Kx} {l : Launch} {E : Ev} {a : Nat → Nat} {post : Int32 → St → Prop} (C : Cx X l E RX10 cX10_ride rmI_X10_ride (some .int)) (hQ : QI X (wI E a) post) (x1 x3 x4 x5 : Int32) (σ : St) (h : wpI_X10_ride_6  x1 x3 x4 x5 σ post) : G X (wI E a) σ 6 [some (.ref (a 0)), some (.int x1), none, some (.int x3), some (.int x4), some (.int x5)] [] := by
  obtain ⟨n, h⟩ := h
  exact g_loop (J := fun t : Int32 × Int32 × Int32 × Int32 × St => G X (wI E a) t.2.2.2.2 6 [some (.ref (a 0)), some (.int t.1), none, some (.int t.2.1), some (.int t.2.2.1), some (.int t.2.2.2.1)] []) (fun kb hkb t ht => kBI_X10_ride_6 C hQ  (fun x1 x3 x4 x5 σ => kb (x1, x3, x4, x5, σ)) (fun x1 x3 x4 x5 σ hh => hkb (x1, x3, x4, x5, σ) hh) t.1 t.2.1 t.2.2.1 t.2.2.2.1 t.2.2.2.2 ht) n (x1, x3, x4, x5, σ) h
def wpI_X10_ride (x1 x2 x3 : Int32) (σ : St) (post : Int32 → St → Prop) : Prop := wpI_X10_ride_6 x1 x3 0 x2 σ post
theorem kI_X10_ride {X : Kx} {l : Launch} {E : Ev} {a : Nat → Nat} {post : Int32 → St → Prop} (C : Cx X l E RX10 cX10_ride rmI_X10_ride (some .int)) (hQ : QI X (wI E a) post) (x1 x2 x3 : Int32) (σ : St) (h : wpI_X10_ride x1 x2 x3 σ post) : G X (wI E a) σ 0 [some (.ref (a 0)), some (.int x1), some (.int x2), some (.int x3), none, none] [] := by
  unfold wpI_X10_ride at h
  refine g_iconst_0 C dX10_ride_0 ?_
  refine g_istore C dX10_ride_1 (Nat.le_of_ble_eq_true rfl) ?_
  refine g_iload_2 C dX10_ride_3 rfl ?_
  refine g_istore C dX10_ride_4 (Nat.le_of_ble_eq_true rfl) ?_
  exact g_wk (kI_X10_ride_6 C hQ _ _ _ _ _ h) (And.intro rfl (And.intro rfl (And.intro rfl (And.intro rfl (And.intro rfl (trivial))))))
theorem cI_X10_ride {l : Launch} {E : Ev} {a : Nat → Nat} {x1 x2 x3 : Int32} {σ : St} {post : Int32 → St → Prop} (h : wpI_X10_ride x1 x2 x3 σ post) : CI l E (wI E a) yX10_ride cX10_ride 6 .int rmI_X10_ride [.ref (a 0), .int x1, .int x2, .int x3] σ post := met_i (by decide) rfl (Nat.le_of_ble_eq_true rfl) rfl (fun X C hQ => kI_X10_ride C hQ _ _ _ _ h)
theorem fgI_X10_185 {X : Kx} {l : Launch} {E : Ev} {a : Nat → Nat} {σ : St} {cc : ByteArray} {rm : Room} {ret : Option FieldType} {pc : Nat} {lv : List (Option Value)} {st : List Value} (C : Cx X l E RX10 cc rm ret) (d : decode cc pc = .ok (.getfield 185, 3)) (k : G X (wI E a) σ (pc + 3) lv (.ref (a 800) :: st)) : G X (wI E a) σ pc lv (.ref (a 700) :: st) := g_getN C (host := "IceRun") (q0 := 29) (ci := 2) (k := 13) rfl rfl inU_X2 (by decide) (by decide +kernel) rfl d k
theorem csI_X10_318 {X : Kx} {l : Launch} {E : Ev} {a : Nat → Nat} {σ : St} {cc : ByteArray} {rm : Room} {ret : Option FieldType} {pc : Nat} {lv : List (Option Value)} {rest : List Value} {x0 x1 x2 : Int32} {post : St → Prop} (C : Cx X l E RX10 cc rm ret) (h : wpI_X4_addUp x0 x1 x2 σ post) (hR : 4 + 1 ≤ rm.frames ∧ 8 + (6 + 11) + 89 ≤ rm.locals) (hW : (rest.map fun v => v.category).sum ≤ 8) (d : decode cc pc = .ok (.invokevirtual 318, 3)) (k : ∀ u : St, post u → G X (wI E a) u (pc + 3) lv rest) : G X (wI E a) σ pc lv (.int x2 :: .int x1 :: .int x0 :: .ref (a 800) :: rest) := g_callVv C 3 (As := [.int x0, .int x1, .int x2]) (rest := rest) (Cn := RX4) (T := TX4) (N := 5) (q0 := 35) (ci := 4) (by decide +kernel) (by decide +kernel) (by decide +kernel) (by decide +kernel) (by decide +kernel) (by decide +kernel) rfl rfl (cI_X4_addUp h) ⟨rfl, rfl⟩ hR rfl rfl hW d k
theorem fgI_X10_303 {X : Kx} {l : Launch} {E : Ev} {a : Nat → Nat} {σ : St} {cc : ByteArray} {rm : Room} {ret : Option FieldType} {pc : Nat} {lv : List (Option Value)} {st : List Value} (C : Cx X l E RX10 cc rm ret) (d : decode cc pc = .ok (.getfield 303, 3)) (k : G X (wI E a) σ (pc + 3) lv (.ref (a 108) :: st)) : G X (wI E a) σ pc lv (.ref (a 100) :: st) := g_getN C (host := "IceRun") (q0 := 1) (ci := 8) (k := 7) rfl rfl inU_X8 (by decide) (by decide +kernel) rfl d k
theorem alI_107 {X : Kx} {l : Launch} {E : Ev} {a : Nat → Nat} {σ : St} {cc : ByteArray} {rm : Room} {ret : Option FieldType} {pc : Nat} {lv : List (Option Value)} {st : List Value} {own : String} {i : Int32} (C : Cx X l E own cc rm ret) (hin : vp_in i 6) (d : decode cc pc = .ok (.iaload, 1)) (k : G X (wI E a) σ (pc + 1) lv (.int (σ.2 107 i.toNatClampNeg) :: st)) : G X (wI E a) σ pc lv (.int i :: .ref (a 108) :: st) := g_iald C (q0 := 7) rfl hin d k
theorem csI_X10_306 {X : Kx} {l : Launch} {E : Ev} {a : Nat → Nat} {σ : St} {cc : ByteArray} {rm : Room} {ret : Option FieldType} {pc : Nat} {lv : List (Option Value)} {rest : List Value} {x0 x1 x2 : Int32} {post : Int32 → St → Prop} (C : Cx X l E RX10 cc rm ret) (h : wpI_X10_ride x0 x1 x2 σ post) (hR : 3 + 1 ≤ rm.frames ∧ 8 + (6 + 11) + 70 ≤ rm.locals) (hW : (rest.map fun v => v.category).sum ≤ 8) (d : decode cc pc = .ok (.invokevirtual 306, 3)) (k : ∀ (r : Int32) (u : St), post r u → G X (wI E a) u (pc + 3) lv (.int r :: rest)) : G X (wI E a) σ pc lv (.int x2 :: .int x1 :: .int x0 :: .ref (a 0) :: rest) := g_callVi C 3 (As := [.int x0, .int x1, .int x2]) (rest := rest) (Cn := RX10) (T := TX10) (N := 8) (q0 := 0) (ci := 9) (by decide +kernel) (by decide +kernel) (by decide +kernel) (by decide +kernel) (by decide +kernel) (by decide +kernel) rfl rfl (cI_X10_ride h) ⟨rfl, rfl⟩ hR rfl rfl hW d k
theorem csI_X10_309 {X : Kx} {l : Launch} {E : Ev} {a : Nat → Nat} {σ : St} {cc : ByteArray} {rm : Room} {ret : Option FieldType} {pc : Nat} {lv : List (Option Value)} {rest : List Value} {x0 x1 : Int32} {post : Int32 → St → Prop} (C : Cx X l E RX10 cc rm ret) (h : wpI_X8_timeAtGate x0 x1 σ post) (hR : 0 + 1 ≤ rm.frames ∧ 8 + (5 + 11) + 0 ≤ rm.locals) (hW : (rest.map fun v => v.category).sum ≤ 8) (d : decode cc pc = .ok (.invokevirtual 309, 3)) (k : ∀ (r : Int32) (u : St), post r u → G X (wI E a) u (pc + 3) lv (.int r :: rest)) : G X (wI E a) σ pc lv (.int x1 :: .int x0 :: .ref (a 100) :: rest) := g_callVi C 2 (As := [.int x0, .int x1]) (rest := rest) (Cn := RX8) (T := TX8) (N := 9) (q0 := 1) (ci := 8) (by decide +kernel) (by decide +kernel) (by decide +kernel) (by decide +kernel) (by decide +kernel) (by decide +kernel) rfl rfl (cI_X8_timeAtGate h) ⟨rfl, rfl⟩ hR rfl rfl hW d k
theorem csI_X10_312 {X : Kx} {l : Launch} {E : Ev} {a : Nat → Nat} {σ : St} {cc : ByteArray} {rm : Room} {ret : Option FieldType} {pc : Nat} {lv : List (Option Value)} {rest : List Value} {x0 : Int32} {post : Int32 → St → Prop} (C : Cx X l E RX10 cc rm ret) (h : wpI_X8_doubleAtGate x0 σ post) (hR : 1 + 1 ≤ rm.frames ∧ 8 + (4 + 11) + 13 ≤ rm.locals) (hW : (rest.map fun v => v.category).sum ≤ 8) (d : decode cc pc = .ok (.invokevirtual 312, 3)) (k : ∀ (r : Int32) (u : St), post r u → G X (wI E a) u (pc + 3) lv (.int r :: rest)) : G X (wI E a) σ pc lv (.int x0 :: .ref (a 100) :: rest) := g_callVi C 1 (As := [.int x0]) (rest := rest) (Cn := RX8) (T := TX8) (N := 9) (q0 := 1) (ci := 8) (by decide +kernel) (by decide +kernel) (by decide +kernel) (by decide +kernel) (by decide +kernel) (by decide +kernel) rfl rfl (cI_X8_doubleAtGate h) ⟨rfl, rfl⟩ hR rfl rfl hW d k
theorem csI_X10_315 {X : Kx} {l : Launch} {E : Ev} {a : Nat → Nat} {σ : St} {cc : ByteArray} {rm : Room} {ret : Option FieldType} {pc : Nat} {lv : List (Option Value)} {rest : List Value} {x0 x1 x2 x3 x4 : Int32} {post : St → Prop} (C : Cx X l E RX10 cc rm ret) (h : wpI_X4_write x0 x1 x2 x3 x4 σ post) (hR : 2 + 1 ≤ rm.frames ∧ 8 + (6 + 11) + 43 ≤ rm.locals) (hW : (rest.map fun v => v.category).sum ≤ 8) (d : decode cc pc = .ok (.invokevirtual 315, 3)) (k : ∀ u : St, post u → G X (wI E a) u (pc + 3) lv rest) : G X (wI E a) σ pc lv (.int x4 :: .int x3 :: .int x2 :: .int x1 :: .int x0 :: .ref (a 800) :: rest) := g_callVv C 5 (As := [.int x0, .int x1, .int x2, .int x3, .int x4]) (rest := rest) (Cn := RX4) (T := TX4) (N := 5) (q0 := 35) (ci := 4) (by decide +kernel) (by decide +kernel) (by decide +kernel) (by decide +kernel) (by decide +kernel) (by decide +kernel) rfl rfl (cI_X4_write h) ⟨rfl, rfl⟩ hR rfl rfl hW d k
theorem csI_X10_300 {X : Kx} {l : Launch} {E : Ev} {a : Nat → Nat} {σ : St} {cc : ByteArray} {rm : Room} {ret : Option FieldType} {pc : Nat} {lv : List (Option Value)} {rest : List Value} {x0 x1 x2 : Int32} {post : St → Prop} (C : Cx X l E RX10 cc rm ret) (h : wpI_X4_open x0 x1 x2 σ post) (hR : 3 + 1 ≤ rm.frames ∧ 8 + (4 + 11) + 68 ≤ rm.locals) (hW : (rest.map fun v => v.category).sum ≤ 8) (d : decode cc pc = .ok (.invokevirtual 300, 3)) (k : ∀ u : St, post u → G X (wI E a) u (pc + 3) lv rest) : G X (wI E a) σ pc lv (.int x2 :: .int x1 :: .int x0 :: .ref (a 800) :: rest) := g_callVv C 3 (As := [.int x0, .int x1, .int x2]) (rest := rest) (Cn := RX4) (T := TX4) (N := 5) (q0 := 35) (ci := 4) (by decide +kernel) (by decide +kernel) (by decide +kernel) (by decide +kernel) (by decide +kernel) (by decide +kernel) rfl rfl (cI_X4_open h) ⟨rfl, rfl⟩ hR rfl rfl hW d k
/-! IceRun.comeDown(II)V -/
abbrev rmI_X10_comeDown : Room := { frames := 5, cells := 0, slots := 0, locals := 114 }
def wpBI_X10_comeDown_21 (k_21 : Int32 → Int32 → Int32 → Int32 → St → Prop) (x1 x2 x3 x4 : Int32) (σ : St) (post : St → Prop) : Prop := (((σ.1 101) ≤ x4 → wpI_X4_addUp x1 x2 (σ.1 101) σ (fun σ1 => post σ1)) ∧ (¬ (σ.1 101) ≤ x4 → vp_in (x4 - 1) 6 ∧ (vp_in x4 6 ∧ (wpI_X10_ride x2 (σ.2 107 (Int32.toNatClampNeg (x4 - 1))) (σ.2 107 (Int32.toNatClampNeg x4)) σ (fun r3 σ2 => let y4 : Int32 := (x3 + r3); wpI_X8_timeAtGate x4 y4 σ2 (fun r6 σ5 => wpI_X8_doubleAtGate x4 σ5 (fun r8 σ7 => wpI_X4_write x1 x2 x4 r6 r8 σ7 (fun σ9 => let y10 : Int32 := x4 + 1; k_21 x1 x2 y4 y10 σ9))))))))
def wpI_X10_comeDown_21 (x1 x2 x3 x4 : Int32) (σ : St) (post : St → Prop) : Prop := ∃ n : Nat, lpN (α := Int32 × Int32 × Int32 × Int32 × St) (fun kb t => wpBI_X10_comeDown_21 (fun x1 x2 x3 x4 σ => kb (x1, x2, x3, x4, σ)) t.1 t.2.1 t.2.2.1 t.2.2.2.1 t.2.2.2.2 post) n (x1, x2, x3, x4, σ)
theorem kBI_X10_comeDown_21 {X : Kx} {l : Launch} {E : Ev} {a : Nat → Nat} {post : St → Prop} (C : Cx X l E RX10 cX10_comeDown rmI_X10_comeDown none) (hQ : QV X (wI E a) post) (k_21 : Int32 → Int32 → Int32 → Int32 → St → Prop) (hk_21 : ∀ (x1 x2 x3 x4 : Int32) (σ : St), k_21 x1 x2 x3 x4 σ → G X (wI E a) σ 21 [some (.ref (a 0)), some (.int x1), some (.int x2), some (.int x3), some (.int x4)] []) (x1 x2 x3 x4 : Int32) (σ : St) (h : wpBI_X10_comeDown_21 k_21 x1 x2 x3 x4 σ post) : G X (wI E a) σ 21 [some (.ref (a 0)), some (.int x1), some (.int x2), some (.int x3), some (.int x4)] [] := by
  unfold wpBI_X10_comeDown_21 at h
  refine g_iload C dX10_comeDown_21 rfl ?_
  refine g_aload_0 C dX10_comeDown_23 rfl ?_
  refine fgI_X10_10 C dX10_comeDown_24 ?_
  refine fgI_X10_130 C dX10_comeDown_27 ?_
  refine g_icmp_ge C 102 dX10_comeDown_30 (by decide) (fun q => ?_) (fun q => ?_)
  · have h := h.1 q
    refine g_aload_0 C dX10_comeDown_102 rfl ?_
    refine fgI_X10_47 C dX10_comeDown_103 ?_
    refine fgI_X10_185 C dX10_comeDown_106 ?_
    refine g_iload_1 C dX10_comeDown_109 rfl ?_
    refine g_iload_2 C dX10_comeDown_110 rfl ?_
    refine g_aload_0 C dX10_comeDown_111 rfl ?_
    refine fgI_X10_10 C dX10_comeDown_112 ?_
    refine fgI_X10_130 C dX10_comeDown_115 ?_
    refine csI_X10_318 C h ⟨Nat.le_of_ble_eq_true rfl, Nat.le_of_ble_eq_true rfl⟩ (Nat.le_of_ble_eq_true rfl) dX10_comeDown_118 (fun _ h => ?_)
    exact g_return C hQ dX10_comeDown_121 h
  · have h := h.2 q
    refine g_iload_3 C dX10_comeDown_33 rfl ?_
    refine g_aload_0 C dX10_comeDown_34 rfl ?_
    refine g_iload_2 C dX10_comeDown_35 rfl ?_
    refine g_aload_0 C dX10_comeDown_36 rfl ?_
    refine fgI_X10_10 C dX10_comeDown_37 ?_
    refine fgI_X10_303 C dX10_comeDown_40 ?_
    refine g_iload C dX10_comeDown_43 rfl ?_
    refine g_iconst_1 C dX10_comeDown_45 ?_
    refine g_isub C dX10_comeDown_46 ?_
    obtain ⟨q, h⟩ := h
    refine alI_107 C q dX10_comeDown_47 ?_
    refine g_aload_0 C dX10_comeDown_48 rfl ?_
    refine fgI_X10_10 C dX10_comeDown_49 ?_
    refine fgI_X10_303 C dX10_comeDown_52 ?_
    refine g_iload C dX10_comeDown_55 rfl ?_
    obtain ⟨q, h⟩ := h
    refine alI_107 C q dX10_comeDown_57 ?_
    refine csI_X10_306 C h ⟨Nat.le_of_ble_eq_true rfl, Nat.le_of_ble_eq_true rfl⟩ (Nat.le_of_ble_eq_true rfl) dX10_comeDown_58 (fun _ _ h => ?_)
    refine g_iadd C dX10_comeDown_61 ?_
    refine g_istore_3 C dX10_comeDown_62 (Nat.le_of_ble_eq_true rfl) ?_
    refine g_aload_0 C dX10_comeDown_63 rfl ?_
    refine fgI_X10_47 C dX10_comeDown_64 ?_
    refine fgI_X10_185 C dX10_comeDown_67 ?_
    refine g_iload_1 C dX10_comeDown_70 rfl ?_
    refine g_iload_2 C dX10_comeDown_71 rfl ?_
    refine g_iload C dX10_comeDown_72 rfl ?_
    refine g_aload_0 C dX10_comeDown_74 rfl ?_
    refine fgI_X10_10 C dX10_comeDown_75 ?_
    refine g_iload C dX10_comeDown_78 rfl ?_
    refine g_iload_3 C dX10_comeDown_80 rfl ?_
    refine csI_X10_309 C h ⟨Nat.le_of_ble_eq_true rfl, Nat.le_of_ble_eq_true rfl⟩ (Nat.le_of_ble_eq_true rfl) dX10_comeDown_81 (fun _ _ h => ?_)
    refine g_aload_0 C dX10_comeDown_84 rfl ?_
    refine fgI_X10_10 C dX10_comeDown_85 ?_
    refine g_iload C dX10_comeDown_88 rfl ?_
    refine csI_X10_312 C h ⟨Nat.le_of_ble_eq_true rfl, Nat.le_of_ble_eq_true rfl⟩ (Nat.le_of_ble_eq_true rfl) dX10_comeDown_90 (fun _ _ h => ?_)
    refine csI_X10_315 C h ⟨Nat.le_of_ble_eq_true rfl, Nat.le_of_ble_eq_true rfl⟩ (Nat.le_of_ble_eq_true rfl) dX10_comeDown_93 (fun _ h => ?_)
    refine g_iinc C (v := 1) (by decide) dX10_comeDown_96 rfl ?_
    refine g_goto C 21 dX10_comeDown_99 (by decide) ?_
    exact g_wk (hk_21 _ _ _ _ _ h) (And.intro rfl (And.intro rfl (And.intro rfl (And.intro rfl (And.intro rfl (trivial))))))
theorem kI_X10_comeDown_21 {X : Kx} {l : Launch} {E : Ev} {a : Nat → Nat} {post : St → Prop} (C : Cx X l E RX10 cX10_comeDown rmI_X10_comeDown none) (hQ : QV X (wI E a) post) (x1 x2 x3 x4 : Int32) (σ : St) (h : wpI_X10_comeDown_21  x1 x2 x3 x4 σ post) : G X (wI E a) σ 21 [some (.ref (a 0)), some (.int x1), some (.int x2), some (.int x3), some (.int x4)] [] := by
  obtain ⟨n, h⟩ := h
  exact g_loop (J := fun t : Int32 × Int32 × Int32 × Int32 × St => G X (wI E a) t.2.2.2.2 21 [some (.ref (a 0)), some (.int t.1), some (.int t.2.1), some (.int t.2.2.1), some (.int t.2.2.2.1)] []) (fun kb hkb t ht => kBI_X10_comeDown_21 C hQ  (fun x1 x2 x3 x4 σ => kb (x1, x2, x3, x4, σ)) (fun x1 x2 x3 x4 σ hh => hkb (x1, x2, x3, x4, σ) hh) t.1 t.2.1 t.2.2.1 t.2.2.2.1 t.2.2.2.2 ht) n (x1, x2, x3, x4, σ) h
def wpI_X10_comeDown (x1 x2 : Int32) (σ : St) (post : St → Prop) : Prop := wpI_X10_standardNow  σ (fun r2 σ1 => wpI_X4_open x1 x2 r2 σ1 (fun σ3 => wpI_X10_comeDown_21 x1 x2 0 1 σ3 post))
theorem kI_X10_comeDown {X : Kx} {l : Launch} {E : Ev} {a : Nat → Nat} {post : St → Prop} (C : Cx X l E RX10 cX10_comeDown rmI_X10_comeDown none) (hQ : QV X (wI E a) post) (x1 x2 : Int32) (σ : St) (h : wpI_X10_comeDown x1 x2 σ post) : G X (wI E a) σ 0 [some (.ref (a 0)), some (.int x1), some (.int x2), none, none] [] := by
  unfold wpI_X10_comeDown at h
  refine g_aload_0 C dX10_comeDown_0 rfl ?_
  refine fgI_X10_47 C dX10_comeDown_1 ?_
  refine fgI_X10_185 C dX10_comeDown_4 ?_
  refine g_iload_1 C dX10_comeDown_7 rfl ?_
  refine g_iload_2 C dX10_comeDown_8 rfl ?_
  refine g_aload_0 C dX10_comeDown_9 rfl ?_
  refine csI_X10_126 C h ⟨Nat.le_of_ble_eq_true rfl, Nat.le_of_ble_eq_true rfl⟩ (Nat.le_of_ble_eq_true rfl) dX10_comeDown_10 (fun _ _ h => ?_)
  refine csI_X10_300 C h ⟨Nat.le_of_ble_eq_true rfl, Nat.le_of_ble_eq_true rfl⟩ (Nat.le_of_ble_eq_true rfl) dX10_comeDown_13 (fun _ h => ?_)
  refine g_iconst_0 C dX10_comeDown_16 ?_
  refine g_istore_3 C dX10_comeDown_17 (Nat.le_of_ble_eq_true rfl) ?_
  refine g_iconst_1 C dX10_comeDown_18 ?_
  refine g_istore C dX10_comeDown_19 (Nat.le_of_ble_eq_true rfl) ?_
  exact g_wk (kI_X10_comeDown_21 C hQ _ _ _ _ _ h) (And.intro rfl (And.intro rfl (And.intro rfl (And.intro rfl (And.intro rfl (trivial))))))
theorem cI_X10_comeDown {l : Launch} {E : Ev} {a : Nat → Nat} {x1 x2 : Int32} {σ : St} {post : St → Prop} (h : wpI_X10_comeDown x1 x2 σ post) : CV l E (wI E a) yX10_comeDown cX10_comeDown 5 rmI_X10_comeDown [.ref (a 0), .int x1, .int x2] σ post := met_v (by decide) rfl (Nat.le_of_ble_eq_true rfl) rfl (fun X C hQ => kI_X10_comeDown C hQ _ _ _ h)
theorem csI_X10_176 {X : Kx} {l : Launch} {E : Ev} {a : Nat → Nat} {σ : St} {cc : ByteArray} {rm : Room} {ret : Option FieldType} {pc : Nat} {lv : List (Option Value)} {rest : List Value} {post : Int32 → St → Prop} (C : Cx X l E RX10 cc rm ret) (h : wpI_X2_nextSled  σ post) (hR : 2 + 1 ≤ rm.frames ∧ 8 + (1 + 11) + 43 ≤ rm.locals) (hW : (rest.map fun v => v.category).sum ≤ 8) (d : decode cc pc = .ok (.invokevirtual 176, 3)) (k : ∀ (r : Int32) (u : St), post r u → G X (wI E a) u (pc + 3) lv (.int r :: rest)) : G X (wI E a) σ pc lv (.ref (a 700) :: rest) := g_callVi C 0 (As := []) (rest := rest) (Cn := RX2) (T := TX2) (N := 14) (q0 := 29) (ci := 2) (by decide +kernel) (by decide +kernel) (by decide +kernel) (by decide +kernel) (by decide +kernel) (by decide +kernel) rfl rfl (cI_X2_nextSled h) ⟨rfl, rfl⟩ hR rfl rfl hW d k
theorem csI_X10_179 {X : Kx} {l : Launch} {E : Ev} {a : Nat → Nat} {σ : St} {cc : ByteArray} {rm : Room} {ret : Option FieldType} {pc : Nat} {lv : List (Option Value)} {rest : List Value} {x0 x1 : Int32} {post : St → Prop} (C : Cx X l E RX10 cc rm ret) (h : wpI_X10_comeDown x0 x1 σ post) (hR : 5 + 1 ≤ rm.frames ∧ 8 + (5 + 11) + 114 ≤ rm.locals) (hW : (rest.map fun v => v.category).sum ≤ 8) (d : decode cc pc = .ok (.invokevirtual 179, 3)) (k : ∀ u : St, post u → G X (wI E a) u (pc + 3) lv rest) : G X (wI E a) σ pc lv (.int x1 :: .int x0 :: .ref (a 0) :: rest) := g_callVv C 2 (As := [.int x0, .int x1]) (rest := rest) (Cn := RX10) (T := TX10) (N := 8) (q0 := 0) (ci := 9) (by decide +kernel) (by decide +kernel) (by decide +kernel) (by decide +kernel) (by decide +kernel) (by decide +kernel) rfl rfl (cI_X10_comeDown h) ⟨rfl, rfl⟩ hR rfl rfl hW d k
theorem csI_X10_182 {X : Kx} {l : Launch} {E : Ev} {a : Nat → Nat} {σ : St} {cc : ByteArray} {rm : Room} {ret : Option FieldType} {pc : Nat} {lv : List (Option Value)} {rest : List Value} {post : St → Prop} (C : Cx X l E RX10 cc rm ret) (h : wpI_X2_countDown  σ post) (hR : 1 + 1 ≤ rm.frames ∧ 8 + (1 + 11) + 22 ≤ rm.locals) (hW : (rest.map fun v => v.category).sum ≤ 8) (d : decode cc pc = .ok (.invokevirtual 182, 3)) (k : ∀ u : St, post u → G X (wI E a) u (pc + 3) lv rest) : G X (wI E a) σ pc lv (.ref (a 700) :: rest) := g_callVv C 0 (As := []) (rest := rest) (Cn := RX2) (T := TX2) (N := 14) (q0 := 29) (ci := 2) (by decide +kernel) (by decide +kernel) (by decide +kernel) (by decide +kernel) (by decide +kernel) (by decide +kernel) rfl rfl (cI_X2_countDown h) ⟨rfl, rfl⟩ hR rfl rfl hW d k
theorem csI_X10_189 {X : Kx} {l : Launch} {E : Ev} {a : Nat → Nat} {σ : St} {cc : ByteArray} {rm : Room} {ret : Option FieldType} {pc : Nat} {lv : List (Option Value)} {rest : List Value} {x0 x1 : Int32} {post : Int32 → St → Prop} (C : Cx X l E RX10 cc rm ret) (h : wpI_X4_totalOf x0 x1 σ post) (hR : 1 + 1 ≤ rm.frames ∧ 8 + (3 + 11) + 21 ≤ rm.locals) (hW : (rest.map fun v => v.category).sum ≤ 8) (d : decode cc pc = .ok (.invokevirtual 189, 3)) (k : ∀ (r : Int32) (u : St), post r u → G X (wI E a) u (pc + 3) lv (.int r :: rest)) : G X (wI E a) σ pc lv (.int x1 :: .int x0 :: .ref (a 800) :: rest) := g_callVi C 2 (As := [.int x0, .int x1]) (rest := rest) (Cn := RX4) (T := TX4) (N := 5) (q0 := 35) (ci := 4) (by decide +kernel) (by decide +kernel) (by decide +kernel) (by decide +kernel) (by decide +kernel) (by decide +kernel) rfl rfl (cI_X4_totalOf h) ⟨rfl, rfl⟩ hR rfl rfl hW d k
/-! IceRun.start()I -/
abbrev rmI_X10_start : Room := { frames := 6, cells := 0, slots := 0, locals := 138 }
def wpI_X10_start_26 (σ : St) (post : Int32 → St → Prop) : Prop := post (-1) σ
theorem kI_X10_start_26 {X : Kx} {l : Launch} {E : Ev} {a : Nat → Nat} {post : Int32 → St → Prop} (C : Cx X l E RX10 cX10_start rmI_X10_start (some .int)) (hQ : QI X (wI E a) post) (σ : St) (h : wpI_X10_start_26   σ post) : G X (wI E a) σ 26 [none, none, none] [] := by
  unfold wpI_X10_start_26 at h
  refine g_iconst_m1 C dX10_start_26 ?_
  exact g_ireturn C hQ dX10_start_27 h
def wpI_X10_start (σ : St) (post : Int32 → St → Prop) : Prop := let y1 : Int32 := (σ.1 702); wpI_X2_nextSled  σ (fun r3 σ2 => ((y1 = (-1) → wpI_X10_start_26 σ2 post) ∧ (¬ y1 = (-1) → ((¬ r3 = (-1) → wpI_X10_comeDown y1 r3 σ2 (fun σ4 => wpI_X2_countDown  σ4 (fun σ5 => wpI_X4_totalOf y1 r3 σ5 (fun r7 σ6 => post r7 σ6)))) ∧ (r3 = (-1) → wpI_X10_start_26 σ2 post)))))
theorem kI_X10_start {X : Kx} {l : Launch} {E : Ev} {a : Nat → Nat} {post : Int32 → St → Prop} (C : Cx X l E RX10 cX10_start rmI_X10_start (some .int)) (hQ : QI X (wI E a) post) (σ : St) (h : wpI_X10_start  σ post) : G X (wI E a) σ 0 [some (.ref (a 0)), none, none] [] := by
  unfold wpI_X10_start at h
  refine g_aload_0 C dX10_start_0 rfl ?_
  refine fgI_X10_47 C dX10_start_1 ?_
  refine fgI_X10_78 C dX10_start_4 ?_
  refine g_istore_1 C dX10_start_7 (Nat.le_of_ble_eq_true rfl) ?_
  refine g_aload_0 C dX10_start_8 rfl ?_
  refine fgI_X10_47 C dX10_start_9 ?_
  refine csI_X10_176 C h ⟨Nat.le_of_ble_eq_true rfl, Nat.le_of_ble_eq_true rfl⟩ (Nat.le_of_ble_eq_true rfl) dX10_start_12 (fun _ _ h => ?_)
  refine g_istore_2 C dX10_start_15 (Nat.le_of_ble_eq_true rfl) ?_
  refine g_iload_1 C dX10_start_16 rfl ?_
  refine g_iconst_m1 C dX10_start_17 ?_
  refine g_icmp_eq C 26 dX10_start_18 (by decide) (fun q => ?_) (fun q => ?_)
  · have h := h.1 q
    exact g_wk (kI_X10_start_26 C hQ _ h) (trivial)
  · have h := h.2 q
    refine g_iload_2 C dX10_start_21 rfl ?_
    refine g_iconst_m1 C dX10_start_22 ?_
    refine g_icmp_ne C 28 dX10_start_23 (by decide) (fun q => ?_) (fun q => ?_)
    · have h := h.1 q
      refine g_aload_0 C dX10_start_28 rfl ?_
      refine g_iload_1 C dX10_start_29 rfl ?_
      refine g_iload_2 C dX10_start_30 rfl ?_
      refine csI_X10_179 C h ⟨Nat.le_of_ble_eq_true rfl, Nat.le_of_ble_eq_true rfl⟩ (Nat.le_of_ble_eq_true rfl) dX10_start_31 (fun _ h => ?_)
      refine g_aload_0 C dX10_start_34 rfl ?_
      refine fgI_X10_47 C dX10_start_35 ?_
      refine csI_X10_182 C h ⟨Nat.le_of_ble_eq_true rfl, Nat.le_of_ble_eq_true rfl⟩ (Nat.le_of_ble_eq_true rfl) dX10_start_38 (fun _ h => ?_)
      refine g_aload_0 C dX10_start_41 rfl ?_
      refine fgI_X10_47 C dX10_start_42 ?_
      refine fgI_X10_185 C dX10_start_45 ?_
      refine g_iload_1 C dX10_start_48 rfl ?_
      refine g_iload_2 C dX10_start_49 rfl ?_
      refine csI_X10_189 C h ⟨Nat.le_of_ble_eq_true rfl, Nat.le_of_ble_eq_true rfl⟩ (Nat.le_of_ble_eq_true rfl) dX10_start_50 (fun _ _ h => ?_)
      exact g_ireturn C hQ dX10_start_53 h
    · have h := h.2 q
      exact g_wk (kI_X10_start_26 C hQ _ h) (trivial)
theorem cI_X10_start {l : Launch} {E : Ev} {a : Nat → Nat} {σ : St} {post : Int32 → St → Prop} (h : wpI_X10_start  σ post) : CI l E (wI E a) yX10_start cX10_start 3 .int rmI_X10_start [.ref (a 0)] σ post := met_i (by decide) rfl (Nat.le_of_ble_eq_true rfl) rfl (fun X C hQ => kI_X10_start C hQ _ h)
theorem csI_X10_194 {X : Kx} {l : Launch} {E : Ev} {a : Nat → Nat} {σ : St} {cc : ByteArray} {rm : Room} {ret : Option FieldType} {pc : Nat} {lv : List (Option Value)} {rest : List Value} {post : Int32 → St → Prop} (C : Cx X l E RX10 cc rm ret) (h : wpI_X2_shutRun  σ post) (hR : 0 + 1 ≤ rm.frames ∧ 8 + (1 + 11) + 0 ≤ rm.locals) (hW : (rest.map fun v => v.category).sum ≤ 8) (d : decode cc pc = .ok (.invokevirtual 194, 3)) (k : ∀ (r : Int32) (u : St), post r u → G X (wI E a) u (pc + 3) lv (.int r :: rest)) : G X (wI E a) σ pc lv (.ref (a 700) :: rest) := g_callVi C 0 (As := []) (rest := rest) (Cn := RX2) (T := TX2) (N := 14) (q0 := 29) (ci := 2) (by decide +kernel) (by decide +kernel) (by decide +kernel) (by decide +kernel) (by decide +kernel) (by decide +kernel) rfl rfl (cI_X2_shutRun h) ⟨rfl, rfl⟩ hR rfl rfl hW d k
/-! IceRun.shut()I -/
abbrev rmI_X10_shut : Room := { frames := 1, cells := 0, slots := 0, locals := 20 }
def wpI_X10_shut (σ : St) (post : Int32 → St → Prop) : Prop := ((¬ (σ.1 702) = (-1) → wpI_X2_shutRun  σ (fun r2 σ1 => post r2 σ1)) ∧ ((σ.1 702) = (-1) → post (-1) σ))
theorem kI_X10_shut {X : Kx} {l : Launch} {E : Ev} {a : Nat → Nat} {post : Int32 → St → Prop} (C : Cx X l E RX10 cX10_shut rmI_X10_shut (some .int)) (hQ : QI X (wI E a) post) (σ : St) (h : wpI_X10_shut  σ post) : G X (wI E a) σ 0 [some (.ref (a 0))] [] := by
  unfold wpI_X10_shut at h
  refine g_aload_0 C dX10_shut_0 rfl ?_
  refine fgI_X10_47 C dX10_shut_1 ?_
  refine fgI_X10_78 C dX10_shut_4 ?_
  refine g_iconst_m1 C dX10_shut_7 ?_
  refine g_icmp_ne C 13 dX10_shut_8 (by decide) (fun q => ?_) (fun q => ?_)
  · have h := h.1 q
    refine g_aload_0 C dX10_shut_13 rfl ?_
    refine fgI_X10_47 C dX10_shut_14 ?_
    refine csI_X10_194 C h ⟨Nat.le_of_ble_eq_true rfl, Nat.le_of_ble_eq_true rfl⟩ (Nat.le_of_ble_eq_true rfl) dX10_shut_17 (fun _ _ h => ?_)
    exact g_ireturn C hQ dX10_shut_20 h
  · have h := h.2 q
    refine g_iconst_m1 C dX10_shut_11 ?_
    exact g_ireturn C hQ dX10_shut_12 h
theorem cI_X10_shut {l : Launch} {E : Ev} {a : Nat → Nat} {σ : St} {post : Int32 → St → Prop} (h : wpI_X10_shut  σ post) : CI l E (wI E a) yX10_shut cX10_shut 1 .int rmI_X10_shut [.ref (a 0)] σ post := met_i (by decide) rfl (Nat.le_of_ble_eq_true rfl) rfl (fun X C hQ => kI_X10_shut C hQ _ h)

theorem csI_X10_197 {X : Kx} {l : Launch} {E : Ev} {a : Nat → Nat} {σ : St} {cc : ByteArray} {rm : Room} {ret : Option FieldType} {pc : Nat} {lv : List (Option Value)} {rest : List Value} {x0 : Int32} {post : Int32 → St → Prop} (C : Cx X l E RX10 cc rm ret) (h : wpI_X2_hasEntered x0 σ post) (hR : 1 + 1 ≤ rm.frames ∧ 8 + (2 + 11) + 22 ≤ rm.locals) (hW : (rest.map fun v => v.category).sum ≤ 8) (d : decode cc pc = .ok (.invokevirtual 197, 3)) (k : ∀ (r : Int32) (u : St), post r u → G X (wI E a) u (pc + 3) lv (.int r :: rest)) : G X (wI E a) σ pc lv (.int x0 :: .ref (a 700) :: rest) := g_callVi C 1 (As := [.int x0]) (rest := rest) (Cn := RX2) (T := TX2) (N := 14) (q0 := 29) (ci := 2) (by decide +kernel) (by decide +kernel) (by decide +kernel) (by decide +kernel) (by decide +kernel) (by decide +kernel) rfl rfl (cI_X2_hasEntered h) ⟨rfl, rfl⟩ hR rfl rfl hW d k
theorem csI_X10_200 {X : Kx} {l : Launch} {E : Ev} {a : Nat → Nat} {σ : St} {cc : ByteArray} {rm : Room} {ret : Option FieldType} {pc : Nat} {lv : List (Option Value)} {rest : List Value} {x0 : Int32} {post : Int32 → St → Prop} (C : Cx X l E RX10 cc rm ret) (h : wpI_X2_strike x0 σ post) (hR : 2 + 1 ≤ rm.frames ∧ 8 + (2 + 11) + 43 ≤ rm.locals) (hW : (rest.map fun v => v.category).sum ≤ 8) (d : decode cc pc = .ok (.invokevirtual 200, 3)) (k : ∀ (r : Int32) (u : St), post r u → G X (wI E a) u (pc + 3) lv (.int r :: rest)) : G X (wI E a) σ pc lv (.int x0 :: .ref (a 700) :: rest) := g_callVi C 1 (As := [.int x0]) (rest := rest) (Cn := RX2) (T := TX2) (N := 14) (q0 := 29) (ci := 2) (by decide +kernel) (by decide +kernel) (by decide +kernel) (by decide +kernel) (by decide +kernel) (by decide +kernel) rfl rfl (cI_X2_strike h) ⟨rfl, rfl⟩ hR rfl rfl hW d k
/-! IceRun.touch(II)Z -/
abbrev rmI_X10_touch : Room := { frames := 3, cells := 0, slots := 0, locals := 64 }
def wpI_X10_touch_22 (σ : St) (post : Int32 → St → Prop) : Prop := post 0 σ
theorem kI_X10_touch_22 {X : Kx} {l : Launch} {E : Ev} {a : Nat → Nat} {post : Int32 → St → Prop} (C : Cx X l E RX10 cX10_touch rmI_X10_touch (some .boolean)) (hQ : QI X (wI E a) post) (σ : St) (h : wpI_X10_touch_22   σ post) : G X (wI E a) σ 22 [none, none, none] [] := by
  unfold wpI_X10_touch_22 at h
  refine g_iconst_0 C dX10_touch_22 ?_
  exact g_zreturn C hQ dX10_touch_23 (Or.inl rfl) h
def wpI_X10_touch_52 (s0 : Int32) (σ : St) (post : Int32 → St → Prop) : Prop := (s0 = 0 ∨ s0 = 1) ∧ post s0 σ
theorem kI_X10_touch_52 {X : Kx} {l : Launch} {E : Ev} {a : Nat → Nat} {post : Int32 → St → Prop} (C : Cx X l E RX10 cX10_touch rmI_X10_touch (some .boolean)) (hQ : QI X (wI E a) post) (s0 : Int32) (σ : St) (h : wpI_X10_touch_52  s0 σ post) : G X (wI E a) σ 52 [none, none, none] [.int s0] := by
  unfold wpI_X10_touch_52 at h
  exact g_zreturn C hQ dX10_touch_52 h.1 h.2
def wpI_X10_touch_51 (σ : St) (post : Int32 → St → Prop) : Prop := wpI_X10_touch_52 0 σ post
theorem kI_X10_touch_51 {X : Kx} {l : Launch} {E : Ev} {a : Nat → Nat} {post : Int32 → St → Prop} (C : Cx X l E RX10 cX10_touch rmI_X10_touch (some .boolean)) (hQ : QI X (wI E a) post) (σ : St) (h : wpI_X10_touch_51   σ post) : G X (wI E a) σ 51 [none, none, none] [] := by
  unfold wpI_X10_touch_51 at h
  refine g_iconst_0 C dX10_touch_51 ?_
  exact g_wk (kI_X10_touch_52 C hQ _ _ h) (trivial)
def wpI_X10_touch (x1 x2 : Int32) (σ : St) (post : Int32 → St → Prop) : Prop := wpI_X10_within x2 0 200 σ (fun r2 σ1 => ((r2 = 0 → wpI_X10_touch_22 σ1 post) ∧ (¬ r2 = 0 → wpI_X2_hasEntered x1 σ1 (fun r4 σ3 => ((¬ r4 = 0 → wpI_X0_inForce 1 σ3 (fun r6 σ5 => ((x2 ≤ r6 → wpI_X10_touch_51 σ5 post) ∧ (¬ x2 ≤ r6 → wpI_X2_strike x1 σ5 (fun r8 σ7 => ((r8 = 0 → wpI_X10_touch_51 σ7 post) ∧ (¬ r8 = 0 → wpI_X10_touch_52 1 σ7 post))))))) ∧ (r4 = 0 → wpI_X10_touch_22 σ3 post))))))
theorem kI_X10_touch {X : Kx} {l : Launch} {E : Ev} {a : Nat → Nat} {post : Int32 → St → Prop} (C : Cx X l E RX10 cX10_touch rmI_X10_touch (some .boolean)) (hQ : QI X (wI E a) post) (x1 x2 : Int32) (σ : St) (h : wpI_X10_touch x1 x2 σ post) : G X (wI E a) σ 0 [some (.ref (a 0)), some (.int x1), some (.int x2)] [] := by
  unfold wpI_X10_touch at h
  refine g_iload_2 C dX10_touch_0 rfl ?_
  refine g_iconst_0 C dX10_touch_1 ?_
  refine g_sipush C (v := 200) (by decide) dX10_touch_2 ?_
  refine csI_X10_62 C h ⟨Nat.le_of_ble_eq_true rfl, Nat.le_of_ble_eq_true rfl⟩ (Nat.le_of_ble_eq_true rfl) dX10_touch_5 (fun _ _ h => ?_)
  refine g_if_eq C 22 dX10_touch_8 (by decide) (fun q => ?_) (fun q => ?_)
  · have h := h.1 q
    exact g_wk (kI_X10_touch_22 C hQ _ h) (trivial)
  · have h := h.2 q
    refine g_aload_0 C dX10_touch_11 rfl ?_
    refine fgI_X10_47 C dX10_touch_12 ?_
    refine g_iload_1 C dX10_touch_15 rfl ?_
    refine csI_X10_197 C h ⟨Nat.le_of_ble_eq_true rfl, Nat.le_of_ble_eq_true rfl⟩ (Nat.le_of_ble_eq_true rfl) dX10_touch_16 (fun _ _ h => ?_)
    refine g_if_ne C 24 dX10_touch_19 (by decide) (fun q => ?_) (fun q => ?_)
    · have h := h.1 q
      refine g_iload_2 C dX10_touch_24 rfl ?_
      refine g_aload_0 C dX10_touch_25 rfl ?_
      refine fgI_X10_40 C dX10_touch_26 ?_
      refine g_iconst_1 C dX10_touch_29 ?_
      refine csI_X10_157 C h ⟨Nat.le_of_ble_eq_true rfl, Nat.le_of_ble_eq_true rfl⟩ (Nat.le_of_ble_eq_true rfl) dX10_touch_30 (fun _ _ h => ?_)
      refine g_icmp_le C 51 dX10_touch_33 (by decide) (fun q => ?_) (fun q => ?_)
      · have h := h.1 q
        exact g_wk (kI_X10_touch_51 C hQ _ h) (trivial)
      · have h := h.2 q
        refine g_aload_0 C dX10_touch_36 rfl ?_
        refine fgI_X10_47 C dX10_touch_37 ?_
        refine g_iload_1 C dX10_touch_40 rfl ?_
        refine csI_X10_200 C h ⟨Nat.le_of_ble_eq_true rfl, Nat.le_of_ble_eq_true rfl⟩ (Nat.le_of_ble_eq_true rfl) dX10_touch_41 (fun _ _ h => ?_)
        refine g_if_eq C 51 dX10_touch_44 (by decide) (fun q => ?_) (fun q => ?_)
        · have h := h.1 q
          exact g_wk (kI_X10_touch_51 C hQ _ h) (trivial)
        · have h := h.2 q
          refine g_iconst_1 C dX10_touch_47 ?_
          refine g_goto C 52 dX10_touch_48 (by decide) ?_
          exact g_wk (kI_X10_touch_52 C hQ _ _ h) (trivial)
    · have h := h.2 q
      exact g_wk (kI_X10_touch_22 C hQ _ h) (trivial)
theorem cI_X10_touch {l : Launch} {E : Ev} {a : Nat → Nat} {x1 x2 : Int32} {σ : St} {post : Int32 → St → Prop} (h : wpI_X10_touch x1 x2 σ post) : CI l E (wI E a) yX10_touch cX10_touch 3 .boolean rmI_X10_touch [.ref (a 0), .int x1, .int x2] σ post := met_i (by decide) rfl (Nat.le_of_ble_eq_true rfl) rfl (fun X C hQ => kI_X10_touch C hQ _ _ _ h)
theorem csI_X10_230 {X : Kx} {l : Launch} {E : Ev} {a : Nat → Nat} {σ : St} {cc : ByteArray} {rm : Room} {ret : Option FieldType} {pc : Nat} {lv : List (Option Value)} {rest : List Value} {x0 x1 : Int32} {post : Int32 → St → Prop} (C : Cx X l E RX10 cc rm ret) (h : wpI_X4_hasDown x0 x1 σ post) (hR : 1 + 1 ≤ rm.frames ∧ 8 + (3 + 11) + 22 ≤ rm.locals) (hW : (rest.map fun v => v.category).sum ≤ 8) (d : decode cc pc = .ok (.invokevirtual 230, 3)) (k : ∀ (r : Int32) (u : St), post r u → G X (wI E a) u (pc + 3) lv (.int r :: rest)) : G X (wI E a) σ pc lv (.int x1 :: .int x0 :: .ref (a 800) :: rest) := g_callVi C 2 (As := [.int x0, .int x1]) (rest := rest) (Cn := RX4) (T := TX4) (N := 5) (q0 := 35) (ci := 4) (by decide +kernel) (by decide +kernel) (by decide +kernel) (by decide +kernel) (by decide +kernel) (by decide +kernel) rfl rfl (cI_X4_hasDown h) ⟨rfl, rfl⟩ hR rfl rfl hW d k
theorem csI_X10_227 {X : Kx} {l : Launch} {E : Ev} {a : Nat → Nat} {σ : St} {cc : ByteArray} {rm : Room} {ret : Option FieldType} {pc : Nat} {lv : List (Option Value)} {rest : List Value} {x0 : Int32} {post : Int32 → St → Prop} (C : Cx X l E RX10 cc rm ret) (h : wpI_X2_isWhole x0 σ post) (hR : 2 + 1 ≤ rm.frames ∧ 8 + (2 + 11) + 44 ≤ rm.locals) (hW : (rest.map fun v => v.category).sum ≤ 8) (d : decode cc pc = .ok (.invokevirtual 227, 3)) (k : ∀ (r : Int32) (u : St), post r u → G X (wI E a) u (pc + 3) lv (.int r :: rest)) : G X (wI E a) σ pc lv (.int x0 :: .ref (a 700) :: rest) := g_callVi C 1 (As := [.int x0]) (rest := rest) (Cn := RX2) (T := TX2) (N := 14) (q0 := 29) (ci := 2) (by decide +kernel) (by decide +kernel) (by decide +kernel) (by decide +kernel) (by decide +kernel) (by decide +kernel) rfl rfl (cI_X2_isWhole h) ⟨rfl, rfl⟩ hR rfl rfl hW d k
/-! IceRun.isShown(III)Z -/
abbrev rmI_X10_isShown : Room := { frames := 3, cells := 0, slots := 0, locals := 65 }
def wpI_X10_isShown_76 (s0 : Int32) (σ : St) (post : Int32 → St → Prop) : Prop := (s0 = 0 ∨ s0 = 1) ∧ post s0 σ
theorem kI_X10_isShown_76 {X : Kx} {l : Launch} {E : Ev} {a : Nat → Nat} {post : Int32 → St → Prop} (C : Cx X l E RX10 cX10_isShown rmI_X10_isShown (some .boolean)) (hQ : QI X (wI E a) post) (s0 : Int32) (σ : St) (h : wpI_X10_isShown_76  s0 σ post) : G X (wI E a) σ 76 [none, none, none, none, none] [.int s0] := by
  unfold wpI_X10_isShown_76 at h
  exact g_zreturn C hQ dX10_isShown_76 h.1 h.2
def wpI_X10_isShown_75 (σ : St) (post : Int32 → St → Prop) : Prop := wpI_X10_isShown_76 0 σ post
theorem kI_X10_isShown_75 {X : Kx} {l : Launch} {E : Ev} {a : Nat → Nat} {post : Int32 → St → Prop} (C : Cx X l E RX10 cX10_isShown rmI_X10_isShown (some .boolean)) (hQ : QI X (wI E a) post) (σ : St) (h : wpI_X10_isShown_75   σ post) : G X (wI E a) σ 75 [none, none, none, none, none] [] := by
  unfold wpI_X10_isShown_75 at h
  refine g_iconst_0 C dX10_isShown_75 ?_
  exact g_wk (kI_X10_isShown_76 C hQ _ _ h) (trivial)
def wpI_X10_isShown_32 (x1 x2 x3 s0 : Int32) (σ : St) (post : Int32 → St → Prop) : Prop := ((s0 = 0 → wpI_X10_isShown_75 σ post) ∧ (¬ s0 = 0 → wpI_X4_hasDown x1 x2 σ (fun r2 σ1 => ((r2 = 0 → wpI_X10_isShown_75 σ1 post) ∧ (¬ r2 = 0 → wpI_X10_within x3 0 ((σ1.1 101) - 1) σ1 (fun r4 σ3 => ((r4 = 0 → wpI_X10_isShown_75 σ3 post) ∧ (¬ r4 = 0 → wpI_X10_isShown_76 1 σ3 post))))))))
theorem kI_X10_isShown_32 {X : Kx} {l : Launch} {E : Ev} {a : Nat → Nat} {post : Int32 → St → Prop} (C : Cx X l E RX10 cX10_isShown rmI_X10_isShown (some .boolean)) (hQ : QI X (wI E a) post) (x1 x2 x3 s0 : Int32) (σ : St) (h : wpI_X10_isShown_32  x1 x2 x3 s0 σ post) : G X (wI E a) σ 32 [some (.ref (a 0)), some (.int x1), some (.int x2), some (.int x3), none] [.int s0] := by
  unfold wpI_X10_isShown_32 at h
  refine g_istore C dX10_isShown_32 (Nat.le_of_ble_eq_true rfl) ?_
  refine g_iload C dX10_isShown_34 rfl ?_
  refine g_if_eq C 75 dX10_isShown_36 (by decide) (fun q => ?_) (fun q => ?_)
  · have h := h.1 q
    exact g_wk (kI_X10_isShown_75 C hQ _ h) (trivial)
  · have h := h.2 q
    refine g_aload_0 C dX10_isShown_39 rfl ?_
    refine fgI_X10_47 C dX10_isShown_40 ?_
    refine fgI_X10_185 C dX10_isShown_43 ?_
    refine g_iload_1 C dX10_isShown_46 rfl ?_
    refine g_iload_2 C dX10_isShown_47 rfl ?_
    refine csI_X10_230 C h ⟨Nat.le_of_ble_eq_true rfl, Nat.le_of_ble_eq_true rfl⟩ (Nat.le_of_ble_eq_true rfl) dX10_isShown_48 (fun _ _ h => ?_)
    refine g_if_eq C 75 dX10_isShown_51 (by decide) (fun q => ?_) (fun q => ?_)
    · have h := h.1 q
      exact g_wk (kI_X10_isShown_75 C hQ _ h) (trivial)
    · have h := h.2 q
      refine g_iload_3 C dX10_isShown_54 rfl ?_
      refine g_iconst_0 C dX10_isShown_55 ?_
      refine g_aload_0 C dX10_isShown_56 rfl ?_
      refine fgI_X10_10 C dX10_isShown_57 ?_
      refine fgI_X10_130 C dX10_isShown_60 ?_
      refine g_iconst_1 C dX10_isShown_63 ?_
      refine g_isub C dX10_isShown_64 ?_
      refine csI_X10_62 C h ⟨Nat.le_of_ble_eq_true rfl, Nat.le_of_ble_eq_true rfl⟩ (Nat.le_of_ble_eq_true rfl) dX10_isShown_65 (fun _ _ h => ?_)
      refine g_if_eq C 75 dX10_isShown_68 (by decide) (fun q => ?_) (fun q => ?_)
      · have h := h.1 q
        exact g_wk (kI_X10_isShown_75 C hQ _ h) (trivial)
      · have h := h.2 q
        refine g_iconst_1 C dX10_isShown_71 ?_
        refine g_goto C 76 dX10_isShown_72 (by decide) ?_
        exact g_wk (kI_X10_isShown_76 C hQ _ _ h) (trivial)
def wpI_X10_isShown_27 (x1 x2 x3 : Int32) (σ : St) (post : Int32 → St → Prop) : Prop := wpI_X10_isShown_32 x1 x2 x3 1 σ post
theorem kI_X10_isShown_27 {X : Kx} {l : Launch} {E : Ev} {a : Nat → Nat} {post : Int32 → St → Prop} (C : Cx X l E RX10 cX10_isShown rmI_X10_isShown (some .boolean)) (hQ : QI X (wI E a) post) (x1 x2 x3 : Int32) (σ : St) (h : wpI_X10_isShown_27  x1 x2 x3 σ post) : G X (wI E a) σ 27 [some (.ref (a 0)), some (.int x1), some (.int x2), some (.int x3), none] [] := by
  unfold wpI_X10_isShown_27 at h
  refine g_iconst_1 C dX10_isShown_27 ?_
  refine g_goto C 32 dX10_isShown_28 (by decide) ?_
  exact g_wk (kI_X10_isShown_32 C hQ _ _ _ _ _ h) (And.intro rfl (And.intro rfl (And.intro rfl (And.intro rfl (trivial)))))
def wpI_X10_isShown_31 (x1 x2 x3 : Int32) (σ : St) (post : Int32 → St → Prop) : Prop := wpI_X10_isShown_32 x1 x2 x3 0 σ post
theorem kI_X10_isShown_31 {X : Kx} {l : Launch} {E : Ev} {a : Nat → Nat} {post : Int32 → St → Prop} (C : Cx X l E RX10 cX10_isShown rmI_X10_isShown (some .boolean)) (hQ : QI X (wI E a) post) (x1 x2 x3 : Int32) (σ : St) (h : wpI_X10_isShown_31  x1 x2 x3 σ post) : G X (wI E a) σ 31 [some (.ref (a 0)), some (.int x1), some (.int x2), some (.int x3), none] [] := by
  unfold wpI_X10_isShown_31 at h
  refine g_iconst_0 C dX10_isShown_31 ?_
  exact g_wk (kI_X10_isShown_32 C hQ _ _ _ _ _ h) (And.intro rfl (And.intro rfl (And.intro rfl (And.intro rfl (trivial)))))
def wpI_X10_isShown (x1 x2 x3 : Int32) (σ : St) (post : Int32 → St → Prop) : Prop := wpI_X2_isWhole x1 σ (fun r2 σ1 => ((¬ r2 = 0 → wpI_X10_isShown_27 x1 x2 x3 σ1 post) ∧ (r2 = 0 → ((x1 = (-1) → wpI_X10_isShown_31 x1 x2 x3 σ1 post) ∧ (¬ x1 = (-1) → ((¬ x1 = (σ1.1 702) → wpI_X10_isShown_31 x1 x2 x3 σ1 post) ∧ (x1 = (σ1.1 702) → wpI_X10_isShown_27 x1 x2 x3 σ1 post)))))))
theorem kI_X10_isShown {X : Kx} {l : Launch} {E : Ev} {a : Nat → Nat} {post : Int32 → St → Prop} (C : Cx X l E RX10 cX10_isShown rmI_X10_isShown (some .boolean)) (hQ : QI X (wI E a) post) (x1 x2 x3 : Int32) (σ : St) (h : wpI_X10_isShown x1 x2 x3 σ post) : G X (wI E a) σ 0 [some (.ref (a 0)), some (.int x1), some (.int x2), some (.int x3), none] [] := by
  unfold wpI_X10_isShown at h
  refine g_aload_0 C dX10_isShown_0 rfl ?_
  refine fgI_X10_47 C dX10_isShown_1 ?_
  refine g_iload_1 C dX10_isShown_4 rfl ?_
  refine csI_X10_227 C h ⟨Nat.le_of_ble_eq_true rfl, Nat.le_of_ble_eq_true rfl⟩ (Nat.le_of_ble_eq_true rfl) dX10_isShown_5 (fun _ _ h => ?_)
  refine g_if_ne C 27 dX10_isShown_8 (by decide) (fun q => ?_) (fun q => ?_)
  · have h := h.1 q
    exact g_wk (kI_X10_isShown_27 C hQ _ _ _ _ h) (And.intro rfl (And.intro rfl (And.intro rfl (And.intro rfl (trivial)))))
  · have h := h.2 q
    refine g_iload_1 C dX10_isShown_11 rfl ?_
    refine g_iconst_m1 C dX10_isShown_12 ?_
    refine g_icmp_eq C 31 dX10_isShown_13 (by decide) (fun q => ?_) (fun q => ?_)
    · have h := h.1 q
      exact g_wk (kI_X10_isShown_31 C hQ _ _ _ _ h) (And.intro rfl (And.intro rfl (And.intro rfl (And.intro rfl (trivial)))))
    · have h := h.2 q
      refine g_iload_1 C dX10_isShown_16 rfl ?_
      refine g_aload_0 C dX10_isShown_17 rfl ?_
      refine fgI_X10_47 C dX10_isShown_18 ?_
      refine fgI_X10_78 C dX10_isShown_21 ?_
      refine g_icmp_ne C 31 dX10_isShown_24 (by decide) (fun q => ?_) (fun q => ?_)
      · have h := h.1 q
        exact g_wk (kI_X10_isShown_31 C hQ _ _ _ _ h) (And.intro rfl (And.intro rfl (And.intro rfl (And.intro rfl (trivial)))))
      · have h := h.2 q
        exact g_wk (kI_X10_isShown_27 C hQ _ _ _ _ h) (And.intro rfl (And.intro rfl (And.intro rfl (And.intro rfl (trivial)))))
theorem cI_X10_isShown {l : Launch} {E : Ev} {a : Nat → Nat} {x1 x2 x3 : Int32} {σ : St} {post : Int32 → St → Prop} (h : wpI_X10_isShown x1 x2 x3 σ post) : CI l E (wI E a) yX10_isShown cX10_isShown 5 .boolean rmI_X10_isShown [.ref (a 0), .int x1, .int x2, .int x3] σ post := met_i (by decide) rfl (Nat.le_of_ble_eq_true rfl) rfl (fun X C hQ => kI_X10_isShown C hQ _ _ _ _ h)
theorem csI_X10_203 {X : Kx} {l : Launch} {E : Ev} {a : Nat → Nat} {σ : St} {cc : ByteArray} {rm : Room} {ret : Option FieldType} {pc : Nat} {lv : List (Option Value)} {rest : List Value} {x0 x1 x2 : Int32} {post : Int32 → St → Prop} (C : Cx X l E RX10 cc rm ret) (h : wpI_X10_isShown x0 x1 x2 σ post) (hR : 3 + 1 ≤ rm.frames ∧ 8 + (5 + 11) + 65 ≤ rm.locals) (hW : (rest.map fun v => v.category).sum ≤ 8) (d : decode cc pc = .ok (.invokevirtual 203, 3)) (k : ∀ (r : Int32) (u : St), post r u → G X (wI E a) u (pc + 3) lv (.int r :: rest)) : G X (wI E a) σ pc lv (.int x2 :: .int x1 :: .int x0 :: .ref (a 0) :: rest) := g_callVi C 3 (As := [.int x0, .int x1, .int x2]) (rest := rest) (Cn := RX10) (T := TX10) (N := 8) (q0 := 0) (ci := 9) (by decide +kernel) (by decide +kernel) (by decide +kernel) (by decide +kernel) (by decide +kernel) (by decide +kernel) rfl rfl (cI_X10_isShown h) ⟨rfl, rfl⟩ hR rfl rfl hW d k
theorem csI_X10_206 {X : Kx} {l : Launch} {E : Ev} {a : Nat → Nat} {σ : St} {cc : ByteArray} {rm : Room} {ret : Option FieldType} {pc : Nat} {lv : List (Option Value)} {rest : List Value} {x0 x1 x2 : Int32} {post : Int32 → St → Prop} (C : Cx X l E RX10 cc rm ret) (h : wpI_X4_timeAt x0 x1 x2 σ post) (hR : 2 + 1 ≤ rm.frames ∧ 8 + (4 + 11) + 43 ≤ rm.locals) (hW : (rest.map fun v => v.category).sum ≤ 8) (d : decode cc pc = .ok (.invokevirtual 206, 3)) (k : ∀ (r : Int32) (u : St), post r u → G X (wI E a) u (pc + 3) lv (.int r :: rest)) : G X (wI E a) σ pc lv (.int x2 :: .int x1 :: .int x0 :: .ref (a 800) :: rest) := g_callVi C 3 (As := [.int x0, .int x1, .int x2]) (rest := rest) (Cn := RX4) (T := TX4) (N := 5) (q0 := 35) (ci := 4) (by decide +kernel) (by decide +kernel) (by decide +kernel) (by decide +kernel) (by decide +kernel) (by decide +kernel) rfl rfl (cI_X4_timeAt h) ⟨rfl, rfl⟩ hR rfl rfl hW d k
theorem lc_X10_210 : Cond.constant RX10 210 (-1000000) ∈ UW := by decide +kernel
/-! IceRun.time(III)I -/
abbrev rmI_X10_time : Room := { frames := 4, cells := 0, slots := 0, locals := 89 }
def wpI_X10_time_40 (s0 : Int32) (σ : St) (post : Int32 → St → Prop) : Prop := post s0 σ
theorem kI_X10_time_40 {X : Kx} {l : Launch} {E : Ev} {a : Nat → Nat} {post : Int32 → St → Prop} (C : Cx X l E RX10 cX10_time rmI_X10_time (some .int)) (hQ : QI X (wI E a) post) (s0 : Int32) (σ : St) (h : wpI_X10_time_40  s0 σ post) : G X (wI E a) σ 40 [none, none, none, none, none] [.int s0] := by
  unfold wpI_X10_time_40 at h
  exact g_ireturn C hQ dX10_time_40 h
def wpI_X10_time (x1 x2 x3 : Int32) (σ : St) (post : Int32 → St → Prop) : Prop := wpI_X10_isShown x1 x2 x3 σ (fun r2 σ1 => ((¬ r2 = 0 → wpI_X4_timeAt x1 x2 x3 σ1 (fun r4 σ3 => ((¬ r4 = (-1000000) → wpI_X10_time_40 r4 σ3 post) ∧ (r4 = (-1000000) → wpI_X10_time_40 (-1) σ3 post)))) ∧ (r2 = 0 → post (-1) σ1)))
theorem kI_X10_time {X : Kx} {l : Launch} {E : Ev} {a : Nat → Nat} {post : Int32 → St → Prop} (C : Cx X l E RX10 cX10_time rmI_X10_time (some .int)) (hQ : QI X (wI E a) post) (x1 x2 x3 : Int32) (σ : St) (h : wpI_X10_time x1 x2 x3 σ post) : G X (wI E a) σ 0 [some (.ref (a 0)), some (.int x1), some (.int x2), some (.int x3), none] [] := by
  unfold wpI_X10_time at h
  refine g_aload_0 C dX10_time_0 rfl ?_
  refine g_iload_1 C dX10_time_1 rfl ?_
  refine g_iload_2 C dX10_time_2 rfl ?_
  refine g_iload_3 C dX10_time_3 rfl ?_
  refine csI_X10_203 C h ⟨Nat.le_of_ble_eq_true rfl, Nat.le_of_ble_eq_true rfl⟩ (Nat.le_of_ble_eq_true rfl) dX10_time_4 (fun _ _ h => ?_)
  refine g_if_ne C 12 dX10_time_7 (by decide) (fun q => ?_) (fun q => ?_)
  · have h := h.1 q
    refine g_aload_0 C dX10_time_12 rfl ?_
    refine fgI_X10_47 C dX10_time_13 ?_
    refine fgI_X10_185 C dX10_time_16 ?_
    refine g_iload_1 C dX10_time_19 rfl ?_
    refine g_iload_2 C dX10_time_20 rfl ?_
    refine g_iload_3 C dX10_time_21 rfl ?_
    refine csI_X10_206 C h ⟨Nat.le_of_ble_eq_true rfl, Nat.le_of_ble_eq_true rfl⟩ (Nat.le_of_ble_eq_true rfl) dX10_time_22 (fun _ _ h => ?_)
    refine g_istore C dX10_time_25 (Nat.le_of_ble_eq_true rfl) ?_
    refine g_iload C dX10_time_27 rfl ?_
    refine g_ldc C lc_X10_210 dX10_time_29 ?_
    refine g_icmp_ne C 38 dX10_time_31 (by decide) (fun q => ?_) (fun q => ?_)
    · have h := h.1 q
      refine g_iload C dX10_time_38 rfl ?_
      exact g_wk (kI_X10_time_40 C hQ _ _ h) (trivial)
    · have h := h.2 q
      refine g_iconst_m1 C dX10_time_34 ?_
      refine g_goto C 40 dX10_time_35 (by decide) ?_
      exact g_wk (kI_X10_time_40 C hQ _ _ h) (trivial)
  · have h := h.2 q
    refine g_iconst_m1 C dX10_time_10 ?_
    exact g_ireturn C hQ dX10_time_11 h
theorem cI_X10_time {l : Launch} {E : Ev} {a : Nat → Nat} {x1 x2 x3 : Int32} {σ : St} {post : Int32 → St → Prop} (h : wpI_X10_time x1 x2 x3 σ post) : CI l E (wI E a) yX10_time cX10_time 5 .int rmI_X10_time [.ref (a 0), .int x1, .int x2, .int x3] σ post := met_i (by decide) rfl (Nat.le_of_ble_eq_true rfl) rfl (fun X C hQ => kI_X10_time C hQ _ _ _ _ h)
theorem csI_X10_211 {X : Kx} {l : Launch} {E : Ev} {a : Nat → Nat} {σ : St} {cc : ByteArray} {rm : Room} {ret : Option FieldType} {pc : Nat} {lv : List (Option Value)} {rest : List Value} {x0 x1 x2 : Int32} {post : Int32 → St → Prop} (C : Cx X l E RX10 cc rm ret) (h : wpI_X4_doubleAt x0 x1 x2 σ post) (hR : 2 + 1 ≤ rm.frames ∧ 8 + (4 + 11) + 43 ≤ rm.locals) (hW : (rest.map fun v => v.category).sum ≤ 8) (d : decode cc pc = .ok (.invokevirtual 211, 3)) (k : ∀ (r : Int32) (u : St), post r u → G X (wI E a) u (pc + 3) lv (.int r :: rest)) : G X (wI E a) σ pc lv (.int x2 :: .int x1 :: .int x0 :: .ref (a 800) :: rest) := g_callVi C 3 (As := [.int x0, .int x1, .int x2]) (rest := rest) (Cn := RX4) (T := TX4) (N := 5) (q0 := 35) (ci := 4) (by decide +kernel) (by decide +kernel) (by decide +kernel) (by decide +kernel) (by decide +kernel) (by decide +kernel) rfl rfl (cI_X4_doubleAt h) ⟨rfl, rfl⟩ hR rfl rfl hW d k
/-! IceRun.twice(III)I -/
abbrev rmI_X10_twice : Room := { frames := 4, cells := 0, slots := 0, locals := 89 }
def wpI_X10_twice_27 (s0 : Int32) (σ : St) (post : Int32 → St → Prop) : Prop := post s0 σ
theorem kI_X10_twice_27 {X : Kx} {l : Launch} {E : Ev} {a : Nat → Nat} {post : Int32 → St → Prop} (C : Cx X l E RX10 cX10_twice rmI_X10_twice (some .int)) (hQ : QI X (wI E a) post) (s0 : Int32) (σ : St) (h : wpI_X10_twice_27  s0 σ post) : G X (wI E a) σ 27 [none, none, none, none] [.int s0] := by
  unfold wpI_X10_twice_27 at h
  exact g_ireturn C hQ dX10_twice_27 h
def wpI_X10_twice (x1 x2 x3 : Int32) (σ : St) (post : Int32 → St → Prop) : Prop := wpI_X10_isShown x1 x2 x3 σ (fun r2 σ1 => ((r2 = 0 → wpI_X10_twice_27 (-1) σ1 post) ∧ (¬ r2 = 0 → wpI_X4_doubleAt x1 x2 x3 σ1 (fun r4 σ3 => wpI_X10_twice_27 r4 σ3 post))))
theorem kI_X10_twice {X : Kx} {l : Launch} {E : Ev} {a : Nat → Nat} {post : Int32 → St → Prop} (C : Cx X l E RX10 cX10_twice rmI_X10_twice (some .int)) (hQ : QI X (wI E a) post) (x1 x2 x3 : Int32) (σ : St) (h : wpI_X10_twice x1 x2 x3 σ post) : G X (wI E a) σ 0 [some (.ref (a 0)), some (.int x1), some (.int x2), some (.int x3)] [] := by
  unfold wpI_X10_twice at h
  refine g_aload_0 C dX10_twice_0 rfl ?_
  refine g_iload_1 C dX10_twice_1 rfl ?_
  refine g_iload_2 C dX10_twice_2 rfl ?_
  refine g_iload_3 C dX10_twice_3 rfl ?_
  refine csI_X10_203 C h ⟨Nat.le_of_ble_eq_true rfl, Nat.le_of_ble_eq_true rfl⟩ (Nat.le_of_ble_eq_true rfl) dX10_twice_4 (fun _ _ h => ?_)
  refine g_if_eq C 26 dX10_twice_7 (by decide) (fun q => ?_) (fun q => ?_)
  · have h := h.1 q
    refine g_iconst_m1 C dX10_twice_26 ?_
    exact g_wk (kI_X10_twice_27 C hQ _ _ h) (trivial)
  · have h := h.2 q
    refine g_aload_0 C dX10_twice_10 rfl ?_
    refine fgI_X10_47 C dX10_twice_11 ?_
    refine fgI_X10_185 C dX10_twice_14 ?_
    refine g_iload_1 C dX10_twice_17 rfl ?_
    refine g_iload_2 C dX10_twice_18 rfl ?_
    refine g_iload_3 C dX10_twice_19 rfl ?_
    refine csI_X10_211 C h ⟨Nat.le_of_ble_eq_true rfl, Nat.le_of_ble_eq_true rfl⟩ (Nat.le_of_ble_eq_true rfl) dX10_twice_20 (fun _ _ h => ?_)
    refine g_goto C 27 dX10_twice_23 (by decide) ?_
    exact g_wk (kI_X10_twice_27 C hQ _ _ h) (trivial)
theorem cI_X10_twice {l : Launch} {E : Ev} {a : Nat → Nat} {x1 x2 x3 : Int32} {σ : St} {post : Int32 → St → Prop} (h : wpI_X10_twice x1 x2 x3 σ post) : CI l E (wI E a) yX10_twice cX10_twice 4 .int rmI_X10_twice [.ref (a 0), .int x1, .int x2, .int x3] σ post := met_i (by decide) rfl (Nat.le_of_ble_eq_true rfl) rfl (fun X C hQ => kI_X10_twice C hQ _ _ _ _ h)
theorem csI_X10_221 {X : Kx} {l : Launch} {E : Ev} {a : Nat → Nat} {σ : St} {cc : ByteArray} {rm : Room} {ret : Option FieldType} {pc : Nat} {lv : List (Option Value)} {rest : List Value} {x0 : Int32} {post : Int32 → St → Prop} (C : Cx X l E RX10 cc rm ret) (h : wpI_X6_sumOf x0 σ post) (hR : 2 + 1 ≤ rm.frames ∧ 8 + (2 + 11) + 43 ≤ rm.locals) (hW : (rest.map fun v => v.category).sum ≤ 8) (d : decode cc pc = .ok (.invokevirtual 221, 3)) (k : ∀ (r : Int32) (u : St), post r u → G X (wI E a) u (pc + 3) lv (.int r :: rest)) : G X (wI E a) σ pc lv (.int x0 :: .ref (a 900) :: rest) := g_callVi C 1 (As := [.int x0]) (rest := rest) (Cn := RX6) (T := TX6) (N := 3) (q0 := 41) (ci := 6) (by decide +kernel) (by decide +kernel) (by decide +kernel) (by decide +kernel) (by decide +kernel) (by decide +kernel) rfl rfl (cI_X6_sumOf h) ⟨rfl, rfl⟩ hR rfl rfl hW d k
/-! IceRun.sum(II)I -/
abbrev rmI_X10_sum : Room := { frames := 5, cells := 0, slots := 0, locals := 115 }
def wpI_X10_sum (x1 x2 : Int32) (σ : St) (post : Int32 → St → Prop) : Prop := wpI_X10_within x2 0 (σ.1 705) σ (fun r2 σ1 => ((¬ r2 = 0 → wpI_X6_recall x2 σ1 (fun σ3 => wpI_X6_sumOf x1 σ3 (fun r5 σ4 => post r5 σ4))) ∧ (r2 = 0 → post (-1) σ1)))
theorem kI_X10_sum {X : Kx} {l : Launch} {E : Ev} {a : Nat → Nat} {post : Int32 → St → Prop} (C : Cx X l E RX10 cX10_sum rmI_X10_sum (some .int)) (hQ : QI X (wI E a) post) (x1 x2 : Int32) (σ : St) (h : wpI_X10_sum x1 x2 σ post) : G X (wI E a) σ 0 [some (.ref (a 0)), some (.int x1), some (.int x2)] [] := by
  unfold wpI_X10_sum at h
  refine g_iload_2 C dX10_sum_0 rfl ?_
  refine g_iconst_0 C dX10_sum_1 ?_
  refine g_aload_0 C dX10_sum_2 rfl ?_
  refine fgI_X10_47 C dX10_sum_3 ?_
  refine fgI_X10_214 C dX10_sum_6 ?_
  refine csI_X10_62 C h ⟨Nat.le_of_ble_eq_true rfl, Nat.le_of_ble_eq_true rfl⟩ (Nat.le_of_ble_eq_true rfl) dX10_sum_9 (fun _ _ h => ?_)
  refine g_if_ne C 17 dX10_sum_12 (by decide) (fun q => ?_) (fun q => ?_)
  · have h := h.1 q
    refine g_aload_0 C dX10_sum_17 rfl ?_
    refine fgI_X10_54 C dX10_sum_18 ?_
    refine g_aload_0 C dX10_sum_21 rfl ?_
    refine fgI_X10_47 C dX10_sum_22 ?_
    refine g_iload_2 C dX10_sum_25 rfl ?_
    refine csI_X10_217 C h ⟨Nat.le_of_ble_eq_true rfl, Nat.le_of_ble_eq_true rfl⟩ (Nat.le_of_ble_eq_true rfl) dX10_sum_26 (fun _ h => ?_)
    refine g_aload_0 C dX10_sum_29 rfl ?_
    refine fgI_X10_54 C dX10_sum_30 ?_
    refine g_iload_1 C dX10_sum_33 rfl ?_
    refine csI_X10_221 C h ⟨Nat.le_of_ble_eq_true rfl, Nat.le_of_ble_eq_true rfl⟩ (Nat.le_of_ble_eq_true rfl) dX10_sum_34 (fun _ _ h => ?_)
    exact g_ireturn C hQ dX10_sum_37 h
  · have h := h.2 q
    refine g_iconst_m1 C dX10_sum_15 ?_
    exact g_ireturn C hQ dX10_sum_16 h
theorem cI_X10_sum {l : Launch} {E : Ev} {a : Nat → Nat} {x1 x2 : Int32} {σ : St} {post : Int32 → St → Prop} (h : wpI_X10_sum x1 x2 σ post) : CI l E (wI E a) yX10_sum cX10_sum 3 .int rmI_X10_sum [.ref (a 0), .int x1, .int x2] σ post := met_i (by decide) rfl (Nat.le_of_ble_eq_true rfl) rfl (fun X C hQ => kI_X10_sum C hQ _ _ _ h)
theorem csI_X10_224 {X : Kx} {l : Launch} {E : Ev} {a : Nat → Nat} {σ : St} {cc : ByteArray} {rm : Room} {ret : Option FieldType} {pc : Nat} {lv : List (Option Value)} {rest : List Value} {x0 : Int32} {post : Int32 → St → Prop} (C : Cx X l E RX10 cc rm ret) (h : wpI_X6_rankOf x0 σ post) (hR : 2 + 1 ≤ rm.frames ∧ 8 + (2 + 11) + 43 ≤ rm.locals) (hW : (rest.map fun v => v.category).sum ≤ 8) (d : decode cc pc = .ok (.invokevirtual 224, 3)) (k : ∀ (r : Int32) (u : St), post r u → G X (wI E a) u (pc + 3) lv (.int r :: rest)) : G X (wI E a) σ pc lv (.int x0 :: .ref (a 900) :: rest) := g_callVi C 1 (As := [.int x0]) (rest := rest) (Cn := RX6) (T := TX6) (N := 3) (q0 := 41) (ci := 6) (by decide +kernel) (by decide +kernel) (by decide +kernel) (by decide +kernel) (by decide +kernel) (by decide +kernel) rfl rfl (cI_X6_rankOf h) ⟨rfl, rfl⟩ hR rfl rfl hW d k
/-! IceRun.rank(II)I -/
abbrev rmI_X10_rank : Room := { frames := 5, cells := 0, slots := 0, locals := 115 }
def wpI_X10_rank (x1 x2 : Int32) (σ : St) (post : Int32 → St → Prop) : Prop := wpI_X10_within x2 0 (σ.1 705) σ (fun r2 σ1 => ((¬ r2 = 0 → wpI_X6_recall x2 σ1 (fun σ3 => wpI_X6_rankOf x1 σ3 (fun r5 σ4 => post r5 σ4))) ∧ (r2 = 0 → post (-1) σ1)))
theorem kI_X10_rank {X : Kx} {l : Launch} {E : Ev} {a : Nat → Nat} {post : Int32 → St → Prop} (C : Cx X l E RX10 cX10_rank rmI_X10_rank (some .int)) (hQ : QI X (wI E a) post) (x1 x2 : Int32) (σ : St) (h : wpI_X10_rank x1 x2 σ post) : G X (wI E a) σ 0 [some (.ref (a 0)), some (.int x1), some (.int x2)] [] := by
  unfold wpI_X10_rank at h
  refine g_iload_2 C dX10_rank_0 rfl ?_
  refine g_iconst_0 C dX10_rank_1 ?_
  refine g_aload_0 C dX10_rank_2 rfl ?_
  refine fgI_X10_47 C dX10_rank_3 ?_
  refine fgI_X10_214 C dX10_rank_6 ?_
  refine csI_X10_62 C h ⟨Nat.le_of_ble_eq_true rfl, Nat.le_of_ble_eq_true rfl⟩ (Nat.le_of_ble_eq_true rfl) dX10_rank_9 (fun _ _ h => ?_)
  refine g_if_ne C 17 dX10_rank_12 (by decide) (fun q => ?_) (fun q => ?_)
  · have h := h.1 q
    refine g_aload_0 C dX10_rank_17 rfl ?_
    refine fgI_X10_54 C dX10_rank_18 ?_
    refine g_aload_0 C dX10_rank_21 rfl ?_
    refine fgI_X10_47 C dX10_rank_22 ?_
    refine g_iload_2 C dX10_rank_25 rfl ?_
    refine csI_X10_217 C h ⟨Nat.le_of_ble_eq_true rfl, Nat.le_of_ble_eq_true rfl⟩ (Nat.le_of_ble_eq_true rfl) dX10_rank_26 (fun _ h => ?_)
    refine g_aload_0 C dX10_rank_29 rfl ?_
    refine fgI_X10_54 C dX10_rank_30 ?_
    refine g_iload_1 C dX10_rank_33 rfl ?_
    refine csI_X10_224 C h ⟨Nat.le_of_ble_eq_true rfl, Nat.le_of_ble_eq_true rfl⟩ (Nat.le_of_ble_eq_true rfl) dX10_rank_34 (fun _ _ h => ?_)
    exact g_ireturn C hQ dX10_rank_37 h
  · have h := h.2 q
    refine g_iconst_m1 C dX10_rank_15 ?_
    exact g_ireturn C hQ dX10_rank_16 h
theorem cI_X10_rank {l : Launch} {E : Ev} {a : Nat → Nat} {x1 x2 : Int32} {σ : St} {post : Int32 → St → Prop} (h : wpI_X10_rank x1 x2 σ post) : CI l E (wI E a) yX10_rank cX10_rank 3 .int rmI_X10_rank [.ref (a 0), .int x1, .int x2] σ post := met_i (by decide) rfl (Nat.le_of_ble_eq_true rfl) rfl (fun X C hQ => kI_X10_rank C hQ _ _ _ h)
theorem csI_X10_238 {X : Kx} {l : Launch} {E : Ev} {a : Nat → Nat} {σ : St} {cc : ByteArray} {rm : Room} {ret : Option FieldType} {pc : Nat} {lv : List (Option Value)} {rest : List Value} {x0 x1 x2 x3 : Int32} {post : Int32 → St → Prop} (C : Cx X l E RX10 cc rm ret) (h : wpI_X4_lostIn x0 x1 x2 x3 σ post) (hR : 5 + 1 ≤ rm.frames ∧ 8 + (9 + 11) + 115 ≤ rm.locals) (hW : (rest.map fun v => v.category).sum ≤ 8) (d : decode cc pc = .ok (.invokevirtual 238, 3)) (k : ∀ (r : Int32) (u : St), post r u → G X (wI E a) u (pc + 3) lv (.int r :: rest)) : G X (wI E a) σ pc lv (.int x3 :: .int x2 :: .int x1 :: .int x0 :: .ref (a 800) :: rest) := g_callVi C 4 (As := [.int x0, .int x1, .int x2, .int x3]) (rest := rest) (Cn := RX4) (T := TX4) (N := 5) (q0 := 35) (ci := 4) (by decide +kernel) (by decide +kernel) (by decide +kernel) (by decide +kernel) (by decide +kernel) (by decide +kernel) rfl rfl (cI_X4_lostIn h) ⟨rfl, rfl⟩ hR rfl rfl hW d k
/-! IceRun.lost(III)I -/
abbrev rmI_X10_lost : Room := { frames := 6, cells := 0, slots := 0, locals := 143 }
def wpI_X10_lost_43 (σ : St) (post : Int32 → St → Prop) : Prop := post (-1) σ
theorem kI_X10_lost_43 {X : Kx} {l : Launch} {E : Ev} {a : Nat → Nat} {post : Int32 → St → Prop} (C : Cx X l E RX10 cX10_lost rmI_X10_lost (some .int)) (hQ : QI X (wI E a) post) (σ : St) (h : wpI_X10_lost_43   σ post) : G X (wI E a) σ 43 [none, none, none, none] [] := by
  unfold wpI_X10_lost_43 at h
  refine g_iconst_m1 C dX10_lost_43 ?_
  exact g_ireturn C hQ dX10_lost_44 h
def wpI_X10_lost (x1 x2 x3 : Int32) (σ : St) (post : Int32 → St → Prop) : Prop := wpI_X2_isWhole x1 σ (fun r2 σ1 => ((r2 = 0 → wpI_X10_lost_43 σ1 post) ∧ (¬ r2 = 0 → wpI_X4_hasDown x1 x2 σ1 (fun r4 σ3 => ((r4 = 0 → wpI_X10_lost_43 σ3 post) ∧ (¬ r4 = 0 → wpI_X10_within x3 0 ((σ3.1 101) - 2) σ3 (fun r6 σ5 => ((¬ r6 = 0 → wpI_X4_lostIn x1 x2 x3 (σ5.1 101) σ5 (fun r8 σ7 => post r8 σ7)) ∧ (r6 = 0 → wpI_X10_lost_43 σ5 post)))))))))
theorem kI_X10_lost {X : Kx} {l : Launch} {E : Ev} {a : Nat → Nat} {post : Int32 → St → Prop} (C : Cx X l E RX10 cX10_lost rmI_X10_lost (some .int)) (hQ : QI X (wI E a) post) (x1 x2 x3 : Int32) (σ : St) (h : wpI_X10_lost x1 x2 x3 σ post) : G X (wI E a) σ 0 [some (.ref (a 0)), some (.int x1), some (.int x2), some (.int x3)] [] := by
  unfold wpI_X10_lost at h
  refine g_aload_0 C dX10_lost_0 rfl ?_
  refine fgI_X10_47 C dX10_lost_1 ?_
  refine g_iload_1 C dX10_lost_4 rfl ?_
  refine csI_X10_227 C h ⟨Nat.le_of_ble_eq_true rfl, Nat.le_of_ble_eq_true rfl⟩ (Nat.le_of_ble_eq_true rfl) dX10_lost_5 (fun _ _ h => ?_)
  refine g_if_eq C 43 dX10_lost_8 (by decide) (fun q => ?_) (fun q => ?_)
  · have h := h.1 q
    exact g_wk (kI_X10_lost_43 C hQ _ h) (trivial)
  · have h := h.2 q
    refine g_aload_0 C dX10_lost_11 rfl ?_
    refine fgI_X10_47 C dX10_lost_12 ?_
    refine fgI_X10_185 C dX10_lost_15 ?_
    refine g_iload_1 C dX10_lost_18 rfl ?_
    refine g_iload_2 C dX10_lost_19 rfl ?_
    refine csI_X10_230 C h ⟨Nat.le_of_ble_eq_true rfl, Nat.le_of_ble_eq_true rfl⟩ (Nat.le_of_ble_eq_true rfl) dX10_lost_20 (fun _ _ h => ?_)
    refine g_if_eq C 43 dX10_lost_23 (by decide) (fun q => ?_) (fun q => ?_)
    · have h := h.1 q
      exact g_wk (kI_X10_lost_43 C hQ _ h) (trivial)
    · have h := h.2 q
      refine g_iload_3 C dX10_lost_26 rfl ?_
      refine g_iconst_0 C dX10_lost_27 ?_
      refine g_aload_0 C dX10_lost_28 rfl ?_
      refine fgI_X10_10 C dX10_lost_29 ?_
      refine fgI_X10_130 C dX10_lost_32 ?_
      refine g_iconst_2 C dX10_lost_35 ?_
      refine g_isub C dX10_lost_36 ?_
      refine csI_X10_62 C h ⟨Nat.le_of_ble_eq_true rfl, Nat.le_of_ble_eq_true rfl⟩ (Nat.le_of_ble_eq_true rfl) dX10_lost_37 (fun _ _ h => ?_)
      refine g_if_ne C 45 dX10_lost_40 (by decide) (fun q => ?_) (fun q => ?_)
      · have h := h.1 q
        refine g_aload_0 C dX10_lost_45 rfl ?_
        refine fgI_X10_47 C dX10_lost_46 ?_
        refine fgI_X10_185 C dX10_lost_49 ?_
        refine g_iload_1 C dX10_lost_52 rfl ?_
        refine g_iload_2 C dX10_lost_53 rfl ?_
        refine g_iload_3 C dX10_lost_54 rfl ?_
        refine g_aload_0 C dX10_lost_55 rfl ?_
        refine fgI_X10_10 C dX10_lost_56 ?_
        refine fgI_X10_130 C dX10_lost_59 ?_
        refine csI_X10_238 C h ⟨Nat.le_of_ble_eq_true rfl, Nat.le_of_ble_eq_true rfl⟩ (Nat.le_of_ble_eq_true rfl) dX10_lost_62 (fun _ _ h => ?_)
        exact g_ireturn C hQ dX10_lost_65 h
      · have h := h.2 q
        exact g_wk (kI_X10_lost_43 C hQ _ h) (trivial)
theorem cI_X10_lost {l : Launch} {E : Ev} {a : Nat → Nat} {x1 x2 x3 : Int32} {σ : St} {post : Int32 → St → Prop} (h : wpI_X10_lost x1 x2 x3 σ post) : CI l E (wI E a) yX10_lost cX10_lost 4 .int rmI_X10_lost [.ref (a 0), .int x1, .int x2, .int x3] σ post := met_i (by decide) rfl (Nat.le_of_ble_eq_true rfl) rfl (fun X C hQ => kI_X10_lost C hQ _ _ _ _ h)
theorem us_X10_345 : Cond.fieldLink RX10 345 "IceRun" "POINTS" "[I" ∈ UW := by decide +kernel
/-! IceRun.pointsOfPlace(I)I -/
abbrev rmI_X10_pointsOfPlace : Room := { frames := 1, cells := 0, slots := 0, locals := 22 }
def wpI_X10_pointsOfPlace_23 (s0 : Int32) (σ : St) (post : Int32 → St → Prop) : Prop := post s0 σ
theorem kI_X10_pointsOfPlace_23 {X : Kx} {l : Launch} {E : Ev} {a : Nat → Nat} {post : Int32 → St → Prop} (C : Cx X l E RX10 cX10_pointsOfPlace rmI_X10_pointsOfPlace (some .int)) (hQ : QI X (wI E a) post) (s0 : Int32) (σ : St) (h : wpI_X10_pointsOfPlace_23  s0 σ post) : G X (wI E a) σ 23 [none] [.int s0] := by
  unfold wpI_X10_pointsOfPlace_23 at h
  exact g_ireturn C hQ dX10_pointsOfPlace_23 h
def wpI_X10_pointsOfPlace (x0 : Int32) (σ : St) (post : Int32 → St → Prop) : Prop := wpI_X10_within x0 1 16 σ (fun r2 σ1 => ((r2 = 0 → wpI_X10_pointsOfPlace_23 0 σ1 post) ∧ (¬ r2 = 0 → vp_in (x0 - 1) 16 ∧ (wpI_X10_pointsOfPlace_23 (pointsF (Int32.toNatClampNeg (x0 - 1))) σ1 post))))
theorem kI_X10_pointsOfPlace {X : Kx} {l : Launch} {E : Ev} {a : Nat → Nat} {post : Int32 → St → Prop} (C : Cx X l E RX10 cX10_pointsOfPlace rmI_X10_pointsOfPlace (some .int)) (hQ : QI X (wI E a) post) (x0 : Int32) (σ : St) (h : wpI_X10_pointsOfPlace x0 σ post) : G X (wI E a) σ 0 [some (.int x0)] [] := by
  unfold wpI_X10_pointsOfPlace at h
  refine g_iload_0 C dX10_pointsOfPlace_0 rfl ?_
  refine g_iconst_1 C dX10_pointsOfPlace_1 ?_
  refine g_points C us_X10_345 dX10_pointsOfPlace_2 ?_
  refine g_plen C dX10_pointsOfPlace_5 ?_
  refine csI_X10_62 C h ⟨Nat.le_of_ble_eq_true rfl, Nat.le_of_ble_eq_true rfl⟩ (Nat.le_of_ble_eq_true rfl) dX10_pointsOfPlace_6 (fun _ _ h => ?_)
  refine g_if_eq C 22 dX10_pointsOfPlace_9 (by decide) (fun q => ?_) (fun q => ?_)
  · have h := h.1 q
    refine g_iconst_0 C dX10_pointsOfPlace_22 ?_
    exact g_wk (kI_X10_pointsOfPlace_23 C hQ _ _ h) (trivial)
  · have h := h.2 q
    refine g_points C us_X10_345 dX10_pointsOfPlace_12 ?_
    refine g_iload_0 C dX10_pointsOfPlace_15 rfl ?_
    refine g_iconst_1 C dX10_pointsOfPlace_16 ?_
    refine g_isub C dX10_pointsOfPlace_17 ?_
    obtain ⟨q, h⟩ := h
    refine g_pald C q dX10_pointsOfPlace_18 ?_
    refine g_goto C 23 dX10_pointsOfPlace_19 (by decide) ?_
    exact g_wk (kI_X10_pointsOfPlace_23 C hQ _ _ h) (trivial)
theorem cI_X10_pointsOfPlace {l : Launch} {E : Ev} {a : Nat → Nat} {x0 : Int32} {σ : St} {post : Int32 → St → Prop} (h : wpI_X10_pointsOfPlace x0 σ post) : CI l E (wI E a) yX10_pointsOfPlace cX10_pointsOfPlace 1 .int rmI_X10_pointsOfPlace [.int x0] σ post := met_i (by decide) rfl (Nat.le_of_ble_eq_true rfl) rfl (fun X C hQ => kI_X10_pointsOfPlace C hQ _ _ h)
theorem csI_X10_342 {X : Kx} {l : Launch} {E : Ev} {a : Nat → Nat} {σ : St} {cc : ByteArray} {rm : Room} {ret : Option FieldType} {pc : Nat} {lv : List (Option Value)} {rest : List Value} {x0 : Int32} {post : Int32 → St → Prop} (C : Cx X l E RX10 cc rm ret) (h : wpI_X10_pointsOfPlace x0 σ post) (hR : 1 + 1 ≤ rm.frames ∧ 8 + (1 + 11) + 22 ≤ rm.locals) (hW : (rest.map fun v => v.category).sum ≤ 8) (d : decode cc pc = .ok (.invokestatic 342, 3)) (k : ∀ (r : Int32) (u : St), post r u → G X (wI E a) u (pc + 3) lv (.int r :: rest)) : G X (wI E a) σ pc lv (.int x0 :: rest) := g_callSi C 1 (As := [.int x0]) (rest := rest) (by decide +kernel) (by decide +kernel) (by decide +kernel) (by decide +kernel) (by decide +kernel) (cI_X10_pointsOfPlace h) ⟨rfl, rfl⟩ hR rfl rfl hW d k
/-! IceRun.sharedPoints(II)I -/
abbrev rmI_X10_sharedPoints : Room := { frames := 2, cells := 0, slots := 0, locals := 42 }
def wpI_X10_sharedPoints_35 (s0 : Int32) (σ : St) (post : Int32 → St → Prop) : Prop := post s0 σ
theorem kI_X10_sharedPoints_35 {X : Kx} {l : Launch} {E : Ev} {a : Nat → Nat} {post : Int32 → St → Prop} (C : Cx X l E RX10 cX10_sharedPoints rmI_X10_sharedPoints (some .int)) (hQ : QI X (wI E a) post) (s0 : Int32) (σ : St) (h : wpI_X10_sharedPoints_35  s0 σ post) : G X (wI E a) σ 35 [none, none, none, none] [.int s0] := by
  unfold wpI_X10_sharedPoints_35 at h
  exact g_ireturn C hQ dX10_sharedPoints_35 h
def wpBI_X10_sharedPoints_4 (k_4 : Int32 → Int32 → Int32 → Int32 → St → Prop) (x0 x1 x2 x3 : Int32) (σ : St) (post : Int32 → St → Prop) : Prop := ((x1 ≤ x3 → ((x1 ≤ 0 → wpI_X10_sharedPoints_35 0 σ post) ∧ (¬ x1 ≤ 0 → (¬ x1 = 0) ∧ (wpI_X10_sharedPoints_35 (x2 / x1) σ post)))) ∧ (¬ x1 ≤ x3 → wpI_X10_pointsOfPlace (x0 + x3) σ (fun r2 σ1 => let y3 : Int32 := (x2 + r2); let y4 : Int32 := x3 + 1; k_4 x0 x1 y3 y4 σ1)))
def wpI_X10_sharedPoints_4 (x0 x1 x2 x3 : Int32) (σ : St) (post : Int32 → St → Prop) : Prop := ∃ n : Nat, lpN (α := Int32 × Int32 × Int32 × Int32 × St) (fun kb t => wpBI_X10_sharedPoints_4 (fun x0 x1 x2 x3 σ => kb (x0, x1, x2, x3, σ)) t.1 t.2.1 t.2.2.1 t.2.2.2.1 t.2.2.2.2 post) n (x0, x1, x2, x3, σ)
theorem kBI_X10_sharedPoints_4 {X : Kx} {l : Launch} {E : Ev} {a : Nat → Nat} {post : Int32 → St → Prop} (C : Cx X l E RX10 cX10_sharedPoints rmI_X10_sharedPoints (some .int)) (hQ : QI X (wI E a) post) (k_4 : Int32 → Int32 → Int32 → Int32 → St → Prop) (hk_4 : ∀ (x0 x1 x2 x3 : Int32) (σ : St), k_4 x0 x1 x2 x3 σ → G X (wI E a) σ 4 [some (.int x0), some (.int x1), some (.int x2), some (.int x3)] []) (x0 x1 x2 x3 : Int32) (σ : St) (h : wpBI_X10_sharedPoints_4 k_4 x0 x1 x2 x3 σ post) : G X (wI E a) σ 4 [some (.int x0), some (.int x1), some (.int x2), some (.int x3)] [] := by
  unfold wpBI_X10_sharedPoints_4 at h
  refine g_iload_3 C dX10_sharedPoints_4 rfl ?_
  refine g_iload_1 C dX10_sharedPoints_5 rfl ?_
  refine g_icmp_ge C 24 dX10_sharedPoints_6 (by decide) (fun q => ?_) (fun q => ?_)
  · have h := h.1 q
    refine g_iload_1 C dX10_sharedPoints_24 rfl ?_
    refine g_if_le C 34 dX10_sharedPoints_25 (by decide) (fun q => ?_) (fun q => ?_)
    · have h := h.1 q
      refine g_iconst_0 C dX10_sharedPoints_34 ?_
      exact g_wk (kI_X10_sharedPoints_35 C hQ _ _ h) (trivial)
    · have h := h.2 q
      refine g_iload_2 C dX10_sharedPoints_28 rfl ?_
      refine g_iload_1 C dX10_sharedPoints_29 rfl ?_
      obtain ⟨q, h⟩ := h
      refine g_idiv C q dX10_sharedPoints_30 ?_
      refine g_goto C 35 dX10_sharedPoints_31 (by decide) ?_
      exact g_wk (kI_X10_sharedPoints_35 C hQ _ _ h) (trivial)
  · have h := h.2 q
    refine g_iload_2 C dX10_sharedPoints_9 rfl ?_
    refine g_iload_0 C dX10_sharedPoints_10 rfl ?_
    refine g_iload_3 C dX10_sharedPoints_11 rfl ?_
    refine g_iadd C dX10_sharedPoints_12 ?_
    refine csI_X10_342 C h ⟨Nat.le_of_ble_eq_true rfl, Nat.le_of_ble_eq_true rfl⟩ (Nat.le_of_ble_eq_true rfl) dX10_sharedPoints_13 (fun _ _ h => ?_)
    refine g_iadd C dX10_sharedPoints_16 ?_
    refine g_istore_2 C dX10_sharedPoints_17 (Nat.le_of_ble_eq_true rfl) ?_
    refine g_iinc C (v := 1) (by decide) dX10_sharedPoints_18 rfl ?_
    refine g_goto C 4 dX10_sharedPoints_21 (by decide) ?_
    exact g_wk (hk_4 _ _ _ _ _ h) (And.intro rfl (And.intro rfl (And.intro rfl (And.intro rfl (trivial)))))
theorem kI_X10_sharedPoints_4 {X : Kx} {l : Launch} {E : Ev} {a : Nat → Nat} {post : Int32 → St → Prop} (C : Cx X l E RX10 cX10_sharedPoints rmI_X10_sharedPoints (some .int)) (hQ : QI X (wI E a) post) (x0 x1 x2 x3 : Int32) (σ : St) (h : wpI_X10_sharedPoints_4  x0 x1 x2 x3 σ post) : G X (wI E a) σ 4 [some (.int x0), some (.int x1), some (.int x2), some (.int x3)] [] := by
  obtain ⟨n, h⟩ := h
  exact g_loop (J := fun t : Int32 × Int32 × Int32 × Int32 × St => G X (wI E a) t.2.2.2.2 4 [some (.int t.1), some (.int t.2.1), some (.int t.2.2.1), some (.int t.2.2.2.1)] []) (fun kb hkb t ht => kBI_X10_sharedPoints_4 C hQ  (fun x0 x1 x2 x3 σ => kb (x0, x1, x2, x3, σ)) (fun x0 x1 x2 x3 σ hh => hkb (x0, x1, x2, x3, σ) hh) t.1 t.2.1 t.2.2.1 t.2.2.2.1 t.2.2.2.2 ht) n (x0, x1, x2, x3, σ) h
def wpI_X10_sharedPoints (x0 x1 : Int32) (σ : St) (post : Int32 → St → Prop) : Prop := wpI_X10_sharedPoints_4 x0 x1 0 0 σ post
theorem kI_X10_sharedPoints {X : Kx} {l : Launch} {E : Ev} {a : Nat → Nat} {post : Int32 → St → Prop} (C : Cx X l E RX10 cX10_sharedPoints rmI_X10_sharedPoints (some .int)) (hQ : QI X (wI E a) post) (x0 x1 : Int32) (σ : St) (h : wpI_X10_sharedPoints x0 x1 σ post) : G X (wI E a) σ 0 [some (.int x0), some (.int x1), none, none] [] := by
  unfold wpI_X10_sharedPoints at h
  refine g_iconst_0 C dX10_sharedPoints_0 ?_
  refine g_istore_2 C dX10_sharedPoints_1 (Nat.le_of_ble_eq_true rfl) ?_
  refine g_iconst_0 C dX10_sharedPoints_2 ?_
  refine g_istore_3 C dX10_sharedPoints_3 (Nat.le_of_ble_eq_true rfl) ?_
  exact g_wk (kI_X10_sharedPoints_4 C hQ _ _ _ _ _ h) (And.intro rfl (And.intro rfl (And.intro rfl (And.intro rfl (trivial)))))
theorem cI_X10_sharedPoints {l : Launch} {E : Ev} {a : Nat → Nat} {x0 x1 : Int32} {σ : St} {post : Int32 → St → Prop} (h : wpI_X10_sharedPoints x0 x1 σ post) : CI l E (wI E a) yX10_sharedPoints cX10_sharedPoints 4 .int rmI_X10_sharedPoints [.int x0, .int x1] σ post := met_i (by decide) rfl (Nat.le_of_ble_eq_true rfl) rfl (fun X C hQ => kI_X10_sharedPoints C hQ _ _ _ h)
theorem asI_305 {X : Kx} {l : Launch} {E : Ev} {a : Nat → Nat} {σ : St} {cc : ByteArray} {rm : Room} {ret : Option FieldType} {pc : Nat} {lv : List (Option Value)} {st : List Value} {own : String} {i x : Int32} (C : Cx X l E own cc rm ret) (hin : vp_in i 16) (d : decode cc pc = .ok (.iastore, 1)) (k : G X (wI E a) (pA σ 305 i.toNatClampNeg x) (pc + 1) lv st) : G X (wI E a) σ pc lv (.int x :: .int i :: .ref (a 306) :: st) := g_iast C (q0 := 22) rfl rfl hin d k
theorem csI_X10_333 {X : Kx} {l : Launch} {E : Ev} {a : Nat → Nat} {σ : St} {cc : ByteArray} {rm : Room} {ret : Option FieldType} {pc : Nat} {lv : List (Option Value)} {rest : List Value} {x0 : Int32} {post : Int32 → St → Prop} (C : Cx X l E RX10 cc rm ret) (h : wpI_X6_isRanked x0 σ post) (hR : 1 + 1 ≤ rm.frames ∧ 8 + (2 + 11) + 22 ≤ rm.locals) (hW : (rest.map fun v => v.category).sum ≤ 8) (d : decode cc pc = .ok (.invokevirtual 333, 3)) (k : ∀ (r : Int32) (u : St), post r u → G X (wI E a) u (pc + 3) lv (.int r :: rest)) : G X (wI E a) σ pc lv (.int x0 :: .ref (a 900) :: rest) := g_callVi C 1 (As := [.int x0]) (rest := rest) (Cn := RX6) (T := TX6) (N := 3) (q0 := 41) (ci := 6) (by decide +kernel) (by decide +kernel) (by decide +kernel) (by decide +kernel) (by decide +kernel) (by decide +kernel) rfl rfl (cI_X6_isRanked h) ⟨rfl, rfl⟩ hR rfl rfl hW d k
theorem fgI_X10_250 {X : Kx} {l : Launch} {E : Ev} {a : Nat → Nat} {σ : St} {cc : ByteArray} {rm : Room} {ret : Option FieldType} {pc : Nat} {lv : List (Option Value)} {st : List Value} (C : Cx X l E RX10 cc rm ret) (d : decode cc pc = .ok (.getfield 250, 3)) (k : G X (wI E a) σ (pc + 3) lv (.ref (a 306) :: st)) : G X (wI E a) σ pc lv (.ref (a 300) :: st) := g_getN C (host := "IceRun") (q0 := 17) (ci := 5) (k := 5) rfl rfl inU_X5 (by decide) (by decide +kernel) rfl d k
theorem csI_X10_336 {X : Kx} {l : Launch} {E : Ev} {a : Nat → Nat} {σ : St} {cc : ByteArray} {rm : Room} {ret : Option FieldType} {pc : Nat} {lv : List (Option Value)} {rest : List Value} {x0 : Int32} {post : Int32 → St → Prop} (C : Cx X l E RX10 cc rm ret) (h : wpI_X6_manyAt x0 σ post) (hR : 3 + 1 ≤ rm.frames ∧ 8 + (4 + 11) + 64 ≤ rm.locals) (hW : (rest.map fun v => v.category).sum ≤ 8) (d : decode cc pc = .ok (.invokevirtual 336, 3)) (k : ∀ (r : Int32) (u : St), post r u → G X (wI E a) u (pc + 3) lv (.int r :: rest)) : G X (wI E a) σ pc lv (.int x0 :: .ref (a 900) :: rest) := g_callVi C 1 (As := [.int x0]) (rest := rest) (Cn := RX6) (T := TX6) (N := 3) (q0 := 41) (ci := 6) (by decide +kernel) (by decide +kernel) (by decide +kernel) (by decide +kernel) (by decide +kernel) (by decide +kernel) rfl rfl (cI_X6_manyAt h) ⟨rfl, rfl⟩ hR rfl rfl hW d k
theorem csI_X10_339 {X : Kx} {l : Launch} {E : Ev} {a : Nat → Nat} {σ : St} {cc : ByteArray} {rm : Room} {ret : Option FieldType} {pc : Nat} {lv : List (Option Value)} {rest : List Value} {x0 x1 : Int32} {post : Int32 → St → Prop} (C : Cx X l E RX10 cc rm ret) (h : wpI_X10_sharedPoints x0 x1 σ post) (hR : 2 + 1 ≤ rm.frames ∧ 8 + (4 + 11) + 42 ≤ rm.locals) (hW : (rest.map fun v => v.category).sum ≤ 8) (d : decode cc pc = .ok (.invokestatic 339, 3)) (k : ∀ (r : Int32) (u : St), post r u → G X (wI E a) u (pc + 3) lv (.int r :: rest)) : G X (wI E a) σ pc lv (.int x1 :: .int x0 :: rest) := g_callSi C 2 (As := [.int x0, .int x1]) (rest := rest) (by decide +kernel) (by decide +kernel) (by decide +kernel) (by decide +kernel) (by decide +kernel) (cI_X10_sharedPoints h) ⟨rfl, rfl⟩ hR rfl rfl hW d k
/-! IceRun.givePoints()I -/
abbrev rmI_X10_givePoints : Room := { frames := 4, cells := 0, slots := 0, locals := 87 }
def wpI_X10_givePoints_95 (k_22 : Int32 → Int32 → Int32 → St → Prop) (x1 x2 x3 : Int32) (σ : St) (post : Int32 → St → Prop) : Prop := let y1 : Int32 := x3 + 1; k_22 x1 x2 y1 σ
theorem kI_X10_givePoints_95 {X : Kx} {l : Launch} {E : Ev} {a : Nat → Nat} {post : Int32 → St → Prop} (C : Cx X l E RX10 cX10_givePoints rmI_X10_givePoints (some .int)) (hQ : QI X (wI E a) post) (k_22 : Int32 → Int32 → Int32 → St → Prop) (hk_22 : ∀ (x1 x2 x3 : Int32) (σ : St), k_22 x1 x2 x3 σ → G X (wI E a) σ 22 [some (.ref (a 0)), some (.int x1), some (.int x2), some (.int x3), none] []) (x1 x2 x3 : Int32) (σ : St) (h : wpI_X10_givePoints_95 k_22 x1 x2 x3 σ post) : G X (wI E a) σ 95 [some (.ref (a 0)), some (.int x1), some (.int x2), some (.int x3), none] [] := by
  unfold wpI_X10_givePoints_95 at h
  refine g_iinc C (v := 1) (by decide) dX10_givePoints_95 rfl ?_
  refine g_goto C 22 dX10_givePoints_98 (by decide) ?_
  exact g_wk (hk_22 _ _ _ _ h) (And.intro rfl (And.intro rfl (And.intro rfl (And.intro rfl (trivial)))))
def wpI_X10_givePoints_90 (k_22 : Int32 → Int32 → Int32 → St → Prop) (x1 x2 x3 s1 s2 s3 : Int32) (σ : St) (post : Int32 → St → Prop) : Prop := vp_in s1 16 ∧ (let σ1 : St := pA σ 305 (Int32.toNatClampNeg s1) (s2 + s3); let y2 : Int32 := x2 + 1; wpI_X10_givePoints_95 k_22 x1 y2 x3 σ1 post)
theorem kI_X10_givePoints_90 {X : Kx} {l : Launch} {E : Ev} {a : Nat → Nat} {post : Int32 → St → Prop} (C : Cx X l E RX10 cX10_givePoints rmI_X10_givePoints (some .int)) (hQ : QI X (wI E a) post) (k_22 : Int32 → Int32 → Int32 → St → Prop) (hk_22 : ∀ (x1 x2 x3 : Int32) (σ : St), k_22 x1 x2 x3 σ → G X (wI E a) σ 22 [some (.ref (a 0)), some (.int x1), some (.int x2), some (.int x3), none] []) (x1 x2 x3 s1 s2 s3 : Int32) (σ : St) (h : wpI_X10_givePoints_90 k_22 x1 x2 x3 s1 s2 s3 σ post) : G X (wI E a) σ 90 [some (.ref (a 0)), some (.int x1), some (.int x2), some (.int x3), none] [.int s3, .int s2, .int s1, .ref (a 306)] := by
  unfold wpI_X10_givePoints_90 at h
  refine g_iadd C dX10_givePoints_90 ?_
  obtain ⟨q, h⟩ := h
  refine asI_305 C q dX10_givePoints_91 ?_
  refine g_iinc C (v := 1) (by decide) dX10_givePoints_92 rfl ?_
  exact g_wk (kI_X10_givePoints_95 C hQ _ hk_22 _ _ _ _ h) (And.intro rfl (And.intro rfl (And.intro rfl (And.intro rfl (trivial)))))
def wpBI_X10_givePoints_22 (k_22 : Int32 → Int32 → Int32 → St → Prop) (x1 x2 x3 : Int32) (σ : St) (post : Int32 → St → Prop) : Prop := (((σ.1 300) ≤ x3 → post x2 σ) ∧ (¬ (σ.1 300) ≤ x3 → wpI_X6_isRanked x3 σ (fun r2 σ1 => ((r2 = 0 → wpI_X10_givePoints_95 k_22 x1 x2 x3 σ1 post) ∧ (¬ r2 = 0 → wpI_X6_rankOf x3 σ1 (fun r4 σ3 => vp_in x3 16 ∧ (((x1 = 0 → wpI_X10_pointsOfPlace r4 σ3 (fun r6 σ5 => wpI_X10_givePoints_90 k_22 x1 x2 x3 x3 (σ3.2 305 (Int32.toNatClampNeg x3)) r6 σ5 post)) ∧ (¬ x1 = 0 → wpI_X6_manyAt r4 σ3 (fun r8 σ7 => wpI_X10_sharedPoints r4 r8 σ7 (fun r10 σ9 => wpI_X10_givePoints_90 k_22 x1 x2 x3 x3 (σ3.2 305 (Int32.toNatClampNeg x3)) r10 σ9 post)))))))))))
def wpI_X10_givePoints_22 (x1 x2 x3 : Int32) (σ : St) (post : Int32 → St → Prop) : Prop := ∃ n : Nat, lpN (α := Int32 × Int32 × Int32 × St) (fun kb t => wpBI_X10_givePoints_22 (fun x1 x2 x3 σ => kb (x1, x2, x3, σ)) t.1 t.2.1 t.2.2.1 t.2.2.2 post) n (x1, x2, x3, σ)
theorem kBI_X10_givePoints_22 {X : Kx} {l : Launch} {E : Ev} {a : Nat → Nat} {post : Int32 → St → Prop} (C : Cx X l E RX10 cX10_givePoints rmI_X10_givePoints (some .int)) (hQ : QI X (wI E a) post) (k_22 : Int32 → Int32 → Int32 → St → Prop) (hk_22 : ∀ (x1 x2 x3 : Int32) (σ : St), k_22 x1 x2 x3 σ → G X (wI E a) σ 22 [some (.ref (a 0)), some (.int x1), some (.int x2), some (.int x3), none] []) (x1 x2 x3 : Int32) (σ : St) (h : wpBI_X10_givePoints_22 k_22 x1 x2 x3 σ post) : G X (wI E a) σ 22 [some (.ref (a 0)), some (.int x1), some (.int x2), some (.int x3), none] [] := by
  unfold wpBI_X10_givePoints_22 at h
  refine g_iload_3 C dX10_givePoints_22 rfl ?_
  refine g_aload_0 C dX10_givePoints_23 rfl ?_
  refine fgI_X10_26 C dX10_givePoints_24 ?_
  refine fgI_X10_136 C dX10_givePoints_27 ?_
  refine g_icmp_ge C 101 dX10_givePoints_30 (by decide) (fun q => ?_) (fun q => ?_)
  · have h := h.1 q
    refine g_iload_2 C dX10_givePoints_101 rfl ?_
    exact g_ireturn C hQ dX10_givePoints_102 h
  · have h := h.2 q
    refine g_aload_0 C dX10_givePoints_33 rfl ?_
    refine fgI_X10_54 C dX10_givePoints_34 ?_
    refine g_iload_3 C dX10_givePoints_37 rfl ?_
    refine csI_X10_333 C h ⟨Nat.le_of_ble_eq_true rfl, Nat.le_of_ble_eq_true rfl⟩ (Nat.le_of_ble_eq_true rfl) dX10_givePoints_38 (fun _ _ h => ?_)
    refine g_if_eq C 95 dX10_givePoints_41 (by decide) (fun q => ?_) (fun q => ?_)
    · have h := h.1 q
      exact g_wk (kI_X10_givePoints_95 C hQ _ hk_22 _ _ _ _ h) (And.intro rfl (And.intro rfl (And.intro rfl (And.intro rfl (trivial)))))
    · have h := h.2 q
      refine g_aload_0 C dX10_givePoints_44 rfl ?_
      refine fgI_X10_54 C dX10_givePoints_45 ?_
      refine g_iload_3 C dX10_givePoints_48 rfl ?_
      refine csI_X10_224 C h ⟨Nat.le_of_ble_eq_true rfl, Nat.le_of_ble_eq_true rfl⟩ (Nat.le_of_ble_eq_true rfl) dX10_givePoints_49 (fun _ _ h => ?_)
      refine g_istore C dX10_givePoints_52 (Nat.le_of_ble_eq_true rfl) ?_
      refine g_aload_0 C dX10_givePoints_54 rfl ?_
      refine fgI_X10_26 C dX10_givePoints_55 ?_
      refine fgI_X10_250 C dX10_givePoints_58 ?_
      refine g_iload_3 C dX10_givePoints_61 rfl ?_
      refine g_dup2 C dX10_givePoints_62 rfl rfl ?_
      obtain ⟨q, h⟩ := h
      refine alI_305 C q dX10_givePoints_63 ?_
      refine g_iload_1 C dX10_givePoints_64 rfl ?_
      refine g_if_eq C 85 dX10_givePoints_65 (by decide) (fun q => ?_) (fun q => ?_)
      · have h := h.1 q
        refine g_iload C dX10_givePoints_85 rfl ?_
        refine csI_X10_342 C h ⟨Nat.le_of_ble_eq_true rfl, Nat.le_of_ble_eq_true rfl⟩ (Nat.le_of_ble_eq_true rfl) dX10_givePoints_87 (fun _ _ h => ?_)
        exact g_wk (kI_X10_givePoints_90 C hQ _ hk_22 _ _ _ _ _ _ _ h) (And.intro rfl (And.intro rfl (And.intro rfl (And.intro rfl (trivial)))))
      · have h := h.2 q
        refine g_iload C dX10_givePoints_68 rfl ?_
        refine g_aload_0 C dX10_givePoints_70 rfl ?_
        refine fgI_X10_54 C dX10_givePoints_71 ?_
        refine g_iload C dX10_givePoints_74 rfl ?_
        refine csI_X10_336 C h ⟨Nat.le_of_ble_eq_true rfl, Nat.le_of_ble_eq_true rfl⟩ (Nat.le_of_ble_eq_true rfl) dX10_givePoints_76 (fun _ _ h => ?_)
        refine csI_X10_339 C h ⟨Nat.le_of_ble_eq_true rfl, Nat.le_of_ble_eq_true rfl⟩ (Nat.le_of_ble_eq_true rfl) dX10_givePoints_79 (fun _ _ h => ?_)
        refine g_goto C 90 dX10_givePoints_82 (by decide) ?_
        exact g_wk (kI_X10_givePoints_90 C hQ _ hk_22 _ _ _ _ _ _ _ h) (And.intro rfl (And.intro rfl (And.intro rfl (And.intro rfl (trivial)))))
theorem kI_X10_givePoints_22 {X : Kx} {l : Launch} {E : Ev} {a : Nat → Nat} {post : Int32 → St → Prop} (C : Cx X l E RX10 cX10_givePoints rmI_X10_givePoints (some .int)) (hQ : QI X (wI E a) post) (x1 x2 x3 : Int32) (σ : St) (h : wpI_X10_givePoints_22  x1 x2 x3 σ post) : G X (wI E a) σ 22 [some (.ref (a 0)), some (.int x1), some (.int x2), some (.int x3), none] [] := by
  obtain ⟨n, h⟩ := h
  exact g_loop (J := fun t : Int32 × Int32 × Int32 × St => G X (wI E a) t.2.2.2 22 [some (.ref (a 0)), some (.int t.1), some (.int t.2.1), some (.int t.2.2.1), none] []) (fun kb hkb t ht => kBI_X10_givePoints_22 C hQ  (fun x1 x2 x3 σ => kb (x1, x2, x3, σ)) (fun x1 x2 x3 σ hh => hkb (x1, x2, x3, σ) hh) t.1 t.2.1 t.2.2.1 t.2.2.2 ht) n (x1, x2, x3, σ) h
def wpI_X10_givePoints_17 (s0 : Int32) (σ : St) (post : Int32 → St → Prop) : Prop := wpI_X10_givePoints_22 s0 0 0 σ post
theorem kI_X10_givePoints_17 {X : Kx} {l : Launch} {E : Ev} {a : Nat → Nat} {post : Int32 → St → Prop} (C : Cx X l E RX10 cX10_givePoints rmI_X10_givePoints (some .int)) (hQ : QI X (wI E a) post) (s0 : Int32) (σ : St) (h : wpI_X10_givePoints_17  s0 σ post) : G X (wI E a) σ 17 [some (.ref (a 0)), none, none, none, none] [.int s0] := by
  unfold wpI_X10_givePoints_17 at h
  refine g_istore_1 C dX10_givePoints_17 (Nat.le_of_ble_eq_true rfl) ?_
  refine g_iconst_0 C dX10_givePoints_18 ?_
  refine g_istore_2 C dX10_givePoints_19 (Nat.le_of_ble_eq_true rfl) ?_
  refine g_iconst_0 C dX10_givePoints_20 ?_
  refine g_istore_3 C dX10_givePoints_21 (Nat.le_of_ble_eq_true rfl) ?_
  exact g_wk (kI_X10_givePoints_22 C hQ _ _ _ _ h) (And.intro rfl (And.intro rfl (And.intro rfl (And.intro rfl (trivial)))))
def wpI_X10_givePoints (σ : St) (post : Int32 → St → Prop) : Prop := wpI_X0_inForce 5 σ (fun r2 σ1 => ((¬ r2 = 1 → wpI_X10_givePoints_17 0 σ1 post) ∧ (r2 = 1 → wpI_X10_givePoints_17 1 σ1 post)))
theorem kI_X10_givePoints {X : Kx} {l : Launch} {E : Ev} {a : Nat → Nat} {post : Int32 → St → Prop} (C : Cx X l E RX10 cX10_givePoints rmI_X10_givePoints (some .int)) (hQ : QI X (wI E a) post) (σ : St) (h : wpI_X10_givePoints  σ post) : G X (wI E a) σ 0 [some (.ref (a 0)), none, none, none, none] [] := by
  unfold wpI_X10_givePoints at h
  refine g_aload_0 C dX10_givePoints_0 rfl ?_
  refine fgI_X10_40 C dX10_givePoints_1 ?_
  refine g_iconst_5 C dX10_givePoints_4 ?_
  refine csI_X10_157 C h ⟨Nat.le_of_ble_eq_true rfl, Nat.le_of_ble_eq_true rfl⟩ (Nat.le_of_ble_eq_true rfl) dX10_givePoints_5 (fun _ _ h => ?_)
  refine g_iconst_1 C dX10_givePoints_8 ?_
  refine g_icmp_ne C 16 dX10_givePoints_9 (by decide) (fun q => ?_) (fun q => ?_)
  · have h := h.1 q
    refine g_iconst_0 C dX10_givePoints_16 ?_
    exact g_wk (kI_X10_givePoints_17 C hQ _ _ h) (And.intro rfl (trivial))
  · have h := h.2 q
    refine g_iconst_1 C dX10_givePoints_12 ?_
    refine g_goto C 17 dX10_givePoints_13 (by decide) ?_
    exact g_wk (kI_X10_givePoints_17 C hQ _ _ h) (And.intro rfl (trivial))
theorem cI_X10_givePoints {l : Launch} {E : Ev} {a : Nat → Nat} {σ : St} {post : Int32 → St → Prop} (h : wpI_X10_givePoints  σ post) : CI l E (wI E a) yX10_givePoints cX10_givePoints 5 .int rmI_X10_givePoints [.ref (a 0)] σ post := met_i (by decide) rfl (Nat.le_of_ble_eq_true rfl) rfl (fun X C hQ => kI_X10_givePoints C hQ _ h)
theorem fgI_X10_241 {X : Kx} {l : Launch} {E : Ev} {a : Nat → Nat} {σ : St} {cc : ByteArray} {rm : Room} {ret : Option FieldType} {pc : Nat} {lv : List (Option Value)} {st : List Value} (C : Cx X l E RX10 cc rm ret) (d : decode cc pc = .ok (.getfield 241, 3)) (k : G X (wI E a) σ (pc + 3) lv (.int (σ.1 706) :: st)) : G X (wI E a) σ pc lv (.ref (a 700) :: st) := g_getN C (host := "IceRun") (q0 := 29) (ci := 2) (k := 6) rfl rfl inU_X2 (by decide) (by decide +kernel) rfl d k
theorem csI_X10_244 {X : Kx} {l : Launch} {E : Ev} {a : Nat → Nat} {σ : St} {cc : ByteArray} {rm : Room} {ret : Option FieldType} {pc : Nat} {lv : List (Option Value)} {rest : List Value} {post : Int32 → St → Prop} (C : Cx X l E RX10 cc rm ret) (h : wpI_X10_givePoints  σ post) (hR : 4 + 1 ≤ rm.frames ∧ 8 + (5 + 11) + 87 ≤ rm.locals) (hW : (rest.map fun v => v.category).sum ≤ 8) (d : decode cc pc = .ok (.invokevirtual 244, 3)) (k : ∀ (r : Int32) (u : St), post r u → G X (wI E a) u (pc + 3) lv (.int r :: rest)) : G X (wI E a) σ pc lv (.ref (a 0) :: rest) := g_callVi C 0 (As := []) (rest := rest) (Cn := RX10) (T := TX10) (N := 8) (q0 := 0) (ci := 9) (by decide +kernel) (by decide +kernel) (by decide +kernel) (by decide +kernel) (by decide +kernel) (by decide +kernel) rfl rfl (cI_X10_givePoints h) ⟨rfl, rfl⟩ hR rfl rfl hW d k
theorem fgI_X10_58 {X : Kx} {l : Launch} {E : Ev} {a : Nat → Nat} {σ : St} {cc : ByteArray} {rm : Room} {ret : Option FieldType} {pc : Nat} {lv : List (Option Value)} {st : List Value} (C : Cx X l E RX10 cc rm ret) (d : decode cc pc = .ok (.getfield 58, 3)) (k : G X (wI E a) σ (pc + 3) lv (.int (σ.1 7) :: st)) : G X (wI E a) σ pc lv (.ref (a 0) :: st) := g_get C (q0 := 0) (ci := 9) (k := 7) rfl rfl inU_X10 (by decide) (by decide +kernel) rfl d k
theorem fpI_X10_58 {X : Kx} {l : Launch} {E : Ev} {a : Nat → Nat} {σ : St} {cc : ByteArray} {rm : Room} {ret : Option FieldType} {pc : Nat} {lv : List (Option Value)} {st : List Value} {v : Int32} (C : Cx X l E RX10 cc rm ret) (d : decode cc pc = .ok (.putfield 58, 3)) (k : G X (wI E a) (pI σ 7 v) (pc + 3) lv st) : G X (wI E a) σ pc lv (.int v :: .ref (a 0) :: st) := g_put C (q0 := 0) (ci := 9) (k := 7) (ty0 := tyX10) rfl rfl inU_X10 (by decide) tyX10_ok nmX10 (by decide +kernel) rfl rfl rfl (Nat.le_of_ble_eq_true rfl) rfl d k
/-! IceRun.close()I -/
abbrev rmI_X10_close : Room := { frames := 5, cells := 0, slots := 0, locals := 115 }
def wpI_X10_close_31 (σ : St) (post : Int32 → St → Prop) : Prop := post (-1) σ
theorem kI_X10_close_31 {X : Kx} {l : Launch} {E : Ev} {a : Nat → Nat} {post : Int32 → St → Prop} (C : Cx X l E RX10 cX10_close rmI_X10_close (some .int)) (hQ : QI X (wI E a) post) (σ : St) (h : wpI_X10_close_31   σ post) : G X (wI E a) σ 31 [none, none] [] := by
  unfold wpI_X10_close_31 at h
  refine g_iconst_m1 C dX10_close_31 ?_
  exact g_ireturn C hQ dX10_close_32 h
def wpI_X10_close (σ : St) (post : Int32 → St → Prop) : Prop := (((σ.1 700) = 0 → wpI_X10_close_31 σ post) ∧ (¬ (σ.1 700) = 0 → ((¬ (σ.1 702) = (-1) → wpI_X10_close_31 σ post) ∧ ((σ.1 702) = (-1) → ((¬ (σ.1 706) = 0 → wpI_X6_recall (σ.1 705) σ (fun σ1 => wpI_X10_givePoints  σ1 (fun r3 σ2 => wpI_X2_forget  σ2 (fun σ4 => let σ5 : St := pI σ4 7 ((σ4.1 7) + 1); post r3 σ5)))) ∧ ((σ.1 706) = 0 → wpI_X10_close_31 σ post))))))
theorem kI_X10_close {X : Kx} {l : Launch} {E : Ev} {a : Nat → Nat} {post : Int32 → St → Prop} (C : Cx X l E RX10 cX10_close rmI_X10_close (some .int)) (hQ : QI X (wI E a) post) (σ : St) (h : wpI_X10_close  σ post) : G X (wI E a) σ 0 [some (.ref (a 0)), none] [] := by
  unfold wpI_X10_close at h
  refine g_aload_0 C dX10_close_0 rfl ?_
  refine fgI_X10_47 C dX10_close_1 ?_
  refine fgI_X10_66 C dX10_close_4 ?_
  refine g_if_eq C 31 dX10_close_7 (by decide) (fun q => ?_) (fun q => ?_)
  · have h := h.1 q
    exact g_wk (kI_X10_close_31 C hQ _ h) (trivial)
  · have h := h.2 q
    refine g_aload_0 C dX10_close_10 rfl ?_
    refine fgI_X10_47 C dX10_close_11 ?_
    refine fgI_X10_78 C dX10_close_14 ?_
    refine g_iconst_m1 C dX10_close_17 ?_
    refine g_icmp_ne C 31 dX10_close_18 (by decide) (fun q => ?_) (fun q => ?_)
    · have h := h.1 q
      exact g_wk (kI_X10_close_31 C hQ _ h) (trivial)
    · have h := h.2 q
      refine g_aload_0 C dX10_close_21 rfl ?_
      refine fgI_X10_47 C dX10_close_22 ?_
      refine fgI_X10_241 C dX10_close_25 ?_
      refine g_if_ne C 33 dX10_close_28 (by decide) (fun q => ?_) (fun q => ?_)
      · have h := h.1 q
        refine g_aload_0 C dX10_close_33 rfl ?_
        refine fgI_X10_54 C dX10_close_34 ?_
        refine g_aload_0 C dX10_close_37 rfl ?_
        refine fgI_X10_47 C dX10_close_38 ?_
        refine g_aload_0 C dX10_close_41 rfl ?_
        refine fgI_X10_47 C dX10_close_42 ?_
        refine fgI_X10_214 C dX10_close_45 ?_
        refine csI_X10_217 C h ⟨Nat.le_of_ble_eq_true rfl, Nat.le_of_ble_eq_true rfl⟩ (Nat.le_of_ble_eq_true rfl) dX10_close_48 (fun _ h => ?_)
        refine g_aload_0 C dX10_close_51 rfl ?_
        refine csI_X10_244 C h ⟨Nat.le_of_ble_eq_true rfl, Nat.le_of_ble_eq_true rfl⟩ (Nat.le_of_ble_eq_true rfl) dX10_close_52 (fun _ _ h => ?_)
        refine g_istore_1 C dX10_close_55 (Nat.le_of_ble_eq_true rfl) ?_
        refine g_aload_0 C dX10_close_56 rfl ?_
        refine fgI_X10_47 C dX10_close_57 ?_
        refine csI_X10_161 C h ⟨Nat.le_of_ble_eq_true rfl, Nat.le_of_ble_eq_true rfl⟩ (Nat.le_of_ble_eq_true rfl) dX10_close_60 (fun _ h => ?_)
        refine g_aload_0 C dX10_close_63 rfl ?_
        refine g_dup C dX10_close_64 rfl ?_
        refine fgI_X10_58 C dX10_close_65 ?_
        refine g_iconst_1 C dX10_close_68 ?_
        refine g_iadd C dX10_close_69 ?_
        refine fpI_X10_58 C dX10_close_70 ?_
        refine g_iload_1 C dX10_close_73 rfl ?_
        exact g_ireturn C hQ dX10_close_74 h
      · have h := h.2 q
        exact g_wk (kI_X10_close_31 C hQ _ h) (trivial)
theorem cI_X10_close {l : Launch} {E : Ev} {a : Nat → Nat} {σ : St} {post : Int32 → St → Prop} (h : wpI_X10_close  σ post) : CI l E (wI E a) yX10_close cX10_close 2 .int rmI_X10_close [.ref (a 0)] σ post := met_i (by decide) rfl (Nat.le_of_ble_eq_true rfl) rfl (fun X C hQ => kI_X10_close C hQ _ h)
theorem csI_X10_254 {X : Kx} {l : Launch} {E : Ev} {a : Nat → Nat} {σ : St} {cc : ByteArray} {rm : Room} {ret : Option FieldType} {pc : Nat} {lv : List (Option Value)} {rest : List Value} {x0 : Int32} {post : Int32 → St → Prop} (C : Cx X l E RX10 cc rm ret) (h : wpI_X5_pointsOfTeam x0 σ post) (hR : 0 + 1 ≤ rm.frames ∧ 8 + (4 + 11) + 0 ≤ rm.locals) (hW : (rest.map fun v => v.category).sum ≤ 8) (d : decode cc pc = .ok (.invokevirtual 254, 3)) (k : ∀ (r : Int32) (u : St), post r u → G X (wI E a) u (pc + 3) lv (.int r :: rest)) : G X (wI E a) σ pc lv (.int x0 :: .ref (a 300) :: rest) := g_callVi C 1 (As := [.int x0]) (rest := rest) (Cn := RX5) (T := TX5) (N := 6) (q0 := 17) (ci := 5) (by decide +kernel) (by decide +kernel) (by decide +kernel) (by decide +kernel) (by decide +kernel) (by decide +kernel) rfl rfl (cI_X5_pointsOfTeam h) ⟨rfl, rfl⟩ hR rfl rfl hW d k
theorem csI_X10_247 {X : Kx} {l : Launch} {E : Ev} {a : Nat → Nat} {σ : St} {cc : ByteArray} {rm : Room} {ret : Option FieldType} {pc : Nat} {lv : List (Option Value)} {rest : List Value} {x0 : Int32} {post : Int32 → St → Prop} (C : Cx X l E RX10 cc rm ret) (h : wpI_X5_has x0 σ post) (hR : 1 + 1 ≤ rm.frames ∧ 8 + (2 + 11) + 22 ≤ rm.locals) (hW : (rest.map fun v => v.category).sum ≤ 8) (d : decode cc pc = .ok (.invokevirtual 247, 3)) (k : ∀ (r : Int32) (u : St), post r u → G X (wI E a) u (pc + 3) lv (.int r :: rest)) : G X (wI E a) σ pc lv (.int x0 :: .ref (a 300) :: rest) := g_callVi C 1 (As := [.int x0]) (rest := rest) (Cn := RX5) (T := TX5) (N := 6) (q0 := 17) (ci := 5) (by decide +kernel) (by decide +kernel) (by decide +kernel) (by decide +kernel) (by decide +kernel) (by decide +kernel) rfl rfl (cI_X5_has h) ⟨rfl, rfl⟩ hR rfl rfl hW d k
/-! IceRun.points(II)I -/
abbrev rmI_X10_points : Room := { frames := 2, cells := 0, slots := 0, locals := 43 }
def wpI_X10_points_55 (s0 : Int32) (σ : St) (post : Int32 → St → Prop) : Prop := post s0 σ
theorem kI_X10_points_55 {X : Kx} {l : Launch} {E : Ev} {a : Nat → Nat} {post : Int32 → St → Prop} (C : Cx X l E RX10 cX10_points rmI_X10_points (some .int)) (hQ : QI X (wI E a) post) (s0 : Int32) (σ : St) (h : wpI_X10_points_55  s0 σ post) : G X (wI E a) σ 55 [none, none, none] [.int s0] := by
  unfold wpI_X10_points_55 at h
  exact g_ireturn C hQ dX10_points_55 h
def wpI_X10_points_54 (σ : St) (post : Int32 → St → Prop) : Prop := wpI_X10_points_55 (-1) σ post
theorem kI_X10_points_54 {X : Kx} {l : Launch} {E : Ev} {a : Nat → Nat} {post : Int32 → St → Prop} (C : Cx X l E RX10 cX10_points rmI_X10_points (some .int)) (hQ : QI X (wI E a) post) (σ : St) (h : wpI_X10_points_54   σ post) : G X (wI E a) σ 54 [none, none, none] [] := by
  unfold wpI_X10_points_54 at h
  refine g_iconst_m1 C dX10_points_54 ?_
  exact g_wk (kI_X10_points_55 C hQ _ _ h) (trivial)
def wpI_X10_points_28 (s0 : Int32) (σ : St) (post : Int32 → St → Prop) : Prop := post s0 σ
theorem kI_X10_points_28 {X : Kx} {l : Launch} {E : Ev} {a : Nat → Nat} {post : Int32 → St → Prop} (C : Cx X l E RX10 cX10_points rmI_X10_points (some .int)) (hQ : QI X (wI E a) post) (s0 : Int32) (σ : St) (h : wpI_X10_points_28  s0 σ post) : G X (wI E a) σ 28 [none, none, none] [.int s0] := by
  unfold wpI_X10_points_28 at h
  exact g_ireturn C hQ dX10_points_28 h
def wpI_X10_points (x1 x2 : Int32) (σ : St) (post : Int32 → St → Prop) : Prop := ((¬ x1 = 0 → ((¬ x1 = 1 → wpI_X10_points_54 σ post) ∧ (x1 = 1 → wpI_X10_within x2 0 3 σ (fun r2 σ1 => ((r2 = 0 → wpI_X10_points_54 σ1 post) ∧ (¬ r2 = 0 → wpI_X5_pointsOfTeam x2 σ1 (fun r4 σ3 => wpI_X10_points_55 r4 σ3 post))))))) ∧ (x1 = 0 → wpI_X5_has x2 σ (fun r6 σ5 => ((r6 = 0 → wpI_X10_points_28 (-1) σ5 post) ∧ (¬ r6 = 0 → vp_in x2 16 ∧ (wpI_X10_points_28 (σ5.2 305 (Int32.toNatClampNeg x2)) σ5 post))))))
theorem kI_X10_points {X : Kx} {l : Launch} {E : Ev} {a : Nat → Nat} {post : Int32 → St → Prop} (C : Cx X l E RX10 cX10_points rmI_X10_points (some .int)) (hQ : QI X (wI E a) post) (x1 x2 : Int32) (σ : St) (h : wpI_X10_points x1 x2 σ post) : G X (wI E a) σ 0 [some (.ref (a 0)), some (.int x1), some (.int x2)] [] := by
  unfold wpI_X10_points at h
  refine g_iload_1 C dX10_points_0 rfl ?_
  refine g_if_ne C 29 dX10_points_1 (by decide) (fun q => ?_) (fun q => ?_)
  · have h := h.1 q
    refine g_iload_1 C dX10_points_29 rfl ?_
    refine g_iconst_1 C dX10_points_30 ?_
    refine g_icmp_ne C 54 dX10_points_31 (by decide) (fun q => ?_) (fun q => ?_)
    · have h := h.1 q
      exact g_wk (kI_X10_points_54 C hQ _ h) (trivial)
    · have h := h.2 q
      refine g_iload_2 C dX10_points_34 rfl ?_
      refine g_iconst_0 C dX10_points_35 ?_
      refine g_iconst_3 C dX10_points_36 ?_
      refine csI_X10_62 C h ⟨Nat.le_of_ble_eq_true rfl, Nat.le_of_ble_eq_true rfl⟩ (Nat.le_of_ble_eq_true rfl) dX10_points_37 (fun _ _ h => ?_)
      refine g_if_eq C 54 dX10_points_40 (by decide) (fun q => ?_) (fun q => ?_)
      · have h := h.1 q
        exact g_wk (kI_X10_points_54 C hQ _ h) (trivial)
      · have h := h.2 q
        refine g_aload_0 C dX10_points_43 rfl ?_
        refine fgI_X10_26 C dX10_points_44 ?_
        refine g_iload_2 C dX10_points_47 rfl ?_
        refine csI_X10_254 C h ⟨Nat.le_of_ble_eq_true rfl, Nat.le_of_ble_eq_true rfl⟩ (Nat.le_of_ble_eq_true rfl) dX10_points_48 (fun _ _ h => ?_)
        refine g_goto C 55 dX10_points_51 (by decide) ?_
        exact g_wk (kI_X10_points_55 C hQ _ _ h) (trivial)
  · have h := h.2 q
    refine g_aload_0 C dX10_points_4 rfl ?_
    refine fgI_X10_26 C dX10_points_5 ?_
    refine g_iload_2 C dX10_points_8 rfl ?_
    refine csI_X10_247 C h ⟨Nat.le_of_ble_eq_true rfl, Nat.le_of_ble_eq_true rfl⟩ (Nat.le_of_ble_eq_true rfl) dX10_points_9 (fun _ _ h => ?_)
    refine g_if_eq C 27 dX10_points_12 (by decide) (fun q => ?_) (fun q => ?_)
    · have h := h.1 q
      refine g_iconst_m1 C dX10_points_27 ?_
      exact g_wk (kI_X10_points_28 C hQ _ _ h) (trivial)
    · have h := h.2 q
      refine g_aload_0 C dX10_points_15 rfl ?_
      refine fgI_X10_26 C dX10_points_16 ?_
      refine fgI_X10_250 C dX10_points_19 ?_
      refine g_iload_2 C dX10_points_22 rfl ?_
      obtain ⟨q, h⟩ := h
      refine alI_305 C q dX10_points_23 ?_
      refine g_goto C 28 dX10_points_24 (by decide) ?_
      exact g_wk (kI_X10_points_28 C hQ _ _ h) (trivial)
theorem cI_X10_points {l : Launch} {E : Ev} {a : Nat → Nat} {x1 x2 : Int32} {σ : St} {post : Int32 → St → Prop} (h : wpI_X10_points x1 x2 σ post) : CI l E (wI E a) yX10_points cX10_points 3 .int rmI_X10_points [.ref (a 0), .int x1, .int x2] σ post := met_i (by decide) rfl (Nat.le_of_ble_eq_true rfl) rfl (fun X C hQ => kI_X10_points C hQ _ _ _ h)
theorem fgI_X10_257 {X : Kx} {l : Launch} {E : Ev} {a : Nat → Nat} {σ : St} {cc : ByteArray} {rm : Room} {ret : Option FieldType} {pc : Nat} {lv : List (Option Value)} {st : List Value} (C : Cx X l E RX10 cc rm ret) (d : decode cc pc = .ok (.getfield 257, 3)) (k : G X (wI E a) σ (pc + 3) lv (.int (σ.1 704) :: st)) : G X (wI E a) σ pc lv (.ref (a 700) :: st) := g_getN C (host := "IceRun") (q0 := 29) (ci := 2) (k := 4) rfl rfl inU_X2 (by decide) (by decide +kernel) rfl d k
theorem fgI_X10_260 {X : Kx} {l : Launch} {E : Ev} {a : Nat → Nat} {σ : St} {cc : ByteArray} {rm : Room} {ret : Option FieldType} {pc : Nat} {lv : List (Option Value)} {st : List Value} (C : Cx X l E RX10 cc rm ret) (d : decode cc pc = .ok (.getfield 260, 3)) (k : G X (wI E a) σ (pc + 3) lv (.int (σ.1 707) :: st)) : G X (wI E a) σ pc lv (.ref (a 700) :: st) := g_getN C (host := "IceRun") (q0 := 29) (ci := 2) (k := 7) rfl rfl inU_X2 (by decide) (by decide +kernel) rfl d k
/-! IceRun.count(I)I -/
abbrev rmI_X10_count : Room := { frames := 0, cells := 0, slots := 0, locals := 0 }
def wpI_X10_count_107 (s0 : Int32) (σ : St) (post : Int32 → St → Prop) : Prop := post s0 σ
theorem kI_X10_count_107 {X : Kx} {l : Launch} {E : Ev} {a : Nat → Nat} {post : Int32 → St → Prop} (C : Cx X l E RX10 cX10_count rmI_X10_count (some .int)) (hQ : QI X (wI E a) post) (s0 : Int32) (σ : St) (h : wpI_X10_count_107  s0 σ post) : G X (wI E a) σ 107 [none, none] [.int s0] := by
  unfold wpI_X10_count_107 at h
  exact g_ireturn C hQ dX10_count_107 h
def wpI_X10_count_146 (s0 : Int32) (σ : St) (post : Int32 → St → Prop) : Prop := post s0 σ
theorem kI_X10_count_146 {X : Kx} {l : Launch} {E : Ev} {a : Nat → Nat} {post : Int32 → St → Prop} (C : Cx X l E RX10 cX10_count rmI_X10_count (some .int)) (hQ : QI X (wI E a) post) (s0 : Int32) (σ : St) (h : wpI_X10_count_146  s0 σ post) : G X (wI E a) σ 146 [none, none] [.int s0] := by
  unfold wpI_X10_count_146 at h
  exact g_ireturn C hQ dX10_count_146 h
def wpI_X10_count (x1 : Int32) (σ : St) (post : Int32 → St → Prop) : Prop := ((x1 = 0 → post (σ.1 100) σ) ∧ (x1 = 1 → post (σ.1 101) σ) ∧ (x1 = 2 → post (σ.1 300) σ) ∧ (x1 = 3 → post (σ.1 400) σ) ∧ (x1 = 4 → (((σ.1 700) = 0 → wpI_X10_count_107 0 σ post) ∧ (¬ (σ.1 700) = 0 → wpI_X10_count_107 1 σ post))) ∧ (x1 = 5 → post (σ.1 706) σ) ∧ (x1 = 6 → post (σ.1 702) σ) ∧ (x1 = 7 → ((¬ (σ.1 702) = (-1) → wpI_X10_count_146 (σ.1 704) σ post) ∧ ((σ.1 702) = (-1) → wpI_X10_count_146 0 σ post))) ∧ (x1 = 8 → post (σ.1 705) σ) ∧ (x1 = 9 → post (σ.1 7) σ) ∧ (x1 = 10 → post (σ.1 707) σ) ∧ (¬ x1 = 0 → ¬ x1 = 1 → ¬ x1 = 2 → ¬ x1 = 3 → ¬ x1 = 4 → ¬ x1 = 5 → ¬ x1 = 6 → ¬ x1 = 7 → ¬ x1 = 8 → ¬ x1 = 9 → ¬ x1 = 10 → post (-1) σ))
theorem kI_X10_count {X : Kx} {l : Launch} {E : Ev} {a : Nat → Nat} {post : Int32 → St → Prop} (C : Cx X l E RX10 cX10_count rmI_X10_count (some .int)) (hQ : QI X (wI E a) post) (x1 : Int32) (σ : St) (h : wpI_X10_count x1 σ post) : G X (wI E a) σ 0 [some (.ref (a 0)), some (.int x1)] [] := by
  unfold wpI_X10_count at h
  refine g_iload_1 C dX10_count_0 rfl ?_
  by_cases q0 : x1 = 0
  · have h := h.1 q0
    refine g_tabIn C 60 0 q0 dX10_count_1 (by decide) (by decide) (by rfl) (by decide) ?_
    refine g_aload_0 C dX10_count_60 rfl ?_
    refine fgI_X10_10 C dX10_count_61 ?_
    refine fgI_X10_113 C dX10_count_64 ?_
    exact g_ireturn C hQ dX10_count_67 h
  by_cases q1 : x1 = 1
  · have h := h.2.1 q1
    refine g_tabIn C 68 1 q1 dX10_count_1 (by decide) (by decide) (by rfl) (by decide) ?_
    refine g_aload_0 C dX10_count_68 rfl ?_
    refine fgI_X10_10 C dX10_count_69 ?_
    refine fgI_X10_130 C dX10_count_72 ?_
    exact g_ireturn C hQ dX10_count_75 h
  by_cases q2 : x1 = 2
  · have h := h.2.2.1 q2
    refine g_tabIn C 76 2 q2 dX10_count_1 (by decide) (by decide) (by rfl) (by decide) ?_
    refine g_aload_0 C dX10_count_76 rfl ?_
    refine fgI_X10_26 C dX10_count_77 ?_
    refine fgI_X10_136 C dX10_count_80 ?_
    exact g_ireturn C hQ dX10_count_83 h
  by_cases q3 : x1 = 3
  · have h := h.2.2.2.1 q3
    refine g_tabIn C 84 3 q3 dX10_count_1 (by decide) (by decide) (by rfl) (by decide) ?_
    refine g_aload_0 C dX10_count_84 rfl ?_
    refine fgI_X10_33 C dX10_count_85 ?_
    refine fgI_X10_143 C dX10_count_88 ?_
    exact g_ireturn C hQ dX10_count_91 h
  by_cases q4 : x1 = 4
  · have h := h.2.2.2.2.1 q4
    refine g_tabIn C 92 4 q4 dX10_count_1 (by decide) (by decide) (by rfl) (by decide) ?_
    refine g_aload_0 C dX10_count_92 rfl ?_
    refine fgI_X10_47 C dX10_count_93 ?_
    refine fgI_X10_66 C dX10_count_96 ?_
    refine g_if_eq C 106 dX10_count_99 (by decide) (fun q => ?_) (fun q => ?_)
    · have h := h.1 q
      refine g_iconst_0 C dX10_count_106 ?_
      exact g_wk (kI_X10_count_107 C hQ _ _ h) (trivial)
    · have h := h.2 q
      refine g_iconst_1 C dX10_count_102 ?_
      refine g_goto C 107 dX10_count_103 (by decide) ?_
      exact g_wk (kI_X10_count_107 C hQ _ _ h) (trivial)
  by_cases q5 : x1 = 5
  · have h := h.2.2.2.2.2.1 q5
    refine g_tabIn C 108 5 q5 dX10_count_1 (by decide) (by decide) (by rfl) (by decide) ?_
    refine g_aload_0 C dX10_count_108 rfl ?_
    refine fgI_X10_47 C dX10_count_109 ?_
    refine fgI_X10_241 C dX10_count_112 ?_
    exact g_ireturn C hQ dX10_count_115 h
  by_cases q6 : x1 = 6
  · have h := h.2.2.2.2.2.2.1 q6
    refine g_tabIn C 116 6 q6 dX10_count_1 (by decide) (by decide) (by rfl) (by decide) ?_
    refine g_aload_0 C dX10_count_116 rfl ?_
    refine fgI_X10_47 C dX10_count_117 ?_
    refine fgI_X10_78 C dX10_count_120 ?_
    exact g_ireturn C hQ dX10_count_123 h
  by_cases q7 : x1 = 7
  · have h := h.2.2.2.2.2.2.2.1 q7
    refine g_tabIn C 124 7 q7 dX10_count_1 (by decide) (by decide) (by rfl) (by decide) ?_
    refine g_aload_0 C dX10_count_124 rfl ?_
    refine fgI_X10_47 C dX10_count_125 ?_
    refine fgI_X10_78 C dX10_count_128 ?_
    refine g_iconst_m1 C dX10_count_131 ?_
    refine g_icmp_ne C 139 dX10_count_132 (by decide) (fun q => ?_) (fun q => ?_)
    · have h := h.1 q
      refine g_aload_0 C dX10_count_139 rfl ?_
      refine fgI_X10_47 C dX10_count_140 ?_
      refine fgI_X10_257 C dX10_count_143 ?_
      exact g_wk (kI_X10_count_146 C hQ _ _ h) (trivial)
    · have h := h.2 q
      refine g_iconst_0 C dX10_count_135 ?_
      refine g_goto C 146 dX10_count_136 (by decide) ?_
      exact g_wk (kI_X10_count_146 C hQ _ _ h) (trivial)
  by_cases q8 : x1 = 8
  · have h := h.2.2.2.2.2.2.2.2.1 q8
    refine g_tabIn C 147 8 q8 dX10_count_1 (by decide) (by decide) (by rfl) (by decide) ?_
    refine g_aload_0 C dX10_count_147 rfl ?_
    refine fgI_X10_47 C dX10_count_148 ?_
    refine fgI_X10_214 C dX10_count_151 ?_
    exact g_ireturn C hQ dX10_count_154 h
  by_cases q9 : x1 = 9
  · have h := h.2.2.2.2.2.2.2.2.2.1 q9
    refine g_tabIn C 155 9 q9 dX10_count_1 (by decide) (by decide) (by rfl) (by decide) ?_
    refine g_aload_0 C dX10_count_155 rfl ?_
    refine fgI_X10_58 C dX10_count_156 ?_
    exact g_ireturn C hQ dX10_count_159 h
  by_cases q10 : x1 = 10
  · have h := h.2.2.2.2.2.2.2.2.2.2.1 q10
    refine g_tabIn C 160 10 q10 dX10_count_1 (by decide) (by decide) (by rfl) (by decide) ?_
    refine g_aload_0 C dX10_count_160 rfl ?_
    refine fgI_X10_47 C dX10_count_161 ?_
    refine fgI_X10_260 C dX10_count_164 ?_
    exact g_ireturn C hQ dX10_count_167 h
  have h := h.2.2.2.2.2.2.2.2.2.2.2 q0 q1 q2 q3 q4 q5 q6 q7 q8 q9 q10
  refine g_tabOut C 168 (by have e0 := lv_neT q0 (a := 0) (by decide); have e1 := lv_neT q1 (a := 1) (by decide); have e2 := lv_neT q2 (a := 2) (by decide); have e3 := lv_neT q3 (a := 3) (by decide); have e4 := lv_neT q4 (a := 4) (by decide); have e5 := lv_neT q5 (a := 5) (by decide); have e6 := lv_neT q6 (a := 6) (by decide); have e7 := lv_neT q7 (a := 7) (by decide); have e8 := lv_neT q8 (a := 8) (by decide); have e9 := lv_neT q9 (a := 9) (by decide); have e10 := lv_neT q10 (a := 10) (by decide); omega) dX10_count_1 (by decide) ?_
  refine g_iconst_m1 C dX10_count_168 ?_
  exact g_ireturn C hQ dX10_count_169 h
theorem cI_X10_count {l : Launch} {E : Ev} {a : Nat → Nat} {x1 : Int32} {σ : St} {post : Int32 → St → Prop} (h : wpI_X10_count x1 σ post) : CI l E (wI E a) yX10_count cX10_count 2 .int rmI_X10_count [.ref (a 0), .int x1] σ post := met_i (by decide) rfl (Nat.le_of_ble_eq_true rfl) rfl (fun X C hQ => kI_X10_count C hQ _ _ h)

/-! IceRun.glide(II)I -/
abbrev rmI_X10_glide : Room := { frames := 6, cells := 1, slots := 6, locals := 82 }
def wpI_X10_glide_20 (σ : St) (post : Int32 → St → Prop) (px : St → Prop) : Prop := px σ
theorem kI_X10_glide_20 {X : Kx} {l : Launch} {E : Ev} {a : Nat → Nat} {post : Int32 → St → Prop} {px : St → Prop} (C : Cx X l E RX10 cX10_glide rmI_X10_glide (some .int)) (hQ : QX X (wI E a) post px) (hl0 : l.stackTraces = false) (σ : St) (h : wpI_X10_glide_20   σ post px) : G X (wI E a) σ 20 [none, none, none] [] := by
  unfold wpI_X10_glide_20 at h
  exact g_throw C hQ hl0 (fun U h => h.2.1) ⟨Nat.le_of_ble_eq_true rfl, Nat.le_of_ble_eq_true rfl, Nat.le_of_ble_eq_true rfl, Nat.le_of_ble_eq_true rfl⟩ dX10_glide_20 dX10_glide_23 dX10_glide_24 dX10_glide_26 dX10_glide_29 h
def wpI_X10_glide (x1 x2 : Int32) (σ : St) (post : Int32 → St → Prop) (px : St → Prop) : Prop := wpI_X10_within x1 0 3 σ (fun r2 σ1 => ((r2 = 0 → wpI_X10_glide_20 σ1 post px) ∧ (¬ r2 = 0 → wpI_X10_within x2 0 1000 σ1 (fun r4 σ3 => ((¬ r4 = 0 → wpI_X3_glideOf x1 x2 σ3 (fun r6 σ5 => post r6 σ5)) ∧ (r4 = 0 → wpI_X10_glide_20 σ3 post px))))))
theorem kI_X10_glide {X : Kx} {l : Launch} {E : Ev} {a : Nat → Nat} {post : Int32 → St → Prop} {px : St → Prop} (C : Cx X l E RX10 cX10_glide rmI_X10_glide (some .int)) (hQ : QX X (wI E a) post px) (hl0 : l.stackTraces = false) (x1 x2 : Int32) (σ : St) (h : wpI_X10_glide x1 x2 σ post px) : G X (wI E a) σ 0 [some (.ref (a 0)), some (.int x1), some (.int x2)] [] := by
  unfold wpI_X10_glide at h
  refine g_iload_1 C dX10_glide_0 rfl ?_
  refine g_iconst_0 C dX10_glide_1 ?_
  refine g_iconst_3 C dX10_glide_2 ?_
  refine csI_X10_62 C h ⟨Nat.le_of_ble_eq_true rfl, Nat.le_of_ble_eq_true rfl⟩ (Nat.le_of_ble_eq_true rfl) dX10_glide_3 (fun _ _ h => ?_)
  refine g_if_eq C 20 dX10_glide_6 (by decide) (fun q => ?_) (fun q => ?_)
  · have h := h.1 q
    exact g_wk (kI_X10_glide_20 C hQ hl0 _ h) (trivial)
  · have h := h.2 q
    refine g_iload_2 C dX10_glide_9 rfl ?_
    refine g_iconst_0 C dX10_glide_10 ?_
    refine g_sipush C (v := 1000) (by decide) dX10_glide_11 ?_
    refine csI_X10_62 C h ⟨Nat.le_of_ble_eq_true rfl, Nat.le_of_ble_eq_true rfl⟩ (Nat.le_of_ble_eq_true rfl) dX10_glide_14 (fun _ _ h => ?_)
    refine g_if_ne C 30 dX10_glide_17 (by decide) (fun q => ?_) (fun q => ?_)
    · have h := h.1 q
      refine g_aload_0 C dX10_glide_30 rfl ?_
      refine fgI_X10_19 C dX10_glide_31 ?_
      refine g_iload_1 C dX10_glide_34 rfl ?_
      refine g_iload_2 C dX10_glide_35 rfl ?_
      refine csI_X10_109 C h ⟨Nat.le_of_ble_eq_true rfl, Nat.le_of_ble_eq_true rfl⟩ (Nat.le_of_ble_eq_true rfl) dX10_glide_36 (fun _ _ h => ?_)
      exact g_xreturn C hQ dX10_glide_39 h
    · have h := h.2 q
      exact g_wk (kI_X10_glide_20 C hQ hl0 _ h) (trivial)
theorem cI_X10_glide {l : Launch} {E : Ev} {a : Nat → Nat} {x1 x2 : Int32} {σ : St} {post : Int32 → St → Prop} {px : St → Prop} (hl0 : l.stackTraces = false) (h : wpI_X10_glide x1 x2 σ post px) : CX l E (wI E a) yX10_glide cX10_glide 3 rmI_X10_glide [.ref (a 0), .int x1, .int x2] σ post px := met_x (by decide) rfl (Nat.le_of_ble_eq_true rfl) rfl (fun X C hQ => kI_X10_glide C hQ hl0 _ _ _ h)
theorem csI_X10_235 {X : Kx} {l : Launch} {E : Ev} {a : Nat → Nat} {σ : St} {cc : ByteArray} {rm : Room} {ret : Option FieldType} {pc : Nat} {lv : List (Option Value)} {rest : List Value} {x0 x1 : Int32} {post : Int32 → St → Prop} (C : Cx X l E RX10 cc rm ret) (h : wpI_X4_iceOf x0 x1 σ post) (hR : 2 + 1 ≤ rm.frames ∧ 8 + (6 + 11) + 44 ≤ rm.locals) (hW : (rest.map fun v => v.category).sum ≤ 8) (d : decode cc pc = .ok (.invokevirtual 235, 3)) (k : ∀ (r : Int32) (u : St), post r u → G X (wI E a) u (pc + 3) lv (.int r :: rest)) : G X (wI E a) σ pc lv (.int x1 :: .int x0 :: .ref (a 800) :: rest) := g_callVi C 2 (As := [.int x0, .int x1]) (rest := rest) (Cn := RX4) (T := TX4) (N := 5) (q0 := 35) (ci := 4) (by decide +kernel) (by decide +kernel) (by decide +kernel) (by decide +kernel) (by decide +kernel) (by decide +kernel) rfl rfl (cI_X4_iceOf h) ⟨rfl, rfl⟩ hR rfl rfl hW d k
/-! IceRun.ice(II)I -/
abbrev rmI_X10_ice : Room := { frames := 6, cells := 1, slots := 6, locals := 82 }
def wpI_X10_ice_26 (σ : St) (post : Int32 → St → Prop) (px : St → Prop) : Prop := px σ
theorem kI_X10_ice_26 {X : Kx} {l : Launch} {E : Ev} {a : Nat → Nat} {post : Int32 → St → Prop} {px : St → Prop} (C : Cx X l E RX10 cX10_ice rmI_X10_ice (some .int)) (hQ : QX X (wI E a) post px) (hl0 : l.stackTraces = false) (σ : St) (h : wpI_X10_ice_26   σ post px) : G X (wI E a) σ 26 [none, none, none] [] := by
  unfold wpI_X10_ice_26 at h
  exact g_throw C hQ hl0 (fun U h => h.2.2) ⟨Nat.le_of_ble_eq_true rfl, Nat.le_of_ble_eq_true rfl, Nat.le_of_ble_eq_true rfl, Nat.le_of_ble_eq_true rfl⟩ dX10_ice_26 dX10_ice_29 dX10_ice_30 dX10_ice_32 dX10_ice_35 h
def wpI_X10_ice (x1 x2 : Int32) (σ : St) (post : Int32 → St → Prop) (px : St → Prop) : Prop := wpI_X2_isWhole x1 σ (fun r2 σ1 => ((r2 = 0 → wpI_X10_ice_26 σ1 post px) ∧ (¬ r2 = 0 → wpI_X4_hasDown x1 x2 σ1 (fun r4 σ3 => ((¬ r4 = 0 → wpI_X4_iceOf x1 x2 σ3 (fun r6 σ5 => post r6 σ5)) ∧ (r4 = 0 → wpI_X10_ice_26 σ3 post px))))))
theorem kI_X10_ice {X : Kx} {l : Launch} {E : Ev} {a : Nat → Nat} {post : Int32 → St → Prop} {px : St → Prop} (C : Cx X l E RX10 cX10_ice rmI_X10_ice (some .int)) (hQ : QX X (wI E a) post px) (hl0 : l.stackTraces = false) (x1 x2 : Int32) (σ : St) (h : wpI_X10_ice x1 x2 σ post px) : G X (wI E a) σ 0 [some (.ref (a 0)), some (.int x1), some (.int x2)] [] := by
  unfold wpI_X10_ice at h
  refine g_aload_0 C dX10_ice_0 rfl ?_
  refine fgI_X10_47 C dX10_ice_1 ?_
  refine g_iload_1 C dX10_ice_4 rfl ?_
  refine csI_X10_227 C h ⟨Nat.le_of_ble_eq_true rfl, Nat.le_of_ble_eq_true rfl⟩ (Nat.le_of_ble_eq_true rfl) dX10_ice_5 (fun _ _ h => ?_)
  refine g_if_eq C 26 dX10_ice_8 (by decide) (fun q => ?_) (fun q => ?_)
  · have h := h.1 q
    exact g_wk (kI_X10_ice_26 C hQ hl0 _ h) (trivial)
  · have h := h.2 q
    refine g_aload_0 C dX10_ice_11 rfl ?_
    refine fgI_X10_47 C dX10_ice_12 ?_
    refine fgI_X10_185 C dX10_ice_15 ?_
    refine g_iload_1 C dX10_ice_18 rfl ?_
    refine g_iload_2 C dX10_ice_19 rfl ?_
    refine csI_X10_230 C h ⟨Nat.le_of_ble_eq_true rfl, Nat.le_of_ble_eq_true rfl⟩ (Nat.le_of_ble_eq_true rfl) dX10_ice_20 (fun _ _ h => ?_)
    refine g_if_ne C 36 dX10_ice_23 (by decide) (fun q => ?_) (fun q => ?_)
    · have h := h.1 q
      refine g_aload_0 C dX10_ice_36 rfl ?_
      refine fgI_X10_47 C dX10_ice_37 ?_
      refine fgI_X10_185 C dX10_ice_40 ?_
      refine g_iload_1 C dX10_ice_43 rfl ?_
      refine g_iload_2 C dX10_ice_44 rfl ?_
      refine csI_X10_235 C h ⟨Nat.le_of_ble_eq_true rfl, Nat.le_of_ble_eq_true rfl⟩ (Nat.le_of_ble_eq_true rfl) dX10_ice_45 (fun _ _ h => ?_)
      exact g_xreturn C hQ dX10_ice_48 h
    · have h := h.2 q
      exact g_wk (kI_X10_ice_26 C hQ hl0 _ h) (trivial)
theorem cI_X10_ice {l : Launch} {E : Ev} {a : Nat → Nat} {x1 x2 : Int32} {σ : St} {post : Int32 → St → Prop} {px : St → Prop} (hl0 : l.stackTraces = false) (h : wpI_X10_ice x1 x2 σ post px) : CX l E (wI E a) yX10_ice cX10_ice 3 rmI_X10_ice [.ref (a 0), .int x1, .int x2] σ post px := met_x (by decide) rfl (Nat.le_of_ble_eq_true rfl) rfl (fun X C hQ => kI_X10_ice C hQ hl0 _ _ _ h)

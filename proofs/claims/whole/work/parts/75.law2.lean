/-! IceRunLaw.glide -/
abbrev rmL_glide : Room := { frames := 7, cells := 1, slots := 6, locals := 104 }
theorem cL_glideH {l : Launch} {E : Ev} {a : Nat → Nat} {o : Nat} {f : Nat → Int64} {x y : Int32} {σ : St} {post : Int32 → St → Prop} {px : St → Prop} (hl0 : l.stackTraces = false) (h : wpI_X10_glide x y σ post px) : CH l E yL_glide cL_glide 5 rmL_glide [.ref (a 0), .int x, .int y, .ref o] (oL E o f ++ wI E a σ) (fun v u => (v = 0 ∧ ∃ (r : Int32) (σ' : St), post r σ' ∧ u = oL E o (vp_updL f 0 r.toInt64) ++ wI E a σ') ∨ (v = 1 ∧ ∃ σ' : St, px σ' ∧ u = oL E o f ++ wI E a σ')) := met_h (by decide) rfl (Nat.le_of_ble_eq_true rfl) rfl (fun X C hT hQ => by
  have C0 := cxk C (a := 0) (b := 0) (Nat.zero_le _) (Nat.zero_le _)
  have C1 := cxk C (a := 0 + 1) (b := 0 + 6) (Nat.le_of_ble_eq_true rfl) (Nat.le_of_ble_eq_true rfl)
  refine g_aload_3 C0 dL_glide_0 rfl ?_
  refine g_iconst_0 C0 dL_glide_1 ?_
  refine g_aload_0 C0 dL_glide_2 rfl ?_
  refine g_iload_1 C0 dL_glide_3 rfl ?_
  refine g_iload_2 C0 dL_glide_4 rfl ?_
  refine g_rot ?_
  refine g_tryF (w := wI E a) (σ := σ) (r := oL E o f) C hT 2 (As := [.int x, .int y]) (rest := [.int 0, .ref o]) (Cn := RX10) (T := TX10) (N := 8) (q0 := 0) (ci := 9) (by decide +kernel) (by decide +kernel) (by decide +kernel) (by decide +kernel) (by decide +kernel) (by decide +kernel) rfl rfl (cI_X10_glide hl0 h) ⟨rfl, rfl⟩ ⟨(Nat.le_of_ble_eq_true rfl), (Nat.le_of_ble_eq_true rfl)⟩ ⟨(Nat.le_of_ble_eq_true rfl), (Nat.le_of_ble_eq_true rfl)⟩ rfl rfl (Nat.le_of_ble_eq_true rfl) (by decide) dL_glide_5 (fun q u hu => ?_) (fun v u hu => ?_)
  · refine g_astore C1 dL_glide_13 (Nat.le_of_ble_eq_true rfl) ?_
    refine g_iconst_1 C1 dL_glide_15 ?_
    refine g_rot ?_
    exact g_hreturn C hQ dL_glide_16 (Nat.le_of_ble_eq_true rfl) (Nat.le_of_ble_eq_true rfl) (Or.inr ⟨rfl, u, hu, rfl⟩)
  · refine g_i2l C1 dL_glide_8 ?_
    refine g_rot ?_
    refine g_last (q0 := 0) (n := 1) (f := f) (i := 0) (σ' := oL E o (vp_updL f 0 v.toInt64) ++ wI E a u) C1 rfl rfl (by unfold vp_in; decide) dL_glide_9 ?_
    refine g_goto C1 17 dL_glide_10 (by decide) ?_
    refine g_iconst_0 C1 dL_glide_17 ?_
    exact g_hreturn C hQ dL_glide_18 (Nat.le_of_ble_eq_true rfl) (Nat.le_of_ble_eq_true rfl) (Or.inl ⟨rfl, v, u, hu, rfl⟩))
/-! IceRunLaw.ice -/
abbrev rmL_ice : Room := { frames := 7, cells := 1, slots := 6, locals := 104 }
theorem cL_iceH {l : Launch} {E : Ev} {a : Nat → Nat} {o : Nat} {f : Nat → Int64} {x y : Int32} {σ : St} {post : Int32 → St → Prop} {px : St → Prop} (hl0 : l.stackTraces = false) (h : wpI_X10_ice x y σ post px) : CH l E yL_ice cL_ice 5 rmL_ice [.ref (a 0), .int x, .int y, .ref o] (oL E o f ++ wI E a σ) (fun v u => (v = 0 ∧ ∃ (r : Int32) (σ' : St), post r σ' ∧ u = oL E o (vp_updL f 0 r.toInt64) ++ wI E a σ') ∨ (v = 1 ∧ ∃ σ' : St, px σ' ∧ u = oL E o f ++ wI E a σ')) := met_h (by decide) rfl (Nat.le_of_ble_eq_true rfl) rfl (fun X C hT hQ => by
  have C0 := cxk C (a := 0) (b := 0) (Nat.zero_le _) (Nat.zero_le _)
  have C1 := cxk C (a := 0 + 1) (b := 0 + 6) (Nat.le_of_ble_eq_true rfl) (Nat.le_of_ble_eq_true rfl)
  refine g_aload_3 C0 dL_ice_0 rfl ?_
  refine g_iconst_0 C0 dL_ice_1 ?_
  refine g_aload_0 C0 dL_ice_2 rfl ?_
  refine g_iload_1 C0 dL_ice_3 rfl ?_
  refine g_iload_2 C0 dL_ice_4 rfl ?_
  refine g_rot ?_
  refine g_tryF (w := wI E a) (σ := σ) (r := oL E o f) C hT 2 (As := [.int x, .int y]) (rest := [.int 0, .ref o]) (Cn := RX10) (T := TX10) (N := 8) (q0 := 0) (ci := 9) (by decide +kernel) (by decide +kernel) (by decide +kernel) (by decide +kernel) (by decide +kernel) (by decide +kernel) rfl rfl (cI_X10_ice hl0 h) ⟨rfl, rfl⟩ ⟨(Nat.le_of_ble_eq_true rfl), (Nat.le_of_ble_eq_true rfl)⟩ ⟨(Nat.le_of_ble_eq_true rfl), (Nat.le_of_ble_eq_true rfl)⟩ rfl rfl (Nat.le_of_ble_eq_true rfl) (by decide) dL_ice_5 (fun q u hu => ?_) (fun v u hu => ?_)
  · refine g_astore C1 dL_ice_13 (Nat.le_of_ble_eq_true rfl) ?_
    refine g_iconst_1 C1 dL_ice_15 ?_
    refine g_rot ?_
    exact g_hreturn C hQ dL_ice_16 (Nat.le_of_ble_eq_true rfl) (Nat.le_of_ble_eq_true rfl) (Or.inr ⟨rfl, u, hu, rfl⟩)
  · refine g_i2l C1 dL_ice_8 ?_
    refine g_rot ?_
    refine g_last (q0 := 0) (n := 1) (f := f) (i := 0) (σ' := oL E o (vp_updL f 0 v.toInt64) ++ wI E a u) C1 rfl rfl (by unfold vp_in; decide) dL_ice_9 ?_
    refine g_goto C1 17 dL_ice_10 (by decide) ?_
    refine g_iconst_0 C1 dL_ice_17 ?_
    exact g_hreturn C hQ dL_ice_18 (Nat.le_of_ble_eq_true rfl) (Nat.le_of_ble_eq_true rfl) (Or.inl ⟨rfl, v, u, hu, rfl⟩))

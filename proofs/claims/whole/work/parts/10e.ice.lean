theorem alI_108 {X : Kx} {l : Launch} {E : Ev} {a : Nat → Nat} {σ : St} {cc : ByteArray} {rm : Room} {ret : Option FieldType} {pc : Nat} {lv : List (Option Value)} {st : List Value} {own : String} {i : Int32} (C : Cx X l E own cc rm ret) (hin : vp_in i 12) (d : decode cc pc = .ok (.iaload, 1)) (k : G X (wI E a) σ (pc + 1) lv (.int (σ.2 108 i.toNatClampNeg) :: st)) : G X (wI E a) σ pc lv (.int i :: .ref (a 109) :: st) := g_iald C (q0 := 8) rfl hin d k
theorem lc_X8_53 : Cond.constant RX8 53 (-1000000) ∈ UW := by decide +kernel
/-! IceRun$Track.timeAtGate(II)I -/
abbrev rmI_X8_timeAtGate : Room := { frames := 0, cells := 0, slots := 0, locals := 0 }
def wpI_X8_timeAtGate_47 (s0 : Int32) (σ : St) (post : Int32 → St → Prop) : Prop := post s0 σ
theorem kI_X8_timeAtGate_47 {X : Kx} {l : Launch} {E : Ev} {a : Nat → Nat} {post : Int32 → St → Prop} (C : Cx X l E RX8 cX8_timeAtGate rmI_X8_timeAtGate (some .int)) (hQ : QI X (wI E a) post) (s0 : Int32) (σ : St) (h : wpI_X8_timeAtGate_47  s0 σ post) : G X (wI E a) σ 47 [none, none, none, none, none] [.int s0] := by
  unfold wpI_X8_timeAtGate_47 at h
  exact g_ireturn C hQ dX8_timeAtGate_47 h
def wpI_X8_timeAtGate (x1 x2 : Int32) (σ : St) (post : Int32 → St → Prop) : Prop := vp_in (x1 * 2) 12 ∧ (let y1 : Int32 := (σ.2 108 (Int32.toNatClampNeg (x1 * 2))); vp_in ((x1 * 2) + 1) 12 ∧ (let y2 : Int32 := (σ.2 108 (Int32.toNatClampNeg ((x1 * 2) + 1))); ((y1 = 100 → ((y2 = 100 → wpI_X8_timeAtGate_47 (-1000000) σ post) ∧ (¬ y2 = 100 → wpI_X8_timeAtGate_47 (x2 + y2) σ post))) ∧ (¬ y1 = 100 → post (x2 + y1) σ))))
theorem kI_X8_timeAtGate {X : Kx} {l : Launch} {E : Ev} {a : Nat → Nat} {post : Int32 → St → Prop} (C : Cx X l E RX8 cX8_timeAtGate rmI_X8_timeAtGate (some .int)) (hQ : QI X (wI E a) post) (x1 x2 : Int32) (σ : St) (h : wpI_X8_timeAtGate x1 x2 σ post) : G X (wI E a) σ 0 [some (.ref (a 100)), some (.int x1), some (.int x2), none, none] [] := by
  unfold wpI_X8_timeAtGate at h
  refine g_aload_0 C dX8_timeAtGate_0 rfl ?_
  refine fgI_X8_37 C dX8_timeAtGate_1 ?_
  refine g_iload_1 C dX8_timeAtGate_4 rfl ?_
  refine g_iconst_2 C dX8_timeAtGate_5 ?_
  refine g_imul C dX8_timeAtGate_6 ?_
  obtain ⟨q, h⟩ := h
  refine alI_108 C q dX8_timeAtGate_7 ?_
  refine g_istore_3 C dX8_timeAtGate_8 (Nat.le_of_ble_eq_true rfl) ?_
  refine g_aload_0 C dX8_timeAtGate_9 rfl ?_
  refine fgI_X8_37 C dX8_timeAtGate_10 ?_
  refine g_iload_1 C dX8_timeAtGate_13 rfl ?_
  refine g_iconst_2 C dX8_timeAtGate_14 ?_
  refine g_imul C dX8_timeAtGate_15 ?_
  refine g_iconst_1 C dX8_timeAtGate_16 ?_
  refine g_iadd C dX8_timeAtGate_17 ?_
  obtain ⟨q, h⟩ := h
  refine alI_108 C q dX8_timeAtGate_18 ?_
  refine g_istore C dX8_timeAtGate_19 (Nat.le_of_ble_eq_true rfl) ?_
  refine g_iload_3 C dX8_timeAtGate_21 rfl ?_
  refine g_bipush C (v := 100) (by decide) dX8_timeAtGate_22 ?_
  refine g_icmp_eq C 31 dX8_timeAtGate_24 (by decide) (fun q => ?_) (fun q => ?_)
  · have h := h.1 q
    refine g_iload C dX8_timeAtGate_31 rfl ?_
    refine g_bipush C (v := 100) (by decide) dX8_timeAtGate_33 ?_
    refine g_icmp_eq C 45 dX8_timeAtGate_35 (by decide) (fun q => ?_) (fun q => ?_)
    · have h := h.1 q
      refine g_ldc C lc_X8_53 dX8_timeAtGate_45 ?_
      exact g_wk (kI_X8_timeAtGate_47 C hQ _ _ h) (trivial)
    · have h := h.2 q
      refine g_iload_2 C dX8_timeAtGate_38 rfl ?_
      refine g_iload C dX8_timeAtGate_39 rfl ?_
      refine g_iadd C dX8_timeAtGate_41 ?_
      refine g_goto C 47 dX8_timeAtGate_42 (by decide) ?_
      exact g_wk (kI_X8_timeAtGate_47 C hQ _ _ h) (trivial)
  · have h := h.2 q
    refine g_iload_2 C dX8_timeAtGate_27 rfl ?_
    refine g_iload_3 C dX8_timeAtGate_28 rfl ?_
    refine g_iadd C dX8_timeAtGate_29 ?_
    exact g_ireturn C hQ dX8_timeAtGate_30 h
theorem cI_X8_timeAtGate {l : Launch} {E : Ev} {a : Nat → Nat} {x1 x2 : Int32} {σ : St} {post : Int32 → St → Prop} (h : wpI_X8_timeAtGate x1 x2 σ post) : CI l E (wI E a) yX8_timeAtGate cX8_timeAtGate 5 .int rmI_X8_timeAtGate [.ref (a 100), .int x1, .int x2] σ post := met_i (by decide) rfl (Nat.le_of_ble_eq_true rfl) rfl (fun X C hQ => kI_X8_timeAtGate C hQ _ _ _ h)
theorem mm_X8_54 : Cond.methodLink RX8 54 Lib.Math.abs.name ∈ UW := by decide +kernel
theorem mwI_abs : Cond.static Lib.Math.abs.name ∈ UW ∧ Cond.initialized "java/lang/Math" ∈ UW ∧ Cond.code Lib.Math.abs.name Lib.Math.abs.code 1 (some .int) ∈ UW := ⟨by decide +kernel, by decide +kernel, by decide +kernel⟩
/-! IceRun$Track.doubleAtGate(I)I -/
abbrev rmI_X8_doubleAtGate : Room := { frames := 1, cells := 0, slots := 0, locals := 13 }
def wpI_X8_doubleAtGate_42 (s0 : Int32) (σ : St) (post : Int32 → St → Prop) : Prop := post s0 σ
theorem kI_X8_doubleAtGate_42 {X : Kx} {l : Launch} {E : Ev} {a : Nat → Nat} {post : Int32 → St → Prop} (C : Cx X l E RX8 cX8_doubleAtGate rmI_X8_doubleAtGate (some .int)) (hQ : QI X (wI E a) post) (s0 : Int32) (σ : St) (h : wpI_X8_doubleAtGate_42  s0 σ post) : G X (wI E a) σ 42 [none, none, none, none] [.int s0] := by
  unfold wpI_X8_doubleAtGate_42 at h
  exact g_ireturn C hQ dX8_doubleAtGate_42 h
def wpI_X8_doubleAtGate_32 (σ : St) (post : Int32 → St → Prop) : Prop := wpI_X8_doubleAtGate_42 0 σ post
theorem kI_X8_doubleAtGate_32 {X : Kx} {l : Launch} {E : Ev} {a : Nat → Nat} {post : Int32 → St → Prop} (C : Cx X l E RX8 cX8_doubleAtGate rmI_X8_doubleAtGate (some .int)) (hQ : QI X (wI E a) post) (σ : St) (h : wpI_X8_doubleAtGate_32   σ post) : G X (wI E a) σ 32 [none, none, none, none] [] := by
  unfold wpI_X8_doubleAtGate_32 at h
  refine g_iconst_0 C dX8_doubleAtGate_32 ?_
  refine g_goto C 42 dX8_doubleAtGate_33 (by decide) ?_
  exact g_wk (kI_X8_doubleAtGate_42 C hQ _ _ h) (trivial)
def wpI_X8_doubleAtGate (x1 : Int32) (σ : St) (post : Int32 → St → Prop) : Prop := vp_in (x1 * 2) 12 ∧ (let y1 : Int32 := (σ.2 108 (Int32.toNatClampNeg (x1 * 2))); vp_in ((x1 * 2) + 1) 12 ∧ (let y2 : Int32 := (σ.2 108 (Int32.toNatClampNeg ((x1 * 2) + 1))); ((y1 = 100 → wpI_X8_doubleAtGate_32 σ post) ∧ (¬ y1 = 100 → ((¬ y2 = 100 → let y3 : Int32 := (if 0 ≤ (y1 - y2) then (y1 - y2) else 0 - (y1 - y2)); wpI_X8_doubleAtGate_42 y3 σ post) ∧ (y2 = 100 → wpI_X8_doubleAtGate_32 σ post))))))
theorem kI_X8_doubleAtGate {X : Kx} {l : Launch} {E : Ev} {a : Nat → Nat} {post : Int32 → St → Prop} (C : Cx X l E RX8 cX8_doubleAtGate rmI_X8_doubleAtGate (some .int)) (hQ : QI X (wI E a) post) (x1 : Int32) (σ : St) (h : wpI_X8_doubleAtGate x1 σ post) : G X (wI E a) σ 0 [some (.ref (a 100)), some (.int x1), none, none] [] := by
  unfold wpI_X8_doubleAtGate at h
  refine g_aload_0 C dX8_doubleAtGate_0 rfl ?_
  refine fgI_X8_37 C dX8_doubleAtGate_1 ?_
  refine g_iload_1 C dX8_doubleAtGate_4 rfl ?_
  refine g_iconst_2 C dX8_doubleAtGate_5 ?_
  refine g_imul C dX8_doubleAtGate_6 ?_
  obtain ⟨q, h⟩ := h
  refine alI_108 C q dX8_doubleAtGate_7 ?_
  refine g_istore_2 C dX8_doubleAtGate_8 (Nat.le_of_ble_eq_true rfl) ?_
  refine g_aload_0 C dX8_doubleAtGate_9 rfl ?_
  refine fgI_X8_37 C dX8_doubleAtGate_10 ?_
  refine g_iload_1 C dX8_doubleAtGate_13 rfl ?_
  refine g_iconst_2 C dX8_doubleAtGate_14 ?_
  refine g_imul C dX8_doubleAtGate_15 ?_
  refine g_iconst_1 C dX8_doubleAtGate_16 ?_
  refine g_iadd C dX8_doubleAtGate_17 ?_
  obtain ⟨q, h⟩ := h
  refine alI_108 C q dX8_doubleAtGate_18 ?_
  refine g_istore_3 C dX8_doubleAtGate_19 (Nat.le_of_ble_eq_true rfl) ?_
  refine g_iload_2 C dX8_doubleAtGate_20 rfl ?_
  refine g_bipush C (v := 100) (by decide) dX8_doubleAtGate_21 ?_
  refine g_icmp_eq C 32 dX8_doubleAtGate_23 (by decide) (fun q => ?_) (fun q => ?_)
  · have h := h.1 q
    exact g_wk (kI_X8_doubleAtGate_32 C hQ _ h) (trivial)
  · have h := h.2 q
    refine g_iload_3 C dX8_doubleAtGate_26 rfl ?_
    refine g_bipush C (v := 100) (by decide) dX8_doubleAtGate_27 ?_
    refine g_icmp_ne C 36 dX8_doubleAtGate_29 (by decide) (fun q => ?_) (fun q => ?_)
    · have h := h.1 q
      refine g_iload_2 C dX8_doubleAtGate_36 rfl ?_
      refine g_iload_3 C dX8_doubleAtGate_37 rfl ?_
      refine g_isub C dX8_doubleAtGate_38 ?_
      refine g_mabs C mm_X8_54 mwI_abs.1 mwI_abs.2.1 mwI_abs.2.2 ⟨Nat.le_of_ble_eq_true rfl, Nat.le_of_ble_eq_true rfl⟩ dX8_doubleAtGate_39 ?_
      exact g_wk (kI_X8_doubleAtGate_42 C hQ _ _ h) (trivial)
    · have h := h.2 q
      exact g_wk (kI_X8_doubleAtGate_32 C hQ _ h) (trivial)
theorem cI_X8_doubleAtGate {l : Launch} {E : Ev} {a : Nat → Nat} {x1 : Int32} {σ : St} {post : Int32 → St → Prop} (h : wpI_X8_doubleAtGate x1 σ post) : CI l E (wI E a) yX8_doubleAtGate cX8_doubleAtGate 4 .int rmI_X8_doubleAtGate [.ref (a 100), .int x1] σ post := met_i (by decide) rfl (Nat.le_of_ble_eq_true rfl) rfl (fun X C hQ => kI_X8_doubleAtGate C hQ _ _ h)
theorem csI_X10_62 {X : Kx} {l : Launch} {E : Ev} {a : Nat → Nat} {σ : St} {cc : ByteArray} {rm : Room} {ret : Option FieldType} {pc : Nat} {lv : List (Option Value)} {rest : List Value} {x0 x1 x2 : Int32} {post : Int32 → St → Prop} (C : Cx X l E RX10 cc rm ret) (h : wpI_X10_within x0 x1 x2 σ post) (hR : 0 + 1 ≤ rm.frames ∧ 8 + (3 + 11) + 0 ≤ rm.locals) (hW : (rest.map fun v => v.category).sum ≤ 8) (d : decode cc pc = .ok (.invokestatic 62, 3)) (k : ∀ (r : Int32) (u : St), post r u → G X (wI E a) u (pc + 3) lv (.int r :: rest)) : G X (wI E a) σ pc lv (.int x2 :: .int x1 :: .int x0 :: rest) := g_callSi C 3 (As := [.int x0, .int x1, .int x2]) (rest := rest) (by decide +kernel) (by decide +kernel) (by decide +kernel) (by decide +kernel) (by decide +kernel) (cI_X10_within h) ⟨rfl, rfl⟩ hR rfl rfl hW d k
theorem fgI_X10_47 {X : Kx} {l : Launch} {E : Ev} {a : Nat → Nat} {σ : St} {cc : ByteArray} {rm : Room} {ret : Option FieldType} {pc : Nat} {lv : List (Option Value)} {st : List Value} (C : Cx X l E RX10 cc rm ret) (d : decode cc pc = .ok (.getfield 47, 3)) (k : G X (wI E a) σ (pc + 3) lv (.ref (a 700) :: st)) : G X (wI E a) σ pc lv (.ref (a 0) :: st) := g_get C (q0 := 0) (ci := 9) (k := 5) rfl rfl inU_X10 (by decide) (by decide +kernel) rfl d k
theorem fgI_X10_66 {X : Kx} {l : Launch} {E : Ev} {a : Nat → Nat} {σ : St} {cc : ByteArray} {rm : Room} {ret : Option FieldType} {pc : Nat} {lv : List (Option Value)} {st : List Value} (C : Cx X l E RX10 cc rm ret) (d : decode cc pc = .ok (.getfield 66, 3)) (k : G X (wI E a) σ (pc + 3) lv (.int (σ.1 700) :: st)) : G X (wI E a) σ pc lv (.ref (a 700) :: st) := g_getN C (host := "IceRun") (q0 := 29) (ci := 2) (k := 0) rfl rfl inU_X2 (by decide) (by decide +kernel) rfl d k
theorem fgI_X10_10 {X : Kx} {l : Launch} {E : Ev} {a : Nat → Nat} {σ : St} {cc : ByteArray} {rm : Room} {ret : Option FieldType} {pc : Nat} {lv : List (Option Value)} {st : List Value} (C : Cx X l E RX10 cc rm ret) (d : decode cc pc = .ok (.getfield 10, 3)) (k : G X (wI E a) σ (pc + 3) lv (.ref (a 100) :: st)) : G X (wI E a) σ pc lv (.ref (a 0) :: st) := g_get C (q0 := 0) (ci := 9) (k := 0) rfl rfl inU_X10 (by decide) (by decide +kernel) rfl d k
theorem csI_X10_70 {X : Kx} {l : Launch} {E : Ev} {a : Nat → Nat} {σ : St} {cc : ByteArray} {rm : Room} {ret : Option FieldType} {pc : Nat} {lv : List (Option Value)} {rest : List Value} {x0 x1 : Int32} {post : St → Prop} (C : Cx X l E RX10 cc rm ret) (h : wpI_X8_makeAnew x0 x1 σ post) (hR : 0 + 1 ≤ rm.frames ∧ 8 + (4 + 11) + 0 ≤ rm.locals) (hW : (rest.map fun v => v.category).sum ≤ 8) (d : decode cc pc = .ok (.invokevirtual 70, 3)) (k : ∀ u : St, post u → G X (wI E a) u (pc + 3) lv rest) : G X (wI E a) σ pc lv (.int x1 :: .int x0 :: .ref (a 100) :: rest) := g_callVv C 2 (As := [.int x0, .int x1]) (rest := rest) (Cn := RX8) (T := TX8) (N := 9) (q0 := 1) (ci := 8) (by decide +kernel) (by decide +kernel) (by decide +kernel) (by decide +kernel) (by decide +kernel) (by decide +kernel) rfl rfl (cI_X8_makeAnew h) ⟨rfl, rfl⟩ hR rfl rfl hW d k
/-! IceRun.track(II)Z -/
abbrev rmI_X10_track : Room := { frames := 1, cells := 0, slots := 0, locals := 23 }
def wpI_X10_track_30 (σ : St) (post : Int32 → St → Prop) : Prop := post 0 σ
theorem kI_X10_track_30 {X : Kx} {l : Launch} {E : Ev} {a : Nat → Nat} {post : Int32 → St → Prop} (C : Cx X l E RX10 cX10_track rmI_X10_track (some .boolean)) (hQ : QI X (wI E a) post) (σ : St) (h : wpI_X10_track_30   σ post) : G X (wI E a) σ 30 [none, none, none] [] := by
  unfold wpI_X10_track_30 at h
  refine g_iconst_0 C dX10_track_30 ?_
  exact g_zreturn C hQ dX10_track_31 (Or.inl rfl) h
def wpI_X10_track (x1 x2 : Int32) (σ : St) (post : Int32 → St → Prop) : Prop := wpI_X10_within x1 5 40 σ (fun r2 σ1 => ((r2 = 0 → wpI_X10_track_30 σ1 post) ∧ (¬ r2 = 0 → wpI_X10_within x2 2 6 σ1 (fun r4 σ3 => ((r4 = 0 → wpI_X10_track_30 σ3 post) ∧ (¬ r4 = 0 → (((σ3.1 700) = 0 → wpI_X8_makeAnew x1 x2 σ3 (fun σ5 => post 1 σ5)) ∧ (¬ (σ3.1 700) = 0 → wpI_X10_track_30 σ3 post))))))))
theorem kI_X10_track {X : Kx} {l : Launch} {E : Ev} {a : Nat → Nat} {post : Int32 → St → Prop} (C : Cx X l E RX10 cX10_track rmI_X10_track (some .boolean)) (hQ : QI X (wI E a) post) (x1 x2 : Int32) (σ : St) (h : wpI_X10_track x1 x2 σ post) : G X (wI E a) σ 0 [some (.ref (a 0)), some (.int x1), some (.int x2)] [] := by
  unfold wpI_X10_track at h
  refine g_iload_1 C dX10_track_0 rfl ?_
  refine g_iconst_5 C dX10_track_1 ?_
  refine g_bipush C (v := 40) (by decide) dX10_track_2 ?_
  refine csI_X10_62 C h ⟨Nat.le_of_ble_eq_true rfl, Nat.le_of_ble_eq_true rfl⟩ (Nat.le_of_ble_eq_true rfl) dX10_track_4 (fun _ _ h => ?_)
  refine g_if_eq C 30 dX10_track_7 (by decide) (fun q => ?_) (fun q => ?_)
  · have h := h.1 q
    exact g_wk (kI_X10_track_30 C hQ _ h) (trivial)
  · have h := h.2 q
    refine g_iload_2 C dX10_track_10 rfl ?_
    refine g_iconst_2 C dX10_track_11 ?_
    refine g_bipush C (v := 6) (by decide) dX10_track_12 ?_
    refine csI_X10_62 C h ⟨Nat.le_of_ble_eq_true rfl, Nat.le_of_ble_eq_true rfl⟩ (Nat.le_of_ble_eq_true rfl) dX10_track_14 (fun _ _ h => ?_)
    refine g_if_eq C 30 dX10_track_17 (by decide) (fun q => ?_) (fun q => ?_)
    · have h := h.1 q
      exact g_wk (kI_X10_track_30 C hQ _ h) (trivial)
    · have h := h.2 q
      refine g_aload_0 C dX10_track_20 rfl ?_
      refine fgI_X10_47 C dX10_track_21 ?_
      refine fgI_X10_66 C dX10_track_24 ?_
      refine g_if_eq C 32 dX10_track_27 (by decide) (fun q => ?_) (fun q => ?_)
      · have h := h.1 q
        refine g_aload_0 C dX10_track_32 rfl ?_
        refine fgI_X10_10 C dX10_track_33 ?_
        refine g_iload_1 C dX10_track_36 rfl ?_
        refine g_iload_2 C dX10_track_37 rfl ?_
        refine csI_X10_70 C h ⟨Nat.le_of_ble_eq_true rfl, Nat.le_of_ble_eq_true rfl⟩ (Nat.le_of_ble_eq_true rfl) dX10_track_38 (fun _ h => ?_)
        refine g_iconst_1 C dX10_track_41 ?_
        exact g_zreturn C hQ dX10_track_42 (Or.inr rfl) h
      · have h := h.2 q
        exact g_wk (kI_X10_track_30 C hQ _ h) (trivial)
theorem cI_X10_track {l : Launch} {E : Ev} {a : Nat → Nat} {x1 x2 : Int32} {σ : St} {post : Int32 → St → Prop} (h : wpI_X10_track x1 x2 σ post) : CI l E (wI E a) yX10_track cX10_track 3 .boolean rmI_X10_track [.ref (a 0), .int x1, .int x2] σ post := met_i (by decide) rfl (Nat.le_of_ble_eq_true rfl) rfl (fun X C hQ => kI_X10_track C hQ _ _ _ h)
theorem csI_X10_74 {X : Kx} {l : Launch} {E : Ev} {a : Nat → Nat} {σ : St} {cc : ByteArray} {rm : Room} {ret : Option FieldType} {pc : Nat} {lv : List (Option Value)} {rest : List Value} {x0 : Int32} {post : Int32 → St → Prop} (C : Cx X l E RX10 cc rm ret) (h : wpI_X8_hasCell x0 σ post) (hR : 1 + 1 ≤ rm.frames ∧ 8 + (2 + 11) + 22 ≤ rm.locals) (hW : (rest.map fun v => v.category).sum ≤ 8) (d : decode cc pc = .ok (.invokevirtual 74, 3)) (k : ∀ (r : Int32) (u : St), post r u → G X (wI E a) u (pc + 3) lv (.int r :: rest)) : G X (wI E a) σ pc lv (.int x0 :: .ref (a 100) :: rest) := g_callVi C 1 (As := [.int x0]) (rest := rest) (Cn := RX8) (T := TX8) (N := 9) (q0 := 1) (ci := 8) (by decide +kernel) (by decide +kernel) (by decide +kernel) (by decide +kernel) (by decide +kernel) (by decide +kernel) rfl rfl (cI_X8_hasCell h) ⟨rfl, rfl⟩ hR rfl rfl hW d k
theorem fgI_X10_78 {X : Kx} {l : Launch} {E : Ev} {a : Nat → Nat} {σ : St} {cc : ByteArray} {rm : Room} {ret : Option FieldType} {pc : Nat} {lv : List (Option Value)} {st : List Value} (C : Cx X l E RX10 cc rm ret) (d : decode cc pc = .ok (.getfield 78, 3)) (k : G X (wI E a) σ (pc + 3) lv (.int (σ.1 702) :: st)) : G X (wI E a) σ pc lv (.ref (a 700) :: st) := g_getN C (host := "IceRun") (q0 := 29) (ci := 2) (k := 2) rfl rfl inU_X2 (by decide) (by decide +kernel) rfl d k
theorem csI_X10_81 {X : Kx} {l : Launch} {E : Ev} {a : Nat → Nat} {σ : St} {cc : ByteArray} {rm : Room} {ret : Option FieldType} {pc : Nat} {lv : List (Option Value)} {rest : List Value} {x0 x1 x2 x3 : Int32} {post : St → Prop} (C : Cx X l E RX10 cc rm ret) (h : wpI_X8_shape x0 x1 x2 x3 σ post) (hR : 0 + 1 ≤ rm.frames ∧ 8 + (5 + 11) + 0 ≤ rm.locals) (hW : (rest.map fun v => v.category).sum ≤ 8) (d : decode cc pc = .ok (.invokevirtual 81, 3)) (k : ∀ u : St, post u → G X (wI E a) u (pc + 3) lv rest) : G X (wI E a) σ pc lv (.int x3 :: .int x2 :: .int x1 :: .int x0 :: .ref (a 100) :: rest) := g_callVv C 4 (As := [.int x0, .int x1, .int x2, .int x3]) (rest := rest) (Cn := RX8) (T := TX8) (N := 9) (q0 := 1) (ci := 8) (by decide +kernel) (by decide +kernel) (by decide +kernel) (by decide +kernel) (by decide +kernel) (by decide +kernel) rfl rfl (cI_X8_shape h) ⟨rfl, rfl⟩ hR rfl rfl hW d k
/-! IceRun.bend(IIII)Z -/
abbrev rmI_X10_bend : Room := { frames := 2, cells := 0, slots := 0, locals := 43 }
def wpI_X10_bend_67 (σ : St) (post : Int32 → St → Prop) : Prop := post 0 σ
theorem kI_X10_bend_67 {X : Kx} {l : Launch} {E : Ev} {a : Nat → Nat} {post : Int32 → St → Prop} (C : Cx X l E RX10 cX10_bend rmI_X10_bend (some .boolean)) (hQ : QI X (wI E a) post) (σ : St) (h : wpI_X10_bend_67   σ post) : G X (wI E a) σ 67 [none, none, none, none, none, none] [] := by
  unfold wpI_X10_bend_67 at h
  refine g_iconst_0 C dX10_bend_67 ?_
  exact g_zreturn C hQ dX10_bend_68 (Or.inl rfl) h
def wpI_X10_bend_38 (x1 x2 x3 x4 s0 : Int32) (σ : St) (post : Int32 → St → Prop) : Prop := ((s0 = 0 → wpI_X10_bend_67 σ post) ∧ (¬ s0 = 0 → wpI_X8_hasCell x1 σ (fun r2 σ1 => ((r2 = 0 → wpI_X10_bend_67 σ1 post) ∧ (¬ r2 = 0 → (((σ1.1 702) = (-1) → wpI_X8_shape x1 x2 x3 x4 σ1 (fun σ3 => post 1 σ3)) ∧ (¬ (σ1.1 702) = (-1) → wpI_X10_bend_67 σ1 post)))))))
theorem kI_X10_bend_38 {X : Kx} {l : Launch} {E : Ev} {a : Nat → Nat} {post : Int32 → St → Prop} (C : Cx X l E RX10 cX10_bend rmI_X10_bend (some .boolean)) (hQ : QI X (wI E a) post) (x1 x2 x3 x4 s0 : Int32) (σ : St) (h : wpI_X10_bend_38  x1 x2 x3 x4 s0 σ post) : G X (wI E a) σ 38 [some (.ref (a 0)), some (.int x1), some (.int x2), some (.int x3), some (.int x4), none] [.int s0] := by
  unfold wpI_X10_bend_38 at h
  refine g_istore C dX10_bend_38 (Nat.le_of_ble_eq_true rfl) ?_
  refine g_iload C dX10_bend_40 rfl ?_
  refine g_if_eq C 67 dX10_bend_42 (by decide) (fun q => ?_) (fun q => ?_)
  · have h := h.1 q
    exact g_wk (kI_X10_bend_67 C hQ _ h) (trivial)
  · have h := h.2 q
    refine g_aload_0 C dX10_bend_45 rfl ?_
    refine fgI_X10_10 C dX10_bend_46 ?_
    refine g_iload_1 C dX10_bend_49 rfl ?_
    refine csI_X10_74 C h ⟨Nat.le_of_ble_eq_true rfl, Nat.le_of_ble_eq_true rfl⟩ (Nat.le_of_ble_eq_true rfl) dX10_bend_50 (fun _ _ h => ?_)
    refine g_if_eq C 67 dX10_bend_53 (by decide) (fun q => ?_) (fun q => ?_)
    · have h := h.1 q
      exact g_wk (kI_X10_bend_67 C hQ _ h) (trivial)
    · have h := h.2 q
      refine g_aload_0 C dX10_bend_56 rfl ?_
      refine fgI_X10_47 C dX10_bend_57 ?_
      refine fgI_X10_78 C dX10_bend_60 ?_
      refine g_iconst_m1 C dX10_bend_63 ?_
      refine g_icmp_eq C 69 dX10_bend_64 (by decide) (fun q => ?_) (fun q => ?_)
      · have h := h.1 q
        refine g_aload_0 C dX10_bend_69 rfl ?_
        refine fgI_X10_10 C dX10_bend_70 ?_
        refine g_iload_1 C dX10_bend_73 rfl ?_
        refine g_iload_2 C dX10_bend_74 rfl ?_
        refine g_iload_3 C dX10_bend_75 rfl ?_
        refine g_iload C dX10_bend_76 rfl ?_
        refine csI_X10_81 C h ⟨Nat.le_of_ble_eq_true rfl, Nat.le_of_ble_eq_true rfl⟩ (Nat.le_of_ble_eq_true rfl) dX10_bend_78 (fun _ h => ?_)
        refine g_iconst_1 C dX10_bend_81 ?_
        exact g_zreturn C hQ dX10_bend_82 (Or.inr rfl) h
      · have h := h.2 q
        exact g_wk (kI_X10_bend_67 C hQ _ h) (trivial)
def wpI_X10_bend_37 (x1 x2 x3 x4 : Int32) (σ : St) (post : Int32 → St → Prop) : Prop := wpI_X10_bend_38 x1 x2 x3 x4 0 σ post
theorem kI_X10_bend_37 {X : Kx} {l : Launch} {E : Ev} {a : Nat → Nat} {post : Int32 → St → Prop} (C : Cx X l E RX10 cX10_bend rmI_X10_bend (some .boolean)) (hQ : QI X (wI E a) post) (x1 x2 x3 x4 : Int32) (σ : St) (h : wpI_X10_bend_37  x1 x2 x3 x4 σ post) : G X (wI E a) σ 37 [some (.ref (a 0)), some (.int x1), some (.int x2), some (.int x3), some (.int x4), none] [] := by
  unfold wpI_X10_bend_37 at h
  refine g_iconst_0 C dX10_bend_37 ?_
  exact g_wk (kI_X10_bend_38 C hQ _ _ _ _ _ _ h) (And.intro rfl (And.intro rfl (And.intro rfl (And.intro rfl (And.intro rfl (trivial))))))
def wpI_X10_bend (x1 x2 x3 x4 : Int32) (σ : St) (post : Int32 → St → Prop) : Prop := wpI_X10_within x2 50 500 σ (fun r2 σ1 => ((r2 = 0 → wpI_X10_bend_37 x1 x2 x3 x4 σ1 post) ∧ (¬ r2 = 0 → wpI_X10_within x3 0 9 σ1 (fun r4 σ3 => ((r4 = 0 → wpI_X10_bend_37 x1 x2 x3 x4 σ3 post) ∧ (¬ r4 = 0 → wpI_X10_within x4 0 9 σ3 (fun r6 σ5 => ((r6 = 0 → wpI_X10_bend_37 x1 x2 x3 x4 σ5 post) ∧ (¬ r6 = 0 → wpI_X10_bend_38 x1 x2 x3 x4 1 σ5 post)))))))))
theorem kI_X10_bend {X : Kx} {l : Launch} {E : Ev} {a : Nat → Nat} {post : Int32 → St → Prop} (C : Cx X l E RX10 cX10_bend rmI_X10_bend (some .boolean)) (hQ : QI X (wI E a) post) (x1 x2 x3 x4 : Int32) (σ : St) (h : wpI_X10_bend x1 x2 x3 x4 σ post) : G X (wI E a) σ 0 [some (.ref (a 0)), some (.int x1), some (.int x2), some (.int x3), some (.int x4), none] [] := by
  unfold wpI_X10_bend at h
  refine g_iload_2 C dX10_bend_0 rfl ?_
  refine g_bipush C (v := 50) (by decide) dX10_bend_1 ?_
  refine g_sipush C (v := 500) (by decide) dX10_bend_3 ?_
  refine csI_X10_62 C h ⟨Nat.le_of_ble_eq_true rfl, Nat.le_of_ble_eq_true rfl⟩ (Nat.le_of_ble_eq_true rfl) dX10_bend_6 (fun _ _ h => ?_)
  refine g_if_eq C 37 dX10_bend_9 (by decide) (fun q => ?_) (fun q => ?_)
  · have h := h.1 q
    exact g_wk (kI_X10_bend_37 C hQ _ _ _ _ _ h) (And.intro rfl (And.intro rfl (And.intro rfl (And.intro rfl (And.intro rfl (trivial))))))
  · have h := h.2 q
    refine g_iload_3 C dX10_bend_12 rfl ?_
    refine g_iconst_0 C dX10_bend_13 ?_
    refine g_bipush C (v := 9) (by decide) dX10_bend_14 ?_
    refine csI_X10_62 C h ⟨Nat.le_of_ble_eq_true rfl, Nat.le_of_ble_eq_true rfl⟩ (Nat.le_of_ble_eq_true rfl) dX10_bend_16 (fun _ _ h => ?_)
    refine g_if_eq C 37 dX10_bend_19 (by decide) (fun q => ?_) (fun q => ?_)
    · have h := h.1 q
      exact g_wk (kI_X10_bend_37 C hQ _ _ _ _ _ h) (And.intro rfl (And.intro rfl (And.intro rfl (And.intro rfl (And.intro rfl (trivial))))))
    · have h := h.2 q
      refine g_iload C dX10_bend_22 rfl ?_
      refine g_iconst_0 C dX10_bend_24 ?_
      refine g_bipush C (v := 9) (by decide) dX10_bend_25 ?_
      refine csI_X10_62 C h ⟨Nat.le_of_ble_eq_true rfl, Nat.le_of_ble_eq_true rfl⟩ (Nat.le_of_ble_eq_true rfl) dX10_bend_27 (fun _ _ h => ?_)
      refine g_if_eq C 37 dX10_bend_30 (by decide) (fun q => ?_) (fun q => ?_)
      · have h := h.1 q
        exact g_wk (kI_X10_bend_37 C hQ _ _ _ _ _ h) (And.intro rfl (And.intro rfl (And.intro rfl (And.intro rfl (And.intro rfl (trivial))))))
      · have h := h.2 q
        refine g_iconst_1 C dX10_bend_33 ?_
        refine g_goto C 38 dX10_bend_34 (by decide) ?_
        exact g_wk (kI_X10_bend_38 C hQ _ _ _ _ _ _ h) (And.intro rfl (And.intro rfl (And.intro rfl (And.intro rfl (And.intro rfl (trivial))))))
theorem cI_X10_bend {l : Launch} {E : Ev} {a : Nat → Nat} {x1 x2 x3 x4 : Int32} {σ : St} {post : Int32 → St → Prop} (h : wpI_X10_bend x1 x2 x3 x4 σ post) : CI l E (wI E a) yX10_bend cX10_bend 6 .boolean rmI_X10_bend [.ref (a 0), .int x1, .int x2, .int x3, .int x4] σ post := met_i (by decide) rfl (Nat.le_of_ble_eq_true rfl) rfl (fun X C hQ => kI_X10_bend C hQ _ _ _ _ _ h)
theorem fgI_X10_19 {X : Kx} {l : Launch} {E : Ev} {a : Nat → Nat} {σ : St} {cc : ByteArray} {rm : Room} {ret : Option FieldType} {pc : Nat} {lv : List (Option Value)} {st : List Value} (C : Cx X l E RX10 cc rm ret) (d : decode cc pc = .ok (.getfield 19, 3)) (k : G X (wI E a) σ (pc + 3) lv (.ref (a 200) :: st)) : G X (wI E a) σ pc lv (.ref (a 0) :: st) := g_get C (q0 := 0) (ci := 9) (k := 1) rfl rfl inU_X10 (by decide) (by decide +kernel) rfl d k
theorem csI_X10_85 {X : Kx} {l : Launch} {E : Ev} {a : Nat → Nat} {σ : St} {cc : ByteArray} {rm : Room} {ret : Option FieldType} {pc : Nat} {lv : List (Option Value)} {rest : List Value} {x0 x1 x2 x3 x4 : Int32} {post : St → Prop} (C : Cx X l E RX10 cc rm ret) (h : wpI_X3_makeRow x0 x1 x2 x3 x4 σ post) (hR : 1 + 1 ≤ rm.frames ∧ 8 + (7 + 11) + 21 ≤ rm.locals) (hW : (rest.map fun v => v.category).sum ≤ 8) (d : decode cc pc = .ok (.invokevirtual 85, 3)) (k : ∀ u : St, post u → G X (wI E a) u (pc + 3) lv rest) : G X (wI E a) σ pc lv (.int x4 :: .int x3 :: .int x2 :: .int x1 :: .int x0 :: .ref (a 200) :: rest) := g_callVv C 5 (As := [.int x0, .int x1, .int x2, .int x3, .int x4]) (rest := rest) (Cn := RX3) (T := TX3) (N := 3) (q0 := 9) (ci := 3) (by decide +kernel) (by decide +kernel) (by decide +kernel) (by decide +kernel) (by decide +kernel) (by decide +kernel) rfl rfl (cI_X3_makeRow h) ⟨rfl, rfl⟩ hR rfl rfl hW d k
/-! IceRun.runners(IIIII)Z -/
abbrev rmI_X10_runners : Room := { frames := 2, cells := 0, slots := 0, locals := 47 }
def wpI_X10_runners_18 (σ : St) (post : Int32 → St → Prop) : Prop := post 0 σ
theorem kI_X10_runners_18 {X : Kx} {l : Launch} {E : Ev} {a : Nat → Nat} {post : Int32 → St → Prop} (C : Cx X l E RX10 cX10_runners rmI_X10_runners (some .boolean)) (hQ : QI X (wI E a) post) (σ : St) (h : wpI_X10_runners_18   σ post) : G X (wI E a) σ 18 [none, none, none, none, none, none] [] := by
  unfold wpI_X10_runners_18 at h
  refine g_iconst_0 C dX10_runners_18 ?_
  exact g_zreturn C hQ dX10_runners_19 (Or.inl rfl) h
def wpI_X10_runners_35 (σ : St) (post : Int32 → St → Prop) : Prop := post 0 σ
theorem kI_X10_runners_35 {X : Kx} {l : Launch} {E : Ev} {a : Nat → Nat} {post : Int32 → St → Prop} (C : Cx X l E RX10 cX10_runners rmI_X10_runners (some .boolean)) (hQ : QI X (wI E a) post) (σ : St) (h : wpI_X10_runners_35   σ post) : G X (wI E a) σ 35 [none, none, none, none, none, none] [] := by
  unfold wpI_X10_runners_35 at h
  refine g_iconst_0 C dX10_runners_35 ?_
  exact g_zreturn C hQ dX10_runners_36 (Or.inl rfl) h
def wpI_X10_runners_37 (x1 x2 x3 x4 x5 : Int32) (σ : St) (post : Int32 → St → Prop) : Prop := wpI_X3_makeRow x1 x2 x3 x4 x5 σ (fun σ1 => post 1 σ1)
theorem kI_X10_runners_37 {X : Kx} {l : Launch} {E : Ev} {a : Nat → Nat} {post : Int32 → St → Prop} (C : Cx X l E RX10 cX10_runners rmI_X10_runners (some .boolean)) (hQ : QI X (wI E a) post) (x1 x2 x3 x4 x5 : Int32) (σ : St) (h : wpI_X10_runners_37  x1 x2 x3 x4 x5 σ post) : G X (wI E a) σ 37 [some (.ref (a 0)), some (.int x1), some (.int x2), some (.int x3), some (.int x4), some (.int x5)] [] := by
  unfold wpI_X10_runners_37 at h
  refine g_aload_0 C dX10_runners_37 rfl ?_
  refine fgI_X10_19 C dX10_runners_38 ?_
  refine g_iload_1 C dX10_runners_41 rfl ?_
  refine g_iload_2 C dX10_runners_42 rfl ?_
  refine g_iload_3 C dX10_runners_43 rfl ?_
  refine g_iload C dX10_runners_44 rfl ?_
  refine g_iload C dX10_runners_46 rfl ?_
  refine csI_X10_85 C h ⟨Nat.le_of_ble_eq_true rfl, Nat.le_of_ble_eq_true rfl⟩ (Nat.le_of_ble_eq_true rfl) dX10_runners_48 (fun _ h => ?_)
  refine g_iconst_1 C dX10_runners_51 ?_
  exact g_zreturn C hQ dX10_runners_52 (Or.inr rfl) h
def wpI_X10_runners (x1 x2 x3 x4 x5 : Int32) (σ : St) (post : Int32 → St → Prop) : Prop := wpI_X10_within x1 0 3 σ (fun r2 σ1 => ((r2 = 0 → wpI_X10_runners_18 σ1 post) ∧ (¬ r2 = 0 → wpI_X10_within x2 0 3 σ1 (fun r4 σ3 => ((¬ r4 = 0 → ((9 < x3 → wpI_X10_runners_35 σ3 post) ∧ (¬ 9 < x3 → ((x2 = 3 → wpI_X10_runners_37 x1 x2 x3 x4 x5 σ3 post) ∧ (¬ x2 = 3 → ((0 ≤ x3 → wpI_X10_runners_37 x1 x2 x3 x4 x5 σ3 post) ∧ (¬ 0 ≤ x3 → wpI_X10_runners_35 σ3 post))))))) ∧ (r4 = 0 → wpI_X10_runners_18 σ3 post))))))
theorem kI_X10_runners {X : Kx} {l : Launch} {E : Ev} {a : Nat → Nat} {post : Int32 → St → Prop} (C : Cx X l E RX10 cX10_runners rmI_X10_runners (some .boolean)) (hQ : QI X (wI E a) post) (x1 x2 x3 x4 x5 : Int32) (σ : St) (h : wpI_X10_runners x1 x2 x3 x4 x5 σ post) : G X (wI E a) σ 0 [some (.ref (a 0)), some (.int x1), some (.int x2), some (.int x3), some (.int x4), some (.int x5)] [] := by
  unfold wpI_X10_runners at h
  refine g_iload_1 C dX10_runners_0 rfl ?_
  refine g_iconst_0 C dX10_runners_1 ?_
  refine g_iconst_3 C dX10_runners_2 ?_
  refine csI_X10_62 C h ⟨Nat.le_of_ble_eq_true rfl, Nat.le_of_ble_eq_true rfl⟩ (Nat.le_of_ble_eq_true rfl) dX10_runners_3 (fun _ _ h => ?_)
  refine g_if_eq C 18 dX10_runners_6 (by decide) (fun q => ?_) (fun q => ?_)
  · have h := h.1 q
    exact g_wk (kI_X10_runners_18 C hQ _ h) (trivial)
  · have h := h.2 q
    refine g_iload_2 C dX10_runners_9 rfl ?_
    refine g_iconst_0 C dX10_runners_10 ?_
    refine g_iconst_3 C dX10_runners_11 ?_
    refine csI_X10_62 C h ⟨Nat.le_of_ble_eq_true rfl, Nat.le_of_ble_eq_true rfl⟩ (Nat.le_of_ble_eq_true rfl) dX10_runners_12 (fun _ _ h => ?_)
    refine g_if_ne C 20 dX10_runners_15 (by decide) (fun q => ?_) (fun q => ?_)
    · have h := h.1 q
      refine g_iload_3 C dX10_runners_20 rfl ?_
      refine g_bipush C (v := 9) (by decide) dX10_runners_21 ?_
      refine g_icmp_gt C 35 dX10_runners_23 (by decide) (fun q => ?_) (fun q => ?_)
      · have h := h.1 q
        exact g_wk (kI_X10_runners_35 C hQ _ h) (trivial)
      · have h := h.2 q
        refine g_iload_2 C dX10_runners_26 rfl ?_
        refine g_iconst_3 C dX10_runners_27 ?_
        refine g_icmp_eq C 37 dX10_runners_28 (by decide) (fun q => ?_) (fun q => ?_)
        · have h := h.1 q
          exact g_wk (kI_X10_runners_37 C hQ _ _ _ _ _ _ h) (And.intro rfl (And.intro rfl (And.intro rfl (And.intro rfl (And.intro rfl (And.intro rfl (trivial)))))))
        · have h := h.2 q
          refine g_iload_3 C dX10_runners_31 rfl ?_
          refine g_if_ge C 37 dX10_runners_32 (by decide) (fun q => ?_) (fun q => ?_)
          · have h := h.1 q
            exact g_wk (kI_X10_runners_37 C hQ _ _ _ _ _ _ h) (And.intro rfl (And.intro rfl (And.intro rfl (And.intro rfl (And.intro rfl (And.intro rfl (trivial)))))))
          · have h := h.2 q
            exact g_wk (kI_X10_runners_35 C hQ _ h) (trivial)
    · have h := h.2 q
      exact g_wk (kI_X10_runners_18 C hQ _ h) (trivial)
theorem cI_X10_runners {l : Launch} {E : Ev} {a : Nat → Nat} {x1 x2 x3 x4 x5 : Int32} {σ : St} {post : Int32 → St → Prop} (h : wpI_X10_runners x1 x2 x3 x4 x5 σ post) : CI l E (wI E a) yX10_runners cX10_runners 6 .boolean rmI_X10_runners [.ref (a 0), .int x1, .int x2, .int x3, .int x4, .int x5] σ post := met_i (by decide) rfl (Nat.le_of_ble_eq_true rfl) rfl (fun X C hQ => kI_X10_runners C hQ _ _ _ _ _ _ h)
theorem csI_X10_89 {X : Kx} {l : Launch} {E : Ev} {a : Nat → Nat} {σ : St} {cc : ByteArray} {rm : Room} {ret : Option FieldType} {pc : Nat} {lv : List (Option Value)} {rest : List Value} {x0 : Int32} {post : Int32 → St → Prop} (C : Cx X l E RX10 cc rm ret) (h : wpI_X3_isAbsent x0 σ post) (hR : 0 + 1 ≤ rm.frames ∧ 8 + (2 + 11) + 0 ≤ rm.locals) (hW : (rest.map fun v => v.category).sum ≤ 8) (d : decode cc pc = .ok (.invokevirtual 89, 3)) (k : ∀ (r : Int32) (u : St), post r u → G X (wI E a) u (pc + 3) lv (.int r :: rest)) : G X (wI E a) σ pc lv (.int x0 :: .ref (a 200) :: rest) := g_callVi C 1 (As := [.int x0]) (rest := rest) (Cn := RX3) (T := TX3) (N := 3) (q0 := 9) (ci := 3) (by decide +kernel) (by decide +kernel) (by decide +kernel) (by decide +kernel) (by decide +kernel) (by decide +kernel) rfl rfl (cI_X3_isAbsent h) ⟨rfl, rfl⟩ hR rfl rfl hW d k
theorem csI_X10_92 {X : Kx} {l : Launch} {E : Ev} {a : Nat → Nat} {σ : St} {cc : ByteArray} {rm : Room} {ret : Option FieldType} {pc : Nat} {lv : List (Option Value)} {rest : List Value} {x0 x1 : Int32} {post : Int32 → St → Prop} (C : Cx X l E RX10 cc rm ret) (h : wpI_X3_alike x0 x1 σ post) (hR : 0 + 1 ≤ rm.frames ∧ 8 + (3 + 11) + 0 ≤ rm.locals) (hW : (rest.map fun v => v.category).sum ≤ 8) (d : decode cc pc = .ok (.invokevirtual 92, 3)) (k : ∀ (r : Int32) (u : St), post r u → G X (wI E a) u (pc + 3) lv (.int r :: rest)) : G X (wI E a) σ pc lv (.int x1 :: .int x0 :: .ref (a 200) :: rest) := g_callVi C 2 (As := [.int x0, .int x1]) (rest := rest) (Cn := RX3) (T := TX3) (N := 3) (q0 := 9) (ci := 3) (by decide +kernel) (by decide +kernel) (by decide +kernel) (by decide +kernel) (by decide +kernel) (by decide +kernel) rfl rfl (cI_X3_alike h) ⟨rfl, rfl⟩ hR rfl rfl hW d k
theorem csI_X10_96 {X : Kx} {l : Launch} {E : Ev} {a : Nat → Nat} {σ : St} {cc : ByteArray} {rm : Room} {ret : Option FieldType} {pc : Nat} {lv : List (Option Value)} {rest : List Value} {x0 x1 x2 : Int32} {post : Int32 → St → Prop} (C : Cx X l E RX10 cc rm ret) (h : wpI_X3_holds x0 x1 x2 σ post) (hR : 1 + 1 ≤ rm.frames ∧ 8 + (4 + 11) + 22 ≤ rm.locals) (hW : (rest.map fun v => v.category).sum ≤ 8) (d : decode cc pc = .ok (.invokevirtual 96, 3)) (k : ∀ (r : Int32) (u : St), post r u → G X (wI E a) u (pc + 3) lv (.int r :: rest)) : G X (wI E a) σ pc lv (.int x2 :: .int x1 :: .int x0 :: .ref (a 200) :: rest) := g_callVi C 3 (As := [.int x0, .int x1, .int x2]) (rest := rest) (Cn := RX3) (T := TX3) (N := 3) (q0 := 9) (ci := 3) (by decide +kernel) (by decide +kernel) (by decide +kernel) (by decide +kernel) (by decide +kernel) (by decide +kernel) rfl rfl (cI_X3_holds h) ⟨rfl, rfl⟩ hR rfl rfl hW d k
theorem csI_X10_99 {X : Kx} {l : Launch} {E : Ev} {a : Nat → Nat} {σ : St} {cc : ByteArray} {rm : Room} {ret : Option FieldType} {pc : Nat} {lv : List (Option Value)} {rest : List Value} {x0 x1 x2 x3 x4 : Int32} {post : St → Prop} (C : Cx X l E RX10 cc rm ret) (h : wpI_X3_carry x0 x1 x2 x3 x4 σ post) (hR : 1 + 1 ≤ rm.frames ∧ 8 + (6 + 11) + 18 ≤ rm.locals) (hW : (rest.map fun v => v.category).sum ≤ 8) (d : decode cc pc = .ok (.invokevirtual 99, 3)) (k : ∀ u : St, post u → G X (wI E a) u (pc + 3) lv rest) : G X (wI E a) σ pc lv (.int x4 :: .int x3 :: .int x2 :: .int x1 :: .int x0 :: .ref (a 200) :: rest) := g_callVv C 5 (As := [.int x0, .int x1, .int x2, .int x3, .int x4]) (rest := rest) (Cn := RX3) (T := TX3) (N := 3) (q0 := 9) (ci := 3) (by decide +kernel) (by decide +kernel) (by decide +kernel) (by decide +kernel) (by decide +kernel) (by decide +kernel) rfl rfl (cI_X3_carry h) ⟨rfl, rfl⟩ hR rfl rfl hW d k
/-! IceRun.copy(IIIII)I -/
abbrev rmI_X10_copy : Room := { frames := 2, cells := 0, slots := 0, locals := 45 }
def wpI_X10_copy_18 (σ : St) (post : Int32 → St → Prop) : Prop := post (-1) σ
theorem kI_X10_copy_18 {X : Kx} {l : Launch} {E : Ev} {a : Nat → Nat} {post : Int32 → St → Prop} (C : Cx X l E RX10 cX10_copy rmI_X10_copy (some .int)) (hQ : QI X (wI E a) post) (σ : St) (h : wpI_X10_copy_18   σ post) : G X (wI E a) σ 18 [none, none, none, none, none, none] [] := by
  unfold wpI_X10_copy_18 at h
  refine g_iconst_m1 C dX10_copy_18 ?_
  exact g_ireturn C hQ dX10_copy_19 h
def wpI_X10_copy_42 (σ : St) (post : Int32 → St → Prop) : Prop := post (-2) σ
theorem kI_X10_copy_42 {X : Kx} {l : Launch} {E : Ev} {a : Nat → Nat} {post : Int32 → St → Prop} (C : Cx X l E RX10 cX10_copy rmI_X10_copy (some .int)) (hQ : QI X (wI E a) post) (σ : St) (h : wpI_X10_copy_42   σ post) : G X (wI E a) σ 42 [none, none, none, none, none, none] [] := by
  unfold wpI_X10_copy_42 at h
  refine g_bipush C (v := (-2)) (by decide) dX10_copy_42 ?_
  exact g_ireturn C hQ dX10_copy_44 h
def wpI_X10_copy_89 (σ : St) (post : Int32 → St → Prop) : Prop := post (-4) σ
theorem kI_X10_copy_89 {X : Kx} {l : Launch} {E : Ev} {a : Nat → Nat} {post : Int32 → St → Prop} (C : Cx X l E RX10 cX10_copy rmI_X10_copy (some .int)) (hQ : QI X (wI E a) post) (σ : St) (h : wpI_X10_copy_89   σ post) : G X (wI E a) σ 89 [none, none, none, none, none, none] [] := by
  unfold wpI_X10_copy_89 at h
  refine g_bipush C (v := (-4)) (by decide) dX10_copy_89 ?_
  exact g_ireturn C hQ dX10_copy_91 h
def wpI_X10_copy (x1 x2 x3 x4 x5 : Int32) (σ : St) (post : Int32 → St → Prop) : Prop := wpI_X10_within x1 0 3 σ (fun r2 σ1 => ((r2 = 0 → wpI_X10_copy_18 σ1 post) ∧ (¬ r2 = 0 → wpI_X10_within x3 0 3 σ1 (fun r4 σ3 => ((¬ r4 = 0 → wpI_X3_isAbsent x1 σ3 (fun r6 σ5 => ((¬ r6 = 0 → wpI_X10_copy_42 σ5 post) ∧ (r6 = 0 → wpI_X3_isAbsent x3 σ5 (fun r8 σ7 => ((r8 = 0 → wpI_X3_alike x1 x3 σ7 (fun r10 σ9 => ((¬ r10 = 0 → wpI_X3_holds x1 x2 x5 σ9 (fun r12 σ11 => ((r12 = 0 → wpI_X10_copy_89 σ11 post) ∧ (¬ r12 = 0 → wpI_X3_holds x3 x4 x5 σ11 (fun r14 σ13 => ((¬ r14 = 0 → wpI_X3_carry x1 x2 x3 x4 x5 σ13 (fun σ15 => post x5 σ15)) ∧ (r14 = 0 → wpI_X10_copy_89 σ13 post))))))) ∧ (r10 = 0 → post (-3) σ9)))) ∧ (¬ r8 = 0 → wpI_X10_copy_42 σ7 post))))))) ∧ (r4 = 0 → wpI_X10_copy_18 σ3 post))))))
theorem kI_X10_copy {X : Kx} {l : Launch} {E : Ev} {a : Nat → Nat} {post : Int32 → St → Prop} (C : Cx X l E RX10 cX10_copy rmI_X10_copy (some .int)) (hQ : QI X (wI E a) post) (x1 x2 x3 x4 x5 : Int32) (σ : St) (h : wpI_X10_copy x1 x2 x3 x4 x5 σ post) : G X (wI E a) σ 0 [some (.ref (a 0)), some (.int x1), some (.int x2), some (.int x3), some (.int x4), some (.int x5)] [] := by
  unfold wpI_X10_copy at h
  refine g_iload_1 C dX10_copy_0 rfl ?_
  refine g_iconst_0 C dX10_copy_1 ?_
  refine g_iconst_3 C dX10_copy_2 ?_
  refine csI_X10_62 C h ⟨Nat.le_of_ble_eq_true rfl, Nat.le_of_ble_eq_true rfl⟩ (Nat.le_of_ble_eq_true rfl) dX10_copy_3 (fun _ _ h => ?_)
  refine g_if_eq C 18 dX10_copy_6 (by decide) (fun q => ?_) (fun q => ?_)
  · have h := h.1 q
    exact g_wk (kI_X10_copy_18 C hQ _ h) (trivial)
  · have h := h.2 q
    refine g_iload_3 C dX10_copy_9 rfl ?_
    refine g_iconst_0 C dX10_copy_10 ?_
    refine g_iconst_3 C dX10_copy_11 ?_
    refine csI_X10_62 C h ⟨Nat.le_of_ble_eq_true rfl, Nat.le_of_ble_eq_true rfl⟩ (Nat.le_of_ble_eq_true rfl) dX10_copy_12 (fun _ _ h => ?_)
    refine g_if_ne C 20 dX10_copy_15 (by decide) (fun q => ?_) (fun q => ?_)
    · have h := h.1 q
      refine g_aload_0 C dX10_copy_20 rfl ?_
      refine fgI_X10_19 C dX10_copy_21 ?_
      refine g_iload_1 C dX10_copy_24 rfl ?_
      refine csI_X10_89 C h ⟨Nat.le_of_ble_eq_true rfl, Nat.le_of_ble_eq_true rfl⟩ (Nat.le_of_ble_eq_true rfl) dX10_copy_25 (fun _ _ h => ?_)
      refine g_if_ne C 42 dX10_copy_28 (by decide) (fun q => ?_) (fun q => ?_)
      · have h := h.1 q
        exact g_wk (kI_X10_copy_42 C hQ _ h) (trivial)
      · have h := h.2 q
        refine g_aload_0 C dX10_copy_31 rfl ?_
        refine fgI_X10_19 C dX10_copy_32 ?_
        refine g_iload_3 C dX10_copy_35 rfl ?_
        refine csI_X10_89 C h ⟨Nat.le_of_ble_eq_true rfl, Nat.le_of_ble_eq_true rfl⟩ (Nat.le_of_ble_eq_true rfl) dX10_copy_36 (fun _ _ h => ?_)
        refine g_if_eq C 45 dX10_copy_39 (by decide) (fun q => ?_) (fun q => ?_)
        · have h := h.1 q
          refine g_aload_0 C dX10_copy_45 rfl ?_
          refine fgI_X10_19 C dX10_copy_46 ?_
          refine g_iload_1 C dX10_copy_49 rfl ?_
          refine g_iload_3 C dX10_copy_50 rfl ?_
          refine csI_X10_92 C h ⟨Nat.le_of_ble_eq_true rfl, Nat.le_of_ble_eq_true rfl⟩ (Nat.le_of_ble_eq_true rfl) dX10_copy_51 (fun _ _ h => ?_)
          refine g_if_ne C 60 dX10_copy_54 (by decide) (fun q => ?_) (fun q => ?_)
          · have h := h.1 q
            refine g_aload_0 C dX10_copy_60 rfl ?_
            refine fgI_X10_19 C dX10_copy_61 ?_
            refine g_iload_1 C dX10_copy_64 rfl ?_
            refine g_iload_2 C dX10_copy_65 rfl ?_
            refine g_iload C dX10_copy_66 rfl ?_
            refine csI_X10_96 C h ⟨Nat.le_of_ble_eq_true rfl, Nat.le_of_ble_eq_true rfl⟩ (Nat.le_of_ble_eq_true rfl) dX10_copy_68 (fun _ _ h => ?_)
            refine g_if_eq C 89 dX10_copy_71 (by decide) (fun q => ?_) (fun q => ?_)
            · have h := h.1 q
              exact g_wk (kI_X10_copy_89 C hQ _ h) (trivial)
            · have h := h.2 q
              refine g_aload_0 C dX10_copy_74 rfl ?_
              refine fgI_X10_19 C dX10_copy_75 ?_
              refine g_iload_3 C dX10_copy_78 rfl ?_
              refine g_iload C dX10_copy_79 rfl ?_
              refine g_iload C dX10_copy_81 rfl ?_
              refine csI_X10_96 C h ⟨Nat.le_of_ble_eq_true rfl, Nat.le_of_ble_eq_true rfl⟩ (Nat.le_of_ble_eq_true rfl) dX10_copy_83 (fun _ _ h => ?_)
              refine g_if_ne C 92 dX10_copy_86 (by decide) (fun q => ?_) (fun q => ?_)
              · have h := h.1 q
                refine g_aload_0 C dX10_copy_92 rfl ?_
                refine fgI_X10_19 C dX10_copy_93 ?_
                refine g_iload_1 C dX10_copy_96 rfl ?_
                refine g_iload_2 C dX10_copy_97 rfl ?_
                refine g_iload_3 C dX10_copy_98 rfl ?_
                refine g_iload C dX10_copy_99 rfl ?_
                refine g_iload C dX10_copy_101 rfl ?_
                refine csI_X10_99 C h ⟨Nat.le_of_ble_eq_true rfl, Nat.le_of_ble_eq_true rfl⟩ (Nat.le_of_ble_eq_true rfl) dX10_copy_103 (fun _ h => ?_)
                refine g_iload C dX10_copy_106 rfl ?_
                exact g_ireturn C hQ dX10_copy_108 h
              · have h := h.2 q
                exact g_wk (kI_X10_copy_89 C hQ _ h) (trivial)
          · have h := h.2 q
            refine g_bipush C (v := (-3)) (by decide) dX10_copy_57 ?_
            exact g_ireturn C hQ dX10_copy_59 h
        · have h := h.2 q
          exact g_wk (kI_X10_copy_42 C hQ _ h) (trivial)
    · have h := h.2 q
      exact g_wk (kI_X10_copy_18 C hQ _ h) (trivial)
theorem cI_X10_copy {l : Launch} {E : Ev} {a : Nat → Nat} {x1 x2 x3 x4 x5 : Int32} {σ : St} {post : Int32 → St → Prop} (h : wpI_X10_copy x1 x2 x3 x4 x5 σ post) : CI l E (wI E a) yX10_copy cX10_copy 6 .int rmI_X10_copy [.ref (a 0), .int x1, .int x2, .int x3, .int x4, .int x5] σ post := met_i (by decide) rfl (Nat.le_of_ble_eq_true rfl) rfl (fun X C hQ => kI_X10_copy C hQ _ _ _ _ _ _ h)
theorem fgI_X10_113 {X : Kx} {l : Launch} {E : Ev} {a : Nat → Nat} {σ : St} {cc : ByteArray} {rm : Room} {ret : Option FieldType} {pc : Nat} {lv : List (Option Value)} {st : List Value} (C : Cx X l E RX10 cc rm ret) (d : decode cc pc = .ok (.getfield 113, 3)) (k : G X (wI E a) σ (pc + 3) lv (.int (σ.1 100) :: st)) : G X (wI E a) σ pc lv (.ref (a 100) :: st) := g_getN C (host := "IceRun") (q0 := 1) (ci := 8) (k := 0) rfl rfl inU_X8 (by decide) (by decide +kernel) rfl d k
theorem csI_X10_116 {X : Kx} {l : Launch} {E : Ev} {a : Nat → Nat} {σ : St} {cc : ByteArray} {rm : Room} {ret : Option FieldType} {pc : Nat} {lv : List (Option Value)} {rest : List Value} {x0 x1 x2 : Int32} {post : St → Prop} (C : Cx X l E RX10 cc rm ret) (h : wpI_X8_soften x0 x1 x2 σ post) (hR : 1 + 1 ≤ rm.frames ∧ 8 + (6 + 11) + 16 ≤ rm.locals) (hW : (rest.map fun v => v.category).sum ≤ 8) (d : decode cc pc = .ok (.invokevirtual 116, 3)) (k : ∀ u : St, post u → G X (wI E a) u (pc + 3) lv rest) : G X (wI E a) σ pc lv (.int x2 :: .int x1 :: .int x0 :: .ref (a 100) :: rest) := g_callVv C 3 (As := [.int x0, .int x1, .int x2]) (rest := rest) (Cn := RX8) (T := TX8) (N := 9) (q0 := 1) (ci := 8) (by decide +kernel) (by decide +kernel) (by decide +kernel) (by decide +kernel) (by decide +kernel) (by decide +kernel) rfl rfl (cI_X8_soften h) ⟨rfl, rfl⟩ hR rfl rfl hW d k
/-! IceRun.weather(III)Z -/
abbrev rmI_X10_weather : Room := { frames := 2, cells := 0, slots := 0, locals := 41 }
def wpI_X10_weather_53 (σ : St) (post : Int32 → St → Prop) : Prop := post 0 σ
theorem kI_X10_weather_53 {X : Kx} {l : Launch} {E : Ev} {a : Nat → Nat} {post : Int32 → St → Prop} (C : Cx X l E RX10 cX10_weather rmI_X10_weather (some .boolean)) (hQ : QI X (wI E a) post) (σ : St) (h : wpI_X10_weather_53   σ post) : G X (wI E a) σ 53 [none, none, none, none, none] [] := by
  unfold wpI_X10_weather_53 at h
  refine g_iconst_0 C dX10_weather_53 ?_
  exact g_zreturn C hQ dX10_weather_54 (Or.inl rfl) h
def wpI_X10_weather_36 (x1 x2 x3 s0 : Int32) (σ : St) (post : Int32 → St → Prop) : Prop := ((s0 = 0 → wpI_X10_weather_53 σ post) ∧ (¬ s0 = 0 → ((¬ (σ.1 100) = 0 → wpI_X8_soften x1 x2 x3 σ (fun σ1 => post 1 σ1)) ∧ ((σ.1 100) = 0 → wpI_X10_weather_53 σ post))))
theorem kI_X10_weather_36 {X : Kx} {l : Launch} {E : Ev} {a : Nat → Nat} {post : Int32 → St → Prop} (C : Cx X l E RX10 cX10_weather rmI_X10_weather (some .boolean)) (hQ : QI X (wI E a) post) (x1 x2 x3 s0 : Int32) (σ : St) (h : wpI_X10_weather_36  x1 x2 x3 s0 σ post) : G X (wI E a) σ 36 [some (.ref (a 0)), some (.int x1), some (.int x2), some (.int x3), none] [.int s0] := by
  unfold wpI_X10_weather_36 at h
  refine g_istore C dX10_weather_36 (Nat.le_of_ble_eq_true rfl) ?_
  refine g_iload C dX10_weather_38 rfl ?_
  refine g_if_eq C 53 dX10_weather_40 (by decide) (fun q => ?_) (fun q => ?_)
  · have h := h.1 q
    exact g_wk (kI_X10_weather_53 C hQ _ h) (trivial)
  · have h := h.2 q
    refine g_aload_0 C dX10_weather_43 rfl ?_
    refine fgI_X10_10 C dX10_weather_44 ?_
    refine fgI_X10_113 C dX10_weather_47 ?_
    refine g_if_ne C 55 dX10_weather_50 (by decide) (fun q => ?_) (fun q => ?_)
    · have h := h.1 q
      refine g_aload_0 C dX10_weather_55 rfl ?_
      refine fgI_X10_10 C dX10_weather_56 ?_
      refine g_iload_1 C dX10_weather_59 rfl ?_
      refine g_iload_2 C dX10_weather_60 rfl ?_
      refine g_iload_3 C dX10_weather_61 rfl ?_
      refine csI_X10_116 C h ⟨Nat.le_of_ble_eq_true rfl, Nat.le_of_ble_eq_true rfl⟩ (Nat.le_of_ble_eq_true rfl) dX10_weather_62 (fun _ h => ?_)
      refine g_iconst_1 C dX10_weather_65 ?_
      exact g_zreturn C hQ dX10_weather_66 (Or.inr rfl) h
    · have h := h.2 q
      exact g_wk (kI_X10_weather_53 C hQ _ h) (trivial)
def wpI_X10_weather_35 (x1 x2 x3 : Int32) (σ : St) (post : Int32 → St → Prop) : Prop := wpI_X10_weather_36 x1 x2 x3 0 σ post
theorem kI_X10_weather_35 {X : Kx} {l : Launch} {E : Ev} {a : Nat → Nat} {post : Int32 → St → Prop} (C : Cx X l E RX10 cX10_weather rmI_X10_weather (some .boolean)) (hQ : QI X (wI E a) post) (x1 x2 x3 : Int32) (σ : St) (h : wpI_X10_weather_35  x1 x2 x3 σ post) : G X (wI E a) σ 35 [some (.ref (a 0)), some (.int x1), some (.int x2), some (.int x3), none] [] := by
  unfold wpI_X10_weather_35 at h
  refine g_iconst_0 C dX10_weather_35 ?_
  exact g_wk (kI_X10_weather_36 C hQ _ _ _ _ _ h) (And.intro rfl (And.intro rfl (And.intro rfl (And.intro rfl (trivial)))))
def wpI_X10_weather (x1 x2 x3 : Int32) (σ : St) (post : Int32 → St → Prop) : Prop := wpI_X10_within x1 1 600 σ (fun r2 σ1 => ((r2 = 0 → wpI_X10_weather_35 x1 x2 x3 σ1 post) ∧ (¬ r2 = 0 → wpI_X10_within x2 (-30) 30 σ1 (fun r4 σ3 => ((r4 = 0 → wpI_X10_weather_35 x1 x2 x3 σ3 post) ∧ (¬ r4 = 0 → wpI_X10_within x3 0 3 σ3 (fun r6 σ5 => ((r6 = 0 → wpI_X10_weather_35 x1 x2 x3 σ5 post) ∧ (¬ r6 = 0 → wpI_X10_weather_36 x1 x2 x3 1 σ5 post)))))))))
theorem kI_X10_weather {X : Kx} {l : Launch} {E : Ev} {a : Nat → Nat} {post : Int32 → St → Prop} (C : Cx X l E RX10 cX10_weather rmI_X10_weather (some .boolean)) (hQ : QI X (wI E a) post) (x1 x2 x3 : Int32) (σ : St) (h : wpI_X10_weather x1 x2 x3 σ post) : G X (wI E a) σ 0 [some (.ref (a 0)), some (.int x1), some (.int x2), some (.int x3), none] [] := by
  unfold wpI_X10_weather at h
  refine g_iload_1 C dX10_weather_0 rfl ?_
  refine g_iconst_1 C dX10_weather_1 ?_
  refine g_sipush C (v := 600) (by decide) dX10_weather_2 ?_
  refine csI_X10_62 C h ⟨Nat.le_of_ble_eq_true rfl, Nat.le_of_ble_eq_true rfl⟩ (Nat.le_of_ble_eq_true rfl) dX10_weather_5 (fun _ _ h => ?_)
  refine g_if_eq C 35 dX10_weather_8 (by decide) (fun q => ?_) (fun q => ?_)
  · have h := h.1 q
    exact g_wk (kI_X10_weather_35 C hQ _ _ _ _ h) (And.intro rfl (And.intro rfl (And.intro rfl (And.intro rfl (trivial)))))
  · have h := h.2 q
    refine g_iload_2 C dX10_weather_11 rfl ?_
    refine g_bipush C (v := (-30)) (by decide) dX10_weather_12 ?_
    refine g_bipush C (v := 30) (by decide) dX10_weather_14 ?_
    refine csI_X10_62 C h ⟨Nat.le_of_ble_eq_true rfl, Nat.le_of_ble_eq_true rfl⟩ (Nat.le_of_ble_eq_true rfl) dX10_weather_16 (fun _ _ h => ?_)
    refine g_if_eq C 35 dX10_weather_19 (by decide) (fun q => ?_) (fun q => ?_)
    · have h := h.1 q
      exact g_wk (kI_X10_weather_35 C hQ _ _ _ _ h) (And.intro rfl (And.intro rfl (And.intro rfl (And.intro rfl (trivial)))))
    · have h := h.2 q
      refine g_iload_3 C dX10_weather_22 rfl ?_
      refine g_iconst_0 C dX10_weather_23 ?_
      refine g_iconst_3 C dX10_weather_24 ?_
      refine csI_X10_62 C h ⟨Nat.le_of_ble_eq_true rfl, Nat.le_of_ble_eq_true rfl⟩ (Nat.le_of_ble_eq_true rfl) dX10_weather_25 (fun _ _ h => ?_)
      refine g_if_eq C 35 dX10_weather_28 (by decide) (fun q => ?_) (fun q => ?_)
      · have h := h.1 q
        exact g_wk (kI_X10_weather_35 C hQ _ _ _ _ h) (And.intro rfl (And.intro rfl (And.intro rfl (And.intro rfl (trivial)))))
      · have h := h.2 q
        refine g_iconst_1 C dX10_weather_31 ?_
        refine g_goto C 36 dX10_weather_32 (by decide) ?_
        exact g_wk (kI_X10_weather_36 C hQ _ _ _ _ _ h) (And.intro rfl (And.intro rfl (And.intro rfl (And.intro rfl (trivial)))))
theorem cI_X10_weather {l : Launch} {E : Ev} {a : Nat → Nat} {x1 x2 x3 : Int32} {σ : St} {post : Int32 → St → Prop} (h : wpI_X10_weather x1 x2 x3 σ post) : CI l E (wI E a) yX10_weather cX10_weather 5 .boolean rmI_X10_weather [.ref (a 0), .int x1, .int x2, .int x3] σ post := met_i (by decide) rfl (Nat.le_of_ble_eq_true rfl) rfl (fun X C hQ => kI_X10_weather C hQ _ _ _ _ h)
theorem csI_X10_120 {X : Kx} {l : Launch} {E : Ev} {a : Nat → Nat} {σ : St} {cc : ByteArray} {rm : Room} {ret : Option FieldType} {pc : Nat} {lv : List (Option Value)} {rest : List Value} {x0 x1 : Int32} {post : St → Prop} (C : Cx X l E RX10 cc rm ret) (h : wpI_X8_pour x0 x1 σ post) (hR : 1 + 1 ≤ rm.frames ∧ 8 + (4 + 11) + 15 ≤ rm.locals) (hW : (rest.map fun v => v.category).sum ≤ 8) (d : decode cc pc = .ok (.invokevirtual 120, 3)) (k : ∀ u : St, post u → G X (wI E a) u (pc + 3) lv rest) : G X (wI E a) σ pc lv (.int x1 :: .int x0 :: .ref (a 100) :: rest) := g_callVv C 2 (As := [.int x0, .int x1]) (rest := rest) (Cn := RX8) (T := TX8) (N := 9) (q0 := 1) (ci := 8) (by decide +kernel) (by decide +kernel) (by decide +kernel) (by decide +kernel) (by decide +kernel) (by decide +kernel) rfl rfl (cI_X8_pour h) ⟨rfl, rfl⟩ hR rfl rfl hW d k
/-! IceRun.water(II)Z -/
abbrev rmI_X10_water : Room := { frames := 2, cells := 0, slots := 0, locals := 38 }
def wpI_X10_water_20 (σ : St) (post : Int32 → St → Prop) : Prop := post 0 σ
theorem kI_X10_water_20 {X : Kx} {l : Launch} {E : Ev} {a : Nat → Nat} {post : Int32 → St → Prop} (C : Cx X l E RX10 cX10_water rmI_X10_water (some .boolean)) (hQ : QI X (wI E a) post) (σ : St) (h : wpI_X10_water_20   σ post) : G X (wI E a) σ 20 [none, none, none] [] := by
  unfold wpI_X10_water_20 at h
  refine g_iconst_0 C dX10_water_20 ?_
  exact g_zreturn C hQ dX10_water_21 (Or.inl rfl) h
def wpI_X10_water (x1 x2 : Int32) (σ : St) (post : Int32 → St → Prop) : Prop := ((x1 < 0 → wpI_X10_water_20 σ post) ∧ (¬ x1 < 0 → ((x2 ≤ x1 → wpI_X10_water_20 σ post) ∧ (¬ x2 ≤ x1 → ((x2 ≤ (σ.1 100) → wpI_X8_pour x1 x2 σ (fun σ1 => post 1 σ1)) ∧ (¬ x2 ≤ (σ.1 100) → wpI_X10_water_20 σ post))))))
theorem kI_X10_water {X : Kx} {l : Launch} {E : Ev} {a : Nat → Nat} {post : Int32 → St → Prop} (C : Cx X l E RX10 cX10_water rmI_X10_water (some .boolean)) (hQ : QI X (wI E a) post) (x1 x2 : Int32) (σ : St) (h : wpI_X10_water x1 x2 σ post) : G X (wI E a) σ 0 [some (.ref (a 0)), some (.int x1), some (.int x2)] [] := by
  unfold wpI_X10_water at h
  refine g_iload_1 C dX10_water_0 rfl ?_
  refine g_if_lt C 20 dX10_water_1 (by decide) (fun q => ?_) (fun q => ?_)
  · have h := h.1 q
    exact g_wk (kI_X10_water_20 C hQ _ h) (trivial)
  · have h := h.2 q
    refine g_iload_1 C dX10_water_4 rfl ?_
    refine g_iload_2 C dX10_water_5 rfl ?_
    refine g_icmp_ge C 20 dX10_water_6 (by decide) (fun q => ?_) (fun q => ?_)
    · have h := h.1 q
      exact g_wk (kI_X10_water_20 C hQ _ h) (trivial)
    · have h := h.2 q
      refine g_iload_2 C dX10_water_9 rfl ?_
      refine g_aload_0 C dX10_water_10 rfl ?_
      refine fgI_X10_10 C dX10_water_11 ?_
      refine fgI_X10_113 C dX10_water_14 ?_
      refine g_icmp_le C 22 dX10_water_17 (by decide) (fun q => ?_) (fun q => ?_)
      · have h := h.1 q
        refine g_aload_0 C dX10_water_22 rfl ?_
        refine fgI_X10_10 C dX10_water_23 ?_
        refine g_iload_1 C dX10_water_26 rfl ?_
        refine g_iload_2 C dX10_water_27 rfl ?_
        refine csI_X10_120 C h ⟨Nat.le_of_ble_eq_true rfl, Nat.le_of_ble_eq_true rfl⟩ (Nat.le_of_ble_eq_true rfl) dX10_water_28 (fun _ h => ?_)
        refine g_iconst_1 C dX10_water_31 ?_
        exact g_zreturn C hQ dX10_water_32 (Or.inr rfl) h
      · have h := h.2 q
        exact g_wk (kI_X10_water_20 C hQ _ h) (trivial)
theorem cI_X10_water {l : Launch} {E : Ev} {a : Nat → Nat} {x1 x2 : Int32} {σ : St} {post : Int32 → St → Prop} (h : wpI_X10_water x1 x2 σ post) : CI l E (wI E a) yX10_water cX10_water 3 .boolean rmI_X10_water [.ref (a 0), .int x1, .int x2] σ post := met_i (by decide) rfl (Nat.le_of_ble_eq_true rfl) rfl (fun X C hQ => kI_X10_water C hQ _ _ _ h)
theorem csI_X10_123 {X : Kx} {l : Launch} {E : Ev} {a : Nat → Nat} {σ : St} {cc : ByteArray} {rm : Room} {ret : Option FieldType} {pc : Nat} {lv : List (Option Value)} {rest : List Value} {x0 x1 : Int32} {post : Int32 → St → Prop} (C : Cx X l E RX10 cc rm ret) (h : wpI_X8_look x0 x1 σ post) (hR : 0 + 1 ≤ rm.frames ∧ 8 + (3 + 11) + 0 ≤ rm.locals) (hW : (rest.map fun v => v.category).sum ≤ 8) (d : decode cc pc = .ok (.invokevirtual 123, 3)) (k : ∀ (r : Int32) (u : St), post r u → G X (wI E a) u (pc + 3) lv (.int r :: rest)) : G X (wI E a) σ pc lv (.int x1 :: .int x0 :: .ref (a 100) :: rest) := g_callVi C 2 (As := [.int x0, .int x1]) (rest := rest) (Cn := RX8) (T := TX8) (N := 9) (q0 := 1) (ci := 8) (by decide +kernel) (by decide +kernel) (by decide +kernel) (by decide +kernel) (by decide +kernel) (by decide +kernel) rfl rfl (cI_X8_look h) ⟨rfl, rfl⟩ hR rfl rfl hW d k
/-! IceRun.cell(II)I -/
abbrev rmI_X10_cell : Room := { frames := 2, cells := 0, slots := 0, locals := 43 }
def wpI_X10_cell_24 (s0 : Int32) (σ : St) (post : Int32 → St → Prop) : Prop := post s0 σ
theorem kI_X10_cell_24 {X : Kx} {l : Launch} {E : Ev} {a : Nat → Nat} {post : Int32 → St → Prop} (C : Cx X l E RX10 cX10_cell rmI_X10_cell (some .int)) (hQ : QI X (wI E a) post) (s0 : Int32) (σ : St) (h : wpI_X10_cell_24  s0 σ post) : G X (wI E a) σ 24 [none, none, none] [.int s0] := by
  unfold wpI_X10_cell_24 at h
  exact g_ireturn C hQ dX10_cell_24 h
def wpI_X10_cell (x1 x2 : Int32) (σ : St) (post : Int32 → St → Prop) : Prop := wpI_X8_hasCell x1 σ (fun r2 σ1 => ((r2 = 0 → wpI_X10_cell_24 (-1) σ1 post) ∧ (¬ r2 = 0 → wpI_X8_look x1 x2 σ1 (fun r4 σ3 => wpI_X10_cell_24 r4 σ3 post))))
theorem kI_X10_cell {X : Kx} {l : Launch} {E : Ev} {a : Nat → Nat} {post : Int32 → St → Prop} (C : Cx X l E RX10 cX10_cell rmI_X10_cell (some .int)) (hQ : QI X (wI E a) post) (x1 x2 : Int32) (σ : St) (h : wpI_X10_cell x1 x2 σ post) : G X (wI E a) σ 0 [some (.ref (a 0)), some (.int x1), some (.int x2)] [] := by
  unfold wpI_X10_cell at h
  refine g_aload_0 C dX10_cell_0 rfl ?_
  refine fgI_X10_10 C dX10_cell_1 ?_
  refine g_iload_1 C dX10_cell_4 rfl ?_
  refine csI_X10_74 C h ⟨Nat.le_of_ble_eq_true rfl, Nat.le_of_ble_eq_true rfl⟩ (Nat.le_of_ble_eq_true rfl) dX10_cell_5 (fun _ _ h => ?_)
  refine g_if_eq C 23 dX10_cell_8 (by decide) (fun q => ?_) (fun q => ?_)
  · have h := h.1 q
    refine g_iconst_m1 C dX10_cell_23 ?_
    exact g_wk (kI_X10_cell_24 C hQ _ _ h) (trivial)
  · have h := h.2 q
    refine g_aload_0 C dX10_cell_11 rfl ?_
    refine fgI_X10_10 C dX10_cell_12 ?_
    refine g_iload_1 C dX10_cell_15 rfl ?_
    refine g_iload_2 C dX10_cell_16 rfl ?_
    refine csI_X10_123 C h ⟨Nat.le_of_ble_eq_true rfl, Nat.le_of_ble_eq_true rfl⟩ (Nat.le_of_ble_eq_true rfl) dX10_cell_17 (fun _ _ h => ?_)
    refine g_goto C 24 dX10_cell_20 (by decide) ?_
    exact g_wk (kI_X10_cell_24 C hQ _ _ h) (trivial)
theorem cI_X10_cell {l : Launch} {E : Ev} {a : Nat → Nat} {x1 x2 : Int32} {σ : St} {post : Int32 → St → Prop} (h : wpI_X10_cell x1 x2 σ post) : CI l E (wI E a) yX10_cell cX10_cell 3 .int rmI_X10_cell [.ref (a 0), .int x1, .int x2] σ post := met_i (by decide) rfl (Nat.le_of_ble_eq_true rfl) rfl (fun X C hQ => kI_X10_cell C hQ _ _ _ h)
theorem fgI_X10_263 {X : Kx} {l : Launch} {E : Ev} {a : Nat → Nat} {σ : St} {cc : ByteArray} {rm : Room} {ret : Option FieldType} {pc : Nat} {lv : List (Option Value)} {st : List Value} (C : Cx X l E RX10 cc rm ret) (d : decode cc pc = .ok (.getfield 263, 3)) (k : G X (wI E a) σ (pc + 3) lv (.ref (a 106) :: st)) : G X (wI E a) σ pc lv (.ref (a 100) :: st) := g_getN C (host := "IceRun") (q0 := 1) (ci := 8) (k := 5) rfl rfl inU_X8 (by decide) (by decide +kernel) rfl d k
theorem csI_X10_109 {X : Kx} {l : Launch} {E : Ev} {a : Nat → Nat} {σ : St} {cc : ByteArray} {rm : Room} {ret : Option FieldType} {pc : Nat} {lv : List (Option Value)} {rest : List Value} {x0 x1 : Int32} {post : Int32 → St → Prop} (C : Cx X l E RX10 cc rm ret) (h : wpI_X3_glideOf x0 x1 σ post) (hR : 1 + 1 ≤ rm.frames ∧ 8 + (4 + 11) + 22 ≤ rm.locals) (hW : (rest.map fun v => v.category).sum ≤ 8) (d : decode cc pc = .ok (.invokevirtual 109, 3)) (k : ∀ (r : Int32) (u : St), post r u → G X (wI E a) u (pc + 3) lv (.int r :: rest)) : G X (wI E a) σ pc lv (.int x1 :: .int x0 :: .ref (a 200) :: rest) := g_callVi C 2 (As := [.int x0, .int x1]) (rest := rest) (Cn := RX3) (T := TX3) (N := 3) (q0 := 9) (ci := 3) (by decide +kernel) (by decide +kernel) (by decide +kernel) (by decide +kernel) (by decide +kernel) (by decide +kernel) rfl rfl (cI_X3_glideOf h) ⟨rfl, rfl⟩ hR rfl rfl hW d k
theorem csI_X10_266 {X : Kx} {l : Launch} {E : Ev} {a : Nat → Nat} {σ : St} {cc : ByteArray} {rm : Room} {ret : Option FieldType} {pc : Nat} {lv : List (Option Value)} {rest : List Value} {x0 x1 x2 x3 : Int32} {post : Int32 → St → Prop} (C : Cx X l E RX10 cc rm ret) (h : wpI_X8_timeOf x0 x1 x2 x3 σ post) (hR : 1 + 1 ≤ rm.frames ∧ 8 + (7 + 11) + 13 ≤ rm.locals) (hW : (rest.map fun v => v.category).sum ≤ 8) (d : decode cc pc = .ok (.invokevirtual 266, 3)) (k : ∀ (r : Int32) (u : St), post r u → G X (wI E a) u (pc + 3) lv (.int r :: rest)) : G X (wI E a) σ pc lv (.int x3 :: .int x2 :: .int x1 :: .int x0 :: .ref (a 100) :: rest) := g_callVi C 4 (As := [.int x0, .int x1, .int x2, .int x3]) (rest := rest) (Cn := RX8) (T := TX8) (N := 9) (q0 := 1) (ci := 8) (by decide +kernel) (by decide +kernel) (by decide +kernel) (by decide +kernel) (by decide +kernel) (by decide +kernel) rfl rfl (cI_X8_timeOf h) ⟨rfl, rfl⟩ hR rfl rfl hW d k
/-! IceRun.timeInCell(IIII)I -/
abbrev rmI_X10_timeInCell : Room := { frames := 2, cells := 0, slots := 0, locals := 45 }
def wpI_X10_timeInCell (x1 x2 x3 x4 : Int32) (σ : St) (post : Int32 → St → Prop) : Prop := vp_in x1 40 ∧ (wpI_X3_glideOf x3 (σ.2 105 (Int32.toNatClampNeg x1)) σ (fun r2 σ1 => wpI_X8_timeOf x1 x2 x4 r2 σ1 (fun r4 σ3 => post r4 σ3)))
theorem kI_X10_timeInCell {X : Kx} {l : Launch} {E : Ev} {a : Nat → Nat} {post : Int32 → St → Prop} (C : Cx X l E RX10 cX10_timeInCell rmI_X10_timeInCell (some .int)) (hQ : QI X (wI E a) post) (x1 x2 x3 x4 : Int32) (σ : St) (h : wpI_X10_timeInCell x1 x2 x3 x4 σ post) : G X (wI E a) σ 0 [some (.ref (a 0)), some (.int x1), some (.int x2), some (.int x3), some (.int x4), none] [] := by
  unfold wpI_X10_timeInCell at h
  refine g_aload_0 C dX10_timeInCell_0 rfl ?_
  refine fgI_X10_19 C dX10_timeInCell_1 ?_
  refine g_iload_3 C dX10_timeInCell_4 rfl ?_
  refine g_aload_0 C dX10_timeInCell_5 rfl ?_
  refine fgI_X10_10 C dX10_timeInCell_6 ?_
  refine fgI_X10_263 C dX10_timeInCell_9 ?_
  refine g_iload_1 C dX10_timeInCell_12 rfl ?_
  obtain ⟨q, h⟩ := h
  refine alI_105 C q dX10_timeInCell_13 ?_
  refine csI_X10_109 C h ⟨Nat.le_of_ble_eq_true rfl, Nat.le_of_ble_eq_true rfl⟩ (Nat.le_of_ble_eq_true rfl) dX10_timeInCell_14 (fun _ _ h => ?_)
  refine g_istore C dX10_timeInCell_17 (Nat.le_of_ble_eq_true rfl) ?_
  refine g_aload_0 C dX10_timeInCell_19 rfl ?_
  refine fgI_X10_10 C dX10_timeInCell_20 ?_
  refine g_iload_1 C dX10_timeInCell_23 rfl ?_
  refine g_iload_2 C dX10_timeInCell_24 rfl ?_
  refine g_iload C dX10_timeInCell_25 rfl ?_
  refine g_iload C dX10_timeInCell_27 rfl ?_
  refine csI_X10_266 C h ⟨Nat.le_of_ble_eq_true rfl, Nat.le_of_ble_eq_true rfl⟩ (Nat.le_of_ble_eq_true rfl) dX10_timeInCell_29 (fun _ _ h => ?_)
  exact g_ireturn C hQ dX10_timeInCell_32 h
theorem cI_X10_timeInCell {l : Launch} {E : Ev} {a : Nat → Nat} {x1 x2 x3 x4 : Int32} {σ : St} {post : Int32 → St → Prop} (h : wpI_X10_timeInCell x1 x2 x3 x4 σ post) : CI l E (wI E a) yX10_timeInCell cX10_timeInCell 6 .int rmI_X10_timeInCell [.ref (a 0), .int x1, .int x2, .int x3, .int x4] σ post := met_i (by decide) rfl (Nat.le_of_ble_eq_true rfl) rfl (fun X C hQ => kI_X10_timeInCell C hQ _ _ _ _ _ h)
theorem csI_X10_269 {X : Kx} {l : Launch} {E : Ev} {a : Nat → Nat} {σ : St} {cc : ByteArray} {rm : Room} {ret : Option FieldType} {pc : Nat} {lv : List (Option Value)} {rest : List Value} {x0 x1 x2 x3 : Int32} {post : Int32 → St → Prop} (C : Cx X l E RX10 cc rm ret) (h : wpI_X10_timeInCell x0 x1 x2 x3 σ post) (hR : 2 + 1 ≤ rm.frames ∧ 8 + (6 + 11) + 45 ≤ rm.locals) (hW : (rest.map fun v => v.category).sum ≤ 8) (d : decode cc pc = .ok (.invokevirtual 269, 3)) (k : ∀ (r : Int32) (u : St), post r u → G X (wI E a) u (pc + 3) lv (.int r :: rest)) : G X (wI E a) σ pc lv (.int x3 :: .int x2 :: .int x1 :: .int x0 :: .ref (a 0) :: rest) := g_callVi C 4 (As := [.int x0, .int x1, .int x2, .int x3]) (rest := rest) (Cn := RX10) (T := TX10) (N := 8) (q0 := 0) (ci := 9) (by decide +kernel) (by decide +kernel) (by decide +kernel) (by decide +kernel) (by decide +kernel) (by decide +kernel) rfl rfl (cI_X10_timeInCell h) ⟨rfl, rfl⟩ hR rfl rfl hW d k
/-! IceRun.standardNow()I -/
abbrev rmI_X10_standardNow : Room := { frames := 3, cells := 0, slots := 0, locals := 70 }
def wpBI_X10_standardNow_4 (k_4 : Int32 → Int32 → St → Prop) (x1 x2 : Int32) (σ : St) (post : Int32 → St → Prop) : Prop := (((σ.1 100) ≤ x2 → post x1 σ) ∧ (¬ (σ.1 100) ≤ x2 → wpI_X10_timeInCell x2 100 0 5 σ (fun r2 σ1 => let y3 : Int32 := (x1 + r2); let y4 : Int32 := x2 + 1; k_4 y3 y4 σ1)))
def wpI_X10_standardNow_4 (x1 x2 : Int32) (σ : St) (post : Int32 → St → Prop) : Prop := ∃ n : Nat, lpN (α := Int32 × Int32 × St) (fun kb t => wpBI_X10_standardNow_4 (fun x1 x2 σ => kb (x1, x2, σ)) t.1 t.2.1 t.2.2 post) n (x1, x2, σ)
theorem kBI_X10_standardNow_4 {X : Kx} {l : Launch} {E : Ev} {a : Nat → Nat} {post : Int32 → St → Prop} (C : Cx X l E RX10 cX10_standardNow rmI_X10_standardNow (some .int)) (hQ : QI X (wI E a) post) (k_4 : Int32 → Int32 → St → Prop) (hk_4 : ∀ (x1 x2 : Int32) (σ : St), k_4 x1 x2 σ → G X (wI E a) σ 4 [some (.ref (a 0)), some (.int x1), some (.int x2)] []) (x1 x2 : Int32) (σ : St) (h : wpBI_X10_standardNow_4 k_4 x1 x2 σ post) : G X (wI E a) σ 4 [some (.ref (a 0)), some (.int x1), some (.int x2)] [] := by
  unfold wpBI_X10_standardNow_4 at h
  refine g_iload_2 C dX10_standardNow_4 rfl ?_
  refine g_aload_0 C dX10_standardNow_5 rfl ?_
  refine fgI_X10_10 C dX10_standardNow_6 ?_
  refine fgI_X10_113 C dX10_standardNow_9 ?_
  refine g_icmp_ge C 33 dX10_standardNow_12 (by decide) (fun q => ?_) (fun q => ?_)
  · have h := h.1 q
    refine g_iload_1 C dX10_standardNow_33 rfl ?_
    exact g_ireturn C hQ dX10_standardNow_34 h
  · have h := h.2 q
    refine g_iload_1 C dX10_standardNow_15 rfl ?_
    refine g_aload_0 C dX10_standardNow_16 rfl ?_
    refine g_iload_2 C dX10_standardNow_17 rfl ?_
    refine g_bipush C (v := 100) (by decide) dX10_standardNow_18 ?_
    refine g_iconst_0 C dX10_standardNow_20 ?_
    refine g_iconst_5 C dX10_standardNow_21 ?_
    refine csI_X10_269 C h ⟨Nat.le_of_ble_eq_true rfl, Nat.le_of_ble_eq_true rfl⟩ (Nat.le_of_ble_eq_true rfl) dX10_standardNow_22 (fun _ _ h => ?_)
    refine g_iadd C dX10_standardNow_25 ?_
    refine g_istore_1 C dX10_standardNow_26 (Nat.le_of_ble_eq_true rfl) ?_
    refine g_iinc C (v := 1) (by decide) dX10_standardNow_27 rfl ?_
    refine g_goto C 4 dX10_standardNow_30 (by decide) ?_
    exact g_wk (hk_4 _ _ _ h) (And.intro rfl (And.intro rfl (And.intro rfl (trivial))))
theorem kI_X10_standardNow_4 {X : Kx} {l : Launch} {E : Ev} {a : Nat → Nat} {post : Int32 → St → Prop} (C : Cx X l E RX10 cX10_standardNow rmI_X10_standardNow (some .int)) (hQ : QI X (wI E a) post) (x1 x2 : Int32) (σ : St) (h : wpI_X10_standardNow_4  x1 x2 σ post) : G X (wI E a) σ 4 [some (.ref (a 0)), some (.int x1), some (.int x2)] [] := by
  obtain ⟨n, h⟩ := h
  exact g_loop (J := fun t : Int32 × Int32 × St => G X (wI E a) t.2.2 4 [some (.ref (a 0)), some (.int t.1), some (.int t.2.1)] []) (fun kb hkb t ht => kBI_X10_standardNow_4 C hQ  (fun x1 x2 σ => kb (x1, x2, σ)) (fun x1 x2 σ hh => hkb (x1, x2, σ) hh) t.1 t.2.1 t.2.2 ht) n (x1, x2, σ) h
def wpI_X10_standardNow (σ : St) (post : Int32 → St → Prop) : Prop := wpI_X10_standardNow_4 0 0 σ post
theorem kI_X10_standardNow {X : Kx} {l : Launch} {E : Ev} {a : Nat → Nat} {post : Int32 → St → Prop} (C : Cx X l E RX10 cX10_standardNow rmI_X10_standardNow (some .int)) (hQ : QI X (wI E a) post) (σ : St) (h : wpI_X10_standardNow  σ post) : G X (wI E a) σ 0 [some (.ref (a 0)), none, none] [] := by
  unfold wpI_X10_standardNow at h
  refine g_iconst_0 C dX10_standardNow_0 ?_
  refine g_istore_1 C dX10_standardNow_1 (Nat.le_of_ble_eq_true rfl) ?_
  refine g_iconst_0 C dX10_standardNow_2 ?_
  refine g_istore_2 C dX10_standardNow_3 (Nat.le_of_ble_eq_true rfl) ?_
  exact g_wk (kI_X10_standardNow_4 C hQ _ _ _ h) (And.intro rfl (And.intro rfl (And.intro rfl (trivial))))
theorem cI_X10_standardNow {l : Launch} {E : Ev} {a : Nat → Nat} {σ : St} {post : Int32 → St → Prop} (h : wpI_X10_standardNow  σ post) : CI l E (wI E a) yX10_standardNow cX10_standardNow 3 .int rmI_X10_standardNow [.ref (a 0)] σ post := met_i (by decide) rfl (Nat.le_of_ble_eq_true rfl) rfl (fun X C hQ => kI_X10_standardNow C hQ _ h)
theorem csI_X10_126 {X : Kx} {l : Launch} {E : Ev} {a : Nat → Nat} {σ : St} {cc : ByteArray} {rm : Room} {ret : Option FieldType} {pc : Nat} {lv : List (Option Value)} {rest : List Value} {post : Int32 → St → Prop} (C : Cx X l E RX10 cc rm ret) (h : wpI_X10_standardNow  σ post) (hR : 3 + 1 ≤ rm.frames ∧ 8 + (3 + 11) + 70 ≤ rm.locals) (hW : (rest.map fun v => v.category).sum ≤ 8) (d : decode cc pc = .ok (.invokevirtual 126, 3)) (k : ∀ (r : Int32) (u : St), post r u → G X (wI E a) u (pc + 3) lv (.int r :: rest)) : G X (wI E a) σ pc lv (.ref (a 0) :: rest) := g_callVi C 0 (As := []) (rest := rest) (Cn := RX10) (T := TX10) (N := 8) (q0 := 0) (ci := 9) (by decide +kernel) (by decide +kernel) (by decide +kernel) (by decide +kernel) (by decide +kernel) (by decide +kernel) rfl rfl (cI_X10_standardNow h) ⟨rfl, rfl⟩ hR rfl rfl hW d k
/-! IceRun.standard()I -/
abbrev rmI_X10_standard : Room := { frames := 4, cells := 0, slots := 0, locals := 92 }
def wpI_X10_standard (σ : St) (post : Int32 → St → Prop) : Prop := wpI_X10_standardNow  σ (fun r2 σ1 => post r2 σ1)
theorem kI_X10_standard {X : Kx} {l : Launch} {E : Ev} {a : Nat → Nat} {post : Int32 → St → Prop} (C : Cx X l E RX10 cX10_standard rmI_X10_standard (some .int)) (hQ : QI X (wI E a) post) (σ : St) (h : wpI_X10_standard  σ post) : G X (wI E a) σ 0 [some (.ref (a 0))] [] := by
  unfold wpI_X10_standard at h
  refine g_aload_0 C dX10_standard_0 rfl ?_
  refine csI_X10_126 C h ⟨Nat.le_of_ble_eq_true rfl, Nat.le_of_ble_eq_true rfl⟩ (Nat.le_of_ble_eq_true rfl) dX10_standard_1 (fun _ _ h => ?_)
  exact g_ireturn C hQ dX10_standard_4 h
theorem cI_X10_standard {l : Launch} {E : Ev} {a : Nat → Nat} {σ : St} {post : Int32 → St → Prop} (h : wpI_X10_standard  σ post) : CI l E (wI E a) yX10_standard cX10_standard 1 .int rmI_X10_standard [.ref (a 0)] σ post := met_i (by decide) rfl (Nat.le_of_ble_eq_true rfl) rfl (fun X C hQ => kI_X10_standard C hQ _ h)
theorem fgI_X10_130 {X : Kx} {l : Launch} {E : Ev} {a : Nat → Nat} {σ : St} {cc : ByteArray} {rm : Room} {ret : Option FieldType} {pc : Nat} {lv : List (Option Value)} {st : List Value} (C : Cx X l E RX10 cc rm ret) (d : decode cc pc = .ok (.getfield 130, 3)) (k : G X (wI E a) σ (pc + 3) lv (.int (σ.1 101) :: st)) : G X (wI E a) σ pc lv (.ref (a 100) :: st) := g_getN C (host := "IceRun") (q0 := 1) (ci := 8) (k := 1) rfl rfl inU_X8 (by decide) (by decide +kernel) rfl d k
theorem csI_X10_133 {X : Kx} {l : Launch} {E : Ev} {a : Nat → Nat} {σ : St} {cc : ByteArray} {rm : Room} {ret : Option FieldType} {pc : Nat} {lv : List (Option Value)} {rest : List Value} {x0 x1 x2 : Int32} {post : St → Prop} (C : Cx X l E RX10 cc rm ret) (h : wpI_X8_setEye x0 x1 x2 σ post) (hR : 0 + 1 ≤ rm.frames ∧ 8 + (4 + 11) + 0 ≤ rm.locals) (hW : (rest.map fun v => v.category).sum ≤ 8) (d : decode cc pc = .ok (.invokevirtual 133, 3)) (k : ∀ u : St, post u → G X (wI E a) u (pc + 3) lv rest) : G X (wI E a) σ pc lv (.int x2 :: .int x1 :: .int x0 :: .ref (a 100) :: rest) := g_callVv C 3 (As := [.int x0, .int x1, .int x2]) (rest := rest) (Cn := RX8) (T := TX8) (N := 9) (q0 := 1) (ci := 8) (by decide +kernel) (by decide +kernel) (by decide +kernel) (by decide +kernel) (by decide +kernel) (by decide +kernel) rfl rfl (cI_X8_setEye h) ⟨rfl, rfl⟩ hR rfl rfl hW d k
/-! IceRun.eye(III)Z -/
abbrev rmI_X10_eye : Room := { frames := 1, cells := 0, slots := 0, locals := 23 }
def wpI_X10_eye_55 (σ : St) (post : Int32 → St → Prop) : Prop := post 0 σ
theorem kI_X10_eye_55 {X : Kx} {l : Launch} {E : Ev} {a : Nat → Nat} {post : Int32 → St → Prop} (C : Cx X l E RX10 cX10_eye rmI_X10_eye (some .boolean)) (hQ : QI X (wI E a) post) (σ : St) (h : wpI_X10_eye_55   σ post) : G X (wI E a) σ 55 [none, none, none, none, none] [] := by
  unfold wpI_X10_eye_55 at h
  refine g_iconst_0 C dX10_eye_55 ?_
  exact g_zreturn C hQ dX10_eye_56 (Or.inl rfl) h
def wpI_X10_eye_22 (x1 x2 x3 s0 : Int32) (σ : St) (post : Int32 → St → Prop) : Prop := ((s0 = 0 → wpI_X10_eye_55 σ post) ∧ (¬ s0 = 0 → wpI_X10_within x1 1 ((σ.1 101) - 1) σ (fun r2 σ1 => ((r2 = 0 → wpI_X10_eye_55 σ1 post) ∧ (¬ r2 = 0 → wpI_X10_within x2 0 1 σ1 (fun r4 σ3 => ((¬ r4 = 0 → wpI_X8_setEye x1 x2 x3 σ3 (fun σ5 => post 1 σ5)) ∧ (r4 = 0 → wpI_X10_eye_55 σ3 post))))))))
theorem kI_X10_eye_22 {X : Kx} {l : Launch} {E : Ev} {a : Nat → Nat} {post : Int32 → St → Prop} (C : Cx X l E RX10 cX10_eye rmI_X10_eye (some .boolean)) (hQ : QI X (wI E a) post) (x1 x2 x3 s0 : Int32) (σ : St) (h : wpI_X10_eye_22  x1 x2 x3 s0 σ post) : G X (wI E a) σ 22 [some (.ref (a 0)), some (.int x1), some (.int x2), some (.int x3), none] [.int s0] := by
  unfold wpI_X10_eye_22 at h
  refine g_istore C dX10_eye_22 (Nat.le_of_ble_eq_true rfl) ?_
  refine g_iload C dX10_eye_24 rfl ?_
  refine g_if_eq C 55 dX10_eye_26 (by decide) (fun q => ?_) (fun q => ?_)
  · have h := h.1 q
    exact g_wk (kI_X10_eye_55 C hQ _ h) (trivial)
  · have h := h.2 q
    refine g_iload_1 C dX10_eye_29 rfl ?_
    refine g_iconst_1 C dX10_eye_30 ?_
    refine g_aload_0 C dX10_eye_31 rfl ?_
    refine fgI_X10_10 C dX10_eye_32 ?_
    refine fgI_X10_130 C dX10_eye_35 ?_
    refine g_iconst_1 C dX10_eye_38 ?_
    refine g_isub C dX10_eye_39 ?_
    refine csI_X10_62 C h ⟨Nat.le_of_ble_eq_true rfl, Nat.le_of_ble_eq_true rfl⟩ (Nat.le_of_ble_eq_true rfl) dX10_eye_40 (fun _ _ h => ?_)
    refine g_if_eq C 55 dX10_eye_43 (by decide) (fun q => ?_) (fun q => ?_)
    · have h := h.1 q
      exact g_wk (kI_X10_eye_55 C hQ _ h) (trivial)
    · have h := h.2 q
      refine g_iload_2 C dX10_eye_46 rfl ?_
      refine g_iconst_0 C dX10_eye_47 ?_
      refine g_iconst_1 C dX10_eye_48 ?_
      refine csI_X10_62 C h ⟨Nat.le_of_ble_eq_true rfl, Nat.le_of_ble_eq_true rfl⟩ (Nat.le_of_ble_eq_true rfl) dX10_eye_49 (fun _ _ h => ?_)
      refine g_if_ne C 57 dX10_eye_52 (by decide) (fun q => ?_) (fun q => ?_)
      · have h := h.1 q
        refine g_aload_0 C dX10_eye_57 rfl ?_
        refine fgI_X10_10 C dX10_eye_58 ?_
        refine g_iload_1 C dX10_eye_61 rfl ?_
        refine g_iload_2 C dX10_eye_62 rfl ?_
        refine g_iload_3 C dX10_eye_63 rfl ?_
        refine csI_X10_133 C h ⟨Nat.le_of_ble_eq_true rfl, Nat.le_of_ble_eq_true rfl⟩ (Nat.le_of_ble_eq_true rfl) dX10_eye_64 (fun _ h => ?_)
        refine g_iconst_1 C dX10_eye_67 ?_
        exact g_zreturn C hQ dX10_eye_68 (Or.inr rfl) h
      · have h := h.2 q
        exact g_wk (kI_X10_eye_55 C hQ _ h) (trivial)
def wpI_X10_eye_17 (x1 x2 x3 : Int32) (σ : St) (post : Int32 → St → Prop) : Prop := wpI_X10_eye_22 x1 x2 x3 1 σ post
theorem kI_X10_eye_17 {X : Kx} {l : Launch} {E : Ev} {a : Nat → Nat} {post : Int32 → St → Prop} (C : Cx X l E RX10 cX10_eye rmI_X10_eye (some .boolean)) (hQ : QI X (wI E a) post) (x1 x2 x3 : Int32) (σ : St) (h : wpI_X10_eye_17  x1 x2 x3 σ post) : G X (wI E a) σ 17 [some (.ref (a 0)), some (.int x1), some (.int x2), some (.int x3), none] [] := by
  unfold wpI_X10_eye_17 at h
  refine g_iconst_1 C dX10_eye_17 ?_
  refine g_goto C 22 dX10_eye_18 (by decide) ?_
  exact g_wk (kI_X10_eye_22 C hQ _ _ _ _ _ h) (And.intro rfl (And.intro rfl (And.intro rfl (And.intro rfl (trivial)))))
def wpI_X10_eye (x1 x2 x3 : Int32) (σ : St) (post : Int32 → St → Prop) : Prop := wpI_X10_within x3 (-50) 50 σ (fun r2 σ1 => ((¬ r2 = 0 → wpI_X10_eye_17 x1 x2 x3 σ1 post) ∧ (r2 = 0 → ((¬ x3 = 100 → wpI_X10_eye_22 x1 x2 x3 0 σ1 post) ∧ (x3 = 100 → wpI_X10_eye_17 x1 x2 x3 σ1 post)))))
theorem kI_X10_eye {X : Kx} {l : Launch} {E : Ev} {a : Nat → Nat} {post : Int32 → St → Prop} (C : Cx X l E RX10 cX10_eye rmI_X10_eye (some .boolean)) (hQ : QI X (wI E a) post) (x1 x2 x3 : Int32) (σ : St) (h : wpI_X10_eye x1 x2 x3 σ post) : G X (wI E a) σ 0 [some (.ref (a 0)), some (.int x1), some (.int x2), some (.int x3), none] [] := by
  unfold wpI_X10_eye at h
  refine g_iload_3 C dX10_eye_0 rfl ?_
  refine g_bipush C (v := (-50)) (by decide) dX10_eye_1 ?_
  refine g_bipush C (v := 50) (by decide) dX10_eye_3 ?_
  refine csI_X10_62 C h ⟨Nat.le_of_ble_eq_true rfl, Nat.le_of_ble_eq_true rfl⟩ (Nat.le_of_ble_eq_true rfl) dX10_eye_5 (fun _ _ h => ?_)
  refine g_if_ne C 17 dX10_eye_8 (by decide) (fun q => ?_) (fun q => ?_)
  · have h := h.1 q
    exact g_wk (kI_X10_eye_17 C hQ _ _ _ _ h) (And.intro rfl (And.intro rfl (And.intro rfl (And.intro rfl (trivial)))))
  · have h := h.2 q
    refine g_iload_3 C dX10_eye_11 rfl ?_
    refine g_bipush C (v := 100) (by decide) dX10_eye_12 ?_
    refine g_icmp_ne C 21 dX10_eye_14 (by decide) (fun q => ?_) (fun q => ?_)
    · have h := h.1 q
      refine g_iconst_0 C dX10_eye_21 ?_
      exact g_wk (kI_X10_eye_22 C hQ _ _ _ _ _ h) (And.intro rfl (And.intro rfl (And.intro rfl (And.intro rfl (trivial)))))
    · have h := h.2 q
      exact g_wk (kI_X10_eye_17 C hQ _ _ _ _ h) (And.intro rfl (And.intro rfl (And.intro rfl (And.intro rfl (trivial)))))
theorem cI_X10_eye {l : Launch} {E : Ev} {a : Nat → Nat} {x1 x2 x3 : Int32} {σ : St} {post : Int32 → St → Prop} (h : wpI_X10_eye x1 x2 x3 σ post) : CI l E (wI E a) yX10_eye cX10_eye 5 .boolean rmI_X10_eye [.ref (a 0), .int x1, .int x2, .int x3] σ post := met_i (by decide) rfl (Nat.le_of_ble_eq_true rfl) rfl (fun X C hQ => kI_X10_eye C hQ _ _ _ _ h)
theorem fgI_X10_26 {X : Kx} {l : Launch} {E : Ev} {a : Nat → Nat} {σ : St} {cc : ByteArray} {rm : Room} {ret : Option FieldType} {pc : Nat} {lv : List (Option Value)} {st : List Value} (C : Cx X l E RX10 cc rm ret) (d : decode cc pc = .ok (.getfield 26, 3)) (k : G X (wI E a) σ (pc + 3) lv (.ref (a 300) :: st)) : G X (wI E a) σ pc lv (.ref (a 0) :: st) := g_get C (q0 := 0) (ci := 9) (k := 2) rfl rfl inU_X10 (by decide) (by decide +kernel) rfl d k
theorem fgI_X10_136 {X : Kx} {l : Launch} {E : Ev} {a : Nat → Nat} {σ : St} {cc : ByteArray} {rm : Room} {ret : Option FieldType} {pc : Nat} {lv : List (Option Value)} {st : List Value} (C : Cx X l E RX10 cc rm ret) (d : decode cc pc = .ok (.getfield 136, 3)) (k : G X (wI E a) σ (pc + 3) lv (.int (σ.1 300) :: st)) : G X (wI E a) σ pc lv (.ref (a 300) :: st) := g_getN C (host := "IceRun") (q0 := 17) (ci := 5) (k := 0) rfl rfl inU_X5 (by decide) (by decide +kernel) rfl d k
theorem csI_X10_139 {X : Kx} {l : Launch} {E : Ev} {a : Nat → Nat} {σ : St} {cc : ByteArray} {rm : Room} {ret : Option FieldType} {pc : Nat} {lv : List (Option Value)} {rest : List Value} {x0 x1 x2 x3 : Int32} {post : Int32 → St → Prop} (C : Cx X l E RX10 cc rm ret) (h : wpI_X5_add x0 x1 x2 x3 σ post) (hR : 0 + 1 ≤ rm.frames ∧ 8 + (6 + 11) + 0 ≤ rm.locals) (hW : (rest.map fun v => v.category).sum ≤ 8) (d : decode cc pc = .ok (.invokevirtual 139, 3)) (k : ∀ (r : Int32) (u : St), post r u → G X (wI E a) u (pc + 3) lv (.int r :: rest)) : G X (wI E a) σ pc lv (.int x3 :: .int x2 :: .int x1 :: .int x0 :: .ref (a 300) :: rest) := g_callVi C 4 (As := [.int x0, .int x1, .int x2, .int x3]) (rest := rest) (Cn := RX5) (T := TX5) (N := 6) (q0 := 17) (ci := 5) (by decide +kernel) (by decide +kernel) (by decide +kernel) (by decide +kernel) (by decide +kernel) (by decide +kernel) rfl rfl (cI_X5_add h) ⟨rfl, rfl⟩ hR rfl rfl hW d k
/-! IceRun.sled(IIII)I -/
abbrev rmI_X10_sled : Room := { frames := 1, cells := 0, slots := 0, locals := 25 }
def wpI_X10_sled_65 (σ : St) (post : Int32 → St → Prop) : Prop := post (-1) σ
theorem kI_X10_sled_65 {X : Kx} {l : Launch} {E : Ev} {a : Nat → Nat} {post : Int32 → St → Prop} (C : Cx X l E RX10 cX10_sled rmI_X10_sled (some .int)) (hQ : QI X (wI E a) post) (σ : St) (h : wpI_X10_sled_65   σ post) : G X (wI E a) σ 65 [none, none, none, none, none, none] [] := by
  unfold wpI_X10_sled_65 at h
  refine g_iconst_m1 C dX10_sled_65 ?_
  exact g_ireturn C hQ dX10_sled_66 h
def wpI_X10_sled_46 (x1 x2 x3 x4 s0 : Int32) (σ : St) (post : Int32 → St → Prop) : Prop := ((s0 = 0 → wpI_X10_sled_65 σ post) ∧ (¬ s0 = 0 → (((σ.1 300) < 16 → wpI_X5_add x1 x2 x3 x4 σ (fun r2 σ1 => post r2 σ1)) ∧ (¬ (σ.1 300) < 16 → wpI_X10_sled_65 σ post))))
theorem kI_X10_sled_46 {X : Kx} {l : Launch} {E : Ev} {a : Nat → Nat} {post : Int32 → St → Prop} (C : Cx X l E RX10 cX10_sled rmI_X10_sled (some .int)) (hQ : QI X (wI E a) post) (x1 x2 x3 x4 s0 : Int32) (σ : St) (h : wpI_X10_sled_46  x1 x2 x3 x4 s0 σ post) : G X (wI E a) σ 46 [some (.ref (a 0)), some (.int x1), some (.int x2), some (.int x3), some (.int x4), none] [.int s0] := by
  unfold wpI_X10_sled_46 at h
  refine g_istore C dX10_sled_46 (Nat.le_of_ble_eq_true rfl) ?_
  refine g_iload C dX10_sled_48 rfl ?_
  refine g_if_eq C 65 dX10_sled_50 (by decide) (fun q => ?_) (fun q => ?_)
  · have h := h.1 q
    exact g_wk (kI_X10_sled_65 C hQ _ h) (trivial)
  · have h := h.2 q
    refine g_aload_0 C dX10_sled_53 rfl ?_
    refine fgI_X10_26 C dX10_sled_54 ?_
    refine fgI_X10_136 C dX10_sled_57 ?_
    refine g_bipush C (v := 16) (by decide) dX10_sled_60 ?_
    refine g_icmp_lt C 67 dX10_sled_62 (by decide) (fun q => ?_) (fun q => ?_)
    · have h := h.1 q
      refine g_aload_0 C dX10_sled_67 rfl ?_
      refine fgI_X10_26 C dX10_sled_68 ?_
      refine g_iload_1 C dX10_sled_71 rfl ?_
      refine g_iload_2 C dX10_sled_72 rfl ?_
      refine g_iload_3 C dX10_sled_73 rfl ?_
      refine g_iload C dX10_sled_74 rfl ?_
      refine csI_X10_139 C h ⟨Nat.le_of_ble_eq_true rfl, Nat.le_of_ble_eq_true rfl⟩ (Nat.le_of_ble_eq_true rfl) dX10_sled_76 (fun _ _ h => ?_)
      exact g_ireturn C hQ dX10_sled_79 h
    · have h := h.2 q
      exact g_wk (kI_X10_sled_65 C hQ _ h) (trivial)
def wpI_X10_sled_45 (x1 x2 x3 x4 : Int32) (σ : St) (post : Int32 → St → Prop) : Prop := wpI_X10_sled_46 x1 x2 x3 x4 0 σ post
theorem kI_X10_sled_45 {X : Kx} {l : Launch} {E : Ev} {a : Nat → Nat} {post : Int32 → St → Prop} (C : Cx X l E RX10 cX10_sled rmI_X10_sled (some .int)) (hQ : QI X (wI E a) post) (x1 x2 x3 x4 : Int32) (σ : St) (h : wpI_X10_sled_45  x1 x2 x3 x4 σ post) : G X (wI E a) σ 45 [some (.ref (a 0)), some (.int x1), some (.int x2), some (.int x3), some (.int x4), none] [] := by
  unfold wpI_X10_sled_45 at h
  refine g_iconst_0 C dX10_sled_45 ?_
  exact g_wk (kI_X10_sled_46 C hQ _ _ _ _ _ _ h) (And.intro rfl (And.intro rfl (And.intro rfl (And.intro rfl (And.intro rfl (trivial))))))
def wpI_X10_sled (x1 x2 x3 x4 : Int32) (σ : St) (post : Int32 → St → Prop) : Prop := wpI_X10_within x1 0 3 σ (fun r2 σ1 => ((r2 = 0 → wpI_X10_sled_45 x1 x2 x3 x4 σ1 post) ∧ (¬ r2 = 0 → wpI_X10_within x2 50 200 σ1 (fun r4 σ3 => ((r4 = 0 → wpI_X10_sled_45 x1 x2 x3 x4 σ3 post) ∧ (¬ r4 = 0 → wpI_X10_within x3 0 3 σ3 (fun r6 σ5 => ((r6 = 0 → wpI_X10_sled_45 x1 x2 x3 x4 σ5 post) ∧ (¬ r6 = 0 → wpI_X10_within x4 0 9 σ5 (fun r8 σ7 => ((r8 = 0 → wpI_X10_sled_45 x1 x2 x3 x4 σ7 post) ∧ (¬ r8 = 0 → wpI_X10_sled_46 x1 x2 x3 x4 1 σ7 post))))))))))))
theorem kI_X10_sled {X : Kx} {l : Launch} {E : Ev} {a : Nat → Nat} {post : Int32 → St → Prop} (C : Cx X l E RX10 cX10_sled rmI_X10_sled (some .int)) (hQ : QI X (wI E a) post) (x1 x2 x3 x4 : Int32) (σ : St) (h : wpI_X10_sled x1 x2 x3 x4 σ post) : G X (wI E a) σ 0 [some (.ref (a 0)), some (.int x1), some (.int x2), some (.int x3), some (.int x4), none] [] := by
  unfold wpI_X10_sled at h
  refine g_iload_1 C dX10_sled_0 rfl ?_
  refine g_iconst_0 C dX10_sled_1 ?_
  refine g_iconst_3 C dX10_sled_2 ?_
  refine csI_X10_62 C h ⟨Nat.le_of_ble_eq_true rfl, Nat.le_of_ble_eq_true rfl⟩ (Nat.le_of_ble_eq_true rfl) dX10_sled_3 (fun _ _ h => ?_)
  refine g_if_eq C 45 dX10_sled_6 (by decide) (fun q => ?_) (fun q => ?_)
  · have h := h.1 q
    exact g_wk (kI_X10_sled_45 C hQ _ _ _ _ _ h) (And.intro rfl (And.intro rfl (And.intro rfl (And.intro rfl (And.intro rfl (trivial))))))
  · have h := h.2 q
    refine g_iload_2 C dX10_sled_9 rfl ?_
    refine g_bipush C (v := 50) (by decide) dX10_sled_10 ?_
    refine g_sipush C (v := 200) (by decide) dX10_sled_12 ?_
    refine csI_X10_62 C h ⟨Nat.le_of_ble_eq_true rfl, Nat.le_of_ble_eq_true rfl⟩ (Nat.le_of_ble_eq_true rfl) dX10_sled_15 (fun _ _ h => ?_)
    refine g_if_eq C 45 dX10_sled_18 (by decide) (fun q => ?_) (fun q => ?_)
    · have h := h.1 q
      exact g_wk (kI_X10_sled_45 C hQ _ _ _ _ _ h) (And.intro rfl (And.intro rfl (And.intro rfl (And.intro rfl (And.intro rfl (trivial))))))
    · have h := h.2 q
      refine g_iload_3 C dX10_sled_21 rfl ?_
      refine g_iconst_0 C dX10_sled_22 ?_
      refine g_iconst_3 C dX10_sled_23 ?_
      refine csI_X10_62 C h ⟨Nat.le_of_ble_eq_true rfl, Nat.le_of_ble_eq_true rfl⟩ (Nat.le_of_ble_eq_true rfl) dX10_sled_24 (fun _ _ h => ?_)
      refine g_if_eq C 45 dX10_sled_27 (by decide) (fun q => ?_) (fun q => ?_)
      · have h := h.1 q
        exact g_wk (kI_X10_sled_45 C hQ _ _ _ _ _ h) (And.intro rfl (And.intro rfl (And.intro rfl (And.intro rfl (And.intro rfl (trivial))))))
      · have h := h.2 q
        refine g_iload C dX10_sled_30 rfl ?_
        refine g_iconst_0 C dX10_sled_32 ?_
        refine g_bipush C (v := 9) (by decide) dX10_sled_33 ?_
        refine csI_X10_62 C h ⟨Nat.le_of_ble_eq_true rfl, Nat.le_of_ble_eq_true rfl⟩ (Nat.le_of_ble_eq_true rfl) dX10_sled_35 (fun _ _ h => ?_)
        refine g_if_eq C 45 dX10_sled_38 (by decide) (fun q => ?_) (fun q => ?_)
        · have h := h.1 q
          exact g_wk (kI_X10_sled_45 C hQ _ _ _ _ _ h) (And.intro rfl (And.intro rfl (And.intro rfl (And.intro rfl (And.intro rfl (trivial))))))
        · have h := h.2 q
          refine g_iconst_1 C dX10_sled_41 ?_
          refine g_goto C 46 dX10_sled_42 (by decide) ?_
          exact g_wk (kI_X10_sled_46 C hQ _ _ _ _ _ _ h) (And.intro rfl (And.intro rfl (And.intro rfl (And.intro rfl (And.intro rfl (trivial))))))
theorem cI_X10_sled {l : Launch} {E : Ev} {a : Nat → Nat} {x1 x2 x3 x4 : Int32} {σ : St} {post : Int32 → St → Prop} (h : wpI_X10_sled x1 x2 x3 x4 σ post) : CI l E (wI E a) yX10_sled cX10_sled 6 .int rmI_X10_sled [.ref (a 0), .int x1, .int x2, .int x3, .int x4] σ post := met_i (by decide) rfl (Nat.le_of_ble_eq_true rfl) rfl (fun X C hQ => kI_X10_sled C hQ _ _ _ _ _ h)
theorem fgI_X10_33 {X : Kx} {l : Launch} {E : Ev} {a : Nat → Nat} {σ : St} {cc : ByteArray} {rm : Room} {ret : Option FieldType} {pc : Nat} {lv : List (Option Value)} {st : List Value} (C : Cx X l E RX10 cc rm ret) (d : decode cc pc = .ok (.getfield 33, 3)) (k : G X (wI E a) σ (pc + 3) lv (.ref (a 400) :: st)) : G X (wI E a) σ pc lv (.ref (a 0) :: st) := g_get C (q0 := 0) (ci := 9) (k := 3) rfl rfl inU_X10 (by decide) (by decide +kernel) rfl d k
theorem fgI_X10_143 {X : Kx} {l : Launch} {E : Ev} {a : Nat → Nat} {σ : St} {cc : ByteArray} {rm : Room} {ret : Option FieldType} {pc : Nat} {lv : List (Option Value)} {st : List Value} (C : Cx X l E RX10 cc rm ret) (d : decode cc pc = .ok (.getfield 143, 3)) (k : G X (wI E a) σ (pc + 3) lv (.int (σ.1 400) :: st)) : G X (wI E a) σ pc lv (.ref (a 400) :: st) := g_getN C (host := "IceRun") (q0 := 23) (ci := 7) (k := 0) rfl rfl inU_X7 (by decide) (by decide +kernel) rfl d k
theorem csI_X10_146 {X : Kx} {l : Launch} {E : Ev} {a : Nat → Nat} {σ : St} {cc : ByteArray} {rm : Room} {ret : Option FieldType} {pc : Nat} {lv : List (Option Value)} {rest : List Value} {x0 : Int32} {post : St → Prop} (C : Cx X l E RX10 cc rm ret) (h : wpI_X7_append x0 σ post) (hR : 0 + 1 ≤ rm.frames ∧ 8 + (3 + 11) + 0 ≤ rm.locals) (hW : (rest.map fun v => v.category).sum ≤ 8) (d : decode cc pc = .ok (.invokevirtual 146, 3)) (k : ∀ u : St, post u → G X (wI E a) u (pc + 3) lv rest) : G X (wI E a) σ pc lv (.int x0 :: .ref (a 400) :: rest) := g_callVv C 1 (As := [.int x0]) (rest := rest) (Cn := RX7) (T := TX7) (N := 2) (q0 := 23) (ci := 7) (by decide +kernel) (by decide +kernel) (by decide +kernel) (by decide +kernel) (by decide +kernel) (by decide +kernel) rfl rfl (cI_X7_append h) ⟨rfl, rfl⟩ hR rfl rfl hW d k
/-! IceRun.feed(IIIII)I -/
abbrev rmI_X10_feed : Room := { frames := 1, cells := 0, slots := 0, locals := 22 }
def wpI_X10_feed (x1 x2 x3 x4 x5 : Int32) (σ : St) (post : Int32 → St → Prop) : Prop := (((σ.1 400) ≤ 280 → wpI_X7_append x1 σ (fun σ1 => wpI_X7_append x2 σ1 (fun σ2 => wpI_X7_append x3 σ2 (fun σ3 => wpI_X7_append x4 σ3 (fun σ4 => wpI_X7_append x5 σ4 (fun σ5 => post (σ5.1 400) σ5)))))) ∧ (¬ (σ.1 400) ≤ 280 → post (-1) σ))
theorem kI_X10_feed {X : Kx} {l : Launch} {E : Ev} {a : Nat → Nat} {post : Int32 → St → Prop} (C : Cx X l E RX10 cX10_feed rmI_X10_feed (some .int)) (hQ : QI X (wI E a) post) (x1 x2 x3 x4 x5 : Int32) (σ : St) (h : wpI_X10_feed x1 x2 x3 x4 x5 σ post) : G X (wI E a) σ 0 [some (.ref (a 0)), some (.int x1), some (.int x2), some (.int x3), some (.int x4), some (.int x5)] [] := by
  unfold wpI_X10_feed at h
  refine g_aload_0 C dX10_feed_0 rfl ?_
  refine fgI_X10_33 C dX10_feed_1 ?_
  refine fgI_X10_143 C dX10_feed_4 ?_
  refine g_sipush C (v := 280) (by decide) dX10_feed_7 ?_
  refine g_icmp_le C 15 dX10_feed_10 (by decide) (fun q => ?_) (fun q => ?_)
  · have h := h.1 q
    refine g_aload_0 C dX10_feed_15 rfl ?_
    refine fgI_X10_33 C dX10_feed_16 ?_
    refine g_iload_1 C dX10_feed_19 rfl ?_
    refine csI_X10_146 C h ⟨Nat.le_of_ble_eq_true rfl, Nat.le_of_ble_eq_true rfl⟩ (Nat.le_of_ble_eq_true rfl) dX10_feed_20 (fun _ h => ?_)
    refine g_aload_0 C dX10_feed_23 rfl ?_
    refine fgI_X10_33 C dX10_feed_24 ?_
    refine g_iload_2 C dX10_feed_27 rfl ?_
    refine csI_X10_146 C h ⟨Nat.le_of_ble_eq_true rfl, Nat.le_of_ble_eq_true rfl⟩ (Nat.le_of_ble_eq_true rfl) dX10_feed_28 (fun _ h => ?_)
    refine g_aload_0 C dX10_feed_31 rfl ?_
    refine fgI_X10_33 C dX10_feed_32 ?_
    refine g_iload_3 C dX10_feed_35 rfl ?_
    refine csI_X10_146 C h ⟨Nat.le_of_ble_eq_true rfl, Nat.le_of_ble_eq_true rfl⟩ (Nat.le_of_ble_eq_true rfl) dX10_feed_36 (fun _ h => ?_)
    refine g_aload_0 C dX10_feed_39 rfl ?_
    refine fgI_X10_33 C dX10_feed_40 ?_
    refine g_iload C dX10_feed_43 rfl ?_
    refine csI_X10_146 C h ⟨Nat.le_of_ble_eq_true rfl, Nat.le_of_ble_eq_true rfl⟩ (Nat.le_of_ble_eq_true rfl) dX10_feed_45 (fun _ h => ?_)
    refine g_aload_0 C dX10_feed_48 rfl ?_
    refine fgI_X10_33 C dX10_feed_49 ?_
    refine g_iload C dX10_feed_52 rfl ?_
    refine csI_X10_146 C h ⟨Nat.le_of_ble_eq_true rfl, Nat.le_of_ble_eq_true rfl⟩ (Nat.le_of_ble_eq_true rfl) dX10_feed_54 (fun _ h => ?_)
    refine g_aload_0 C dX10_feed_57 rfl ?_
    refine fgI_X10_33 C dX10_feed_58 ?_
    refine fgI_X10_143 C dX10_feed_61 ?_
    exact g_ireturn C hQ dX10_feed_64 h
  · have h := h.2 q
    refine g_iconst_m1 C dX10_feed_13 ?_
    exact g_ireturn C hQ dX10_feed_14 h
theorem cI_X10_feed {l : Launch} {E : Ev} {a : Nat → Nat} {x1 x2 x3 x4 x5 : Int32} {σ : St} {post : Int32 → St → Prop} (h : wpI_X10_feed x1 x2 x3 x4 x5 σ post) : CI l E (wI E a) yX10_feed cX10_feed 6 .int rmI_X10_feed [.ref (a 0), .int x1, .int x2, .int x3, .int x4, .int x5] σ post := met_i (by decide) rfl (Nat.le_of_ble_eq_true rfl) rfl (fun X C hQ => kI_X10_feed C hQ _ _ _ _ _ _ h)

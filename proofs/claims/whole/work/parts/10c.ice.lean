theorem fgI_X4_15 {X : Kx} {l : Launch} {E : Ev} {a : Nat → Nat} {σ : St} {cc : ByteArray} {rm : Room} {ret : Option FieldType} {pc : Nat} {lv : List (Option Value)} {st : List Value} (C : Cx X l E RX4 cc rm ret) (d : decode cc pc = .ok (.getfield 15, 3)) (k : G X (wI E a) σ (pc + 3) lv (.ref (a 802) :: st)) : G X (wI E a) σ pc lv (.ref (a 800) :: st) := g_get C (q0 := 35) (ci := 4) (k := 1) rfl rfl inU_X4 (by decide) (by decide +kernel) rfl d k
theorem asI_801 {X : Kx} {l : Launch} {E : Ev} {a : Nat → Nat} {σ : St} {cc : ByteArray} {rm : Room} {ret : Option FieldType} {pc : Nat} {lv : List (Option Value)} {st : List Value} {own : String} {i x : Int32} (C : Cx X l E own cc rm ret) (hin : vp_in i 64) (d : decode cc pc = .ok (.iastore, 1)) (k : G X (wI E a) (pA σ 801 i.toNatClampNeg x) (pc + 1) lv st) : G X (wI E a) σ pc lv (.int x :: .int i :: .ref (a 802) :: st) := g_iast C (q0 := 37) rfl rfl hin d k
theorem csI_X4_40 {X : Kx} {l : Launch} {E : Ev} {a : Nat → Nat} {σ : St} {cc : ByteArray} {rm : Room} {ret : Option FieldType} {pc : Nat} {lv : List (Option Value)} {rest : List Value} {x0 x1 x2 : Int32} {post : Int32 → St → Prop} (C : Cx X l E RX4 cc rm ret) (h : wpI_X4_isTimed x0 x1 x2 σ post) (hR : 3 + 1 ≤ rm.frames ∧ 8 + (4 + 11) + 66 ≤ rm.locals) (hW : (rest.map fun v => v.category).sum ≤ 8) (d : decode cc pc = .ok (.invokevirtual 40, 3)) (k : ∀ (r : Int32) (u : St), post r u → G X (wI E a) u (pc + 3) lv (.int r :: rest)) : G X (wI E a) σ pc lv (.int x2 :: .int x1 :: .int x0 :: .ref (a 800) :: rest) := g_callVi C 3 (As := [.int x0, .int x1, .int x2]) (rest := rest) (Cn := RX4) (T := TX4) (N := 5) (q0 := 35) (ci := 4) (by decide +kernel) (by decide +kernel) (by decide +kernel) (by decide +kernel) (by decide +kernel) (by decide +kernel) rfl rfl (cI_X4_isTimed h) ⟨rfl, rfl⟩ hR rfl rfl hW d k
/-! IceRun$Sheet.addUp(III)V -/
abbrev rmI_X4_addUp : Room := { frames := 4, cells := 0, slots := 0, locals := 89 }
def wpI_X4_addUp_48 (x1 x2 x4 s0 : Int32) (σ : St) (post : St → Prop) : Prop := wpI_X4_line x1 x2 σ (fun r2 σ1 => wpI_X4_timeAt x1 x2 x4 σ1 (fun r4 σ3 => vp_in r2 64 ∧ (let σ5 : St := pA σ3 801 (Int32.toNatClampNeg r2) (r4 + s0); post σ5)))
theorem kI_X4_addUp_48 {X : Kx} {l : Launch} {E : Ev} {a : Nat → Nat} {post : St → Prop} (C : Cx X l E RX4 cX4_addUp rmI_X4_addUp none) (hQ : QV X (wI E a) post) (x1 x2 x4 s0 : Int32) (σ : St) (h : wpI_X4_addUp_48  x1 x2 x4 s0 σ post) : G X (wI E a) σ 48 [some (.ref (a 800)), some (.int x1), some (.int x2), none, some (.int x4), none] [.int s0] := by
  unfold wpI_X4_addUp_48 at h
  refine g_istore C dX4_addUp_48 (Nat.le_of_ble_eq_true rfl) ?_
  refine g_aload_0 C dX4_addUp_50 rfl ?_
  refine fgI_X4_15 C dX4_addUp_51 ?_
  refine g_iload_1 C dX4_addUp_54 rfl ?_
  refine g_iload_2 C dX4_addUp_55 rfl ?_
  refine csI_X4_28 C h ⟨Nat.le_of_ble_eq_true rfl, Nat.le_of_ble_eq_true rfl⟩ (Nat.le_of_ble_eq_true rfl) dX4_addUp_56 (fun _ _ h => ?_)
  refine g_aload_0 C dX4_addUp_59 rfl ?_
  refine g_iload_1 C dX4_addUp_60 rfl ?_
  refine g_iload_2 C dX4_addUp_61 rfl ?_
  refine g_iload C dX4_addUp_62 rfl ?_
  refine csI_X4_44 C h ⟨Nat.le_of_ble_eq_true rfl, Nat.le_of_ble_eq_true rfl⟩ (Nat.le_of_ble_eq_true rfl) dX4_addUp_64 (fun _ _ h => ?_)
  refine g_iload C dX4_addUp_67 rfl ?_
  refine g_iadd C dX4_addUp_69 ?_
  obtain ⟨q, h⟩ := h
  refine asI_801 C q dX4_addUp_70 ?_
  exact g_return C hQ dX4_addUp_71 h
def wpI_X4_addUp_27 (k_6 : Int32 → Int32 → Int32 → Int32 → Int32 → St → Prop) (x1 x2 x3 x4 x5 : Int32) (σ : St) (post : St → Prop) : Prop := let y1 : Int32 := x5 + 1; k_6 x1 x2 x3 x4 y1 σ
theorem kI_X4_addUp_27 {X : Kx} {l : Launch} {E : Ev} {a : Nat → Nat} {post : St → Prop} (C : Cx X l E RX4 cX4_addUp rmI_X4_addUp none) (hQ : QV X (wI E a) post) (k_6 : Int32 → Int32 → Int32 → Int32 → Int32 → St → Prop) (hk_6 : ∀ (x1 x2 x3 x4 x5 : Int32) (σ : St), k_6 x1 x2 x3 x4 x5 σ → G X (wI E a) σ 6 [some (.ref (a 800)), some (.int x1), some (.int x2), some (.int x3), some (.int x4), some (.int x5)] []) (x1 x2 x3 x4 x5 : Int32) (σ : St) (h : wpI_X4_addUp_27 k_6 x1 x2 x3 x4 x5 σ post) : G X (wI E a) σ 27 [some (.ref (a 800)), some (.int x1), some (.int x2), some (.int x3), some (.int x4), some (.int x5)] [] := by
  unfold wpI_X4_addUp_27 at h
  refine g_iinc C (v := 1) (by decide) dX4_addUp_27 rfl ?_
  refine g_goto C 6 dX4_addUp_30 (by decide) ?_
  exact g_wk (hk_6 _ _ _ _ _ _ h) (And.intro rfl (And.intro rfl (And.intro rfl (And.intro rfl (And.intro rfl (And.intro rfl (trivial)))))))
def wpBI_X4_addUp_6 (k_6 : Int32 → Int32 → Int32 → Int32 → Int32 → St → Prop) (x1 x2 x3 x4 x5 : Int32) (σ : St) (post : St → Prop) : Prop := ((x3 ≤ x5 → ((¬ x4 = (x3 - 1) → wpI_X4_addUp_48 x1 x2 x4 10000 σ post) ∧ (x4 = (x3 - 1) → wpI_X4_addUp_48 x1 x2 x4 0 σ post))) ∧ (¬ x3 ≤ x5 → wpI_X4_isTimed x1 x2 x5 σ (fun r2 σ1 => ((r2 = 0 → wpI_X4_addUp_27 k_6 x1 x2 x3 x4 x5 σ1 post) ∧ (¬ r2 = 0 → wpI_X4_addUp_27 k_6 x1 x2 x3 x5 x5 σ1 post)))))
def wpI_X4_addUp_6 (x1 x2 x3 x4 x5 : Int32) (σ : St) (post : St → Prop) : Prop := ∃ n : Nat, lpN (α := Int32 × Int32 × Int32 × Int32 × Int32 × St) (fun kb t => wpBI_X4_addUp_6 (fun x1 x2 x3 x4 x5 σ => kb (x1, x2, x3, x4, x5, σ)) t.1 t.2.1 t.2.2.1 t.2.2.2.1 t.2.2.2.2.1 t.2.2.2.2.2 post) n (x1, x2, x3, x4, x5, σ)
theorem kBI_X4_addUp_6 {X : Kx} {l : Launch} {E : Ev} {a : Nat → Nat} {post : St → Prop} (C : Cx X l E RX4 cX4_addUp rmI_X4_addUp none) (hQ : QV X (wI E a) post) (k_6 : Int32 → Int32 → Int32 → Int32 → Int32 → St → Prop) (hk_6 : ∀ (x1 x2 x3 x4 x5 : Int32) (σ : St), k_6 x1 x2 x3 x4 x5 σ → G X (wI E a) σ 6 [some (.ref (a 800)), some (.int x1), some (.int x2), some (.int x3), some (.int x4), some (.int x5)] []) (x1 x2 x3 x4 x5 : Int32) (σ : St) (h : wpBI_X4_addUp_6 k_6 x1 x2 x3 x4 x5 σ post) : G X (wI E a) σ 6 [some (.ref (a 800)), some (.int x1), some (.int x2), some (.int x3), some (.int x4), some (.int x5)] [] := by
  unfold wpBI_X4_addUp_6 at h
  refine g_iload C dX4_addUp_6 rfl ?_
  refine g_iload_3 C dX4_addUp_8 rfl ?_
  refine g_icmp_ge C 33 dX4_addUp_9 (by decide) (fun q => ?_) (fun q => ?_)
  · have h := h.1 q
    refine g_iload C dX4_addUp_33 rfl ?_
    refine g_iload_3 C dX4_addUp_35 rfl ?_
    refine g_iconst_1 C dX4_addUp_36 ?_
    refine g_isub C dX4_addUp_37 ?_
    refine g_icmp_ne C 45 dX4_addUp_38 (by decide) (fun q => ?_) (fun q => ?_)
    · have h := h.1 q
      refine g_sipush C (v := 10000) (by decide) dX4_addUp_45 ?_
      exact g_wk (kI_X4_addUp_48 C hQ _ _ _ _ _ h) (And.intro rfl (And.intro rfl (And.intro rfl (And.intro rfl (trivial)))))
    · have h := h.2 q
      refine g_iconst_0 C dX4_addUp_41 ?_
      refine g_goto C 48 dX4_addUp_42 (by decide) ?_
      exact g_wk (kI_X4_addUp_48 C hQ _ _ _ _ _ h) (And.intro rfl (And.intro rfl (And.intro rfl (And.intro rfl (trivial)))))
  · have h := h.2 q
    refine g_aload_0 C dX4_addUp_12 rfl ?_
    refine g_iload_1 C dX4_addUp_13 rfl ?_
    refine g_iload_2 C dX4_addUp_14 rfl ?_
    refine g_iload C dX4_addUp_15 rfl ?_
    refine csI_X4_40 C h ⟨Nat.le_of_ble_eq_true rfl, Nat.le_of_ble_eq_true rfl⟩ (Nat.le_of_ble_eq_true rfl) dX4_addUp_17 (fun _ _ h => ?_)
    refine g_if_eq C 27 dX4_addUp_20 (by decide) (fun q => ?_) (fun q => ?_)
    · have h := h.1 q
      exact g_wk (kI_X4_addUp_27 C hQ _ hk_6 _ _ _ _ _ _ h) (And.intro rfl (And.intro rfl (And.intro rfl (And.intro rfl (And.intro rfl (And.intro rfl (trivial)))))))
    · have h := h.2 q
      refine g_iload C dX4_addUp_23 rfl ?_
      refine g_istore C dX4_addUp_25 (Nat.le_of_ble_eq_true rfl) ?_
      exact g_wk (kI_X4_addUp_27 C hQ _ hk_6 _ _ _ _ _ _ h) (And.intro rfl (And.intro rfl (And.intro rfl (And.intro rfl (And.intro rfl (And.intro rfl (trivial)))))))
theorem kI_X4_addUp_6 {X : Kx} {l : Launch} {E : Ev} {a : Nat → Nat} {post : St → Prop} (C : Cx X l E RX4 cX4_addUp rmI_X4_addUp none) (hQ : QV X (wI E a) post) (x1 x2 x3 x4 x5 : Int32) (σ : St) (h : wpI_X4_addUp_6  x1 x2 x3 x4 x5 σ post) : G X (wI E a) σ 6 [some (.ref (a 800)), some (.int x1), some (.int x2), some (.int x3), some (.int x4), some (.int x5)] [] := by
  obtain ⟨n, h⟩ := h
  exact g_loop (J := fun t : Int32 × Int32 × Int32 × Int32 × Int32 × St => G X (wI E a) t.2.2.2.2.2 6 [some (.ref (a 800)), some (.int t.1), some (.int t.2.1), some (.int t.2.2.1), some (.int t.2.2.2.1), some (.int t.2.2.2.2.1)] []) (fun kb hkb t ht => kBI_X4_addUp_6 C hQ  (fun x1 x2 x3 x4 x5 σ => kb (x1, x2, x3, x4, x5, σ)) (fun x1 x2 x3 x4 x5 σ hh => hkb (x1, x2, x3, x4, x5, σ) hh) t.1 t.2.1 t.2.2.1 t.2.2.2.1 t.2.2.2.2.1 t.2.2.2.2.2 ht) n (x1, x2, x3, x4, x5, σ) h
def wpI_X4_addUp (x1 x2 x3 : Int32) (σ : St) (post : St → Prop) : Prop := wpI_X4_addUp_6 x1 x2 x3 0 1 σ post
theorem kI_X4_addUp {X : Kx} {l : Launch} {E : Ev} {a : Nat → Nat} {post : St → Prop} (C : Cx X l E RX4 cX4_addUp rmI_X4_addUp none) (hQ : QV X (wI E a) post) (x1 x2 x3 : Int32) (σ : St) (h : wpI_X4_addUp x1 x2 x3 σ post) : G X (wI E a) σ 0 [some (.ref (a 800)), some (.int x1), some (.int x2), some (.int x3), none, none] [] := by
  unfold wpI_X4_addUp at h
  refine g_iconst_0 C dX4_addUp_0 ?_
  refine g_istore C dX4_addUp_1 (Nat.le_of_ble_eq_true rfl) ?_
  refine g_iconst_1 C dX4_addUp_3 ?_
  refine g_istore C dX4_addUp_4 (Nat.le_of_ble_eq_true rfl) ?_
  exact g_wk (kI_X4_addUp_6 C hQ _ _ _ _ _ _ h) (And.intro rfl (And.intro rfl (And.intro rfl (And.intro rfl (And.intro rfl (And.intro rfl (trivial)))))))
theorem cI_X4_addUp {l : Launch} {E : Ev} {a : Nat → Nat} {x1 x2 x3 : Int32} {σ : St} {post : St → Prop} (h : wpI_X4_addUp x1 x2 x3 σ post) : CV l E (wI E a) yX4_addUp cX4_addUp 6 rmI_X4_addUp [.ref (a 800), .int x1, .int x2, .int x3] σ post := met_v (by decide) rfl (Nat.le_of_ble_eq_true rfl) rfl (fun X C hQ => kI_X4_addUp C hQ _ _ _ _ h)
theorem csI_X4_47 {X : Kx} {l : Launch} {E : Ev} {a : Nat → Nat} {σ : St} {cc : ByteArray} {rm : Room} {ret : Option FieldType} {pc : Nat} {lv : List (Option Value)} {rest : List Value} {x0 x1 x2 : Int32} {post : Int32 → St → Prop} (C : Cx X l E RX4 cc rm ret) (h : wpI_X10_within x0 x1 x2 σ post) (hR : 0 + 1 ≤ rm.frames ∧ 8 + (3 + 11) + 0 ≤ rm.locals) (hW : (rest.map fun v => v.category).sum ≤ 8) (d : decode cc pc = .ok (.invokestatic 47, 3)) (k : ∀ (r : Int32) (u : St), post r u → G X (wI E a) u (pc + 3) lv (.int r :: rest)) : G X (wI E a) σ pc lv (.int x2 :: .int x1 :: .int x0 :: rest) := g_callSNi C 3 (host := "IceRun") (As := [.int x0, .int x1, .int x2]) (rest := rest) (by decide +kernel) (by decide +kernel) (by decide +kernel) (by decide +kernel) (by decide +kernel) (cI_X10_within h) ⟨rfl, rfl⟩ hR rfl rfl hW d k
theorem alI_800 {X : Kx} {l : Launch} {E : Ev} {a : Nat → Nat} {σ : St} {cc : ByteArray} {rm : Room} {ret : Option FieldType} {pc : Nat} {lv : List (Option Value)} {st : List Value} {own : String} {i : Int32} (C : Cx X l E own cc rm ret) (hin : vp_in i 64) (d : decode cc pc = .ok (.baload, 1)) (k : G X (wI E a) σ (pc + 1) lv (.int (σ.2 800 i.toNatClampNeg) :: st)) : G X (wI E a) σ pc lv (.int i :: .ref (a 801) :: st) := g_zald C (q0 := 36) rfl hin d k
/-! IceRun$Sheet.hasDown(II)Z -/
abbrev rmI_X4_hasDown : Room := { frames := 1, cells := 0, slots := 0, locals := 22 }
def wpI_X4_hasDown_37 (s0 : Int32) (σ : St) (post : Int32 → St → Prop) : Prop := (s0 = 0 ∨ s0 = 1) ∧ post s0 σ
theorem kI_X4_hasDown_37 {X : Kx} {l : Launch} {E : Ev} {a : Nat → Nat} {post : Int32 → St → Prop} (C : Cx X l E RX4 cX4_hasDown rmI_X4_hasDown (some .boolean)) (hQ : QI X (wI E a) post) (s0 : Int32) (σ : St) (h : wpI_X4_hasDown_37  s0 σ post) : G X (wI E a) σ 37 [none, none, none] [.int s0] := by
  unfold wpI_X4_hasDown_37 at h
  exact g_zreturn C hQ dX4_hasDown_37 h.1 h.2
def wpI_X4_hasDown_36 (σ : St) (post : Int32 → St → Prop) : Prop := wpI_X4_hasDown_37 0 σ post
theorem kI_X4_hasDown_36 {X : Kx} {l : Launch} {E : Ev} {a : Nat → Nat} {post : Int32 → St → Prop} (C : Cx X l E RX4 cX4_hasDown rmI_X4_hasDown (some .boolean)) (hQ : QI X (wI E a) post) (σ : St) (h : wpI_X4_hasDown_36   σ post) : G X (wI E a) σ 36 [none, none, none] [] := by
  unfold wpI_X4_hasDown_36 at h
  refine g_iconst_0 C dX4_hasDown_36 ?_
  exact g_wk (kI_X4_hasDown_37 C hQ _ _ h) (trivial)
def wpI_X4_hasDown (x1 x2 : Int32) (σ : St) (post : Int32 → St → Prop) : Prop := wpI_X10_within x1 0 3 σ (fun r2 σ1 => ((r2 = 0 → wpI_X4_hasDown_36 σ1 post) ∧ (¬ r2 = 0 → wpI_X10_within x2 0 15 σ1 (fun r4 σ3 => ((r4 = 0 → wpI_X4_hasDown_36 σ3 post) ∧ (¬ r4 = 0 → wpI_X4_line x1 x2 σ3 (fun r6 σ5 => vp_in r6 64 ∧ ((((σ5.2 800 (Int32.toNatClampNeg r6)) = 0 → wpI_X4_hasDown_36 σ5 post) ∧ (¬ (σ5.2 800 (Int32.toNatClampNeg r6)) = 0 → wpI_X4_hasDown_37 1 σ5 post))))))))))
theorem kI_X4_hasDown {X : Kx} {l : Launch} {E : Ev} {a : Nat → Nat} {post : Int32 → St → Prop} (C : Cx X l E RX4 cX4_hasDown rmI_X4_hasDown (some .boolean)) (hQ : QI X (wI E a) post) (x1 x2 : Int32) (σ : St) (h : wpI_X4_hasDown x1 x2 σ post) : G X (wI E a) σ 0 [some (.ref (a 800)), some (.int x1), some (.int x2)] [] := by
  unfold wpI_X4_hasDown at h
  refine g_iload_1 C dX4_hasDown_0 rfl ?_
  refine g_iconst_0 C dX4_hasDown_1 ?_
  refine g_iconst_3 C dX4_hasDown_2 ?_
  refine csI_X4_47 C h ⟨Nat.le_of_ble_eq_true rfl, Nat.le_of_ble_eq_true rfl⟩ (Nat.le_of_ble_eq_true rfl) dX4_hasDown_3 (fun _ _ h => ?_)
  refine g_if_eq C 36 dX4_hasDown_6 (by decide) (fun q => ?_) (fun q => ?_)
  · have h := h.1 q
    exact g_wk (kI_X4_hasDown_36 C hQ _ h) (trivial)
  · have h := h.2 q
    refine g_iload_2 C dX4_hasDown_9 rfl ?_
    refine g_iconst_0 C dX4_hasDown_10 ?_
    refine g_bipush C (v := 15) (by decide) dX4_hasDown_11 ?_
    refine csI_X4_47 C h ⟨Nat.le_of_ble_eq_true rfl, Nat.le_of_ble_eq_true rfl⟩ (Nat.le_of_ble_eq_true rfl) dX4_hasDown_13 (fun _ _ h => ?_)
    refine g_if_eq C 36 dX4_hasDown_16 (by decide) (fun q => ?_) (fun q => ?_)
    · have h := h.1 q
      exact g_wk (kI_X4_hasDown_36 C hQ _ h) (trivial)
    · have h := h.2 q
      refine g_aload_0 C dX4_hasDown_19 rfl ?_
      refine fgI_X4_9 C dX4_hasDown_20 ?_
      refine g_iload_1 C dX4_hasDown_23 rfl ?_
      refine g_iload_2 C dX4_hasDown_24 rfl ?_
      refine csI_X4_28 C h ⟨Nat.le_of_ble_eq_true rfl, Nat.le_of_ble_eq_true rfl⟩ (Nat.le_of_ble_eq_true rfl) dX4_hasDown_25 (fun _ _ h => ?_)
      obtain ⟨q, h⟩ := h
      refine alI_800 C q dX4_hasDown_28 ?_
      refine g_if_eq C 36 dX4_hasDown_29 (by decide) (fun q => ?_) (fun q => ?_)
      · have h := h.1 q
        exact g_wk (kI_X4_hasDown_36 C hQ _ h) (trivial)
      · have h := h.2 q
        refine g_iconst_1 C dX4_hasDown_32 ?_
        refine g_goto C 37 dX4_hasDown_33 (by decide) ?_
        exact g_wk (kI_X4_hasDown_37 C hQ _ _ h) (trivial)
theorem cI_X4_hasDown {l : Launch} {E : Ev} {a : Nat → Nat} {x1 x2 : Int32} {σ : St} {post : Int32 → St → Prop} (h : wpI_X4_hasDown x1 x2 σ post) : CI l E (wI E a) yX4_hasDown cX4_hasDown 3 .boolean rmI_X4_hasDown [.ref (a 800), .int x1, .int x2] σ post := met_i (by decide) rfl (Nat.le_of_ble_eq_true rfl) rfl (fun X C hQ => kI_X4_hasDown C hQ _ _ _ h)
theorem alI_804 {X : Kx} {l : Launch} {E : Ev} {a : Nat → Nat} {σ : St} {cc : ByteArray} {rm : Room} {ret : Option FieldType} {pc : Nat} {lv : List (Option Value)} {st : List Value} {own : String} {i : Int32} (C : Cx X l E own cc rm ret) (hin : vp_in i 384) (d : decode cc pc = .ok (.iaload, 1)) (k : G X (wI E a) σ (pc + 1) lv (.int (σ.2 804 i.toNatClampNeg) :: st)) : G X (wI E a) σ pc lv (.int i :: .ref (a 805) :: st) := g_iald C (q0 := 40) rfl hin d k
/-! IceRun$Sheet.doubleAt(III)I -/
abbrev rmI_X4_doubleAt : Room := { frames := 2, cells := 0, slots := 0, locals := 43 }
def wpI_X4_doubleAt (x1 x2 x3 : Int32) (σ : St) (post : Int32 → St → Prop) : Prop := wpI_X4_spot x1 x2 x3 σ (fun r2 σ1 => vp_in r2 384 ∧ (post (σ1.2 804 (Int32.toNatClampNeg r2)) σ1))
theorem kI_X4_doubleAt {X : Kx} {l : Launch} {E : Ev} {a : Nat → Nat} {post : Int32 → St → Prop} (C : Cx X l E RX4 cX4_doubleAt rmI_X4_doubleAt (some .int)) (hQ : QI X (wI E a) post) (x1 x2 x3 : Int32) (σ : St) (h : wpI_X4_doubleAt x1 x2 x3 σ post) : G X (wI E a) σ 0 [some (.ref (a 800)), some (.int x1), some (.int x2), some (.int x3)] [] := by
  unfold wpI_X4_doubleAt at h
  refine g_aload_0 C dX4_doubleAt_0 rfl ?_
  refine fgI_X4_25 C dX4_doubleAt_1 ?_
  refine g_iload_1 C dX4_doubleAt_4 rfl ?_
  refine g_iload_2 C dX4_doubleAt_5 rfl ?_
  refine g_iload_3 C dX4_doubleAt_6 rfl ?_
  refine csI_X4_36 C h ⟨Nat.le_of_ble_eq_true rfl, Nat.le_of_ble_eq_true rfl⟩ (Nat.le_of_ble_eq_true rfl) dX4_doubleAt_7 (fun _ _ h => ?_)
  obtain ⟨q, h⟩ := h
  refine alI_804 C q dX4_doubleAt_10 ?_
  exact g_ireturn C hQ dX4_doubleAt_11 h
theorem cI_X4_doubleAt {l : Launch} {E : Ev} {a : Nat → Nat} {x1 x2 x3 : Int32} {σ : St} {post : Int32 → St → Prop} (h : wpI_X4_doubleAt x1 x2 x3 σ post) : CI l E (wI E a) yX4_doubleAt cX4_doubleAt 4 .int rmI_X4_doubleAt [.ref (a 800), .int x1, .int x2, .int x3] σ post := met_i (by decide) rfl (Nat.le_of_ble_eq_true rfl) rfl (fun X C hQ => kI_X4_doubleAt C hQ _ _ _ _ h)
theorem alI_801 {X : Kx} {l : Launch} {E : Ev} {a : Nat → Nat} {σ : St} {cc : ByteArray} {rm : Room} {ret : Option FieldType} {pc : Nat} {lv : List (Option Value)} {st : List Value} {own : String} {i : Int32} (C : Cx X l E own cc rm ret) (hin : vp_in i 64) (d : decode cc pc = .ok (.iaload, 1)) (k : G X (wI E a) σ (pc + 1) lv (.int (σ.2 801 i.toNatClampNeg) :: st)) : G X (wI E a) σ pc lv (.int i :: .ref (a 802) :: st) := g_iald C (q0 := 37) rfl hin d k
/-! IceRun$Sheet.totalOf(II)I -/
abbrev rmI_X4_totalOf : Room := { frames := 1, cells := 0, slots := 0, locals := 21 }
def wpI_X4_totalOf (x1 x2 : Int32) (σ : St) (post : Int32 → St → Prop) : Prop := wpI_X4_line x1 x2 σ (fun r2 σ1 => vp_in r2 64 ∧ (post (σ1.2 801 (Int32.toNatClampNeg r2)) σ1))
theorem kI_X4_totalOf {X : Kx} {l : Launch} {E : Ev} {a : Nat → Nat} {post : Int32 → St → Prop} (C : Cx X l E RX4 cX4_totalOf rmI_X4_totalOf (some .int)) (hQ : QI X (wI E a) post) (x1 x2 : Int32) (σ : St) (h : wpI_X4_totalOf x1 x2 σ post) : G X (wI E a) σ 0 [some (.ref (a 800)), some (.int x1), some (.int x2)] [] := by
  unfold wpI_X4_totalOf at h
  refine g_aload_0 C dX4_totalOf_0 rfl ?_
  refine fgI_X4_15 C dX4_totalOf_1 ?_
  refine g_iload_1 C dX4_totalOf_4 rfl ?_
  refine g_iload_2 C dX4_totalOf_5 rfl ?_
  refine csI_X4_28 C h ⟨Nat.le_of_ble_eq_true rfl, Nat.le_of_ble_eq_true rfl⟩ (Nat.le_of_ble_eq_true rfl) dX4_totalOf_6 (fun _ _ h => ?_)
  obtain ⟨q, h⟩ := h
  refine alI_801 C q dX4_totalOf_9 ?_
  exact g_ireturn C hQ dX4_totalOf_10 h
theorem cI_X4_totalOf {l : Launch} {E : Ev} {a : Nat → Nat} {x1 x2 : Int32} {σ : St} {post : Int32 → St → Prop} (h : wpI_X4_totalOf x1 x2 σ post) : CI l E (wI E a) yX4_totalOf cX4_totalOf 3 .int rmI_X4_totalOf [.ref (a 800), .int x1, .int x2] σ post := met_i (by decide) rfl (Nat.le_of_ble_eq_true rfl) rfl (fun X C hQ => kI_X4_totalOf C hQ _ _ _ h)
theorem alI_802 {X : Kx} {l : Launch} {E : Ev} {a : Nat → Nat} {σ : St} {cc : ByteArray} {rm : Room} {ret : Option FieldType} {pc : Nat} {lv : List (Option Value)} {st : List Value} {own : String} {i : Int32} (C : Cx X l E own cc rm ret) (hin : vp_in i 64) (d : decode cc pc = .ok (.iaload, 1)) (k : G X (wI E a) σ (pc + 1) lv (.int (σ.2 802 i.toNatClampNeg) :: st)) : G X (wI E a) σ pc lv (.int i :: .ref (a 803) :: st) := g_iald C (q0 := 38) rfl hin d k
theorem csI_X4_50 {X : Kx} {l : Launch} {E : Ev} {a : Nat → Nat} {σ : St} {cc : ByteArray} {rm : Room} {ret : Option FieldType} {pc : Nat} {lv : List (Option Value)} {rest : List Value} {x0 x1 : Int32} {post : Int32 → St → Prop} (C : Cx X l E RX4 cc rm ret) (h : wpI_X4_hasDown x0 x1 σ post) (hR : 1 + 1 ≤ rm.frames ∧ 8 + (3 + 11) + 22 ≤ rm.locals) (hW : (rest.map fun v => v.category).sum ≤ 8) (d : decode cc pc = .ok (.invokevirtual 50, 3)) (k : ∀ (r : Int32) (u : St), post r u → G X (wI E a) u (pc + 3) lv (.int r :: rest)) : G X (wI E a) σ pc lv (.int x1 :: .int x0 :: .ref (a 800) :: rest) := g_callVi C 2 (As := [.int x0, .int x1]) (rest := rest) (Cn := RX4) (T := TX4) (N := 5) (q0 := 35) (ci := 4) (by decide +kernel) (by decide +kernel) (by decide +kernel) (by decide +kernel) (by decide +kernel) (by decide +kernel) rfl rfl (cI_X4_hasDown h) ⟨rfl, rfl⟩ hR rfl rfl hW d k
/-! IceRun$Sheet.iceOf(II)I -/
abbrev rmI_X4_iceOf : Room := { frames := 2, cells := 0, slots := 0, locals := 44 }
def wpI_X4_iceOf_44 (k_8 : Int32 → Int32 → Int32 → Int32 → Int32 → St → Prop) (x1 x2 x3 x4 x5 : Int32) (σ : St) (post : Int32 → St → Prop) : Prop := let y1 : Int32 := x5 + 1; k_8 x1 x2 x3 x4 y1 σ
theorem kI_X4_iceOf_44 {X : Kx} {l : Launch} {E : Ev} {a : Nat → Nat} {post : Int32 → St → Prop} (C : Cx X l E RX4 cX4_iceOf rmI_X4_iceOf (some .int)) (hQ : QI X (wI E a) post) (k_8 : Int32 → Int32 → Int32 → Int32 → Int32 → St → Prop) (hk_8 : ∀ (x1 x2 x3 x4 x5 : Int32) (σ : St), k_8 x1 x2 x3 x4 x5 σ → G X (wI E a) σ 8 [some (.ref (a 800)), some (.int x1), some (.int x2), some (.int x3), some (.int x4), some (.int x5)] []) (x1 x2 x3 x4 x5 : Int32) (σ : St) (h : wpI_X4_iceOf_44 k_8 x1 x2 x3 x4 x5 σ post) : G X (wI E a) σ 44 [some (.ref (a 800)), some (.int x1), some (.int x2), some (.int x3), some (.int x4), some (.int x5)] [] := by
  unfold wpI_X4_iceOf_44 at h
  refine g_iinc C (v := 1) (by decide) dX4_iceOf_44 rfl ?_
  refine g_goto C 8 dX4_iceOf_47 (by decide) ?_
  exact g_wk (hk_8 _ _ _ _ _ _ h) (And.intro rfl (And.intro rfl (And.intro rfl (And.intro rfl (And.intro rfl (And.intro rfl (trivial)))))))
def wpBI_X4_iceOf_8 (k_8 : Int32 → Int32 → Int32 → Int32 → Int32 → St → Prop) (x1 x2 x3 x4 x5 : Int32) (σ : St) (post : Int32 → St → Prop) : Prop := ((16 ≤ x5 → wpI_X4_line x1 x2 σ (fun r2 σ1 => vp_in r2 64 ∧ (post ((x3 * (σ1.2 802 (Int32.toNatClampNeg r2))) - x4) σ1))) ∧ (¬ 16 ≤ x5 → wpI_X4_hasDown x1 x5 σ (fun r4 σ3 => ((r4 = 0 → wpI_X4_iceOf_44 k_8 x1 x2 x3 x4 x5 σ3 post) ∧ (¬ r4 = 0 → let y5 : Int32 := x3 + 1; wpI_X4_line x1 x5 σ3 (fun r7 σ6 => vp_in r7 64 ∧ (let y8 : Int32 := (x4 + (σ6.2 802 (Int32.toNatClampNeg r7))); wpI_X4_iceOf_44 k_8 x1 x2 y5 y8 x5 σ6 post)))))))
def wpI_X4_iceOf_8 (x1 x2 x3 x4 x5 : Int32) (σ : St) (post : Int32 → St → Prop) : Prop := ∃ n : Nat, lpN (α := Int32 × Int32 × Int32 × Int32 × Int32 × St) (fun kb t => wpBI_X4_iceOf_8 (fun x1 x2 x3 x4 x5 σ => kb (x1, x2, x3, x4, x5, σ)) t.1 t.2.1 t.2.2.1 t.2.2.2.1 t.2.2.2.2.1 t.2.2.2.2.2 post) n (x1, x2, x3, x4, x5, σ)
theorem kBI_X4_iceOf_8 {X : Kx} {l : Launch} {E : Ev} {a : Nat → Nat} {post : Int32 → St → Prop} (C : Cx X l E RX4 cX4_iceOf rmI_X4_iceOf (some .int)) (hQ : QI X (wI E a) post) (k_8 : Int32 → Int32 → Int32 → Int32 → Int32 → St → Prop) (hk_8 : ∀ (x1 x2 x3 x4 x5 : Int32) (σ : St), k_8 x1 x2 x3 x4 x5 σ → G X (wI E a) σ 8 [some (.ref (a 800)), some (.int x1), some (.int x2), some (.int x3), some (.int x4), some (.int x5)] []) (x1 x2 x3 x4 x5 : Int32) (σ : St) (h : wpBI_X4_iceOf_8 k_8 x1 x2 x3 x4 x5 σ post) : G X (wI E a) σ 8 [some (.ref (a 800)), some (.int x1), some (.int x2), some (.int x3), some (.int x4), some (.int x5)] [] := by
  unfold wpBI_X4_iceOf_8 at h
  refine g_iload C dX4_iceOf_8 rfl ?_
  refine g_bipush C (v := 16) (by decide) dX4_iceOf_10 ?_
  refine g_icmp_ge C 50 dX4_iceOf_12 (by decide) (fun q => ?_) (fun q => ?_)
  · have h := h.1 q
    refine g_iload_3 C dX4_iceOf_50 rfl ?_
    refine g_aload_0 C dX4_iceOf_51 rfl ?_
    refine fgI_X4_19 C dX4_iceOf_52 ?_
    refine g_iload_1 C dX4_iceOf_55 rfl ?_
    refine g_iload_2 C dX4_iceOf_56 rfl ?_
    refine csI_X4_28 C h ⟨Nat.le_of_ble_eq_true rfl, Nat.le_of_ble_eq_true rfl⟩ (Nat.le_of_ble_eq_true rfl) dX4_iceOf_57 (fun _ _ h => ?_)
    obtain ⟨q, h⟩ := h
    refine alI_802 C q dX4_iceOf_60 ?_
    refine g_imul C dX4_iceOf_61 ?_
    refine g_iload C dX4_iceOf_62 rfl ?_
    refine g_isub C dX4_iceOf_64 ?_
    exact g_ireturn C hQ dX4_iceOf_65 h
  · have h := h.2 q
    refine g_aload_0 C dX4_iceOf_15 rfl ?_
    refine g_iload_1 C dX4_iceOf_16 rfl ?_
    refine g_iload C dX4_iceOf_17 rfl ?_
    refine csI_X4_50 C h ⟨Nat.le_of_ble_eq_true rfl, Nat.le_of_ble_eq_true rfl⟩ (Nat.le_of_ble_eq_true rfl) dX4_iceOf_19 (fun _ _ h => ?_)
    refine g_if_eq C 44 dX4_iceOf_22 (by decide) (fun q => ?_) (fun q => ?_)
    · have h := h.1 q
      exact g_wk (kI_X4_iceOf_44 C hQ _ hk_8 _ _ _ _ _ _ h) (And.intro rfl (And.intro rfl (And.intro rfl (And.intro rfl (And.intro rfl (And.intro rfl (trivial)))))))
    · have h := h.2 q
      refine g_iinc C (v := 1) (by decide) dX4_iceOf_25 rfl ?_
      refine g_iload C dX4_iceOf_28 rfl ?_
      refine g_aload_0 C dX4_iceOf_30 rfl ?_
      refine fgI_X4_19 C dX4_iceOf_31 ?_
      refine g_iload_1 C dX4_iceOf_34 rfl ?_
      refine g_iload C dX4_iceOf_35 rfl ?_
      refine csI_X4_28 C h ⟨Nat.le_of_ble_eq_true rfl, Nat.le_of_ble_eq_true rfl⟩ (Nat.le_of_ble_eq_true rfl) dX4_iceOf_37 (fun _ _ h => ?_)
      obtain ⟨q, h⟩ := h
      refine alI_802 C q dX4_iceOf_40 ?_
      refine g_iadd C dX4_iceOf_41 ?_
      refine g_istore C dX4_iceOf_42 (Nat.le_of_ble_eq_true rfl) ?_
      exact g_wk (kI_X4_iceOf_44 C hQ _ hk_8 _ _ _ _ _ _ h) (And.intro rfl (And.intro rfl (And.intro rfl (And.intro rfl (And.intro rfl (And.intro rfl (trivial)))))))
theorem kI_X4_iceOf_8 {X : Kx} {l : Launch} {E : Ev} {a : Nat → Nat} {post : Int32 → St → Prop} (C : Cx X l E RX4 cX4_iceOf rmI_X4_iceOf (some .int)) (hQ : QI X (wI E a) post) (x1 x2 x3 x4 x5 : Int32) (σ : St) (h : wpI_X4_iceOf_8  x1 x2 x3 x4 x5 σ post) : G X (wI E a) σ 8 [some (.ref (a 800)), some (.int x1), some (.int x2), some (.int x3), some (.int x4), some (.int x5)] [] := by
  obtain ⟨n, h⟩ := h
  exact g_loop (J := fun t : Int32 × Int32 × Int32 × Int32 × Int32 × St => G X (wI E a) t.2.2.2.2.2 8 [some (.ref (a 800)), some (.int t.1), some (.int t.2.1), some (.int t.2.2.1), some (.int t.2.2.2.1), some (.int t.2.2.2.2.1)] []) (fun kb hkb t ht => kBI_X4_iceOf_8 C hQ  (fun x1 x2 x3 x4 x5 σ => kb (x1, x2, x3, x4, x5, σ)) (fun x1 x2 x3 x4 x5 σ hh => hkb (x1, x2, x3, x4, x5, σ) hh) t.1 t.2.1 t.2.2.1 t.2.2.2.1 t.2.2.2.2.1 t.2.2.2.2.2 ht) n (x1, x2, x3, x4, x5, σ) h
def wpI_X4_iceOf (x1 x2 : Int32) (σ : St) (post : Int32 → St → Prop) : Prop := wpI_X4_iceOf_8 x1 x2 0 0 0 σ post
theorem kI_X4_iceOf {X : Kx} {l : Launch} {E : Ev} {a : Nat → Nat} {post : Int32 → St → Prop} (C : Cx X l E RX4 cX4_iceOf rmI_X4_iceOf (some .int)) (hQ : QI X (wI E a) post) (x1 x2 : Int32) (σ : St) (h : wpI_X4_iceOf x1 x2 σ post) : G X (wI E a) σ 0 [some (.ref (a 800)), some (.int x1), some (.int x2), none, none, none] [] := by
  unfold wpI_X4_iceOf at h
  refine g_iconst_0 C dX4_iceOf_0 ?_
  refine g_istore_3 C dX4_iceOf_1 (Nat.le_of_ble_eq_true rfl) ?_
  refine g_iconst_0 C dX4_iceOf_2 ?_
  refine g_istore C dX4_iceOf_3 (Nat.le_of_ble_eq_true rfl) ?_
  refine g_iconst_0 C dX4_iceOf_5 ?_
  refine g_istore C dX4_iceOf_6 (Nat.le_of_ble_eq_true rfl) ?_
  exact g_wk (kI_X4_iceOf_8 C hQ _ _ _ _ _ _ h) (And.intro rfl (And.intro rfl (And.intro rfl (And.intro rfl (And.intro rfl (And.intro rfl (trivial)))))))
theorem cI_X4_iceOf {l : Launch} {E : Ev} {a : Nat → Nat} {x1 x2 : Int32} {σ : St} {post : Int32 → St → Prop} (h : wpI_X4_iceOf x1 x2 σ post) : CI l E (wI E a) yX4_iceOf cX4_iceOf 6 .int rmI_X4_iceOf [.ref (a 800), .int x1, .int x2] σ post := met_i (by decide) rfl (Nat.le_of_ble_eq_true rfl) rfl (fun X C hQ => kI_X4_iceOf C hQ _ _ _ h)
theorem mm_X4_58 : Cond.methodLink RX4 58 Lib.Math.min.name ∈ UW := by decide +kernel
/-! IceRun$Sheet.leastBetween(IIII)I -/
abbrev rmI_X4_leastBetween : Room := { frames := 4, cells := 0, slots := 0, locals := 89 }
def wpI_X4_leastBetween_86 (k_21 : Int32 → Int32 → Int32 → Int32 → Int32 → St → Prop) (x1 x3 x4 x5 x6 : Int32) (σ : St) (post : Int32 → St → Prop) : Prop := let y1 : Int32 := x6 + 1; k_21 x1 x3 x4 x5 y1 σ
theorem kI_X4_leastBetween_86 {X : Kx} {l : Launch} {E : Ev} {a : Nat → Nat} {post : Int32 → St → Prop} (C : Cx X l E RX4 cX4_leastBetween rmI_X4_leastBetween (some .int)) (hQ : QI X (wI E a) post) (k_21 : Int32 → Int32 → Int32 → Int32 → Int32 → St → Prop) (hk_21 : ∀ (x1 x3 x4 x5 x6 : Int32) (σ : St), k_21 x1 x3 x4 x5 x6 σ → G X (wI E a) σ 21 [some (.ref (a 800)), some (.int x1), none, some (.int x3), some (.int x4), some (.int x5), some (.int x6)] []) (x1 x3 x4 x5 x6 : Int32) (σ : St) (h : wpI_X4_leastBetween_86 k_21 x1 x3 x4 x5 x6 σ post) : G X (wI E a) σ 86 [some (.ref (a 800)), some (.int x1), none, some (.int x3), some (.int x4), some (.int x5), some (.int x6)] [] := by
  unfold wpI_X4_leastBetween_86 at h
  refine g_iinc C (v := 1) (by decide) dX4_leastBetween_86 rfl ?_
  refine g_goto C 21 dX4_leastBetween_89 (by decide) ?_
  exact g_wk (hk_21 _ _ _ _ _ _ h) (And.intro rfl (And.intro rfl (And.intro rfl (And.intro rfl (And.intro rfl (And.intro rfl (trivial)))))))
def wpBI_X4_leastBetween_21 (k_21 : Int32 → Int32 → Int32 → Int32 → Int32 → St → Prop) (x1 x3 x4 x5 x6 : Int32) (σ : St) (post : Int32 → St → Prop) : Prop := ((16 ≤ x6 → post x5 σ) ∧ (¬ 16 ≤ x6 → wpI_X4_hasDown x1 x6 σ (fun r2 σ1 => ((r2 = 0 → wpI_X4_leastBetween_86 k_21 x1 x3 x4 x5 x6 σ1 post) ∧ (¬ r2 = 0 → wpI_X4_isTimed x1 x6 x3 σ1 (fun r4 σ3 => ((r4 = 0 → wpI_X4_leastBetween_86 k_21 x1 x3 x4 x5 x6 σ3 post) ∧ (¬ r4 = 0 → wpI_X4_isTimed x1 x6 x4 σ3 (fun r6 σ5 => ((r6 = 0 → wpI_X4_leastBetween_86 k_21 x1 x3 x4 x5 x6 σ5 post) ∧ (¬ r6 = 0 → wpI_X4_timeAt x1 x6 x4 σ5 (fun r8 σ7 => wpI_X4_timeAt x1 x6 x3 σ7 (fun r10 σ9 => let y11 : Int32 := (if (r8 - r10) < x5 then (r8 - r10) else x5); wpI_X4_leastBetween_86 k_21 x1 x3 x4 y11 x6 σ9 post)))))))))))))
def wpI_X4_leastBetween_21 (x1 x3 x4 x5 x6 : Int32) (σ : St) (post : Int32 → St → Prop) : Prop := ∃ n : Nat, lpN (α := Int32 × Int32 × Int32 × Int32 × Int32 × St) (fun kb t => wpBI_X4_leastBetween_21 (fun x1 x3 x4 x5 x6 σ => kb (x1, x3, x4, x5, x6, σ)) t.1 t.2.1 t.2.2.1 t.2.2.2.1 t.2.2.2.2.1 t.2.2.2.2.2 post) n (x1, x3, x4, x5, x6, σ)
theorem kBI_X4_leastBetween_21 {X : Kx} {l : Launch} {E : Ev} {a : Nat → Nat} {post : Int32 → St → Prop} (C : Cx X l E RX4 cX4_leastBetween rmI_X4_leastBetween (some .int)) (hQ : QI X (wI E a) post) (k_21 : Int32 → Int32 → Int32 → Int32 → Int32 → St → Prop) (hk_21 : ∀ (x1 x3 x4 x5 x6 : Int32) (σ : St), k_21 x1 x3 x4 x5 x6 σ → G X (wI E a) σ 21 [some (.ref (a 800)), some (.int x1), none, some (.int x3), some (.int x4), some (.int x5), some (.int x6)] []) (x1 x3 x4 x5 x6 : Int32) (σ : St) (h : wpBI_X4_leastBetween_21 k_21 x1 x3 x4 x5 x6 σ post) : G X (wI E a) σ 21 [some (.ref (a 800)), some (.int x1), none, some (.int x3), some (.int x4), some (.int x5), some (.int x6)] [] := by
  unfold wpBI_X4_leastBetween_21 at h
  refine g_iload C dX4_leastBetween_21 rfl ?_
  refine g_bipush C (v := 16) (by decide) dX4_leastBetween_23 ?_
  refine g_icmp_ge C 92 dX4_leastBetween_25 (by decide) (fun q => ?_) (fun q => ?_)
  · have h := h.1 q
    refine g_iload C dX4_leastBetween_92 rfl ?_
    exact g_ireturn C hQ dX4_leastBetween_94 h
  · have h := h.2 q
    refine g_aload_0 C dX4_leastBetween_28 rfl ?_
    refine g_iload_1 C dX4_leastBetween_29 rfl ?_
    refine g_iload C dX4_leastBetween_30 rfl ?_
    refine csI_X4_50 C h ⟨Nat.le_of_ble_eq_true rfl, Nat.le_of_ble_eq_true rfl⟩ (Nat.le_of_ble_eq_true rfl) dX4_leastBetween_32 (fun _ _ h => ?_)
    refine g_if_eq C 86 dX4_leastBetween_35 (by decide) (fun q => ?_) (fun q => ?_)
    · have h := h.1 q
      exact g_wk (kI_X4_leastBetween_86 C hQ _ hk_21 _ _ _ _ _ _ h) (And.intro rfl (And.intro rfl (And.intro rfl (And.intro rfl (And.intro rfl (And.intro rfl (trivial)))))))
    · have h := h.2 q
      refine g_aload_0 C dX4_leastBetween_38 rfl ?_
      refine g_iload_1 C dX4_leastBetween_39 rfl ?_
      refine g_iload C dX4_leastBetween_40 rfl ?_
      refine g_iload_3 C dX4_leastBetween_42 rfl ?_
      refine csI_X4_40 C h ⟨Nat.le_of_ble_eq_true rfl, Nat.le_of_ble_eq_true rfl⟩ (Nat.le_of_ble_eq_true rfl) dX4_leastBetween_43 (fun _ _ h => ?_)
      refine g_if_eq C 86 dX4_leastBetween_46 (by decide) (fun q => ?_) (fun q => ?_)
      · have h := h.1 q
        exact g_wk (kI_X4_leastBetween_86 C hQ _ hk_21 _ _ _ _ _ _ h) (And.intro rfl (And.intro rfl (And.intro rfl (And.intro rfl (And.intro rfl (And.intro rfl (trivial)))))))
      · have h := h.2 q
        refine g_aload_0 C dX4_leastBetween_49 rfl ?_
        refine g_iload_1 C dX4_leastBetween_50 rfl ?_
        refine g_iload C dX4_leastBetween_51 rfl ?_
        refine g_iload C dX4_leastBetween_53 rfl ?_
        refine csI_X4_40 C h ⟨Nat.le_of_ble_eq_true rfl, Nat.le_of_ble_eq_true rfl⟩ (Nat.le_of_ble_eq_true rfl) dX4_leastBetween_55 (fun _ _ h => ?_)
        refine g_if_eq C 86 dX4_leastBetween_58 (by decide) (fun q => ?_) (fun q => ?_)
        · have h := h.1 q
          exact g_wk (kI_X4_leastBetween_86 C hQ _ hk_21 _ _ _ _ _ _ h) (And.intro rfl (And.intro rfl (And.intro rfl (And.intro rfl (And.intro rfl (And.intro rfl (trivial)))))))
        · have h := h.2 q
          refine g_iload C dX4_leastBetween_61 rfl ?_
          refine g_aload_0 C dX4_leastBetween_63 rfl ?_
          refine g_iload_1 C dX4_leastBetween_64 rfl ?_
          refine g_iload C dX4_leastBetween_65 rfl ?_
          refine g_iload C dX4_leastBetween_67 rfl ?_
          refine csI_X4_44 C h ⟨Nat.le_of_ble_eq_true rfl, Nat.le_of_ble_eq_true rfl⟩ (Nat.le_of_ble_eq_true rfl) dX4_leastBetween_69 (fun _ _ h => ?_)
          refine g_aload_0 C dX4_leastBetween_72 rfl ?_
          refine g_iload_1 C dX4_leastBetween_73 rfl ?_
          refine g_iload C dX4_leastBetween_74 rfl ?_
          refine g_iload_3 C dX4_leastBetween_76 rfl ?_
          refine csI_X4_44 C h ⟨Nat.le_of_ble_eq_true rfl, Nat.le_of_ble_eq_true rfl⟩ (Nat.le_of_ble_eq_true rfl) dX4_leastBetween_77 (fun _ _ h => ?_)
          refine g_isub C dX4_leastBetween_80 ?_
          refine g_mmin C mm_X4_58 mwI_min.1 mwI_min.2.1 mwI_min.2.2 ⟨Nat.le_of_ble_eq_true rfl, Nat.le_of_ble_eq_true rfl⟩ dX4_leastBetween_81 ?_
          refine g_istore C dX4_leastBetween_84 (Nat.le_of_ble_eq_true rfl) ?_
          exact g_wk (kI_X4_leastBetween_86 C hQ _ hk_21 _ _ _ _ _ _ h) (And.intro rfl (And.intro rfl (And.intro rfl (And.intro rfl (And.intro rfl (And.intro rfl (trivial)))))))
theorem kI_X4_leastBetween_21 {X : Kx} {l : Launch} {E : Ev} {a : Nat → Nat} {post : Int32 → St → Prop} (C : Cx X l E RX4 cX4_leastBetween rmI_X4_leastBetween (some .int)) (hQ : QI X (wI E a) post) (x1 x3 x4 x5 x6 : Int32) (σ : St) (h : wpI_X4_leastBetween_21  x1 x3 x4 x5 x6 σ post) : G X (wI E a) σ 21 [some (.ref (a 800)), some (.int x1), none, some (.int x3), some (.int x4), some (.int x5), some (.int x6)] [] := by
  obtain ⟨n, h⟩ := h
  exact g_loop (J := fun t : Int32 × Int32 × Int32 × Int32 × Int32 × St => G X (wI E a) t.2.2.2.2.2 21 [some (.ref (a 800)), some (.int t.1), none, some (.int t.2.1), some (.int t.2.2.1), some (.int t.2.2.2.1), some (.int t.2.2.2.2.1)] []) (fun kb hkb t ht => kBI_X4_leastBetween_21 C hQ  (fun x1 x3 x4 x5 x6 σ => kb (x1, x3, x4, x5, x6, σ)) (fun x1 x3 x4 x5 x6 σ hh => hkb (x1, x3, x4, x5, x6, σ) hh) t.1 t.2.1 t.2.2.1 t.2.2.2.1 t.2.2.2.2.1 t.2.2.2.2.2 ht) n (x1, x3, x4, x5, x6, σ) h
def wpI_X4_leastBetween (x1 x2 x3 x4 : Int32) (σ : St) (post : Int32 → St → Prop) : Prop := wpI_X4_timeAt x1 x2 x4 σ (fun r2 σ1 => wpI_X4_timeAt x1 x2 x3 σ1 (fun r4 σ3 => let y5 : Int32 := (r2 - r4); wpI_X4_leastBetween_21 x1 x3 x4 y5 0 σ3 post))
theorem kI_X4_leastBetween {X : Kx} {l : Launch} {E : Ev} {a : Nat → Nat} {post : Int32 → St → Prop} (C : Cx X l E RX4 cX4_leastBetween rmI_X4_leastBetween (some .int)) (hQ : QI X (wI E a) post) (x1 x2 x3 x4 : Int32) (σ : St) (h : wpI_X4_leastBetween x1 x2 x3 x4 σ post) : G X (wI E a) σ 0 [some (.ref (a 800)), some (.int x1), some (.int x2), some (.int x3), some (.int x4), none, none] [] := by
  unfold wpI_X4_leastBetween at h
  refine g_aload_0 C dX4_leastBetween_0 rfl ?_
  refine g_iload_1 C dX4_leastBetween_1 rfl ?_
  refine g_iload_2 C dX4_leastBetween_2 rfl ?_
  refine g_iload C dX4_leastBetween_3 rfl ?_
  refine csI_X4_44 C h ⟨Nat.le_of_ble_eq_true rfl, Nat.le_of_ble_eq_true rfl⟩ (Nat.le_of_ble_eq_true rfl) dX4_leastBetween_5 (fun _ _ h => ?_)
  refine g_aload_0 C dX4_leastBetween_8 rfl ?_
  refine g_iload_1 C dX4_leastBetween_9 rfl ?_
  refine g_iload_2 C dX4_leastBetween_10 rfl ?_
  refine g_iload_3 C dX4_leastBetween_11 rfl ?_
  refine csI_X4_44 C h ⟨Nat.le_of_ble_eq_true rfl, Nat.le_of_ble_eq_true rfl⟩ (Nat.le_of_ble_eq_true rfl) dX4_leastBetween_12 (fun _ _ h => ?_)
  refine g_isub C dX4_leastBetween_15 ?_
  refine g_istore C dX4_leastBetween_16 (Nat.le_of_ble_eq_true rfl) ?_
  refine g_iconst_0 C dX4_leastBetween_18 ?_
  refine g_istore C dX4_leastBetween_19 (Nat.le_of_ble_eq_true rfl) ?_
  exact g_wk (kI_X4_leastBetween_21 C hQ _ _ _ _ _ _ h) (And.intro rfl (And.intro rfl (And.intro rfl (And.intro rfl (And.intro rfl (And.intro rfl (trivial)))))))
theorem cI_X4_leastBetween {l : Launch} {E : Ev} {a : Nat → Nat} {x1 x2 x3 x4 : Int32} {σ : St} {post : Int32 → St → Prop} (h : wpI_X4_leastBetween x1 x2 x3 x4 σ post) : CI l E (wI E a) yX4_leastBetween cX4_leastBetween 7 .int rmI_X4_leastBetween [.ref (a 800), .int x1, .int x2, .int x3, .int x4] σ post := met_i (by decide) rfl (Nat.le_of_ble_eq_true rfl) rfl (fun X C hQ => kI_X4_leastBetween C hQ _ _ _ _ _ h)
theorem csI_X4_54 {X : Kx} {l : Launch} {E : Ev} {a : Nat → Nat} {σ : St} {cc : ByteArray} {rm : Room} {ret : Option FieldType} {pc : Nat} {lv : List (Option Value)} {rest : List Value} {x0 x1 x2 x3 : Int32} {post : Int32 → St → Prop} (C : Cx X l E RX4 cc rm ret) (h : wpI_X4_leastBetween x0 x1 x2 x3 σ post) (hR : 4 + 1 ≤ rm.frames ∧ 8 + (7 + 11) + 89 ≤ rm.locals) (hW : (rest.map fun v => v.category).sum ≤ 8) (d : decode cc pc = .ok (.invokevirtual 54, 3)) (k : ∀ (r : Int32) (u : St), post r u → G X (wI E a) u (pc + 3) lv (.int r :: rest)) : G X (wI E a) σ pc lv (.int x3 :: .int x2 :: .int x1 :: .int x0 :: .ref (a 800) :: rest) := g_callVi C 4 (As := [.int x0, .int x1, .int x2, .int x3]) (rest := rest) (Cn := RX4) (T := TX4) (N := 5) (q0 := 35) (ci := 4) (by decide +kernel) (by decide +kernel) (by decide +kernel) (by decide +kernel) (by decide +kernel) (by decide +kernel) rfl rfl (cI_X4_leastBetween h) ⟨rfl, rfl⟩ hR rfl rfl hW d k
/-! IceRun$Sheet.lostIn(IIII)I -/
abbrev rmI_X4_lostIn : Room := { frames := 5, cells := 0, slots := 0, locals := 115 }
def wpI_X4_lostIn_74 (σ : St) (post : Int32 → St → Prop) : Prop := post (-1) σ
theorem kI_X4_lostIn_74 {X : Kx} {l : Launch} {E : Ev} {a : Nat → Nat} {post : Int32 → St → Prop} (C : Cx X l E RX4 cX4_lostIn rmI_X4_lostIn (some .int)) (hQ : QI X (wI E a) post) (σ : St) (h : wpI_X4_lostIn_74   σ post) : G X (wI E a) σ 74 [none, none, none, none, none, none, none, none, none] [] := by
  unfold wpI_X4_lostIn_74 at h
  refine g_iconst_m1 C dX4_lostIn_74 ?_
  exact g_ireturn C hQ dX4_lostIn_75 h
def wpI_X4_lostIn_128 (s0 s1 : Int32) (σ : St) (post : Int32 → St → Prop) : Prop := post (s0 + s1) σ
theorem kI_X4_lostIn_128 {X : Kx} {l : Launch} {E : Ev} {a : Nat → Nat} {post : Int32 → St → Prop} (C : Cx X l E RX4 cX4_lostIn rmI_X4_lostIn (some .int)) (hQ : QI X (wI E a) post) (s0 s1 : Int32) (σ : St) (h : wpI_X4_lostIn_128  s0 s1 σ post) : G X (wI E a) σ 128 [none, none, none, none, none, none, none, none, none] [.int s1, .int s0] := by
  unfold wpI_X4_lostIn_128 at h
  refine g_iadd C dX4_lostIn_128 ?_
  exact g_ireturn C hQ dX4_lostIn_129 h
def wpI_X4_lostIn_54 (x1 x2 x3 x4 x5 x6 : Int32) (σ : St) (post : Int32 → St → Prop) : Prop := let y1 : Int32 := (x6 - x5); ((x4 ≤ x6 → wpI_X4_lostIn_74 σ post) ∧ (¬ x4 ≤ x6 → ((1 ≤ y1 → wpI_X4_timeAt x1 x2 x6 σ (fun r3 σ2 => wpI_X4_timeAt x1 x2 x5 σ2 (fun r5 σ4 => wpI_X4_leastBetween x1 x2 x5 x6 σ4 (fun r7 σ6 => let y8 : Int32 := ((r3 - r5) - r7); (¬ y1 = 0) ∧ ((¬ y1 = 0) ∧ ((((y8 - y8 / y1 * y1) ≤ (x3 - x5) → wpI_X4_lostIn_128 (y8 / y1) 0 σ6 post) ∧ (¬ (y8 - y8 / y1 * y1) ≤ (x3 - x5) → wpI_X4_lostIn_128 (y8 / y1) 1 σ6 post)))))))) ∧ (¬ 1 ≤ y1 → wpI_X4_lostIn_74 σ post))))
theorem kI_X4_lostIn_54 {X : Kx} {l : Launch} {E : Ev} {a : Nat → Nat} {post : Int32 → St → Prop} (C : Cx X l E RX4 cX4_lostIn rmI_X4_lostIn (some .int)) (hQ : QI X (wI E a) post) (x1 x2 x3 x4 x5 x6 : Int32) (σ : St) (h : wpI_X4_lostIn_54  x1 x2 x3 x4 x5 x6 σ post) : G X (wI E a) σ 54 [some (.ref (a 800)), some (.int x1), some (.int x2), some (.int x3), some (.int x4), some (.int x5), some (.int x6), none, none] [] := by
  unfold wpI_X4_lostIn_54 at h
  refine g_iload C dX4_lostIn_54 rfl ?_
  refine g_iload C dX4_lostIn_56 rfl ?_
  refine g_isub C dX4_lostIn_58 ?_
  refine g_istore C dX4_lostIn_59 (Nat.le_of_ble_eq_true rfl) ?_
  refine g_iload C dX4_lostIn_61 rfl ?_
  refine g_iload C dX4_lostIn_63 rfl ?_
  refine g_icmp_ge C 74 dX4_lostIn_65 (by decide) (fun q => ?_) (fun q => ?_)
  · have h := h.1 q
    exact g_wk (kI_X4_lostIn_74 C hQ _ h) (trivial)
  · have h := h.2 q
    refine g_iload C dX4_lostIn_68 rfl ?_
    refine g_iconst_1 C dX4_lostIn_70 ?_
    refine g_icmp_ge C 76 dX4_lostIn_71 (by decide) (fun q => ?_) (fun q => ?_)
    · have h := h.1 q
      refine g_aload_0 C dX4_lostIn_76 rfl ?_
      refine g_iload_1 C dX4_lostIn_77 rfl ?_
      refine g_iload_2 C dX4_lostIn_78 rfl ?_
      refine g_iload C dX4_lostIn_79 rfl ?_
      refine csI_X4_44 C h ⟨Nat.le_of_ble_eq_true rfl, Nat.le_of_ble_eq_true rfl⟩ (Nat.le_of_ble_eq_true rfl) dX4_lostIn_81 (fun _ _ h => ?_)
      refine g_aload_0 C dX4_lostIn_84 rfl ?_
      refine g_iload_1 C dX4_lostIn_85 rfl ?_
      refine g_iload_2 C dX4_lostIn_86 rfl ?_
      refine g_iload C dX4_lostIn_87 rfl ?_
      refine csI_X4_44 C h ⟨Nat.le_of_ble_eq_true rfl, Nat.le_of_ble_eq_true rfl⟩ (Nat.le_of_ble_eq_true rfl) dX4_lostIn_89 (fun _ _ h => ?_)
      refine g_isub C dX4_lostIn_92 ?_
      refine g_aload_0 C dX4_lostIn_93 rfl ?_
      refine g_iload_1 C dX4_lostIn_94 rfl ?_
      refine g_iload_2 C dX4_lostIn_95 rfl ?_
      refine g_iload C dX4_lostIn_96 rfl ?_
      refine g_iload C dX4_lostIn_98 rfl ?_
      refine csI_X4_54 C h ⟨Nat.le_of_ble_eq_true rfl, Nat.le_of_ble_eq_true rfl⟩ (Nat.le_of_ble_eq_true rfl) dX4_lostIn_100 (fun _ _ h => ?_)
      refine g_isub C dX4_lostIn_103 ?_
      refine g_istore C dX4_lostIn_104 (Nat.le_of_ble_eq_true rfl) ?_
      refine g_iload C dX4_lostIn_106 rfl ?_
      refine g_iload C dX4_lostIn_108 rfl ?_
      obtain ⟨q, h⟩ := h
      refine g_idiv C q dX4_lostIn_110 ?_
      refine g_iload_3 C dX4_lostIn_111 rfl ?_
      refine g_iload C dX4_lostIn_112 rfl ?_
      refine g_isub C dX4_lostIn_114 ?_
      refine g_iload C dX4_lostIn_115 rfl ?_
      refine g_iload C dX4_lostIn_117 rfl ?_
      obtain ⟨q, h⟩ := h
      refine g_irem C q dX4_lostIn_119 ?_
      refine g_icmp_ge C 127 dX4_lostIn_120 (by decide) (fun q => ?_) (fun q => ?_)
      · have h := h.1 q
        refine g_iconst_0 C dX4_lostIn_127 ?_
        exact g_wk (kI_X4_lostIn_128 C hQ _ _ _ h) (trivial)
      · have h := h.2 q
        refine g_iconst_1 C dX4_lostIn_123 ?_
        refine g_goto C 128 dX4_lostIn_124 (by decide) ?_
        exact g_wk (kI_X4_lostIn_128 C hQ _ _ _ h) (trivial)
    · have h := h.2 q
      exact g_wk (kI_X4_lostIn_74 C hQ _ h) (trivial)
def wpBI_X4_lostIn_30 (k_30 : Int32 → Int32 → Int32 → Int32 → Int32 → Int32 → St → Prop) (x1 x2 x3 x4 x5 x6 : Int32) (σ : St) (post : Int32 → St → Prop) : Prop := ((x4 ≤ x6 → wpI_X4_lostIn_54 x1 x2 x3 x4 x5 x6 σ post) ∧ (¬ x4 ≤ x6 → wpI_X4_isTimed x1 x2 x6 σ (fun r2 σ1 => ((¬ r2 = 0 → wpI_X4_lostIn_54 x1 x2 x3 x4 x5 x6 σ1 post) ∧ (r2 = 0 → let y3 : Int32 := x6 + 1; k_30 x1 x2 x3 x4 x5 y3 σ1)))))
def wpI_X4_lostIn_30 (x1 x2 x3 x4 x5 x6 : Int32) (σ : St) (post : Int32 → St → Prop) : Prop := ∃ n : Nat, lpN (α := Int32 × Int32 × Int32 × Int32 × Int32 × Int32 × St) (fun kb t => wpBI_X4_lostIn_30 (fun x1 x2 x3 x4 x5 x6 σ => kb (x1, x2, x3, x4, x5, x6, σ)) t.1 t.2.1 t.2.2.1 t.2.2.2.1 t.2.2.2.2.1 t.2.2.2.2.2.1 t.2.2.2.2.2.2 post) n (x1, x2, x3, x4, x5, x6, σ)
theorem kBI_X4_lostIn_30 {X : Kx} {l : Launch} {E : Ev} {a : Nat → Nat} {post : Int32 → St → Prop} (C : Cx X l E RX4 cX4_lostIn rmI_X4_lostIn (some .int)) (hQ : QI X (wI E a) post) (k_30 : Int32 → Int32 → Int32 → Int32 → Int32 → Int32 → St → Prop) (hk_30 : ∀ (x1 x2 x3 x4 x5 x6 : Int32) (σ : St), k_30 x1 x2 x3 x4 x5 x6 σ → G X (wI E a) σ 30 [some (.ref (a 800)), some (.int x1), some (.int x2), some (.int x3), some (.int x4), some (.int x5), some (.int x6), none, none] []) (x1 x2 x3 x4 x5 x6 : Int32) (σ : St) (h : wpBI_X4_lostIn_30 k_30 x1 x2 x3 x4 x5 x6 σ post) : G X (wI E a) σ 30 [some (.ref (a 800)), some (.int x1), some (.int x2), some (.int x3), some (.int x4), some (.int x5), some (.int x6), none, none] [] := by
  unfold wpBI_X4_lostIn_30 at h
  refine g_iload C dX4_lostIn_30 rfl ?_
  refine g_iload C dX4_lostIn_32 rfl ?_
  refine g_icmp_ge C 54 dX4_lostIn_34 (by decide) (fun q => ?_) (fun q => ?_)
  · have h := h.1 q
    exact g_wk (kI_X4_lostIn_54 C hQ _ _ _ _ _ _ _ h) (And.intro rfl (And.intro rfl (And.intro rfl (And.intro rfl (And.intro rfl (And.intro rfl (And.intro rfl (trivial))))))))
  · have h := h.2 q
    refine g_aload_0 C dX4_lostIn_37 rfl ?_
    refine g_iload_1 C dX4_lostIn_38 rfl ?_
    refine g_iload_2 C dX4_lostIn_39 rfl ?_
    refine g_iload C dX4_lostIn_40 rfl ?_
    refine csI_X4_40 C h ⟨Nat.le_of_ble_eq_true rfl, Nat.le_of_ble_eq_true rfl⟩ (Nat.le_of_ble_eq_true rfl) dX4_lostIn_42 (fun _ _ h => ?_)
    refine g_if_ne C 54 dX4_lostIn_45 (by decide) (fun q => ?_) (fun q => ?_)
    · have h := h.1 q
      exact g_wk (kI_X4_lostIn_54 C hQ _ _ _ _ _ _ _ h) (And.intro rfl (And.intro rfl (And.intro rfl (And.intro rfl (And.intro rfl (And.intro rfl (And.intro rfl (trivial))))))))
    · have h := h.2 q
      refine g_iinc C (v := 1) (by decide) dX4_lostIn_48 rfl ?_
      refine g_goto C 30 dX4_lostIn_51 (by decide) ?_
      exact g_wk (hk_30 _ _ _ _ _ _ _ h) (And.intro rfl (And.intro rfl (And.intro rfl (And.intro rfl (And.intro rfl (And.intro rfl (And.intro rfl (trivial))))))))
theorem kI_X4_lostIn_30 {X : Kx} {l : Launch} {E : Ev} {a : Nat → Nat} {post : Int32 → St → Prop} (C : Cx X l E RX4 cX4_lostIn rmI_X4_lostIn (some .int)) (hQ : QI X (wI E a) post) (x1 x2 x3 x4 x5 x6 : Int32) (σ : St) (h : wpI_X4_lostIn_30  x1 x2 x3 x4 x5 x6 σ post) : G X (wI E a) σ 30 [some (.ref (a 800)), some (.int x1), some (.int x2), some (.int x3), some (.int x4), some (.int x5), some (.int x6), none, none] [] := by
  obtain ⟨n, h⟩ := h
  exact g_loop (J := fun t : Int32 × Int32 × Int32 × Int32 × Int32 × Int32 × St => G X (wI E a) t.2.2.2.2.2.2 30 [some (.ref (a 800)), some (.int t.1), some (.int t.2.1), some (.int t.2.2.1), some (.int t.2.2.2.1), some (.int t.2.2.2.2.1), some (.int t.2.2.2.2.2.1), none, none] []) (fun kb hkb t ht => kBI_X4_lostIn_30 C hQ  (fun x1 x2 x3 x4 x5 x6 σ => kb (x1, x2, x3, x4, x5, x6, σ)) (fun x1 x2 x3 x4 x5 x6 σ hh => hkb (x1, x2, x3, x4, x5, x6, σ) hh) t.1 t.2.1 t.2.2.1 t.2.2.2.1 t.2.2.2.2.1 t.2.2.2.2.2.1 t.2.2.2.2.2.2 ht) n (x1, x2, x3, x4, x5, x6, σ) h
def wpI_X4_lostIn_25 (x1 x2 x3 x4 x5 : Int32) (σ : St) (post : Int32 → St → Prop) : Prop := let y1 : Int32 := (x3 + 1); wpI_X4_lostIn_30 x1 x2 x3 x4 x5 y1 σ post
theorem kI_X4_lostIn_25 {X : Kx} {l : Launch} {E : Ev} {a : Nat → Nat} {post : Int32 → St → Prop} (C : Cx X l E RX4 cX4_lostIn rmI_X4_lostIn (some .int)) (hQ : QI X (wI E a) post) (x1 x2 x3 x4 x5 : Int32) (σ : St) (h : wpI_X4_lostIn_25  x1 x2 x3 x4 x5 σ post) : G X (wI E a) σ 25 [some (.ref (a 800)), some (.int x1), some (.int x2), some (.int x3), some (.int x4), some (.int x5), none, none, none] [] := by
  unfold wpI_X4_lostIn_25 at h
  refine g_iload_3 C dX4_lostIn_25 rfl ?_
  refine g_iconst_1 C dX4_lostIn_26 ?_
  refine g_iadd C dX4_lostIn_27 ?_
  refine g_istore C dX4_lostIn_28 (Nat.le_of_ble_eq_true rfl) ?_
  exact g_wk (kI_X4_lostIn_30 C hQ _ _ _ _ _ _ _ h) (And.intro rfl (And.intro rfl (And.intro rfl (And.intro rfl (And.intro rfl (And.intro rfl (And.intro rfl (trivial))))))))
def wpBI_X4_lostIn_3 (k_3 : Int32 → Int32 → Int32 → Int32 → Int32 → St → Prop) (x1 x2 x3 x4 x5 : Int32) (σ : St) (post : Int32 → St → Prop) : Prop := ((x5 ≤ 0 → wpI_X4_lostIn_25 x1 x2 x3 x4 x5 σ post) ∧ (¬ x5 ≤ 0 → wpI_X4_isTimed x1 x2 x5 σ (fun r2 σ1 => ((¬ r2 = 0 → wpI_X4_lostIn_25 x1 x2 x3 x4 x5 σ1 post) ∧ (r2 = 0 → let y3 : Int32 := x5 + (-1); k_3 x1 x2 x3 x4 y3 σ1)))))
def wpI_X4_lostIn_3 (x1 x2 x3 x4 x5 : Int32) (σ : St) (post : Int32 → St → Prop) : Prop := ∃ n : Nat, lpN (α := Int32 × Int32 × Int32 × Int32 × Int32 × St) (fun kb t => wpBI_X4_lostIn_3 (fun x1 x2 x3 x4 x5 σ => kb (x1, x2, x3, x4, x5, σ)) t.1 t.2.1 t.2.2.1 t.2.2.2.1 t.2.2.2.2.1 t.2.2.2.2.2 post) n (x1, x2, x3, x4, x5, σ)
theorem kBI_X4_lostIn_3 {X : Kx} {l : Launch} {E : Ev} {a : Nat → Nat} {post : Int32 → St → Prop} (C : Cx X l E RX4 cX4_lostIn rmI_X4_lostIn (some .int)) (hQ : QI X (wI E a) post) (k_3 : Int32 → Int32 → Int32 → Int32 → Int32 → St → Prop) (hk_3 : ∀ (x1 x2 x3 x4 x5 : Int32) (σ : St), k_3 x1 x2 x3 x4 x5 σ → G X (wI E a) σ 3 [some (.ref (a 800)), some (.int x1), some (.int x2), some (.int x3), some (.int x4), some (.int x5), none, none, none] []) (x1 x2 x3 x4 x5 : Int32) (σ : St) (h : wpBI_X4_lostIn_3 k_3 x1 x2 x3 x4 x5 σ post) : G X (wI E a) σ 3 [some (.ref (a 800)), some (.int x1), some (.int x2), some (.int x3), some (.int x4), some (.int x5), none, none, none] [] := by
  unfold wpBI_X4_lostIn_3 at h
  refine g_iload C dX4_lostIn_3 rfl ?_
  refine g_if_le C 25 dX4_lostIn_5 (by decide) (fun q => ?_) (fun q => ?_)
  · have h := h.1 q
    exact g_wk (kI_X4_lostIn_25 C hQ _ _ _ _ _ _ h) (And.intro rfl (And.intro rfl (And.intro rfl (And.intro rfl (And.intro rfl (And.intro rfl (trivial)))))))
  · have h := h.2 q
    refine g_aload_0 C dX4_lostIn_8 rfl ?_
    refine g_iload_1 C dX4_lostIn_9 rfl ?_
    refine g_iload_2 C dX4_lostIn_10 rfl ?_
    refine g_iload C dX4_lostIn_11 rfl ?_
    refine csI_X4_40 C h ⟨Nat.le_of_ble_eq_true rfl, Nat.le_of_ble_eq_true rfl⟩ (Nat.le_of_ble_eq_true rfl) dX4_lostIn_13 (fun _ _ h => ?_)
    refine g_if_ne C 25 dX4_lostIn_16 (by decide) (fun q => ?_) (fun q => ?_)
    · have h := h.1 q
      exact g_wk (kI_X4_lostIn_25 C hQ _ _ _ _ _ _ h) (And.intro rfl (And.intro rfl (And.intro rfl (And.intro rfl (And.intro rfl (And.intro rfl (trivial)))))))
    · have h := h.2 q
      refine g_iinc C (v := (-1)) (by decide) dX4_lostIn_19 rfl ?_
      refine g_goto C 3 dX4_lostIn_22 (by decide) ?_
      exact g_wk (hk_3 _ _ _ _ _ _ h) (And.intro rfl (And.intro rfl (And.intro rfl (And.intro rfl (And.intro rfl (And.intro rfl (trivial)))))))
theorem kI_X4_lostIn_3 {X : Kx} {l : Launch} {E : Ev} {a : Nat → Nat} {post : Int32 → St → Prop} (C : Cx X l E RX4 cX4_lostIn rmI_X4_lostIn (some .int)) (hQ : QI X (wI E a) post) (x1 x2 x3 x4 x5 : Int32) (σ : St) (h : wpI_X4_lostIn_3  x1 x2 x3 x4 x5 σ post) : G X (wI E a) σ 3 [some (.ref (a 800)), some (.int x1), some (.int x2), some (.int x3), some (.int x4), some (.int x5), none, none, none] [] := by
  obtain ⟨n, h⟩ := h
  exact g_loop (J := fun t : Int32 × Int32 × Int32 × Int32 × Int32 × St => G X (wI E a) t.2.2.2.2.2 3 [some (.ref (a 800)), some (.int t.1), some (.int t.2.1), some (.int t.2.2.1), some (.int t.2.2.2.1), some (.int t.2.2.2.2.1), none, none, none] []) (fun kb hkb t ht => kBI_X4_lostIn_3 C hQ  (fun x1 x2 x3 x4 x5 σ => kb (x1, x2, x3, x4, x5, σ)) (fun x1 x2 x3 x4 x5 σ hh => hkb (x1, x2, x3, x4, x5, σ) hh) t.1 t.2.1 t.2.2.1 t.2.2.2.1 t.2.2.2.2.1 t.2.2.2.2.2 ht) n (x1, x2, x3, x4, x5, σ) h
def wpI_X4_lostIn (x1 x2 x3 x4 : Int32) (σ : St) (post : Int32 → St → Prop) : Prop := wpI_X4_lostIn_3 x1 x2 x3 x4 x3 σ post
theorem kI_X4_lostIn {X : Kx} {l : Launch} {E : Ev} {a : Nat → Nat} {post : Int32 → St → Prop} (C : Cx X l E RX4 cX4_lostIn rmI_X4_lostIn (some .int)) (hQ : QI X (wI E a) post) (x1 x2 x3 x4 : Int32) (σ : St) (h : wpI_X4_lostIn x1 x2 x3 x4 σ post) : G X (wI E a) σ 0 [some (.ref (a 800)), some (.int x1), some (.int x2), some (.int x3), some (.int x4), none, none, none, none] [] := by
  unfold wpI_X4_lostIn at h
  refine g_iload_3 C dX4_lostIn_0 rfl ?_
  refine g_istore C dX4_lostIn_1 (Nat.le_of_ble_eq_true rfl) ?_
  exact g_wk (kI_X4_lostIn_3 C hQ _ _ _ _ _ _ h) (And.intro rfl (And.intro rfl (And.intro rfl (And.intro rfl (And.intro rfl (And.intro rfl (trivial)))))))
theorem cI_X4_lostIn {l : Launch} {E : Ev} {a : Nat → Nat} {x1 x2 x3 x4 : Int32} {σ : St} {post : Int32 → St → Prop} (h : wpI_X4_lostIn x1 x2 x3 x4 σ post) : CI l E (wI E a) yX4_lostIn cX4_lostIn 9 .int rmI_X4_lostIn [.ref (a 800), .int x1, .int x2, .int x3, .int x4] σ post := met_i (by decide) rfl (Nat.le_of_ble_eq_true rfl) rfl (fun X C hQ => kI_X4_lostIn C hQ _ _ _ _ _ h)
theorem fgI_X5_9 {X : Kx} {l : Launch} {E : Ev} {a : Nat → Nat} {σ : St} {cc : ByteArray} {rm : Room} {ret : Option FieldType} {pc : Nat} {lv : List (Option Value)} {st : List Value} (C : Cx X l E RX5 cc rm ret) (d : decode cc pc = .ok (.getfield 9, 3)) (k : G X (wI E a) σ (pc + 3) lv (.int (σ.1 300) :: st)) : G X (wI E a) σ pc lv (.ref (a 300) :: st) := g_get C (q0 := 17) (ci := 5) (k := 0) rfl rfl inU_X5 (by decide) (by decide +kernel) rfl d k
theorem fgI_X5_15 {X : Kx} {l : Launch} {E : Ev} {a : Nat → Nat} {σ : St} {cc : ByteArray} {rm : Room} {ret : Option FieldType} {pc : Nat} {lv : List (Option Value)} {st : List Value} (C : Cx X l E RX5 cc rm ret) (d : decode cc pc = .ok (.getfield 15, 3)) (k : G X (wI E a) σ (pc + 3) lv (.ref (a 302) :: st)) : G X (wI E a) σ pc lv (.ref (a 300) :: st) := g_get C (q0 := 17) (ci := 5) (k := 1) rfl rfl inU_X5 (by decide) (by decide +kernel) rfl d k
theorem asI_301 {X : Kx} {l : Launch} {E : Ev} {a : Nat → Nat} {σ : St} {cc : ByteArray} {rm : Room} {ret : Option FieldType} {pc : Nat} {lv : List (Option Value)} {st : List Value} {own : String} {i x : Int32} (C : Cx X l E own cc rm ret) (hin : vp_in i 16) (d : decode cc pc = .ok (.iastore, 1)) (k : G X (wI E a) (pA σ 301 i.toNatClampNeg x) (pc + 1) lv st) : G X (wI E a) σ pc lv (.int x :: .int i :: .ref (a 302) :: st) := g_iast C (q0 := 18) rfl rfl hin d k
theorem fgI_X5_19 {X : Kx} {l : Launch} {E : Ev} {a : Nat → Nat} {σ : St} {cc : ByteArray} {rm : Room} {ret : Option FieldType} {pc : Nat} {lv : List (Option Value)} {st : List Value} (C : Cx X l E RX5 cc rm ret) (d : decode cc pc = .ok (.getfield 19, 3)) (k : G X (wI E a) σ (pc + 3) lv (.ref (a 303) :: st)) : G X (wI E a) σ pc lv (.ref (a 300) :: st) := g_get C (q0 := 17) (ci := 5) (k := 2) rfl rfl inU_X5 (by decide) (by decide +kernel) rfl d k
theorem asI_302 {X : Kx} {l : Launch} {E : Ev} {a : Nat → Nat} {σ : St} {cc : ByteArray} {rm : Room} {ret : Option FieldType} {pc : Nat} {lv : List (Option Value)} {st : List Value} {own : String} {i x : Int32} (C : Cx X l E own cc rm ret) (hin : vp_in i 16) (d : decode cc pc = .ok (.iastore, 1)) (k : G X (wI E a) (pA σ 302 i.toNatClampNeg x) (pc + 1) lv st) : G X (wI E a) σ pc lv (.int x :: .int i :: .ref (a 303) :: st) := g_iast C (q0 := 19) rfl rfl hin d k
theorem fgI_X5_22 {X : Kx} {l : Launch} {E : Ev} {a : Nat → Nat} {σ : St} {cc : ByteArray} {rm : Room} {ret : Option FieldType} {pc : Nat} {lv : List (Option Value)} {st : List Value} (C : Cx X l E RX5 cc rm ret) (d : decode cc pc = .ok (.getfield 22, 3)) (k : G X (wI E a) σ (pc + 3) lv (.ref (a 304) :: st)) : G X (wI E a) σ pc lv (.ref (a 300) :: st) := g_get C (q0 := 17) (ci := 5) (k := 3) rfl rfl inU_X5 (by decide) (by decide +kernel) rfl d k
theorem asI_303 {X : Kx} {l : Launch} {E : Ev} {a : Nat → Nat} {σ : St} {cc : ByteArray} {rm : Room} {ret : Option FieldType} {pc : Nat} {lv : List (Option Value)} {st : List Value} {own : String} {i x : Int32} (C : Cx X l E own cc rm ret) (hin : vp_in i 16) (d : decode cc pc = .ok (.iastore, 1)) (k : G X (wI E a) (pA σ 303 i.toNatClampNeg x) (pc + 1) lv st) : G X (wI E a) σ pc lv (.int x :: .int i :: .ref (a 304) :: st) := g_iast C (q0 := 20) rfl rfl hin d k
theorem fgI_X5_25 {X : Kx} {l : Launch} {E : Ev} {a : Nat → Nat} {σ : St} {cc : ByteArray} {rm : Room} {ret : Option FieldType} {pc : Nat} {lv : List (Option Value)} {st : List Value} (C : Cx X l E RX5 cc rm ret) (d : decode cc pc = .ok (.getfield 25, 3)) (k : G X (wI E a) σ (pc + 3) lv (.ref (a 305) :: st)) : G X (wI E a) σ pc lv (.ref (a 300) :: st) := g_get C (q0 := 17) (ci := 5) (k := 4) rfl rfl inU_X5 (by decide) (by decide +kernel) rfl d k
theorem asI_304 {X : Kx} {l : Launch} {E : Ev} {a : Nat → Nat} {σ : St} {cc : ByteArray} {rm : Room} {ret : Option FieldType} {pc : Nat} {lv : List (Option Value)} {st : List Value} {own : String} {i x : Int32} (C : Cx X l E own cc rm ret) (hin : vp_in i 16) (d : decode cc pc = .ok (.iastore, 1)) (k : G X (wI E a) (pA σ 304 i.toNatClampNeg x) (pc + 1) lv st) : G X (wI E a) σ pc lv (.int x :: .int i :: .ref (a 305) :: st) := g_iast C (q0 := 21) rfl rfl hin d k
theorem fpI_X5_9 {X : Kx} {l : Launch} {E : Ev} {a : Nat → Nat} {σ : St} {cc : ByteArray} {rm : Room} {ret : Option FieldType} {pc : Nat} {lv : List (Option Value)} {st : List Value} {v : Int32} (C : Cx X l E RX5 cc rm ret) (d : decode cc pc = .ok (.putfield 9, 3)) (k : G X (wI E a) (pI σ 300 v) (pc + 3) lv st) : G X (wI E a) σ pc lv (.int v :: .ref (a 300) :: st) := g_put C (q0 := 17) (ci := 5) (k := 0) (ty0 := tyX5) rfl rfl inU_X5 (by decide) tyX5_ok nmX5 (by decide +kernel) rfl rfl rfl (Nat.le_of_ble_eq_true rfl) rfl d k
/-! IceRun$Sleds.add(IIII)I -/
abbrev rmI_X5_add : Room := { frames := 0, cells := 0, slots := 0, locals := 0 }
def wpI_X5_add (x1 x2 x3 x4 : Int32) (σ : St) (post : Int32 → St → Prop) : Prop := let y1 : Int32 := (σ.1 300); vp_in y1 16 ∧ (let σ2 : St := pA σ 301 (Int32.toNatClampNeg y1) x1; vp_in y1 16 ∧ (let σ3 : St := pA σ2 302 (Int32.toNatClampNeg y1) x2; vp_in y1 16 ∧ (let σ4 : St := pA σ3 303 (Int32.toNatClampNeg y1) x3; vp_in y1 16 ∧ (let σ5 : St := pA σ4 304 (Int32.toNatClampNeg y1) x4; let σ6 : St := pI σ5 300 ((σ5.1 300) + 1); post y1 σ6))))
theorem kI_X5_add {X : Kx} {l : Launch} {E : Ev} {a : Nat → Nat} {post : Int32 → St → Prop} (C : Cx X l E RX5 cX5_add rmI_X5_add (some .int)) (hQ : QI X (wI E a) post) (x1 x2 x3 x4 : Int32) (σ : St) (h : wpI_X5_add x1 x2 x3 x4 σ post) : G X (wI E a) σ 0 [some (.ref (a 300)), some (.int x1), some (.int x2), some (.int x3), some (.int x4), none] [] := by
  unfold wpI_X5_add at h
  refine g_aload_0 C dX5_add_0 rfl ?_
  refine fgI_X5_9 C dX5_add_1 ?_
  refine g_istore C dX5_add_4 (Nat.le_of_ble_eq_true rfl) ?_
  refine g_aload_0 C dX5_add_6 rfl ?_
  refine fgI_X5_15 C dX5_add_7 ?_
  refine g_iload C dX5_add_10 rfl ?_
  refine g_iload_1 C dX5_add_12 rfl ?_
  obtain ⟨q, h⟩ := h
  refine asI_301 C q dX5_add_13 ?_
  refine g_aload_0 C dX5_add_14 rfl ?_
  refine fgI_X5_19 C dX5_add_15 ?_
  refine g_iload C dX5_add_18 rfl ?_
  refine g_iload_2 C dX5_add_20 rfl ?_
  obtain ⟨q, h⟩ := h
  refine asI_302 C q dX5_add_21 ?_
  refine g_aload_0 C dX5_add_22 rfl ?_
  refine fgI_X5_22 C dX5_add_23 ?_
  refine g_iload C dX5_add_26 rfl ?_
  refine g_iload_3 C dX5_add_28 rfl ?_
  obtain ⟨q, h⟩ := h
  refine asI_303 C q dX5_add_29 ?_
  refine g_aload_0 C dX5_add_30 rfl ?_
  refine fgI_X5_25 C dX5_add_31 ?_
  refine g_iload C dX5_add_34 rfl ?_
  refine g_iload C dX5_add_36 rfl ?_
  obtain ⟨q, h⟩ := h
  refine asI_304 C q dX5_add_38 ?_
  refine g_aload_0 C dX5_add_39 rfl ?_
  refine g_dup C dX5_add_40 rfl ?_
  refine fgI_X5_9 C dX5_add_41 ?_
  refine g_iconst_1 C dX5_add_44 ?_
  refine g_iadd C dX5_add_45 ?_
  refine fpI_X5_9 C dX5_add_46 ?_
  refine g_iload C dX5_add_49 rfl ?_
  exact g_ireturn C hQ dX5_add_51 h
theorem cI_X5_add {l : Launch} {E : Ev} {a : Nat → Nat} {x1 x2 x3 x4 : Int32} {σ : St} {post : Int32 → St → Prop} (h : wpI_X5_add x1 x2 x3 x4 σ post) : CI l E (wI E a) yX5_add cX5_add 6 .int rmI_X5_add [.ref (a 300), .int x1, .int x2, .int x3, .int x4] σ post := met_i (by decide) rfl (Nat.le_of_ble_eq_true rfl) rfl (fun X C hQ => kI_X5_add C hQ _ _ _ _ _ h)
theorem csI_X5_31 {X : Kx} {l : Launch} {E : Ev} {a : Nat → Nat} {σ : St} {cc : ByteArray} {rm : Room} {ret : Option FieldType} {pc : Nat} {lv : List (Option Value)} {rest : List Value} {x0 x1 x2 : Int32} {post : Int32 → St → Prop} (C : Cx X l E RX5 cc rm ret) (h : wpI_X10_within x0 x1 x2 σ post) (hR : 0 + 1 ≤ rm.frames ∧ 8 + (3 + 11) + 0 ≤ rm.locals) (hW : (rest.map fun v => v.category).sum ≤ 8) (d : decode cc pc = .ok (.invokestatic 31, 3)) (k : ∀ (r : Int32) (u : St), post r u → G X (wI E a) u (pc + 3) lv (.int r :: rest)) : G X (wI E a) σ pc lv (.int x2 :: .int x1 :: .int x0 :: rest) := g_callSNi C 3 (host := "IceRun") (As := [.int x0, .int x1, .int x2]) (rest := rest) (by decide +kernel) (by decide +kernel) (by decide +kernel) (by decide +kernel) (by decide +kernel) (cI_X10_within h) ⟨rfl, rfl⟩ hR rfl rfl hW d k
/-! IceRun$Sleds.has(I)Z -/
abbrev rmI_X5_has : Room := { frames := 1, cells := 0, slots := 0, locals := 22 }
def wpI_X5_has (x1 : Int32) (σ : St) (post : Int32 → St → Prop) : Prop := wpI_X10_within x1 0 ((σ.1 300) - 1) σ (fun r2 σ1 => (r2 = 0 ∨ r2 = 1) ∧ post r2 σ1)
theorem kI_X5_has {X : Kx} {l : Launch} {E : Ev} {a : Nat → Nat} {post : Int32 → St → Prop} (C : Cx X l E RX5 cX5_has rmI_X5_has (some .boolean)) (hQ : QI X (wI E a) post) (x1 : Int32) (σ : St) (h : wpI_X5_has x1 σ post) : G X (wI E a) σ 0 [some (.ref (a 300)), some (.int x1)] [] := by
  unfold wpI_X5_has at h
  refine g_iload_1 C dX5_has_0 rfl ?_
  refine g_iconst_0 C dX5_has_1 ?_
  refine g_aload_0 C dX5_has_2 rfl ?_
  refine fgI_X5_9 C dX5_has_3 ?_
  refine g_iconst_1 C dX5_has_6 ?_
  refine g_isub C dX5_has_7 ?_
  refine csI_X5_31 C h ⟨Nat.le_of_ble_eq_true rfl, Nat.le_of_ble_eq_true rfl⟩ (Nat.le_of_ble_eq_true rfl) dX5_has_8 (fun _ _ h => ?_)
  exact g_zreturn C hQ dX5_has_11 h.1 h.2
theorem cI_X5_has {l : Launch} {E : Ev} {a : Nat → Nat} {x1 : Int32} {σ : St} {post : Int32 → St → Prop} (h : wpI_X5_has x1 σ post) : CI l E (wI E a) yX5_has cX5_has 2 .boolean rmI_X5_has [.ref (a 300), .int x1] σ post := met_i (by decide) rfl (Nat.le_of_ble_eq_true rfl) rfl (fun X C hQ => kI_X5_has C hQ _ _ h)
theorem alI_302 {X : Kx} {l : Launch} {E : Ev} {a : Nat → Nat} {σ : St} {cc : ByteArray} {rm : Room} {ret : Option FieldType} {pc : Nat} {lv : List (Option Value)} {st : List Value} {own : String} {i : Int32} (C : Cx X l E own cc rm ret) (hin : vp_in i 16) (d : decode cc pc = .ok (.iaload, 1)) (k : G X (wI E a) σ (pc + 1) lv (.int (σ.2 302 i.toNatClampNeg) :: st)) : G X (wI E a) σ pc lv (.int i :: .ref (a 303) :: st) := g_iald C (q0 := 19) rfl hin d k
theorem asI_709 {X : Kx} {l : Launch} {E : Ev} {a : Nat → Nat} {σ : St} {cc : ByteArray} {rm : Room} {ret : Option FieldType} {pc : Nat} {lv : List (Option Value)} {st : List Value} {own : String} {i x : Int32} (C : Cx X l E own cc rm ret) (hin : vp_in i 16) (d : decode cc pc = .ok (.iastore, 1)) (k : G X (wI E a) (pA σ 709 i.toNatClampNeg x) (pc + 1) lv st) : G X (wI E a) σ pc lv (.int x :: .int i :: .ref (a 710) :: st) := g_iast C (q0 := 31) rfl rfl hin d k
/-! IceRun$Sleds.listUpTo(I[I)I -/
abbrev rmI_X5_listUpTo : Room := { frames := 0, cells := 0, slots := 0, locals := 0 }
def wpI_X5_listUpTo_33 (k_5 : Int32 → Int32 → Int32 → St → Prop) (x1 x3 x4 : Int32) (σ : St) (post : Int32 → St → Prop) : Prop := let y1 : Int32 := x4 + 1; k_5 x1 x3 y1 σ
theorem kI_X5_listUpTo_33 {X : Kx} {l : Launch} {E : Ev} {a : Nat → Nat} {post : Int32 → St → Prop} (C : Cx X l E RX5 cX5_listUpTo rmI_X5_listUpTo (some .int)) (hQ : QI X (wI E a) post) (k_5 : Int32 → Int32 → Int32 → St → Prop) (hk_5 : ∀ (x1 x3 x4 : Int32) (σ : St), k_5 x1 x3 x4 σ → G X (wI E a) σ 5 [some (.ref (a 300)), some (.int x1), some (.ref (a 710)), some (.int x3), some (.int x4)] []) (x1 x3 x4 : Int32) (σ : St) (h : wpI_X5_listUpTo_33 k_5 x1 x3 x4 σ post) : G X (wI E a) σ 33 [some (.ref (a 300)), some (.int x1), some (.ref (a 710)), some (.int x3), some (.int x4)] [] := by
  unfold wpI_X5_listUpTo_33 at h
  refine g_iinc C (v := 1) (by decide) dX5_listUpTo_33 rfl ?_
  refine g_goto C 5 dX5_listUpTo_36 (by decide) ?_
  exact g_wk (hk_5 _ _ _ _ h) (And.intro rfl (And.intro rfl (And.intro rfl (And.intro rfl (And.intro rfl (trivial))))))
def wpBI_X5_listUpTo_5 (k_5 : Int32 → Int32 → Int32 → St → Prop) (x1 x3 x4 : Int32) (σ : St) (post : Int32 → St → Prop) : Prop := (((σ.1 300) ≤ x4 → post x3 σ) ∧ (¬ (σ.1 300) ≤ x4 → vp_in x4 16 ∧ (((x1 < (σ.2 302 (Int32.toNatClampNeg x4)) → wpI_X5_listUpTo_33 k_5 x1 x3 x4 σ post) ∧ (¬ x1 < (σ.2 302 (Int32.toNatClampNeg x4)) → vp_in x3 16 ∧ (let σ1 : St := pA σ 709 (Int32.toNatClampNeg x3) x4; let y2 : Int32 := x3 + 1; wpI_X5_listUpTo_33 k_5 x1 y2 x4 σ1 post))))))
def wpI_X5_listUpTo_5 (x1 x3 x4 : Int32) (σ : St) (post : Int32 → St → Prop) : Prop := ∃ n : Nat, lpN (α := Int32 × Int32 × Int32 × St) (fun kb t => wpBI_X5_listUpTo_5 (fun x1 x3 x4 σ => kb (x1, x3, x4, σ)) t.1 t.2.1 t.2.2.1 t.2.2.2 post) n (x1, x3, x4, σ)
theorem kBI_X5_listUpTo_5 {X : Kx} {l : Launch} {E : Ev} {a : Nat → Nat} {post : Int32 → St → Prop} (C : Cx X l E RX5 cX5_listUpTo rmI_X5_listUpTo (some .int)) (hQ : QI X (wI E a) post) (k_5 : Int32 → Int32 → Int32 → St → Prop) (hk_5 : ∀ (x1 x3 x4 : Int32) (σ : St), k_5 x1 x3 x4 σ → G X (wI E a) σ 5 [some (.ref (a 300)), some (.int x1), some (.ref (a 710)), some (.int x3), some (.int x4)] []) (x1 x3 x4 : Int32) (σ : St) (h : wpBI_X5_listUpTo_5 k_5 x1 x3 x4 σ post) : G X (wI E a) σ 5 [some (.ref (a 300)), some (.int x1), some (.ref (a 710)), some (.int x3), some (.int x4)] [] := by
  unfold wpBI_X5_listUpTo_5 at h
  refine g_iload C dX5_listUpTo_5 rfl ?_
  refine g_aload_0 C dX5_listUpTo_7 rfl ?_
  refine fgI_X5_9 C dX5_listUpTo_8 ?_
  refine g_icmp_ge C 39 dX5_listUpTo_11 (by decide) (fun q => ?_) (fun q => ?_)
  · have h := h.1 q
    refine g_iload_3 C dX5_listUpTo_39 rfl ?_
    exact g_ireturn C hQ dX5_listUpTo_40 h
  · have h := h.2 q
    refine g_aload_0 C dX5_listUpTo_14 rfl ?_
    refine fgI_X5_19 C dX5_listUpTo_15 ?_
    refine g_iload C dX5_listUpTo_18 rfl ?_
    obtain ⟨q, h⟩ := h
    refine alI_302 C q dX5_listUpTo_20 ?_
    refine g_iload_1 C dX5_listUpTo_21 rfl ?_
    refine g_icmp_gt C 33 dX5_listUpTo_22 (by decide) (fun q => ?_) (fun q => ?_)
    · have h := h.1 q
      exact g_wk (kI_X5_listUpTo_33 C hQ _ hk_5 _ _ _ _ h) (And.intro rfl (And.intro rfl (And.intro rfl (And.intro rfl (And.intro rfl (trivial))))))
    · have h := h.2 q
      refine g_aload_2 C dX5_listUpTo_25 rfl ?_
      refine g_iload_3 C dX5_listUpTo_26 rfl ?_
      refine g_iload C dX5_listUpTo_27 rfl ?_
      obtain ⟨q, h⟩ := h
      refine asI_709 C q dX5_listUpTo_29 ?_
      refine g_iinc C (v := 1) (by decide) dX5_listUpTo_30 rfl ?_
      exact g_wk (kI_X5_listUpTo_33 C hQ _ hk_5 _ _ _ _ h) (And.intro rfl (And.intro rfl (And.intro rfl (And.intro rfl (And.intro rfl (trivial))))))
theorem kI_X5_listUpTo_5 {X : Kx} {l : Launch} {E : Ev} {a : Nat → Nat} {post : Int32 → St → Prop} (C : Cx X l E RX5 cX5_listUpTo rmI_X5_listUpTo (some .int)) (hQ : QI X (wI E a) post) (x1 x3 x4 : Int32) (σ : St) (h : wpI_X5_listUpTo_5  x1 x3 x4 σ post) : G X (wI E a) σ 5 [some (.ref (a 300)), some (.int x1), some (.ref (a 710)), some (.int x3), some (.int x4)] [] := by
  obtain ⟨n, h⟩ := h
  exact g_loop (J := fun t : Int32 × Int32 × Int32 × St => G X (wI E a) t.2.2.2 5 [some (.ref (a 300)), some (.int t.1), some (.ref (a 710)), some (.int t.2.1), some (.int t.2.2.1)] []) (fun kb hkb t ht => kBI_X5_listUpTo_5 C hQ  (fun x1 x3 x4 σ => kb (x1, x3, x4, σ)) (fun x1 x3 x4 σ hh => hkb (x1, x3, x4, σ) hh) t.1 t.2.1 t.2.2.1 t.2.2.2 ht) n (x1, x3, x4, σ) h
def wpI_X5_listUpTo (x1 : Int32) (σ : St) (post : Int32 → St → Prop) : Prop := wpI_X5_listUpTo_5 x1 0 0 σ post
theorem kI_X5_listUpTo {X : Kx} {l : Launch} {E : Ev} {a : Nat → Nat} {post : Int32 → St → Prop} (C : Cx X l E RX5 cX5_listUpTo rmI_X5_listUpTo (some .int)) (hQ : QI X (wI E a) post) (x1 : Int32) (σ : St) (h : wpI_X5_listUpTo x1 σ post) : G X (wI E a) σ 0 [some (.ref (a 300)), some (.int x1), some (.ref (a 710)), none, none] [] := by
  unfold wpI_X5_listUpTo at h
  refine g_iconst_0 C dX5_listUpTo_0 ?_
  refine g_istore_3 C dX5_listUpTo_1 (Nat.le_of_ble_eq_true rfl) ?_
  refine g_iconst_0 C dX5_listUpTo_2 ?_
  refine g_istore C dX5_listUpTo_3 (Nat.le_of_ble_eq_true rfl) ?_
  exact g_wk (kI_X5_listUpTo_5 C hQ _ _ _ _ h) (And.intro rfl (And.intro rfl (And.intro rfl (And.intro rfl (And.intro rfl (trivial))))))
theorem cI_X5_listUpTo {l : Launch} {E : Ev} {a : Nat → Nat} {x1 : Int32} {σ : St} {post : Int32 → St → Prop} (h : wpI_X5_listUpTo x1 σ post) : CI l E (wI E a) yX5_listUpTo cX5_listUpTo 5 .int rmI_X5_listUpTo [.ref (a 300), .int x1, .ref (a 710)] σ post := met_i (by decide) rfl (Nat.le_of_ble_eq_true rfl) rfl (fun X C hQ => kI_X5_listUpTo C hQ _ _ h)
theorem alI_301 {X : Kx} {l : Launch} {E : Ev} {a : Nat → Nat} {σ : St} {cc : ByteArray} {rm : Room} {ret : Option FieldType} {pc : Nat} {lv : List (Option Value)} {st : List Value} {own : String} {i : Int32} (C : Cx X l E own cc rm ret) (hin : vp_in i 16) (d : decode cc pc = .ok (.iaload, 1)) (k : G X (wI E a) σ (pc + 1) lv (.int (σ.2 301 i.toNatClampNeg) :: st)) : G X (wI E a) σ pc lv (.int i :: .ref (a 302) :: st) := g_iald C (q0 := 18) rfl hin d k
theorem fgI_X5_28 {X : Kx} {l : Launch} {E : Ev} {a : Nat → Nat} {σ : St} {cc : ByteArray} {rm : Room} {ret : Option FieldType} {pc : Nat} {lv : List (Option Value)} {st : List Value} (C : Cx X l E RX5 cc rm ret) (d : decode cc pc = .ok (.getfield 28, 3)) (k : G X (wI E a) σ (pc + 3) lv (.ref (a 306) :: st)) : G X (wI E a) σ pc lv (.ref (a 300) :: st) := g_get C (q0 := 17) (ci := 5) (k := 5) rfl rfl inU_X5 (by decide) (by decide +kernel) rfl d k
theorem alI_305 {X : Kx} {l : Launch} {E : Ev} {a : Nat → Nat} {σ : St} {cc : ByteArray} {rm : Room} {ret : Option FieldType} {pc : Nat} {lv : List (Option Value)} {st : List Value} {own : String} {i : Int32} (C : Cx X l E own cc rm ret) (hin : vp_in i 16) (d : decode cc pc = .ok (.iaload, 1)) (k : G X (wI E a) σ (pc + 1) lv (.int (σ.2 305 i.toNatClampNeg) :: st)) : G X (wI E a) σ pc lv (.int i :: .ref (a 306) :: st) := g_iald C (q0 := 22) rfl hin d k
/-! IceRun$Sleds.pointsOfTeam(I)I -/
abbrev rmI_X5_pointsOfTeam : Room := { frames := 0, cells := 0, slots := 0, locals := 0 }
def wpI_X5_pointsOfTeam_31 (k_4 : Int32 → Int32 → Int32 → St → Prop) (x1 x2 x3 : Int32) (σ : St) (post : Int32 → St → Prop) : Prop := let y1 : Int32 := x3 + 1; k_4 x1 x2 y1 σ
theorem kI_X5_pointsOfTeam_31 {X : Kx} {l : Launch} {E : Ev} {a : Nat → Nat} {post : Int32 → St → Prop} (C : Cx X l E RX5 cX5_pointsOfTeam rmI_X5_pointsOfTeam (some .int)) (hQ : QI X (wI E a) post) (k_4 : Int32 → Int32 → Int32 → St → Prop) (hk_4 : ∀ (x1 x2 x3 : Int32) (σ : St), k_4 x1 x2 x3 σ → G X (wI E a) σ 4 [some (.ref (a 300)), some (.int x1), some (.int x2), some (.int x3)] []) (x1 x2 x3 : Int32) (σ : St) (h : wpI_X5_pointsOfTeam_31 k_4 x1 x2 x3 σ post) : G X (wI E a) σ 31 [some (.ref (a 300)), some (.int x1), some (.int x2), some (.int x3)] [] := by
  unfold wpI_X5_pointsOfTeam_31 at h
  refine g_iinc C (v := 1) (by decide) dX5_pointsOfTeam_31 rfl ?_
  refine g_goto C 4 dX5_pointsOfTeam_34 (by decide) ?_
  exact g_wk (hk_4 _ _ _ _ h) (And.intro rfl (And.intro rfl (And.intro rfl (And.intro rfl (trivial)))))
def wpBI_X5_pointsOfTeam_4 (k_4 : Int32 → Int32 → Int32 → St → Prop) (x1 x2 x3 : Int32) (σ : St) (post : Int32 → St → Prop) : Prop := (((σ.1 300) ≤ x3 → post x2 σ) ∧ (¬ (σ.1 300) ≤ x3 → vp_in x3 16 ∧ (((¬ (σ.2 301 (Int32.toNatClampNeg x3)) = x1 → wpI_X5_pointsOfTeam_31 k_4 x1 x2 x3 σ post) ∧ ((σ.2 301 (Int32.toNatClampNeg x3)) = x1 → vp_in x3 16 ∧ (let y1 : Int32 := (x2 + (σ.2 305 (Int32.toNatClampNeg x3))); wpI_X5_pointsOfTeam_31 k_4 x1 y1 x3 σ post))))))
def wpI_X5_pointsOfTeam_4 (x1 x2 x3 : Int32) (σ : St) (post : Int32 → St → Prop) : Prop := ∃ n : Nat, lpN (α := Int32 × Int32 × Int32 × St) (fun kb t => wpBI_X5_pointsOfTeam_4 (fun x1 x2 x3 σ => kb (x1, x2, x3, σ)) t.1 t.2.1 t.2.2.1 t.2.2.2 post) n (x1, x2, x3, σ)
theorem kBI_X5_pointsOfTeam_4 {X : Kx} {l : Launch} {E : Ev} {a : Nat → Nat} {post : Int32 → St → Prop} (C : Cx X l E RX5 cX5_pointsOfTeam rmI_X5_pointsOfTeam (some .int)) (hQ : QI X (wI E a) post) (k_4 : Int32 → Int32 → Int32 → St → Prop) (hk_4 : ∀ (x1 x2 x3 : Int32) (σ : St), k_4 x1 x2 x3 σ → G X (wI E a) σ 4 [some (.ref (a 300)), some (.int x1), some (.int x2), some (.int x3)] []) (x1 x2 x3 : Int32) (σ : St) (h : wpBI_X5_pointsOfTeam_4 k_4 x1 x2 x3 σ post) : G X (wI E a) σ 4 [some (.ref (a 300)), some (.int x1), some (.int x2), some (.int x3)] [] := by
  unfold wpBI_X5_pointsOfTeam_4 at h
  refine g_iload_3 C dX5_pointsOfTeam_4 rfl ?_
  refine g_aload_0 C dX5_pointsOfTeam_5 rfl ?_
  refine fgI_X5_9 C dX5_pointsOfTeam_6 ?_
  refine g_icmp_ge C 37 dX5_pointsOfTeam_9 (by decide) (fun q => ?_) (fun q => ?_)
  · have h := h.1 q
    refine g_iload_2 C dX5_pointsOfTeam_37 rfl ?_
    exact g_ireturn C hQ dX5_pointsOfTeam_38 h
  · have h := h.2 q
    refine g_aload_0 C dX5_pointsOfTeam_12 rfl ?_
    refine fgI_X5_15 C dX5_pointsOfTeam_13 ?_
    refine g_iload_3 C dX5_pointsOfTeam_16 rfl ?_
    obtain ⟨q, h⟩ := h
    refine alI_301 C q dX5_pointsOfTeam_17 ?_
    refine g_iload_1 C dX5_pointsOfTeam_18 rfl ?_
    refine g_icmp_ne C 31 dX5_pointsOfTeam_19 (by decide) (fun q => ?_) (fun q => ?_)
    · have h := h.1 q
      exact g_wk (kI_X5_pointsOfTeam_31 C hQ _ hk_4 _ _ _ _ h) (And.intro rfl (And.intro rfl (And.intro rfl (And.intro rfl (trivial)))))
    · have h := h.2 q
      refine g_iload_2 C dX5_pointsOfTeam_22 rfl ?_
      refine g_aload_0 C dX5_pointsOfTeam_23 rfl ?_
      refine fgI_X5_28 C dX5_pointsOfTeam_24 ?_
      refine g_iload_3 C dX5_pointsOfTeam_27 rfl ?_
      obtain ⟨q, h⟩ := h
      refine alI_305 C q dX5_pointsOfTeam_28 ?_
      refine g_iadd C dX5_pointsOfTeam_29 ?_
      refine g_istore_2 C dX5_pointsOfTeam_30 (Nat.le_of_ble_eq_true rfl) ?_
      exact g_wk (kI_X5_pointsOfTeam_31 C hQ _ hk_4 _ _ _ _ h) (And.intro rfl (And.intro rfl (And.intro rfl (And.intro rfl (trivial)))))
theorem kI_X5_pointsOfTeam_4 {X : Kx} {l : Launch} {E : Ev} {a : Nat → Nat} {post : Int32 → St → Prop} (C : Cx X l E RX5 cX5_pointsOfTeam rmI_X5_pointsOfTeam (some .int)) (hQ : QI X (wI E a) post) (x1 x2 x3 : Int32) (σ : St) (h : wpI_X5_pointsOfTeam_4  x1 x2 x3 σ post) : G X (wI E a) σ 4 [some (.ref (a 300)), some (.int x1), some (.int x2), some (.int x3)] [] := by
  obtain ⟨n, h⟩ := h
  exact g_loop (J := fun t : Int32 × Int32 × Int32 × St => G X (wI E a) t.2.2.2 4 [some (.ref (a 300)), some (.int t.1), some (.int t.2.1), some (.int t.2.2.1)] []) (fun kb hkb t ht => kBI_X5_pointsOfTeam_4 C hQ  (fun x1 x2 x3 σ => kb (x1, x2, x3, σ)) (fun x1 x2 x3 σ hh => hkb (x1, x2, x3, σ) hh) t.1 t.2.1 t.2.2.1 t.2.2.2 ht) n (x1, x2, x3, σ) h
def wpI_X5_pointsOfTeam (x1 : Int32) (σ : St) (post : Int32 → St → Prop) : Prop := wpI_X5_pointsOfTeam_4 x1 0 0 σ post
theorem kI_X5_pointsOfTeam {X : Kx} {l : Launch} {E : Ev} {a : Nat → Nat} {post : Int32 → St → Prop} (C : Cx X l E RX5 cX5_pointsOfTeam rmI_X5_pointsOfTeam (some .int)) (hQ : QI X (wI E a) post) (x1 : Int32) (σ : St) (h : wpI_X5_pointsOfTeam x1 σ post) : G X (wI E a) σ 0 [some (.ref (a 300)), some (.int x1), none, none] [] := by
  unfold wpI_X5_pointsOfTeam at h
  refine g_iconst_0 C dX5_pointsOfTeam_0 ?_
  refine g_istore_2 C dX5_pointsOfTeam_1 (Nat.le_of_ble_eq_true rfl) ?_
  refine g_iconst_0 C dX5_pointsOfTeam_2 ?_
  refine g_istore_3 C dX5_pointsOfTeam_3 (Nat.le_of_ble_eq_true rfl) ?_
  exact g_wk (kI_X5_pointsOfTeam_4 C hQ _ _ _ _ h) (And.intro rfl (And.intro rfl (And.intro rfl (And.intro rfl (trivial)))))
theorem cI_X5_pointsOfTeam {l : Launch} {E : Ev} {a : Nat → Nat} {x1 : Int32} {σ : St} {post : Int32 → St → Prop} (h : wpI_X5_pointsOfTeam x1 σ post) : CI l E (wI E a) yX5_pointsOfTeam cX5_pointsOfTeam 4 .int rmI_X5_pointsOfTeam [.ref (a 300), .int x1] σ post := met_i (by decide) rfl (Nat.le_of_ble_eq_true rfl) rfl (fun X C hQ => kI_X5_pointsOfTeam C hQ _ _ h)

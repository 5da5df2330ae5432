theorem mm_X2_74 : Cond.methodLink RX2 74 Lib.Math.min.name ∈ UW := by decide +kernel
theorem mwI_min : Cond.static Lib.Math.min.name ∈ UW ∧ Cond.initialized "java/lang/Math" ∈ UW ∧ Cond.code Lib.Math.min.name Lib.Math.min.code 2 (some .int) ∈ UW := ⟨by decide +kernel, by decide +kernel, by decide +kernel⟩
/-! IceRun$Race.turnOrder(II)V -/
abbrev rmI_X2_turnOrder : Room := { frames := 1, cells := 0, slots := 0, locals := 13 }
def wpI_X2_turnOrder_53 (k_14 : Int32 → Int32 → Int32 → St → Prop) (x1 x3 x4 s1 s2 : Int32) (σ : St) (post : St → Prop) : Prop := vp_in s1 16 ∧ (let σ1 : St := pA σ 708 (Int32.toNatClampNeg s1) s2; let y2 : Int32 := x4 + 1; k_14 x1 x3 y2 σ1)
theorem kI_X2_turnOrder_53 {X : Kx} {l : Launch} {E : Ev} {a : Nat → Nat} {post : St → Prop} (C : Cx X l E RX2 cX2_turnOrder rmI_X2_turnOrder none) (hQ : QV X (wI E a) post) (k_14 : Int32 → Int32 → Int32 → St → Prop) (hk_14 : ∀ (x1 x3 x4 : Int32) (σ : St), k_14 x1 x3 x4 σ → G X (wI E a) σ 14 [some (.ref (a 700)), some (.int x1), none, some (.int x3), some (.int x4)] []) (x1 x3 x4 s1 s2 : Int32) (σ : St) (h : wpI_X2_turnOrder_53 k_14 x1 x3 x4 s1 s2 σ post) : G X (wI E a) σ 53 [some (.ref (a 700)), some (.int x1), none, some (.int x3), some (.int x4)] [.int s2, .int s1, .ref (a 709)] := by
  unfold wpI_X2_turnOrder_53 at h
  obtain ⟨q, h⟩ := h
  refine asI_708 C q dX2_turnOrder_53 ?_
  refine g_iinc C (v := 1) (by decide) dX2_turnOrder_54 rfl ?_
  refine g_goto C 14 dX2_turnOrder_57 (by decide) ?_
  exact g_wk (hk_14 _ _ _ _ h) (And.intro rfl (And.intro rfl (And.intro rfl (And.intro rfl (trivial)))))
def wpBI_X2_turnOrder_14 (k_14 : Int32 → Int32 → Int32 → St → Prop) (x1 x3 x4 : Int32) (σ : St) (post : St → Prop) : Prop := ((x1 ≤ x4 → post σ) ∧ (¬ x1 ≤ x4 → ((x3 ≤ x4 → vp_in x4 16 ∧ (wpI_X2_turnOrder_53 k_14 x1 x3 x4 x4 (σ.2 709 (Int32.toNatClampNeg x4)) σ post)) ∧ (¬ x3 ≤ x4 → vp_in ((x3 - 1) - x4) 16 ∧ (wpI_X2_turnOrder_53 k_14 x1 x3 x4 x4 (σ.2 709 (Int32.toNatClampNeg ((x3 - 1) - x4))) σ post)))))
def wpI_X2_turnOrder_14 (x1 x3 x4 : Int32) (σ : St) (post : St → Prop) : Prop := ∃ n : Nat, lpN (α := Int32 × Int32 × Int32 × St) (fun kb t => wpBI_X2_turnOrder_14 (fun x1 x3 x4 σ => kb (x1, x3, x4, σ)) t.1 t.2.1 t.2.2.1 t.2.2.2 post) n (x1, x3, x4, σ)
theorem kBI_X2_turnOrder_14 {X : Kx} {l : Launch} {E : Ev} {a : Nat → Nat} {post : St → Prop} (C : Cx X l E RX2 cX2_turnOrder rmI_X2_turnOrder none) (hQ : QV X (wI E a) post) (k_14 : Int32 → Int32 → Int32 → St → Prop) (hk_14 : ∀ (x1 x3 x4 : Int32) (σ : St), k_14 x1 x3 x4 σ → G X (wI E a) σ 14 [some (.ref (a 700)), some (.int x1), none, some (.int x3), some (.int x4)] []) (x1 x3 x4 : Int32) (σ : St) (h : wpBI_X2_turnOrder_14 k_14 x1 x3 x4 σ post) : G X (wI E a) σ 14 [some (.ref (a 700)), some (.int x1), none, some (.int x3), some (.int x4)] [] := by
  unfold wpBI_X2_turnOrder_14 at h
  refine g_iload C dX2_turnOrder_14 rfl ?_
  refine g_iload_1 C dX2_turnOrder_16 rfl ?_
  refine g_icmp_ge C 60 dX2_turnOrder_17 (by decide) (fun q => ?_) (fun q => ?_)
  · have h := h.1 q
    exact g_return C hQ dX2_turnOrder_60 h
  · have h := h.2 q
    refine g_aload_0 C dX2_turnOrder_20 rfl ?_
    refine fgI_X2_9 C dX2_turnOrder_21 ?_
    refine g_iload C dX2_turnOrder_24 rfl ?_
    refine g_iload C dX2_turnOrder_26 rfl ?_
    refine g_iload_3 C dX2_turnOrder_28 rfl ?_
    refine g_icmp_ge C 46 dX2_turnOrder_29 (by decide) (fun q => ?_) (fun q => ?_)
    · have h := h.1 q
      refine g_aload_0 C dX2_turnOrder_46 rfl ?_
      refine fgI_X2_15 C dX2_turnOrder_47 ?_
      refine g_iload C dX2_turnOrder_50 rfl ?_
      obtain ⟨q, h⟩ := h
      refine alI_709 C q dX2_turnOrder_52 ?_
      exact g_wk (kI_X2_turnOrder_53 C hQ _ hk_14 _ _ _ _ _ _ h) (And.intro rfl (And.intro rfl (And.intro rfl (And.intro rfl (trivial)))))
    · have h := h.2 q
      refine g_aload_0 C dX2_turnOrder_32 rfl ?_
      refine fgI_X2_15 C dX2_turnOrder_33 ?_
      refine g_iload_3 C dX2_turnOrder_36 rfl ?_
      refine g_iconst_1 C dX2_turnOrder_37 ?_
      refine g_isub C dX2_turnOrder_38 ?_
      refine g_iload C dX2_turnOrder_39 rfl ?_
      refine g_isub C dX2_turnOrder_41 ?_
      obtain ⟨q, h⟩ := h
      refine alI_709 C q dX2_turnOrder_42 ?_
      refine g_goto C 53 dX2_turnOrder_43 (by decide) ?_
      exact g_wk (kI_X2_turnOrder_53 C hQ _ hk_14 _ _ _ _ _ _ h) (And.intro rfl (And.intro rfl (And.intro rfl (And.intro rfl (trivial)))))
theorem kI_X2_turnOrder_14 {X : Kx} {l : Launch} {E : Ev} {a : Nat → Nat} {post : St → Prop} (C : Cx X l E RX2 cX2_turnOrder rmI_X2_turnOrder none) (hQ : QV X (wI E a) post) (x1 x3 x4 : Int32) (σ : St) (h : wpI_X2_turnOrder_14  x1 x3 x4 σ post) : G X (wI E a) σ 14 [some (.ref (a 700)), some (.int x1), none, some (.int x3), some (.int x4)] [] := by
  obtain ⟨n, h⟩ := h
  exact g_loop (J := fun t : Int32 × Int32 × Int32 × St => G X (wI E a) t.2.2.2 14 [some (.ref (a 700)), some (.int t.1), none, some (.int t.2.1), some (.int t.2.2.1)] []) (fun kb hkb t ht => kBI_X2_turnOrder_14 C hQ  (fun x1 x3 x4 σ => kb (x1, x3, x4, σ)) (fun x1 x3 x4 σ hh => hkb (x1, x3, x4, σ) hh) t.1 t.2.1 t.2.2.1 t.2.2.2 ht) n (x1, x3, x4, σ) h
def wpI_X2_turnOrder (x1 x2 : Int32) (σ : St) (post : St → Prop) : Prop := let σ1 : St := pI σ 703 x1; let y2 : Int32 := (if x2 < x1 then x2 else x1); wpI_X2_turnOrder_14 x1 y2 0 σ1 post
theorem kI_X2_turnOrder {X : Kx} {l : Launch} {E : Ev} {a : Nat → Nat} {post : St → Prop} (C : Cx X l E RX2 cX2_turnOrder rmI_X2_turnOrder none) (hQ : QV X (wI E a) post) (x1 x2 : Int32) (σ : St) (h : wpI_X2_turnOrder x1 x2 σ post) : G X (wI E a) σ 0 [some (.ref (a 700)), some (.int x1), some (.int x2), none, none] [] := by
  unfold wpI_X2_turnOrder at h
  refine g_aload_0 C dX2_turnOrder_0 rfl ?_
  refine g_iload_1 C dX2_turnOrder_1 rfl ?_
  refine fpI_X2_49 C dX2_turnOrder_2 ?_
  refine g_iload_1 C dX2_turnOrder_5 rfl ?_
  refine g_iload_2 C dX2_turnOrder_6 rfl ?_
  refine g_mmin C mm_X2_74 mwI_min.1 mwI_min.2.1 mwI_min.2.2 ⟨Nat.le_of_ble_eq_true rfl, Nat.le_of_ble_eq_true rfl⟩ dX2_turnOrder_7 ?_
  refine g_istore_3 C dX2_turnOrder_10 (Nat.le_of_ble_eq_true rfl) ?_
  refine g_iconst_0 C dX2_turnOrder_11 ?_
  refine g_istore C dX2_turnOrder_12 (Nat.le_of_ble_eq_true rfl) ?_
  exact g_wk (kI_X2_turnOrder_14 C hQ _ _ _ _ h) (And.intro rfl (And.intro rfl (And.intro rfl (And.intro rfl (trivial)))))
theorem cI_X2_turnOrder {l : Launch} {E : Ev} {a : Nat → Nat} {x1 x2 : Int32} {σ : St} {post : St → Prop} (h : wpI_X2_turnOrder x1 x2 σ post) : CV l E (wI E a) yX2_turnOrder cX2_turnOrder 5 rmI_X2_turnOrder [.ref (a 700), .int x1, .int x2] σ post := met_v (by decide) rfl (Nat.le_of_ble_eq_true rfl) rfl (fun X C hQ => kI_X2_turnOrder C hQ _ _ _ h)
theorem fgI_X2_42 {X : Kx} {l : Launch} {E : Ev} {a : Nat → Nat} {σ : St} {cc : ByteArray} {rm : Room} {ret : Option FieldType} {pc : Nat} {lv : List (Option Value)} {st : List Value} (C : Cx X l E RX2 cc rm ret) (d : decode cc pc = .ok (.getfield 42, 3)) (k : G X (wI E a) σ (pc + 3) lv (.int (σ.1 701) :: st)) : G X (wI E a) σ pc lv (.ref (a 700) :: st) := g_get C (q0 := 29) (ci := 2) (k := 1) rfl rfl inU_X2 (by decide) (by decide +kernel) rfl d k
theorem fgI_X2_46 {X : Kx} {l : Launch} {E : Ev} {a : Nat → Nat} {σ : St} {cc : ByteArray} {rm : Room} {ret : Option FieldType} {pc : Nat} {lv : List (Option Value)} {st : List Value} (C : Cx X l E RX2 cc rm ret) (d : decode cc pc = .ok (.getfield 46, 3)) (k : G X (wI E a) σ (pc + 3) lv (.int (σ.1 702) :: st)) : G X (wI E a) σ pc lv (.ref (a 700) :: st) := g_get C (q0 := 29) (ci := 2) (k := 2) rfl rfl inU_X2 (by decide) (by decide +kernel) rfl d k
/-! IceRun$Race.beginRun()I -/
abbrev rmI_X2_beginRun : Room := { frames := 0, cells := 0, slots := 0, locals := 0 }
def wpI_X2_beginRun (σ : St) (post : Int32 → St → Prop) : Prop := let σ1 : St := pI σ 702 (σ.1 701); let σ2 : St := pI σ1 701 ((σ1.1 701) + 1); let σ3 : St := pI σ2 704 0; post (σ3.1 702) σ3
theorem kI_X2_beginRun {X : Kx} {l : Launch} {E : Ev} {a : Nat → Nat} {post : Int32 → St → Prop} (C : Cx X l E RX2 cX2_beginRun rmI_X2_beginRun (some .int)) (hQ : QI X (wI E a) post) (σ : St) (h : wpI_X2_beginRun  σ post) : G X (wI E a) σ 0 [some (.ref (a 700))] [] := by
  unfold wpI_X2_beginRun at h
  refine g_aload_0 C dX2_beginRun_0 rfl ?_
  refine g_aload_0 C dX2_beginRun_1 rfl ?_
  refine fgI_X2_42 C dX2_beginRun_2 ?_
  refine fpI_X2_46 C dX2_beginRun_5 ?_
  refine g_aload_0 C dX2_beginRun_8 rfl ?_
  refine g_dup C dX2_beginRun_9 rfl ?_
  refine fgI_X2_42 C dX2_beginRun_10 ?_
  refine g_iconst_1 C dX2_beginRun_13 ?_
  refine g_iadd C dX2_beginRun_14 ?_
  refine fpI_X2_42 C dX2_beginRun_15 ?_
  refine g_aload_0 C dX2_beginRun_18 rfl ?_
  refine g_iconst_0 C dX2_beginRun_19 ?_
  refine fpI_X2_52 C dX2_beginRun_20 ?_
  refine g_aload_0 C dX2_beginRun_23 rfl ?_
  refine fgI_X2_46 C dX2_beginRun_24 ?_
  exact g_ireturn C hQ dX2_beginRun_27 h
theorem cI_X2_beginRun {l : Launch} {E : Ev} {a : Nat → Nat} {σ : St} {post : Int32 → St → Prop} (h : wpI_X2_beginRun  σ post) : CI l E (wI E a) yX2_beginRun cX2_beginRun 1 .int rmI_X2_beginRun [.ref (a 700)] σ post := met_i (by decide) rfl (Nat.le_of_ble_eq_true rfl) rfl (fun X C hQ => kI_X2_beginRun C hQ _ h)
theorem csI_X2_80 {X : Kx} {l : Launch} {E : Ev} {a : Nat → Nat} {σ : St} {cc : ByteArray} {rm : Room} {ret : Option FieldType} {pc : Nat} {lv : List (Option Value)} {rest : List Value} {x0 x1 x2 : Int32} {post : Int32 → St → Prop} (C : Cx X l E RX2 cc rm ret) (h : wpI_X10_within x0 x1 x2 σ post) (hR : 0 + 1 ≤ rm.frames ∧ 8 + (3 + 11) + 0 ≤ rm.locals) (hW : (rest.map fun v => v.category).sum ≤ 8) (d : decode cc pc = .ok (.invokestatic 80, 3)) (k : ∀ (r : Int32) (u : St), post r u → G X (wI E a) u (pc + 3) lv (.int r :: rest)) : G X (wI E a) σ pc lv (.int x2 :: .int x1 :: .int x0 :: rest) := g_callSNi C 3 (host := "IceRun") (As := [.int x0, .int x1, .int x2]) (rest := rest) (by decide +kernel) (by decide +kernel) (by decide +kernel) (by decide +kernel) (by decide +kernel) (cI_X10_within h) ⟨rfl, rfl⟩ hR rfl rfl hW d k
theorem alI_708 {X : Kx} {l : Launch} {E : Ev} {a : Nat → Nat} {σ : St} {cc : ByteArray} {rm : Room} {ret : Option FieldType} {pc : Nat} {lv : List (Option Value)} {st : List Value} {own : String} {i : Int32} (C : Cx X l E own cc rm ret) (hin : vp_in i 16) (d : decode cc pc = .ok (.iaload, 1)) (k : G X (wI E a) σ (pc + 1) lv (.int (σ.2 708 i.toNatClampNeg) :: st)) : G X (wI E a) σ pc lv (.int i :: .ref (a 709) :: st) := g_iald C (q0 := 30) rfl hin d k
/-! IceRun$Race.orderAt(I)I -/
abbrev rmI_X2_orderAt : Room := { frames := 1, cells := 0, slots := 0, locals := 22 }
def wpI_X2_orderAt_24 (s0 : Int32) (σ : St) (post : Int32 → St → Prop) : Prop := post s0 σ
theorem kI_X2_orderAt_24 {X : Kx} {l : Launch} {E : Ev} {a : Nat → Nat} {post : Int32 → St → Prop} (C : Cx X l E RX2 cX2_orderAt rmI_X2_orderAt (some .int)) (hQ : QI X (wI E a) post) (s0 : Int32) (σ : St) (h : wpI_X2_orderAt_24  s0 σ post) : G X (wI E a) σ 24 [none, none] [.int s0] := by
  unfold wpI_X2_orderAt_24 at h
  exact g_ireturn C hQ dX2_orderAt_24 h
def wpI_X2_orderAt (x1 : Int32) (σ : St) (post : Int32 → St → Prop) : Prop := wpI_X10_within x1 0 ((σ.1 703) - 1) σ (fun r2 σ1 => ((r2 = 0 → wpI_X2_orderAt_24 (-1) σ1 post) ∧ (¬ r2 = 0 → vp_in x1 16 ∧ (wpI_X2_orderAt_24 (σ1.2 708 (Int32.toNatClampNeg x1)) σ1 post))))
theorem kI_X2_orderAt {X : Kx} {l : Launch} {E : Ev} {a : Nat → Nat} {post : Int32 → St → Prop} (C : Cx X l E RX2 cX2_orderAt rmI_X2_orderAt (some .int)) (hQ : QI X (wI E a) post) (x1 : Int32) (σ : St) (h : wpI_X2_orderAt x1 σ post) : G X (wI E a) σ 0 [some (.ref (a 700)), some (.int x1)] [] := by
  unfold wpI_X2_orderAt at h
  refine g_iload_1 C dX2_orderAt_0 rfl ?_
  refine g_iconst_0 C dX2_orderAt_1 ?_
  refine g_aload_0 C dX2_orderAt_2 rfl ?_
  refine fgI_X2_49 C dX2_orderAt_3 ?_
  refine g_iconst_1 C dX2_orderAt_6 ?_
  refine g_isub C dX2_orderAt_7 ?_
  refine csI_X2_80 C h ⟨Nat.le_of_ble_eq_true rfl, Nat.le_of_ble_eq_true rfl⟩ (Nat.le_of_ble_eq_true rfl) dX2_orderAt_8 (fun _ _ h => ?_)
  refine g_if_eq C 23 dX2_orderAt_11 (by decide) (fun q => ?_) (fun q => ?_)
  · have h := h.1 q
    refine g_iconst_m1 C dX2_orderAt_23 ?_
    exact g_wk (kI_X2_orderAt_24 C hQ _ _ h) (trivial)
  · have h := h.2 q
    refine g_aload_0 C dX2_orderAt_14 rfl ?_
    refine fgI_X2_9 C dX2_orderAt_15 ?_
    refine g_iload_1 C dX2_orderAt_18 rfl ?_
    obtain ⟨q, h⟩ := h
    refine alI_708 C q dX2_orderAt_19 ?_
    refine g_goto C 24 dX2_orderAt_20 (by decide) ?_
    exact g_wk (kI_X2_orderAt_24 C hQ _ _ h) (trivial)
theorem cI_X2_orderAt {l : Launch} {E : Ev} {a : Nat → Nat} {x1 : Int32} {σ : St} {post : Int32 → St → Prop} (h : wpI_X2_orderAt x1 σ post) : CI l E (wI E a) yX2_orderAt cX2_orderAt 2 .int rmI_X2_orderAt [.ref (a 700), .int x1] σ post := met_i (by decide) rfl (Nat.le_of_ble_eq_true rfl) rfl (fun X C hQ => kI_X2_orderAt C hQ _ _ h)
theorem fgI_X2_52 {X : Kx} {l : Launch} {E : Ev} {a : Nat → Nat} {σ : St} {cc : ByteArray} {rm : Room} {ret : Option FieldType} {pc : Nat} {lv : List (Option Value)} {st : List Value} (C : Cx X l E RX2 cc rm ret) (d : decode cc pc = .ok (.getfield 52, 3)) (k : G X (wI E a) σ (pc + 3) lv (.int (σ.1 704) :: st)) : G X (wI E a) σ pc lv (.ref (a 700) :: st) := g_get C (q0 := 29) (ci := 2) (k := 4) rfl rfl inU_X2 (by decide) (by decide +kernel) rfl d k
theorem csI_X2_84 {X : Kx} {l : Launch} {E : Ev} {a : Nat → Nat} {σ : St} {cc : ByteArray} {rm : Room} {ret : Option FieldType} {pc : Nat} {lv : List (Option Value)} {rest : List Value} {x0 : Int32} {post : Int32 → St → Prop} (C : Cx X l E RX2 cc rm ret) (h : wpI_X2_orderAt x0 σ post) (hR : 1 + 1 ≤ rm.frames ∧ 8 + (2 + 11) + 22 ≤ rm.locals) (hW : (rest.map fun v => v.category).sum ≤ 8) (d : decode cc pc = .ok (.invokevirtual 84, 3)) (k : ∀ (r : Int32) (u : St), post r u → G X (wI E a) u (pc + 3) lv (.int r :: rest)) : G X (wI E a) σ pc lv (.int x0 :: .ref (a 700) :: rest) := g_callVi C 1 (As := [.int x0]) (rest := rest) (Cn := RX2) (T := TX2) (N := 14) (q0 := 29) (ci := 2) (by decide +kernel) (by decide +kernel) (by decide +kernel) (by decide +kernel) (by decide +kernel) (by decide +kernel) rfl rfl (cI_X2_orderAt h) ⟨rfl, rfl⟩ hR rfl rfl hW d k
/-! IceRun$Race.nextSled()I -/
abbrev rmI_X2_nextSled : Room := { frames := 2, cells := 0, slots := 0, locals := 43 }
def wpI_X2_nextSled_20 (s0 : Int32) (σ : St) (post : Int32 → St → Prop) : Prop := post s0 σ
theorem kI_X2_nextSled_20 {X : Kx} {l : Launch} {E : Ev} {a : Nat → Nat} {post : Int32 → St → Prop} (C : Cx X l E RX2 cX2_nextSled rmI_X2_nextSled (some .int)) (hQ : QI X (wI E a) post) (s0 : Int32) (σ : St) (h : wpI_X2_nextSled_20  s0 σ post) : G X (wI E a) σ 20 [none] [.int s0] := by
  unfold wpI_X2_nextSled_20 at h
  exact g_ireturn C hQ dX2_nextSled_20 h
def wpI_X2_nextSled (σ : St) (post : Int32 → St → Prop) : Prop := ((¬ (σ.1 702) = (-1) → wpI_X2_orderAt (σ.1 704) σ (fun r2 σ1 => wpI_X2_nextSled_20 r2 σ1 post)) ∧ ((σ.1 702) = (-1) → wpI_X2_nextSled_20 (-1) σ post))
theorem kI_X2_nextSled {X : Kx} {l : Launch} {E : Ev} {a : Nat → Nat} {post : Int32 → St → Prop} (C : Cx X l E RX2 cX2_nextSled rmI_X2_nextSled (some .int)) (hQ : QI X (wI E a) post) (σ : St) (h : wpI_X2_nextSled  σ post) : G X (wI E a) σ 0 [some (.ref (a 700))] [] := by
  unfold wpI_X2_nextSled at h
  refine g_aload_0 C dX2_nextSled_0 rfl ?_
  refine fgI_X2_46 C dX2_nextSled_1 ?_
  refine g_iconst_m1 C dX2_nextSled_4 ?_
  refine g_icmp_ne C 12 dX2_nextSled_5 (by decide) (fun q => ?_) (fun q => ?_)
  · have h := h.1 q
    refine g_aload_0 C dX2_nextSled_12 rfl ?_
    refine g_aload_0 C dX2_nextSled_13 rfl ?_
    refine fgI_X2_52 C dX2_nextSled_14 ?_
    refine csI_X2_84 C h ⟨Nat.le_of_ble_eq_true rfl, Nat.le_of_ble_eq_true rfl⟩ (Nat.le_of_ble_eq_true rfl) dX2_nextSled_17 (fun _ _ h => ?_)
    exact g_wk (kI_X2_nextSled_20 C hQ _ _ h) (trivial)
  · have h := h.2 q
    refine g_iconst_m1 C dX2_nextSled_8 ?_
    refine g_goto C 20 dX2_nextSled_9 (by decide) ?_
    exact g_wk (kI_X2_nextSled_20 C hQ _ _ h) (trivial)
theorem cI_X2_nextSled {l : Launch} {E : Ev} {a : Nat → Nat} {σ : St} {post : Int32 → St → Prop} (h : wpI_X2_nextSled  σ post) : CI l E (wI E a) yX2_nextSled cX2_nextSled 1 .int rmI_X2_nextSled [.ref (a 700)] σ post := met_i (by decide) rfl (Nat.le_of_ble_eq_true rfl) rfl (fun X C hQ => kI_X2_nextSled C hQ _ h)
theorem fgI_X2_55 {X : Kx} {l : Launch} {E : Ev} {a : Nat → Nat} {σ : St} {cc : ByteArray} {rm : Room} {ret : Option FieldType} {pc : Nat} {lv : List (Option Value)} {st : List Value} (C : Cx X l E RX2 cc rm ret) (d : decode cc pc = .ok (.getfield 55, 3)) (k : G X (wI E a) σ (pc + 3) lv (.int (σ.1 705) :: st)) : G X (wI E a) σ pc lv (.ref (a 700) :: st) := g_get C (q0 := 29) (ci := 2) (k := 5) rfl rfl inU_X2 (by decide) (by decide +kernel) rfl d k
theorem fgI_X2_58 {X : Kx} {l : Launch} {E : Ev} {a : Nat → Nat} {σ : St} {cc : ByteArray} {rm : Room} {ret : Option FieldType} {pc : Nat} {lv : List (Option Value)} {st : List Value} (C : Cx X l E RX2 cc rm ret) (d : decode cc pc = .ok (.getfield 58, 3)) (k : G X (wI E a) σ (pc + 3) lv (.int (σ.1 706) :: st)) : G X (wI E a) σ pc lv (.ref (a 700) :: st) := g_get C (q0 := 29) (ci := 2) (k := 6) rfl rfl inU_X2 (by decide) (by decide +kernel) rfl d k
/-! IceRun$Race.countDown()V -/
abbrev rmI_X2_countDown : Room := { frames := 1, cells := 0, slots := 0, locals := 22 }
def wpI_X2_countDown_71 (σ : St) (post : St → Prop) : Prop := post σ
theorem kI_X2_countDown_71 {X : Kx} {l : Launch} {E : Ev} {a : Nat → Nat} {post : St → Prop} (C : Cx X l E RX2 cX2_countDown rmI_X2_countDown none) (hQ : QV X (wI E a) post) (σ : St) (h : wpI_X2_countDown_71   σ post) : G X (wI E a) σ 71 [none] [] := by
  unfold wpI_X2_countDown_71 at h
  exact g_return C hQ dX2_countDown_71 h
def wpI_X2_countDown (σ : St) (post : St → Prop) : Prop := let σ1 : St := pI σ 704 ((σ.1 704) + 1); (((σ1.1 704) < (σ1.1 703) → wpI_X2_countDown_71 σ1 post) ∧ (¬ (σ1.1 704) < (σ1.1 703) → wpI_X10_within (σ1.1 702) 0 3 σ1 (fun r3 σ2 => ((r3 = 0 → wpI_X2_countDown_71 σ2 post) ∧ (¬ r3 = 0 → vp_in (σ2.1 702) 4 ∧ (let σ4 : St := pA σ2 712 (Int32.toNatClampNeg (σ2.1 702)) (σ2.1 705); let σ5 : St := pI σ4 705 ((σ4.1 705) + 1); let σ6 : St := pI σ5 706 ((σ5.1 706) + 1); let σ7 : St := pI σ6 702 (-1); wpI_X2_countDown_71 σ7 post))))))
theorem kI_X2_countDown {X : Kx} {l : Launch} {E : Ev} {a : Nat → Nat} {post : St → Prop} (C : Cx X l E RX2 cX2_countDown rmI_X2_countDown none) (hQ : QV X (wI E a) post) (σ : St) (h : wpI_X2_countDown  σ post) : G X (wI E a) σ 0 [some (.ref (a 700))] [] := by
  unfold wpI_X2_countDown at h
  refine g_aload_0 C dX2_countDown_0 rfl ?_
  refine g_dup C dX2_countDown_1 rfl ?_
  refine fgI_X2_52 C dX2_countDown_2 ?_
  refine g_iconst_1 C dX2_countDown_5 ?_
  refine g_iadd C dX2_countDown_6 ?_
  refine fpI_X2_52 C dX2_countDown_7 ?_
  refine g_aload_0 C dX2_countDown_10 rfl ?_
  refine fgI_X2_52 C dX2_countDown_11 ?_
  refine g_aload_0 C dX2_countDown_14 rfl ?_
  refine fgI_X2_49 C dX2_countDown_15 ?_
  refine g_icmp_lt C 71 dX2_countDown_18 (by decide) (fun q => ?_) (fun q => ?_)
  · have h := h.1 q
    exact g_wk (kI_X2_countDown_71 C hQ _ h) (trivial)
  · have h := h.2 q
    refine g_aload_0 C dX2_countDown_21 rfl ?_
    refine fgI_X2_46 C dX2_countDown_22 ?_
    refine g_iconst_0 C dX2_countDown_25 ?_
    refine g_iconst_3 C dX2_countDown_26 ?_
    refine csI_X2_80 C h ⟨Nat.le_of_ble_eq_true rfl, Nat.le_of_ble_eq_true rfl⟩ (Nat.le_of_ble_eq_true rfl) dX2_countDown_27 (fun _ _ h => ?_)
    refine g_if_eq C 71 dX2_countDown_30 (by decide) (fun q => ?_) (fun q => ?_)
    · have h := h.1 q
      exact g_wk (kI_X2_countDown_71 C hQ _ h) (trivial)
    · have h := h.2 q
      refine g_aload_0 C dX2_countDown_33 rfl ?_
      refine fgI_X2_25 C dX2_countDown_34 ?_
      refine g_aload_0 C dX2_countDown_37 rfl ?_
      refine fgI_X2_46 C dX2_countDown_38 ?_
      refine g_aload_0 C dX2_countDown_41 rfl ?_
      refine fgI_X2_55 C dX2_countDown_42 ?_
      obtain ⟨q, h⟩ := h
      refine asI_712 C q dX2_countDown_45 ?_
      refine g_aload_0 C dX2_countDown_46 rfl ?_
      refine g_dup C dX2_countDown_47 rfl ?_
      refine fgI_X2_55 C dX2_countDown_48 ?_
      refine g_iconst_1 C dX2_countDown_51 ?_
      refine g_iadd C dX2_countDown_52 ?_
      refine fpI_X2_55 C dX2_countDown_53 ?_
      refine g_aload_0 C dX2_countDown_56 rfl ?_
      refine g_dup C dX2_countDown_57 rfl ?_
      refine fgI_X2_58 C dX2_countDown_58 ?_
      refine g_iconst_1 C dX2_countDown_61 ?_
      refine g_iadd C dX2_countDown_62 ?_
      refine fpI_X2_58 C dX2_countDown_63 ?_
      refine g_aload_0 C dX2_countDown_66 rfl ?_
      refine g_iconst_m1 C dX2_countDown_67 ?_
      refine fpI_X2_46 C dX2_countDown_68 ?_
      exact g_wk (kI_X2_countDown_71 C hQ _ h) (trivial)
theorem cI_X2_countDown {l : Launch} {E : Ev} {a : Nat → Nat} {σ : St} {post : St → Prop} (h : wpI_X2_countDown  σ post) : CV l E (wI E a) yX2_countDown cX2_countDown 1 rmI_X2_countDown [.ref (a 700)] σ post := met_v (by decide) rfl (Nat.le_of_ble_eq_true rfl) rfl (fun X C hQ => kI_X2_countDown C hQ _ h)
/-! IceRun$Race.shutRun()I -/
abbrev rmI_X2_shutRun : Room := { frames := 0, cells := 0, slots := 0, locals := 0 }
def wpI_X2_shutRun (σ : St) (post : Int32 → St → Prop) : Prop := let σ1 : St := pI σ 702 (-1); post (σ1.1 704) σ1
theorem kI_X2_shutRun {X : Kx} {l : Launch} {E : Ev} {a : Nat → Nat} {post : Int32 → St → Prop} (C : Cx X l E RX2 cX2_shutRun rmI_X2_shutRun (some .int)) (hQ : QI X (wI E a) post) (σ : St) (h : wpI_X2_shutRun  σ post) : G X (wI E a) σ 0 [some (.ref (a 700))] [] := by
  unfold wpI_X2_shutRun at h
  refine g_aload_0 C dX2_shutRun_0 rfl ?_
  refine g_iconst_m1 C dX2_shutRun_1 ?_
  refine fpI_X2_46 C dX2_shutRun_2 ?_
  refine g_aload_0 C dX2_shutRun_5 rfl ?_
  refine fgI_X2_52 C dX2_shutRun_6 ?_
  exact g_ireturn C hQ dX2_shutRun_9 h
theorem cI_X2_shutRun {l : Launch} {E : Ev} {a : Nat → Nat} {σ : St} {post : Int32 → St → Prop} (h : wpI_X2_shutRun  σ post) : CI l E (wI E a) yX2_shutRun cX2_shutRun 1 .int rmI_X2_shutRun [.ref (a 700)] σ post := met_i (by decide) rfl (Nat.le_of_ble_eq_true rfl) rfl (fun X C hQ => kI_X2_shutRun C hQ _ h)
theorem alI_710 {X : Kx} {l : Launch} {E : Ev} {a : Nat → Nat} {σ : St} {cc : ByteArray} {rm : Room} {ret : Option FieldType} {pc : Nat} {lv : List (Option Value)} {st : List Value} {own : String} {i : Int32} (C : Cx X l E own cc rm ret) (hin : vp_in i 16) (d : decode cc pc = .ok (.baload, 1)) (k : G X (wI E a) σ (pc + 1) lv (.int (σ.2 710 i.toNatClampNeg) :: st)) : G X (wI E a) σ pc lv (.int i :: .ref (a 711) :: st) := g_zald C (q0 := 32) rfl hin d k
/-! IceRun$Race.hasEntered(I)Z -/
abbrev rmI_X2_hasEntered : Room := { frames := 1, cells := 0, slots := 0, locals := 22 }
def wpI_X2_hasEntered_24 (s0 : Int32) (σ : St) (post : Int32 → St → Prop) : Prop := (s0 = 0 ∨ s0 = 1) ∧ post s0 σ
theorem kI_X2_hasEntered_24 {X : Kx} {l : Launch} {E : Ev} {a : Nat → Nat} {post : Int32 → St → Prop} (C : Cx X l E RX2 cX2_hasEntered rmI_X2_hasEntered (some .boolean)) (hQ : QI X (wI E a) post) (s0 : Int32) (σ : St) (h : wpI_X2_hasEntered_24  s0 σ post) : G X (wI E a) σ 24 [none, none] [.int s0] := by
  unfold wpI_X2_hasEntered_24 at h
  exact g_zreturn C hQ dX2_hasEntered_24 h.1 h.2
def wpI_X2_hasEntered_23 (σ : St) (post : Int32 → St → Prop) : Prop := wpI_X2_hasEntered_24 0 σ post
theorem kI_X2_hasEntered_23 {X : Kx} {l : Launch} {E : Ev} {a : Nat → Nat} {post : Int32 → St → Prop} (C : Cx X l E RX2 cX2_hasEntered rmI_X2_hasEntered (some .boolean)) (hQ : QI X (wI E a) post) (σ : St) (h : wpI_X2_hasEntered_23   σ post) : G X (wI E a) σ 23 [none, none] [] := by
  unfold wpI_X2_hasEntered_23 at h
  refine g_iconst_0 C dX2_hasEntered_23 ?_
  exact g_wk (kI_X2_hasEntered_24 C hQ _ _ h) (trivial)
def wpI_X2_hasEntered (x1 : Int32) (σ : St) (post : Int32 → St → Prop) : Prop := wpI_X10_within x1 0 15 σ (fun r2 σ1 => ((r2 = 0 → wpI_X2_hasEntered_23 σ1 post) ∧ (¬ r2 = 0 → vp_in x1 16 ∧ ((((σ1.2 710 (Int32.toNatClampNeg x1)) = 0 → wpI_X2_hasEntered_23 σ1 post) ∧ (¬ (σ1.2 710 (Int32.toNatClampNeg x1)) = 0 → wpI_X2_hasEntered_24 1 σ1 post))))))
theorem kI_X2_hasEntered {X : Kx} {l : Launch} {E : Ev} {a : Nat → Nat} {post : Int32 → St → Prop} (C : Cx X l E RX2 cX2_hasEntered rmI_X2_hasEntered (some .boolean)) (hQ : QI X (wI E a) post) (x1 : Int32) (σ : St) (h : wpI_X2_hasEntered x1 σ post) : G X (wI E a) σ 0 [some (.ref (a 700)), some (.int x1)] [] := by
  unfold wpI_X2_hasEntered at h
  refine g_iload_1 C dX2_hasEntered_0 rfl ?_
  refine g_iconst_0 C dX2_hasEntered_1 ?_
  refine g_bipush C (v := 15) (by decide) dX2_hasEntered_2 ?_
  refine csI_X2_80 C h ⟨Nat.le_of_ble_eq_true rfl, Nat.le_of_ble_eq_true rfl⟩ (Nat.le_of_ble_eq_true rfl) dX2_hasEntered_4 (fun _ _ h => ?_)
  refine g_if_eq C 23 dX2_hasEntered_7 (by decide) (fun q => ?_) (fun q => ?_)
  · have h := h.1 q
    exact g_wk (kI_X2_hasEntered_23 C hQ _ h) (trivial)
  · have h := h.2 q
    refine g_aload_0 C dX2_hasEntered_10 rfl ?_
    refine fgI_X2_18 C dX2_hasEntered_11 ?_
    refine g_iload_1 C dX2_hasEntered_14 rfl ?_
    obtain ⟨q, h⟩ := h
    refine alI_710 C q dX2_hasEntered_15 ?_
    refine g_if_eq C 23 dX2_hasEntered_16 (by decide) (fun q => ?_) (fun q => ?_)
    · have h := h.1 q
      exact g_wk (kI_X2_hasEntered_23 C hQ _ h) (trivial)
    · have h := h.2 q
      refine g_iconst_1 C dX2_hasEntered_19 ?_
      refine g_goto C 24 dX2_hasEntered_20 (by decide) ?_
      exact g_wk (kI_X2_hasEntered_24 C hQ _ _ h) (trivial)
theorem cI_X2_hasEntered {l : Launch} {E : Ev} {a : Nat → Nat} {x1 : Int32} {σ : St} {post : Int32 → St → Prop} (h : wpI_X2_hasEntered x1 σ post) : CI l E (wI E a) yX2_hasEntered cX2_hasEntered 2 .boolean rmI_X2_hasEntered [.ref (a 700), .int x1] σ post := met_i (by decide) rfl (Nat.le_of_ble_eq_true rfl) rfl (fun X C hQ => kI_X2_hasEntered C hQ _ _ h)
theorem csI_X2_88 {X : Kx} {l : Launch} {E : Ev} {a : Nat → Nat} {σ : St} {cc : ByteArray} {rm : Room} {ret : Option FieldType} {pc : Nat} {lv : List (Option Value)} {rest : List Value} {x0 : Int32} {post : Int32 → St → Prop} (C : Cx X l E RX2 cc rm ret) (h : wpI_X2_hasEntered x0 σ post) (hR : 1 + 1 ≤ rm.frames ∧ 8 + (2 + 11) + 22 ≤ rm.locals) (hW : (rest.map fun v => v.category).sum ≤ 8) (d : decode cc pc = .ok (.invokevirtual 88, 3)) (k : ∀ (r : Int32) (u : St), post r u → G X (wI E a) u (pc + 3) lv (.int r :: rest)) : G X (wI E a) σ pc lv (.int x0 :: .ref (a 700) :: rest) := g_callVi C 1 (As := [.int x0]) (rest := rest) (Cn := RX2) (T := TX2) (N := 14) (q0 := 29) (ci := 2) (by decide +kernel) (by decide +kernel) (by decide +kernel) (by decide +kernel) (by decide +kernel) (by decide +kernel) rfl rfl (cI_X2_hasEntered h) ⟨rfl, rfl⟩ hR rfl rfl hW d k
theorem alI_711 {X : Kx} {l : Launch} {E : Ev} {a : Nat → Nat} {σ : St} {cc : ByteArray} {rm : Room} {ret : Option FieldType} {pc : Nat} {lv : List (Option Value)} {st : List Value} {own : String} {i : Int32} (C : Cx X l E own cc rm ret) (hin : vp_in i 16) (d : decode cc pc = .ok (.iaload, 1)) (k : G X (wI E a) σ (pc + 1) lv (.int (σ.2 711 i.toNatClampNeg) :: st)) : G X (wI E a) σ pc lv (.int i :: .ref (a 712) :: st) := g_iald C (q0 := 33) rfl hin d k
/-! IceRun$Race.strike(I)Z -/
abbrev rmI_X2_strike : Room := { frames := 2, cells := 0, slots := 0, locals := 43 }
def wpI_X2_strike_18 (σ : St) (post : Int32 → St → Prop) : Prop := post 0 σ
theorem kI_X2_strike_18 {X : Kx} {l : Launch} {E : Ev} {a : Nat → Nat} {post : Int32 → St → Prop} (C : Cx X l E RX2 cX2_strike rmI_X2_strike (some .boolean)) (hQ : QI X (wI E a) post) (σ : St) (h : wpI_X2_strike_18   σ post) : G X (wI E a) σ 18 [none, none] [] := by
  unfold wpI_X2_strike_18 at h
  refine g_iconst_0 C dX2_strike_18 ?_
  exact g_zreturn C hQ dX2_strike_19 (Or.inl rfl) h
def wpI_X2_strike (x1 : Int32) (σ : St) (post : Int32 → St → Prop) : Prop := wpI_X2_hasEntered x1 σ (fun r2 σ1 => ((r2 = 0 → wpI_X2_strike_18 σ1 post) ∧ (¬ r2 = 0 → vp_in x1 16 ∧ ((((σ1.2 711 (Int32.toNatClampNeg x1)) = (-1) → vp_in x1 16 ∧ (let σ3 : St := pA σ1 711 (Int32.toNatClampNeg x1) (σ1.1 705); let σ4 : St := pI σ3 705 ((σ3.1 705) + 1); post 1 σ4)) ∧ (¬ (σ1.2 711 (Int32.toNatClampNeg x1)) = (-1) → wpI_X2_strike_18 σ1 post))))))
theorem kI_X2_strike {X : Kx} {l : Launch} {E : Ev} {a : Nat → Nat} {post : Int32 → St → Prop} (C : Cx X l E RX2 cX2_strike rmI_X2_strike (some .boolean)) (hQ : QI X (wI E a) post) (x1 : Int32) (σ : St) (h : wpI_X2_strike x1 σ post) : G X (wI E a) σ 0 [some (.ref (a 700)), some (.int x1)] [] := by
  unfold wpI_X2_strike at h
  refine g_aload_0 C dX2_strike_0 rfl ?_
  refine g_iload_1 C dX2_strike_1 rfl ?_
  refine csI_X2_88 C h ⟨Nat.le_of_ble_eq_true rfl, Nat.le_of_ble_eq_true rfl⟩ (Nat.le_of_ble_eq_true rfl) dX2_strike_2 (fun _ _ h => ?_)
  refine g_if_eq C 18 dX2_strike_5 (by decide) (fun q => ?_) (fun q => ?_)
  · have h := h.1 q
    exact g_wk (kI_X2_strike_18 C hQ _ h) (trivial)
  · have h := h.2 q
    refine g_aload_0 C dX2_strike_8 rfl ?_
    refine fgI_X2_22 C dX2_strike_9 ?_
    refine g_iload_1 C dX2_strike_12 rfl ?_
    obtain ⟨q, h⟩ := h
    refine alI_711 C q dX2_strike_13 ?_
    refine g_iconst_m1 C dX2_strike_14 ?_
    refine g_icmp_eq C 20 dX2_strike_15 (by decide) (fun q => ?_) (fun q => ?_)
    · have h := h.1 q
      refine g_aload_0 C dX2_strike_20 rfl ?_
      refine fgI_X2_22 C dX2_strike_21 ?_
      refine g_iload_1 C dX2_strike_24 rfl ?_
      refine g_aload_0 C dX2_strike_25 rfl ?_
      refine fgI_X2_55 C dX2_strike_26 ?_
      obtain ⟨q, h⟩ := h
      refine asI_711 C q dX2_strike_29 ?_
      refine g_aload_0 C dX2_strike_30 rfl ?_
      refine g_dup C dX2_strike_31 rfl ?_
      refine fgI_X2_55 C dX2_strike_32 ?_
      refine g_iconst_1 C dX2_strike_35 ?_
      refine g_iadd C dX2_strike_36 ?_
      refine fpI_X2_55 C dX2_strike_37 ?_
      refine g_iconst_1 C dX2_strike_40 ?_
      exact g_zreturn C hQ dX2_strike_41 (Or.inr rfl) h
    · have h := h.2 q
      exact g_wk (kI_X2_strike_18 C hQ _ h) (trivial)
theorem cI_X2_strike {l : Launch} {E : Ev} {a : Nat → Nat} {x1 : Int32} {σ : St} {post : Int32 → St → Prop} (h : wpI_X2_strike x1 σ post) : CI l E (wI E a) yX2_strike cX2_strike 2 .boolean rmI_X2_strike [.ref (a 700), .int x1] σ post := met_i (by decide) rfl (Nat.le_of_ble_eq_true rfl) rfl (fun X C hQ => kI_X2_strike C hQ _ _ h)
theorem alI_712 {X : Kx} {l : Launch} {E : Ev} {a : Nat → Nat} {σ : St} {cc : ByteArray} {rm : Room} {ret : Option FieldType} {pc : Nat} {lv : List (Option Value)} {st : List Value} {own : String} {i : Int32} (C : Cx X l E own cc rm ret) (hin : vp_in i 4) (d : decode cc pc = .ok (.iaload, 1)) (k : G X (wI E a) σ (pc + 1) lv (.int (σ.2 712 i.toNatClampNeg) :: st)) : G X (wI E a) σ pc lv (.int i :: .ref (a 713) :: st) := g_iald C (q0 := 34) rfl hin d k
/-! IceRun$Race.isWholeBy(II)Z -/
abbrev rmI_X2_isWholeBy : Room := { frames := 1, cells := 0, slots := 0, locals := 22 }
def wpI_X2_isWholeBy_34 (s0 : Int32) (σ : St) (post : Int32 → St → Prop) : Prop := (s0 = 0 ∨ s0 = 1) ∧ post s0 σ
theorem kI_X2_isWholeBy_34 {X : Kx} {l : Launch} {E : Ev} {a : Nat → Nat} {post : Int32 → St → Prop} (C : Cx X l E RX2 cX2_isWholeBy rmI_X2_isWholeBy (some .boolean)) (hQ : QI X (wI E a) post) (s0 : Int32) (σ : St) (h : wpI_X2_isWholeBy_34  s0 σ post) : G X (wI E a) σ 34 [none, none, none] [.int s0] := by
  unfold wpI_X2_isWholeBy_34 at h
  exact g_zreturn C hQ dX2_isWholeBy_34 h.1 h.2
def wpI_X2_isWholeBy_33 (σ : St) (post : Int32 → St → Prop) : Prop := wpI_X2_isWholeBy_34 0 σ post
theorem kI_X2_isWholeBy_33 {X : Kx} {l : Launch} {E : Ev} {a : Nat → Nat} {post : Int32 → St → Prop} (C : Cx X l E RX2 cX2_isWholeBy rmI_X2_isWholeBy (some .boolean)) (hQ : QI X (wI E a) post) (σ : St) (h : wpI_X2_isWholeBy_33   σ post) : G X (wI E a) σ 33 [none, none, none] [] := by
  unfold wpI_X2_isWholeBy_33 at h
  refine g_iconst_0 C dX2_isWholeBy_33 ?_
  exact g_wk (kI_X2_isWholeBy_34 C hQ _ _ h) (trivial)
def wpI_X2_isWholeBy (x1 x2 : Int32) (σ : St) (post : Int32 → St → Prop) : Prop := wpI_X10_within x1 0 3 σ (fun r2 σ1 => ((r2 = 0 → wpI_X2_isWholeBy_33 σ1 post) ∧ (¬ r2 = 0 → vp_in x1 4 ∧ ((((σ1.2 712 (Int32.toNatClampNeg x1)) = (-1) → wpI_X2_isWholeBy_33 σ1 post) ∧ (¬ (σ1.2 712 (Int32.toNatClampNeg x1)) = (-1) → vp_in x1 4 ∧ (((x2 ≤ (σ1.2 712 (Int32.toNatClampNeg x1)) → wpI_X2_isWholeBy_33 σ1 post) ∧ (¬ x2 ≤ (σ1.2 712 (Int32.toNatClampNeg x1)) → wpI_X2_isWholeBy_34 1 σ1 post)))))))))
theorem kI_X2_isWholeBy {X : Kx} {l : Launch} {E : Ev} {a : Nat → Nat} {post : Int32 → St → Prop} (C : Cx X l E RX2 cX2_isWholeBy rmI_X2_isWholeBy (some .boolean)) (hQ : QI X (wI E a) post) (x1 x2 : Int32) (σ : St) (h : wpI_X2_isWholeBy x1 x2 σ post) : G X (wI E a) σ 0 [some (.ref (a 700)), some (.int x1), some (.int x2)] [] := by
  unfold wpI_X2_isWholeBy at h
  refine g_iload_1 C dX2_isWholeBy_0 rfl ?_
  refine g_iconst_0 C dX2_isWholeBy_1 ?_
  refine g_iconst_3 C dX2_isWholeBy_2 ?_
  refine csI_X2_80 C h ⟨Nat.le_of_ble_eq_true rfl, Nat.le_of_ble_eq_true rfl⟩ (Nat.le_of_ble_eq_true rfl) dX2_isWholeBy_3 (fun _ _ h => ?_)
  refine g_if_eq C 33 dX2_isWholeBy_6 (by decide) (fun q => ?_) (fun q => ?_)
  · have h := h.1 q
    exact g_wk (kI_X2_isWholeBy_33 C hQ _ h) (trivial)
  · have h := h.2 q
    refine g_aload_0 C dX2_isWholeBy_9 rfl ?_
    refine fgI_X2_25 C dX2_isWholeBy_10 ?_
    refine g_iload_1 C dX2_isWholeBy_13 rfl ?_
    obtain ⟨q, h⟩ := h
    refine alI_712 C q dX2_isWholeBy_14 ?_
    refine g_iconst_m1 C dX2_isWholeBy_15 ?_
    refine g_icmp_eq C 33 dX2_isWholeBy_16 (by decide) (fun q => ?_) (fun q => ?_)
    · have h := h.1 q
      exact g_wk (kI_X2_isWholeBy_33 C hQ _ h) (trivial)
    · have h := h.2 q
      refine g_aload_0 C dX2_isWholeBy_19 rfl ?_
      refine fgI_X2_25 C dX2_isWholeBy_20 ?_
      refine g_iload_1 C dX2_isWholeBy_23 rfl ?_
      obtain ⟨q, h⟩ := h
      refine alI_712 C q dX2_isWholeBy_24 ?_
      refine g_iload_2 C dX2_isWholeBy_25 rfl ?_
      refine g_icmp_ge C 33 dX2_isWholeBy_26 (by decide) (fun q => ?_) (fun q => ?_)
      · have h := h.1 q
        exact g_wk (kI_X2_isWholeBy_33 C hQ _ h) (trivial)
      · have h := h.2 q
        refine g_iconst_1 C dX2_isWholeBy_29 ?_
        refine g_goto C 34 dX2_isWholeBy_30 (by decide) ?_
        exact g_wk (kI_X2_isWholeBy_34 C hQ _ _ h) (trivial)
theorem cI_X2_isWholeBy {l : Launch} {E : Ev} {a : Nat → Nat} {x1 x2 : Int32} {σ : St} {post : Int32 → St → Prop} (h : wpI_X2_isWholeBy x1 x2 σ post) : CI l E (wI E a) yX2_isWholeBy cX2_isWholeBy 3 .boolean rmI_X2_isWholeBy [.ref (a 700), .int x1, .int x2] σ post := met_i (by decide) rfl (Nat.le_of_ble_eq_true rfl) rfl (fun X C hQ => kI_X2_isWholeBy C hQ _ _ _ h)
theorem csI_X2_92 {X : Kx} {l : Launch} {E : Ev} {a : Nat → Nat} {σ : St} {cc : ByteArray} {rm : Room} {ret : Option FieldType} {pc : Nat} {lv : List (Option Value)} {rest : List Value} {x0 x1 : Int32} {post : Int32 → St → Prop} (C : Cx X l E RX2 cc rm ret) (h : wpI_X2_isWholeBy x0 x1 σ post) (hR : 1 + 1 ≤ rm.frames ∧ 8 + (3 + 11) + 22 ≤ rm.locals) (hW : (rest.map fun v => v.category).sum ≤ 8) (d : decode cc pc = .ok (.invokevirtual 92, 3)) (k : ∀ (r : Int32) (u : St), post r u → G X (wI E a) u (pc + 3) lv (.int r :: rest)) : G X (wI E a) σ pc lv (.int x1 :: .int x0 :: .ref (a 700) :: rest) := g_callVi C 2 (As := [.int x0, .int x1]) (rest := rest) (Cn := RX2) (T := TX2) (N := 14) (q0 := 29) (ci := 2) (by decide +kernel) (by decide +kernel) (by decide +kernel) (by decide +kernel) (by decide +kernel) (by decide +kernel) rfl rfl (cI_X2_isWholeBy h) ⟨rfl, rfl⟩ hR rfl rfl hW d k
/-! IceRun$Race.isWhole(I)Z -/
abbrev rmI_X2_isWhole : Room := { frames := 2, cells := 0, slots := 0, locals := 44 }
def wpI_X2_isWhole (x1 : Int32) (σ : St) (post : Int32 → St → Prop) : Prop := wpI_X2_isWholeBy x1 (σ.1 705) σ (fun r2 σ1 => (r2 = 0 ∨ r2 = 1) ∧ post r2 σ1)
theorem kI_X2_isWhole {X : Kx} {l : Launch} {E : Ev} {a : Nat → Nat} {post : Int32 → St → Prop} (C : Cx X l E RX2 cX2_isWhole rmI_X2_isWhole (some .boolean)) (hQ : QI X (wI E a) post) (x1 : Int32) (σ : St) (h : wpI_X2_isWhole x1 σ post) : G X (wI E a) σ 0 [some (.ref (a 700)), some (.int x1)] [] := by
  unfold wpI_X2_isWhole at h
  refine g_aload_0 C dX2_isWhole_0 rfl ?_
  refine g_iload_1 C dX2_isWhole_1 rfl ?_
  refine g_aload_0 C dX2_isWhole_2 rfl ?_
  refine fgI_X2_55 C dX2_isWhole_3 ?_
  refine csI_X2_92 C h ⟨Nat.le_of_ble_eq_true rfl, Nat.le_of_ble_eq_true rfl⟩ (Nat.le_of_ble_eq_true rfl) dX2_isWhole_6 (fun _ _ h => ?_)
  exact g_zreturn C hQ dX2_isWhole_9 h.1 h.2
theorem cI_X2_isWhole {l : Launch} {E : Ev} {a : Nat → Nat} {x1 : Int32} {σ : St} {post : Int32 → St → Prop} (h : wpI_X2_isWhole x1 σ post) : CI l E (wI E a) yX2_isWhole cX2_isWhole 2 .boolean rmI_X2_isWhole [.ref (a 700), .int x1] σ post := met_i (by decide) rfl (Nat.le_of_ble_eq_true rfl) rfl (fun X C hQ => kI_X2_isWhole C hQ _ _ h)
/-! IceRun$Race.isInBy(II)Z -/
abbrev rmI_X2_isInBy : Room := { frames := 2, cells := 0, slots := 0, locals := 43 }
def wpI_X2_isInBy_33 (s0 : Int32) (σ : St) (post : Int32 → St → Prop) : Prop := (s0 = 0 ∨ s0 = 1) ∧ post s0 σ
theorem kI_X2_isInBy_33 {X : Kx} {l : Launch} {E : Ev} {a : Nat → Nat} {post : Int32 → St → Prop} (C : Cx X l E RX2 cX2_isInBy rmI_X2_isInBy (some .boolean)) (hQ : QI X (wI E a) post) (s0 : Int32) (σ : St) (h : wpI_X2_isInBy_33  s0 σ post) : G X (wI E a) σ 33 [none, none, none] [.int s0] := by
  unfold wpI_X2_isInBy_33 at h
  exact g_zreturn C hQ dX2_isInBy_33 h.1 h.2
def wpI_X2_isInBy_32 (σ : St) (post : Int32 → St → Prop) : Prop := wpI_X2_isInBy_33 0 σ post
theorem kI_X2_isInBy_32 {X : Kx} {l : Launch} {E : Ev} {a : Nat → Nat} {post : Int32 → St → Prop} (C : Cx X l E RX2 cX2_isInBy rmI_X2_isInBy (some .boolean)) (hQ : QI X (wI E a) post) (σ : St) (h : wpI_X2_isInBy_32   σ post) : G X (wI E a) σ 32 [none, none, none] [] := by
  unfold wpI_X2_isInBy_32 at h
  refine g_iconst_0 C dX2_isInBy_32 ?_
  exact g_wk (kI_X2_isInBy_33 C hQ _ _ h) (trivial)
def wpI_X2_isInBy_28 (σ : St) (post : Int32 → St → Prop) : Prop := wpI_X2_isInBy_33 1 σ post
theorem kI_X2_isInBy_28 {X : Kx} {l : Launch} {E : Ev} {a : Nat → Nat} {post : Int32 → St → Prop} (C : Cx X l E RX2 cX2_isInBy rmI_X2_isInBy (some .boolean)) (hQ : QI X (wI E a) post) (σ : St) (h : wpI_X2_isInBy_28   σ post) : G X (wI E a) σ 28 [none, none, none] [] := by
  unfold wpI_X2_isInBy_28 at h
  refine g_iconst_1 C dX2_isInBy_28 ?_
  refine g_goto C 33 dX2_isInBy_29 (by decide) ?_
  exact g_wk (kI_X2_isInBy_33 C hQ _ _ h) (trivial)
def wpI_X2_isInBy (x1 x2 : Int32) (σ : St) (post : Int32 → St → Prop) : Prop := wpI_X2_hasEntered x1 σ (fun r2 σ1 => ((r2 = 0 → wpI_X2_isInBy_32 σ1 post) ∧ (¬ r2 = 0 → vp_in x1 16 ∧ ((((σ1.2 711 (Int32.toNatClampNeg x1)) = (-1) → wpI_X2_isInBy_28 σ1 post) ∧ (¬ (σ1.2 711 (Int32.toNatClampNeg x1)) = (-1) → vp_in x1 16 ∧ ((((σ1.2 711 (Int32.toNatClampNeg x1)) < x2 → wpI_X2_isInBy_32 σ1 post) ∧ (¬ (σ1.2 711 (Int32.toNatClampNeg x1)) < x2 → wpI_X2_isInBy_28 σ1 post)))))))))
theorem kI_X2_isInBy {X : Kx} {l : Launch} {E : Ev} {a : Nat → Nat} {post : Int32 → St → Prop} (C : Cx X l E RX2 cX2_isInBy rmI_X2_isInBy (some .boolean)) (hQ : QI X (wI E a) post) (x1 x2 : Int32) (σ : St) (h : wpI_X2_isInBy x1 x2 σ post) : G X (wI E a) σ 0 [some (.ref (a 700)), some (.int x1), some (.int x2)] [] := by
  unfold wpI_X2_isInBy at h
  refine g_aload_0 C dX2_isInBy_0 rfl ?_
  refine g_iload_1 C dX2_isInBy_1 rfl ?_
  refine csI_X2_88 C h ⟨Nat.le_of_ble_eq_true rfl, Nat.le_of_ble_eq_true rfl⟩ (Nat.le_of_ble_eq_true rfl) dX2_isInBy_2 (fun _ _ h => ?_)
  refine g_if_eq C 32 dX2_isInBy_5 (by decide) (fun q => ?_) (fun q => ?_)
  · have h := h.1 q
    exact g_wk (kI_X2_isInBy_32 C hQ _ h) (trivial)
  · have h := h.2 q
    refine g_aload_0 C dX2_isInBy_8 rfl ?_
    refine fgI_X2_22 C dX2_isInBy_9 ?_
    refine g_iload_1 C dX2_isInBy_12 rfl ?_
    obtain ⟨q, h⟩ := h
    refine alI_711 C q dX2_isInBy_13 ?_
    refine g_iconst_m1 C dX2_isInBy_14 ?_
    refine g_icmp_eq C 28 dX2_isInBy_15 (by decide) (fun q => ?_) (fun q => ?_)
    · have h := h.1 q
      exact g_wk (kI_X2_isInBy_28 C hQ _ h) (trivial)
    · have h := h.2 q
      refine g_aload_0 C dX2_isInBy_18 rfl ?_
      refine fgI_X2_22 C dX2_isInBy_19 ?_
      refine g_iload_1 C dX2_isInBy_22 rfl ?_
      obtain ⟨q, h⟩ := h
      refine alI_711 C q dX2_isInBy_23 ?_
      refine g_iload_2 C dX2_isInBy_24 rfl ?_
      refine g_icmp_lt C 32 dX2_isInBy_25 (by decide) (fun q => ?_) (fun q => ?_)
      · have h := h.1 q
        exact g_wk (kI_X2_isInBy_32 C hQ _ h) (trivial)
      · have h := h.2 q
        exact g_wk (kI_X2_isInBy_28 C hQ _ h) (trivial)
theorem cI_X2_isInBy {l : Launch} {E : Ev} {a : Nat → Nat} {x1 x2 : Int32} {σ : St} {post : Int32 → St → Prop} (h : wpI_X2_isInBy x1 x2 σ post) : CI l E (wI E a) yX2_isInBy cX2_isInBy 3 .boolean rmI_X2_isInBy [.ref (a 700), .int x1, .int x2] σ post := met_i (by decide) rfl (Nat.le_of_ble_eq_true rfl) rfl (fun X C hQ => kI_X2_isInBy C hQ _ _ _ h)
/-! IceRun$Rows.cutTo(II)I -/
abbrev rmI_X3_cutTo : Room := { frames := 0, cells := 0, slots := 0, locals := 0 }
def wpI_X3_cutTo_18 (s0 : Int32) (σ : St) (post : Int32 → St → Prop) : Prop := post s0 σ
theorem kI_X3_cutTo_18 {X : Kx} {l : Launch} {E : Ev} {a : Nat → Nat} {post : Int32 → St → Prop} (C : Cx X l E RX3 cX3_cutTo rmI_X3_cutTo (some .int)) (hQ : QI X (wI E a) post) (s0 : Int32) (σ : St) (h : wpI_X3_cutTo_18  s0 σ post) : G X (wI E a) σ 18 [none, none] [.int s0] := by
  unfold wpI_X3_cutTo_18 at h
  exact g_ireturn C hQ dX3_cutTo_18 h
def wpI_X3_cutTo (x0 x1 : Int32) (σ : St) (post : Int32 → St → Prop) : Prop := ((¬ x0 = 0 → ((¬ x0 = 1 → wpI_X3_cutTo_18 x1 σ post) ∧ (x0 = 1 → wpI_X3_cutTo_18 ((Int32.toInt16 x1).toInt32) σ post))) ∧ (x0 = 0 → post ((Int32.toInt8 x1).toInt32) σ))
theorem kI_X3_cutTo {X : Kx} {l : Launch} {E : Ev} {a : Nat → Nat} {post : Int32 → St → Prop} (C : Cx X l E RX3 cX3_cutTo rmI_X3_cutTo (some .int)) (hQ : QI X (wI E a) post) (x0 x1 : Int32) (σ : St) (h : wpI_X3_cutTo x0 x1 σ post) : G X (wI E a) σ 0 [some (.int x0), some (.int x1)] [] := by
  unfold wpI_X3_cutTo at h
  refine g_iload_0 C dX3_cutTo_0 rfl ?_
  refine g_if_ne C 7 dX3_cutTo_1 (by decide) (fun q => ?_) (fun q => ?_)
  · have h := h.1 q
    refine g_iload_0 C dX3_cutTo_7 rfl ?_
    refine g_iconst_1 C dX3_cutTo_8 ?_
    refine g_icmp_ne C 17 dX3_cutTo_9 (by decide) (fun q => ?_) (fun q => ?_)
    · have h := h.1 q
      refine g_iload_1 C dX3_cutTo_17 rfl ?_
      exact g_wk (kI_X3_cutTo_18 C hQ _ _ h) (trivial)
    · have h := h.2 q
      refine g_iload_1 C dX3_cutTo_12 rfl ?_
      refine g_i2s C dX3_cutTo_13 ?_
      refine g_goto C 18 dX3_cutTo_14 (by decide) ?_
      exact g_wk (kI_X3_cutTo_18 C hQ _ _ h) (trivial)
  · have h := h.2 q
    refine g_iload_1 C dX3_cutTo_4 rfl ?_
    refine g_i2b C dX3_cutTo_5 ?_
    exact g_ireturn C hQ dX3_cutTo_6 h
theorem cI_X3_cutTo {l : Launch} {E : Ev} {a : Nat → Nat} {x0 x1 : Int32} {σ : St} {post : Int32 → St → Prop} (h : wpI_X3_cutTo x0 x1 σ post) : CI l E (wI E a) yX3_cutTo cX3_cutTo 2 .int rmI_X3_cutTo [.int x0, .int x1] σ post := met_i (by decide) rfl (Nat.le_of_ble_eq_true rfl) rfl (fun X C hQ => kI_X3_cutTo C hQ _ _ _ h)
theorem fgI_X3_15 {X : Kx} {l : Launch} {E : Ev} {a : Nat → Nat} {σ : St} {cc : ByteArray} {rm : Room} {ret : Option FieldType} {pc : Nat} {lv : List (Option Value)} {st : List Value} (C : Cx X l E RX3 cc rm ret) (d : decode cc pc = .ok (.getfield 15, 3)) (k : G X (wI E a) σ (pc + 3) lv (.ref (a 202) :: st)) : G X (wI E a) σ pc lv (.ref (a 200) :: st) := g_get C (q0 := 9) (ci := 3) (k := 1) rfl rfl inU_X3 (by decide) (by decide +kernel) rfl d k
theorem alI_201 {X : Kx} {l : Launch} {E : Ev} {a : Nat → Nat} {σ : St} {cc : ByteArray} {rm : Room} {ret : Option FieldType} {pc : Nat} {lv : List (Option Value)} {st : List Value} {own : String} {i : Int32} (C : Cx X l E own cc rm ret) (hin : vp_in i 4) (d : decode cc pc = .ok (.iaload, 1)) (k : G X (wI E a) σ (pc + 1) lv (.int (σ.2 201 i.toNatClampNeg) :: st)) : G X (wI E a) σ pc lv (.int i :: .ref (a 202) :: st) := g_iald C (q0 := 11) rfl hin d k
theorem fgI_X3_20 {X : Kx} {l : Launch} {E : Ev} {a : Nat → Nat} {σ : St} {cc : ByteArray} {rm : Room} {ret : Option FieldType} {pc : Nat} {lv : List (Option Value)} {st : List Value} (C : Cx X l E RX3 cc rm ret) (d : decode cc pc = .ok (.getfield 20, 3)) (k : G X (wI E a) σ (pc + 3) lv (.ref (a 203) :: st)) : G X (wI E a) σ pc lv (.ref (a 200) :: st) := g_get C (q0 := 9) (ci := 3) (k := 2) rfl rfl inU_X3 (by decide) (by decide +kernel) rfl d k
theorem csI_X3_23 {X : Kx} {l : Launch} {E : Ev} {a : Nat → Nat} {σ : St} {cc : ByteArray} {rm : Room} {ret : Option FieldType} {pc : Nat} {lv : List (Option Value)} {rest : List Value} {x0 x1 : Int32} {post : Int32 → St → Prop} (C : Cx X l E RX3 cc rm ret) (h : wpI_X3_cutTo x0 x1 σ post) (hR : 0 + 1 ≤ rm.frames ∧ 8 + (2 + 11) + 0 ≤ rm.locals) (hW : (rest.map fun v => v.category).sum ≤ 8) (d : decode cc pc = .ok (.invokestatic 23, 3)) (k : ∀ (r : Int32) (u : St), post r u → G X (wI E a) u (pc + 3) lv (.int r :: rest)) : G X (wI E a) σ pc lv (.int x1 :: .int x0 :: rest) := g_callSi C 2 (As := [.int x0, .int x1]) (rest := rest) (by decide +kernel) (by decide +kernel) (by decide +kernel) (by decide +kernel) (by decide +kernel) (cI_X3_cutTo h) ⟨rfl, rfl⟩ hR rfl rfl hW d k
theorem asI_201 {X : Kx} {l : Launch} {E : Ev} {a : Nat → Nat} {σ : St} {cc : ByteArray} {rm : Room} {ret : Option FieldType} {pc : Nat} {lv : List (Option Value)} {st : List Value} {own : String} {i x : Int32} (C : Cx X l E own cc rm ret) (hin : vp_in i 4) (d : decode cc pc = .ok (.iastore, 1)) (k : G X (wI E a) (pA σ 201 i.toNatClampNeg x) (pc + 1) lv st) : G X (wI E a) σ pc lv (.int x :: .int i :: .ref (a 202) :: st) := g_iast C (q0 := 11) rfl rfl hin d k
theorem fgI_X3_11 {X : Kx} {l : Launch} {E : Ev} {a : Nat → Nat} {σ : St} {cc : ByteArray} {rm : Room} {ret : Option FieldType} {pc : Nat} {lv : List (Option Value)} {st : List Value} (C : Cx X l E RX3 cc rm ret) (d : decode cc pc = .ok (.getfield 11, 3)) (k : G X (wI E a) σ (pc + 3) lv (.ref (a 201) :: st)) : G X (wI E a) σ pc lv (.ref (a 200) :: st) := g_get C (q0 := 9) (ci := 3) (k := 0) rfl rfl inU_X3 (by decide) (by decide +kernel) rfl d k
theorem asI_200 {X : Kx} {l : Launch} {E : Ev} {a : Nat → Nat} {σ : St} {cc : ByteArray} {rm : Room} {ret : Option FieldType} {pc : Nat} {lv : List (Option Value)} {st : List Value} {own : String} {i x : Int32} (C : Cx X l E own cc rm ret) (hin : vp_in i 4) (d : decode cc pc = .ok (.iastore, 1)) (k : G X (wI E a) (pA σ 200 i.toNatClampNeg x) (pc + 1) lv st) : G X (wI E a) σ pc lv (.int x :: .int i :: .ref (a 201) :: st) := g_iast C (q0 := 10) rfl rfl hin d k
/-! IceRun$Rows.makeRow(IIIII)V -/
abbrev rmI_X3_makeRow : Room := { frames := 1, cells := 0, slots := 0, locals := 21 }
def wpBI_X3_makeRow_26 (k_26 : Int32 → Int32 → Int32 → Int32 → Int32 → St → Prop) (x1 x2 x4 x5 x6 : Int32) (σ : St) (post : St → Prop) : Prop := vp_in x1 4 ∧ ((((σ.2 201 (Int32.toNatClampNeg x1)) ≤ x6 → post σ) ∧ (¬ (σ.2 201 (Int32.toNatClampNeg x1)) ≤ x6 → vp_in x1 4 ∧ (wpI_X3_cutTo x2 (x4 + (x6 * x5)) σ (fun r3 σ2 => vp_in x6 9 ∧ (let σ4 : St := pA σ2 (250 + Int32.toNatClampNeg x1) (Int32.toNatClampNeg x6) r3; let y5 : Int32 := x6 + 1; k_26 x1 x2 x4 x5 y5 σ4))))))
def wpI_X3_makeRow_26 (x1 x2 x4 x5 x6 : Int32) (σ : St) (post : St → Prop) : Prop := ∃ n : Nat, lpN (α := Int32 × Int32 × Int32 × Int32 × Int32 × St) (fun kb t => wpBI_X3_makeRow_26 (fun x1 x2 x4 x5 x6 σ => kb (x1, x2, x4, x5, x6, σ)) t.1 t.2.1 t.2.2.1 t.2.2.2.1 t.2.2.2.2.1 t.2.2.2.2.2 post) n (x1, x2, x4, x5, x6, σ)
theorem kBI_X3_makeRow_26 {X : Kx} {l : Launch} {E : Ev} {a : Nat → Nat} {post : St → Prop} (C : Cx X l E RX3 cX3_makeRow rmI_X3_makeRow none) (hQ : QV X (wI E a) post) (k_26 : Int32 → Int32 → Int32 → Int32 → Int32 → St → Prop) (hk_26 : ∀ (x1 x2 x4 x5 x6 : Int32) (σ : St), k_26 x1 x2 x4 x5 x6 σ → G X (wI E a) σ 26 [some (.ref (a 200)), some (.int x1), some (.int x2), none, some (.int x4), some (.int x5), some (.int x6)] []) (x1 x2 x4 x5 x6 : Int32) (σ : St) (h : wpBI_X3_makeRow_26 k_26 x1 x2 x4 x5 x6 σ post) : G X (wI E a) σ 26 [some (.ref (a 200)), some (.int x1), some (.int x2), none, some (.int x4), some (.int x5), some (.int x6)] [] := by
  unfold wpBI_X3_makeRow_26 at h
  refine g_iload C dX3_makeRow_26 rfl ?_
  refine g_aload_0 C dX3_makeRow_28 rfl ?_
  refine fgI_X3_15 C dX3_makeRow_29 ?_
  refine g_iload_1 C dX3_makeRow_32 rfl ?_
  obtain ⟨q, h⟩ := h
  refine alI_201 C q dX3_makeRow_33 ?_
  refine g_icmp_ge C 64 dX3_makeRow_34 (by decide) (fun q => ?_) (fun q => ?_)
  · have h := h.1 q
    exact g_return C hQ dX3_makeRow_64 h
  · have h := h.2 q
    refine g_aload_0 C dX3_makeRow_37 rfl ?_
    refine fgI_X3_20 C dX3_makeRow_38 ?_
    refine g_iload_1 C dX3_makeRow_41 rfl ?_
    obtain ⟨qr1, h⟩ := h
    refine arI C qr1 dX3_makeRow_42 ?_
    refine g_iload C dX3_makeRow_43 rfl ?_
    refine g_iload_2 C dX3_makeRow_45 rfl ?_
    refine g_iload C dX3_makeRow_46 rfl ?_
    refine g_iload C dX3_makeRow_48 rfl ?_
    refine g_iload C dX3_makeRow_50 rfl ?_
    refine g_imul C dX3_makeRow_52 ?_
    refine g_iadd C dX3_makeRow_53 ?_
    refine csI_X3_23 C h ⟨Nat.le_of_ble_eq_true rfl, Nat.le_of_ble_eq_true rfl⟩ (Nat.le_of_ble_eq_true rfl) dX3_makeRow_54 (fun _ _ h => ?_)
    obtain ⟨q, h⟩ := h
    refine asI_row C (vp_lt qr1) q dX3_makeRow_57 ?_
    refine g_iinc C (v := 1) (by decide) dX3_makeRow_58 rfl ?_
    refine g_goto C 26 dX3_makeRow_61 (by decide) ?_
    exact g_wk (hk_26 _ _ _ _ _ _ h) (And.intro rfl (And.intro rfl (And.intro rfl (And.intro rfl (And.intro rfl (And.intro rfl (trivial)))))))
theorem kI_X3_makeRow_26 {X : Kx} {l : Launch} {E : Ev} {a : Nat → Nat} {post : St → Prop} (C : Cx X l E RX3 cX3_makeRow rmI_X3_makeRow none) (hQ : QV X (wI E a) post) (x1 x2 x4 x5 x6 : Int32) (σ : St) (h : wpI_X3_makeRow_26  x1 x2 x4 x5 x6 σ post) : G X (wI E a) σ 26 [some (.ref (a 200)), some (.int x1), some (.int x2), none, some (.int x4), some (.int x5), some (.int x6)] [] := by
  obtain ⟨n, h⟩ := h
  exact g_loop (J := fun t : Int32 × Int32 × Int32 × Int32 × Int32 × St => G X (wI E a) t.2.2.2.2.2 26 [some (.ref (a 200)), some (.int t.1), some (.int t.2.1), none, some (.int t.2.2.1), some (.int t.2.2.2.1), some (.int t.2.2.2.2.1)] []) (fun kb hkb t ht => kBI_X3_makeRow_26 C hQ  (fun x1 x2 x4 x5 x6 σ => kb (x1, x2, x4, x5, x6, σ)) (fun x1 x2 x4 x5 x6 σ hh => hkb (x1, x2, x4, x5, x6, σ) hh) t.1 t.2.1 t.2.2.1 t.2.2.2.1 t.2.2.2.2.1 t.2.2.2.2.2 ht) n (x1, x2, x4, x5, x6, σ) h
def wpI_X3_makeRow_22 (x1 x2 x4 x5 s1 s2 : Int32) (σ : St) (post : St → Prop) : Prop := vp_in s1 4 ∧ (let σ1 : St := pA σ 201 (Int32.toNatClampNeg s1) s2; wpI_X3_makeRow_26 x1 x2 x4 x5 0 σ1 post)
theorem kI_X3_makeRow_22 {X : Kx} {l : Launch} {E : Ev} {a : Nat → Nat} {post : St → Prop} (C : Cx X l E RX3 cX3_makeRow rmI_X3_makeRow none) (hQ : QV X (wI E a) post) (x1 x2 x4 x5 s1 s2 : Int32) (σ : St) (h : wpI_X3_makeRow_22  x1 x2 x4 x5 s1 s2 σ post) : G X (wI E a) σ 22 [some (.ref (a 200)), some (.int x1), some (.int x2), none, some (.int x4), some (.int x5), none] [.int s2, .int s1, .ref (a 202)] := by
  unfold wpI_X3_makeRow_22 at h
  obtain ⟨q, h⟩ := h
  refine asI_201 C q dX3_makeRow_22 ?_
  refine g_iconst_0 C dX3_makeRow_23 ?_
  refine g_istore C dX3_makeRow_24 (Nat.le_of_ble_eq_true rfl) ?_
  exact g_wk (kI_X3_makeRow_26 C hQ _ _ _ _ _ _ h) (And.intro rfl (And.intro rfl (And.intro rfl (And.intro rfl (And.intro rfl (And.intro rfl (trivial)))))))
def wpI_X3_makeRow (x1 x2 x3 x4 x5 : Int32) (σ : St) (post : St → Prop) : Prop := vp_in x1 4 ∧ (let σ1 : St := pA σ 200 (Int32.toNatClampNeg x1) x2; ((¬ x2 = 3 → wpI_X3_makeRow_22 x1 x2 x4 x5 x1 x3 σ1 post) ∧ (x2 = 3 → wpI_X3_makeRow_22 x1 x2 x4 x5 x1 0 σ1 post)))
theorem kI_X3_makeRow {X : Kx} {l : Launch} {E : Ev} {a : Nat → Nat} {post : St → Prop} (C : Cx X l E RX3 cX3_makeRow rmI_X3_makeRow none) (hQ : QV X (wI E a) post) (x1 x2 x3 x4 x5 : Int32) (σ : St) (h : wpI_X3_makeRow x1 x2 x3 x4 x5 σ post) : G X (wI E a) σ 0 [some (.ref (a 200)), some (.int x1), some (.int x2), some (.int x3), some (.int x4), some (.int x5), none] [] := by
  unfold wpI_X3_makeRow at h
  refine g_aload_0 C dX3_makeRow_0 rfl ?_
  refine fgI_X3_11 C dX3_makeRow_1 ?_
  refine g_iload_1 C dX3_makeRow_4 rfl ?_
  refine g_iload_2 C dX3_makeRow_5 rfl ?_
  obtain ⟨q, h⟩ := h
  refine asI_200 C q dX3_makeRow_6 ?_
  refine g_aload_0 C dX3_makeRow_7 rfl ?_
  refine fgI_X3_15 C dX3_makeRow_8 ?_
  refine g_iload_1 C dX3_makeRow_11 rfl ?_
  refine g_iload_2 C dX3_makeRow_12 rfl ?_
  refine g_iconst_3 C dX3_makeRow_13 ?_
  refine g_icmp_ne C 21 dX3_makeRow_14 (by decide) (fun q => ?_) (fun q => ?_)
  · have h := h.1 q
    refine g_iload_3 C dX3_makeRow_21 rfl ?_
    exact g_wk (kI_X3_makeRow_22 C hQ _ _ _ _ _ _ _ h) (And.intro rfl (And.intro rfl (And.intro rfl (And.intro rfl (And.intro rfl (trivial))))))
  · have h := h.2 q
    refine g_iconst_0 C dX3_makeRow_17 ?_
    refine g_goto C 22 dX3_makeRow_18 (by decide) ?_
    exact g_wk (kI_X3_makeRow_22 C hQ _ _ _ _ _ _ _ h) (And.intro rfl (And.intro rfl (And.intro rfl (And.intro rfl (And.intro rfl (trivial))))))
theorem cI_X3_makeRow {l : Launch} {E : Ev} {a : Nat → Nat} {x1 x2 x3 x4 x5 : Int32} {σ : St} {post : St → Prop} (h : wpI_X3_makeRow x1 x2 x3 x4 x5 σ post) : CV l E (wI E a) yX3_makeRow cX3_makeRow 7 rmI_X3_makeRow [.ref (a 200), .int x1, .int x2, .int x3, .int x4, .int x5] σ post := met_v (by decide) rfl (Nat.le_of_ble_eq_true rfl) rfl (fun X C hQ => kI_X3_makeRow C hQ _ _ _ _ _ _ h)
theorem alI_200 {X : Kx} {l : Launch} {E : Ev} {a : Nat → Nat} {σ : St} {cc : ByteArray} {rm : Room} {ret : Option FieldType} {pc : Nat} {lv : List (Option Value)} {st : List Value} {own : String} {i : Int32} (C : Cx X l E own cc rm ret) (hin : vp_in i 4) (d : decode cc pc = .ok (.iaload, 1)) (k : G X (wI E a) σ (pc + 1) lv (.int (σ.2 200 i.toNatClampNeg) :: st)) : G X (wI E a) σ pc lv (.int i :: .ref (a 201) :: st) := g_iald C (q0 := 10) rfl hin d k
/-! IceRun$Rows.isAbsent(I)Z -/
abbrev rmI_X3_isAbsent : Room := { frames := 0, cells := 0, slots := 0, locals := 0 }
def wpI_X3_isAbsent_15 (s0 : Int32) (σ : St) (post : Int32 → St → Prop) : Prop := (s0 = 0 ∨ s0 = 1) ∧ post s0 σ
theorem kI_X3_isAbsent_15 {X : Kx} {l : Launch} {E : Ev} {a : Nat → Nat} {post : Int32 → St → Prop} (C : Cx X l E RX3 cX3_isAbsent rmI_X3_isAbsent (some .boolean)) (hQ : QI X (wI E a) post) (s0 : Int32) (σ : St) (h : wpI_X3_isAbsent_15  s0 σ post) : G X (wI E a) σ 15 [none, none] [.int s0] := by
  unfold wpI_X3_isAbsent_15 at h
  exact g_zreturn C hQ dX3_isAbsent_15 h.1 h.2
def wpI_X3_isAbsent (x1 : Int32) (σ : St) (post : Int32 → St → Prop) : Prop := vp_in x1 4 ∧ (((¬ (σ.2 200 (Int32.toNatClampNeg x1)) = 3 → wpI_X3_isAbsent_15 0 σ post) ∧ ((σ.2 200 (Int32.toNatClampNeg x1)) = 3 → wpI_X3_isAbsent_15 1 σ post)))
theorem kI_X3_isAbsent {X : Kx} {l : Launch} {E : Ev} {a : Nat → Nat} {post : Int32 → St → Prop} (C : Cx X l E RX3 cX3_isAbsent rmI_X3_isAbsent (some .boolean)) (hQ : QI X (wI E a) post) (x1 : Int32) (σ : St) (h : wpI_X3_isAbsent x1 σ post) : G X (wI E a) σ 0 [some (.ref (a 200)), some (.int x1)] [] := by
  unfold wpI_X3_isAbsent at h
  refine g_aload_0 C dX3_isAbsent_0 rfl ?_
  refine fgI_X3_11 C dX3_isAbsent_1 ?_
  refine g_iload_1 C dX3_isAbsent_4 rfl ?_
  obtain ⟨q, h⟩ := h
  refine alI_200 C q dX3_isAbsent_5 ?_
  refine g_iconst_3 C dX3_isAbsent_6 ?_
  refine g_icmp_ne C 14 dX3_isAbsent_7 (by decide) (fun q => ?_) (fun q => ?_)
  · have h := h.1 q
    refine g_iconst_0 C dX3_isAbsent_14 ?_
    exact g_wk (kI_X3_isAbsent_15 C hQ _ _ h) (trivial)
  · have h := h.2 q
    refine g_iconst_1 C dX3_isAbsent_10 ?_
    refine g_goto C 15 dX3_isAbsent_11 (by decide) ?_
    exact g_wk (kI_X3_isAbsent_15 C hQ _ _ h) (trivial)
theorem cI_X3_isAbsent {l : Launch} {E : Ev} {a : Nat → Nat} {x1 : Int32} {σ : St} {post : Int32 → St → Prop} (h : wpI_X3_isAbsent x1 σ post) : CI l E (wI E a) yX3_isAbsent cX3_isAbsent 2 .boolean rmI_X3_isAbsent [.ref (a 200), .int x1] σ post := met_i (by decide) rfl (Nat.le_of_ble_eq_true rfl) rfl (fun X C hQ => kI_X3_isAbsent C hQ _ _ h)
/-! IceRun$Rows.alike(II)Z -/
abbrev rmI_X3_alike : Room := { frames := 0, cells := 0, slots := 0, locals := 0 }
def wpI_X3_alike_20 (s0 : Int32) (σ : St) (post : Int32 → St → Prop) : Prop := (s0 = 0 ∨ s0 = 1) ∧ post s0 σ
theorem kI_X3_alike_20 {X : Kx} {l : Launch} {E : Ev} {a : Nat → Nat} {post : Int32 → St → Prop} (C : Cx X l E RX3 cX3_alike rmI_X3_alike (some .boolean)) (hQ : QI X (wI E a) post) (s0 : Int32) (σ : St) (h : wpI_X3_alike_20  s0 σ post) : G X (wI E a) σ 20 [none, none, none] [.int s0] := by
  unfold wpI_X3_alike_20 at h
  exact g_zreturn C hQ dX3_alike_20 h.1 h.2
def wpI_X3_alike (x1 x2 : Int32) (σ : St) (post : Int32 → St → Prop) : Prop := vp_in x1 4 ∧ (vp_in x2 4 ∧ (((¬ (σ.2 200 (Int32.toNatClampNeg x1)) = (σ.2 200 (Int32.toNatClampNeg x2)) → wpI_X3_alike_20 0 σ post) ∧ ((σ.2 200 (Int32.toNatClampNeg x1)) = (σ.2 200 (Int32.toNatClampNeg x2)) → wpI_X3_alike_20 1 σ post))))
theorem kI_X3_alike {X : Kx} {l : Launch} {E : Ev} {a : Nat → Nat} {post : Int32 → St → Prop} (C : Cx X l E RX3 cX3_alike rmI_X3_alike (some .boolean)) (hQ : QI X (wI E a) post) (x1 x2 : Int32) (σ : St) (h : wpI_X3_alike x1 x2 σ post) : G X (wI E a) σ 0 [some (.ref (a 200)), some (.int x1), some (.int x2)] [] := by
  unfold wpI_X3_alike at h
  refine g_aload_0 C dX3_alike_0 rfl ?_
  refine fgI_X3_11 C dX3_alike_1 ?_
  refine g_iload_1 C dX3_alike_4 rfl ?_
  obtain ⟨q, h⟩ := h
  refine alI_200 C q dX3_alike_5 ?_
  refine g_aload_0 C dX3_alike_6 rfl ?_
  refine fgI_X3_11 C dX3_alike_7 ?_
  refine g_iload_2 C dX3_alike_10 rfl ?_
  obtain ⟨q, h⟩ := h
  refine alI_200 C q dX3_alike_11 ?_
  refine g_icmp_ne C 19 dX3_alike_12 (by decide) (fun q => ?_) (fun q => ?_)
  · have h := h.1 q
    refine g_iconst_0 C dX3_alike_19 ?_
    exact g_wk (kI_X3_alike_20 C hQ _ _ h) (trivial)
  · have h := h.2 q
    refine g_iconst_1 C dX3_alike_15 ?_
    refine g_goto C 20 dX3_alike_16 (by decide) ?_
    exact g_wk (kI_X3_alike_20 C hQ _ _ h) (trivial)
theorem cI_X3_alike {l : Launch} {E : Ev} {a : Nat → Nat} {x1 x2 : Int32} {σ : St} {post : Int32 → St → Prop} (h : wpI_X3_alike x1 x2 σ post) : CI l E (wI E a) yX3_alike cX3_alike 3 .boolean rmI_X3_alike [.ref (a 200), .int x1, .int x2] σ post := met_i (by decide) rfl (Nat.le_of_ble_eq_true rfl) rfl (fun X C hQ => kI_X3_alike C hQ _ _ _ h)
theorem csI_X3_27 {X : Kx} {l : Launch} {E : Ev} {a : Nat → Nat} {σ : St} {cc : ByteArray} {rm : Room} {ret : Option FieldType} {pc : Nat} {lv : List (Option Value)} {rest : List Value} {x0 x1 x2 : Int32} {post : Int32 → St → Prop} (C : Cx X l E RX3 cc rm ret) (h : wpI_X10_within x0 x1 x2 σ post) (hR : 0 + 1 ≤ rm.frames ∧ 8 + (3 + 11) + 0 ≤ rm.locals) (hW : (rest.map fun v => v.category).sum ≤ 8) (d : decode cc pc = .ok (.invokestatic 27, 3)) (k : ∀ (r : Int32) (u : St), post r u → G X (wI E a) u (pc + 3) lv (.int r :: rest)) : G X (wI E a) σ pc lv (.int x2 :: .int x1 :: .int x0 :: rest) := g_callSNi C 3 (host := "IceRun") (As := [.int x0, .int x1, .int x2]) (rest := rest) (by decide +kernel) (by decide +kernel) (by decide +kernel) (by decide +kernel) (by decide +kernel) (cI_X10_within h) ⟨rfl, rfl⟩ hR rfl rfl hW d k
/-! IceRun$Rows.holds(III)Z -/
abbrev rmI_X3_holds : Room := { frames := 1, cells := 0, slots := 0, locals := 22 }
def wpI_X3_holds_35 (s0 : Int32) (σ : St) (post : Int32 → St → Prop) : Prop := (s0 = 0 ∨ s0 = 1) ∧ post s0 σ
theorem kI_X3_holds_35 {X : Kx} {l : Launch} {E : Ev} {a : Nat → Nat} {post : Int32 → St → Prop} (C : Cx X l E RX3 cX3_holds rmI_X3_holds (some .boolean)) (hQ : QI X (wI E a) post) (s0 : Int32) (σ : St) (h : wpI_X3_holds_35  s0 σ post) : G X (wI E a) σ 35 [none, none, none, none] [.int s0] := by
  unfold wpI_X3_holds_35 at h
  exact g_zreturn C hQ dX3_holds_35 h.1 h.2
def wpI_X3_holds_34 (σ : St) (post : Int32 → St → Prop) : Prop := wpI_X3_holds_35 0 σ post
theorem kI_X3_holds_34 {X : Kx} {l : Launch} {E : Ev} {a : Nat → Nat} {post : Int32 → St → Prop} (C : Cx X l E RX3 cX3_holds rmI_X3_holds (some .boolean)) (hQ : QI X (wI E a) post) (σ : St) (h : wpI_X3_holds_34   σ post) : G X (wI E a) σ 34 [none, none, none, none] [] := by
  unfold wpI_X3_holds_34 at h
  refine g_iconst_0 C dX3_holds_34 ?_
  exact g_wk (kI_X3_holds_35 C hQ _ _ h) (trivial)
def wpI_X3_holds (x1 x2 x3 : Int32) (σ : St) (post : Int32 → St → Prop) : Prop := ((x3 < 0 → wpI_X3_holds_34 σ post) ∧ (¬ x3 < 0 → vp_in x1 4 ∧ (wpI_X10_within x2 0 (σ.2 201 (Int32.toNatClampNeg x1)) σ (fun r2 σ1 => ((r2 = 0 → wpI_X3_holds_34 σ1 post) ∧ (¬ r2 = 0 → vp_in x1 4 ∧ (((((σ1.2 201 (Int32.toNatClampNeg x1)) - x2) < x3 → wpI_X3_holds_34 σ1 post) ∧ (¬ ((σ1.2 201 (Int32.toNatClampNeg x1)) - x2) < x3 → wpI_X3_holds_35 1 σ1 post)))))))))
theorem kI_X3_holds {X : Kx} {l : Launch} {E : Ev} {a : Nat → Nat} {post : Int32 → St → Prop} (C : Cx X l E RX3 cX3_holds rmI_X3_holds (some .boolean)) (hQ : QI X (wI E a) post) (x1 x2 x3 : Int32) (σ : St) (h : wpI_X3_holds x1 x2 x3 σ post) : G X (wI E a) σ 0 [some (.ref (a 200)), some (.int x1), some (.int x2), some (.int x3)] [] := by
  unfold wpI_X3_holds at h
  refine g_iload_3 C dX3_holds_0 rfl ?_
  refine g_if_lt C 34 dX3_holds_1 (by decide) (fun q => ?_) (fun q => ?_)
  · have h := h.1 q
    exact g_wk (kI_X3_holds_34 C hQ _ h) (trivial)
  · have h := h.2 q
    refine g_iload_2 C dX3_holds_4 rfl ?_
    refine g_iconst_0 C dX3_holds_5 ?_
    refine g_aload_0 C dX3_holds_6 rfl ?_
    refine fgI_X3_15 C dX3_holds_7 ?_
    refine g_iload_1 C dX3_holds_10 rfl ?_
    obtain ⟨q, h⟩ := h
    refine alI_201 C q dX3_holds_11 ?_
    refine csI_X3_27 C h ⟨Nat.le_of_ble_eq_true rfl, Nat.le_of_ble_eq_true rfl⟩ (Nat.le_of_ble_eq_true rfl) dX3_holds_12 (fun _ _ h => ?_)
    refine g_if_eq C 34 dX3_holds_15 (by decide) (fun q => ?_) (fun q => ?_)
    · have h := h.1 q
      exact g_wk (kI_X3_holds_34 C hQ _ h) (trivial)
    · have h := h.2 q
      refine g_iload_3 C dX3_holds_18 rfl ?_
      refine g_aload_0 C dX3_holds_19 rfl ?_
      refine fgI_X3_15 C dX3_holds_20 ?_
      refine g_iload_1 C dX3_holds_23 rfl ?_
      obtain ⟨q, h⟩ := h
      refine alI_201 C q dX3_holds_24 ?_
      refine g_iload_2 C dX3_holds_25 rfl ?_
      refine g_isub C dX3_holds_26 ?_
      refine g_icmp_gt C 34 dX3_holds_27 (by decide) (fun q => ?_) (fun q => ?_)
      · have h := h.1 q
        exact g_wk (kI_X3_holds_34 C hQ _ h) (trivial)
      · have h := h.2 q
        refine g_iconst_1 C dX3_holds_30 ?_
        refine g_goto C 35 dX3_holds_31 (by decide) ?_
        exact g_wk (kI_X3_holds_35 C hQ _ _ h) (trivial)
theorem cI_X3_holds {l : Launch} {E : Ev} {a : Nat → Nat} {x1 x2 x3 : Int32} {σ : St} {post : Int32 → St → Prop} (h : wpI_X3_holds x1 x2 x3 σ post) : CI l E (wI E a) yX3_holds cX3_holds 4 .boolean rmI_X3_holds [.ref (a 200), .int x1, .int x2, .int x3] σ post := met_i (by decide) rfl (Nat.le_of_ble_eq_true rfl) rfl (fun X C hQ => kI_X3_holds C hQ _ _ _ _ h)
theorem ac_X3_31 : Cond.methodLink RX3 31 arraycopyName ∈ UW := by decide +kernel
/-! IceRun$Rows.carry(IIIII)V -/
abbrev rmI_X3_carry : Room := { frames := 1, cells := 0, slots := 0, locals := 18 }
def wpI_X3_carry (x1 x2 x3 x4 x5 : Int32) (σ : St) (post : St → Prop) : Prop := vp_in x1 4 ∧ (vp_in x3 4 ∧ ((¬ x2 < 0 ∧ ¬ x4 < 0 ∧ ¬ x5 < 0 ∧ (Int32.toNatClampNeg x2) + (Int32.toNatClampNeg x5) ≤ 9 ∧ (Int32.toNatClampNeg x4) + (Int32.toNatClampNeg x5) ≤ 9) ∧ (let σ3 : St := pC σ (250 + Int32.toNatClampNeg x3) (va_cpy (σ.2 (250 + Int32.toNatClampNeg x1)) (σ.2 (250 + Int32.toNatClampNeg x3)) (Int32.toNatClampNeg x2) (Int32.toNatClampNeg x4) (Int32.toNatClampNeg x5)); post σ3)))
theorem kI_X3_carry {X : Kx} {l : Launch} {E : Ev} {a : Nat → Nat} {post : St → Prop} (C : Cx X l E RX3 cX3_carry rmI_X3_carry none) (hQ : QV X (wI E a) post) (x1 x2 x3 x4 x5 : Int32) (σ : St) (h : wpI_X3_carry x1 x2 x3 x4 x5 σ post) : G X (wI E a) σ 0 [some (.ref (a 200)), some (.int x1), some (.int x2), some (.int x3), some (.int x4), some (.int x5)] [] := by
  unfold wpI_X3_carry at h
  refine g_aload_0 C dX3_carry_0 rfl ?_
  refine fgI_X3_20 C dX3_carry_1 ?_
  refine g_iload_1 C dX3_carry_4 rfl ?_
  obtain ⟨qr1, h⟩ := h
  refine arI C qr1 dX3_carry_5 ?_
  refine g_iload_2 C dX3_carry_6 rfl ?_
  refine g_aload_0 C dX3_carry_7 rfl ?_
  refine fgI_X3_20 C dX3_carry_8 ?_
  refine g_iload_3 C dX3_carry_11 rfl ?_
  obtain ⟨qr2, h⟩ := h
  refine arI C qr2 dX3_carry_12 ?_
  refine g_iload C dX3_carry_13 rfl ?_
  refine g_iload C dX3_carry_15 rfl ?_
  obtain ⟨q, h⟩ := h
  refine g_copyi C ac_X3_31 acw.1 acw.2.1 acw.2.2 (wI_row _ (vp_lt qr1)) (wI_row _ (vp_lt qr2)) (wI_rowset _ (vp_lt qr2) _) q ⟨Nat.le_of_ble_eq_true rfl, Nat.le_of_ble_eq_true rfl⟩ dX3_carry_17 ?_
  exact g_return C hQ dX3_carry_20 h
theorem cI_X3_carry {l : Launch} {E : Ev} {a : Nat → Nat} {x1 x2 x3 x4 x5 : Int32} {σ : St} {post : St → Prop} (h : wpI_X3_carry x1 x2 x3 x4 x5 σ post) : CV l E (wI E a) yX3_carry cX3_carry 6 rmI_X3_carry [.ref (a 200), .int x1, .int x2, .int x3, .int x4, .int x5] σ post := met_v (by decide) rfl (Nat.le_of_ble_eq_true rfl) rfl (fun X C hQ => kI_X3_carry C hQ _ _ _ _ _ _ h)
theorem mm_X3_37 : Cond.methodLink RX3 37 Lib.Math.min.name ∈ UW := by decide +kernel
theorem mm_X3_42 : Cond.methodLink RX3 42 Lib.Math.max.name ∈ UW := by decide +kernel
theorem mwI_max : Cond.static Lib.Math.max.name ∈ UW ∧ Cond.initialized "java/lang/Math" ∈ UW ∧ Cond.code Lib.Math.max.name Lib.Math.max.code 2 (some .int) ∈ UW := ⟨by decide +kernel, by decide +kernel, by decide +kernel⟩
/-! IceRun$Rows.glideOf(II)I -/
abbrev rmI_X3_glideOf : Room := { frames := 1, cells := 0, slots := 0, locals := 22 }
def wpI_X3_glideOf (x1 x2 : Int32) (σ : St) (post : Int32 → St → Prop) : Prop := let y1 : Int32 := (x2 / 125); vp_in x1 4 ∧ (wpI_X10_within y1 0 ((σ.2 201 (Int32.toNatClampNeg x1)) - 1) σ (fun r3 σ2 => ((¬ r3 = 0 → vp_in x1 4 ∧ (vp_in y1 9 ∧ (let y5 : Int32 := (if (σ2.2 (250 + Int32.toNatClampNeg x1) (Int32.toNatClampNeg y1)) < 200 then (σ2.2 (250 + Int32.toNatClampNeg x1) (Int32.toNatClampNeg y1)) else 200); let y6 : Int32 := (if (-200) < y5 then y5 else (-200)); post y6 σ2))) ∧ (r3 = 0 → post 0 σ2))))
theorem kI_X3_glideOf {X : Kx} {l : Launch} {E : Ev} {a : Nat → Nat} {post : Int32 → St → Prop} (C : Cx X l E RX3 cX3_glideOf rmI_X3_glideOf (some .int)) (hQ : QI X (wI E a) post) (x1 x2 : Int32) (σ : St) (h : wpI_X3_glideOf x1 x2 σ post) : G X (wI E a) σ 0 [some (.ref (a 200)), some (.int x1), some (.int x2), none] [] := by
  unfold wpI_X3_glideOf at h
  refine g_iload_2 C dX3_glideOf_0 rfl ?_
  refine g_bipush C (v := 125) (by decide) dX3_glideOf_1 ?_
  refine g_idiv C (by decide) dX3_glideOf_3 ?_
  refine g_istore_3 C dX3_glideOf_4 (Nat.le_of_ble_eq_true rfl) ?_
  refine g_iload_3 C dX3_glideOf_5 rfl ?_
  refine g_iconst_0 C dX3_glideOf_6 ?_
  refine g_aload_0 C dX3_glideOf_7 rfl ?_
  refine fgI_X3_15 C dX3_glideOf_8 ?_
  refine g_iload_1 C dX3_glideOf_11 rfl ?_
  obtain ⟨q, h⟩ := h
  refine alI_201 C q dX3_glideOf_12 ?_
  refine g_iconst_1 C dX3_glideOf_13 ?_
  refine g_isub C dX3_glideOf_14 ?_
  refine csI_X3_27 C h ⟨Nat.le_of_ble_eq_true rfl, Nat.le_of_ble_eq_true rfl⟩ (Nat.le_of_ble_eq_true rfl) dX3_glideOf_15 (fun _ _ h => ?_)
  refine g_if_ne C 23 dX3_glideOf_18 (by decide) (fun q => ?_) (fun q => ?_)
  · have h := h.1 q
    refine g_sipush C (v := (-200)) (by decide) dX3_glideOf_23 ?_
    refine g_sipush C (v := 200) (by decide) dX3_glideOf_26 ?_
    refine g_aload_0 C dX3_glideOf_29 rfl ?_
    refine fgI_X3_20 C dX3_glideOf_30 ?_
    refine g_iload_1 C dX3_glideOf_33 rfl ?_
    obtain ⟨qr4, h⟩ := h
    refine arI C qr4 dX3_glideOf_34 ?_
    refine g_iload_3 C dX3_glideOf_35 rfl ?_
    obtain ⟨q, h⟩ := h
    refine alI_row C (vp_lt qr4) q dX3_glideOf_36 ?_
    refine g_mmin C mm_X3_37 mwI_min.1 mwI_min.2.1 mwI_min.2.2 ⟨Nat.le_of_ble_eq_true rfl, Nat.le_of_ble_eq_true rfl⟩ dX3_glideOf_37 ?_
    refine g_mmax C mm_X3_42 mwI_max.1 mwI_max.2.1 mwI_max.2.2 ⟨Nat.le_of_ble_eq_true rfl, Nat.le_of_ble_eq_true rfl⟩ dX3_glideOf_40 ?_
    exact g_ireturn C hQ dX3_glideOf_43 h
  · have h := h.2 q
    refine g_iconst_0 C dX3_glideOf_21 ?_
    exact g_ireturn C hQ dX3_glideOf_22 h
theorem cI_X3_glideOf {l : Launch} {E : Ev} {a : Nat → Nat} {x1 x2 : Int32} {σ : St} {post : Int32 → St → Prop} (h : wpI_X3_glideOf x1 x2 σ post) : CI l E (wI E a) yX3_glideOf cX3_glideOf 4 .int rmI_X3_glideOf [.ref (a 200), .int x1, .int x2] σ post := met_i (by decide) rfl (Nat.le_of_ble_eq_true rfl) rfl (fun X C hQ => kI_X3_glideOf C hQ _ _ _ h)
/-! IceRun$Sheet.line(II)I -/
abbrev rmI_X4_line : Room := { frames := 0, cells := 0, slots := 0, locals := 0 }
def wpI_X4_line (x0 x1 : Int32) (σ : St) (post : Int32 → St → Prop) : Prop := post ((x0 * 16) + x1) σ
theorem kI_X4_line {X : Kx} {l : Launch} {E : Ev} {a : Nat → Nat} {post : Int32 → St → Prop} (C : Cx X l E RX4 cX4_line rmI_X4_line (some .int)) (hQ : QI X (wI E a) post) (x0 x1 : Int32) (σ : St) (h : wpI_X4_line x0 x1 σ post) : G X (wI E a) σ 0 [some (.int x0), some (.int x1)] [] := by
  unfold wpI_X4_line at h
  refine g_iload_0 C dX4_line_0 rfl ?_
  refine g_bipush C (v := 16) (by decide) dX4_line_1 ?_
  refine g_imul C dX4_line_3 ?_
  refine g_iload_1 C dX4_line_4 rfl ?_
  refine g_iadd C dX4_line_5 ?_
  exact g_ireturn C hQ dX4_line_6 h
theorem cI_X4_line {l : Launch} {E : Ev} {a : Nat → Nat} {x0 x1 : Int32} {σ : St} {post : Int32 → St → Prop} (h : wpI_X4_line x0 x1 σ post) : CI l E (wI E a) yX4_line cX4_line 2 .int rmI_X4_line [.int x0, .int x1] σ post := met_i (by decide) rfl (Nat.le_of_ble_eq_true rfl) rfl (fun X C hQ => kI_X4_line C hQ _ _ _ h)
theorem csI_X4_28 {X : Kx} {l : Launch} {E : Ev} {a : Nat → Nat} {σ : St} {cc : ByteArray} {rm : Room} {ret : Option FieldType} {pc : Nat} {lv : List (Option Value)} {rest : List Value} {x0 x1 : Int32} {post : Int32 → St → Prop} (C : Cx X l E RX4 cc rm ret) (h : wpI_X4_line x0 x1 σ post) (hR : 0 + 1 ≤ rm.frames ∧ 8 + (2 + 11) + 0 ≤ rm.locals) (hW : (rest.map fun v => v.category).sum ≤ 8) (d : decode cc pc = .ok (.invokestatic 28, 3)) (k : ∀ (r : Int32) (u : St), post r u → G X (wI E a) u (pc + 3) lv (.int r :: rest)) : G X (wI E a) σ pc lv (.int x1 :: .int x0 :: rest) := g_callSi C 2 (As := [.int x0, .int x1]) (rest := rest) (by decide +kernel) (by decide +kernel) (by decide +kernel) (by decide +kernel) (by decide +kernel) (cI_X4_line h) ⟨rfl, rfl⟩ hR rfl rfl hW d k
/-! IceRun$Sheet.spot(III)I -/
abbrev rmI_X4_spot : Room := { frames := 1, cells := 0, slots := 0, locals := 21 }
def wpI_X4_spot (x0 x1 x2 : Int32) (σ : St) (post : Int32 → St → Prop) : Prop := wpI_X4_line x0 x1 σ (fun r2 σ1 => post ((r2 * 6) + x2) σ1)
theorem kI_X4_spot {X : Kx} {l : Launch} {E : Ev} {a : Nat → Nat} {post : Int32 → St → Prop} (C : Cx X l E RX4 cX4_spot rmI_X4_spot (some .int)) (hQ : QI X (wI E a) post) (x0 x1 x2 : Int32) (σ : St) (h : wpI_X4_spot x0 x1 x2 σ post) : G X (wI E a) σ 0 [some (.int x0), some (.int x1), some (.int x2)] [] := by
  unfold wpI_X4_spot at h
  refine g_iload_0 C dX4_spot_0 rfl ?_
  refine g_iload_1 C dX4_spot_1 rfl ?_
  refine csI_X4_28 C h ⟨Nat.le_of_ble_eq_true rfl, Nat.le_of_ble_eq_true rfl⟩ (Nat.le_of_ble_eq_true rfl) dX4_spot_2 (fun _ _ h => ?_)
  refine g_bipush C (v := 6) (by decide) dX4_spot_5 ?_
  refine g_imul C dX4_spot_7 ?_
  refine g_iload_2 C dX4_spot_8 rfl ?_
  refine g_iadd C dX4_spot_9 ?_
  exact g_ireturn C hQ dX4_spot_10 h
theorem cI_X4_spot {l : Launch} {E : Ev} {a : Nat → Nat} {x0 x1 x2 : Int32} {σ : St} {post : Int32 → St → Prop} (h : wpI_X4_spot x0 x1 x2 σ post) : CI l E (wI E a) yX4_spot cX4_spot 3 .int rmI_X4_spot [.int x0, .int x1, .int x2] σ post := met_i (by decide) rfl (Nat.le_of_ble_eq_true rfl) rfl (fun X C hQ => kI_X4_spot C hQ _ _ _ _ h)
theorem fgI_X4_22 {X : Kx} {l : Launch} {E : Ev} {a : Nat → Nat} {σ : St} {cc : ByteArray} {rm : Room} {ret : Option FieldType} {pc : Nat} {lv : List (Option Value)} {st : List Value} (C : Cx X l E RX4 cc rm ret) (d : decode cc pc = .ok (.getfield 22, 3)) (k : G X (wI E a) σ (pc + 3) lv (.ref (a 804) :: st)) : G X (wI E a) σ pc lv (.ref (a 800) :: st) := g_get C (q0 := 35) (ci := 4) (k := 3) rfl rfl inU_X4 (by decide) (by decide +kernel) rfl d k
theorem csI_X4_36 {X : Kx} {l : Launch} {E : Ev} {a : Nat → Nat} {σ : St} {cc : ByteArray} {rm : Room} {ret : Option FieldType} {pc : Nat} {lv : List (Option Value)} {rest : List Value} {x0 x1 x2 : Int32} {post : Int32 → St → Prop} (C : Cx X l E RX4 cc rm ret) (h : wpI_X4_spot x0 x1 x2 σ post) (hR : 1 + 1 ≤ rm.frames ∧ 8 + (3 + 11) + 21 ≤ rm.locals) (hW : (rest.map fun v => v.category).sum ≤ 8) (d : decode cc pc = .ok (.invokestatic 36, 3)) (k : ∀ (r : Int32) (u : St), post r u → G X (wI E a) u (pc + 3) lv (.int r :: rest)) : G X (wI E a) σ pc lv (.int x2 :: .int x1 :: .int x0 :: rest) := g_callSi C 3 (As := [.int x0, .int x1, .int x2]) (rest := rest) (by decide +kernel) (by decide +kernel) (by decide +kernel) (by decide +kernel) (by decide +kernel) (cI_X4_spot h) ⟨rfl, rfl⟩ hR rfl rfl hW d k
theorem asI_803 {X : Kx} {l : Launch} {E : Ev} {a : Nat → Nat} {σ : St} {cc : ByteArray} {rm : Room} {ret : Option FieldType} {pc : Nat} {lv : List (Option Value)} {st : List Value} {own : String} {i x : Int32} (C : Cx X l E own cc rm ret) (hin : vp_in i 384) (d : decode cc pc = .ok (.iastore, 1)) (k : G X (wI E a) (pA σ 803 i.toNatClampNeg x) (pc + 1) lv st) : G X (wI E a) σ pc lv (.int x :: .int i :: .ref (a 804) :: st) := g_iast C (q0 := 39) rfl rfl hin d k
theorem fgI_X4_25 {X : Kx} {l : Launch} {E : Ev} {a : Nat → Nat} {σ : St} {cc : ByteArray} {rm : Room} {ret : Option FieldType} {pc : Nat} {lv : List (Option Value)} {st : List Value} (C : Cx X l E RX4 cc rm ret) (d : decode cc pc = .ok (.getfield 25, 3)) (k : G X (wI E a) σ (pc + 3) lv (.ref (a 805) :: st)) : G X (wI E a) σ pc lv (.ref (a 800) :: st) := g_get C (q0 := 35) (ci := 4) (k := 4) rfl rfl inU_X4 (by decide) (by decide +kernel) rfl d k
theorem asI_804 {X : Kx} {l : Launch} {E : Ev} {a : Nat → Nat} {σ : St} {cc : ByteArray} {rm : Room} {ret : Option FieldType} {pc : Nat} {lv : List (Option Value)} {st : List Value} {own : String} {i x : Int32} (C : Cx X l E own cc rm ret) (hin : vp_in i 384) (d : decode cc pc = .ok (.iastore, 1)) (k : G X (wI E a) (pA σ 804 i.toNatClampNeg x) (pc + 1) lv st) : G X (wI E a) σ pc lv (.int x :: .int i :: .ref (a 805) :: st) := g_iast C (q0 := 40) rfl rfl hin d k
/-! IceRun$Sheet.write(IIIII)V -/
abbrev rmI_X4_write : Room := { frames := 2, cells := 0, slots := 0, locals := 43 }
def wpI_X4_write (x1 x2 x3 x4 x5 : Int32) (σ : St) (post : St → Prop) : Prop := wpI_X4_spot x1 x2 x3 σ (fun r2 σ1 => vp_in r2 384 ∧ (let σ3 : St := pA σ1 803 (Int32.toNatClampNeg r2) x4; wpI_X4_spot x1 x2 x3 σ3 (fun r5 σ4 => vp_in r5 384 ∧ (let σ6 : St := pA σ4 804 (Int32.toNatClampNeg r5) x5; post σ6))))
theorem kI_X4_write {X : Kx} {l : Launch} {E : Ev} {a : Nat → Nat} {post : St → Prop} (C : Cx X l E RX4 cX4_write rmI_X4_write none) (hQ : QV X (wI E a) post) (x1 x2 x3 x4 x5 : Int32) (σ : St) (h : wpI_X4_write x1 x2 x3 x4 x5 σ post) : G X (wI E a) σ 0 [some (.ref (a 800)), some (.int x1), some (.int x2), some (.int x3), some (.int x4), some (.int x5)] [] := by
  unfold wpI_X4_write at h
  refine g_aload_0 C dX4_write_0 rfl ?_
  refine fgI_X4_22 C dX4_write_1 ?_
  refine g_iload_1 C dX4_write_4 rfl ?_
  refine g_iload_2 C dX4_write_5 rfl ?_
  refine g_iload_3 C dX4_write_6 rfl ?_
  refine csI_X4_36 C h ⟨Nat.le_of_ble_eq_true rfl, Nat.le_of_ble_eq_true rfl⟩ (Nat.le_of_ble_eq_true rfl) dX4_write_7 (fun _ _ h => ?_)
  refine g_iload C dX4_write_10 rfl ?_
  obtain ⟨q, h⟩ := h
  refine asI_803 C q dX4_write_12 ?_
  refine g_aload_0 C dX4_write_13 rfl ?_
  refine fgI_X4_25 C dX4_write_14 ?_
  refine g_iload_1 C dX4_write_17 rfl ?_
  refine g_iload_2 C dX4_write_18 rfl ?_
  refine g_iload_3 C dX4_write_19 rfl ?_
  refine csI_X4_36 C h ⟨Nat.le_of_ble_eq_true rfl, Nat.le_of_ble_eq_true rfl⟩ (Nat.le_of_ble_eq_true rfl) dX4_write_20 (fun _ _ h => ?_)
  refine g_iload C dX4_write_23 rfl ?_
  obtain ⟨q, h⟩ := h
  refine asI_804 C q dX4_write_25 ?_
  exact g_return C hQ dX4_write_26 h
theorem cI_X4_write {l : Launch} {E : Ev} {a : Nat → Nat} {x1 x2 x3 x4 x5 : Int32} {σ : St} {post : St → Prop} (h : wpI_X4_write x1 x2 x3 x4 x5 σ post) : CV l E (wI E a) yX4_write cX4_write 6 rmI_X4_write [.ref (a 800), .int x1, .int x2, .int x3, .int x4, .int x5] σ post := met_v (by decide) rfl (Nat.le_of_ble_eq_true rfl) rfl (fun X C hQ => kI_X4_write C hQ _ _ _ _ _ _ h)
theorem fgI_X4_19 {X : Kx} {l : Launch} {E : Ev} {a : Nat → Nat} {σ : St} {cc : ByteArray} {rm : Room} {ret : Option FieldType} {pc : Nat} {lv : List (Option Value)} {st : List Value} (C : Cx X l E RX4 cc rm ret) (d : decode cc pc = .ok (.getfield 19, 3)) (k : G X (wI E a) σ (pc + 3) lv (.ref (a 803) :: st)) : G X (wI E a) σ pc lv (.ref (a 800) :: st) := g_get C (q0 := 35) (ci := 4) (k := 2) rfl rfl inU_X4 (by decide) (by decide +kernel) rfl d k
theorem asI_802 {X : Kx} {l : Launch} {E : Ev} {a : Nat → Nat} {σ : St} {cc : ByteArray} {rm : Room} {ret : Option FieldType} {pc : Nat} {lv : List (Option Value)} {st : List Value} {own : String} {i x : Int32} (C : Cx X l E own cc rm ret) (hin : vp_in i 64) (d : decode cc pc = .ok (.iastore, 1)) (k : G X (wI E a) (pA σ 802 i.toNatClampNeg x) (pc + 1) lv st) : G X (wI E a) σ pc lv (.int x :: .int i :: .ref (a 803) :: st) := g_iast C (q0 := 38) rfl rfl hin d k
theorem csI_X4_32 {X : Kx} {l : Launch} {E : Ev} {a : Nat → Nat} {σ : St} {cc : ByteArray} {rm : Room} {ret : Option FieldType} {pc : Nat} {lv : List (Option Value)} {rest : List Value} {x0 x1 x2 x3 x4 : Int32} {post : St → Prop} (C : Cx X l E RX4 cc rm ret) (h : wpI_X4_write x0 x1 x2 x3 x4 σ post) (hR : 2 + 1 ≤ rm.frames ∧ 8 + (6 + 11) + 43 ≤ rm.locals) (hW : (rest.map fun v => v.category).sum ≤ 8) (d : decode cc pc = .ok (.invokevirtual 32, 3)) (k : ∀ u : St, post u → G X (wI E a) u (pc + 3) lv rest) : G X (wI E a) σ pc lv (.int x4 :: .int x3 :: .int x2 :: .int x1 :: .int x0 :: .ref (a 800) :: rest) := g_callVv C 5 (As := [.int x0, .int x1, .int x2, .int x3, .int x4]) (rest := rest) (Cn := RX4) (T := TX4) (N := 5) (q0 := 35) (ci := 4) (by decide +kernel) (by decide +kernel) (by decide +kernel) (by decide +kernel) (by decide +kernel) (by decide +kernel) rfl rfl (cI_X4_write h) ⟨rfl, rfl⟩ hR rfl rfl hW d k
/-! IceRun$Sheet.open(III)V -/
abbrev rmI_X4_open : Room := { frames := 3, cells := 0, slots := 0, locals := 68 }
def wpI_X4_open (x1 x2 x3 : Int32) (σ : St) (post : St → Prop) : Prop := wpI_X4_line x1 x2 σ (fun r2 σ1 => vp_in r2 64 ∧ (let σ3 : St := pA σ1 800 (Int32.toNatClampNeg r2) (vp_nar .boolean 1); wpI_X4_line x1 x2 σ3 (fun r5 σ4 => vp_in r5 64 ∧ (let σ6 : St := pA σ4 802 (Int32.toNatClampNeg r5) x3; wpI_X4_write x1 x2 0 0 0 σ6 (fun σ7 => post σ7)))))
theorem kI_X4_open {X : Kx} {l : Launch} {E : Ev} {a : Nat → Nat} {post : St → Prop} (C : Cx X l E RX4 cX4_open rmI_X4_open none) (hQ : QV X (wI E a) post) (x1 x2 x3 : Int32) (σ : St) (h : wpI_X4_open x1 x2 x3 σ post) : G X (wI E a) σ 0 [some (.ref (a 800)), some (.int x1), some (.int x2), some (.int x3)] [] := by
  unfold wpI_X4_open at h
  refine g_aload_0 C dX4_open_0 rfl ?_
  refine fgI_X4_9 C dX4_open_1 ?_
  refine g_iload_1 C dX4_open_4 rfl ?_
  refine g_iload_2 C dX4_open_5 rfl ?_
  refine csI_X4_28 C h ⟨Nat.le_of_ble_eq_true rfl, Nat.le_of_ble_eq_true rfl⟩ (Nat.le_of_ble_eq_true rfl) dX4_open_6 (fun _ _ h => ?_)
  refine g_iconst_1 C dX4_open_9 ?_
  obtain ⟨q, h⟩ := h
  refine asI_800 C q dX4_open_10 ?_
  refine g_aload_0 C dX4_open_11 rfl ?_
  refine fgI_X4_19 C dX4_open_12 ?_
  refine g_iload_1 C dX4_open_15 rfl ?_
  refine g_iload_2 C dX4_open_16 rfl ?_
  refine csI_X4_28 C h ⟨Nat.le_of_ble_eq_true rfl, Nat.le_of_ble_eq_true rfl⟩ (Nat.le_of_ble_eq_true rfl) dX4_open_17 (fun _ _ h => ?_)
  refine g_iload_3 C dX4_open_20 rfl ?_
  obtain ⟨q, h⟩ := h
  refine asI_802 C q dX4_open_21 ?_
  refine g_aload_0 C dX4_open_22 rfl ?_
  refine g_iload_1 C dX4_open_23 rfl ?_
  refine g_iload_2 C dX4_open_24 rfl ?_
  refine g_iconst_0 C dX4_open_25 ?_
  refine g_iconst_0 C dX4_open_26 ?_
  refine g_iconst_0 C dX4_open_27 ?_
  refine csI_X4_32 C h ⟨Nat.le_of_ble_eq_true rfl, Nat.le_of_ble_eq_true rfl⟩ (Nat.le_of_ble_eq_true rfl) dX4_open_28 (fun _ h => ?_)
  exact g_return C hQ dX4_open_31 h
theorem cI_X4_open {l : Launch} {E : Ev} {a : Nat → Nat} {x1 x2 x3 : Int32} {σ : St} {post : St → Prop} (h : wpI_X4_open x1 x2 x3 σ post) : CV l E (wI E a) yX4_open cX4_open 4 rmI_X4_open [.ref (a 800), .int x1, .int x2, .int x3] σ post := met_v (by decide) rfl (Nat.le_of_ble_eq_true rfl) rfl (fun X C hQ => kI_X4_open C hQ _ _ _ _ h)
theorem alI_803 {X : Kx} {l : Launch} {E : Ev} {a : Nat → Nat} {σ : St} {cc : ByteArray} {rm : Room} {ret : Option FieldType} {pc : Nat} {lv : List (Option Value)} {st : List Value} {own : String} {i : Int32} (C : Cx X l E own cc rm ret) (hin : vp_in i 384) (d : decode cc pc = .ok (.iaload, 1)) (k : G X (wI E a) σ (pc + 1) lv (.int (σ.2 803 i.toNatClampNeg) :: st)) : G X (wI E a) σ pc lv (.int i :: .ref (a 804) :: st) := g_iald C (q0 := 39) rfl hin d k
/-! IceRun$Sheet.timeAt(III)I -/
abbrev rmI_X4_timeAt : Room := { frames := 2, cells := 0, slots := 0, locals := 43 }
def wpI_X4_timeAt (x1 x2 x3 : Int32) (σ : St) (post : Int32 → St → Prop) : Prop := wpI_X4_spot x1 x2 x3 σ (fun r2 σ1 => vp_in r2 384 ∧ (post (σ1.2 803 (Int32.toNatClampNeg r2)) σ1))
theorem kI_X4_timeAt {X : Kx} {l : Launch} {E : Ev} {a : Nat → Nat} {post : Int32 → St → Prop} (C : Cx X l E RX4 cX4_timeAt rmI_X4_timeAt (some .int)) (hQ : QI X (wI E a) post) (x1 x2 x3 : Int32) (σ : St) (h : wpI_X4_timeAt x1 x2 x3 σ post) : G X (wI E a) σ 0 [some (.ref (a 800)), some (.int x1), some (.int x2), some (.int x3)] [] := by
  unfold wpI_X4_timeAt at h
  refine g_aload_0 C dX4_timeAt_0 rfl ?_
  refine fgI_X4_22 C dX4_timeAt_1 ?_
  refine g_iload_1 C dX4_timeAt_4 rfl ?_
  refine g_iload_2 C dX4_timeAt_5 rfl ?_
  refine g_iload_3 C dX4_timeAt_6 rfl ?_
  refine csI_X4_36 C h ⟨Nat.le_of_ble_eq_true rfl, Nat.le_of_ble_eq_true rfl⟩ (Nat.le_of_ble_eq_true rfl) dX4_timeAt_7 (fun _ _ h => ?_)
  obtain ⟨q, h⟩ := h
  refine alI_803 C q dX4_timeAt_10 ?_
  exact g_ireturn C hQ dX4_timeAt_11 h
theorem cI_X4_timeAt {l : Launch} {E : Ev} {a : Nat → Nat} {x1 x2 x3 : Int32} {σ : St} {post : Int32 → St → Prop} (h : wpI_X4_timeAt x1 x2 x3 σ post) : CI l E (wI E a) yX4_timeAt cX4_timeAt 4 .int rmI_X4_timeAt [.ref (a 800), .int x1, .int x2, .int x3] σ post := met_i (by decide) rfl (Nat.le_of_ble_eq_true rfl) rfl (fun X C hQ => kI_X4_timeAt C hQ _ _ _ _ h)
theorem csI_X4_44 {X : Kx} {l : Launch} {E : Ev} {a : Nat → Nat} {σ : St} {cc : ByteArray} {rm : Room} {ret : Option FieldType} {pc : Nat} {lv : List (Option Value)} {rest : List Value} {x0 x1 x2 : Int32} {post : Int32 → St → Prop} (C : Cx X l E RX4 cc rm ret) (h : wpI_X4_timeAt x0 x1 x2 σ post) (hR : 2 + 1 ≤ rm.frames ∧ 8 + (4 + 11) + 43 ≤ rm.locals) (hW : (rest.map fun v => v.category).sum ≤ 8) (d : decode cc pc = .ok (.invokevirtual 44, 3)) (k : ∀ (r : Int32) (u : St), post r u → G X (wI E a) u (pc + 3) lv (.int r :: rest)) : G X (wI E a) σ pc lv (.int x2 :: .int x1 :: .int x0 :: .ref (a 800) :: rest) := g_callVi C 3 (As := [.int x0, .int x1, .int x2]) (rest := rest) (Cn := RX4) (T := TX4) (N := 5) (q0 := 35) (ci := 4) (by decide +kernel) (by decide +kernel) (by decide +kernel) (by decide +kernel) (by decide +kernel) (by decide +kernel) rfl rfl (cI_X4_timeAt h) ⟨rfl, rfl⟩ hR rfl rfl hW d k
theorem lc_X4_63 : Cond.constant RX4 63 (-1000000) ∈ UW := by decide +kernel
/-! IceRun$Sheet.isTimed(III)Z -/
abbrev rmI_X4_isTimed : Room := { frames := 3, cells := 0, slots := 0, locals := 66 }
def wpI_X4_isTimed_17 (s0 : Int32) (σ : St) (post : Int32 → St → Prop) : Prop := (s0 = 0 ∨ s0 = 1) ∧ post s0 σ
theorem kI_X4_isTimed_17 {X : Kx} {l : Launch} {E : Ev} {a : Nat → Nat} {post : Int32 → St → Prop} (C : Cx X l E RX4 cX4_isTimed rmI_X4_isTimed (some .boolean)) (hQ : QI X (wI E a) post) (s0 : Int32) (σ : St) (h : wpI_X4_isTimed_17  s0 σ post) : G X (wI E a) σ 17 [none, none, none, none] [.int s0] := by
  unfold wpI_X4_isTimed_17 at h
  exact g_zreturn C hQ dX4_isTimed_17 h.1 h.2
def wpI_X4_isTimed (x1 x2 x3 : Int32) (σ : St) (post : Int32 → St → Prop) : Prop := wpI_X4_timeAt x1 x2 x3 σ (fun r2 σ1 => ((r2 = (-1000000) → wpI_X4_isTimed_17 0 σ1 post) ∧ (¬ r2 = (-1000000) → wpI_X4_isTimed_17 1 σ1 post)))
theorem kI_X4_isTimed {X : Kx} {l : Launch} {E : Ev} {a : Nat → Nat} {post : Int32 → St → Prop} (C : Cx X l E RX4 cX4_isTimed rmI_X4_isTimed (some .boolean)) (hQ : QI X (wI E a) post) (x1 x2 x3 : Int32) (σ : St) (h : wpI_X4_isTimed x1 x2 x3 σ post) : G X (wI E a) σ 0 [some (.ref (a 800)), some (.int x1), some (.int x2), some (.int x3)] [] := by
  unfold wpI_X4_isTimed at h
  refine g_aload_0 C dX4_isTimed_0 rfl ?_
  refine g_iload_1 C dX4_isTimed_1 rfl ?_
  refine g_iload_2 C dX4_isTimed_2 rfl ?_
  refine g_iload_3 C dX4_isTimed_3 rfl ?_
  refine csI_X4_44 C h ⟨Nat.le_of_ble_eq_true rfl, Nat.le_of_ble_eq_true rfl⟩ (Nat.le_of_ble_eq_true rfl) dX4_isTimed_4 (fun _ _ h => ?_)
  refine g_ldc C lc_X4_63 dX4_isTimed_7 ?_
  refine g_icmp_eq C 16 dX4_isTimed_9 (by decide) (fun q => ?_) (fun q => ?_)
  · have h := h.1 q
    refine g_iconst_0 C dX4_isTimed_16 ?_
    exact g_wk (kI_X4_isTimed_17 C hQ _ _ h) (trivial)
  · have h := h.2 q
    refine g_iconst_1 C dX4_isTimed_12 ?_
    refine g_goto C 17 dX4_isTimed_13 (by decide) ?_
    exact g_wk (kI_X4_isTimed_17 C hQ _ _ h) (trivial)
theorem cI_X4_isTimed {l : Launch} {E : Ev} {a : Nat → Nat} {x1 x2 x3 : Int32} {σ : St} {post : Int32 → St → Prop} (h : wpI_X4_isTimed x1 x2 x3 σ post) : CI l E (wI E a) yX4_isTimed cX4_isTimed 4 .boolean rmI_X4_isTimed [.ref (a 800), .int x1, .int x2, .int x3] σ post := met_i (by decide) rfl (Nat.le_of_ble_eq_true rfl) rfl (fun X C hQ => kI_X4_isTimed C hQ _ _ _ _ h)

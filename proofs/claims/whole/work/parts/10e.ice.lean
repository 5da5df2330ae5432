theorem alI_102 {X : Kx} {l : Launch} {E : Ev} {a : Nat → Nat} {σ : St} {cc : ByteArray} {rm : Room} {ret : Option FieldType} {pc : Nat} {lv : List (Option Value)} {st : List Value} {own : String} {i : Int32} (C : Cx X l E own cc rm ret) (hin : vp_in i 40) (d : decode cc pc = .ok (.iaload, 1)) (k : G X (wI E a) σ (pc + 1) lv (.int (σ.2 102 i.toNatClampNeg) :: st)) : G X (wI E a) σ pc lv (.int i :: .ref (a 103) :: st) := g_iald C (q0 := 2) rfl hin d k
theorem alI_103 {X : Kx} {l : Launch} {E : Ev} {a : Nat → Nat} {σ : St} {cc : ByteArray} {rm : Room} {ret : Option FieldType} {pc : Nat} {lv : List (Option Value)} {st : List Value} {own : String} {i : Int32} (C : Cx X l E own cc rm ret) (hin : vp_in i 40) (d : decode cc pc = .ok (.iaload, 1)) (k : G X (wI E a) σ (pc + 1) lv (.int (σ.2 103 i.toNatClampNeg) :: st)) : G X (wI E a) σ pc lv (.int i :: .ref (a 104) :: st) := g_iald C (q0 := 3) rfl hin d k
theorem alI_104 {X : Kx} {l : Launch} {E : Ev} {a : Nat → Nat} {σ : St} {cc : ByteArray} {rm : Room} {ret : Option FieldType} {pc : Nat} {lv : List (Option Value)} {st : List Value} {own : String} {i : Int32} (C : Cx X l E own cc rm ret) (hin : vp_in i 40) (d : decode cc pc = .ok (.iaload, 1)) (k : G X (wI E a) σ (pc + 1) lv (.int (σ.2 104 i.toNatClampNeg) :: st)) : G X (wI E a) σ pc lv (.int i :: .ref (a 105) :: st) := g_iald C (q0 := 4) rfl hin d k
theorem alI_105 {X : Kx} {l : Launch} {E : Ev} {a : Nat → Nat} {σ : St} {cc : ByteArray} {rm : Room} {ret : Option FieldType} {pc : Nat} {lv : List (Option Value)} {st : List Value} {own : String} {i : Int32} (C : Cx X l E own cc rm ret) (hin : vp_in i 40) (d : decode cc pc = .ok (.iaload, 1)) (k : G X (wI E a) σ (pc + 1) lv (.int (σ.2 105 i.toNatClampNeg) :: st)) : G X (wI E a) σ pc lv (.int i :: .ref (a 106) :: st) := g_iald C (q0 := 5) rfl hin d k
theorem alI_106 {X : Kx} {l : Launch} {E : Ev} {a : Nat → Nat} {σ : St} {cc : ByteArray} {rm : Room} {ret : Option FieldType} {pc : Nat} {lv : List (Option Value)} {st : List Value} {own : String} {i : Int32} (C : Cx X l E own cc rm ret) (hin : vp_in i 40) (d : decode cc pc = .ok (.iaload, 1)) (k : G X (wI E a) σ (pc + 1) lv (.int (σ.2 106 i.toNatClampNeg) :: st)) : G X (wI E a) σ pc lv (.int i :: .ref (a 107) :: st) := g_iald C (q0 := 6) rfl hin d k
/-! IceRun$Track.look(II)I -/
abbrev rmI_X8_look : Room := { frames := 0, cells := 0, slots := 0, locals := 0 }
def wpI_X8_look (x1 x2 : Int32) (σ : St) (post : Int32 → St → Prop) : Prop := ((x2 = 0 → vp_in x1 40 ∧ (post (σ.2 102 (Int32.toNatClampNeg x1)) σ)) ∧ (x2 = 1 → vp_in x1 40 ∧ (post (σ.2 103 (Int32.toNatClampNeg x1)) σ)) ∧ (x2 = 2 → vp_in x1 40 ∧ (post (σ.2 104 (Int32.toNatClampNeg x1)) σ)) ∧ (x2 = 3 → vp_in x1 40 ∧ (post (σ.2 105 (Int32.toNatClampNeg x1)) σ)) ∧ (x2 = 4 → vp_in x1 40 ∧ (post (σ.2 106 (Int32.toNatClampNeg x1)) σ)) ∧ (¬ x2 = 0 → ¬ x2 = 1 → ¬ x2 = 2 → ¬ x2 = 3 → ¬ x2 = 4 → post (-1) σ))
theorem kI_X8_look {X : Kx} {l : Launch} {E : Ev} {a : Nat → Nat} {post : Int32 → St → Prop} (C : Cx X l E RX8 cX8_look rmI_X8_look (some .int)) (hQ : QI X (wI E a) post) (x1 x2 : Int32) (σ : St) (h : wpI_X8_look x1 x2 σ post) : G X (wI E a) σ 0 [some (.ref (a 100)), some (.int x1), some (.int x2)] [] := by
  unfold wpI_X8_look at h
  refine g_iload_2 C dX8_look_0 rfl ?_
  by_cases q0 : x2 = 0
  · have h := h.1 q0
    refine g_tabIn C 36 0 q0 dX8_look_1 (by decide) (by decide) (by rfl) (by decide) ?_
    refine g_aload_0 C dX8_look_36 rfl ?_
    refine fgI_X8_18 C dX8_look_37 ?_
    refine g_iload_1 C dX8_look_40 rfl ?_
    obtain ⟨q, h⟩ := h
    refine alI_102 C q dX8_look_41 ?_
    exact g_ireturn C hQ dX8_look_42 h
  by_cases q1 : x2 = 1
  · have h := h.2.1 q1
    refine g_tabIn C 43 1 q1 dX8_look_1 (by decide) (by decide) (by rfl) (by decide) ?_
    refine g_aload_0 C dX8_look_43 rfl ?_
    refine fgI_X8_22 C dX8_look_44 ?_
    refine g_iload_1 C dX8_look_47 rfl ?_
    obtain ⟨q, h⟩ := h
    refine alI_103 C q dX8_look_48 ?_
    exact g_ireturn C hQ dX8_look_49 h
  by_cases q2 : x2 = 2
  · have h := h.2.2.1 q2
    refine g_tabIn C 50 2 q2 dX8_look_1 (by decide) (by decide) (by rfl) (by decide) ?_
    refine g_aload_0 C dX8_look_50 rfl ?_
    refine fgI_X8_25 C dX8_look_51 ?_
    refine g_iload_1 C dX8_look_54 rfl ?_
    obtain ⟨q, h⟩ := h
    refine alI_104 C q dX8_look_55 ?_
    exact g_ireturn C hQ dX8_look_56 h
  by_cases q3 : x2 = 3
  · have h := h.2.2.2.1 q3
    refine g_tabIn C 57 3 q3 dX8_look_1 (by decide) (by decide) (by rfl) (by decide) ?_
    refine g_aload_0 C dX8_look_57 rfl ?_
    refine fgI_X8_28 C dX8_look_58 ?_
    refine g_iload_1 C dX8_look_61 rfl ?_
    obtain ⟨q, h⟩ := h
    refine alI_105 C q dX8_look_62 ?_
    exact g_ireturn C hQ dX8_look_63 h
  by_cases q4 : x2 = 4
  · have h := h.2.2.2.2.1 q4
    refine g_tabIn C 64 4 q4 dX8_look_1 (by decide) (by decide) (by rfl) (by decide) ?_
    refine g_aload_0 C dX8_look_64 rfl ?_
    refine fgI_X8_31 C dX8_look_65 ?_
    refine g_iload_1 C dX8_look_68 rfl ?_
    obtain ⟨q, h⟩ := h
    refine alI_106 C q dX8_look_69 ?_
    exact g_ireturn C hQ dX8_look_70 h
  have h := h.2.2.2.2.2 q0 q1 q2 q3 q4
  refine g_tabOut C 71 (by have e0 := lv_neT q0 (a := 0) (by decide); have e1 := lv_neT q1 (a := 1) (by decide); have e2 := lv_neT q2 (a := 2) (by decide); have e3 := lv_neT q3 (a := 3) (by decide); have e4 := lv_neT q4 (a := 4) (by decide); omega) dX8_look_1 (by decide) ?_
  refine g_iconst_m1 C dX8_look_71 ?_
  exact g_ireturn C hQ dX8_look_72 h
theorem cI_X8_look {l : Launch} {E : Ev} {a : Nat → Nat} {x1 x2 : Int32} {σ : St} {post : Int32 → St → Prop} (h : wpI_X8_look x1 x2 σ post) : CI l E (wI E a) yX8_look cX8_look 3 .int rmI_X8_look [.ref (a 100), .int x1, .int x2] σ post := met_i (by decide) rfl (Nat.le_of_ble_eq_true rfl) rfl (fun X C hQ => kI_X8_look C hQ _ _ _ h)
theorem mm_X8_44 : Cond.methodLink RX8 44 Lib.Math.min.name ∈ UW := by decide +kernel
theorem mm_X8_50 : Cond.methodLink RX8 50 Lib.Math.max.name ∈ UW := by decide +kernel
/-! IceRun$Track.soften(III)V -/
abbrev rmI_X8_soften : Room := { frames := 1, cells := 0, slots := 0, locals := 16 }
def wpBI_X8_soften_3 (k_3 : Int32 → Int32 → Int32 → Int32 → St → Prop) (x1 x2 x3 x4 : Int32) (σ : St) (post : St → Prop) : Prop := (((σ.1 100) ≤ x4 → post σ) ∧ (¬ (σ.1 100) ≤ x4 → vp_in x4 40 ∧ (vp_in x4 40 ∧ (let y1 : Int32 := ((σ.2 105 (Int32.toNatClampNeg x4)) - (x1 * (x2 + ((σ.2 104 (Int32.toNatClampNeg x4)) * x3)))); let y2 : Int32 := (if y1 < 1000 then y1 else 1000); let y3 : Int32 := (if 0 < y2 then y2 else 0); vp_in x4 40 ∧ (let σ4 : St := pA σ 105 (Int32.toNatClampNeg x4) y3; let y5 : Int32 := x4 + 1; k_3 x1 x2 x3 y5 σ4)))))
def wpI_X8_soften_3 (x1 x2 x3 x4 : Int32) (σ : St) (post : St → Prop) : Prop := ∃ n : Nat, lpN (α := Int32 × Int32 × Int32 × Int32 × St) (fun kb t => wpBI_X8_soften_3 (fun x1 x2 x3 x4 σ => kb (x1, x2, x3, x4, σ)) t.1 t.2.1 t.2.2.1 t.2.2.2.1 t.2.2.2.2 post) n (x1, x2, x3, x4, σ)
theorem kBI_X8_soften_3 {X : Kx} {l : Launch} {E : Ev} {a : Nat → Nat} {post : St → Prop} (C : Cx X l E RX8 cX8_soften rmI_X8_soften none) (hQ : QV X (wI E a) post) (k_3 : Int32 → Int32 → Int32 → Int32 → St → Prop) (hk_3 : ∀ (x1 x2 x3 x4 : Int32) (σ : St), k_3 x1 x2 x3 x4 σ → G X (wI E a) σ 3 [some (.ref (a 100)), some (.int x1), some (.int x2), some (.int x3), some (.int x4), none] []) (x1 x2 x3 x4 : Int32) (σ : St) (h : wpBI_X8_soften_3 k_3 x1 x2 x3 x4 σ post) : G X (wI E a) σ 3 [some (.ref (a 100)), some (.int x1), some (.int x2), some (.int x3), some (.int x4), none] [] := by
  unfold wpBI_X8_soften_3 at h
  refine g_iload C dX8_soften_3 rfl ?_
  refine g_aload_0 C dX8_soften_5 rfl ?_
  refine fgI_X8_9 C dX8_soften_6 ?_
  refine g_icmp_ge C 60 dX8_soften_9 (by decide) (fun q => ?_) (fun q => ?_)
  · have h := h.1 q
    exact g_return C hQ dX8_soften_60 h
  · have h := h.2 q
    refine g_aload_0 C dX8_soften_12 rfl ?_
    refine fgI_X8_28 C dX8_soften_13 ?_
    refine g_iload C dX8_soften_16 rfl ?_
    obtain ⟨q, h⟩ := h
    refine alI_105 C q dX8_soften_18 ?_
    refine g_iload_1 C dX8_soften_19 rfl ?_
    refine g_iload_2 C dX8_soften_20 rfl ?_
    refine g_aload_0 C dX8_soften_21 rfl ?_
    refine fgI_X8_25 C dX8_soften_22 ?_
    refine g_iload C dX8_soften_25 rfl ?_
    obtain ⟨q, h⟩ := h
    refine alI_104 C q dX8_soften_27 ?_
    refine g_iload_3 C dX8_soften_28 rfl ?_
    refine g_imul C dX8_soften_29 ?_
    refine g_iadd C dX8_soften_30 ?_
    refine g_imul C dX8_soften_31 ?_
    refine g_isub C dX8_soften_32 ?_
    refine g_istore C dX8_soften_33 (Nat.le_of_ble_eq_true rfl) ?_
    refine g_aload_0 C dX8_soften_35 rfl ?_
    refine fgI_X8_28 C dX8_soften_36 ?_
    refine g_iload C dX8_soften_39 rfl ?_
    refine g_iconst_0 C dX8_soften_41 ?_
    refine g_sipush C (v := 1000) (by decide) dX8_soften_42 ?_
    refine g_iload C dX8_soften_45 rfl ?_
    refine g_mmin C mm_X8_44 mwI_min.1 mwI_min.2.1 mwI_min.2.2 ⟨Nat.le_of_ble_eq_true rfl, Nat.le_of_ble_eq_true rfl⟩ dX8_soften_47 ?_
    refine g_mmax C mm_X8_50 mwI_max.1 mwI_max.2.1 mwI_max.2.2 ⟨Nat.le_of_ble_eq_true rfl, Nat.le_of_ble_eq_true rfl⟩ dX8_soften_50 ?_
    obtain ⟨q, h⟩ := h
    refine asI_105 C q dX8_soften_53 ?_
    refine g_iinc C (v := 1) (by decide) dX8_soften_54 rfl ?_
    refine g_goto C 3 dX8_soften_57 (by decide) ?_
    exact g_wk (hk_3 _ _ _ _ _ h) (And.intro rfl (And.intro rfl (And.intro rfl (And.intro rfl (And.intro rfl (trivial))))))
theorem kI_X8_soften_3 {X : Kx} {l : Launch} {E : Ev} {a : Nat → Nat} {post : St → Prop} (C : Cx X l E RX8 cX8_soften rmI_X8_soften none) (hQ : QV X (wI E a) post) (x1 x2 x3 x4 : Int32) (σ : St) (h : wpI_X8_soften_3  x1 x2 x3 x4 σ post) : G X (wI E a) σ 3 [some (.ref (a 100)), some (.int x1), some (.int x2), some (.int x3), some (.int x4), none] [] := by
  obtain ⟨n, h⟩ := h
  exact g_loop (J := fun t : Int32 × Int32 × Int32 × Int32 × St => G X (wI E a) t.2.2.2.2 3 [some (.ref (a 100)), some (.int t.1), some (.int t.2.1), some (.int t.2.2.1), some (.int t.2.2.2.1), none] []) (fun kb hkb t ht => kBI_X8_soften_3 C hQ  (fun x1 x2 x3 x4 σ => kb (x1, x2, x3, x4, σ)) (fun x1 x2 x3 x4 σ hh => hkb (x1, x2, x3, x4, σ) hh) t.1 t.2.1 t.2.2.1 t.2.2.2.1 t.2.2.2.2 ht) n (x1, x2, x3, x4, σ) h
def wpI_X8_soften (x1 x2 x3 : Int32) (σ : St) (post : St → Prop) : Prop := wpI_X8_soften_3 x1 x2 x3 0 σ post
theorem kI_X8_soften {X : Kx} {l : Launch} {E : Ev} {a : Nat → Nat} {post : St → Prop} (C : Cx X l E RX8 cX8_soften rmI_X8_soften none) (hQ : QV X (wI E a) post) (x1 x2 x3 : Int32) (σ : St) (h : wpI_X8_soften x1 x2 x3 σ post) : G X (wI E a) σ 0 [some (.ref (a 100)), some (.int x1), some (.int x2), some (.int x3), none, none] [] := by
  unfold wpI_X8_soften at h
  refine g_iconst_0 C dX8_soften_0 ?_
  refine g_istore C dX8_soften_1 (Nat.le_of_ble_eq_true rfl) ?_
  exact g_wk (kI_X8_soften_3 C hQ _ _ _ _ _ h) (And.intro rfl (And.intro rfl (And.intro rfl (And.intro rfl (And.intro rfl (trivial))))))
theorem cI_X8_soften {l : Launch} {E : Ev} {a : Nat → Nat} {x1 x2 x3 : Int32} {σ : St} {post : St → Prop} (h : wpI_X8_soften x1 x2 x3 σ post) : CV l E (wI E a) yX8_soften cX8_soften 6 rmI_X8_soften [.ref (a 100), .int x1, .int x2, .int x3] σ post := met_v (by decide) rfl (Nat.le_of_ble_eq_true rfl) rfl (fun X C hQ => kI_X8_soften C hQ _ _ _ _ h)
/-! IceRun$Track.pour(II)V -/
abbrev rmI_X8_pour : Room := { frames := 1, cells := 0, slots := 0, locals := 15 }
def wpBI_X8_pour_2 (k_2 : Int32 → Int32 → St → Prop) (x2 x3 : Int32) (σ : St) (post : St → Prop) : Prop := ((x2 ≤ x3 → post σ) ∧ (¬ x2 ≤ x3 → vp_in x3 40 ∧ (let σ1 : St := pA σ 106 (Int32.toNatClampNeg x3) 0; vp_in x3 40 ∧ (let y2 : Int32 := (if 0 < ((σ1.2 105 (Int32.toNatClampNeg x3)) - 100) then ((σ1.2 105 (Int32.toNatClampNeg x3)) - 100) else 0); vp_in x3 40 ∧ (let σ3 : St := pA σ1 105 (Int32.toNatClampNeg x3) y2; let y4 : Int32 := x3 + 1; k_2 x2 y4 σ3)))))
def wpI_X8_pour_2 (x2 x3 : Int32) (σ : St) (post : St → Prop) : Prop := ∃ n : Nat, lpN (α := Int32 × Int32 × St) (fun kb t => wpBI_X8_pour_2 (fun x2 x3 σ => kb (x2, x3, σ)) t.1 t.2.1 t.2.2 post) n (x2, x3, σ)
theorem kBI_X8_pour_2 {X : Kx} {l : Launch} {E : Ev} {a : Nat → Nat} {post : St → Prop} (C : Cx X l E RX8 cX8_pour rmI_X8_pour none) (hQ : QV X (wI E a) post) (k_2 : Int32 → Int32 → St → Prop) (hk_2 : ∀ (x2 x3 : Int32) (σ : St), k_2 x2 x3 σ → G X (wI E a) σ 2 [some (.ref (a 100)), none, some (.int x2), some (.int x3)] []) (x2 x3 : Int32) (σ : St) (h : wpBI_X8_pour_2 k_2 x2 x3 σ post) : G X (wI E a) σ 2 [some (.ref (a 100)), none, some (.int x2), some (.int x3)] [] := by
  unfold wpBI_X8_pour_2 at h
  refine g_iload_3 C dX8_pour_2 rfl ?_
  refine g_iload_2 C dX8_pour_3 rfl ?_
  refine g_icmp_ge C 39 dX8_pour_4 (by decide) (fun q => ?_) (fun q => ?_)
  · have h := h.1 q
    exact g_return C hQ dX8_pour_39 h
  · have h := h.2 q
    refine g_aload_0 C dX8_pour_7 rfl ?_
    refine fgI_X8_31 C dX8_pour_8 ?_
    refine g_iload_3 C dX8_pour_11 rfl ?_
    refine g_iconst_0 C dX8_pour_12 ?_
    obtain ⟨q, h⟩ := h
    refine asI_106 C q dX8_pour_13 ?_
    refine g_aload_0 C dX8_pour_14 rfl ?_
    refine fgI_X8_28 C dX8_pour_15 ?_
    refine g_iload_3 C dX8_pour_18 rfl ?_
    refine g_iconst_0 C dX8_pour_19 ?_
    refine g_aload_0 C dX8_pour_20 rfl ?_
    refine fgI_X8_28 C dX8_pour_21 ?_
    refine g_iload_3 C dX8_pour_24 rfl ?_
    obtain ⟨q, h⟩ := h
    refine alI_105 C q dX8_pour_25 ?_
    refine g_bipush C (v := 100) (by decide) dX8_pour_26 ?_
    refine g_isub C dX8_pour_28 ?_
    refine g_mmax C mm_X8_50 mwI_max.1 mwI_max.2.1 mwI_max.2.2 ⟨Nat.le_of_ble_eq_true rfl, Nat.le_of_ble_eq_true rfl⟩ dX8_pour_29 ?_
    obtain ⟨q, h⟩ := h
    refine asI_105 C q dX8_pour_32 ?_
    refine g_iinc C (v := 1) (by decide) dX8_pour_33 rfl ?_
    refine g_goto C 2 dX8_pour_36 (by decide) ?_
    exact g_wk (hk_2 _ _ _ h) (And.intro rfl (And.intro rfl (And.intro rfl (trivial))))
theorem kI_X8_pour_2 {X : Kx} {l : Launch} {E : Ev} {a : Nat → Nat} {post : St → Prop} (C : Cx X l E RX8 cX8_pour rmI_X8_pour none) (hQ : QV X (wI E a) post) (x2 x3 : Int32) (σ : St) (h : wpI_X8_pour_2  x2 x3 σ post) : G X (wI E a) σ 2 [some (.ref (a 100)), none, some (.int x2), some (.int x3)] [] := by
  obtain ⟨n, h⟩ := h
  exact g_loop (J := fun t : Int32 × Int32 × St => G X (wI E a) t.2.2 2 [some (.ref (a 100)), none, some (.int t.1), some (.int t.2.1)] []) (fun kb hkb t ht => kBI_X8_pour_2 C hQ  (fun x2 x3 σ => kb (x2, x3, σ)) (fun x2 x3 σ hh => hkb (x2, x3, σ) hh) t.1 t.2.1 t.2.2 ht) n (x2, x3, σ) h
def wpI_X8_pour (x1 x2 : Int32) (σ : St) (post : St → Prop) : Prop := wpI_X8_pour_2 x2 x1 σ post
theorem kI_X8_pour {X : Kx} {l : Launch} {E : Ev} {a : Nat → Nat} {post : St → Prop} (C : Cx X l E RX8 cX8_pour rmI_X8_pour none) (hQ : QV X (wI E a) post) (x1 x2 : Int32) (σ : St) (h : wpI_X8_pour x1 x2 σ post) : G X (wI E a) σ 0 [some (.ref (a 100)), some (.int x1), some (.int x2), none] [] := by
  unfold wpI_X8_pour at h
  refine g_iload_1 C dX8_pour_0 rfl ?_
  refine g_istore_3 C dX8_pour_1 (Nat.le_of_ble_eq_true rfl) ?_
  exact g_wk (kI_X8_pour_2 C hQ _ _ _ h) (And.intro rfl (And.intro rfl (And.intro rfl (trivial))))
theorem cI_X8_pour {l : Launch} {E : Ev} {a : Nat → Nat} {x1 x2 : Int32} {σ : St} {post : St → Prop} (h : wpI_X8_pour x1 x2 σ post) : CV l E (wI E a) yX8_pour cX8_pour 4 rmI_X8_pour [.ref (a 100), .int x1, .int x2] σ post := met_v (by decide) rfl (Nat.le_of_ble_eq_true rfl) rfl (fun X C hQ => kI_X8_pour C hQ _ _ _ h)
/-! IceRun$Track.wear(II)V -/
abbrev rmI_X8_wear : Room := { frames := 1, cells := 0, slots := 0, locals := 15 }
def wpI_X8_wear (x1 x2 : Int32) (σ : St) (post : St → Prop) : Prop := vp_in x1 40 ∧ (let y1 : Int32 := (if (((σ.2 106 (Int32.toNatClampNeg x1)) + 1) + (x2 / 64)) < 100 then (((σ.2 106 (Int32.toNatClampNeg x1)) + 1) + (x2 / 64)) else 100); vp_in x1 40 ∧ (let σ2 : St := pA σ 106 (Int32.toNatClampNeg x1) y1; vp_in x1 40 ∧ (let y3 : Int32 := (if 0 < ((σ2.2 105 (Int32.toNatClampNeg x1)) - 2) then ((σ2.2 105 (Int32.toNatClampNeg x1)) - 2) else 0); vp_in x1 40 ∧ (let σ4 : St := pA σ2 105 (Int32.toNatClampNeg x1) y3; post σ4))))
theorem kI_X8_wear {X : Kx} {l : Launch} {E : Ev} {a : Nat → Nat} {post : St → Prop} (C : Cx X l E RX8 cX8_wear rmI_X8_wear none) (hQ : QV X (wI E a) post) (x1 x2 : Int32) (σ : St) (h : wpI_X8_wear x1 x2 σ post) : G X (wI E a) σ 0 [some (.ref (a 100)), some (.int x1), some (.int x2)] [] := by
  unfold wpI_X8_wear at h
  refine g_aload_0 C dX8_wear_0 rfl ?_
  refine fgI_X8_31 C dX8_wear_1 ?_
  refine g_iload_1 C dX8_wear_4 rfl ?_
  refine g_bipush C (v := 100) (by decide) dX8_wear_5 ?_
  refine g_aload_0 C dX8_wear_7 rfl ?_
  refine fgI_X8_31 C dX8_wear_8 ?_
  refine g_iload_1 C dX8_wear_11 rfl ?_
  obtain ⟨q, h⟩ := h
  refine alI_106 C q dX8_wear_12 ?_
  refine g_iconst_1 C dX8_wear_13 ?_
  refine g_iadd C dX8_wear_14 ?_
  refine g_iload_2 C dX8_wear_15 rfl ?_
  refine g_bipush C (v := 64) (by decide) dX8_wear_16 ?_
  refine g_idiv C (by decide) dX8_wear_18 ?_
  refine g_iadd C dX8_wear_19 ?_
  refine g_mmin C mm_X8_44 mwI_min.1 mwI_min.2.1 mwI_min.2.2 ⟨Nat.le_of_ble_eq_true rfl, Nat.le_of_ble_eq_true rfl⟩ dX8_wear_20 ?_
  obtain ⟨q, h⟩ := h
  refine asI_106 C q dX8_wear_23 ?_
  refine g_aload_0 C dX8_wear_24 rfl ?_
  refine fgI_X8_28 C dX8_wear_25 ?_
  refine g_iload_1 C dX8_wear_28 rfl ?_
  refine g_iconst_0 C dX8_wear_29 ?_
  refine g_aload_0 C dX8_wear_30 rfl ?_
  refine fgI_X8_28 C dX8_wear_31 ?_
  refine g_iload_1 C dX8_wear_34 rfl ?_
  obtain ⟨q, h⟩ := h
  refine alI_105 C q dX8_wear_35 ?_
  refine g_iconst_2 C dX8_wear_36 ?_
  refine g_isub C dX8_wear_37 ?_
  refine g_mmax C mm_X8_50 mwI_max.1 mwI_max.2.1 mwI_max.2.2 ⟨Nat.le_of_ble_eq_true rfl, Nat.le_of_ble_eq_true rfl⟩ dX8_wear_38 ?_
  obtain ⟨q, h⟩ := h
  refine asI_105 C q dX8_wear_41 ?_
  exact g_return C hQ dX8_wear_42 h
theorem cI_X8_wear {l : Launch} {E : Ev} {a : Nat → Nat} {x1 x2 : Int32} {σ : St} {post : St → Prop} (h : wpI_X8_wear x1 x2 σ post) : CV l E (wI E a) yX8_wear cX8_wear 3 rmI_X8_wear [.ref (a 100), .int x1, .int x2] σ post := met_v (by decide) rfl (Nat.le_of_ble_eq_true rfl) rfl (fun X C hQ => kI_X8_wear C hQ _ _ _ h)
/-! IceRun$Track.timeOf(IIII)I -/
abbrev rmI_X8_timeOf : Room := { frames := 1, cells := 0, slots := 0, locals := 13 }
def wpI_X8_timeOf (x1 x2 x3 x4 : Int32) (σ : St) (post : Int32 → St → Prop) : Prop := vp_in x1 40 ∧ (let y1 : Int32 := ((1000 - (σ.2 105 (Int32.toNatClampNeg x1))) / 8); vp_in x1 40 ∧ (vp_in x1 40 ∧ (vp_in x1 40 ∧ (let y2 : Int32 := ((((((σ.2 102 (Int32.toNatClampNeg x1)) + y1) + (2 * (σ.2 106 (Int32.toNatClampNeg x1)))) + x4) + ((9 - x3) * (σ.2 103 (Int32.toNatClampNeg x1)))) - (x2 / 8)); let y3 : Int32 := (if 1 < y2 then y2 else 1); post y3 σ))))
theorem kI_X8_timeOf {X : Kx} {l : Launch} {E : Ev} {a : Nat → Nat} {post : Int32 → St → Prop} (C : Cx X l E RX8 cX8_timeOf rmI_X8_timeOf (some .int)) (hQ : QI X (wI E a) post) (x1 x2 x3 x4 : Int32) (σ : St) (h : wpI_X8_timeOf x1 x2 x3 x4 σ post) : G X (wI E a) σ 0 [some (.ref (a 100)), some (.int x1), some (.int x2), some (.int x3), some (.int x4), none, none] [] := by
  unfold wpI_X8_timeOf at h
  refine g_sipush C (v := 1000) (by decide) dX8_timeOf_0 ?_
  refine g_aload_0 C dX8_timeOf_3 rfl ?_
  refine fgI_X8_28 C dX8_timeOf_4 ?_
  refine g_iload_1 C dX8_timeOf_7 rfl ?_
  obtain ⟨q, h⟩ := h
  refine alI_105 C q dX8_timeOf_8 ?_
  refine g_isub C dX8_timeOf_9 ?_
  refine g_bipush C (v := 8) (by decide) dX8_timeOf_10 ?_
  refine g_idiv C (by decide) dX8_timeOf_12 ?_
  refine g_istore C dX8_timeOf_13 (Nat.le_of_ble_eq_true rfl) ?_
  refine g_aload_0 C dX8_timeOf_15 rfl ?_
  refine fgI_X8_18 C dX8_timeOf_16 ?_
  refine g_iload_1 C dX8_timeOf_19 rfl ?_
  obtain ⟨q, h⟩ := h
  refine alI_102 C q dX8_timeOf_20 ?_
  refine g_iload C dX8_timeOf_21 rfl ?_
  refine g_iadd C dX8_timeOf_23 ?_
  refine g_iconst_2 C dX8_timeOf_24 ?_
  refine g_aload_0 C dX8_timeOf_25 rfl ?_
  refine fgI_X8_31 C dX8_timeOf_26 ?_
  refine g_iload_1 C dX8_timeOf_29 rfl ?_
  obtain ⟨q, h⟩ := h
  refine alI_106 C q dX8_timeOf_30 ?_
  refine g_imul C dX8_timeOf_31 ?_
  refine g_iadd C dX8_timeOf_32 ?_
  refine g_iload C dX8_timeOf_33 rfl ?_
  refine g_iadd C dX8_timeOf_35 ?_
  refine g_bipush C (v := 9) (by decide) dX8_timeOf_36 ?_
  refine g_iload_3 C dX8_timeOf_38 rfl ?_
  refine g_isub C dX8_timeOf_39 ?_
  refine g_aload_0 C dX8_timeOf_40 rfl ?_
  refine fgI_X8_22 C dX8_timeOf_41 ?_
  refine g_iload_1 C dX8_timeOf_44 rfl ?_
  obtain ⟨q, h⟩ := h
  refine alI_103 C q dX8_timeOf_45 ?_
  refine g_imul C dX8_timeOf_46 ?_
  refine g_iadd C dX8_timeOf_47 ?_
  refine g_iload_2 C dX8_timeOf_48 rfl ?_
  refine g_bipush C (v := 8) (by decide) dX8_timeOf_49 ?_
  refine g_idiv C (by decide) dX8_timeOf_51 ?_
  refine g_isub C dX8_timeOf_52 ?_
  refine g_istore C dX8_timeOf_53 (Nat.le_of_ble_eq_true rfl) ?_
  refine g_iconst_1 C dX8_timeOf_55 ?_
  refine g_iload C dX8_timeOf_56 rfl ?_
  refine g_mmax C mm_X8_50 mwI_max.1 mwI_max.2.1 mwI_max.2.2 ⟨Nat.le_of_ble_eq_true rfl, Nat.le_of_ble_eq_true rfl⟩ dX8_timeOf_58 ?_
  exact g_ireturn C hQ dX8_timeOf_61 h
theorem cI_X8_timeOf {l : Launch} {E : Ev} {a : Nat → Nat} {x1 x2 x3 x4 : Int32} {σ : St} {post : Int32 → St → Prop} (h : wpI_X8_timeOf x1 x2 x3 x4 σ post) : CI l E (wI E a) yX8_timeOf cX8_timeOf 7 .int rmI_X8_timeOf [.ref (a 100), .int x1, .int x2, .int x3, .int x4] σ post := met_i (by decide) rfl (Nat.le_of_ble_eq_true rfl) rfl (fun X C hQ => kI_X8_timeOf C hQ _ _ _ _ _ h)
/-! IceRun$Track.setEye(III)V -/
abbrev rmI_X8_setEye : Room := { frames := 0, cells := 0, slots := 0, locals := 0 }
def wpI_X8_setEye (x1 x2 x3 : Int32) (σ : St) (post : St → Prop) : Prop := vp_in ((x1 * 2) + x2) 12 ∧ (let σ1 : St := pA σ 108 (Int32.toNatClampNeg ((x1 * 2) + x2)) x3; post σ1)
theorem kI_X8_setEye {X : Kx} {l : Launch} {E : Ev} {a : Nat → Nat} {post : St → Prop} (C : Cx X l E RX8 cX8_setEye rmI_X8_setEye none) (hQ : QV X (wI E a) post) (x1 x2 x3 : Int32) (σ : St) (h : wpI_X8_setEye x1 x2 x3 σ post) : G X (wI E a) σ 0 [some (.ref (a 100)), some (.int x1), some (.int x2), some (.int x3)] [] := by
  unfold wpI_X8_setEye at h
  refine g_aload_0 C dX8_setEye_0 rfl ?_
  refine fgI_X8_37 C dX8_setEye_1 ?_
  refine g_iload_1 C dX8_setEye_4 rfl ?_
  refine g_iconst_2 C dX8_setEye_5 ?_
  refine g_imul C dX8_setEye_6 ?_
  refine g_iload_2 C dX8_setEye_7 rfl ?_
  refine g_iadd C dX8_setEye_8 ?_
  refine g_iload_3 C dX8_setEye_9 rfl ?_
  obtain ⟨q, h⟩ := h
  refine asI_108 C q dX8_setEye_10 ?_
  exact g_return C hQ dX8_setEye_11 h
theorem cI_X8_setEye {l : Launch} {E : Ev} {a : Nat → Nat} {x1 x2 x3 : Int32} {σ : St} {post : St → Prop} (h : wpI_X8_setEye x1 x2 x3 σ post) : CV l E (wI E a) yX8_setEye cX8_setEye 4 rmI_X8_setEye [.ref (a 100), .int x1, .int x2, .int x3] σ post := met_v (by decide) rfl (Nat.le_of_ble_eq_true rfl) rfl (fun X C hQ => kI_X8_setEye C hQ _ _ _ _ h)
theorem alI_108 {X : Kx} {l : Launch} {E : Ev} {a : Nat → Nat} {σ : St} {cc : ByteArray} {rm : Room} {ret : Option FieldType} {pc : Nat} {lv : List (Option Value)} {st : List Value} {own : String} {i : Int32} (C : Cx X l E own cc rm ret) (hin : vp_in i 12) (d : decode cc pc = .ok (.iaload, 1)) (k : G X (wI E a) σ (pc + 1) lv (.int (σ.2 108 i.toNatClampNeg) :: st)) : G X (wI E a) σ pc lv (.int i :: .ref (a 109) :: st) := g_iald C (q0 := 8) rfl hin d k
theorem lc_X8_53 : Cond.constant RX8 53 (-1000000) ∈ UW := by decide +kernel
/-! IceRun$Track.timeAtGate(II)I -/
abbrev rmI_X8_timeAtGate : Room := { frames := 0, cells := 0, slots := 0, locals := 0 }
def wpI_X8_timeAtGate_47 (s0 : Int32) (σ : St) (post : Int32 → St → Prop) : Prop := post s0 σ
theorem kI_X8_timeAtGate_47 {X : Kx} {l : Launch} {E : Ev} {a : Nat → Nat} {post : Int32 → St → Prop} (C : Cx X l E RX8 cX8_timeAtGate rmI_X8_timeAtGate (some .int)) (hQ : QI X (wI E a) post) (s0 : Int32) (σ : St) (h : wpI_X8_timeAtGate_47  s0 σ post) : G X (wI E a) σ 47 [none, none, none, none, none] [.int s0] := by
  unfold wpI_X8_timeAtGate_47 at h
  exact g_ireturn C hQ dX8_timeAtGate_47 h
def wpI_X8_timeAtGate (x1 x2 : Int32) (σ : St) (post : Int32 → St → Prop) : Prop := vp_in (x1 * 2) 12 ∧ (let y1 : Int32 := (σ.2 108 (Int32.toNatClampNeg (x1 * 2))); vp_in ((x1 * 2) + 1) 12 ∧ (let y2 : Int32 := (σ.2 108 (Int32.toNatClampNeg ((x1 * 2) + 1))); ((y1 = 100 → ((y2 = 100 → wpI_X8_timeAtGate_47 (-1000000) σ post) ∧ (¬ y2 = 100 → wpI_X8_timeAtGate_47 (x2 + y2) σ post))) ∧ (¬ y1 = 100 → post (x2 + y1) σ))))
theorem kI_X8_timeAtGate {X : Kx} {l : Launch} {E : Ev} {a : Nat → Nat} {post : Int32 → St → Prop} (C : Cx X l E RX8 cX8_timeAtGate rmI_X8_timeAtGate (some .int)) (hQ : QI X (wI E a) post) (x1 x2 : Int32) (σ : St) (h : wpI_X8_timeAtGate x1 x2 σ post) : G X (wI E a) σ 0 [some (.ref (a 100)), some (.int x1), some (.int x2), none, none] [] := by
  unfold wpI_X8_timeAtGate at h
  refine g_aload_0 C dX8_timeAtGate_0 rfl ?_
  refine fgI_X8_37 C dX8_timeAtGate_1 ?_
  refine g_iload_1 C dX8_timeAtGate_4 rfl ?_
  refine g_iconst_2 C dX8_timeAtGate_5 ?_
  refine g_imul C dX8_timeAtGate_6 ?_
  obtain ⟨q, h⟩ := h
  refine alI_108 C q dX8_timeAtGate_7 ?_
  refine g_istore_3 C dX8_timeAtGate_8 (Nat.le_of_ble_eq_true rfl) ?_
  refine g_aload_0 C dX8_timeAtGate_9 rfl ?_
  refine fgI_X8_37 C dX8_timeAtGate_10 ?_
  refine g_iload_1 C dX8_timeAtGate_13 rfl ?_
  refine g_iconst_2 C dX8_timeAtGate_14 ?_
  refine g_imul C dX8_timeAtGate_15 ?_
  refine g_iconst_1 C dX8_timeAtGate_16 ?_
  refine g_iadd C dX8_timeAtGate_17 ?_
  obtain ⟨q, h⟩ := h
  refine alI_108 C q dX8_timeAtGate_18 ?_
  refine g_istore C dX8_timeAtGate_19 (Nat.le_of_ble_eq_true rfl) ?_
  refine g_iload_3 C dX8_timeAtGate_21 rfl ?_
  refine g_bipush C (v := 100) (by decide) dX8_timeAtGate_22 ?_
  refine g_icmp_eq C 31 dX8_timeAtGate_24 (by decide) (fun q => ?_) (fun q => ?_)
  · have h := h.1 q
    refine g_iload C dX8_timeAtGate_31 rfl ?_
    refine g_bipush C (v := 100) (by decide) dX8_timeAtGate_33 ?_
    refine g_icmp_eq C 45 dX8_timeAtGate_35 (by decide) (fun q => ?_) (fun q => ?_)
    · have h := h.1 q
      refine g_ldc C lc_X8_53 dX8_timeAtGate_45 ?_
      exact g_wk (kI_X8_timeAtGate_47 C hQ _ _ h) (trivial)
    · have h := h.2 q
      refine g_iload_2 C dX8_timeAtGate_38 rfl ?_
      refine g_iload C dX8_timeAtGate_39 rfl ?_
      refine g_iadd C dX8_timeAtGate_41 ?_
      refine g_goto C 47 dX8_timeAtGate_42 (by decide) ?_
      exact g_wk (kI_X8_timeAtGate_47 C hQ _ _ h) (trivial)
  · have h := h.2 q
    refine g_iload_2 C dX8_timeAtGate_27 rfl ?_
    refine g_iload_3 C dX8_timeAtGate_28 rfl ?_
    refine g_iadd C dX8_timeAtGate_29 ?_
    exact g_ireturn C hQ dX8_timeAtGate_30 h
theorem cI_X8_timeAtGate {l : Launch} {E : Ev} {a : Nat → Nat} {x1 x2 : Int32} {σ : St} {post : Int32 → St → Prop} (h : wpI_X8_timeAtGate x1 x2 σ post) : CI l E (wI E a) yX8_timeAtGate cX8_timeAtGate 5 .int rmI_X8_timeAtGate [.ref (a 100), .int x1, .int x2] σ post := met_i (by decide) rfl (Nat.le_of_ble_eq_true rfl) rfl (fun X C hQ => kI_X8_timeAtGate C hQ _ _ _ h)
theorem mm_X8_54 : Cond.methodLink RX8 54 Lib.Math.abs.name ∈ UW := by decide +kernel
theorem mwI_abs : Cond.static Lib.Math.abs.name ∈ UW ∧ Cond.initialized "java/lang/Math" ∈ UW ∧ Cond.code Lib.Math.abs.name Lib.Math.abs.code 1 (some .int) ∈ UW := ⟨by decide +kernel, by decide +kernel, by decide +kernel⟩
/-! IceRun$Track.doubleAtGate(I)I -/
abbrev rmI_X8_doubleAtGate : Room := { frames := 1, cells := 0, slots := 0, locals := 13 }
def wpI_X8_doubleAtGate_42 (s0 : Int32) (σ : St) (post : Int32 → St → Prop) : Prop := post s0 σ
theorem kI_X8_doubleAtGate_42 {X : Kx} {l : Launch} {E : Ev} {a : Nat → Nat} {post : Int32 → St → Prop} (C : Cx X l E RX8 cX8_doubleAtGate rmI_X8_doubleAtGate (some .int)) (hQ : QI X (wI E a) post) (s0 : Int32) (σ : St) (h : wpI_X8_doubleAtGate_42  s0 σ post) : G X (wI E a) σ 42 [none, none, none, none] [.int s0] := by
  unfold wpI_X8_doubleAtGate_42 at h
  exact g_ireturn C hQ dX8_doubleAtGate_42 h
def wpI_X8_doubleAtGate_32 (σ : St) (post : Int32 → St → Prop) : Prop := wpI_X8_doubleAtGate_42 0 σ post
theorem kI_X8_doubleAtGate_32 {X : Kx} {l : Launch} {E : Ev} {a : Nat → Nat} {post : Int32 → St → Prop} (C : Cx X l E RX8 cX8_doubleAtGate rmI_X8_doubleAtGate (some .int)) (hQ : QI X (wI E a) post) (σ : St) (h : wpI_X8_doubleAtGate_32   σ post) : G X (wI E a) σ 32 [none, none, none, none] [] := by
  unfold wpI_X8_doubleAtGate_32 at h
  refine g_iconst_0 C dX8_doubleAtGate_32 ?_
  refine g_goto C 42 dX8_doubleAtGate_33 (by decide) ?_
  exact g_wk (kI_X8_doubleAtGate_42 C hQ _ _ h) (trivial)
def wpI_X8_doubleAtGate (x1 : Int32) (σ : St) (post : Int32 → St → Prop) : Prop := vp_in (x1 * 2) 12 ∧ (let y1 : Int32 := (σ.2 108 (Int32.toNatClampNeg (x1 * 2))); vp_in ((x1 * 2) + 1) 12 ∧ (let y2 : Int32 := (σ.2 108 (Int32.toNatClampNeg ((x1 * 2) + 1))); ((y1 = 100 → wpI_X8_doubleAtGate_32 σ post) ∧ (¬ y1 = 100 → ((¬ y2 = 100 → let y3 : Int32 := (if 0 ≤ (y1 - y2) then (y1 - y2) else 0 - (y1 - y2)); wpI_X8_doubleAtGate_42 y3 σ post) ∧ (y2 = 100 → wpI_X8_doubleAtGate_32 σ post))))))
theorem kI_X8_doubleAtGate {X : Kx} {l : Launch} {E : Ev} {a : Nat → Nat} {post : Int32 → St → Prop} (C : Cx X l E RX8 cX8_doubleAtGate rmI_X8_doubleAtGate (some .int)) (hQ : QI X (wI E a) post) (x1 : Int32) (σ : St) (h : wpI_X8_doubleAtGate x1 σ post) : G X (wI E a) σ 0 [some (.ref (a 100)), some (.int x1), none, none] [] := by
  unfold wpI_X8_doubleAtGate at h
  refine g_aload_0 C dX8_doubleAtGate_0 rfl ?_
  refine fgI_X8_37 C dX8_doubleAtGate_1 ?_
  refine g_iload_1 C dX8_doubleAtGate_4 rfl ?_
  refine g_iconst_2 C dX8_doubleAtGate_5 ?_
  refine g_imul C dX8_doubleAtGate_6 ?_
  obtain ⟨q, h⟩ := h
  refine alI_108 C q dX8_doubleAtGate_7 ?_
  refine g_istore_2 C dX8_doubleAtGate_8 (Nat.le_of_ble_eq_true rfl) ?_
  refine g_aload_0 C dX8_doubleAtGate_9 rfl ?_
  refine fgI_X8_37 C dX8_doubleAtGate_10 ?_
  refine g_iload_1 C dX8_doubleAtGate_13 rfl ?_
  refine g_iconst_2 C dX8_doubleAtGate_14 ?_
  refine g_imul C dX8_doubleAtGate_15 ?_
  refine g_iconst_1 C dX8_doubleAtGate_16 ?_
  refine g_iadd C dX8_doubleAtGate_17 ?_
  obtain ⟨q, h⟩ := h
  refine alI_108 C q dX8_doubleAtGate_18 ?_
  refine g_istore_3 C dX8_doubleAtGate_19 (Nat.le_of_ble_eq_true rfl) ?_
  refine g_iload_2 C dX8_doubleAtGate_20 rfl ?_
  refine g_bipush C (v := 100) (by decide) dX8_doubleAtGate_21 ?_
  refine g_icmp_eq C 32 dX8_doubleAtGate_23 (by decide) (fun q => ?_) (fun q => ?_)
  · have h := h.1 q
    exact g_wk (kI_X8_doubleAtGate_32 C hQ _ h) (trivial)
  · have h := h.2 q
    refine g_iload_3 C dX8_doubleAtGate_26 rfl ?_
    refine g_bipush C (v := 100) (by decide) dX8_doubleAtGate_27 ?_
    refine g_icmp_ne C 36 dX8_doubleAtGate_29 (by decide) (fun q => ?_) (fun q => ?_)
    · have h := h.1 q
      refine g_iload_2 C dX8_doubleAtGate_36 rfl ?_
      refine g_iload_3 C dX8_doubleAtGate_37 rfl ?_
      refine g_isub C dX8_doubleAtGate_38 ?_
      refine g_mabs C mm_X8_54 mwI_abs.1 mwI_abs.2.1 mwI_abs.2.2 ⟨Nat.le_of_ble_eq_true rfl, Nat.le_of_ble_eq_true rfl⟩ dX8_doubleAtGate_39 ?_
      exact g_wk (kI_X8_doubleAtGate_42 C hQ _ _ h) (trivial)
    · have h := h.2 q
      exact g_wk (kI_X8_doubleAtGate_32 C hQ _ h) (trivial)
theorem cI_X8_doubleAtGate {l : Launch} {E : Ev} {a : Nat → Nat} {x1 : Int32} {σ : St} {post : Int32 → St → Prop} (h : wpI_X8_doubleAtGate x1 σ post) : CI l E (wI E a) yX8_doubleAtGate cX8_doubleAtGate 4 .int rmI_X8_doubleAtGate [.ref (a 100), .int x1] σ post := met_i (by decide) rfl (Nat.le_of_ble_eq_true rfl) rfl (fun X C hQ => kI_X8_doubleAtGate C hQ _ _ h)
theorem csI_X10_62 {X : Kx} {l : Launch} {E : Ev} {a : Nat → Nat} {σ : St} {cc : ByteArray} {rm : Room} {ret : Option FieldType} {pc : Nat} {lv : List (Option Value)} {rest : List Value} {x0 x1 x2 : Int32} {post : Int32 → St → Prop} (C : Cx X l E RX10 cc rm ret) (h : wpI_X10_within x0 x1 x2 σ post) (hR : 0 + 1 ≤ rm.frames ∧ 8 + (3 + 11) + 0 ≤ rm.locals) (hW : (rest.map fun v => v.category).sum ≤ 8) (d : decode cc pc = .ok (.invokestatic 62, 3)) (k : ∀ (r : Int32) (u : St), post r u → G X (wI E a) u (pc + 3) lv (.int r :: rest)) : G X (wI E a) σ pc lv (.int x2 :: .int x1 :: .int x0 :: rest) := g_callSi C 3 (As := [.int x0, .int x1, .int x2]) (rest := rest) (by decide +kernel) (by decide +kernel) (by decide +kernel) (by decide +kernel) (by decide +kernel) (cI_X10_within h) ⟨rfl, rfl⟩ hR rfl rfl hW d k
theorem fgI_X10_47 {X : Kx} {l : Launch} {E : Ev} {a : Nat → Nat} {σ : St} {cc : ByteArray} {rm : Room} {ret : Option FieldType} {pc : Nat} {lv : List (Option Value)} {st : List Value} (C : Cx X l E RX10 cc rm ret) (d : decode cc pc = .ok (.getfield 47, 3)) (k : G X (wI E a) σ (pc + 3) lv (.ref (a 700) :: st)) : G X (wI E a) σ pc lv (.ref (a 0) :: st) := g_get C (q0 := 0) (ci := 9) (k := 5) rfl rfl inU_X10 (by decide) (by decide +kernel) rfl d k
theorem fgI_X10_66 {X : Kx} {l : Launch} {E : Ev} {a : Nat → Nat} {σ : St} {cc : ByteArray} {rm : Room} {ret : Option FieldType} {pc : Nat} {lv : List (Option Value)} {st : List Value} (C : Cx X l E RX10 cc rm ret) (d : decode cc pc = .ok (.getfield 66, 3)) (k : G X (wI E a) σ (pc + 3) lv (.int (σ.1 700) :: st)) : G X (wI E a) σ pc lv (.ref (a 700) :: st) := g_getN C (host := "IceRun") (q0 := 29) (ci := 2) (k := 0) rfl rfl inU_X2 (by decide) (by decide +kernel) rfl d k
theorem fgI_X10_10 {X : Kx} {l : Launch} {E : Ev} {a : Nat → Nat} {σ : St} {cc : ByteArray} {rm : Room} {ret : Option FieldType} {pc : Nat} {lv : List (Option Value)} {st : List Value} (C : Cx X l E RX10 cc rm ret) (d : decode cc pc = .ok (.getfield 10, 3)) (k : G X (wI E a) σ (pc + 3) lv (.ref (a 100) :: st)) : G X (wI E a) σ pc lv (.ref (a 0) :: st) := g_get C (q0 := 0) (ci := 9) (k := 0) rfl rfl inU_X10 (by decide) (by decide +kernel) rfl d k
theorem csI_X10_70 {X : Kx} {l : Launch} {E : Ev} {a : Nat → Nat} {σ : St} {cc : ByteArray} {rm : Room} {ret : Option FieldType} {pc : Nat} {lv : List (Option Value)} {rest : List Value} {x0 x1 : Int32} {post : St → Prop} (C : Cx X l E RX10 cc rm ret) (h : wpI_X8_makeAnew x0 x1 σ post) (hR : 0 + 1 ≤ rm.frames ∧ 8 + (4 + 11) + 0 ≤ rm.locals) (hW : (rest.map fun v => v.category).sum ≤ 8) (d : decode cc pc = .ok (.invokevirtual 70, 3)) (k : ∀ u : St, post u → G X (wI E a) u (pc + 3) lv rest) : G X (wI E a) σ pc lv (.int x1 :: .int x0 :: .ref (a 100) :: rest) := g_callVv C 2 (As := [.int x0, .int x1]) (rest := rest) (Cn := RX8) (T := TX8) (N := 9) (q0 := 1) (ci := 8) (by decide +kernel) (by decide +kernel) (by decide +kernel) (by decide +kernel) (by decide +kernel) (by decide +kernel) rfl rfl (cI_X8_makeAnew h) ⟨rfl, rfl⟩ hR rfl rfl hW d k
/-! IceRun.track(II)Z -/
abbrev rmI_X10_track : Room := { frames := 1, cells := 0, slots := 0, locals := 23 }
def wpI_X10_track_30 (σ : St) (post : Int32 → St → Prop) : Prop := post 0 σ
theorem kI_X10_track_30 {X : Kx} {l : Launch} {E : Ev} {a : Nat → Nat} {post : Int32 → St → Prop} (C : Cx X l E RX10 cX10_track rmI_X10_track (some .boolean)) (hQ : QI X (wI E a) post) (σ : St) (h : wpI_X10_track_30   σ post) : G X (wI E a) σ 30 [none, none, none] [] := by
  unfold wpI_X10_track_30 at h
  refine g_iconst_0 C dX10_track_30 ?_
  exact g_zreturn C hQ dX10_track_31 (Or.inl rfl) h
def wpI_X10_track (x1 x2 : Int32) (σ : St) (post : Int32 → St → Prop) : Prop := wpI_X10_within x1 5 40 σ (fun r2 σ1 => ((r2 = 0 → wpI_X10_track_30 σ1 post) ∧ (¬ r2 = 0 → wpI_X10_within x2 2 6 σ1 (fun r4 σ3 => ((r4 = 0 → wpI_X10_track_30 σ3 post) ∧ (¬ r4 = 0 → (((σ3.1 700) = 0 → wpI_X8_makeAnew x1 x2 σ3 (fun σ5 => post 1 σ5)) ∧ (¬ (σ3.1 700) = 0 → wpI_X10_track_30 σ3 post))))))))
theorem kI_X10_track {X : Kx} {l : Launch} {E : Ev} {a : Nat → Nat} {post : Int32 → St → Prop} (C : Cx X l E RX10 cX10_track rmI_X10_track (some .boolean)) (hQ : QI X (wI E a) post) (x1 x2 : Int32) (σ : St) (h : wpI_X10_track x1 x2 σ post) : G X (wI E a) σ 0 [some (.ref (a 0)), some (.int x1), some (.int x2)] [] := by
  unfold wpI_X10_track at h
  refine g_iload_1 C dX10_track_0 rfl ?_
  refine g_iconst_5 C dX10_track_1 ?_
  refine g_bipush C (v := 40) (by decide) dX10_track_2 ?_
  refine csI_X10_62 C h ⟨Nat.le_of_ble_eq_true rfl, Nat.le_of_ble_eq_true rfl⟩ (Nat.le_of_ble_eq_true rfl) dX10_track_4 (fun _ _ h => ?_)
  refine g_if_eq C 30 dX10_track_7 (by decide) (fun q => ?_) (fun q => ?_)
  · have h := h.1 q
    exact g_wk (kI_X10_track_30 C hQ _ h) (trivial)
  · have h := h.2 q
    refine g_iload_2 C dX10_track_10 rfl ?_
    refine g_iconst_2 C dX10_track_11 ?_
    refine g_bipush C (v := 6) (by decide) dX10_track_12 ?_
    refine csI_X10_62 C h ⟨Nat.le_of_ble_eq_true rfl, Nat.le_of_ble_eq_true rfl⟩ (Nat.le_of_ble_eq_true rfl) dX10_track_14 (fun _ _ h => ?_)
    refine g_if_eq C 30 dX10_track_17 (by decide) (fun q => ?_) (fun q => ?_)
    · have h := h.1 q
      exact g_wk (kI_X10_track_30 C hQ _ h) (trivial)
    · have h := h.2 q
      refine g_aload_0 C dX10_track_20 rfl ?_
      refine fgI_X10_47 C dX10_track_21 ?_
      refine fgI_X10_66 C dX10_track_24 ?_
      refine g_if_eq C 32 dX10_track_27 (by decide) (fun q => ?_) (fun q => ?_)
      · have h := h.1 q
        refine g_aload_0 C dX10_track_32 rfl ?_
        refine fgI_X10_10 C dX10_track_33 ?_
        refine g_iload_1 C dX10_track_36 rfl ?_
        refine g_iload_2 C dX10_track_37 rfl ?_
        refine csI_X10_70 C h ⟨Nat.le_of_ble_eq_true rfl, Nat.le_of_ble_eq_true rfl⟩ (Nat.le_of_ble_eq_true rfl) dX10_track_38 (fun _ h => ?_)
        refine g_iconst_1 C dX10_track_41 ?_
        exact g_zreturn C hQ dX10_track_42 (Or.inr rfl) h
      · have h := h.2 q
        exact g_wk (kI_X10_track_30 C hQ _ h) (trivial)
theorem cI_X10_track {l : Launch} {E : Ev} {a : Nat → Nat} {x1 x2 : Int32} {σ : St} {post : Int32 → St → Prop} (h : wpI_X10_track x1 x2 σ post) : CI l E (wI E a) yX10_track cX10_track 3 .boolean rmI_X10_track [.ref (a 0), .int x1, .int x2] σ post := met_i (by decide) rfl (Nat.le_of_ble_eq_true rfl) rfl (fun X C hQ => kI_X10_track C hQ _ _ _ h)
theorem csI_X10_74 {X : Kx} {l : Launch} {E : Ev} {a : Nat → Nat} {σ : St} {cc : ByteArray} {rm : Room} {ret : Option FieldType} {pc : Nat} {lv : List (Option Value)} {rest : List Value} {x0 : Int32} {post : Int32 → St → Prop} (C : Cx X l E RX10 cc rm ret) (h : wpI_X8_hasCell x0 σ post) (hR : 1 + 1 ≤ rm.frames ∧ 8 + (2 + 11) + 22 ≤ rm.locals) (hW : (rest.map fun v => v.category).sum ≤ 8) (d : decode cc pc = .ok (.invokevirtual 74, 3)) (k : ∀ (r : Int32) (u : St), post r u → G X (wI E a) u (pc + 3) lv (.int r :: rest)) : G X (wI E a) σ pc lv (.int x0 :: .ref (a 100) :: rest) := g_callVi C 1 (As := [.int x0]) (rest := rest) (Cn := RX8) (T := TX8) (N := 9) (q0 := 1) (ci := 8) (by decide +kernel) (by decide +kernel) (by decide +kernel) (by decide +kernel) (by decide +kernel) (by decide +kernel) rfl rfl (cI_X8_hasCell h) ⟨rfl, rfl⟩ hR rfl rfl hW d k
theorem fgI_X10_78 {X : Kx} {l : Launch} {E : Ev} {a : Nat → Nat} {σ : St} {cc : ByteArray} {rm : Room} {ret : Option FieldType} {pc : Nat} {lv : List (Option Value)} {st : List Value} (C : Cx X l E RX10 cc rm ret) (d : decode cc pc = .ok (.getfield 78, 3)) (k : G X (wI E a) σ (pc + 3) lv (.int (σ.1 702) :: st)) : G X (wI E a) σ pc lv (.ref (a 700) :: st) := g_getN C (host := "IceRun") (q0 := 29) (ci := 2) (k := 2) rfl rfl inU_X2 (by decide) (by decide +kernel) rfl d k
theorem csI_X10_81 {X : Kx} {l : Launch} {E : Ev} {a : Nat → Nat} {σ : St} {cc : ByteArray} {rm : Room} {ret : Option FieldType} {pc : Nat} {lv : List (Option Value)} {rest : List Value} {x0 x1 x2 x3 : Int32} {post : St → Prop} (C : Cx X l E RX10 cc rm ret) (h : wpI_X8_shape x0 x1 x2 x3 σ post) (hR : 0 + 1 ≤ rm.frames ∧ 8 + (5 + 11) + 0 ≤ rm.locals) (hW : (rest.map fun v => v.category).sum ≤ 8) (d : decode cc pc = .ok (.invokevirtual 81, 3)) (k : ∀ u : St, post u → G X (wI E a) u (pc + 3) lv rest) : G X (wI E a) σ pc lv (.int x3 :: .int x2 :: .int x1 :: .int x0 :: .ref (a 100) :: rest) := g_callVv C 4 (As := [.int x0, .int x1, .int x2, .int x3]) (rest := rest) (Cn := RX8) (T := TX8) (N := 9) (q0 := 1) (ci := 8) (by decide +kernel) (by decide +kernel) (by decide +kernel) (by decide +kernel) (by decide +kernel) (by decide +kernel) rfl rfl (cI_X8_shape h) ⟨rfl, rfl⟩ hR rfl rfl hW d k
/-! IceRun.bend(IIII)Z -/
abbrev rmI_X10_bend : Room := { frames := 2, cells := 0, slots := 0, locals := 43 }
def wpI_X10_bend_67 (σ : St) (post : Int32 → St → Prop) : Prop := post 0 σ
theorem kI_X10_bend_67 {X : Kx} {l : Launch} {E : Ev} {a : Nat → Nat} {post : Int32 → St → Prop} (C : Cx X l E RX10 cX10_bend rmI_X10_bend (some .boolean)) (hQ : QI X (wI E a) post) (σ : St) (h : wpI_X10_bend_67   σ post) : G X (wI E a) σ 67 [none, none, none, none, none, none] [] := by
  unfold wpI_X10_bend_67 at h
  refine g_iconst_0 C dX10_bend_67 ?_
  exact g_zreturn C hQ dX10_bend_68 (Or.inl rfl) h
def wpI_X10_bend_38 (x1 x2 x3 x4 s0 : Int32) (σ : St) (post : Int32 → St → Prop) : Prop := ((s0 = 0 → wpI_X10_bend_67 σ post) ∧ (¬ s0 = 0 → wpI_X8_hasCell x1 σ (fun r2 σ1 => ((r2 = 0 → wpI_X10_bend_67 σ1 post) ∧ (¬ r2 = 0 → (((σ1.1 702) = (-1) → wpI_X8_shape x1 x2 x3 x4 σ1 (fun σ3 => post 1 σ3)) ∧ (¬ (σ1.1 702) = (-1) → wpI_X10_bend_67 σ1 post)))))))
theorem kI_X10_bend_38 {X : Kx} {l : Launch} {E : Ev} {a : Nat → Nat} {post : Int32 → St → Prop} (C : Cx X l E RX10 cX10_bend rmI_X10_bend (some .boolean)) (hQ : QI X (wI E a) post) (x1 x2 x3 x4 s0 : Int32) (σ : St) (h : wpI_X10_bend_38  x1 x2 x3 x4 s0 σ post) : G X (wI E a) σ 38 [some (.ref (a 0)), some (.int x1), some (.int x2), some (.int x3), some (.int x4), none] [.int s0] := by
  unfold wpI_X10_bend_38 at h
  refine g_istore C dX10_bend_38 (Nat.le_of_ble_eq_true rfl) ?_
  refine g_iload C dX10_bend_40 rfl ?_
  refine g_if_eq C 67 dX10_bend_42 (by decide) (fun q => ?_) (fun q => ?_)
  · have h := h.1 q
    exact g_wk (kI_X10_bend_67 C hQ _ h) (trivial)
  · have h := h.2 q
    refine g_aload_0 C dX10_bend_45 rfl ?_
    refine fgI_X10_10 C dX10_bend_46 ?_
    refine g_iload_1 C dX10_bend_49 rfl ?_
    refine csI_X10_74 C h ⟨Nat.le_of_ble_eq_true rfl, Nat.le_of_ble_eq_true rfl⟩ (Nat.le_of_ble_eq_true rfl) dX10_bend_50 (fun _ _ h => ?_)
    refine g_if_eq C 67 dX10_bend_53 (by decide) (fun q => ?_) (fun q => ?_)
    · have h := h.1 q
      exact g_wk (kI_X10_bend_67 C hQ _ h) (trivial)
    · have h := h.2 q
      refine g_aload_0 C dX10_bend_56 rfl ?_
      refine fgI_X10_47 C dX10_bend_57 ?_
      refine fgI_X10_78 C dX10_bend_60 ?_
      refine g_iconst_m1 C dX10_bend_63 ?_
      refine g_icmp_eq C 69 dX10_bend_64 (by decide) (fun q => ?_) (fun q => ?_)
      · have h := h.1 q
        refine g_aload_0 C dX10_bend_69 rfl ?_
        refine fgI_X10_10 C dX10_bend_70 ?_
        refine g_iload_1 C dX10_bend_73 rfl ?_
        refine g_iload_2 C dX10_bend_74 rfl ?_
        refine g_iload_3 C dX10_bend_75 rfl ?_
        refine g_iload C dX10_bend_76 rfl ?_
        refine csI_X10_81 C h ⟨Nat.le_of_ble_eq_true rfl, Nat.le_of_ble_eq_true rfl⟩ (Nat.le_of_ble_eq_true rfl) dX10_bend_78 (fun _ h => ?_)
        refine g_iconst_1 C dX10_bend_81 ?_
        exact g_zreturn C hQ dX10_bend_82 (Or.inr rfl) h
      · have h := h.2 q
        exact g_wk (kI_X10_bend_67 C hQ _ h) (trivial)
def wpI_X10_bend_37 (x1 x2 x3 x4 : Int32) (σ : St) (post : Int32 → St → Prop) : Prop := wpI_X10_bend_38 x1 x2 x3 x4 0 σ post
theorem kI_X10_bend_37 {X : Kx} {l : Launch} {E : Ev} {a : Nat → Nat} {post : Int32 → St → Prop} (C : Cx X l E RX10 cX10_bend rmI_X10_bend (some .boolean)) (hQ : QI X (wI E a) post) (x1 x2 x3 x4 : Int32) (σ : St) (h : wpI_X10_bend_37  x1 x2 x3 x4 σ post) : G X (wI E a) σ 37 [some (.ref (a 0)), some (.int x1), some (.int x2), some (.int x3), some (.int x4), none] [] := by
  unfold wpI_X10_bend_37 at h
  refine g_iconst_0 C dX10_bend_37 ?_
  exact g_wk (kI_X10_bend_38 C hQ _ _ _ _ _ _ h) (And.intro rfl (And.intro rfl (And.intro rfl (And.intro rfl (And.intro rfl (trivial))))))
def wpI_X10_bend (x1 x2 x3 x4 : Int32) (σ : St) (post : Int32 → St → Prop) : Prop := wpI_X10_within x2 50 500 σ (fun r2 σ1 => ((r2 = 0 → wpI_X10_bend_37 x1 x2 x3 x4 σ1 post) ∧ (¬ r2 = 0 → wpI_X10_within x3 0 9 σ1 (fun r4 σ3 => ((r4 = 0 → wpI_X10_bend_37 x1 x2 x3 x4 σ3 post) ∧ (¬ r4 = 0 → wpI_X10_within x4 0 9 σ3 (fun r6 σ5 => ((r6 = 0 → wpI_X10_bend_37 x1 x2 x3 x4 σ5 post) ∧ (¬ r6 = 0 → wpI_X10_bend_38 x1 x2 x3 x4 1 σ5 post)))))))))
theorem kI_X10_bend {X : Kx} {l : Launch} {E : Ev} {a : Nat → Nat} {post : Int32 → St → Prop} (C : Cx X l E RX10 cX10_bend rmI_X10_bend (some .boolean)) (hQ : QI X (wI E a) post) (x1 x2 x3 x4 : Int32) (σ : St) (h : wpI_X10_bend x1 x2 x3 x4 σ post) : G X (wI E a) σ 0 [some (.ref (a 0)), some (.int x1), some (.int x2), some (.int x3), some (.int x4), none] [] := by
  unfold wpI_X10_bend at h
  refine g_iload_2 C dX10_bend_0 rfl ?_
  refine g_bipush C (v := 50) (by decide) dX10_bend_1 ?_
  refine g_sipush C (v := 500) (by decide) dX10_bend_3 ?_
  refine csI_X10_62 C h ⟨Nat.le_of_ble_eq_true rfl, Nat.le_of_ble_eq_true rfl⟩ (Nat.le_of_ble_eq_true rfl) dX10_bend_6 (fun _ _ h => ?_)
  refine g_if_eq C 37 dX10_bend_9 (by decide) (fun q => ?_) (fun q => ?_)
  · have h := h.1 q
    exact g_wk (kI_X10_bend_37 C hQ _ _ _ _ _ h) (And.intro rfl (And.intro rfl (And.intro rfl (And.intro rfl (And.intro rfl (trivial))))))
  · have h := h.2 q
    refine g_iload_3 C dX10_bend_12 rfl ?_
    refine g_iconst_0 C dX10_bend_13 ?_
    refine g_bipush C (v := 9) (by decide) dX10_bend_14 ?_
    refine csI_X10_62 C h ⟨Nat.le_of_ble_eq_true rfl, Nat.le_of_ble_eq_true rfl⟩ (Nat.le_of_ble_eq_true rfl) dX10_bend_16 (fun _ _ h => ?_)
    refine g_if_eq C 37 dX10_bend_19 (by decide) (fun q => ?_) (fun q => ?_)
    · have h := h.1 q
      exact g_wk (kI_X10_bend_37 C hQ _ _ _ _ _ h) (And.intro rfl (And.intro rfl (And.intro rfl (And.intro rfl (And.intro rfl (trivial))))))
    · have h := h.2 q
      refine g_iload C dX10_bend_22 rfl ?_
      refine g_iconst_0 C dX10_bend_24 ?_
      refine g_bipush C (v := 9) (by decide) dX10_bend_25 ?_
      refine csI_X10_62 C h ⟨Nat.le_of_ble_eq_true rfl, Nat.le_of_ble_eq_true rfl⟩ (Nat.le_of_ble_eq_true rfl) dX10_bend_27 (fun _ _ h => ?_)
      refine g_if_eq C 37 dX10_bend_30 (by decide) (fun q => ?_) (fun q => ?_)
      · have h := h.1 q
        exact g_wk (kI_X10_bend_37 C hQ _ _ _ _ _ h) (And.intro rfl (And.intro rfl (And.intro rfl (And.intro rfl (And.intro rfl (trivial))))))
      · have h := h.2 q
        refine g_iconst_1 C dX10_bend_33 ?_
        refine g_goto C 38 dX10_bend_34 (by decide) ?_
        exact g_wk (kI_X10_bend_38 C hQ _ _ _ _ _ _ h) (And.intro rfl (And.intro rfl (And.intro rfl (And.intro rfl (And.intro rfl (trivial))))))
theorem cI_X10_bend {l : Launch} {E : Ev} {a : Nat → Nat} {x1 x2 x3 x4 : Int32} {σ : St} {post : Int32 → St → Prop} (h : wpI_X10_bend x1 x2 x3 x4 σ post) : CI l E (wI E a) yX10_bend cX10_bend 6 .boolean rmI_X10_bend [.ref (a 0), .int x1, .int x2, .int x3, .int x4] σ post := met_i (by decide) rfl (Nat.le_of_ble_eq_true rfl) rfl (fun X C hQ => kI_X10_bend C hQ _ _ _ _ _ h)
theorem fgI_X10_19 {X : Kx} {l : Launch} {E : Ev} {a : Nat → Nat} {σ : St} {cc : ByteArray} {rm : Room} {ret : Option FieldType} {pc : Nat} {lv : List (Option Value)} {st : List Value} (C : Cx X l E RX10 cc rm ret) (d : decode cc pc = .ok (.getfield 19, 3)) (k : G X (wI E a) σ (pc + 3) lv (.ref (a 200) :: st)) : G X (wI E a) σ pc lv (.ref (a 0) :: st) := g_get C (q0 := 0) (ci := 9) (k := 1) rfl rfl inU_X10 (by decide) (by decide +kernel) rfl d k
theorem csI_X10_85 {X : Kx} {l : Launch} {E : Ev} {a : Nat → Nat} {σ : St} {cc : ByteArray} {rm : Room} {ret : Option FieldType} {pc : Nat} {lv : List (Option Value)} {rest : List Value} {x0 x1 x2 x3 x4 : Int32} {post : St → Prop} (C : Cx X l E RX10 cc rm ret) (h : wpI_X3_makeRow x0 x1 x2 x3 x4 σ post) (hR : 1 + 1 ≤ rm.frames ∧ 8 + (7 + 11) + 21 ≤ rm.locals) (hW : (rest.map fun v => v.category).sum ≤ 8) (d : decode cc pc = .ok (.invokevirtual 85, 3)) (k : ∀ u : St, post u → G X (wI E a) u (pc + 3) lv rest) : G X (wI E a) σ pc lv (.int x4 :: .int x3 :: .int x2 :: .int x1 :: .int x0 :: .ref (a 200) :: rest) := g_callVv C 5 (As := [.int x0, .int x1, .int x2, .int x3, .int x4]) (rest := rest) (Cn := RX3) (T := TX3) (N := 3) (q0 := 9) (ci := 3) (by decide +kernel) (by decide +kernel) (by decide +kernel) (by decide +kernel) (by decide +kernel) (by decide +kernel) rfl rfl (cI_X3_makeRow h) ⟨rfl, rfl⟩ hR rfl rfl hW d k
/-! IceRun.runners(IIIII)Z -/
abbrev rmI_X10_runners : Room := { frames := 2, cells := 0, slots := 0, locals := 47 }
def wpI_X10_runners_18 (σ : St) (post : Int32 → St → Prop) : Prop := post 0 σ
theorem kI_X10_runners_18 {X : Kx} {l : Launch} {E : Ev} {a : Nat → Nat} {post : Int32 → St → Prop} (C : Cx X l E RX10 cX10_runners rmI_X10_runners (some .boolean)) (hQ : QI X (wI E a) post) (σ : St) (h : wpI_X10_runners_18   σ post) : G X (wI E a) σ 18 [none, none, none, none, none, none] [] := by
  unfold wpI_X10_runners_18 at h
  refine g_iconst_0 C dX10_runners_18 ?_
  exact g_zreturn C hQ dX10_runners_19 (Or.inl rfl) h
def wpI_X10_runners_35 (σ : St) (post : Int32 → St → Prop) : Prop := post 0 σ
theorem kI_X10_runners_35 {X : Kx} {l : Launch} {E : Ev} {a : Nat → Nat} {post : Int32 → St → Prop} (C : Cx X l E RX10 cX10_runners rmI_X10_runners (some .boolean)) (hQ : QI X (wI E a) post) (σ : St) (h : wpI_X10_runners_35   σ post) : G X (wI E a) σ 35 [none, none, none, none, none, none] [] := by
  unfold wpI_X10_runners_35 at h
  refine g_iconst_0 C dX10_runners_35 ?_
  exact g_zreturn C hQ dX10_runners_36 (Or.inl rfl) h
def wpI_X10_runners_37 (x1 x2 x3 x4 x5 : Int32) (σ : St) (post : Int32 → St → Prop) : Prop := wpI_X3_makeRow x1 x2 x3 x4 x5 σ (fun σ1 => post 1 σ1)
theorem kI_X10_runners_37 {X : Kx} {l : Launch} {E : Ev} {a : Nat → Nat} {post : Int32 → St → Prop} (C : Cx X l E RX10 cX10_runners rmI_X10_runners (some .boolean)) (hQ : QI X (wI E a) post) (x1 x2 x3 x4 x5 : Int32) (σ : St) (h : wpI_X10_runners_37  x1 x2 x3 x4 x5 σ post) : G X (wI E a) σ 37 [some (.ref (a 0)), some (.int x1), some (.int x2), some (.int x3), some (.int x4), some (.int x5)] [] := by
  unfold wpI_X10_runners_37 at h
  refine g_aload_0 C dX10_runners_37 rfl ?_
  refine fgI_X10_19 C dX10_runners_38 ?_
  refine g_iload_1 C dX10_runners_41 rfl ?_
  refine g_iload_2 C dX10_runners_42 rfl ?_
  refine g_iload_3 C dX10_runners_43 rfl ?_
  refine g_iload C dX10_runners_44 rfl ?_
  refine g_iload C dX10_runners_46 rfl ?_
  refine csI_X10_85 C h ⟨Nat.le_of_ble_eq_true rfl, Nat.le_of_ble_eq_true rfl⟩ (Nat.le_of_ble_eq_true rfl) dX10_runners_48 (fun _ h => ?_)
  refine g_iconst_1 C dX10_runners_51 ?_
  exact g_zreturn C hQ dX10_runners_52 (Or.inr rfl) h
def wpI_X10_runners (x1 x2 x3 x4 x5 : Int32) (σ : St) (post : Int32 → St → Prop) : Prop := wpI_X10_within x1 0 3 σ (fun r2 σ1 => ((r2 = 0 → wpI_X10_runners_18 σ1 post) ∧ (¬ r2 = 0 → wpI_X10_within x2 0 3 σ1 (fun r4 σ3 => ((¬ r4 = 0 → ((9 < x3 → wpI_X10_runners_35 σ3 post) ∧ (¬ 9 < x3 → ((x2 = 3 → wpI_X10_runners_37 x1 x2 x3 x4 x5 σ3 post) ∧ (¬ x2 = 3 → ((0 ≤ x3 → wpI_X10_runners_37 x1 x2 x3 x4 x5 σ3 post) ∧ (¬ 0 ≤ x3 → wpI_X10_runners_35 σ3 post))))))) ∧ (r4 = 0 → wpI_X10_runners_18 σ3 post))))))
theorem kI_X10_runners {X : Kx} {l : Launch} {E : Ev} {a : Nat → Nat} {post : Int32 → St → Prop} (C : Cx X l E RX10 cX10_runners rmI_X10_runners (some .boolean)) (hQ : QI X (wI E a) post) (x1 x2 x3 x4 x5 : Int32) (σ : St) (h : wpI_X10_runners x1 x2 x3 x4 x5 σ post) : G X (wI E a) σ 0 [some (.ref (a 0)), some (.int x1), some (.int x2), some (.int x3), some (.int x4), some (.int x5)] [] := by
  unfold wpI_X10_runners at h
  refine g_iload_1 C dX10_runners_0 rfl ?_
  refine g_iconst_0 C dX10_runners_1 ?_
  refine g_iconst_3 C dX10_runners_2 ?_
  refine csI_X10_62 C h ⟨Nat.le_of_ble_eq_true rfl, Nat.le_of_ble_eq_true rfl⟩ (Nat.le_of_ble_eq_true rfl) dX10_runners_3 (fun _ _ h => ?_)
  refine g_if_eq C 18 dX10_runners_6 (by decide) (fun q => ?_) (fun q => ?_)
  · have h := h.1 q
    exact g_wk (kI_X10_runners_18 C hQ _ h) (trivial)
  · have h := h.2 q
    refine g_iload_2 C dX10_runners_9 rfl ?_
    refine g_iconst_0 C dX10_runners_10 ?_
    refine g_iconst_3 C dX10_runners_11 ?_
    refine csI_X10_62 C h ⟨Nat.le_of_ble_eq_true rfl, Nat.le_of_ble_eq_true rfl⟩ (Nat.le_of_ble_eq_true rfl) dX10_runners_12 (fun _ _ h => ?_)
    refine g_if_ne C 20 dX10_runners_15 (by decide) (fun q => ?_) (fun q => ?_)
    · have h := h.1 q
      refine g_iload_3 C dX10_runners_20 rfl ?_
      refine g_bipush C (v := 9) (by decide) dX10_runners_21 ?_
      refine g_icmp_gt C 35 dX10_runners_23 (by decide) (fun q => ?_) (fun q => ?_)
      · have h := h.1 q
        exact g_wk (kI_X10_runners_35 C hQ _ h) (trivial)
      · have h := h.2 q
        refine g_iload_2 C dX10_runners_26 rfl ?_
        refine g_iconst_3 C dX10_runners_27 ?_
        refine g_icmp_eq C 37 dX10_runners_28 (by decide) (fun q => ?_) (fun q => ?_)
        · have h := h.1 q
          exact g_wk (kI_X10_runners_37 C hQ _ _ _ _ _ _ h) (And.intro rfl (And.intro rfl (And.intro rfl (And.intro rfl (And.intro rfl (And.intro rfl (trivial)))))))
        · have h := h.2 q
          refine g_iload_3 C dX10_runners_31 rfl ?_
          refine g_if_ge C 37 dX10_runners_32 (by decide) (fun q => ?_) (fun q => ?_)
          · have h := h.1 q
            exact g_wk (kI_X10_runners_37 C hQ _ _ _ _ _ _ h) (And.intro rfl (And.intro rfl (And.intro rfl (And.intro rfl (And.intro rfl (And.intro rfl (trivial)))))))
          · have h := h.2 q
            exact g_wk (kI_X10_runners_35 C hQ _ h) (trivial)
    · have h := h.2 q
      exact g_wk (kI_X10_runners_18 C hQ _ h) (trivial)
theorem cI_X10_runners {l : Launch} {E : Ev} {a : Nat → Nat} {x1 x2 x3 x4 x5 : Int32} {σ : St} {post : Int32 → St → Prop} (h : wpI_X10_runners x1 x2 x3 x4 x5 σ post) : CI l E (wI E a) yX10_runners cX10_runners 6 .boolean rmI_X10_runners [.ref (a 0), .int x1, .int x2, .int x3, .int x4, .int x5] σ post := met_i (by decide) rfl (Nat.le_of_ble_eq_true rfl) rfl (fun X C hQ => kI_X10_runners C hQ _ _ _ _ _ _ h)
theorem csI_X10_89 {X : Kx} {l : Launch} {E : Ev} {a : Nat → Nat} {σ : St} {cc : ByteArray} {rm : Room} {ret : Option FieldType} {pc : Nat} {lv : List (Option Value)} {rest : List Value} {x0 : Int32} {post : Int32 → St → Prop} (C : Cx X l E RX10 cc rm ret) (h : wpI_X3_isAbsent x0 σ post) (hR : 0 + 1 ≤ rm.frames ∧ 8 + (2 + 11) + 0 ≤ rm.locals) (hW : (rest.map fun v => v.category).sum ≤ 8) (d : decode cc pc = .ok (.invokevirtual 89, 3)) (k : ∀ (r : Int32) (u : St), post r u → G X (wI E a) u (pc + 3) lv (.int r :: rest)) : G X (wI E a) σ pc lv (.int x0 :: .ref (a 200) :: rest) := g_callVi C 1 (As := [.int x0]) (rest := rest) (Cn := RX3) (T := TX3) (N := 3) (q0 := 9) (ci := 3) (by decide +kernel) (by decide +kernel) (by decide +kernel) (by decide +kernel) (by decide +kernel) (by decide +kernel) rfl rfl (cI_X3_isAbsent h) ⟨rfl, rfl⟩ hR rfl rfl hW d k
theorem csI_X10_92 {X : Kx} {l : Launch} {E : Ev} {a : Nat → Nat} {σ : St} {cc : ByteArray} {rm : Room} {ret : Option FieldType} {pc : Nat} {lv : List (Option Value)} {rest : List Value} {x0 x1 : Int32} {post : Int32 → St → Prop} (C : Cx X l E RX10 cc rm ret) (h : wpI_X3_alike x0 x1 σ post) (hR : 0 + 1 ≤ rm.frames ∧ 8 + (3 + 11) + 0 ≤ rm.locals) (hW : (rest.map fun v => v.category).sum ≤ 8) (d : decode cc pc = .ok (.invokevirtual 92, 3)) (k : ∀ (r : Int32) (u : St), post r u → G X (wI E a) u (pc + 3) lv (.int r :: rest)) : G X (wI E a) σ pc lv (.int x1 :: .int x0 :: .ref (a 200) :: rest) := g_callVi C 2 (As := [.int x0, .int x1]) (rest := rest) (Cn := RX3) (T := TX3) (N := 3) (q0 := 9) (ci := 3) (by decide +kernel) (by decide +kernel) (by decide +kernel) (by decide +kernel) (by decide +kernel) (by decide +kernel) rfl rfl (cI_X3_alike h) ⟨rfl, rfl⟩ hR rfl rfl hW d k
theorem csI_X10_96 {X : Kx} {l : Launch} {E : Ev} {a : Nat → Nat} {σ : St} {cc : ByteArray} {rm : Room} {ret : Option FieldType} {pc : Nat} {lv : List (Option Value)} {rest : List Value} {x0 x1 x2 : Int32} {post : Int32 → St → Prop} (C : Cx X l E RX10 cc rm ret) (h : wpI_X3_holds x0 x1 x2 σ post) (hR : 1 + 1 ≤ rm.frames ∧ 8 + (4 + 11) + 22 ≤ rm.locals) (hW : (rest.map fun v => v.category).sum ≤ 8) (d : decode cc pc = .ok (.invokevirtual 96, 3)) (k : ∀ (r : Int32) (u : St), post r u → G X (wI E a) u (pc + 3) lv (.int r :: rest)) : G X (wI E a) σ pc lv (.int x2 :: .int x1 :: .int x0 :: .ref (a 200) :: rest) := g_callVi C 3 (As := [.int x0, .int x1, .int x2]) (rest := rest) (Cn := RX3) (T := TX3) (N := 3) (q0 := 9) (ci := 3) (by decide +kernel) (by decide +kernel) (by decide +kernel) (by decide +kernel) (by decide +kernel) (by decide +kernel) rfl rfl (cI_X3_holds h) ⟨rfl, rfl⟩ hR rfl rfl hW d k
theorem csI_X10_99 {X : Kx} {l : Launch} {E : Ev} {a : Nat → Nat} {σ : St} {cc : ByteArray} {rm : Room} {ret : Option FieldType} {pc : Nat} {lv : List (Option Value)} {rest : List Value} {x0 x1 x2 x3 x4 : Int32} {post : St → Prop} (C : Cx X l E RX10 cc rm ret) (h : wpI_X3_carry x0 x1 x2 x3 x4 σ post) (hR : 1 + 1 ≤ rm.frames ∧ 8 + (6 + 11) + 18 ≤ rm.locals) (hW : (rest.map fun v => v.category).sum ≤ 8) (d : decode cc pc = .ok (.invokevirtual 99, 3)) (k : ∀ u : St, post u → G X (wI E a) u (pc + 3) lv rest) : G X (wI E a) σ pc lv (.int x4 :: .int x3 :: .int x2 :: .int x1 :: .int x0 :: .ref (a 200) :: rest) := g_callVv C 5 (As := [.int x0, .int x1, .int x2, .int x3, .int x4]) (rest := rest) (Cn := RX3) (T := TX3) (N := 3) (q0 := 9) (ci := 3) (by decide +kernel) (by decide +kernel) (by decide +kernel) (by decide +kernel) (by decide +kernel) (by decide +kernel) rfl rfl (cI_X3_carry h) ⟨rfl, rfl⟩ hR rfl rfl hW d k
/-! IceRun.copy(IIIII)I -/
abbrev rmI_X10_copy : Room := { frames := 2, cells := 0, slots := 0, locals := 45 }
def wpI_X10_copy_18 (σ : St) (post : Int32 → St → Prop) : Prop := post (-1) σ
theorem kI_X10_copy_18 {X : Kx} {l : Launch} {E : Ev} {a : Nat → Nat} {post : Int32 → St → Prop} (C : Cx X l E RX10 cX10_copy rmI_X10_copy (some .int)) (hQ : QI X (wI E a) post) (σ : St) (h : wpI_X10_copy_18   σ post) : G X (wI E a) σ 18 [none, none, none, none, none, none] [] := by
  unfold wpI_X10_copy_18 at h
  refine g_iconst_m1 C dX10_copy_18 ?_
  exact g_ireturn C hQ dX10_copy_19 h
def wpI_X10_copy_42 (σ : St) (post : Int32 → St → Prop) : Prop := post (-2) σ
theorem kI_X10_copy_42 {X : Kx} {l : Launch} {E : Ev} {a : Nat → Nat} {post : Int32 → St → Prop} (C : Cx X l E RX10 cX10_copy rmI_X10_copy (some .int)) (hQ : QI X (wI E a) post) (σ : St) (h : wpI_X10_copy_42   σ post) : G X (wI E a) σ 42 [none, none, none, none, none, none] [] := by
  unfold wpI_X10_copy_42 at h
  refine g_bipush C (v := (-2)) (by decide) dX10_copy_42 ?_
  exact g_ireturn C hQ dX10_copy_44 h
def wpI_X10_copy_89 (σ : St) (post : Int32 → St → Prop) : Prop := post (-4) σ
theorem kI_X10_copy_89 {X : Kx} {l : Launch} {E : Ev} {a : Nat → Nat} {post : Int32 → St → Prop} (C : Cx X l E RX10 cX10_copy rmI_X10_copy (some .int)) (hQ : QI X (wI E a) post) (σ : St) (h : wpI_X10_copy_89   σ post) : G X (wI E a) σ 89 [none, none, none, none, none, none] [] := by
  unfold wpI_X10_copy_89 at h
  refine g_bipush C (v := (-4)) (by decide) dX10_copy_89 ?_
  exact g_ireturn C hQ dX10_copy_91 h
def wpI_X10_copy (x1 x2 x3 x4 x5 : Int32) (σ : St) (post : Int32 → St → Prop) : Prop := wpI_X10_within x1 0 3 σ (fun r2 σ1 => ((r2 = 0 → wpI_X10_copy_18 σ1 post) ∧ (¬ r2 = 0 → wpI_X10_within x3 0 3 σ1 (fun r4 σ3 => ((¬ r4 = 0 → wpI_X3_isAbsent x1 σ3 (fun r6 σ5 => ((¬ r6 = 0 → wpI_X10_copy_42 σ5 post) ∧ (r6 = 0 → wpI_X3_isAbsent x3 σ5 (fun r8 σ7 => ((r8 = 0 → wpI_X3_alike x1 x3 σ7 (fun r10 σ9 => ((¬ r10 = 0 → wpI_X3_holds x1 x2 x5 σ9 (fun r12 σ11 => ((r12 = 0 → wpI_X10_copy_89 σ11 post) ∧ (¬ r12 = 0 → wpI_X3_holds x3 x4 x5 σ11 (fun r14 σ13 => ((¬ r14 = 0 → wpI_X3_carry x1 x2 x3 x4 x5 σ13 (fun σ15 => post x5 σ15)) ∧ (r14 = 0 → wpI_X10_copy_89 σ13 post))))))) ∧ (r10 = 0 → post (-3) σ9)))) ∧ (¬ r8 = 0 → wpI_X10_copy_42 σ7 post))))))) ∧ (r4 = 0 → wpI_X10_copy_18 σ3 post))))))
theorem kI_X10_copy {X : Kx} {l : Launch} {E : Ev} {a : Nat → Nat} {post : Int32 → St → Prop} (C : Cx X l E RX10 cX10_copy rmI_X10_copy (some .int)) (hQ : QI X (wI E a) post) (x1 x2 x3 x4 x5 : Int32) (σ : St) (h : wpI_X10_copy x1 x2 x3 x4 x5 σ post) : G X (wI E a) σ 0 [some (.ref (a 0)), some (.int x1), some (.int x2), some (.int x3), some (.int x4), some (.int x5)] [] := by
  unfold wpI_X10_copy at h
  refine g_iload_1 C dX10_copy_0 rfl ?_
  refine g_iconst_0 C dX10_copy_1 ?_
  refine g_iconst_3 C dX10_copy_2 ?_
  refine csI_X10_62 C h ⟨Nat.le_of_ble_eq_true rfl, Nat.le_of_ble_eq_true rfl⟩ (Nat.le_of_ble_eq_true rfl) dX10_copy_3 (fun _ _ h => ?_)
  refine g_if_eq C 18 dX10_copy_6 (by decide) (fun q => ?_) (fun q => ?_)
  · have h := h.1 q
    exact g_wk (kI_X10_copy_18 C hQ _ h) (trivial)
  · have h := h.2 q
    refine g_iload_3 C dX10_copy_9 rfl ?_
    refine g_iconst_0 C dX10_copy_10 ?_
    refine g_iconst_3 C dX10_copy_11 ?_
    refine csI_X10_62 C h ⟨Nat.le_of_ble_eq_true rfl, Nat.le_of_ble_eq_true rfl⟩ (Nat.le_of_ble_eq_true rfl) dX10_copy_12 (fun _ _ h => ?_)
    refine g_if_ne C 20 dX10_copy_15 (by decide) (fun q => ?_) (fun q => ?_)
    · have h := h.1 q
      refine g_aload_0 C dX10_copy_20 rfl ?_
      refine fgI_X10_19 C dX10_copy_21 ?_
      refine g_iload_1 C dX10_copy_24 rfl ?_
      refine csI_X10_89 C h ⟨Nat.le_of_ble_eq_true rfl, Nat.le_of_ble_eq_true rfl⟩ (Nat.le_of_ble_eq_true rfl) dX10_copy_25 (fun _ _ h => ?_)
      refine g_if_ne C 42 dX10_copy_28 (by decide) (fun q => ?_) (fun q => ?_)
      · have h := h.1 q
        exact g_wk (kI_X10_copy_42 C hQ _ h) (trivial)
      · have h := h.2 q
        refine g_aload_0 C dX10_copy_31 rfl ?_
        refine fgI_X10_19 C dX10_copy_32 ?_
        refine g_iload_3 C dX10_copy_35 rfl ?_
        refine csI_X10_89 C h ⟨Nat.le_of_ble_eq_true rfl, Nat.le_of_ble_eq_true rfl⟩ (Nat.le_of_ble_eq_true rfl) dX10_copy_36 (fun _ _ h => ?_)
        refine g_if_eq C 45 dX10_copy_39 (by decide) (fun q => ?_) (fun q => ?_)
        · have h := h.1 q
          refine g_aload_0 C dX10_copy_45 rfl ?_
          refine fgI_X10_19 C dX10_copy_46 ?_
          refine g_iload_1 C dX10_copy_49 rfl ?_
          refine g_iload_3 C dX10_copy_50 rfl ?_
          refine csI_X10_92 C h ⟨Nat.le_of_ble_eq_true rfl, Nat.le_of_ble_eq_true rfl⟩ (Nat.le_of_ble_eq_true rfl) dX10_copy_51 (fun _ _ h => ?_)
          refine g_if_ne C 60 dX10_copy_54 (by decide) (fun q => ?_) (fun q => ?_)
          · have h := h.1 q
            refine g_aload_0 C dX10_copy_60 rfl ?_
            refine fgI_X10_19 C dX10_copy_61 ?_
            refine g_iload_1 C dX10_copy_64 rfl ?_
            refine g_iload_2 C dX10_copy_65 rfl ?_
            refine g_iload C dX10_copy_66 rfl ?_
            refine csI_X10_96 C h ⟨Nat.le_of_ble_eq_true rfl, Nat.le_of_ble_eq_true rfl⟩ (Nat.le_of_ble_eq_true rfl) dX10_copy_68 (fun _ _ h => ?_)
            refine g_if_eq C 89 dX10_copy_71 (by decide) (fun q => ?_) (fun q => ?_)
            · have h := h.1 q
              exact g_wk (kI_X10_copy_89 C hQ _ h) (trivial)
            · have h := h.2 q
              refine g_aload_0 C dX10_copy_74 rfl ?_
              refine fgI_X10_19 C dX10_copy_75 ?_
              refine g_iload_3 C dX10_copy_78 rfl ?_
              refine g_iload C dX10_copy_79 rfl ?_
              refine g_iload C dX10_copy_81 rfl ?_
              refine csI_X10_96 C h ⟨Nat.le_of_ble_eq_true rfl, Nat.le_of_ble_eq_true rfl⟩ (Nat.le_of_ble_eq_true rfl) dX10_copy_83 (fun _ _ h => ?_)
              refine g_if_ne C 92 dX10_copy_86 (by decide) (fun q => ?_) (fun q => ?_)
              · have h := h.1 q
                refine g_aload_0 C dX10_copy_92 rfl ?_
                refine fgI_X10_19 C dX10_copy_93 ?_
                refine g_iload_1 C dX10_copy_96 rfl ?_
                refine g_iload_2 C dX10_copy_97 rfl ?_
                refine g_iload_3 C dX10_copy_98 rfl ?_
                refine g_iload C dX10_copy_99 rfl ?_
                refine g_iload C dX10_copy_101 rfl ?_
                refine csI_X10_99 C h ⟨Nat.le_of_ble_eq_true rfl, Nat.le_of_ble_eq_true rfl⟩ (Nat.le_of_ble_eq_true rfl) dX10_copy_103 (fun _ h => ?_)
                refine g_iload C dX10_copy_106 rfl ?_
                exact g_ireturn C hQ dX10_copy_108 h
              · have h := h.2 q
                exact g_wk (kI_X10_copy_89 C hQ _ h) (trivial)
          · have h := h.2 q
            refine g_bipush C (v := (-3)) (by decide) dX10_copy_57 ?_
            exact g_ireturn C hQ dX10_copy_59 h
        · have h := h.2 q
          exact g_wk (kI_X10_copy_42 C hQ _ h) (trivial)
    · have h := h.2 q
      exact g_wk (kI_X10_copy_18 C hQ _ h) (trivial)
theorem cI_X10_copy {l : Launch} {E : Ev} {a : Nat → Nat} {x1 x2 x3 x4 x5 : Int32} {σ : St} {post : Int32 → St → Prop} (h : wpI_X10_copy x1 x2 x3 x4 x5 σ post) : CI l E (wI E a) yX10_copy cX10_copy 6 .int rmI_X10_copy [.ref (a 0), .int x1, .int x2, .int x3, .int x4, .int x5] σ post := met_i (by decide) rfl (Nat.le_of_ble_eq_true rfl) rfl (fun X C hQ => kI_X10_copy C hQ _ _ _ _ _ _ h)
theorem fgI_X10_113 {X : Kx} {l : Launch} {E : Ev} {a : Nat → Nat} {σ : St} {cc : ByteArray} {rm : Room} {ret : Option FieldType} {pc : Nat} {lv : List (Option Value)} {st : List Value} (C : Cx X l E RX10 cc rm ret) (d : decode cc pc = .ok (.getfield 113, 3)) (k : G X (wI E a) σ (pc + 3) lv (.int (σ.1 100) :: st)) : G X (wI E a) σ pc lv (.ref (a 100) :: st) := g_getN C (host := "IceRun") (q0 := 1) (ci := 8) (k := 0) rfl rfl inU_X8 (by decide) (by decide +kernel) rfl d k
theorem csI_X10_116 {X : Kx} {l : Launch} {E : Ev} {a : Nat → Nat} {σ : St} {cc : ByteArray} {rm : Room} {ret : Option FieldType} {pc : Nat} {lv : List (Option Value)} {rest : List Value} {x0 x1 x2 : Int32} {post : St → Prop} (C : Cx X l E RX10 cc rm ret) (h : wpI_X8_soften x0 x1 x2 σ post) (hR : 1 + 1 ≤ rm.frames ∧ 8 + (6 + 11) + 16 ≤ rm.locals) (hW : (rest.map fun v => v.category).sum ≤ 8) (d : decode cc pc = .ok (.invokevirtual 116, 3)) (k : ∀ u : St, post u → G X (wI E a) u (pc + 3) lv rest) : G X (wI E a) σ pc lv (.int x2 :: .int x1 :: .int x0 :: .ref (a 100) :: rest) := g_callVv C 3 (As := [.int x0, .int x1, .int x2]) (rest := rest) (Cn := RX8) (T := TX8) (N := 9) (q0 := 1) (ci := 8) (by decide +kernel) (by decide +kernel) (by decide +kernel) (by decide +kernel) (by decide +kernel) (by decide +kernel) rfl rfl (cI_X8_soften h) ⟨rfl, rfl⟩ hR rfl rfl hW d k
/-! IceRun.weather(III)Z -/
abbrev rmI_X10_weather : Room := { frames := 2, cells := 0, slots := 0, locals := 41 }
def wpI_X10_weather_53 (σ : St) (post : Int32 → St → Prop) : Prop := post 0 σ
theorem kI_X10_weather_53 {X : Kx} {l : Launch} {E : Ev} {a : Nat → Nat} {post : Int32 → St → Prop} (C : Cx X l E RX10 cX10_weather rmI_X10_weather (some .boolean)) (hQ : QI X (wI E a) post) (σ : St) (h : wpI_X10_weather_53   σ post) : G X (wI E a) σ 53 [none, none, none, none, none] [] := by
  unfold wpI_X10_weather_53 at h
  refine g_iconst_0 C dX10_weather_53 ?_
  exact g_zreturn C hQ dX10_weather_54 (Or.inl rfl) h
def wpI_X10_weather_36 (x1 x2 x3 s0 : Int32) (σ : St) (post : Int32 → St → Prop) : Prop := ((s0 = 0 → wpI_X10_weather_53 σ post) ∧ (¬ s0 = 0 → ((¬ (σ.1 100) = 0 → wpI_X8_soften x1 x2 x3 σ (fun σ1 => post 1 σ1)) ∧ ((σ.1 100) = 0 → wpI_X10_weather_53 σ post))))
theorem kI_X10_weather_36 {X : Kx} {l : Launch} {E : Ev} {a : Nat → Nat} {post : Int32 → St → Prop} (C : Cx X l E RX10 cX10_weather rmI_X10_weather (some .boolean)) (hQ : QI X (wI E a) post) (x1 x2 x3 s0 : Int32) (σ : St) (h : wpI_X10_weather_36  x1 x2 x3 s0 σ post) : G X (wI E a) σ 36 [some (.ref (a 0)), some (.int x1), some (.int x2), some (.int x3), none] [.int s0] := by
  unfold wpI_X10_weather_36 at h
  refine g_istore C dX10_weather_36 (Nat.le_of_ble_eq_true rfl) ?_
  refine g_iload C dX10_weather_38 rfl ?_
  refine g_if_eq C 53 dX10_weather_40 (by decide) (fun q => ?_) (fun q => ?_)
  · have h := h.1 q
    exact g_wk (kI_X10_weather_53 C hQ _ h) (trivial)
  · have h := h.2 q
    refine g_aload_0 C dX10_weather_43 rfl ?_
    refine fgI_X10_10 C dX10_weather_44 ?_
    refine fgI_X10_113 C dX10_weather_47 ?_
    refine g_if_ne C 55 dX10_weather_50 (by decide) (fun q => ?_) (fun q => ?_)
    · have h := h.1 q
      refine g_aload_0 C dX10_weather_55 rfl ?_
      refine fgI_X10_10 C dX10_weather_56 ?_
      refine g_iload_1 C dX10_weather_59 rfl ?_
      refine g_iload_2 C dX10_weather_60 rfl ?_
      refine g_iload_3 C dX10_weather_61 rfl ?_
      refine csI_X10_116 C h ⟨Nat.le_of_ble_eq_true rfl, Nat.le_of_ble_eq_true rfl⟩ (Nat.le_of_ble_eq_true rfl) dX10_weather_62 (fun _ h => ?_)
      refine g_iconst_1 C dX10_weather_65 ?_
      exact g_zreturn C hQ dX10_weather_66 (Or.inr rfl) h
    · have h := h.2 q
      exact g_wk (kI_X10_weather_53 C hQ _ h) (trivial)
def wpI_X10_weather_35 (x1 x2 x3 : Int32) (σ : St) (post : Int32 → St → Prop) : Prop := wpI_X10_weather_36 x1 x2 x3 0 σ post
theorem kI_X10_weather_35 {X : Kx} {l : Launch} {E : Ev} {a : Nat → Nat} {post : Int32 → St → Prop} (C : Cx X l E RX10 cX10_weather rmI_X10_weather (some .boolean)) (hQ : QI X (wI E a) post) (x1 x2 x3 : Int32) (σ : St) (h : wpI_X10_weather_35  x1 x2 x3 σ post) : G X (wI E a) σ 35 [some (.ref (a 0)), some (.int x1), some (.int x2), some (.int x3), none] [] := by
  unfold wpI_X10_weather_35 at h
  refine g_iconst_0 C dX10_weather_35 ?_
  exact g_wk (kI_X10_weather_36 C hQ _ _ _ _ _ h) (And.intro rfl (And.intro rfl (And.intro rfl (And.intro rfl (trivial)))))
def wpI_X10_weather (x1 x2 x3 : Int32) (σ : St) (post : Int32 → St → Prop) : Prop := wpI_X10_within x1 1 600 σ (fun r2 σ1 => ((r2 = 0 → wpI_X10_weather_35 x1 x2 x3 σ1 post) ∧ (¬ r2 = 0 → wpI_X10_within x2 (-30) 30 σ1 (fun r4 σ3 => ((r4 = 0 → wpI_X10_weather_35 x1 x2 x3 σ3 post) ∧ (¬ r4 = 0 → wpI_X10_within x3 0 3 σ3 (fun r6 σ5 => ((r6 = 0 → wpI_X10_weather_35 x1 x2 x3 σ5 post) ∧ (¬ r6 = 0 → wpI_X10_weather_36 x1 x2 x3 1 σ5 post)))))))))
theorem kI_X10_weather {X : Kx} {l : Launch} {E : Ev} {a : Nat → Nat} {post : Int32 → St → Prop} (C : Cx X l E RX10 cX10_weather rmI_X10_weather (some .boolean)) (hQ : QI X (wI E a) post) (x1 x2 x3 : Int32) (σ : St) (h : wpI_X10_weather x1 x2 x3 σ post) : G X (wI E a) σ 0 [some (.ref (a 0)), some (.int x1), some (.int x2), some (.int x3), none] [] := by
  unfold wpI_X10_weather at h
  refine g_iload_1 C dX10_weather_0 rfl ?_
  refine g_iconst_1 C dX10_weather_1 ?_
  refine g_sipush C (v := 600) (by decide) dX10_weather_2 ?_
  refine csI_X10_62 C h ⟨Nat.le_of_ble_eq_true rfl, Nat.le_of_ble_eq_true rfl⟩ (Nat.le_of_ble_eq_true rfl) dX10_weather_5 (fun _ _ h => ?_)
  refine g_if_eq C 35 dX10_weather_8 (by decide) (fun q => ?_) (fun q => ?_)
  · have h := h.1 q
    exact g_wk (kI_X10_weather_35 C hQ _ _ _ _ h) (And.intro rfl (And.intro rfl (And.intro rfl (And.intro rfl (trivial)))))
  · have h := h.2 q
    refine g_iload_2 C dX10_weather_11 rfl ?_
    refine g_bipush C (v := (-30)) (by decide) dX10_weather_12 ?_
    refine g_bipush C (v := 30) (by decide) dX10_weather_14 ?_
    refine csI_X10_62 C h ⟨Nat.le_of_ble_eq_true rfl, Nat.le_of_ble_eq_true rfl⟩ (Nat.le_of_ble_eq_true rfl) dX10_weather_16 (fun _ _ h => ?_)
    refine g_if_eq C 35 dX10_weather_19 (by decide) (fun q => ?_) (fun q => ?_)
    · have h := h.1 q
      exact g_wk (kI_X10_weather_35 C hQ _ _ _ _ h) (And.intro rfl (And.intro rfl (And.intro rfl (And.intro rfl (trivial)))))
    · have h := h.2 q
      refine g_iload_3 C dX10_weather_22 rfl ?_
      refine g_iconst_0 C dX10_weather_23 ?_
      refine g_iconst_3 C dX10_weather_24 ?_
      refine csI_X10_62 C h ⟨Nat.le_of_ble_eq_true rfl, Nat.le_of_ble_eq_true rfl⟩ (Nat.le_of_ble_eq_true rfl) dX10_weather_25 (fun _ _ h => ?_)
      refine g_if_eq C 35 dX10_weather_28 (by decide) (fun q => ?_) (fun q => ?_)
      · have h := h.1 q
        exact g_wk (kI_X10_weather_35 C hQ _ _ _ _ h) (And.intro rfl (And.intro rfl (And.intro rfl (And.intro rfl (trivial)))))
      · have h := h.2 q
        refine g_iconst_1 C dX10_weather_31 ?_
        refine g_goto C 36 dX10_weather_32 (by decide) ?_
        exact g_wk (kI_X10_weather_36 C hQ _ _ _ _ _ h) (And.intro rfl (And.intro rfl (And.intro rfl (And.intro rfl (trivial)))))
theorem cI_X10_weather {l : Launch} {E : Ev} {a : Nat → Nat} {x1 x2 x3 : Int32} {σ : St} {post : Int32 → St → Prop} (h : wpI_X10_weather x1 x2 x3 σ post) : CI l E (wI E a) yX10_weather cX10_weather 5 .boolean rmI_X10_weather [.ref (a 0), .int x1, .int x2, .int x3] σ post := met_i (by decide) rfl (Nat.le_of_ble_eq_true rfl) rfl (fun X C hQ => kI_X10_weather C hQ _ _ _ _ h)
theorem csI_X10_120 {X : Kx} {l : Launch} {E : Ev} {a : Nat → Nat} {σ : St} {cc : ByteArray} {rm : Room} {ret : Option FieldType} {pc : Nat} {lv : List (Option Value)} {rest : List Value} {x0 x1 : Int32} {post : St → Prop} (C : Cx X l E RX10 cc rm ret) (h : wpI_X8_pour x0 x1 σ post) (hR : 1 + 1 ≤ rm.frames ∧ 8 + (4 + 11) + 15 ≤ rm.locals) (hW : (rest.map fun v => v.category).sum ≤ 8) (d : decode cc pc = .ok (.invokevirtual 120, 3)) (k : ∀ u : St, post u → G X (wI E a) u (pc + 3) lv rest) : G X (wI E a) σ pc lv (.int x1 :: .int x0 :: .ref (a 100) :: rest) := g_callVv C 2 (As := [.int x0, .int x1]) (rest := rest) (Cn := RX8) (T := TX8) (N := 9) (q0 := 1) (ci := 8) (by decide +kernel) (by decide +kernel) (by decide +kernel) (by decide +kernel) (by decide +kernel) (by decide +kernel) rfl rfl (cI_X8_pour h) ⟨rfl, rfl⟩ hR rfl rfl hW d k
/-! IceRun.water(II)Z -/
abbrev rmI_X10_water : Room := { frames := 2, cells := 0, slots := 0, locals := 38 }
def wpI_X10_water_20 (σ : St) (post : Int32 → St → Prop) : Prop := post 0 σ
theorem kI_X10_water_20 {X : Kx} {l : Launch} {E : Ev} {a : Nat → Nat} {post : Int32 → St → Prop} (C : Cx X l E RX10 cX10_water rmI_X10_water (some .boolean)) (hQ : QI X (wI E a) post) (σ : St) (h : wpI_X10_water_20   σ post) : G X (wI E a) σ 20 [none, none, none] [] := by
  unfold wpI_X10_water_20 at h
  refine g_iconst_0 C dX10_water_20 ?_
  exact g_zreturn C hQ dX10_water_21 (Or.inl rfl) h
def wpI_X10_water (x1 x2 : Int32) (σ : St) (post : Int32 → St → Prop) : Prop := ((x1 < 0 → wpI_X10_water_20 σ post) ∧ (¬ x1 < 0 → ((x2 ≤ x1 → wpI_X10_water_20 σ post) ∧ (¬ x2 ≤ x1 → ((x2 ≤ (σ.1 100) → wpI_X8_pour x1 x2 σ (fun σ1 => post 1 σ1)) ∧ (¬ x2 ≤ (σ.1 100) → wpI_X10_water_20 σ post))))))
theorem kI_X10_water {X : Kx} {l : Launch} {E : Ev} {a : Nat → Nat} {post : Int32 → St → Prop} (C : Cx X l E RX10 cX10_water rmI_X10_water (some .boolean)) (hQ : QI X (wI E a) post) (x1 x2 : Int32) (σ : St) (h : wpI_X10_water x1 x2 σ post) : G X (wI E a) σ 0 [some (.ref (a 0)), some (.int x1), some (.int x2)] [] := by
  unfold wpI_X10_water at h
  refine g_iload_1 C dX10_water_0 rfl ?_
  refine g_if_lt C 20 dX10_water_1 (by decide) (fun q => ?_) (fun q => ?_)
  · have h := h.1 q
    exact g_wk (kI_X10_water_20 C hQ _ h) (trivial)
  · have h := h.2 q
    refine g_iload_1 C dX10_water_4 rfl ?_
    refine g_iload_2 C dX10_water_5 rfl ?_
    refine g_icmp_ge C 20 dX10_water_6 (by decide) (fun q => ?_) (fun q => ?_)
    · have h := h.1 q
      exact g_wk (kI_X10_water_20 C hQ _ h) (trivial)
    · have h := h.2 q
      refine g_iload_2 C dX10_water_9 rfl ?_
      refine g_aload_0 C dX10_water_10 rfl ?_
      refine fgI_X10_10 C dX10_water_11 ?_
      refine fgI_X10_113 C dX10_water_14 ?_
      refine g_icmp_le C 22 dX10_water_17 (by decide) (fun q => ?_) (fun q => ?_)
      · have h := h.1 q
        refine g_aload_0 C dX10_water_22 rfl ?_
        refine fgI_X10_10 C dX10_water_23 ?_
        refine g_iload_1 C dX10_water_26 rfl ?_
        refine g_iload_2 C dX10_water_27 rfl ?_
        refine csI_X10_120 C h ⟨Nat.le_of_ble_eq_true rfl, Nat.le_of_ble_eq_true rfl⟩ (Nat.le_of_ble_eq_true rfl) dX10_water_28 (fun _ h => ?_)
        refine g_iconst_1 C dX10_water_31 ?_
        exact g_zreturn C hQ dX10_water_32 (Or.inr rfl) h
      · have h := h.2 q
        exact g_wk (kI_X10_water_20 C hQ _ h) (trivial)
theorem cI_X10_water {l : Launch} {E : Ev} {a : Nat → Nat} {x1 x2 : Int32} {σ : St} {post : Int32 → St → Prop} (h : wpI_X10_water x1 x2 σ post) : CI l E (wI E a) yX10_water cX10_water 3 .boolean rmI_X10_water [.ref (a 0), .int x1, .int x2] σ post := met_i (by decide) rfl (Nat.le_of_ble_eq_true rfl) rfl (fun X C hQ => kI_X10_water C hQ _ _ _ h)
theorem csI_X10_123 {X : Kx} {l : Launch} {E : Ev} {a : Nat → Nat} {σ : St} {cc : ByteArray} {rm : Room} {ret : Option FieldType} {pc : Nat} {lv : List (Option Value)} {rest : List Value} {x0 x1 : Int32} {post : Int32 → St → Prop} (C : Cx X l E RX10 cc rm ret) (h : wpI_X8_look x0 x1 σ post) (hR : 0 + 1 ≤ rm.frames ∧ 8 + (3 + 11) + 0 ≤ rm.locals) (hW : (rest.map fun v => v.category).sum ≤ 8) (d : decode cc pc = .ok (.invokevirtual 123, 3)) (k : ∀ (r : Int32) (u : St), post r u → G X (wI E a) u (pc + 3) lv (.int r :: rest)) : G X (wI E a) σ pc lv (.int x1 :: .int x0 :: .ref (a 100) :: rest) := g_callVi C 2 (As := [.int x0, .int x1]) (rest := rest) (Cn := RX8) (T := TX8) (N := 9) (q0 := 1) (ci := 8) (by decide +kernel) (by decide +kernel) (by decide +kernel) (by decide +kernel) (by decide +kernel) (by decide +kernel) rfl rfl (cI_X8_look h) ⟨rfl, rfl⟩ hR rfl rfl hW d k
/-! IceRun.cell(II)I -/
abbrev rmI_X10_cell : Room := { frames := 2, cells := 0, slots := 0, locals := 43 }
def wpI_X10_cell_24 (s0 : Int32) (σ : St) (post : Int32 → St → Prop) : Prop := post s0 σ
theorem kI_X10_cell_24 {X : Kx} {l : Launch} {E : Ev} {a : Nat → Nat} {post : Int32 → St → Prop} (C : Cx X l E RX10 cX10_cell rmI_X10_cell (some .int)) (hQ : QI X (wI E a) post) (s0 : Int32) (σ : St) (h : wpI_X10_cell_24  s0 σ post) : G X (wI E a) σ 24 [none, none, none] [.int s0] := by
  unfold wpI_X10_cell_24 at h
  exact g_ireturn C hQ dX10_cell_24 h
def wpI_X10_cell (x1 x2 : Int32) (σ : St) (post : Int32 → St → Prop) : Prop := wpI_X8_hasCell x1 σ (fun r2 σ1 => ((r2 = 0 → wpI_X10_cell_24 (-1) σ1 post) ∧ (¬ r2 = 0 → wpI_X8_look x1 x2 σ1 (fun r4 σ3 => wpI_X10_cell_24 r4 σ3 post))))
theorem kI_X10_cell {X : Kx} {l : Launch} {E : Ev} {a : Nat → Nat} {post : Int32 → St → Prop} (C : Cx X l E RX10 cX10_cell rmI_X10_cell (some .int)) (hQ : QI X (wI E a) post) (x1 x2 : Int32) (σ : St) (h : wpI_X10_cell x1 x2 σ post) : G X (wI E a) σ 0 [some (.ref (a 0)), some (.int x1), some (.int x2)] [] := by
  unfold wpI_X10_cell at h
  refine g_aload_0 C dX10_cell_0 rfl ?_
  refine fgI_X10_10 C dX10_cell_1 ?_
  refine g_iload_1 C dX10_cell_4 rfl ?_
  refine csI_X10_74 C h ⟨Nat.le_of_ble_eq_true rfl, Nat.le_of_ble_eq_true rfl⟩ (Nat.le_of_ble_eq_true rfl) dX10_cell_5 (fun _ _ h => ?_)
  refine g_if_eq C 23 dX10_cell_8 (by decide) (fun q => ?_) (fun q => ?_)
  · have h := h.1 q
    refine g_iconst_m1 C dX10_cell_23 ?_
    exact g_wk (kI_X10_cell_24 C hQ _ _ h) (trivial)
  · have h := h.2 q
    refine g_aload_0 C dX10_cell_11 rfl ?_
    refine fgI_X10_10 C dX10_cell_12 ?_
    refine g_iload_1 C dX10_cell_15 rfl ?_
    refine g_iload_2 C dX10_cell_16 rfl ?_
    refine csI_X10_123 C h ⟨Nat.le_of_ble_eq_true rfl, Nat.le_of_ble_eq_true rfl⟩ (Nat.le_of_ble_eq_true rfl) dX10_cell_17 (fun _ _ h => ?_)
    refine g_goto C 24 dX10_cell_20 (by decide) ?_
    exact g_wk (kI_X10_cell_24 C hQ _ _ h) (trivial)
theorem cI_X10_cell {l : Launch} {E : Ev} {a : Nat → Nat} {x1 x2 : Int32} {σ : St} {post : Int32 → St → Prop} (h : wpI_X10_cell x1 x2 σ post) : CI l E (wI E a) yX10_cell cX10_cell 3 .int rmI_X10_cell [.ref (a 0), .int x1, .int x2] σ post := met_i (by decide) rfl (Nat.le_of_ble_eq_true rfl) rfl (fun X C hQ => kI_X10_cell C hQ _ _ _ h)
theorem fgI_X10_263 {X : Kx} {l : Launch} {E : Ev} {a : Nat → Nat} {σ : St} {cc : ByteArray} {rm : Room} {ret : Option FieldType} {pc : Nat} {lv : List (Option Value)} {st : List Value} (C : Cx X l E RX10 cc rm ret) (d : decode cc pc = .ok (.getfield 263, 3)) (k : G X (wI E a) σ (pc + 3) lv (.ref (a 106) :: st)) : G X (wI E a) σ pc lv (.ref (a 100) :: st) := g_getN C (host := "IceRun") (q0 := 1) (ci := 8) (k := 5) rfl rfl inU_X8 (by decide) (by decide +kernel) rfl d k
theorem csI_X10_109 {X : Kx} {l : Launch} {E : Ev} {a : Nat → Nat} {σ : St} {cc : ByteArray} {rm : Room} {ret : Option FieldType} {pc : Nat} {lv : List (Option Value)} {rest : List Value} {x0 x1 : Int32} {post : Int32 → St → Prop} (C : Cx X l E RX10 cc rm ret) (h : wpI_X3_glideOf x0 x1 σ post) (hR : 1 + 1 ≤ rm.frames ∧ 8 + (4 + 11) + 22 ≤ rm.locals) (hW : (rest.map fun v => v.category).sum ≤ 8) (d : decode cc pc = .ok (.invokevirtual 109, 3)) (k : ∀ (r : Int32) (u : St), post r u → G X (wI E a) u (pc + 3) lv (.int r :: rest)) : G X (wI E a) σ pc lv (.int x1 :: .int x0 :: .ref (a 200) :: rest) := g_callVi C 2 (As := [.int x0, .int x1]) (rest := rest) (Cn := RX3) (T := TX3) (N := 3) (q0 := 9) (ci := 3) (by decide +kernel) (by decide +kernel) (by decide +kernel) (by decide +kernel) (by decide +kernel) (by decide +kernel) rfl rfl (cI_X3_glideOf h) ⟨rfl, rfl⟩ hR rfl rfl hW d k
theorem csI_X10_266 {X : Kx} {l : Launch} {E : Ev} {a : Nat → Nat} {σ : St} {cc : ByteArray} {rm : Room} {ret : Option FieldType} {pc : Nat} {lv : List (Option Value)} {rest : List Value} {x0 x1 x2 x3 : Int32} {post : Int32 → St → Prop} (C : Cx X l E RX10 cc rm ret) (h : wpI_X8_timeOf x0 x1 x2 x3 σ post) (hR : 1 + 1 ≤ rm.frames ∧ 8 + (7 + 11) + 13 ≤ rm.locals) (hW : (rest.map fun v => v.category).sum ≤ 8) (d : decode cc pc = .ok (.invokevirtual 266, 3)) (k : ∀ (r : Int32) (u : St), post r u → G X (wI E a) u (pc + 3) lv (.int r :: rest)) : G X (wI E a) σ pc lv (.int x3 :: .int x2 :: .int x1 :: .int x0 :: .ref (a 100) :: rest) := g_callVi C 4 (As := [.int x0, .int x1, .int x2, .int x3]) (rest := rest) (Cn := RX8) (T := TX8) (N := 9) (q0 := 1) (ci := 8) (by decide +kernel) (by decide +kernel) (by decide +kernel) (by decide +kernel) (by decide +kernel) (by decide +kernel) rfl rfl (cI_X8_timeOf h) ⟨rfl, rfl⟩ hR rfl rfl hW d k
/-! IceRun.timeInCell(IIII)I -/
abbrev rmI_X10_timeInCell : Room := { frames := 2, cells := 0, slots := 0, locals := 45 }
def wpI_X10_timeInCell (x1 x2 x3 x4 : Int32) (σ : St) (post : Int32 → St → Prop) : Prop := vp_in x1 40 ∧ (wpI_X3_glideOf x3 (σ.2 105 (Int32.toNatClampNeg x1)) σ (fun r2 σ1 => wpI_X8_timeOf x1 x2 x4 r2 σ1 (fun r4 σ3 => post r4 σ3)))
theorem kI_X10_timeInCell {X : Kx} {l : Launch} {E : Ev} {a : Nat → Nat} {post : Int32 → St → Prop} (C : Cx X l E RX10 cX10_timeInCell rmI_X10_timeInCell (some .int)) (hQ : QI X (wI E a) post) (x1 x2 x3 x4 : Int32) (σ : St) (h : wpI_X10_timeInCell x1 x2 x3 x4 σ post) : G X (wI E a) σ 0 [some (.ref (a 0)), some (.int x1), some (.int x2), some (.int x3), some (.int x4), none] [] := by
  unfold wpI_X10_timeInCell at h
  refine g_aload_0 C dX10_timeInCell_0 rfl ?_
  refine fgI_X10_19 C dX10_timeInCell_1 ?_
  refine g_iload_3 C dX10_timeInCell_4 rfl ?_
  refine g_aload_0 C dX10_timeInCell_5 rfl ?_
  refine fgI_X10_10 C dX10_timeInCell_6 ?_
  refine fgI_X10_263 C dX10_timeInCell_9 ?_
  refine g_iload_1 C dX10_timeInCell_12 rfl ?_
  obtain ⟨q, h⟩ := h
  refine alI_105 C q dX10_timeInCell_13 ?_
  refine csI_X10_109 C h ⟨Nat.le_of_ble_eq_true rfl, Nat.le_of_ble_eq_true rfl⟩ (Nat.le_of_ble_eq_true rfl) dX10_timeInCell_14 (fun _ _ h => ?_)
  refine g_istore C dX10_timeInCell_17 (Nat.le_of_ble_eq_true rfl) ?_
  refine g_aload_0 C dX10_timeInCell_19 rfl ?_
  refine fgI_X10_10 C dX10_timeInCell_20 ?_
  refine g_iload_1 C dX10_timeInCell_23 rfl ?_
  refine g_iload_2 C dX10_timeInCell_24 rfl ?_
  refine g_iload C dX10_timeInCell_25 rfl ?_
  refine g_iload C dX10_timeInCell_27 rfl ?_
  refine csI_X10_266 C h ⟨Nat.le_of_ble_eq_true rfl, Nat.le_of_ble_eq_true rfl⟩ (Nat.le_of_ble_eq_true rfl) dX10_timeInCell_29 (fun _ _ h => ?_)
  exact g_ireturn C hQ dX10_timeInCell_32 h
theorem cI_X10_timeInCell {l : Launch} {E : Ev} {a : Nat → Nat} {x1 x2 x3 x4 : Int32} {σ : St} {post : Int32 → St → Prop} (h : wpI_X10_timeInCell x1 x2 x3 x4 σ post) : CI l E (wI E a) yX10_timeInCell cX10_timeInCell 6 .int rmI_X10_timeInCell [.ref (a 0), .int x1, .int x2, .int x3, .int x4] σ post := met_i (by decide) rfl (Nat.le_of_ble_eq_true rfl) rfl (fun X C hQ => kI_X10_timeInCell C hQ _ _ _ _ _ h)
theorem csI_X10_269 {X : Kx} {l : Launch} {E : Ev} {a : Nat → Nat} {σ : St} {cc : ByteArray} {rm : Room} {ret : Option FieldType} {pc : Nat} {lv : List (Option Value)} {rest : List Value} {x0 x1 x2 x3 : Int32} {post : Int32 → St → Prop} (C : Cx X l E RX10 cc rm ret) (h : wpI_X10_timeInCell x0 x1 x2 x3 σ post) (hR : 2 + 1 ≤ rm.frames ∧ 8 + (6 + 11) + 45 ≤ rm.locals) (hW : (rest.map fun v => v.category).sum ≤ 8) (d : decode cc pc = .ok (.invokevirtual 269, 3)) (k : ∀ (r : Int32) (u : St), post r u → G X (wI E a) u (pc + 3) lv (.int r :: rest)) : G X (wI E a) σ pc lv (.int x3 :: .int x2 :: .int x1 :: .int x0 :: .ref (a 0) :: rest) := g_callVi C 4 (As := [.int x0, .int x1, .int x2, .int x3]) (rest := rest) (Cn := RX10) (T := TX10) (N := 8) (q0 := 0) (ci := 9) (by decide +kernel) (by decide +kernel) (by decide +kernel) (by decide +kernel) (by decide +kernel) (by decide +kernel) rfl rfl (cI_X10_timeInCell h) ⟨rfl, rfl⟩ hR rfl rfl hW d k
/-! IceRun.standardNow()I -/
abbrev rmI_X10_standardNow : Room := { frames := 3, cells := 0, slots := 0, locals := 70 }
def wpBI_X10_standardNow_4 (k_4 : Int32 → Int32 → St → Prop) (x1 x2 : Int32) (σ : St) (post : Int32 → St → Prop) : Prop := (((σ.1 100) ≤ x2 → post x1 σ) ∧ (¬ (σ.1 100) ≤ x2 → wpI_X10_timeInCell x2 100 0 5 σ (fun r2 σ1 => let y3 : Int32 := (x1 + r2); let y4 : Int32 := x2 + 1; k_4 y3 y4 σ1)))
def wpI_X10_standardNow_4 (x1 x2 : Int32) (σ : St) (post : Int32 → St → Prop) : Prop := ∃ n : Nat, lpN (α := Int32 × Int32 × St) (fun kb t => wpBI_X10_standardNow_4 (fun x1 x2 σ => kb (x1, x2, σ)) t.1 t.2.1 t.2.2 post) n (x1, x2, σ)
theorem kBI_X10_standardNow_4 {X : Kx} {l : Launch} {E : Ev} {a : Nat → Nat} {post : Int32 → St → Prop} (C : Cx X l E RX10 cX10_standardNow rmI_X10_standardNow (some .int)) (hQ : QI X (wI E a) post) (k_4 : Int32 → Int32 → St → Prop) (hk_4 : ∀ (x1 x2 : Int32) (σ : St), k_4 x1 x2 σ → G X (wI E a) σ 4 [some (.ref (a 0)), some (.int x1), some (.int x2)] []) (x1 x2 : Int32) (σ : St) (h : wpBI_X10_standardNow_4 k_4 x1 x2 σ post) : G X (wI E a) σ 4 [some (.ref (a 0)), some (.int x1), some (.int x2)] [] := by
  unfold wpBI_X10_standardNow_4 at h
  refine g_iload_2 C dX10_standardNow_4 rfl ?_
  refine g_aload_0 C dX10_standardNow_5 rfl ?_
  refine fgI_X10_10 C dX10_standardNow_6 ?_
  refine fgI_X10_113 C dX10_standardNow_9 ?_
  refine g_icmp_ge C 33 dX10_standardNow_12 (by decide) (fun q => ?_) (fun q => ?_)
  · have h := h.1 q
    refine g_iload_1 C dX10_standardNow_33 rfl ?_
    exact g_ireturn C hQ dX10_standardNow_34 h
  · have h := h.2 q
    refine g_iload_1 C dX10_standardNow_15 rfl ?_
    refine g_aload_0 C dX10_standardNow_16 rfl ?_
    refine g_iload_2 C dX10_standardNow_17 rfl ?_
    refine g_bipush C (v := 100) (by decide) dX10_standardNow_18 ?_
    refine g_iconst_0 C dX10_standardNow_20 ?_
    refine g_iconst_5 C dX10_standardNow_21 ?_
    refine csI_X10_269 C h ⟨Nat.le_of_ble_eq_true rfl, Nat.le_of_ble_eq_true rfl⟩ (Nat.le_of_ble_eq_true rfl) dX10_standardNow_22 (fun _ _ h => ?_)
    refine g_iadd C dX10_standardNow_25 ?_
    refine g_istore_1 C dX10_standardNow_26 (Nat.le_of_ble_eq_true rfl) ?_
    refine g_iinc C (v := 1) (by decide) dX10_standardNow_27 rfl ?_
    refine g_goto C 4 dX10_standardNow_30 (by decide) ?_
    exact g_wk (hk_4 _ _ _ h) (And.intro rfl (And.intro rfl (And.intro rfl (trivial))))
theorem kI_X10_standardNow_4 {X : Kx} {l : Launch} {E : Ev} {a : Nat → Nat} {post : Int32 → St → Prop} (C : Cx X l E RX10 cX10_standardNow rmI_X10_standardNow (some .int)) (hQ : QI X (wI E a) post) (x1 x2 : Int32) (σ : St) (h : wpI_X10_standardNow_4  x1 x2 σ post) : G X (wI E a) σ 4 [some (.ref (a 0)), some (.int x1), some (.int x2)] [] := by
  obtain ⟨n, h⟩ := h
  exact g_loop (J := fun t : Int32 × Int32 × St => G X (wI E a) t.2.2 4 [some (.ref (a 0)), some (.int t.1), some (.int t.2.1)] []) (fun kb hkb t ht => kBI_X10_standardNow_4 C hQ  (fun x1 x2 σ => kb (x1, x2, σ)) (fun x1 x2 σ hh => hkb (x1, x2, σ) hh) t.1 t.2.1 t.2.2 ht) n (x1, x2, σ) h
def wpI_X10_standardNow (σ : St) (post : Int32 → St → Prop) : Prop := wpI_X10_standardNow_4 0 0 σ post
theorem kI_X10_standardNow {X : Kx} {l : Launch} {E : Ev} {a : Nat → Nat} {post : Int32 → St → Prop} (C : Cx X l E RX10 cX10_standardNow rmI_X10_standardNow (some .int)) (hQ : QI X (wI E a) post) (σ : St) (h : wpI_X10_standardNow  σ post) : G X (wI E a) σ 0 [some (.ref (a 0)), none, none] [] := by
  unfold wpI_X10_standardNow at h
  refine g_iconst_0 C dX10_standardNow_0 ?_
  refine g_istore_1 C dX10_standardNow_1 (Nat.le_of_ble_eq_true rfl) ?_
  refine g_iconst_0 C dX10_standardNow_2 ?_
  refine g_istore_2 C dX10_standardNow_3 (Nat.le_of_ble_eq_true rfl) ?_
  exact g_wk (kI_X10_standardNow_4 C hQ _ _ _ h) (And.intro rfl (And.intro rfl (And.intro rfl (trivial))))
theorem cI_X10_standardNow {l : Launch} {E : Ev} {a : Nat → Nat} {σ : St} {post : Int32 → St → Prop} (h : wpI_X10_standardNow  σ post) : CI l E (wI E a) yX10_standardNow cX10_standardNow 3 .int rmI_X10_standardNow [.ref (a 0)] σ post := met_i (by decide) rfl (Nat.le_of_ble_eq_true rfl) rfl (fun X C hQ => kI_X10_standardNow C hQ _ h)

theorem fgM_X11_58 {X : Kx} {l : Launch} {E : Ev} {a : Nat → Nat} {σ : St} {cc : ByteArray} {rm : Room} {ret : Option FieldType} {pc : Nat} {lv : List (Option Value)} {st : List Value} (C : Cx X l E RX11 cc rm ret) (d : decode cc pc = .ok (.getfield 58, 3)) (k : G X (wM E a) σ (pc + 3) lv (.ref (a 21) :: st)) : G X (wM E a) σ pc lv (.ref (a 0) :: st) := g_get C (q0 := 0) (ci := 10) (k := 20) rfl rfl inU_X11 (by decide) (by decide +kernel) rfl d k
theorem asM_20 {X : Kx} {l : Launch} {E : Ev} {a : Nat → Nat} {σ : St} {cc : ByteArray} {rm : Room} {ret : Option FieldType} {pc : Nat} {lv : List (Option Value)} {st : List Value} {own : String} {i x : Int32} (C : Cx X l E own cc rm ret) (hin : vp_in i 6) (d : decode cc pc = .ok (.iastore, 1)) (k : G X (wM E a) (pA σ 20 i.toNatClampNeg x) (pc + 1) lv st) : G X (wM E a) σ pc lv (.int x :: .int i :: .ref (a 21) :: st) := g_iast C (q0 := 17) rfl rfl hin d k
/-! IceRunModel.normal()V -/
abbrev rmM_normal : Room := { frames := 0, cells := 0, slots := 0, locals := 0 }
def wpM_normal (σ : St) (post : St → Prop) : Prop := vp_in 0 6 ∧ (let σ1 : St := pA σ 20 (Int32.toNatClampNeg 0) 200; vp_in 1 6 ∧ (let σ2 : St := pA σ1 20 (Int32.toNatClampNeg 1) 100; vp_in 2 6 ∧ (let σ3 : St := pA σ2 20 (Int32.toNatClampNeg 2) 0; vp_in 3 6 ∧ (let σ4 : St := pA σ3 20 (Int32.toNatClampNeg 3) 16; vp_in 4 6 ∧ (let σ5 : St := pA σ4 20 (Int32.toNatClampNeg 4) 4; vp_in 5 6 ∧ (let σ6 : St := pA σ5 20 (Int32.toNatClampNeg 5) 0; post σ6))))))
theorem kM_normal {X : Kx} {l : Launch} {E : Ev} {a : Nat → Nat} {post : St → Prop} (C : Cx X l E RX11 cX11_normal rmM_normal none) (hQ : QV X (wM E a) post) (σ : St) (h : wpM_normal  σ post) : G X (wM E a) σ 0 [some (.ref (a 0))] [] := by
  unfold wpM_normal at h
  refine g_aload_0 C dX11_normal_0 rfl ?_
  refine fgM_X11_58 C dX11_normal_1 ?_
  refine g_iconst_0 C dX11_normal_4 ?_
  refine g_sipush C (v := 200) (by decide) dX11_normal_5 ?_
  obtain ⟨q, h⟩ := h
  refine asM_20 C q dX11_normal_8 ?_
  refine g_aload_0 C dX11_normal_9 rfl ?_
  refine fgM_X11_58 C dX11_normal_10 ?_
  refine g_iconst_1 C dX11_normal_13 ?_
  refine g_bipush C (v := 100) (by decide) dX11_normal_14 ?_
  obtain ⟨q, h⟩ := h
  refine asM_20 C q dX11_normal_16 ?_
  refine g_aload_0 C dX11_normal_17 rfl ?_
  refine fgM_X11_58 C dX11_normal_18 ?_
  refine g_iconst_2 C dX11_normal_21 ?_
  refine g_iconst_0 C dX11_normal_22 ?_
  obtain ⟨q, h⟩ := h
  refine asM_20 C q dX11_normal_23 ?_
  refine g_aload_0 C dX11_normal_24 rfl ?_
  refine fgM_X11_58 C dX11_normal_25 ?_
  refine g_iconst_3 C dX11_normal_28 ?_
  refine g_bipush C (v := 16) (by decide) dX11_normal_29 ?_
  obtain ⟨q, h⟩ := h
  refine asM_20 C q dX11_normal_31 ?_
  refine g_aload_0 C dX11_normal_32 rfl ?_
  refine fgM_X11_58 C dX11_normal_33 ?_
  refine g_iconst_4 C dX11_normal_36 ?_
  refine g_iconst_4 C dX11_normal_37 ?_
  obtain ⟨q, h⟩ := h
  refine asM_20 C q dX11_normal_38 ?_
  refine g_aload_0 C dX11_normal_39 rfl ?_
  refine fgM_X11_58 C dX11_normal_40 ?_
  refine g_iconst_5 C dX11_normal_43 ?_
  refine g_iconst_0 C dX11_normal_44 ?_
  obtain ⟨q, h⟩ := h
  refine asM_20 C q dX11_normal_45 ?_
  exact g_return C hQ dX11_normal_46 h
theorem cM_normal {l : Launch} {E : Ev} {a : Nat → Nat} {σ : St} {post : St → Prop} (h : wpM_normal  σ post) : CV l E (wM E a) yX11_normal cX11_normal 1 rmM_normal [.ref (a 0)] σ post := met_v (by decide) rfl (Nat.le_of_ble_eq_true rfl) rfl (fun X C hQ => kM_normal C hQ _ h)
theorem fgM_X11_55 {X : Kx} {l : Launch} {E : Ev} {a : Nat → Nat} {σ : St} {cc : ByteArray} {rm : Room} {ret : Option FieldType} {pc : Nat} {lv : List (Option Value)} {st : List Value} (C : Cx X l E RX11 cc rm ret) (d : decode cc pc = .ok (.getfield 55, 3)) (k : G X (wM E a) σ (pc + 3) lv (.ref (a 20) :: st)) : G X (wM E a) σ pc lv (.ref (a 0) :: st) := g_get C (q0 := 0) (ci := 10) (k := 19) rfl rfl inU_X11 (by decide) (by decide +kernel) rfl d k
theorem alM_20 {X : Kx} {l : Launch} {E : Ev} {a : Nat → Nat} {σ : St} {cc : ByteArray} {rm : Room} {ret : Option FieldType} {pc : Nat} {lv : List (Option Value)} {st : List Value} {own : String} {i : Int32} (C : Cx X l E own cc rm ret) (hin : vp_in i 6) (d : decode cc pc = .ok (.iaload, 1)) (k : G X (wM E a) σ (pc + 1) lv (.int (σ.2 20 i.toNatClampNeg) :: st)) : G X (wM E a) σ pc lv (.int i :: .ref (a 21) :: st) := g_iald C (q0 := 17) rfl hin d k
theorem asM_19 {X : Kx} {l : Launch} {E : Ev} {a : Nat → Nat} {σ : St} {cc : ByteArray} {rm : Room} {ret : Option FieldType} {pc : Nat} {lv : List (Option Value)} {st : List Value} {own : String} {i x : Int32} (C : Cx X l E own cc rm ret) (hin : vp_in i 6) (d : decode cc pc = .ok (.iastore, 1)) (k : G X (wM E a) (pA σ 19 i.toNatClampNeg x) (pc + 1) lv st) : G X (wM E a) σ pc lv (.int x :: .int i :: .ref (a 20) :: st) := g_iast C (q0 := 16) rfl rfl hin d k
/-! IceRunModel.takes()V -/
abbrev rmM_takes : Room := { frames := 0, cells := 0, slots := 0, locals := 0 }
def wpBM_takes_2 (k_2 : Int32 → St → Prop) (x1 : Int32) (σ : St) (post : St → Prop) : Prop := ((6 ≤ x1 → post σ) ∧ (¬ 6 ≤ x1 → vp_in x1 6 ∧ (vp_in x1 6 ∧ (let σ1 : St := pA σ 19 (Int32.toNatClampNeg x1) (σ.2 20 (Int32.toNatClampNeg x1)); let y2 : Int32 := x1 + 1; k_2 y2 σ1))))
def wpM_takes_2 (x1 : Int32) (σ : St) (post : St → Prop) : Prop := ∃ n : Nat, lpN (α := Int32 × St) (fun kb t => wpBM_takes_2 (fun x1 σ => kb (x1, σ)) t.1 t.2 post) n (x1, σ)
theorem kBM_takes_2 {X : Kx} {l : Launch} {E : Ev} {a : Nat → Nat} {post : St → Prop} (C : Cx X l E RX11 cX11_takes rmM_takes none) (hQ : QV X (wM E a) post) (k_2 : Int32 → St → Prop) (hk_2 : ∀ (x1 : Int32) (σ : St), k_2 x1 σ → G X (wM E a) σ 2 [some (.ref (a 0)), some (.int x1)] []) (x1 : Int32) (σ : St) (h : wpBM_takes_2 k_2 x1 σ post) : G X (wM E a) σ 2 [some (.ref (a 0)), some (.int x1)] [] := by
  unfold wpBM_takes_2 at h
  refine g_iload_1 C dX11_takes_2 rfl ?_
  refine g_bipush C (v := 6) (by decide) dX11_takes_3 ?_
  refine g_icmp_ge C 26 dX11_takes_5 (by decide) (fun q => ?_) (fun q => ?_)
  · have h := h.1 q
    exact g_return C hQ dX11_takes_26 h
  · have h := h.2 q
    refine g_aload_0 C dX11_takes_8 rfl ?_
    refine fgM_X11_55 C dX11_takes_9 ?_
    refine g_iload_1 C dX11_takes_12 rfl ?_
    refine g_aload_0 C dX11_takes_13 rfl ?_
    refine fgM_X11_58 C dX11_takes_14 ?_
    refine g_iload_1 C dX11_takes_17 rfl ?_
    obtain ⟨q, h⟩ := h
    refine alM_20 C q dX11_takes_18 ?_
    obtain ⟨q, h⟩ := h
    refine asM_19 C q dX11_takes_19 ?_
    refine g_iinc C (v := 1) (by decide) dX11_takes_20 rfl ?_
    refine g_goto C 2 dX11_takes_23 (by decide) ?_
    exact g_wk (hk_2 _ _ h) (And.intro rfl (And.intro rfl (trivial)))
theorem kM_takes_2 {X : Kx} {l : Launch} {E : Ev} {a : Nat → Nat} {post : St → Prop} (C : Cx X l E RX11 cX11_takes rmM_takes none) (hQ : QV X (wM E a) post) (x1 : Int32) (σ : St) (h : wpM_takes_2  x1 σ post) : G X (wM E a) σ 2 [some (.ref (a 0)), some (.int x1)] [] := by
  obtain ⟨n, h⟩ := h
  exact g_loop (J := fun t : Int32 × St => G X (wM E a) t.2 2 [some (.ref (a 0)), some (.int t.1)] []) (fun kb hkb t ht => kBM_takes_2 C hQ  (fun x1 σ => kb (x1, σ)) (fun x1 σ hh => hkb (x1, σ) hh) t.1 t.2 ht) n (x1, σ) h
def wpM_takes (σ : St) (post : St → Prop) : Prop := wpM_takes_2 0 σ post
theorem kM_takes {X : Kx} {l : Launch} {E : Ev} {a : Nat → Nat} {post : St → Prop} (C : Cx X l E RX11 cX11_takes rmM_takes none) (hQ : QV X (wM E a) post) (σ : St) (h : wpM_takes  σ post) : G X (wM E a) σ 0 [some (.ref (a 0)), none] [] := by
  unfold wpM_takes at h
  refine g_iconst_0 C dX11_takes_0 ?_
  refine g_istore_1 C dX11_takes_1 (Nat.le_of_ble_eq_true rfl) ?_
  exact g_wk (kM_takes_2 C hQ _ _ h) (And.intro rfl (And.intro rfl (trivial)))
theorem cM_takes {l : Launch} {E : Ev} {a : Nat → Nat} {σ : St} {post : St → Prop} (h : wpM_takes  σ post) : CV l E (wM E a) yX11_takes cX11_takes 2 rmM_takes [.ref (a 0)] σ post := met_v (by decide) rfl (Nat.le_of_ble_eq_true rfl) rfl (fun X C hQ => kM_takes C hQ _ h)
theorem fgM_X11_106 {X : Kx} {l : Launch} {E : Ev} {a : Nat → Nat} {σ : St} {cc : ByteArray} {rm : Room} {ret : Option FieldType} {pc : Nat} {lv : List (Option Value)} {st : List Value} (C : Cx X l E RX11 cc rm ret) (d : decode cc pc = .ok (.getfield 106, 3)) (k : G X (wM E a) σ (pc + 3) lv (.int (σ.1 0) :: st)) : G X (wM E a) σ pc lv (.ref (a 0) :: st) := g_get C (q0 := 0) (ci := 10) (k := 0) rfl rfl inU_X11 (by decide) (by decide +kernel) rfl d k
/-! IceRunModel.thrown()I -/
abbrev rmM_thrown : Room := { frames := 0, cells := 0, slots := 0, locals := 0 }
def wpM_thrown (σ : St) (post : Int32 → St → Prop) : Prop := post (σ.1 0) σ
theorem kM_thrown {X : Kx} {l : Launch} {E : Ev} {a : Nat → Nat} {post : Int32 → St → Prop} (C : Cx X l E RX11 cX11_thrown rmM_thrown (some .int)) (hQ : QI X (wM E a) post) (σ : St) (h : wpM_thrown  σ post) : G X (wM E a) σ 0 [some (.ref (a 0))] [] := by
  unfold wpM_thrown at h
  refine g_aload_0 C dX11_thrown_0 rfl ?_
  refine fgM_X11_106 C dX11_thrown_1 ?_
  exact g_ireturn C hQ dX11_thrown_4 h
theorem cM_thrown {l : Launch} {E : Ev} {a : Nat → Nat} {σ : St} {post : Int32 → St → Prop} (h : wpM_thrown  σ post) : CI l E (wM E a) yX11_thrown cX11_thrown 1 .int rmM_thrown [.ref (a 0)] σ post := met_i (by decide) rfl (Nat.le_of_ble_eq_true rfl) rfl (fun X C hQ => kM_thrown C hQ _ h)
/-! IceRunModel.within(III)Z -/
abbrev rmM_within : Room := { frames := 0, cells := 0, slots := 0, locals := 0 }
def wpM_within_15 (s0 : Int32) (σ : St) (post : Int32 → St → Prop) : Prop := (s0 = 0 ∨ s0 = 1) ∧ post s0 σ
theorem kM_within_15 {X : Kx} {l : Launch} {E : Ev} {a : Nat → Nat} {post : Int32 → St → Prop} (C : Cx X l E RX11 cX11_within rmM_within (some .boolean)) (hQ : QI X (wM E a) post) (s0 : Int32) (σ : St) (h : wpM_within_15  s0 σ post) : G X (wM E a) σ 15 [none, none, none] [.int s0] := by
  unfold wpM_within_15 at h
  exact g_zreturn C hQ dX11_within_15 h.1 h.2
def wpM_within_14 (σ : St) (post : Int32 → St → Prop) : Prop := wpM_within_15 0 σ post
theorem kM_within_14 {X : Kx} {l : Launch} {E : Ev} {a : Nat → Nat} {post : Int32 → St → Prop} (C : Cx X l E RX11 cX11_within rmM_within (some .boolean)) (hQ : QI X (wM E a) post) (σ : St) (h : wpM_within_14   σ post) : G X (wM E a) σ 14 [none, none, none] [] := by
  unfold wpM_within_14 at h
  refine g_iconst_0 C dX11_within_14 ?_
  exact g_wk (kM_within_15 C hQ _ _ h) (trivial)
def wpM_within (x0 x1 x2 : Int32) (σ : St) (post : Int32 → St → Prop) : Prop := ((x0 < x1 → wpM_within_14 σ post) ∧ (¬ x0 < x1 → ((x2 < x0 → wpM_within_14 σ post) ∧ (¬ x2 < x0 → wpM_within_15 1 σ post))))
theorem kM_within {X : Kx} {l : Launch} {E : Ev} {a : Nat → Nat} {post : Int32 → St → Prop} (C : Cx X l E RX11 cX11_within rmM_within (some .boolean)) (hQ : QI X (wM E a) post) (x0 x1 x2 : Int32) (σ : St) (h : wpM_within x0 x1 x2 σ post) : G X (wM E a) σ 0 [some (.int x0), some (.int x1), some (.int x2)] [] := by
  unfold wpM_within at h
  refine g_iload_0 C dX11_within_0 rfl ?_
  refine g_iload_1 C dX11_within_1 rfl ?_
  refine g_icmp_lt C 14 dX11_within_2 (by decide) (fun q => ?_) (fun q => ?_)
  · have h := h.1 q
    exact g_wk (kM_within_14 C hQ _ h) (trivial)
  · have h := h.2 q
    refine g_iload_0 C dX11_within_5 rfl ?_
    refine g_iload_2 C dX11_within_6 rfl ?_
    refine g_icmp_gt C 14 dX11_within_7 (by decide) (fun q => ?_) (fun q => ?_)
    · have h := h.1 q
      exact g_wk (kM_within_14 C hQ _ h) (trivial)
    · have h := h.2 q
      refine g_iconst_1 C dX11_within_10 ?_
      refine g_goto C 15 dX11_within_11 (by decide) ?_
      exact g_wk (kM_within_15 C hQ _ _ h) (trivial)
theorem cM_within {l : Launch} {E : Ev} {a : Nat → Nat} {x0 x1 x2 : Int32} {σ : St} {post : Int32 → St → Prop} (h : wpM_within x0 x1 x2 σ post) : CI l E (wM E a) yX11_within cX11_within 3 .boolean rmM_within [.int x0, .int x1, .int x2] σ post := met_i (by decide) rfl (Nat.le_of_ble_eq_true rfl) rfl (fun X C hQ => kM_within C hQ _ _ _ _ h)
theorem fgM_X11_28 {X : Kx} {l : Launch} {E : Ev} {a : Nat → Nat} {σ : St} {cc : ByteArray} {rm : Room} {ret : Option FieldType} {pc : Nat} {lv : List (Option Value)} {st : List Value} (C : Cx X l E RX11 cc rm ret) (d : decode cc pc = .ok (.getfield 28, 3)) (k : G X (wM E a) σ (pc + 3) lv (.ref (a 10) :: st)) : G X (wM E a) σ pc lv (.ref (a 0) :: st) := g_get C (q0 := 0) (ci := 10) (k := 9) rfl rfl inU_X11 (by decide) (by decide +kernel) rfl d k
theorem asM_9 {X : Kx} {l : Launch} {E : Ev} {a : Nat → Nat} {σ : St} {cc : ByteArray} {rm : Room} {ret : Option FieldType} {pc : Nat} {lv : List (Option Value)} {st : List Value} {own : String} {i x : Int32} (C : Cx X l E own cc rm ret) (hin : vp_in i 12) (d : decode cc pc = .ok (.iastore, 1)) (k : G X (wM E a) (pA σ 9 i.toNatClampNeg x) (pc + 1) lv st) : G X (wM E a) σ pc lv (.int x :: .int i :: .ref (a 10) :: st) := g_iast C (q0 := 7) rfl rfl hin d k
theorem fgM_X11_25 {X : Kx} {l : Launch} {E : Ev} {a : Nat → Nat} {σ : St} {cc : ByteArray} {rm : Room} {ret : Option FieldType} {pc : Nat} {lv : List (Option Value)} {st : List Value} (C : Cx X l E RX11 cc rm ret) (d : decode cc pc = .ok (.getfield 25, 3)) (k : G X (wM E a) σ (pc + 3) lv (.ref (a 9) :: st)) : G X (wM E a) σ pc lv (.ref (a 0) :: st) := g_get C (q0 := 0) (ci := 10) (k := 8) rfl rfl inU_X11 (by decide) (by decide +kernel) rfl d k
theorem asM_8 {X : Kx} {l : Launch} {E : Ev} {a : Nat → Nat} {σ : St} {cc : ByteArray} {rm : Room} {ret : Option FieldType} {pc : Nat} {lv : List (Option Value)} {st : List Value} {own : String} {i x : Int32} (C : Cx X l E own cc rm ret) (hin : vp_in i 6) (d : decode cc pc = .ok (.iastore, 1)) (k : G X (wM E a) (pA σ 8 i.toNatClampNeg x) (pc + 1) lv st) : G X (wM E a) σ pc lv (.int x :: .int i :: .ref (a 9) :: st) := g_iast C (q0 := 6) rfl rfl hin d k
theorem fgM_X11_7 {X : Kx} {l : Launch} {E : Ev} {a : Nat → Nat} {σ : St} {cc : ByteArray} {rm : Room} {ret : Option FieldType} {pc : Nat} {lv : List (Option Value)} {st : List Value} (C : Cx X l E RX11 cc rm ret) (d : decode cc pc = .ok (.getfield 7, 3)) (k : G X (wM E a) σ (pc + 3) lv (.ref (a 4) :: st)) : G X (wM E a) σ pc lv (.ref (a 0) :: st) := g_get C (q0 := 0) (ci := 10) (k := 3) rfl rfl inU_X11 (by decide) (by decide +kernel) rfl d k
theorem asM_3 {X : Kx} {l : Launch} {E : Ev} {a : Nat → Nat} {σ : St} {cc : ByteArray} {rm : Room} {ret : Option FieldType} {pc : Nat} {lv : List (Option Value)} {st : List Value} {own : String} {i x : Int32} (C : Cx X l E own cc rm ret) (hin : vp_in i 40) (d : decode cc pc = .ok (.iastore, 1)) (k : G X (wM E a) (pA σ 3 i.toNatClampNeg x) (pc + 1) lv st) : G X (wM E a) σ pc lv (.int x :: .int i :: .ref (a 4) :: st) := g_iast C (q0 := 1) rfl rfl hin d k
theorem fgM_X11_13 {X : Kx} {l : Launch} {E : Ev} {a : Nat → Nat} {σ : St} {cc : ByteArray} {rm : Room} {ret : Option FieldType} {pc : Nat} {lv : List (Option Value)} {st : List Value} (C : Cx X l E RX11 cc rm ret) (d : decode cc pc = .ok (.getfield 13, 3)) (k : G X (wM E a) σ (pc + 3) lv (.ref (a 5) :: st)) : G X (wM E a) σ pc lv (.ref (a 0) :: st) := g_get C (q0 := 0) (ci := 10) (k := 4) rfl rfl inU_X11 (by decide) (by decide +kernel) rfl d k
theorem asM_4 {X : Kx} {l : Launch} {E : Ev} {a : Nat → Nat} {σ : St} {cc : ByteArray} {rm : Room} {ret : Option FieldType} {pc : Nat} {lv : List (Option Value)} {st : List Value} {own : String} {i x : Int32} (C : Cx X l E own cc rm ret) (hin : vp_in i 40) (d : decode cc pc = .ok (.iastore, 1)) (k : G X (wM E a) (pA σ 4 i.toNatClampNeg x) (pc + 1) lv st) : G X (wM E a) σ pc lv (.int x :: .int i :: .ref (a 5) :: st) := g_iast C (q0 := 2) rfl rfl hin d k
theorem fgM_X11_16 {X : Kx} {l : Launch} {E : Ev} {a : Nat → Nat} {σ : St} {cc : ByteArray} {rm : Room} {ret : Option FieldType} {pc : Nat} {lv : List (Option Value)} {st : List Value} (C : Cx X l E RX11 cc rm ret) (d : decode cc pc = .ok (.getfield 16, 3)) (k : G X (wM E a) σ (pc + 3) lv (.ref (a 6) :: st)) : G X (wM E a) σ pc lv (.ref (a 0) :: st) := g_get C (q0 := 0) (ci := 10) (k := 5) rfl rfl inU_X11 (by decide) (by decide +kernel) rfl d k
theorem asM_5 {X : Kx} {l : Launch} {E : Ev} {a : Nat → Nat} {σ : St} {cc : ByteArray} {rm : Room} {ret : Option FieldType} {pc : Nat} {lv : List (Option Value)} {st : List Value} {own : String} {i x : Int32} (C : Cx X l E own cc rm ret) (hin : vp_in i 40) (d : decode cc pc = .ok (.iastore, 1)) (k : G X (wM E a) (pA σ 5 i.toNatClampNeg x) (pc + 1) lv st) : G X (wM E a) σ pc lv (.int x :: .int i :: .ref (a 6) :: st) := g_iast C (q0 := 3) rfl rfl hin d k
theorem fgM_X11_19 {X : Kx} {l : Launch} {E : Ev} {a : Nat → Nat} {σ : St} {cc : ByteArray} {rm : Room} {ret : Option FieldType} {pc : Nat} {lv : List (Option Value)} {st : List Value} (C : Cx X l E RX11 cc rm ret) (d : decode cc pc = .ok (.getfield 19, 3)) (k : G X (wM E a) σ (pc + 3) lv (.ref (a 7) :: st)) : G X (wM E a) σ pc lv (.ref (a 0) :: st) := g_get C (q0 := 0) (ci := 10) (k := 6) rfl rfl inU_X11 (by decide) (by decide +kernel) rfl d k
theorem asM_6 {X : Kx} {l : Launch} {E : Ev} {a : Nat → Nat} {σ : St} {cc : ByteArray} {rm : Room} {ret : Option FieldType} {pc : Nat} {lv : List (Option Value)} {st : List Value} {own : String} {i x : Int32} (C : Cx X l E own cc rm ret) (hin : vp_in i 40) (d : decode cc pc = .ok (.iastore, 1)) (k : G X (wM E a) (pA σ 6 i.toNatClampNeg x) (pc + 1) lv st) : G X (wM E a) σ pc lv (.int x :: .int i :: .ref (a 7) :: st) := g_iast C (q0 := 4) rfl rfl hin d k
theorem fgM_X11_22 {X : Kx} {l : Launch} {E : Ev} {a : Nat → Nat} {σ : St} {cc : ByteArray} {rm : Room} {ret : Option FieldType} {pc : Nat} {lv : List (Option Value)} {st : List Value} (C : Cx X l E RX11 cc rm ret) (d : decode cc pc = .ok (.getfield 22, 3)) (k : G X (wM E a) σ (pc + 3) lv (.ref (a 8) :: st)) : G X (wM E a) σ pc lv (.ref (a 0) :: st) := g_get C (q0 := 0) (ci := 10) (k := 7) rfl rfl inU_X11 (by decide) (by decide +kernel) rfl d k
theorem asM_7 {X : Kx} {l : Launch} {E : Ev} {a : Nat → Nat} {σ : St} {cc : ByteArray} {rm : Room} {ret : Option FieldType} {pc : Nat} {lv : List (Option Value)} {st : List Value} {own : String} {i x : Int32} (C : Cx X l E own cc rm ret) (hin : vp_in i 40) (d : decode cc pc = .ok (.iastore, 1)) (k : G X (wM E a) (pA σ 7 i.toNatClampNeg x) (pc + 1) lv st) : G X (wM E a) σ pc lv (.int x :: .int i :: .ref (a 8) :: st) := g_iast C (q0 := 5) rfl rfl hin d k
theorem fpM_X11_106 {X : Kx} {l : Launch} {E : Ev} {a : Nat → Nat} {σ : St} {cc : ByteArray} {rm : Room} {ret : Option FieldType} {pc : Nat} {lv : List (Option Value)} {st : List Value} {v : Int32} (C : Cx X l E RX11 cc rm ret) (d : decode cc pc = .ok (.putfield 106, 3)) (k : G X (wM E a) (pI σ 0 v) (pc + 3) lv st) : G X (wM E a) σ pc lv (.int v :: .ref (a 0) :: st) := g_put C (q0 := 0) (ci := 10) (k := 0) (ty0 := tyX11) rfl rfl inU_X11 (by decide) tyX11_ok nmX11 (by decide +kernel) rfl rfl rfl (Nat.le_of_ble_eq_true rfl) rfl d k
theorem csM_X11_109 {X : Kx} {l : Launch} {E : Ev} {a : Nat → Nat} {σ : St} {cc : ByteArray} {rm : Room} {ret : Option FieldType} {pc : Nat} {lv : List (Option Value)} {rest : List Value} {x0 x1 x2 : Int32} {post : Int32 → St → Prop} (C : Cx X l E RX11 cc rm ret) (h : wpM_within x0 x1 x2 σ post) (hR : 0 + 1 ≤ rm.frames ∧ 8 + (3 + 11) + 0 ≤ rm.locals) (hW : (rest.map fun v => v.category).sum ≤ 8) (d : decode cc pc = .ok (.invokestatic 109, 3)) (k : ∀ (r : Int32) (u : St), post r u → G X (wM E a) u (pc + 3) lv (.int r :: rest)) : G X (wM E a) σ pc lv (.int x2 :: .int x1 :: .int x0 :: rest) := g_callSi C 3 (As := [.int x0, .int x1, .int x2]) (rest := rest) (by decide +kernel) (by decide +kernel) (by decide +kernel) (by decide +kernel) (by decide +kernel) (cM_within h) ⟨rfl, rfl⟩ hR rfl rfl hW d k
theorem fgM_X11_113 {X : Kx} {l : Launch} {E : Ev} {a : Nat → Nat} {σ : St} {cc : ByteArray} {rm : Room} {ret : Option FieldType} {pc : Nat} {lv : List (Option Value)} {st : List Value} (C : Cx X l E RX11 cc rm ret) (d : decode cc pc = .ok (.getfield 113, 3)) (k : G X (wM E a) σ (pc + 3) lv (.int (σ.1 26) :: st)) : G X (wM E a) σ pc lv (.ref (a 0) :: st) := g_get C (q0 := 0) (ci := 10) (k := 26) rfl rfl inU_X11 (by decide) (by decide +kernel) rfl d k
theorem fpM_X11_117 {X : Kx} {l : Launch} {E : Ev} {a : Nat → Nat} {σ : St} {cc : ByteArray} {rm : Room} {ret : Option FieldType} {pc : Nat} {lv : List (Option Value)} {st : List Value} {v : Int32} (C : Cx X l E RX11 cc rm ret) (d : decode cc pc = .ok (.putfield 117, 3)) (k : G X (wM E a) (pI σ 1 v) (pc + 3) lv st) : G X (wM E a) σ pc lv (.int v :: .ref (a 0) :: st) := g_put C (q0 := 0) (ci := 10) (k := 1) (ty0 := tyX11) rfl rfl inU_X11 (by decide) tyX11_ok nmX11 (by decide +kernel) rfl rfl rfl (Nat.le_of_ble_eq_true rfl) rfl d k
theorem fpM_X11_120 {X : Kx} {l : Launch} {E : Ev} {a : Nat → Nat} {σ : St} {cc : ByteArray} {rm : Room} {ret : Option FieldType} {pc : Nat} {lv : List (Option Value)} {st : List Value} {v : Int32} (C : Cx X l E RX11 cc rm ret) (d : decode cc pc = .ok (.putfield 120, 3)) (k : G X (wM E a) (pI σ 2 v) (pc + 3) lv st) : G X (wM E a) σ pc lv (.int v :: .ref (a 0) :: st) := g_put C (q0 := 0) (ci := 10) (k := 2) (ty0 := tyX11) rfl rfl inU_X11 (by decide) tyX11_ok nmX11 (by decide +kernel) rfl rfl rfl (Nat.le_of_ble_eq_true rfl) rfl d k
/-! IceRunModel.track(II)Z -/
abbrev rmM_track : Room := { frames := 1, cells := 0, slots := 0, locals := 22 }
def wpM_track_32 (σ : St) (post : Int32 → St → Prop) : Prop := post 0 σ
theorem kM_track_32 {X : Kx} {l : Launch} {E : Ev} {a : Nat → Nat} {post : Int32 → St → Prop} (C : Cx X l E RX11 cX11_track rmM_track (some .boolean)) (hQ : QI X (wM E a) post) (σ : St) (h : wpM_track_32   σ post) : G X (wM E a) σ 32 [none, none, none, none] [] := by
  unfold wpM_track_32 at h
  refine g_iconst_0 C dX11_track_32 ?_
  exact g_zreturn C hQ dX11_track_33 (Or.inl rfl) h
def wpBM_track_124 (k_124 : Int32 → St → Prop) (x3 : Int32) (σ : St) (post : Int32 → St → Prop) : Prop := ((12 ≤ x3 → post 1 σ) ∧ (¬ 12 ≤ x3 → vp_in x3 12 ∧ (let σ1 : St := pA σ 9 (Int32.toNatClampNeg x3) 0; let y2 : Int32 := x3 + 1; k_124 y2 σ1)))
def wpM_track_124 (x3 : Int32) (σ : St) (post : Int32 → St → Prop) : Prop := ∃ n : Nat, lpN (α := Int32 × St) (fun kb t => wpBM_track_124 (fun x3 σ => kb (x3, σ)) t.1 t.2 post) n (x3, σ)
theorem kBM_track_124 {X : Kx} {l : Launch} {E : Ev} {a : Nat → Nat} {post : Int32 → St → Prop} (C : Cx X l E RX11 cX11_track rmM_track (some .boolean)) (hQ : QI X (wM E a) post) (k_124 : Int32 → St → Prop) (hk_124 : ∀ (x3 : Int32) (σ : St), k_124 x3 σ → G X (wM E a) σ 124 [some (.ref (a 0)), none, none, some (.int x3)] []) (x3 : Int32) (σ : St) (h : wpBM_track_124 k_124 x3 σ post) : G X (wM E a) σ 124 [some (.ref (a 0)), none, none, some (.int x3)] [] := by
  unfold wpBM_track_124 at h
  refine g_iload_3 C dX11_track_124 rfl ?_
  refine g_bipush C (v := 12) (by decide) dX11_track_125 ?_
  refine g_icmp_ge C 143 dX11_track_127 (by decide) (fun q => ?_) (fun q => ?_)
  · have h := h.1 q
    refine g_iconst_1 C dX11_track_143 ?_
    exact g_zreturn C hQ dX11_track_144 (Or.inr rfl) h
  · have h := h.2 q
    refine g_aload_0 C dX11_track_130 rfl ?_
    refine fgM_X11_28 C dX11_track_131 ?_
    refine g_iload_3 C dX11_track_134 rfl ?_
    refine g_iconst_0 C dX11_track_135 ?_
    obtain ⟨q, h⟩ := h
    refine asM_9 C q dX11_track_136 ?_
    refine g_iinc C (v := 1) (by decide) dX11_track_137 rfl ?_
    refine g_goto C 124 dX11_track_140 (by decide) ?_
    exact g_wk (hk_124 _ _ h) (And.intro rfl (And.intro rfl (trivial)))
theorem kM_track_124 {X : Kx} {l : Launch} {E : Ev} {a : Nat → Nat} {post : Int32 → St → Prop} (C : Cx X l E RX11 cX11_track rmM_track (some .boolean)) (hQ : QI X (wM E a) post) (x3 : Int32) (σ : St) (h : wpM_track_124  x3 σ post) : G X (wM E a) σ 124 [some (.ref (a 0)), none, none, some (.int x3)] [] := by
  obtain ⟨n, h⟩ := h
  exact g_loop (J := fun t : Int32 × St => G X (wM E a) t.2 124 [some (.ref (a 0)), none, none, some (.int t.1)] []) (fun kb hkb t ht => kBM_track_124 C hQ  (fun x3 σ => kb (x3, σ)) (fun x3 σ hh => hkb (x3, σ) hh) t.1 t.2 ht) n (x3, σ) h
def wpBM_track_98 (k_98 : Int32 → Int32 → Int32 → St → Prop) (x1 x2 x3 : Int32) (σ : St) (post : Int32 → St → Prop) : Prop := ((x2 ≤ x3 → wpM_track_124 0 σ post) ∧ (¬ x2 ≤ x3 → (¬ (x2 - 1) = 0) ∧ (vp_in x3 6 ∧ (let σ1 : St := pA σ 8 (Int32.toNatClampNeg x3) ((x3 * x1) / (x2 - 1)); let y2 : Int32 := x3 + 1; k_98 x1 x2 y2 σ1))))
def wpM_track_98 (x1 x2 x3 : Int32) (σ : St) (post : Int32 → St → Prop) : Prop := ∃ n : Nat, lpN (α := Int32 × Int32 × Int32 × St) (fun kb t => wpBM_track_98 (fun x1 x2 x3 σ => kb (x1, x2, x3, σ)) t.1 t.2.1 t.2.2.1 t.2.2.2 post) n (x1, x2, x3, σ)
theorem kBM_track_98 {X : Kx} {l : Launch} {E : Ev} {a : Nat → Nat} {post : Int32 → St → Prop} (C : Cx X l E RX11 cX11_track rmM_track (some .boolean)) (hQ : QI X (wM E a) post) (k_98 : Int32 → Int32 → Int32 → St → Prop) (hk_98 : ∀ (x1 x2 x3 : Int32) (σ : St), k_98 x1 x2 x3 σ → G X (wM E a) σ 98 [some (.ref (a 0)), some (.int x1), some (.int x2), some (.int x3)] []) (x1 x2 x3 : Int32) (σ : St) (h : wpBM_track_98 k_98 x1 x2 x3 σ post) : G X (wM E a) σ 98 [some (.ref (a 0)), some (.int x1), some (.int x2), some (.int x3)] [] := by
  unfold wpBM_track_98 at h
  refine g_iload_3 C dX11_track_98 rfl ?_
  refine g_iload_2 C dX11_track_99 rfl ?_
  refine g_icmp_ge C 122 dX11_track_100 (by decide) (fun q => ?_) (fun q => ?_)
  · have h := h.1 q
    refine g_iconst_0 C dX11_track_122 ?_
    refine g_istore_3 C dX11_track_123 (Nat.le_of_ble_eq_true rfl) ?_
    exact g_wk (kM_track_124 C hQ _ _ h) (And.intro rfl (And.intro rfl (trivial)))
  · have h := h.2 q
    refine g_aload_0 C dX11_track_103 rfl ?_
    refine fgM_X11_25 C dX11_track_104 ?_
    refine g_iload_3 C dX11_track_107 rfl ?_
    refine g_iload_3 C dX11_track_108 rfl ?_
    refine g_iload_1 C dX11_track_109 rfl ?_
    refine g_imul C dX11_track_110 ?_
    refine g_iload_2 C dX11_track_111 rfl ?_
    refine g_iconst_1 C dX11_track_112 ?_
    refine g_isub C dX11_track_113 ?_
    obtain ⟨q, h⟩ := h
    refine g_idiv C q dX11_track_114 ?_
    obtain ⟨q, h⟩ := h
    refine asM_8 C q dX11_track_115 ?_
    refine g_iinc C (v := 1) (by decide) dX11_track_116 rfl ?_
    refine g_goto C 98 dX11_track_119 (by decide) ?_
    exact g_wk (hk_98 _ _ _ _ h) (And.intro rfl (And.intro rfl (And.intro rfl (And.intro rfl (trivial)))))
theorem kM_track_98 {X : Kx} {l : Launch} {E : Ev} {a : Nat → Nat} {post : Int32 → St → Prop} (C : Cx X l E RX11 cX11_track rmM_track (some .boolean)) (hQ : QI X (wM E a) post) (x1 x2 x3 : Int32) (σ : St) (h : wpM_track_98  x1 x2 x3 σ post) : G X (wM E a) σ 98 [some (.ref (a 0)), some (.int x1), some (.int x2), some (.int x3)] [] := by
  obtain ⟨n, h⟩ := h
  exact g_loop (J := fun t : Int32 × Int32 × Int32 × St => G X (wM E a) t.2.2.2 98 [some (.ref (a 0)), some (.int t.1), some (.int t.2.1), some (.int t.2.2.1)] []) (fun kb hkb t ht => kBM_track_98 C hQ  (fun x1 x2 x3 σ => kb (x1, x2, x3, σ)) (fun x1 x2 x3 σ hh => hkb (x1, x2, x3, σ) hh) t.1 t.2.1 t.2.2.1 t.2.2.2 ht) n (x1, x2, x3, σ) h
def wpBM_track_46 (k_46 : Int32 → Int32 → Int32 → St → Prop) (x1 x2 x3 : Int32) (σ : St) (post : Int32 → St → Prop) : Prop := ((x1 ≤ x3 → wpM_track_98 x1 x2 0 σ post) ∧ (¬ x1 ≤ x3 → vp_in x3 40 ∧ (let σ1 : St := pA σ 3 (Int32.toNatClampNeg x3) 200; vp_in x3 40 ∧ (let σ2 : St := pA σ1 4 (Int32.toNatClampNeg x3) 0; vp_in x3 40 ∧ (let σ3 : St := pA σ2 5 (Int32.toNatClampNeg x3) 0; vp_in x3 40 ∧ (let σ4 : St := pA σ3 6 (Int32.toNatClampNeg x3) 500; vp_in x3 40 ∧ (let σ5 : St := pA σ4 7 (Int32.toNatClampNeg x3) 0; let y6 : Int32 := x3 + 1; k_46 x1 x2 y6 σ5)))))))
def wpM_track_46 (x1 x2 x3 : Int32) (σ : St) (post : Int32 → St → Prop) : Prop := ∃ n : Nat, lpN (α := Int32 × Int32 × Int32 × St) (fun kb t => wpBM_track_46 (fun x1 x2 x3 σ => kb (x1, x2, x3, σ)) t.1 t.2.1 t.2.2.1 t.2.2.2 post) n (x1, x2, x3, σ)
theorem kBM_track_46 {X : Kx} {l : Launch} {E : Ev} {a : Nat → Nat} {post : Int32 → St → Prop} (C : Cx X l E RX11 cX11_track rmM_track (some .boolean)) (hQ : QI X (wM E a) post) (k_46 : Int32 → Int32 → Int32 → St → Prop) (hk_46 : ∀ (x1 x2 x3 : Int32) (σ : St), k_46 x1 x2 x3 σ → G X (wM E a) σ 46 [some (.ref (a 0)), some (.int x1), some (.int x2), some (.int x3)] []) (x1 x2 x3 : Int32) (σ : St) (h : wpBM_track_46 k_46 x1 x2 x3 σ post) : G X (wM E a) σ 46 [some (.ref (a 0)), some (.int x1), some (.int x2), some (.int x3)] [] := by
  unfold wpBM_track_46 at h
  refine g_iload_3 C dX11_track_46 rfl ?_
  refine g_iload_1 C dX11_track_47 rfl ?_
  refine g_icmp_ge C 96 dX11_track_48 (by decide) (fun q => ?_) (fun q => ?_)
  · have h := h.1 q
    refine g_iconst_0 C dX11_track_96 ?_
    refine g_istore_3 C dX11_track_97 (Nat.le_of_ble_eq_true rfl) ?_
    exact g_wk (kM_track_98 C hQ _ _ _ _ h) (And.intro rfl (And.intro rfl (And.intro rfl (And.intro rfl (trivial)))))
  · have h := h.2 q
    refine g_aload_0 C dX11_track_51 rfl ?_
    refine fgM_X11_7 C dX11_track_52 ?_
    refine g_iload_3 C dX11_track_55 rfl ?_
    refine g_sipush C (v := 200) (by decide) dX11_track_56 ?_
    obtain ⟨q, h⟩ := h
    refine asM_3 C q dX11_track_59 ?_
    refine g_aload_0 C dX11_track_60 rfl ?_
    refine fgM_X11_13 C dX11_track_61 ?_
    refine g_iload_3 C dX11_track_64 rfl ?_
    refine g_iconst_0 C dX11_track_65 ?_
    obtain ⟨q, h⟩ := h
    refine asM_4 C q dX11_track_66 ?_
    refine g_aload_0 C dX11_track_67 rfl ?_
    refine fgM_X11_16 C dX11_track_68 ?_
    refine g_iload_3 C dX11_track_71 rfl ?_
    refine g_iconst_0 C dX11_track_72 ?_
    obtain ⟨q, h⟩ := h
    refine asM_5 C q dX11_track_73 ?_
    refine g_aload_0 C dX11_track_74 rfl ?_
    refine fgM_X11_19 C dX11_track_75 ?_
    refine g_iload_3 C dX11_track_78 rfl ?_
    refine g_sipush C (v := 500) (by decide) dX11_track_79 ?_
    obtain ⟨q, h⟩ := h
    refine asM_6 C q dX11_track_82 ?_
    refine g_aload_0 C dX11_track_83 rfl ?_
    refine fgM_X11_22 C dX11_track_84 ?_
    refine g_iload_3 C dX11_track_87 rfl ?_
    refine g_iconst_0 C dX11_track_88 ?_
    obtain ⟨q, h⟩ := h
    refine asM_7 C q dX11_track_89 ?_
    refine g_iinc C (v := 1) (by decide) dX11_track_90 rfl ?_
    refine g_goto C 46 dX11_track_93 (by decide) ?_
    exact g_wk (hk_46 _ _ _ _ h) (And.intro rfl (And.intro rfl (And.intro rfl (And.intro rfl (trivial)))))
theorem kM_track_46 {X : Kx} {l : Launch} {E : Ev} {a : Nat → Nat} {post : Int32 → St → Prop} (C : Cx X l E RX11 cX11_track rmM_track (some .boolean)) (hQ : QI X (wM E a) post) (x1 x2 x3 : Int32) (σ : St) (h : wpM_track_46  x1 x2 x3 σ post) : G X (wM E a) σ 46 [some (.ref (a 0)), some (.int x1), some (.int x2), some (.int x3)] [] := by
  obtain ⟨n, h⟩ := h
  exact g_loop (J := fun t : Int32 × Int32 × Int32 × St => G X (wM E a) t.2.2.2 46 [some (.ref (a 0)), some (.int t.1), some (.int t.2.1), some (.int t.2.2.1)] []) (fun kb hkb t ht => kBM_track_46 C hQ  (fun x1 x2 x3 σ => kb (x1, x2, x3, σ)) (fun x1 x2 x3 σ hh => hkb (x1, x2, x3, σ) hh) t.1 t.2.1 t.2.2.1 t.2.2.2 ht) n (x1, x2, x3, σ) h
def wpM_track (x1 x2 : Int32) (σ : St) (post : Int32 → St → Prop) : Prop := let σ1 : St := pI σ 0 0; wpM_within x1 5 40 σ1 (fun r3 σ2 => ((r3 = 0 → wpM_track_32 σ2 post) ∧ (¬ r3 = 0 → wpM_within x2 2 6 σ2 (fun r5 σ4 => ((r5 = 0 → wpM_track_32 σ4 post) ∧ (¬ r5 = 0 → (((σ4.1 26) = 0 → let σ6 : St := pI σ4 1 x1; let σ7 : St := pI σ6 2 x2; wpM_track_46 x1 x2 0 σ7 post) ∧ (¬ (σ4.1 26) = 0 → wpM_track_32 σ4 post))))))))
theorem kM_track {X : Kx} {l : Launch} {E : Ev} {a : Nat → Nat} {post : Int32 → St → Prop} (C : Cx X l E RX11 cX11_track rmM_track (some .boolean)) (hQ : QI X (wM E a) post) (x1 x2 : Int32) (σ : St) (h : wpM_track x1 x2 σ post) : G X (wM E a) σ 0 [some (.ref (a 0)), some (.int x1), some (.int x2), none] [] := by
  unfold wpM_track at h
  refine g_aload_0 C dX11_track_0 rfl ?_
  refine g_iconst_0 C dX11_track_1 ?_
  refine fpM_X11_106 C dX11_track_2 ?_
  refine g_iload_1 C dX11_track_5 rfl ?_
  refine g_iconst_5 C dX11_track_6 ?_
  refine g_bipush C (v := 40) (by decide) dX11_track_7 ?_
  refine csM_X11_109 C h ⟨Nat.le_of_ble_eq_true rfl, Nat.le_of_ble_eq_true rfl⟩ (Nat.le_of_ble_eq_true rfl) dX11_track_9 (fun _ _ h => ?_)
  refine g_if_eq C 32 dX11_track_12 (by decide) (fun q => ?_) (fun q => ?_)
  · have h := h.1 q
    exact g_wk (kM_track_32 C hQ _ h) (trivial)
  · have h := h.2 q
    refine g_iload_2 C dX11_track_15 rfl ?_
    refine g_iconst_2 C dX11_track_16 ?_
    refine g_bipush C (v := 6) (by decide) dX11_track_17 ?_
    refine csM_X11_109 C h ⟨Nat.le_of_ble_eq_true rfl, Nat.le_of_ble_eq_true rfl⟩ (Nat.le_of_ble_eq_true rfl) dX11_track_19 (fun _ _ h => ?_)
    refine g_if_eq C 32 dX11_track_22 (by decide) (fun q => ?_) (fun q => ?_)
    · have h := h.1 q
      exact g_wk (kM_track_32 C hQ _ h) (trivial)
    · have h := h.2 q
      refine g_aload_0 C dX11_track_25 rfl ?_
      refine fgM_X11_113 C dX11_track_26 ?_
      refine g_if_eq C 34 dX11_track_29 (by decide) (fun q => ?_) (fun q => ?_)
      · have h := h.1 q
        refine g_aload_0 C dX11_track_34 rfl ?_
        refine g_iload_1 C dX11_track_35 rfl ?_
        refine fpM_X11_117 C dX11_track_36 ?_
        refine g_aload_0 C dX11_track_39 rfl ?_
        refine g_iload_2 C dX11_track_40 rfl ?_
        refine fpM_X11_120 C dX11_track_41 ?_
        refine g_iconst_0 C dX11_track_44 ?_
        refine g_istore_3 C dX11_track_45 (Nat.le_of_ble_eq_true rfl) ?_
        exact g_wk (kM_track_46 C hQ _ _ _ _ h) (And.intro rfl (And.intro rfl (And.intro rfl (And.intro rfl (trivial)))))
      · have h := h.2 q
        exact g_wk (kM_track_32 C hQ _ h) (trivial)
theorem cM_track {l : Launch} {E : Ev} {a : Nat → Nat} {x1 x2 : Int32} {σ : St} {post : Int32 → St → Prop} (h : wpM_track x1 x2 σ post) : CI l E (wM E a) yX11_track cX11_track 4 .boolean rmM_track [.ref (a 0), .int x1, .int x2] σ post := met_i (by decide) rfl (Nat.le_of_ble_eq_true rfl) rfl (fun X C hQ => kM_track C hQ _ _ _ h)
theorem fgM_X11_117 {X : Kx} {l : Launch} {E : Ev} {a : Nat → Nat} {σ : St} {cc : ByteArray} {rm : Room} {ret : Option FieldType} {pc : Nat} {lv : List (Option Value)} {st : List Value} (C : Cx X l E RX11 cc rm ret) (d : decode cc pc = .ok (.getfield 117, 3)) (k : G X (wM E a) σ (pc + 3) lv (.int (σ.1 1) :: st)) : G X (wM E a) σ pc lv (.ref (a 0) :: st) := g_get C (q0 := 0) (ci := 10) (k := 1) rfl rfl inU_X11 (by decide) (by decide +kernel) rfl d k
/-! IceRunModel.isCell(I)Z -/
abbrev rmM_isCell : Room := { frames := 1, cells := 0, slots := 0, locals := 22 }
def wpM_isCell (x1 : Int32) (σ : St) (post : Int32 → St → Prop) : Prop := wpM_within x1 0 ((σ.1 1) - 1) σ (fun r2 σ1 => (r2 = 0 ∨ r2 = 1) ∧ post r2 σ1)
theorem kM_isCell {X : Kx} {l : Launch} {E : Ev} {a : Nat → Nat} {post : Int32 → St → Prop} (C : Cx X l E RX11 cX11_isCell rmM_isCell (some .boolean)) (hQ : QI X (wM E a) post) (x1 : Int32) (σ : St) (h : wpM_isCell x1 σ post) : G X (wM E a) σ 0 [some (.ref (a 0)), some (.int x1)] [] := by
  unfold wpM_isCell at h
  refine g_iload_1 C dX11_isCell_0 rfl ?_
  refine g_iconst_0 C dX11_isCell_1 ?_
  refine g_aload_0 C dX11_isCell_2 rfl ?_
  refine fgM_X11_117 C dX11_isCell_3 ?_
  refine g_iconst_1 C dX11_isCell_6 ?_
  refine g_isub C dX11_isCell_7 ?_
  refine csM_X11_109 C h ⟨Nat.le_of_ble_eq_true rfl, Nat.le_of_ble_eq_true rfl⟩ (Nat.le_of_ble_eq_true rfl) dX11_isCell_8 (fun _ _ h => ?_)
  exact g_zreturn C hQ dX11_isCell_11 h.1 h.2
theorem cM_isCell {l : Launch} {E : Ev} {a : Nat → Nat} {x1 : Int32} {σ : St} {post : Int32 → St → Prop} (h : wpM_isCell x1 σ post) : CI l E (wM E a) yX11_isCell cX11_isCell 2 .boolean rmM_isCell [.ref (a 0), .int x1] σ post := met_i (by decide) rfl (Nat.le_of_ble_eq_true rfl) rfl (fun X C hQ => kM_isCell C hQ _ _ h)
theorem fgM_X11_212 {X : Kx} {l : Launch} {E : Ev} {a : Nat → Nat} {σ : St} {cc : ByteArray} {rm : Room} {ret : Option FieldType} {pc : Nat} {lv : List (Option Value)} {st : List Value} (C : Cx X l E RX11 cc rm ret) (d : decode cc pc = .ok (.getfield 212, 3)) (k : G X (wM E a) σ (pc + 3) lv (.int (σ.1 27) :: st)) : G X (wM E a) σ pc lv (.ref (a 0) :: st) := g_get C (q0 := 0) (ci := 10) (k := 27) rfl rfl inU_X11 (by decide) (by decide +kernel) rfl d k
theorem fgM_X11_69 {X : Kx} {l : Launch} {E : Ev} {a : Nat → Nat} {σ : St} {cc : ByteArray} {rm : Room} {ret : Option FieldType} {pc : Nat} {lv : List (Option Value)} {st : List Value} (C : Cx X l E RX11 cc rm ret) (d : decode cc pc = .ok (.getfield 69, 3)) (k : G X (wM E a) σ (pc + 3) lv (.ref (a 29) :: st)) : G X (wM E a) σ pc lv (.ref (a 0) :: st) := g_get C (q0 := 0) (ci := 10) (k := 28) rfl rfl inU_X11 (by decide) (by decide +kernel) rfl d k
theorem alM_28 {X : Kx} {l : Launch} {E : Ev} {a : Nat → Nat} {σ : St} {cc : ByteArray} {rm : Room} {ret : Option FieldType} {pc : Nat} {lv : List (Option Value)} {st : List Value} {own : String} {i : Int32} (C : Cx X l E own cc rm ret) (hin : vp_in i 4) (d : decode cc pc = .ok (.iaload, 1)) (k : G X (wM E a) σ (pc + 1) lv (.int (σ.2 28 i.toNatClampNeg) :: st)) : G X (wM E a) σ pc lv (.int i :: .ref (a 29) :: st) := g_iald C (q0 := 19) rfl hin d k
/-! IceRunModel.isOn()Z -/
abbrev rmM_isOn : Room := { frames := 0, cells := 0, slots := 0, locals := 0 }
def wpM_isOn_34 (s0 : Int32) (σ : St) (post : Int32 → St → Prop) : Prop := (s0 = 0 ∨ s0 = 1) ∧ post s0 σ
theorem kM_isOn_34 {X : Kx} {l : Launch} {E : Ev} {a : Nat → Nat} {post : Int32 → St → Prop} (C : Cx X l E RX11 cX11_isOn rmM_isOn (some .boolean)) (hQ : QI X (wM E a) post) (s0 : Int32) (σ : St) (h : wpM_isOn_34  s0 σ post) : G X (wM E a) σ 34 [none] [.int s0] := by
  unfold wpM_isOn_34 at h
  exact g_zreturn C hQ dX11_isOn_34 h.1 h.2
def wpM_isOn_33 (σ : St) (post : Int32 → St → Prop) : Prop := wpM_isOn_34 0 σ post
theorem kM_isOn_33 {X : Kx} {l : Launch} {E : Ev} {a : Nat → Nat} {post : Int32 → St → Prop} (C : Cx X l E RX11 cX11_isOn rmM_isOn (some .boolean)) (hQ : QI X (wM E a) post) (σ : St) (h : wpM_isOn_33   σ post) : G X (wM E a) σ 33 [none] [] := by
  unfold wpM_isOn_33 at h
  refine g_iconst_0 C dX11_isOn_33 ?_
  exact g_wk (kM_isOn_34 C hQ _ _ h) (trivial)
def wpM_isOn (σ : St) (post : Int32 → St → Prop) : Prop := (((σ.1 26) = 0 → wpM_isOn_33 σ post) ∧ (¬ (σ.1 26) = 0 → (((σ.1 27) ≤ 0 → wpM_isOn_33 σ post) ∧ (¬ (σ.1 27) ≤ 0 → vp_in ((σ.1 27) - 1) 4 ∧ (((¬ (σ.2 28 (Int32.toNatClampNeg ((σ.1 27) - 1))) = 1 → wpM_isOn_33 σ post) ∧ ((σ.2 28 (Int32.toNatClampNeg ((σ.1 27) - 1))) = 1 → wpM_isOn_34 1 σ post)))))))
theorem kM_isOn {X : Kx} {l : Launch} {E : Ev} {a : Nat → Nat} {post : Int32 → St → Prop} (C : Cx X l E RX11 cX11_isOn rmM_isOn (some .boolean)) (hQ : QI X (wM E a) post) (σ : St) (h : wpM_isOn  σ post) : G X (wM E a) σ 0 [some (.ref (a 0))] [] := by
  unfold wpM_isOn at h
  refine g_aload_0 C dX11_isOn_0 rfl ?_
  refine fgM_X11_113 C dX11_isOn_1 ?_
  refine g_if_eq C 33 dX11_isOn_4 (by decide) (fun q => ?_) (fun q => ?_)
  · have h := h.1 q
    exact g_wk (kM_isOn_33 C hQ _ h) (trivial)
  · have h := h.2 q
    refine g_aload_0 C dX11_isOn_7 rfl ?_
    refine fgM_X11_212 C dX11_isOn_8 ?_
    refine g_if_le C 33 dX11_isOn_11 (by decide) (fun q => ?_) (fun q => ?_)
    · have h := h.1 q
      exact g_wk (kM_isOn_33 C hQ _ h) (trivial)
    · have h := h.2 q
      refine g_aload_0 C dX11_isOn_14 rfl ?_
      refine fgM_X11_69 C dX11_isOn_15 ?_
      refine g_aload_0 C dX11_isOn_18 rfl ?_
      refine fgM_X11_212 C dX11_isOn_19 ?_
      refine g_iconst_1 C dX11_isOn_22 ?_
      refine g_isub C dX11_isOn_23 ?_
      obtain ⟨q, h⟩ := h
      refine alM_28 C q dX11_isOn_24 ?_
      refine g_iconst_1 C dX11_isOn_25 ?_
      refine g_icmp_ne C 33 dX11_isOn_26 (by decide) (fun q => ?_) (fun q => ?_)
      · have h := h.1 q
        exact g_wk (kM_isOn_33 C hQ _ h) (trivial)
      · have h := h.2 q
        refine g_iconst_1 C dX11_isOn_29 ?_
        refine g_goto C 34 dX11_isOn_30 (by decide) ?_
        exact g_wk (kM_isOn_34 C hQ _ _ h) (trivial)
theorem cM_isOn {l : Launch} {E : Ev} {a : Nat → Nat} {σ : St} {post : Int32 → St → Prop} (h : wpM_isOn  σ post) : CI l E (wM E a) yX11_isOn cX11_isOn 1 .boolean rmM_isOn [.ref (a 0)] σ post := met_i (by decide) rfl (Nat.le_of_ble_eq_true rfl) rfl (fun X C hQ => kM_isOn C hQ _ h)
theorem csM_X11_123 {X : Kx} {l : Launch} {E : Ev} {a : Nat → Nat} {σ : St} {cc : ByteArray} {rm : Room} {ret : Option FieldType} {pc : Nat} {lv : List (Option Value)} {rest : List Value} {x0 : Int32} {post : Int32 → St → Prop} (C : Cx X l E RX11 cc rm ret) (h : wpM_isCell x0 σ post) (hR : 1 + 1 ≤ rm.frames ∧ 8 + (2 + 11) + 22 ≤ rm.locals) (hW : (rest.map fun v => v.category).sum ≤ 8) (d : decode cc pc = .ok (.invokevirtual 123, 3)) (k : ∀ (r : Int32) (u : St), post r u → G X (wM E a) u (pc + 3) lv (.int r :: rest)) : G X (wM E a) σ pc lv (.int x0 :: .ref (a 0) :: rest) := g_callVi C 1 (As := [.int x0]) (rest := rest) (Cn := RX11) (T := TX11) (N := 42) (q0 := 0) (ci := 10) (by decide +kernel) (by decide +kernel) (by decide +kernel) (by decide +kernel) (by decide +kernel) (by decide +kernel) rfl rfl (cM_isCell h) ⟨rfl, rfl⟩ hR rfl rfl hW d k
theorem csM_X11_127 {X : Kx} {l : Launch} {E : Ev} {a : Nat → Nat} {σ : St} {cc : ByteArray} {rm : Room} {ret : Option FieldType} {pc : Nat} {lv : List (Option Value)} {rest : List Value} {post : Int32 → St → Prop} (C : Cx X l E RX11 cc rm ret) (h : wpM_isOn  σ post) (hR : 0 + 1 ≤ rm.frames ∧ 8 + (1 + 11) + 0 ≤ rm.locals) (hW : (rest.map fun v => v.category).sum ≤ 8) (d : decode cc pc = .ok (.invokevirtual 127, 3)) (k : ∀ (r : Int32) (u : St), post r u → G X (wM E a) u (pc + 3) lv (.int r :: rest)) : G X (wM E a) σ pc lv (.ref (a 0) :: rest) := g_callVi C 0 (As := []) (rest := rest) (Cn := RX11) (T := TX11) (N := 42) (q0 := 0) (ci := 10) (by decide +kernel) (by decide +kernel) (by decide +kernel) (by decide +kernel) (by decide +kernel) (by decide +kernel) rfl rfl (cM_isOn h) ⟨rfl, rfl⟩ hR rfl rfl hW d k
/-! IceRunModel.bend(IIII)Z -/
abbrev rmM_bend : Room := { frames := 2, cells := 0, slots := 0, locals := 43 }
def wpM_bend_53 (σ : St) (post : Int32 → St → Prop) : Prop := post 0 σ
theorem kM_bend_53 {X : Kx} {l : Launch} {E : Ev} {a : Nat → Nat} {post : Int32 → St → Prop} (C : Cx X l E RX11 cX11_bend rmM_bend (some .boolean)) (hQ : QI X (wM E a) post) (σ : St) (h : wpM_bend_53   σ post) : G X (wM E a) σ 53 [none, none, none, none, none] [] := by
  unfold wpM_bend_53 at h
  refine g_iconst_0 C dX11_bend_53 ?_
  exact g_zreturn C hQ dX11_bend_54 (Or.inl rfl) h
def wpM_bend (x1 x2 x3 x4 : Int32) (σ : St) (post : Int32 → St → Prop) : Prop := let σ1 : St := pI σ 0 0; wpM_isCell x1 σ1 (fun r3 σ2 => ((r3 = 0 → wpM_bend_53 σ2 post) ∧ (¬ r3 = 0 → wpM_within x2 50 500 σ2 (fun r5 σ4 => ((r5 = 0 → wpM_bend_53 σ4 post) ∧ (¬ r5 = 0 → wpM_within x3 0 9 σ4 (fun r7 σ6 => ((r7 = 0 → wpM_bend_53 σ6 post) ∧ (¬ r7 = 0 → wpM_within x4 0 9 σ6 (fun r9 σ8 => ((r9 = 0 → wpM_bend_53 σ8 post) ∧ (¬ r9 = 0 → wpM_isOn  σ8 (fun r11 σ10 => ((r11 = 0 → vp_in x1 40 ∧ (let σ12 : St := pA σ10 3 (Int32.toNatClampNeg x1) x2; vp_in x1 40 ∧ (let σ13 : St := pA σ12 4 (Int32.toNatClampNeg x1) x3; vp_in x1 40 ∧ (let σ14 : St := pA σ13 5 (Int32.toNatClampNeg x1) x4; post 1 σ14)))) ∧ (¬ r11 = 0 → wpM_bend_53 σ10 post)))))))))))))))
theorem kM_bend {X : Kx} {l : Launch} {E : Ev} {a : Nat → Nat} {post : Int32 → St → Prop} (C : Cx X l E RX11 cX11_bend rmM_bend (some .boolean)) (hQ : QI X (wM E a) post) (x1 x2 x3 x4 : Int32) (σ : St) (h : wpM_bend x1 x2 x3 x4 σ post) : G X (wM E a) σ 0 [some (.ref (a 0)), some (.int x1), some (.int x2), some (.int x3), some (.int x4)] [] := by
  unfold wpM_bend at h
  refine g_aload_0 C dX11_bend_0 rfl ?_
  refine g_iconst_0 C dX11_bend_1 ?_
  refine fpM_X11_106 C dX11_bend_2 ?_
  refine g_aload_0 C dX11_bend_5 rfl ?_
  refine g_iload_1 C dX11_bend_6 rfl ?_
  refine csM_X11_123 C h ⟨Nat.le_of_ble_eq_true rfl, Nat.le_of_ble_eq_true rfl⟩ (Nat.le_of_ble_eq_true rfl) dX11_bend_7 (fun _ _ h => ?_)
  refine g_if_eq C 53 dX11_bend_10 (by decide) (fun q => ?_) (fun q => ?_)
  · have h := h.1 q
    exact g_wk (kM_bend_53 C hQ _ h) (trivial)
  · have h := h.2 q
    refine g_iload_2 C dX11_bend_13 rfl ?_
    refine g_bipush C (v := 50) (by decide) dX11_bend_14 ?_
    refine g_sipush C (v := 500) (by decide) dX11_bend_16 ?_
    refine csM_X11_109 C h ⟨Nat.le_of_ble_eq_true rfl, Nat.le_of_ble_eq_true rfl⟩ (Nat.le_of_ble_eq_true rfl) dX11_bend_19 (fun _ _ h => ?_)
    refine g_if_eq C 53 dX11_bend_22 (by decide) (fun q => ?_) (fun q => ?_)
    · have h := h.1 q
      exact g_wk (kM_bend_53 C hQ _ h) (trivial)
    · have h := h.2 q
      refine g_iload_3 C dX11_bend_25 rfl ?_
      refine g_iconst_0 C dX11_bend_26 ?_
      refine g_bipush C (v := 9) (by decide) dX11_bend_27 ?_
      refine csM_X11_109 C h ⟨Nat.le_of_ble_eq_true rfl, Nat.le_of_ble_eq_true rfl⟩ (Nat.le_of_ble_eq_true rfl) dX11_bend_29 (fun _ _ h => ?_)
      refine g_if_eq C 53 dX11_bend_32 (by decide) (fun q => ?_) (fun q => ?_)
      · have h := h.1 q
        exact g_wk (kM_bend_53 C hQ _ h) (trivial)
      · have h := h.2 q
        refine g_iload C dX11_bend_35 rfl ?_
        refine g_iconst_0 C dX11_bend_37 ?_
        refine g_bipush C (v := 9) (by decide) dX11_bend_38 ?_
        refine csM_X11_109 C h ⟨Nat.le_of_ble_eq_true rfl, Nat.le_of_ble_eq_true rfl⟩ (Nat.le_of_ble_eq_true rfl) dX11_bend_40 (fun _ _ h => ?_)
        refine g_if_eq C 53 dX11_bend_43 (by decide) (fun q => ?_) (fun q => ?_)
        · have h := h.1 q
          exact g_wk (kM_bend_53 C hQ _ h) (trivial)
        · have h := h.2 q
          refine g_aload_0 C dX11_bend_46 rfl ?_
          refine csM_X11_127 C h ⟨Nat.le_of_ble_eq_true rfl, Nat.le_of_ble_eq_true rfl⟩ (Nat.le_of_ble_eq_true rfl) dX11_bend_47 (fun _ _ h => ?_)
          refine g_if_eq C 55 dX11_bend_50 (by decide) (fun q => ?_) (fun q => ?_)
          · have h := h.1 q
            refine g_aload_0 C dX11_bend_55 rfl ?_
            refine fgM_X11_7 C dX11_bend_56 ?_
            refine g_iload_1 C dX11_bend_59 rfl ?_
            refine g_iload_2 C dX11_bend_60 rfl ?_
            obtain ⟨q, h⟩ := h
            refine asM_3 C q dX11_bend_61 ?_
            refine g_aload_0 C dX11_bend_62 rfl ?_
            refine fgM_X11_13 C dX11_bend_63 ?_
            refine g_iload_1 C dX11_bend_66 rfl ?_
            refine g_iload_3 C dX11_bend_67 rfl ?_
            obtain ⟨q, h⟩ := h
            refine asM_4 C q dX11_bend_68 ?_
            refine g_aload_0 C dX11_bend_69 rfl ?_
            refine fgM_X11_16 C dX11_bend_70 ?_
            refine g_iload_1 C dX11_bend_73 rfl ?_
            refine g_iload C dX11_bend_74 rfl ?_
            obtain ⟨q, h⟩ := h
            refine asM_5 C q dX11_bend_76 ?_
            refine g_iconst_1 C dX11_bend_77 ?_
            exact g_zreturn C hQ dX11_bend_78 (Or.inr rfl) h
          · have h := h.2 q
            exact g_wk (kM_bend_53 C hQ _ h) (trivial)
theorem cM_bend {l : Launch} {E : Ev} {a : Nat → Nat} {x1 x2 x3 x4 : Int32} {σ : St} {post : Int32 → St → Prop} (h : wpM_bend x1 x2 x3 x4 σ post) : CI l E (wM E a) yX11_bend cX11_bend 5 .boolean rmM_bend [.ref (a 0), .int x1, .int x2, .int x3, .int x4] σ post := met_i (by decide) rfl (Nat.le_of_ble_eq_true rfl) rfl (fun X C hQ => kM_bend C hQ _ _ _ _ _ h)
/-! IceRunModel.bounded(III)I -/
abbrev rmM_bounded : Room := { frames := 0, cells := 0, slots := 0, locals := 0 }
def wpM_bounded_19 (s0 : Int32) (σ : St) (post : Int32 → St → Prop) : Prop := post s0 σ
theorem kM_bounded_19 {X : Kx} {l : Launch} {E : Ev} {a : Nat → Nat} {post : Int32 → St → Prop} (C : Cx X l E RX11 cX11_bounded rmM_bounded (some .int)) (hQ : QI X (wM E a) post) (s0 : Int32) (σ : St) (h : wpM_bounded_19  s0 σ post) : G X (wM E a) σ 19 [none, none, none] [.int s0] := by
  unfold wpM_bounded_19 at h
  exact g_ireturn C hQ dX11_bounded_19 h
def wpM_bounded (x0 x1 x2 : Int32) (σ : St) (post : Int32 → St → Prop) : Prop := ((x1 ≤ x0 → ((x0 ≤ x2 → wpM_bounded_19 x0 σ post) ∧ (¬ x0 ≤ x2 → wpM_bounded_19 x2 σ post))) ∧ (¬ x1 ≤ x0 → wpM_bounded_19 x1 σ post))
theorem kM_bounded {X : Kx} {l : Launch} {E : Ev} {a : Nat → Nat} {post : Int32 → St → Prop} (C : Cx X l E RX11 cX11_bounded rmM_bounded (some .int)) (hQ : QI X (wM E a) post) (x0 x1 x2 : Int32) (σ : St) (h : wpM_bounded x0 x1 x2 σ post) : G X (wM E a) σ 0 [some (.int x0), some (.int x1), some (.int x2)] [] := by
  unfold wpM_bounded at h
  refine g_iload_0 C dX11_bounded_0 rfl ?_
  refine g_iload_1 C dX11_bounded_1 rfl ?_
  refine g_icmp_ge C 9 dX11_bounded_2 (by decide) (fun q => ?_) (fun q => ?_)
  · have h := h.1 q
    refine g_iload_0 C dX11_bounded_9 rfl ?_
    refine g_iload_2 C dX11_bounded_10 rfl ?_
    refine g_icmp_le C 18 dX11_bounded_11 (by decide) (fun q => ?_) (fun q => ?_)
    · have h := h.1 q
      refine g_iload_0 C dX11_bounded_18 rfl ?_
      exact g_wk (kM_bounded_19 C hQ _ _ h) (trivial)
    · have h := h.2 q
      refine g_iload_2 C dX11_bounded_14 rfl ?_
      refine g_goto C 19 dX11_bounded_15 (by decide) ?_
      exact g_wk (kM_bounded_19 C hQ _ _ h) (trivial)
  · have h := h.2 q
    refine g_iload_1 C dX11_bounded_5 rfl ?_
    refine g_goto C 19 dX11_bounded_6 (by decide) ?_
    exact g_wk (kM_bounded_19 C hQ _ _ h) (trivial)
theorem cM_bounded {l : Launch} {E : Ev} {a : Nat → Nat} {x0 x1 x2 : Int32} {σ : St} {post : Int32 → St → Prop} (h : wpM_bounded x0 x1 x2 σ post) : CI l E (wM E a) yX11_bounded cX11_bounded 3 .int rmM_bounded [.int x0, .int x1, .int x2] σ post := met_i (by decide) rfl (Nat.le_of_ble_eq_true rfl) rfl (fun X C hQ => kM_bounded C hQ _ _ _ _ h)
theorem alM_6 {X : Kx} {l : Launch} {E : Ev} {a : Nat → Nat} {σ : St} {cc : ByteArray} {rm : Room} {ret : Option FieldType} {pc : Nat} {lv : List (Option Value)} {st : List Value} {own : String} {i : Int32} (C : Cx X l E own cc rm ret) (hin : vp_in i 40) (d : decode cc pc = .ok (.iaload, 1)) (k : G X (wM E a) σ (pc + 1) lv (.int (σ.2 6 i.toNatClampNeg) :: st)) : G X (wM E a) σ pc lv (.int i :: .ref (a 7) :: st) := g_iald C (q0 := 4) rfl hin d k
theorem alM_5 {X : Kx} {l : Launch} {E : Ev} {a : Nat → Nat} {σ : St} {cc : ByteArray} {rm : Room} {ret : Option FieldType} {pc : Nat} {lv : List (Option Value)} {st : List Value} {own : String} {i : Int32} (C : Cx X l E own cc rm ret) (hin : vp_in i 40) (d : decode cc pc = .ok (.iaload, 1)) (k : G X (wM E a) σ (pc + 1) lv (.int (σ.2 5 i.toNatClampNeg) :: st)) : G X (wM E a) σ pc lv (.int i :: .ref (a 6) :: st) := g_iald C (q0 := 3) rfl hin d k
theorem csM_X11_131 {X : Kx} {l : Launch} {E : Ev} {a : Nat → Nat} {σ : St} {cc : ByteArray} {rm : Room} {ret : Option FieldType} {pc : Nat} {lv : List (Option Value)} {rest : List Value} {x0 x1 x2 : Int32} {post : Int32 → St → Prop} (C : Cx X l E RX11 cc rm ret) (h : wpM_bounded x0 x1 x2 σ post) (hR : 0 + 1 ≤ rm.frames ∧ 8 + (3 + 11) + 0 ≤ rm.locals) (hW : (rest.map fun v => v.category).sum ≤ 8) (d : decode cc pc = .ok (.invokestatic 131, 3)) (k : ∀ (r : Int32) (u : St), post r u → G X (wM E a) u (pc + 3) lv (.int r :: rest)) : G X (wM E a) σ pc lv (.int x2 :: .int x1 :: .int x0 :: rest) := g_callSi C 3 (As := [.int x0, .int x1, .int x2]) (rest := rest) (by decide +kernel) (by decide +kernel) (by decide +kernel) (by decide +kernel) (by decide +kernel) (cM_bounded h) ⟨rfl, rfl⟩ hR rfl rfl hW d k
/-! IceRunModel.weather(III)Z -/
abbrev rmM_weather : Room := { frames := 1, cells := 0, slots := 0, locals := 22 }
def wpM_weather_43 (σ : St) (post : Int32 → St → Prop) : Prop := post 0 σ
theorem kM_weather_43 {X : Kx} {l : Launch} {E : Ev} {a : Nat → Nat} {post : Int32 → St → Prop} (C : Cx X l E RX11 cX11_weather rmM_weather (some .boolean)) (hQ : QI X (wM E a) post) (σ : St) (h : wpM_weather_43   σ post) : G X (wM E a) σ 43 [none, none, none, none, none, none] [] := by
  unfold wpM_weather_43 at h
  refine g_iconst_0 C dX11_weather_43 ?_
  exact g_zreturn C hQ dX11_weather_44 (Or.inl rfl) h
def wpBM_weather_57 (k_48 : Int32 → Int32 → Int32 → Int32 → St → Prop) (k_57 : Int32 → Int32 → Int32 → Int32 → Int32 → St → Prop) (x1 x2 x3 x4 x5 : Int32) (σ : St) (post : Int32 → St → Prop) : Prop := (((σ.1 1) ≤ x5 → let y1 : Int32 := x4 + 1; k_48 x1 x2 x3 y1 σ) ∧ (¬ (σ.1 1) ≤ x5 → vp_in x5 40 ∧ (vp_in x5 40 ∧ (wpM_bounded (((σ.2 6 (Int32.toNatClampNeg x5)) - x2) - ((σ.2 5 (Int32.toNatClampNeg x5)) * x3)) 0 1000 σ (fun r3 σ2 => vp_in x5 40 ∧ (let σ4 : St := pA σ2 6 (Int32.toNatClampNeg x5) r3; let y5 : Int32 := x5 + 1; k_57 x1 x2 x3 x4 y5 σ4))))))
def wpM_weather_57 (k_48 : Int32 → Int32 → Int32 → Int32 → St → Prop) (x1 x2 x3 x4 x5 : Int32) (σ : St) (post : Int32 → St → Prop) : Prop := ∃ n : Nat, lpN (α := Int32 × Int32 × Int32 × Int32 × Int32 × St) (fun kb t => wpBM_weather_57 k_48 (fun x1 x2 x3 x4 x5 σ => kb (x1, x2, x3, x4, x5, σ)) t.1 t.2.1 t.2.2.1 t.2.2.2.1 t.2.2.2.2.1 t.2.2.2.2.2 post) n (x1, x2, x3, x4, x5, σ)
theorem kBM_weather_57 {X : Kx} {l : Launch} {E : Ev} {a : Nat → Nat} {post : Int32 → St → Prop} (C : Cx X l E RX11 cX11_weather rmM_weather (some .boolean)) (hQ : QI X (wM E a) post) (k_48 : Int32 → Int32 → Int32 → Int32 → St → Prop) (hk_48 : ∀ (x1 x2 x3 x4 : Int32) (σ : St), k_48 x1 x2 x3 x4 σ → G X (wM E a) σ 48 [some (.ref (a 0)), some (.int x1), some (.int x2), some (.int x3), some (.int x4), none] []) (k_57 : Int32 → Int32 → Int32 → Int32 → Int32 → St → Prop) (hk_57 : ∀ (x1 x2 x3 x4 x5 : Int32) (σ : St), k_57 x1 x2 x3 x4 x5 σ → G X (wM E a) σ 57 [some (.ref (a 0)), some (.int x1), some (.int x2), some (.int x3), some (.int x4), some (.int x5)] []) (x1 x2 x3 x4 x5 : Int32) (σ : St) (h : wpBM_weather_57 k_48 k_57 x1 x2 x3 x4 x5 σ post) : G X (wM E a) σ 57 [some (.ref (a 0)), some (.int x1), some (.int x2), some (.int x3), some (.int x4), some (.int x5)] [] := by
  unfold wpBM_weather_57 at h
  refine g_iload C dX11_weather_57 rfl ?_
  refine g_aload_0 C dX11_weather_59 rfl ?_
  refine fgM_X11_117 C dX11_weather_60 ?_
  refine g_icmp_ge C 105 dX11_weather_63 (by decide) (fun q => ?_) (fun q => ?_)
  · have h := h.1 q
    refine g_iinc C (v := 1) (by decide) dX11_weather_105 rfl ?_
    refine g_goto C 48 dX11_weather_108 (by decide) ?_
    exact g_wk (hk_48 _ _ _ _ _ h) (And.intro rfl (And.intro rfl (And.intro rfl (And.intro rfl (And.intro rfl (trivial))))))
  · have h := h.2 q
    refine g_aload_0 C dX11_weather_66 rfl ?_
    refine fgM_X11_19 C dX11_weather_67 ?_
    refine g_iload C dX11_weather_70 rfl ?_
    refine g_aload_0 C dX11_weather_72 rfl ?_
    refine fgM_X11_19 C dX11_weather_73 ?_
    refine g_iload C dX11_weather_76 rfl ?_
    obtain ⟨q, h⟩ := h
    refine alM_6 C q dX11_weather_78 ?_
    refine g_iload_2 C dX11_weather_79 rfl ?_
    refine g_isub C dX11_weather_80 ?_
    refine g_aload_0 C dX11_weather_81 rfl ?_
    refine fgM_X11_16 C dX11_weather_82 ?_
    refine g_iload C dX11_weather_85 rfl ?_
    obtain ⟨q, h⟩ := h
    refine alM_5 C q dX11_weather_87 ?_
    refine g_iload_3 C dX11_weather_88 rfl ?_
    refine g_imul C dX11_weather_89 ?_
    refine g_isub C dX11_weather_90 ?_
    refine g_iconst_0 C dX11_weather_91 ?_
    refine g_sipush C (v := 1000) (by decide) dX11_weather_92 ?_
    refine csM_X11_131 C h ⟨Nat.le_of_ble_eq_true rfl, Nat.le_of_ble_eq_true rfl⟩ (Nat.le_of_ble_eq_true rfl) dX11_weather_95 (fun _ _ h => ?_)
    obtain ⟨q, h⟩ := h
    refine asM_6 C q dX11_weather_98 ?_
    refine g_iinc C (v := 1) (by decide) dX11_weather_99 rfl ?_
    refine g_goto C 57 dX11_weather_102 (by decide) ?_
    exact g_wk (hk_57 _ _ _ _ _ _ h) (And.intro rfl (And.intro rfl (And.intro rfl (And.intro rfl (And.intro rfl (And.intro rfl (trivial)))))))
theorem kM_weather_57 {X : Kx} {l : Launch} {E : Ev} {a : Nat → Nat} {post : Int32 → St → Prop} (C : Cx X l E RX11 cX11_weather rmM_weather (some .boolean)) (hQ : QI X (wM E a) post) (k_48 : Int32 → Int32 → Int32 → Int32 → St → Prop) (hk_48 : ∀ (x1 x2 x3 x4 : Int32) (σ : St), k_48 x1 x2 x3 x4 σ → G X (wM E a) σ 48 [some (.ref (a 0)), some (.int x1), some (.int x2), some (.int x3), some (.int x4), none] []) (x1 x2 x3 x4 x5 : Int32) (σ : St) (h : wpM_weather_57 k_48 x1 x2 x3 x4 x5 σ post) : G X (wM E a) σ 57 [some (.ref (a 0)), some (.int x1), some (.int x2), some (.int x3), some (.int x4), some (.int x5)] [] := by
  obtain ⟨n, h⟩ := h
  exact g_loop (J := fun t : Int32 × Int32 × Int32 × Int32 × Int32 × St => G X (wM E a) t.2.2.2.2.2 57 [some (.ref (a 0)), some (.int t.1), some (.int t.2.1), some (.int t.2.2.1), some (.int t.2.2.2.1), some (.int t.2.2.2.2.1)] []) (fun kb hkb t ht => kBM_weather_57 C hQ k_48 hk_48 (fun x1 x2 x3 x4 x5 σ => kb (x1, x2, x3, x4, x5, σ)) (fun x1 x2 x3 x4 x5 σ hh => hkb (x1, x2, x3, x4, x5, σ) hh) t.1 t.2.1 t.2.2.1 t.2.2.2.1 t.2.2.2.2.1 t.2.2.2.2.2 ht) n (x1, x2, x3, x4, x5, σ) h
def wpBM_weather_48 (k_48 : Int32 → Int32 → Int32 → Int32 → St → Prop) (x1 x2 x3 x4 : Int32) (σ : St) (post : Int32 → St → Prop) : Prop := ((x1 ≤ x4 → post 1 σ) ∧ (¬ x1 ≤ x4 → wpM_weather_57 k_48 x1 x2 x3 x4 0 σ post))
def wpM_weather_48 (x1 x2 x3 x4 : Int32) (σ : St) (post : Int32 → St → Prop) : Prop := ∃ n : Nat, lpN (α := Int32 × Int32 × Int32 × Int32 × St) (fun kb t => wpBM_weather_48 (fun x1 x2 x3 x4 σ => kb (x1, x2, x3, x4, σ)) t.1 t.2.1 t.2.2.1 t.2.2.2.1 t.2.2.2.2 post) n (x1, x2, x3, x4, σ)
theorem kBM_weather_48 {X : Kx} {l : Launch} {E : Ev} {a : Nat → Nat} {post : Int32 → St → Prop} (C : Cx X l E RX11 cX11_weather rmM_weather (some .boolean)) (hQ : QI X (wM E a) post) (k_48 : Int32 → Int32 → Int32 → Int32 → St → Prop) (hk_48 : ∀ (x1 x2 x3 x4 : Int32) (σ : St), k_48 x1 x2 x3 x4 σ → G X (wM E a) σ 48 [some (.ref (a 0)), some (.int x1), some (.int x2), some (.int x3), some (.int x4), none] []) (x1 x2 x3 x4 : Int32) (σ : St) (h : wpBM_weather_48 k_48 x1 x2 x3 x4 σ post) : G X (wM E a) σ 48 [some (.ref (a 0)), some (.int x1), some (.int x2), some (.int x3), some (.int x4), none] [] := by
  unfold wpBM_weather_48 at h
  refine g_iload C dX11_weather_48 rfl ?_
  refine g_iload_1 C dX11_weather_50 rfl ?_
  refine g_icmp_ge C 111 dX11_weather_51 (by decide) (fun q => ?_) (fun q => ?_)
  · have h := h.1 q
    refine g_iconst_1 C dX11_weather_111 ?_
    exact g_zreturn C hQ dX11_weather_112 (Or.inr rfl) h
  · have h := h.2 q
    refine g_iconst_0 C dX11_weather_54 ?_
    refine g_istore C dX11_weather_55 (Nat.le_of_ble_eq_true rfl) ?_
    exact g_wk (kM_weather_57 C hQ _ hk_48 _ _ _ _ _ _ h) (And.intro rfl (And.intro rfl (And.intro rfl (And.intro rfl (And.intro rfl (And.intro rfl (trivial)))))))
theorem kM_weather_48 {X : Kx} {l : Launch} {E : Ev} {a : Nat → Nat} {post : Int32 → St → Prop} (C : Cx X l E RX11 cX11_weather rmM_weather (some .boolean)) (hQ : QI X (wM E a) post) (x1 x2 x3 x4 : Int32) (σ : St) (h : wpM_weather_48  x1 x2 x3 x4 σ post) : G X (wM E a) σ 48 [some (.ref (a 0)), some (.int x1), some (.int x2), some (.int x3), some (.int x4), none] [] := by
  obtain ⟨n, h⟩ := h
  exact g_loop (J := fun t : Int32 × Int32 × Int32 × Int32 × St => G X (wM E a) t.2.2.2.2 48 [some (.ref (a 0)), some (.int t.1), some (.int t.2.1), some (.int t.2.2.1), some (.int t.2.2.2.1), none] []) (fun kb hkb t ht => kBM_weather_48 C hQ  (fun x1 x2 x3 x4 σ => kb (x1, x2, x3, x4, σ)) (fun x1 x2 x3 x4 σ hh => hkb (x1, x2, x3, x4, σ) hh) t.1 t.2.1 t.2.2.1 t.2.2.2.1 t.2.2.2.2 ht) n (x1, x2, x3, x4, σ) h
def wpM_weather (x1 x2 x3 : Int32) (σ : St) (post : Int32 → St → Prop) : Prop := let σ1 : St := pI σ 0 0; (((σ1.1 1) = 0 → wpM_weather_43 σ1 post) ∧ (¬ (σ1.1 1) = 0 → wpM_within x1 1 600 σ1 (fun r3 σ2 => ((r3 = 0 → wpM_weather_43 σ2 post) ∧ (¬ r3 = 0 → wpM_within x2 (-30) 30 σ2 (fun r5 σ4 => ((r5 = 0 → wpM_weather_43 σ4 post) ∧ (¬ r5 = 0 → wpM_within x3 0 3 σ4 (fun r7 σ6 => ((¬ r7 = 0 → wpM_weather_48 x1 x2 x3 0 σ6 post) ∧ (r7 = 0 → wpM_weather_43 σ6 post)))))))))))
theorem kM_weather {X : Kx} {l : Launch} {E : Ev} {a : Nat → Nat} {post : Int32 → St → Prop} (C : Cx X l E RX11 cX11_weather rmM_weather (some .boolean)) (hQ : QI X (wM E a) post) (x1 x2 x3 : Int32) (σ : St) (h : wpM_weather x1 x2 x3 σ post) : G X (wM E a) σ 0 [some (.ref (a 0)), some (.int x1), some (.int x2), some (.int x3), none, none] [] := by
  unfold wpM_weather at h
  refine g_aload_0 C dX11_weather_0 rfl ?_
  refine g_iconst_0 C dX11_weather_1 ?_
  refine fpM_X11_106 C dX11_weather_2 ?_
  refine g_aload_0 C dX11_weather_5 rfl ?_
  refine fgM_X11_117 C dX11_weather_6 ?_
  refine g_if_eq C 43 dX11_weather_9 (by decide) (fun q => ?_) (fun q => ?_)
  · have h := h.1 q
    exact g_wk (kM_weather_43 C hQ _ h) (trivial)
  · have h := h.2 q
    refine g_iload_1 C dX11_weather_12 rfl ?_
    refine g_iconst_1 C dX11_weather_13 ?_
    refine g_sipush C (v := 600) (by decide) dX11_weather_14 ?_
    refine csM_X11_109 C h ⟨Nat.le_of_ble_eq_true rfl, Nat.le_of_ble_eq_true rfl⟩ (Nat.le_of_ble_eq_true rfl) dX11_weather_17 (fun _ _ h => ?_)
    refine g_if_eq C 43 dX11_weather_20 (by decide) (fun q => ?_) (fun q => ?_)
    · have h := h.1 q
      exact g_wk (kM_weather_43 C hQ _ h) (trivial)
    · have h := h.2 q
      refine g_iload_2 C dX11_weather_23 rfl ?_
      refine g_bipush C (v := (-30)) (by decide) dX11_weather_24 ?_
      refine g_bipush C (v := 30) (by decide) dX11_weather_26 ?_
      refine csM_X11_109 C h ⟨Nat.le_of_ble_eq_true rfl, Nat.le_of_ble_eq_true rfl⟩ (Nat.le_of_ble_eq_true rfl) dX11_weather_28 (fun _ _ h => ?_)
      refine g_if_eq C 43 dX11_weather_31 (by decide) (fun q => ?_) (fun q => ?_)
      · have h := h.1 q
        exact g_wk (kM_weather_43 C hQ _ h) (trivial)
      · have h := h.2 q
        refine g_iload_3 C dX11_weather_34 rfl ?_
        refine g_iconst_0 C dX11_weather_35 ?_
        refine g_iconst_3 C dX11_weather_36 ?_
        refine csM_X11_109 C h ⟨Nat.le_of_ble_eq_true rfl, Nat.le_of_ble_eq_true rfl⟩ (Nat.le_of_ble_eq_true rfl) dX11_weather_37 (fun _ _ h => ?_)
        refine g_if_ne C 45 dX11_weather_40 (by decide) (fun q => ?_) (fun q => ?_)
        · have h := h.1 q
          refine g_iconst_0 C dX11_weather_45 ?_
          refine g_istore C dX11_weather_46 (Nat.le_of_ble_eq_true rfl) ?_
          exact g_wk (kM_weather_48 C hQ _ _ _ _ _ h) (And.intro rfl (And.intro rfl (And.intro rfl (And.intro rfl (And.intro rfl (trivial))))))
        · have h := h.2 q
          exact g_wk (kM_weather_43 C hQ _ h) (trivial)
theorem cM_weather {l : Launch} {E : Ev} {a : Nat → Nat} {x1 x2 x3 : Int32} {σ : St} {post : Int32 → St → Prop} (h : wpM_weather x1 x2 x3 σ post) : CI l E (wM E a) yX11_weather cX11_weather 6 .boolean rmM_weather [.ref (a 0), .int x1, .int x2, .int x3] σ post := met_i (by decide) rfl (Nat.le_of_ble_eq_true rfl) rfl (fun X C hQ => kM_weather C hQ _ _ _ _ h)
/-! IceRunModel.water(II)Z -/
abbrev rmM_water : Room := { frames := 1, cells := 0, slots := 0, locals := 22 }
def wpM_water_29 (σ : St) (post : Int32 → St → Prop) : Prop := post 0 σ
theorem kM_water_29 {X : Kx} {l : Launch} {E : Ev} {a : Nat → Nat} {post : Int32 → St → Prop} (C : Cx X l E RX11 cX11_water rmM_water (some .boolean)) (hQ : QI X (wM E a) post) (σ : St) (h : wpM_water_29   σ post) : G X (wM E a) σ 29 [none, none, none, none] [] := by
  unfold wpM_water_29 at h
  refine g_iconst_0 C dX11_water_29 ?_
  exact g_zreturn C hQ dX11_water_30 (Or.inl rfl) h
def wpBM_water_33 (k_33 : Int32 → Int32 → St → Prop) (x2 x3 : Int32) (σ : St) (post : Int32 → St → Prop) : Prop := ((x2 ≤ x3 → post 1 σ) ∧ (¬ x2 ≤ x3 → vp_in x3 40 ∧ (let σ1 : St := pA σ 7 (Int32.toNatClampNeg x3) 0; vp_in x3 40 ∧ (wpM_bounded ((σ1.2 6 (Int32.toNatClampNeg x3)) - 100) 0 1000 σ1 (fun r3 σ2 => vp_in x3 40 ∧ (let σ4 : St := pA σ2 6 (Int32.toNatClampNeg x3) r3; let y5 : Int32 := x3 + 1; k_33 x2 y5 σ4))))))
def wpM_water_33 (x2 x3 : Int32) (σ : St) (post : Int32 → St → Prop) : Prop := ∃ n : Nat, lpN (α := Int32 × Int32 × St) (fun kb t => wpBM_water_33 (fun x2 x3 σ => kb (x2, x3, σ)) t.1 t.2.1 t.2.2 post) n (x2, x3, σ)
theorem kBM_water_33 {X : Kx} {l : Launch} {E : Ev} {a : Nat → Nat} {post : Int32 → St → Prop} (C : Cx X l E RX11 cX11_water rmM_water (some .boolean)) (hQ : QI X (wM E a) post) (k_33 : Int32 → Int32 → St → Prop) (hk_33 : ∀ (x2 x3 : Int32) (σ : St), k_33 x2 x3 σ → G X (wM E a) σ 33 [some (.ref (a 0)), none, some (.int x2), some (.int x3)] []) (x2 x3 : Int32) (σ : St) (h : wpBM_water_33 k_33 x2 x3 σ post) : G X (wM E a) σ 33 [some (.ref (a 0)), none, some (.int x2), some (.int x3)] [] := by
  unfold wpBM_water_33 at h
  refine g_iload_3 C dX11_water_33 rfl ?_
  refine g_iload_2 C dX11_water_34 rfl ?_
  refine g_icmp_ge C 73 dX11_water_35 (by decide) (fun q => ?_) (fun q => ?_)
  · have h := h.1 q
    refine g_iconst_1 C dX11_water_73 ?_
    exact g_zreturn C hQ dX11_water_74 (Or.inr rfl) h
  · have h := h.2 q
    refine g_aload_0 C dX11_water_38 rfl ?_
    refine fgM_X11_22 C dX11_water_39 ?_
    refine g_iload_3 C dX11_water_42 rfl ?_
    refine g_iconst_0 C dX11_water_43 ?_
    obtain ⟨q, h⟩ := h
    refine asM_7 C q dX11_water_44 ?_
    refine g_aload_0 C dX11_water_45 rfl ?_
    refine fgM_X11_19 C dX11_water_46 ?_
    refine g_iload_3 C dX11_water_49 rfl ?_
    refine g_aload_0 C dX11_water_50 rfl ?_
    refine fgM_X11_19 C dX11_water_51 ?_
    refine g_iload_3 C dX11_water_54 rfl ?_
    obtain ⟨q, h⟩ := h
    refine alM_6 C q dX11_water_55 ?_
    refine g_bipush C (v := 100) (by decide) dX11_water_56 ?_
    refine g_isub C dX11_water_58 ?_
    refine g_iconst_0 C dX11_water_59 ?_
    refine g_sipush C (v := 1000) (by decide) dX11_water_60 ?_
    refine csM_X11_131 C h ⟨Nat.le_of_ble_eq_true rfl, Nat.le_of_ble_eq_true rfl⟩ (Nat.le_of_ble_eq_true rfl) dX11_water_63 (fun _ _ h => ?_)
    obtain ⟨q, h⟩ := h
    refine asM_6 C q dX11_water_66 ?_
    refine g_iinc C (v := 1) (by decide) dX11_water_67 rfl ?_
    refine g_goto C 33 dX11_water_70 (by decide) ?_
    exact g_wk (hk_33 _ _ _ h) (And.intro rfl (And.intro rfl (And.intro rfl (trivial))))
theorem kM_water_33 {X : Kx} {l : Launch} {E : Ev} {a : Nat → Nat} {post : Int32 → St → Prop} (C : Cx X l E RX11 cX11_water rmM_water (some .boolean)) (hQ : QI X (wM E a) post) (x2 x3 : Int32) (σ : St) (h : wpM_water_33  x2 x3 σ post) : G X (wM E a) σ 33 [some (.ref (a 0)), none, some (.int x2), some (.int x3)] [] := by
  obtain ⟨n, h⟩ := h
  exact g_loop (J := fun t : Int32 × Int32 × St => G X (wM E a) t.2.2 33 [some (.ref (a 0)), none, some (.int t.1), some (.int t.2.1)] []) (fun kb hkb t ht => kBM_water_33 C hQ  (fun x2 x3 σ => kb (x2, x3, σ)) (fun x2 x3 σ hh => hkb (x2, x3, σ) hh) t.1 t.2.1 t.2.2 ht) n (x2, x3, σ) h
def wpM_water (x1 x2 : Int32) (σ : St) (post : Int32 → St → Prop) : Prop := let σ1 : St := pI σ 0 0; (((σ1.1 1) = 0 → wpM_water_29 σ1 post) ∧ (¬ (σ1.1 1) = 0 → ((x1 < 0 → wpM_water_29 σ1 post) ∧ (¬ x1 < 0 → (((σ1.1 1) < x2 → wpM_water_29 σ1 post) ∧ (¬ (σ1.1 1) < x2 → ((x1 < x2 → wpM_water_33 x2 x1 σ1 post) ∧ (¬ x1 < x2 → wpM_water_29 σ1 post))))))))
theorem kM_water {X : Kx} {l : Launch} {E : Ev} {a : Nat → Nat} {post : Int32 → St → Prop} (C : Cx X l E RX11 cX11_water rmM_water (some .boolean)) (hQ : QI X (wM E a) post) (x1 x2 : Int32) (σ : St) (h : wpM_water x1 x2 σ post) : G X (wM E a) σ 0 [some (.ref (a 0)), some (.int x1), some (.int x2), none] [] := by
  unfold wpM_water at h
  refine g_aload_0 C dX11_water_0 rfl ?_
  refine g_iconst_0 C dX11_water_1 ?_
  refine fpM_X11_106 C dX11_water_2 ?_
  refine g_aload_0 C dX11_water_5 rfl ?_
  refine fgM_X11_117 C dX11_water_6 ?_
  refine g_if_eq C 29 dX11_water_9 (by decide) (fun q => ?_) (fun q => ?_)
  · have h := h.1 q
    exact g_wk (kM_water_29 C hQ _ h) (trivial)
  · have h := h.2 q
    refine g_iload_1 C dX11_water_12 rfl ?_
    refine g_if_lt C 29 dX11_water_13 (by decide) (fun q => ?_) (fun q => ?_)
    · have h := h.1 q
      exact g_wk (kM_water_29 C hQ _ h) (trivial)
    · have h := h.2 q
      refine g_iload_2 C dX11_water_16 rfl ?_
      refine g_aload_0 C dX11_water_17 rfl ?_
      refine fgM_X11_117 C dX11_water_18 ?_
      refine g_icmp_gt C 29 dX11_water_21 (by decide) (fun q => ?_) (fun q => ?_)
      · have h := h.1 q
        exact g_wk (kM_water_29 C hQ _ h) (trivial)
      · have h := h.2 q
        refine g_iload_1 C dX11_water_24 rfl ?_
        refine g_iload_2 C dX11_water_25 rfl ?_
        refine g_icmp_lt C 31 dX11_water_26 (by decide) (fun q => ?_) (fun q => ?_)
        · have h := h.1 q
          refine g_iload_1 C dX11_water_31 rfl ?_
          refine g_istore_3 C dX11_water_32 (Nat.le_of_ble_eq_true rfl) ?_
          exact g_wk (kM_water_33 C hQ _ _ _ h) (And.intro rfl (And.intro rfl (And.intro rfl (trivial))))
        · have h := h.2 q
          exact g_wk (kM_water_29 C hQ _ h) (trivial)
theorem cM_water {l : Launch} {E : Ev} {a : Nat → Nat} {x1 x2 : Int32} {σ : St} {post : Int32 → St → Prop} (h : wpM_water x1 x2 σ post) : CI l E (wM E a) yX11_water cX11_water 4 .boolean rmM_water [.ref (a 0), .int x1, .int x2] σ post := met_i (by decide) rfl (Nat.le_of_ble_eq_true rfl) rfl (fun X C hQ => kM_water C hQ _ _ _ h)
theorem alM_3 {X : Kx} {l : Launch} {E : Ev} {a : Nat → Nat} {σ : St} {cc : ByteArray} {rm : Room} {ret : Option FieldType} {pc : Nat} {lv : List (Option Value)} {st : List Value} {own : String} {i : Int32} (C : Cx X l E own cc rm ret) (hin : vp_in i 40) (d : decode cc pc = .ok (.iaload, 1)) (k : G X (wM E a) σ (pc + 1) lv (.int (σ.2 3 i.toNatClampNeg) :: st)) : G X (wM E a) σ pc lv (.int i :: .ref (a 4) :: st) := g_iald C (q0 := 1) rfl hin d k
theorem alM_4 {X : Kx} {l : Launch} {E : Ev} {a : Nat → Nat} {σ : St} {cc : ByteArray} {rm : Room} {ret : Option FieldType} {pc : Nat} {lv : List (Option Value)} {st : List Value} {own : String} {i : Int32} (C : Cx X l E own cc rm ret) (hin : vp_in i 40) (d : decode cc pc = .ok (.iaload, 1)) (k : G X (wM E a) σ (pc + 1) lv (.int (σ.2 4 i.toNatClampNeg) :: st)) : G X (wM E a) σ pc lv (.int i :: .ref (a 5) :: st) := g_iald C (q0 := 2) rfl hin d k
theorem alM_7 {X : Kx} {l : Launch} {E : Ev} {a : Nat → Nat} {σ : St} {cc : ByteArray} {rm : Room} {ret : Option FieldType} {pc : Nat} {lv : List (Option Value)} {st : List Value} {own : String} {i : Int32} (C : Cx X l E own cc rm ret) (hin : vp_in i 40) (d : decode cc pc = .ok (.iaload, 1)) (k : G X (wM E a) σ (pc + 1) lv (.int (σ.2 7 i.toNatClampNeg) :: st)) : G X (wM E a) σ pc lv (.int i :: .ref (a 8) :: st) := g_iald C (q0 := 5) rfl hin d k
/-! IceRunModel.cell(II)I -/
abbrev rmM_cell : Room := { frames := 2, cells := 0, slots := 0, locals := 43 }
def wpM_cell (x1 x2 : Int32) (σ : St) (post : Int32 → St → Prop) : Prop := let σ1 : St := pI σ 0 0; wpM_isCell x1 σ1 (fun r3 σ2 => ((¬ r3 = 0 → ((x2 = 0 → vp_in x1 40 ∧ (post (σ2.2 3 (Int32.toNatClampNeg x1)) σ2)) ∧ (x2 = 1 → vp_in x1 40 ∧ (post (σ2.2 4 (Int32.toNatClampNeg x1)) σ2)) ∧ (x2 = 2 → vp_in x1 40 ∧ (post (σ2.2 5 (Int32.toNatClampNeg x1)) σ2)) ∧ (x2 = 3 → vp_in x1 40 ∧ (post (σ2.2 6 (Int32.toNatClampNeg x1)) σ2)) ∧ (x2 = 4 → vp_in x1 40 ∧ (post (σ2.2 7 (Int32.toNatClampNeg x1)) σ2)) ∧ (¬ x2 = 0 → ¬ x2 = 1 → ¬ x2 = 2 → ¬ x2 = 3 → ¬ x2 = 4 → post (-1) σ2))) ∧ (r3 = 0 → post (-1) σ2)))
theorem kM_cell {X : Kx} {l : Launch} {E : Ev} {a : Nat → Nat} {post : Int32 → St → Prop} (C : Cx X l E RX11 cX11_cell rmM_cell (some .int)) (hQ : QI X (wM E a) post) (x1 x2 : Int32) (σ : St) (h : wpM_cell x1 x2 σ post) : G X (wM E a) σ 0 [some (.ref (a 0)), some (.int x1), some (.int x2)] [] := by
  unfold wpM_cell at h
  refine g_aload_0 C dX11_cell_0 rfl ?_
  refine g_iconst_0 C dX11_cell_1 ?_
  refine fpM_X11_106 C dX11_cell_2 ?_
  refine g_aload_0 C dX11_cell_5 rfl ?_
  refine g_iload_1 C dX11_cell_6 rfl ?_
  refine csM_X11_123 C h ⟨Nat.le_of_ble_eq_true rfl, Nat.le_of_ble_eq_true rfl⟩ (Nat.le_of_ble_eq_true rfl) dX11_cell_7 (fun _ _ h => ?_)
  refine g_if_ne C 15 dX11_cell_10 (by decide) (fun q => ?_) (fun q => ?_)
  · have h := h.1 q
    refine g_iload_2 C dX11_cell_15 rfl ?_
    by_cases q0 : x2 = 0
    · have h := h.1 q0
      refine g_tabIn C 52 0 q0 dX11_cell_16 (by decide) (by decide) (by rfl) (by decide) ?_
      refine g_aload_0 C dX11_cell_52 rfl ?_
      refine fgM_X11_7 C dX11_cell_53 ?_
      refine g_iload_1 C dX11_cell_56 rfl ?_
      obtain ⟨q, h⟩ := h
      refine alM_3 C q dX11_cell_57 ?_
      exact g_ireturn C hQ dX11_cell_58 h
    by_cases q1 : x2 = 1
    · have h := h.2.1 q1
      refine g_tabIn C 59 1 q1 dX11_cell_16 (by decide) (by decide) (by rfl) (by decide) ?_
      refine g_aload_0 C dX11_cell_59 rfl ?_
      refine fgM_X11_13 C dX11_cell_60 ?_
      refine g_iload_1 C dX11_cell_63 rfl ?_
      obtain ⟨q, h⟩ := h
      refine alM_4 C q dX11_cell_64 ?_
      exact g_ireturn C hQ dX11_cell_65 h
    by_cases q2 : x2 = 2
    · have h := h.2.2.1 q2
      refine g_tabIn C 66 2 q2 dX11_cell_16 (by decide) (by decide) (by rfl) (by decide) ?_
      refine g_aload_0 C dX11_cell_66 rfl ?_
      refine fgM_X11_16 C dX11_cell_67 ?_
      refine g_iload_1 C dX11_cell_70 rfl ?_
      obtain ⟨q, h⟩ := h
      refine alM_5 C q dX11_cell_71 ?_
      exact g_ireturn C hQ dX11_cell_72 h
    by_cases q3 : x2 = 3
    · have h := h.2.2.2.1 q3
      refine g_tabIn C 73 3 q3 dX11_cell_16 (by decide) (by decide) (by rfl) (by decide) ?_
      refine g_aload_0 C dX11_cell_73 rfl ?_
      refine fgM_X11_19 C dX11_cell_74 ?_
      refine g_iload_1 C dX11_cell_77 rfl ?_
      obtain ⟨q, h⟩ := h
      refine alM_6 C q dX11_cell_78 ?_
      exact g_ireturn C hQ dX11_cell_79 h
    by_cases q4 : x2 = 4
    · have h := h.2.2.2.2.1 q4
      refine g_tabIn C 80 4 q4 dX11_cell_16 (by decide) (by decide) (by rfl) (by decide) ?_
      refine g_aload_0 C dX11_cell_80 rfl ?_
      refine fgM_X11_22 C dX11_cell_81 ?_
      refine g_iload_1 C dX11_cell_84 rfl ?_
      obtain ⟨q, h⟩ := h
      refine alM_7 C q dX11_cell_85 ?_
      exact g_ireturn C hQ dX11_cell_86 h
    have h := h.2.2.2.2.2 q0 q1 q2 q3 q4
    refine g_tabOut C 87 (by have e0 := lv_neT q0 (a := 0) (by decide); have e1 := lv_neT q1 (a := 1) (by decide); have e2 := lv_neT q2 (a := 2) (by decide); have e3 := lv_neT q3 (a := 3) (by decide); have e4 := lv_neT q4 (a := 4) (by decide); omega) dX11_cell_16 (by decide) ?_
    refine g_iconst_m1 C dX11_cell_87 ?_
    exact g_ireturn C hQ dX11_cell_88 h
  · have h := h.2 q
    refine g_iconst_m1 C dX11_cell_13 ?_
    exact g_ireturn C hQ dX11_cell_14 h
theorem cM_cell {l : Launch} {E : Ev} {a : Nat → Nat} {x1 x2 : Int32} {σ : St} {post : Int32 → St → Prop} (h : wpM_cell x1 x2 σ post) : CI l E (wM E a) yX11_cell cX11_cell 3 .int rmM_cell [.ref (a 0), .int x1, .int x2] σ post := met_i (by decide) rfl (Nat.le_of_ble_eq_true rfl) rfl (fun X C hQ => kM_cell C hQ _ _ _ h)
theorem fgM_X11_120 {X : Kx} {l : Launch} {E : Ev} {a : Nat → Nat} {σ : St} {cc : ByteArray} {rm : Room} {ret : Option FieldType} {pc : Nat} {lv : List (Option Value)} {st : List Value} (C : Cx X l E RX11 cc rm ret) (d : decode cc pc = .ok (.getfield 120, 3)) (k : G X (wM E a) σ (pc + 3) lv (.int (σ.1 2) :: st)) : G X (wM E a) σ pc lv (.ref (a 0) :: st) := g_get C (q0 := 0) (ci := 10) (k := 2) rfl rfl inU_X11 (by decide) (by decide +kernel) rfl d k
/-! IceRunModel.eye(III)Z -/
abbrev rmM_eye : Room := { frames := 1, cells := 0, slots := 0, locals := 22 }
def wpM_eye_45 (σ : St) (post : Int32 → St → Prop) : Prop := post 0 σ
theorem kM_eye_45 {X : Kx} {l : Launch} {E : Ev} {a : Nat → Nat} {post : Int32 → St → Prop} (C : Cx X l E RX11 cX11_eye rmM_eye (some .boolean)) (hQ : QI X (wM E a) post) (σ : St) (h : wpM_eye_45   σ post) : G X (wM E a) σ 45 [none, none, none, none] [] := by
  unfold wpM_eye_45 at h
  refine g_iconst_0 C dX11_eye_45 ?_
  exact g_zreturn C hQ dX11_eye_46 (Or.inl rfl) h
def wpM_eye_47 (x1 x2 x3 : Int32) (σ : St) (post : Int32 → St → Prop) : Prop := vp_in ((2 * x1) + x2) 12 ∧ (let σ1 : St := pA σ 9 (Int32.toNatClampNeg ((2 * x1) + x2)) x3; post 1 σ1)
theorem kM_eye_47 {X : Kx} {l : Launch} {E : Ev} {a : Nat → Nat} {post : Int32 → St → Prop} (C : Cx X l E RX11 cX11_eye rmM_eye (some .boolean)) (hQ : QI X (wM E a) post) (x1 x2 x3 : Int32) (σ : St) (h : wpM_eye_47  x1 x2 x3 σ post) : G X (wM E a) σ 47 [some (.ref (a 0)), some (.int x1), some (.int x2), some (.int x3)] [] := by
  unfold wpM_eye_47 at h
  refine g_aload_0 C dX11_eye_47 rfl ?_
  refine fgM_X11_28 C dX11_eye_48 ?_
  refine g_iconst_2 C dX11_eye_51 ?_
  refine g_iload_1 C dX11_eye_52 rfl ?_
  refine g_imul C dX11_eye_53 ?_
  refine g_iload_2 C dX11_eye_54 rfl ?_
  refine g_iadd C dX11_eye_55 ?_
  refine g_iload_3 C dX11_eye_56 rfl ?_
  obtain ⟨q, h⟩ := h
  refine asM_9 C q dX11_eye_57 ?_
  refine g_iconst_1 C dX11_eye_58 ?_
  exact g_zreturn C hQ dX11_eye_59 (Or.inr rfl) h
def wpM_eye (x1 x2 x3 : Int32) (σ : St) (post : Int32 → St → Prop) : Prop := let σ1 : St := pI σ 0 0; wpM_within x1 1 ((σ1.1 2) - 1) σ1 (fun r3 σ2 => ((r3 = 0 → wpM_eye_45 σ2 post) ∧ (¬ r3 = 0 → wpM_within x2 0 1 σ2 (fun r5 σ4 => ((r5 = 0 → wpM_eye_45 σ4 post) ∧ (¬ r5 = 0 → wpM_within x3 (-50) 50 σ4 (fun r7 σ6 => ((¬ r7 = 0 → wpM_eye_47 x1 x2 x3 σ6 post) ∧ (r7 = 0 → ((x3 = 100 → wpM_eye_47 x1 x2 x3 σ6 post) ∧ (¬ x3 = 100 → wpM_eye_45 σ6 post)))))))))))
theorem kM_eye {X : Kx} {l : Launch} {E : Ev} {a : Nat → Nat} {post : Int32 → St → Prop} (C : Cx X l E RX11 cX11_eye rmM_eye (some .boolean)) (hQ : QI X (wM E a) post) (x1 x2 x3 : Int32) (σ : St) (h : wpM_eye x1 x2 x3 σ post) : G X (wM E a) σ 0 [some (.ref (a 0)), some (.int x1), some (.int x2), some (.int x3)] [] := by
  unfold wpM_eye at h
  refine g_aload_0 C dX11_eye_0 rfl ?_
  refine g_iconst_0 C dX11_eye_1 ?_
  refine fpM_X11_106 C dX11_eye_2 ?_
  refine g_iload_1 C dX11_eye_5 rfl ?_
  refine g_iconst_1 C dX11_eye_6 ?_
  refine g_aload_0 C dX11_eye_7 rfl ?_
  refine fgM_X11_120 C dX11_eye_8 ?_
  refine g_iconst_1 C dX11_eye_11 ?_
  refine g_isub C dX11_eye_12 ?_
  refine csM_X11_109 C h ⟨Nat.le_of_ble_eq_true rfl, Nat.le_of_ble_eq_true rfl⟩ (Nat.le_of_ble_eq_true rfl) dX11_eye_13 (fun _ _ h => ?_)
  refine g_if_eq C 45 dX11_eye_16 (by decide) (fun q => ?_) (fun q => ?_)
  · have h := h.1 q
    exact g_wk (kM_eye_45 C hQ _ h) (trivial)
  · have h := h.2 q
    refine g_iload_2 C dX11_eye_19 rfl ?_
    refine g_iconst_0 C dX11_eye_20 ?_
    refine g_iconst_1 C dX11_eye_21 ?_
    refine csM_X11_109 C h ⟨Nat.le_of_ble_eq_true rfl, Nat.le_of_ble_eq_true rfl⟩ (Nat.le_of_ble_eq_true rfl) dX11_eye_22 (fun _ _ h => ?_)
    refine g_if_eq C 45 dX11_eye_25 (by decide) (fun q => ?_) (fun q => ?_)
    · have h := h.1 q
      exact g_wk (kM_eye_45 C hQ _ h) (trivial)
    · have h := h.2 q
      refine g_iload_3 C dX11_eye_28 rfl ?_
      refine g_bipush C (v := (-50)) (by decide) dX11_eye_29 ?_
      refine g_bipush C (v := 50) (by decide) dX11_eye_31 ?_
      refine csM_X11_109 C h ⟨Nat.le_of_ble_eq_true rfl, Nat.le_of_ble_eq_true rfl⟩ (Nat.le_of_ble_eq_true rfl) dX11_eye_33 (fun _ _ h => ?_)
      refine g_if_ne C 47 dX11_eye_36 (by decide) (fun q => ?_) (fun q => ?_)
      · have h := h.1 q
        exact g_wk (kM_eye_47 C hQ _ _ _ _ h) (And.intro rfl (And.intro rfl (And.intro rfl (And.intro rfl (trivial)))))
      · have h := h.2 q
        refine g_iload_3 C dX11_eye_39 rfl ?_
        refine g_bipush C (v := 100) (by decide) dX11_eye_40 ?_
        refine g_icmp_eq C 47 dX11_eye_42 (by decide) (fun q => ?_) (fun q => ?_)
        · have h := h.1 q
          exact g_wk (kM_eye_47 C hQ _ _ _ _ h) (And.intro rfl (And.intro rfl (And.intro rfl (And.intro rfl (trivial)))))
        · have h := h.2 q
          exact g_wk (kM_eye_45 C hQ _ h) (trivial)
theorem cM_eye {l : Launch} {E : Ev} {a : Nat → Nat} {x1 x2 x3 : Int32} {σ : St} {post : Int32 → St → Prop} (h : wpM_eye x1 x2 x3 σ post) : CI l E (wM E a) yX11_eye cX11_eye 4 .boolean rmM_eye [.ref (a 0), .int x1, .int x2, .int x3] σ post := met_i (by decide) rfl (Nat.le_of_ble_eq_true rfl) rfl (fun X C hQ => kM_eye C hQ _ _ _ _ h)

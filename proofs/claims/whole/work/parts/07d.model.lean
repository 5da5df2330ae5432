theorem fgM_X11_97 {X : Kx} {l : Launch} {E : Ev} {a : Nat → Nat} {σ : St} {cc : ByteArray} {rm : Room} {ret : Option FieldType} {pc : Nat} {lv : List (Option Value)} {st : List Value} (C : Cx X l E RX11 cc rm ret) (d : decode cc pc = .ok (.getfield 97, 3)) (k : G X (wM E a) σ (pc + 3) lv (.ref (a 42) :: st)) : G X (wM E a) σ pc lv (.ref (a 0) :: st) := g_get C (q0 := 0) (ci := 10) (k := 41) rfl rfl inU_X11 (by decide) (by decide +kernel) rfl d k
theorem alM_41 {X : Kx} {l : Launch} {E : Ev} {a : Nat → Nat} {σ : St} {cc : ByteArray} {rm : Room} {ret : Option FieldType} {pc : Nat} {lv : List (Option Value)} {st : List Value} {own : String} {i : Int32} (C : Cx X l E own cc rm ret) (hin : vp_in i 16) (d : decode cc pc = .ok (.iaload, 1)) (k : G X (wM E a) σ (pc + 1) lv (.int (σ.2 41 i.toNatClampNeg) :: st)) : G X (wM E a) σ pc lv (.int i :: .ref (a 42) :: st) := g_iald C (q0 := 28) rfl hin d k
theorem asM_41 {X : Kx} {l : Launch} {E : Ev} {a : Nat → Nat} {σ : St} {cc : ByteArray} {rm : Room} {ret : Option FieldType} {pc : Nat} {lv : List (Option Value)} {st : List Value} {own : String} {i x : Int32} (C : Cx X l E own cc rm ret) (hin : vp_in i 16) (d : decode cc pc = .ok (.iastore, 1)) (k : G X (wM E a) (pA σ 41 i.toNatClampNeg x) (pc + 1) lv st) : G X (wM E a) σ pc lv (.int x :: .int i :: .ref (a 42) :: st) := g_iast C (q0 := 28) rfl rfl hin d k
theorem lc_X11_237 : Cond.constant RX11 237 1103515245 ∈ UW := by decide +kernel
theorem fgM_X11_72 {X : Kx} {l : Launch} {E : Ev} {a : Nat → Nat} {σ : St} {cc : ByteArray} {rm : Room} {ret : Option FieldType} {pc : Nat} {lv : List (Option Value)} {st : List Value} (C : Cx X l E RX11 cc rm ret) (d : decode cc pc = .ok (.getfield 72, 3)) (k : G X (wM E a) σ (pc + 3) lv (.ref (a 30) :: st)) : G X (wM E a) σ pc lv (.ref (a 0) :: st) := g_get C (q0 := 0) (ci := 10) (k := 29) rfl rfl inU_X11 (by decide) (by decide +kernel) rfl d k
theorem asM_29 {X : Kx} {l : Launch} {E : Ev} {a : Nat → Nat} {σ : St} {cc : ByteArray} {rm : Room} {ret : Option FieldType} {pc : Nat} {lv : List (Option Value)} {st : List Value} {own : String} {i x : Int32} (C : Cx X l E own cc rm ret) (hin : vp_in i 16) (d : decode cc pc = .ok (.iastore, 1)) (k : G X (wM E a) (pA σ 29 i.toNatClampNeg x) (pc + 1) lv st) : G X (wM E a) σ pc lv (.int x :: .int i :: .ref (a 30) :: st) := g_iast C (q0 := 20) rfl rfl hin d k
/-! IceRunModel.draws(II)V -/
abbrev rmM_draws : Room := { frames := 0, cells := 0, slots := 0, locals := 0 }
def wpBM_draws_86 (k_41 : Int32 → Int32 → Int32 → Int32 → St → Prop) (k_86 : Int32 → Int32 → Int32 → Int32 → Int32 → St → Prop) (x2 x3 x4 x5 x7 : Int32) (σ : St) (post : St → Prop) : Prop := ((x4 ≤ x7 → let y1 : Int32 := x5 + 1; k_41 x2 x3 x4 y1 σ) ∧ (¬ x4 ≤ x7 → vp_in (x7 + 1) 16 ∧ (vp_in x7 16 ∧ (let σ2 : St := pA σ 41 (Int32.toNatClampNeg x7) (σ.2 41 (Int32.toNatClampNeg (x7 + 1))); let y3 : Int32 := x7 + 1; k_86 x2 x3 x4 x5 y3 σ2))))
def wpM_draws_86 (k_41 : Int32 → Int32 → Int32 → Int32 → St → Prop) (x2 x3 x4 x5 x7 : Int32) (σ : St) (post : St → Prop) : Prop := ∃ n : Nat, lpN (α := Int32 × Int32 × Int32 × Int32 × Int32 × St) (fun kb t => wpBM_draws_86 k_41 (fun x2 x3 x4 x5 x7 σ => kb (x2, x3, x4, x5, x7, σ)) t.1 t.2.1 t.2.2.1 t.2.2.2.1 t.2.2.2.2.1 t.2.2.2.2.2 post) n (x2, x3, x4, x5, x7, σ)
theorem kBM_draws_86 {X : Kx} {l : Launch} {E : Ev} {a : Nat → Nat} {post : St → Prop} (C : Cx X l E RX11 cX11_draws rmM_draws none) (hQ : QV X (wM E a) post) (k_41 : Int32 → Int32 → Int32 → Int32 → St → Prop) (hk_41 : ∀ (x2 x3 x4 x5 : Int32) (σ : St), k_41 x2 x3 x4 x5 σ → G X (wM E a) σ 41 [some (.ref (a 0)), none, some (.int x2), some (.int x3), some (.int x4), some (.int x5), none, none] []) (k_86 : Int32 → Int32 → Int32 → Int32 → Int32 → St → Prop) (hk_86 : ∀ (x2 x3 x4 x5 x7 : Int32) (σ : St), k_86 x2 x3 x4 x5 x7 σ → G X (wM E a) σ 86 [some (.ref (a 0)), none, some (.int x2), some (.int x3), some (.int x4), some (.int x5), none, some (.int x7)] []) (x2 x3 x4 x5 x7 : Int32) (σ : St) (h : wpBM_draws_86 k_41 k_86 x2 x3 x4 x5 x7 σ post) : G X (wM E a) σ 86 [some (.ref (a 0)), none, some (.int x2), some (.int x3), some (.int x4), some (.int x5), none, some (.int x7)] [] := by
  unfold wpBM_draws_86 at h
  refine g_iload C dX11_draws_86 rfl ?_
  refine g_iload C dX11_draws_88 rfl ?_
  refine g_icmp_ge C 115 dX11_draws_90 (by decide) (fun q => ?_) (fun q => ?_)
  · have h := h.1 q
    refine g_iinc C (v := 1) (by decide) dX11_draws_115 rfl ?_
    refine g_goto C 41 dX11_draws_118 (by decide) ?_
    exact g_wk (hk_41 _ _ _ _ _ h) (And.intro rfl (And.intro rfl (And.intro rfl (And.intro rfl (And.intro rfl (trivial))))))
  · have h := h.2 q
    refine g_aload_0 C dX11_draws_93 rfl ?_
    refine fgM_X11_97 C dX11_draws_94 ?_
    refine g_iload C dX11_draws_97 rfl ?_
    refine g_aload_0 C dX11_draws_99 rfl ?_
    refine fgM_X11_97 C dX11_draws_100 ?_
    refine g_iload C dX11_draws_103 rfl ?_
    refine g_iconst_1 C dX11_draws_105 ?_
    refine g_iadd C dX11_draws_106 ?_
    obtain ⟨q, h⟩ := h
    refine alM_41 C q dX11_draws_107 ?_
    obtain ⟨q, h⟩ := h
    refine asM_41 C q dX11_draws_108 ?_
    refine g_iinc C (v := 1) (by decide) dX11_draws_109 rfl ?_
    refine g_goto C 86 dX11_draws_112 (by decide) ?_
    exact g_wk (hk_86 _ _ _ _ _ _ h) (And.intro rfl (And.intro rfl (And.intro rfl (And.intro rfl (And.intro rfl (And.intro rfl (trivial)))))))
theorem kM_draws_86 {X : Kx} {l : Launch} {E : Ev} {a : Nat → Nat} {post : St → Prop} (C : Cx X l E RX11 cX11_draws rmM_draws none) (hQ : QV X (wM E a) post) (k_41 : Int32 → Int32 → Int32 → Int32 → St → Prop) (hk_41 : ∀ (x2 x3 x4 x5 : Int32) (σ : St), k_41 x2 x3 x4 x5 σ → G X (wM E a) σ 41 [some (.ref (a 0)), none, some (.int x2), some (.int x3), some (.int x4), some (.int x5), none, none] []) (x2 x3 x4 x5 x7 : Int32) (σ : St) (h : wpM_draws_86 k_41 x2 x3 x4 x5 x7 σ post) : G X (wM E a) σ 86 [some (.ref (a 0)), none, some (.int x2), some (.int x3), some (.int x4), some (.int x5), none, some (.int x7)] [] := by
  obtain ⟨n, h⟩ := h
  exact g_loop (J := fun t : Int32 × Int32 × Int32 × Int32 × Int32 × St => G X (wM E a) t.2.2.2.2.2 86 [some (.ref (a 0)), none, some (.int t.1), some (.int t.2.1), some (.int t.2.2.1), some (.int t.2.2.2.1), none, some (.int t.2.2.2.2.1)] []) (fun kb hkb t ht => kBM_draws_86 C hQ k_41 hk_41 (fun x2 x3 x4 x5 x7 σ => kb (x2, x3, x4, x5, x7, σ)) (fun x2 x3 x4 x5 x7 σ hh => hkb (x2, x3, x4, x5, x7, σ) hh) t.1 t.2.1 t.2.2.1 t.2.2.2.1 t.2.2.2.2.1 t.2.2.2.2.2 ht) n (x2, x3, x4, x5, x7, σ) h
def wpBM_draws_41 (k_41 : Int32 → Int32 → Int32 → Int32 → St → Prop) (x2 x3 x4 x5 : Int32) (σ : St) (post : St → Prop) : Prop := ((x2 ≤ x5 → post σ) ∧ (¬ x2 ≤ x5 → let y1 : Int32 := ((x3 * 1103515245) + 12345); (¬ x4 = 0) ∧ (let y2 : Int32 := (((Int32.toUInt32 y1 >>> (Int32.toUInt32 16 &&& Int32.toUInt32 31)).toInt32) - ((Int32.toUInt32 y1 >>> (Int32.toUInt32 16 &&& Int32.toUInt32 31)).toInt32) / x4 * x4); vp_in y2 16 ∧ (vp_in x5 16 ∧ (let σ3 : St := pA σ 29 (Int32.toNatClampNeg x5) (σ.2 41 (Int32.toNatClampNeg y2)); let y4 : Int32 := x4 + (-1); wpM_draws_86 k_41 x2 y1 y4 x5 y2 σ3 post)))))
def wpM_draws_41 (x2 x3 x4 x5 : Int32) (σ : St) (post : St → Prop) : Prop := ∃ n : Nat, lpN (α := Int32 × Int32 × Int32 × Int32 × St) (fun kb t => wpBM_draws_41 (fun x2 x3 x4 x5 σ => kb (x2, x3, x4, x5, σ)) t.1 t.2.1 t.2.2.1 t.2.2.2.1 t.2.2.2.2 post) n (x2, x3, x4, x5, σ)
theorem kBM_draws_41 {X : Kx} {l : Launch} {E : Ev} {a : Nat → Nat} {post : St → Prop} (C : Cx X l E RX11 cX11_draws rmM_draws none) (hQ : QV X (wM E a) post) (k_41 : Int32 → Int32 → Int32 → Int32 → St → Prop) (hk_41 : ∀ (x2 x3 x4 x5 : Int32) (σ : St), k_41 x2 x3 x4 x5 σ → G X (wM E a) σ 41 [some (.ref (a 0)), none, some (.int x2), some (.int x3), some (.int x4), some (.int x5), none, none] []) (x2 x3 x4 x5 : Int32) (σ : St) (h : wpBM_draws_41 k_41 x2 x3 x4 x5 σ post) : G X (wM E a) σ 41 [some (.ref (a 0)), none, some (.int x2), some (.int x3), some (.int x4), some (.int x5), none, none] [] := by
  unfold wpBM_draws_41 at h
  refine g_iload C dX11_draws_41 rfl ?_
  refine g_iload_2 C dX11_draws_43 rfl ?_
  refine g_icmp_ge C 121 dX11_draws_44 (by decide) (fun q => ?_) (fun q => ?_)
  · have h := h.1 q
    exact g_return C hQ dX11_draws_121 h
  · have h := h.2 q
    refine g_iload_3 C dX11_draws_47 rfl ?_
    refine g_ldc C lc_X11_237 dX11_draws_48 ?_
    refine g_imul C dX11_draws_50 ?_
    refine g_sipush C (v := 12345) (by decide) dX11_draws_51 ?_
    refine g_iadd C dX11_draws_54 ?_
    refine g_istore_3 C dX11_draws_55 (Nat.le_of_ble_eq_true rfl) ?_
    refine g_iload_3 C dX11_draws_56 rfl ?_
    refine g_bipush C (v := 16) (by decide) dX11_draws_57 ?_
    refine g_iushr C dX11_draws_59 ?_
    refine g_iload C dX11_draws_60 rfl ?_
    obtain ⟨q, h⟩ := h
    refine g_irem C q dX11_draws_62 ?_
    refine g_istore C dX11_draws_63 (Nat.le_of_ble_eq_true rfl) ?_
    refine g_aload_0 C dX11_draws_65 rfl ?_
    refine fgM_X11_72 C dX11_draws_66 ?_
    refine g_iload C dX11_draws_69 rfl ?_
    refine g_aload_0 C dX11_draws_71 rfl ?_
    refine fgM_X11_97 C dX11_draws_72 ?_
    refine g_iload C dX11_draws_75 rfl ?_
    obtain ⟨q, h⟩ := h
    refine alM_41 C q dX11_draws_77 ?_
    obtain ⟨q, h⟩ := h
    refine asM_29 C q dX11_draws_78 ?_
    refine g_iinc C (v := (-1)) (by decide) dX11_draws_79 rfl ?_
    refine g_iload C dX11_draws_82 rfl ?_
    refine g_istore C dX11_draws_84 (Nat.le_of_ble_eq_true rfl) ?_
    exact g_wk (kM_draws_86 C hQ _ hk_41 _ _ _ _ _ _ h) (And.intro rfl (And.intro rfl (And.intro rfl (And.intro rfl (And.intro rfl (And.intro rfl (trivial)))))))
theorem kM_draws_41 {X : Kx} {l : Launch} {E : Ev} {a : Nat → Nat} {post : St → Prop} (C : Cx X l E RX11 cX11_draws rmM_draws none) (hQ : QV X (wM E a) post) (x2 x3 x4 x5 : Int32) (σ : St) (h : wpM_draws_41  x2 x3 x4 x5 σ post) : G X (wM E a) σ 41 [some (.ref (a 0)), none, some (.int x2), some (.int x3), some (.int x4), some (.int x5), none, none] [] := by
  obtain ⟨n, h⟩ := h
  exact g_loop (J := fun t : Int32 × Int32 × Int32 × Int32 × St => G X (wM E a) t.2.2.2.2 41 [some (.ref (a 0)), none, some (.int t.1), some (.int t.2.1), some (.int t.2.2.1), some (.int t.2.2.2.1), none, none] []) (fun kb hkb t ht => kBM_draws_41 C hQ  (fun x2 x3 x4 x5 σ => kb (x2, x3, x4, x5, σ)) (fun x2 x3 x4 x5 σ hh => hkb (x2, x3, x4, x5, σ) hh) t.1 t.2.1 t.2.2.1 t.2.2.2.1 t.2.2.2.2 ht) n (x2, x3, x4, x5, σ) h
def wpBM_draws_13 (k_13 : Int32 → Int32 → Int32 → Int32 → St → Prop) (x2 x3 x4 x5 : Int32) (σ : St) (post : St → Prop) : Prop := ((x2 ≤ x5 → wpM_draws_41 x2 x3 x4 0 σ post) ∧ (¬ x2 ≤ x5 → vp_in x5 16 ∧ (vp_in (σ.2 41 (Int32.toNatClampNeg x5)) 16 ∧ (let σ1 : St := pA σ 32 (Int32.toNatClampNeg (σ.2 41 (Int32.toNatClampNeg x5))) (vp_nar .boolean 1); let y2 : Int32 := x5 + 1; k_13 x2 x3 x4 y2 σ1))))
def wpM_draws_13 (x2 x3 x4 x5 : Int32) (σ : St) (post : St → Prop) : Prop := ∃ n : Nat, lpN (α := Int32 × Int32 × Int32 × Int32 × St) (fun kb t => wpBM_draws_13 (fun x2 x3 x4 x5 σ => kb (x2, x3, x4, x5, σ)) t.1 t.2.1 t.2.2.1 t.2.2.2.1 t.2.2.2.2 post) n (x2, x3, x4, x5, σ)
theorem kBM_draws_13 {X : Kx} {l : Launch} {E : Ev} {a : Nat → Nat} {post : St → Prop} (C : Cx X l E RX11 cX11_draws rmM_draws none) (hQ : QV X (wM E a) post) (k_13 : Int32 → Int32 → Int32 → Int32 → St → Prop) (hk_13 : ∀ (x2 x3 x4 x5 : Int32) (σ : St), k_13 x2 x3 x4 x5 σ → G X (wM E a) σ 13 [some (.ref (a 0)), none, some (.int x2), some (.int x3), some (.int x4), some (.int x5), none, none] []) (x2 x3 x4 x5 : Int32) (σ : St) (h : wpBM_draws_13 k_13 x2 x3 x4 x5 σ post) : G X (wM E a) σ 13 [some (.ref (a 0)), none, some (.int x2), some (.int x3), some (.int x4), some (.int x5), none, none] [] := by
  unfold wpBM_draws_13 at h
  refine g_iload C dX11_draws_13 rfl ?_
  refine g_iload_2 C dX11_draws_15 rfl ?_
  refine g_icmp_ge C 38 dX11_draws_16 (by decide) (fun q => ?_) (fun q => ?_)
  · have h := h.1 q
    refine g_iconst_0 C dX11_draws_38 ?_
    refine g_istore C dX11_draws_39 (Nat.le_of_ble_eq_true rfl) ?_
    exact g_wk (kM_draws_41 C hQ _ _ _ _ _ h) (And.intro rfl (And.intro rfl (And.intro rfl (And.intro rfl (And.intro rfl (trivial))))))
  · have h := h.2 q
    refine g_aload_0 C dX11_draws_19 rfl ?_
    refine fgM_X11_75 C dX11_draws_20 ?_
    refine g_aload_0 C dX11_draws_23 rfl ?_
    refine fgM_X11_97 C dX11_draws_24 ?_
    refine g_iload C dX11_draws_27 rfl ?_
    obtain ⟨q, h⟩ := h
    refine alM_41 C q dX11_draws_29 ?_
    refine g_iconst_1 C dX11_draws_30 ?_
    obtain ⟨q, h⟩ := h
    refine asM_32 C q dX11_draws_31 ?_
    refine g_iinc C (v := 1) (by decide) dX11_draws_32 rfl ?_
    refine g_goto C 13 dX11_draws_35 (by decide) ?_
    exact g_wk (hk_13 _ _ _ _ _ h) (And.intro rfl (And.intro rfl (And.intro rfl (And.intro rfl (And.intro rfl (trivial))))))
theorem kM_draws_13 {X : Kx} {l : Launch} {E : Ev} {a : Nat → Nat} {post : St → Prop} (C : Cx X l E RX11 cX11_draws rmM_draws none) (hQ : QV X (wM E a) post) (x2 x3 x4 x5 : Int32) (σ : St) (h : wpM_draws_13  x2 x3 x4 x5 σ post) : G X (wM E a) σ 13 [some (.ref (a 0)), none, some (.int x2), some (.int x3), some (.int x4), some (.int x5), none, none] [] := by
  obtain ⟨n, h⟩ := h
  exact g_loop (J := fun t : Int32 × Int32 × Int32 × Int32 × St => G X (wM E a) t.2.2.2.2 13 [some (.ref (a 0)), none, some (.int t.1), some (.int t.2.1), some (.int t.2.2.1), some (.int t.2.2.2.1), none, none] []) (fun kb hkb t ht => kBM_draws_13 C hQ  (fun x2 x3 x4 x5 σ => kb (x2, x3, x4, x5, σ)) (fun x2 x3 x4 x5 σ hh => hkb (x2, x3, x4, x5, σ) hh) t.1 t.2.1 t.2.2.1 t.2.2.2.1 t.2.2.2.2 ht) n (x2, x3, x4, x5, σ) h
def wpM_draws (x1 x2 : Int32) (σ : St) (post : St → Prop) : Prop := let σ1 : St := pI σ 30 x2; wpM_draws_13 x2 x1 x2 0 σ1 post
theorem kM_draws {X : Kx} {l : Launch} {E : Ev} {a : Nat → Nat} {post : St → Prop} (C : Cx X l E RX11 cX11_draws rmM_draws none) (hQ : QV X (wM E a) post) (x1 x2 : Int32) (σ : St) (h : wpM_draws x1 x2 σ post) : G X (wM E a) σ 0 [some (.ref (a 0)), some (.int x1), some (.int x2), none, none, none, none, none] [] := by
  unfold wpM_draws at h
  refine g_aload_0 C dX11_draws_0 rfl ?_
  refine g_iload_2 C dX11_draws_1 rfl ?_
  refine fpM_X11_217 C dX11_draws_2 ?_
  refine g_iload_1 C dX11_draws_5 rfl ?_
  refine g_istore_3 C dX11_draws_6 (Nat.le_of_ble_eq_true rfl) ?_
  refine g_iload_2 C dX11_draws_7 rfl ?_
  refine g_istore C dX11_draws_8 (Nat.le_of_ble_eq_true rfl) ?_
  refine g_iconst_0 C dX11_draws_10 ?_
  refine g_istore C dX11_draws_11 (Nat.le_of_ble_eq_true rfl) ?_
  exact g_wk (kM_draws_13 C hQ _ _ _ _ _ h) (And.intro rfl (And.intro rfl (And.intro rfl (And.intro rfl (And.intro rfl (trivial))))))
theorem cM_draws {l : Launch} {E : Ev} {a : Nat → Nat} {x1 x2 : Int32} {σ : St} {post : St → Prop} (h : wpM_draws x1 x2 σ post) : CV l E (wM E a) yX11_draws cX11_draws 8 rmM_draws [.ref (a 0), .int x1, .int x2] σ post := met_v (by decide) rfl (Nat.le_of_ble_eq_true rfl) rfl (fun X C hQ => kM_draws C hQ _ _ _ h)
/-! IceRunModel.turns(I)V -/
abbrev rmM_turns : Room := { frames := 0, cells := 0, slots := 0, locals := 0 }
def wpM_turns_62 (k_28 : Int32 → Int32 → Int32 → St → Prop) (x1 x2 x3 s1 s2 : Int32) (σ : St) (post : St → Prop) : Prop := vp_in s1 16 ∧ (let σ1 : St := pA σ 29 (Int32.toNatClampNeg s1) s2; let y2 : Int32 := x3 + 1; k_28 x1 x2 y2 σ1)
theorem kM_turns_62 {X : Kx} {l : Launch} {E : Ev} {a : Nat → Nat} {post : St → Prop} (C : Cx X l E RX11 cX11_turns rmM_turns none) (hQ : QV X (wM E a) post) (k_28 : Int32 → Int32 → Int32 → St → Prop) (hk_28 : ∀ (x1 x2 x3 : Int32) (σ : St), k_28 x1 x2 x3 σ → G X (wM E a) σ 28 [some (.ref (a 0)), some (.int x1), some (.int x2), some (.int x3)] []) (x1 x2 x3 s1 s2 : Int32) (σ : St) (h : wpM_turns_62 k_28 x1 x2 x3 s1 s2 σ post) : G X (wM E a) σ 62 [some (.ref (a 0)), some (.int x1), some (.int x2), some (.int x3)] [.int s2, .int s1, .ref (a 30)] := by
  unfold wpM_turns_62 at h
  obtain ⟨q, h⟩ := h
  refine asM_29 C q dX11_turns_62 ?_
  refine g_iinc C (v := 1) (by decide) dX11_turns_63 rfl ?_
  refine g_goto C 28 dX11_turns_66 (by decide) ?_
  exact g_wk (hk_28 _ _ _ _ h) (And.intro rfl (And.intro rfl (And.intro rfl (And.intro rfl (trivial)))))
def wpBM_turns_28 (k_28 : Int32 → Int32 → Int32 → St → Prop) (x1 x2 x3 : Int32) (σ : St) (post : St → Prop) : Prop := ((x1 ≤ x3 → post σ) ∧ (¬ x1 ≤ x3 → ((x2 ≤ x3 → vp_in x3 16 ∧ (wpM_turns_62 k_28 x1 x2 x3 x3 (σ.2 41 (Int32.toNatClampNeg x3)) σ post)) ∧ (¬ x2 ≤ x3 → vp_in ((x2 - 1) - x3) 16 ∧ (wpM_turns_62 k_28 x1 x2 x3 x3 (σ.2 41 (Int32.toNatClampNeg ((x2 - 1) - x3))) σ post)))))
def wpM_turns_28 (x1 x2 x3 : Int32) (σ : St) (post : St → Prop) : Prop := ∃ n : Nat, lpN (α := Int32 × Int32 × Int32 × St) (fun kb t => wpBM_turns_28 (fun x1 x2 x3 σ => kb (x1, x2, x3, σ)) t.1 t.2.1 t.2.2.1 t.2.2.2 post) n (x1, x2, x3, σ)
theorem kBM_turns_28 {X : Kx} {l : Launch} {E : Ev} {a : Nat → Nat} {post : St → Prop} (C : Cx X l E RX11 cX11_turns rmM_turns none) (hQ : QV X (wM E a) post) (k_28 : Int32 → Int32 → Int32 → St → Prop) (hk_28 : ∀ (x1 x2 x3 : Int32) (σ : St), k_28 x1 x2 x3 σ → G X (wM E a) σ 28 [some (.ref (a 0)), some (.int x1), some (.int x2), some (.int x3)] []) (x1 x2 x3 : Int32) (σ : St) (h : wpBM_turns_28 k_28 x1 x2 x3 σ post) : G X (wM E a) σ 28 [some (.ref (a 0)), some (.int x1), some (.int x2), some (.int x3)] [] := by
  unfold wpBM_turns_28 at h
  refine g_iload_3 C dX11_turns_28 rfl ?_
  refine g_iload_1 C dX11_turns_29 rfl ?_
  refine g_icmp_ge C 69 dX11_turns_30 (by decide) (fun q => ?_) (fun q => ?_)
  · have h := h.1 q
    exact g_return C hQ dX11_turns_69 h
  · have h := h.2 q
    refine g_aload_0 C dX11_turns_33 rfl ?_
    refine fgM_X11_72 C dX11_turns_34 ?_
    refine g_iload_3 C dX11_turns_37 rfl ?_
    refine g_iload_3 C dX11_turns_38 rfl ?_
    refine g_iload_2 C dX11_turns_39 rfl ?_
    refine g_icmp_ge C 56 dX11_turns_40 (by decide) (fun q => ?_) (fun q => ?_)
    · have h := h.1 q
      refine g_aload_0 C dX11_turns_56 rfl ?_
      refine fgM_X11_97 C dX11_turns_57 ?_
      refine g_iload_3 C dX11_turns_60 rfl ?_
      obtain ⟨q, h⟩ := h
      refine alM_41 C q dX11_turns_61 ?_
      exact g_wk (kM_turns_62 C hQ _ hk_28 _ _ _ _ _ _ h) (And.intro rfl (And.intro rfl (And.intro rfl (And.intro rfl (trivial)))))
    · have h := h.2 q
      refine g_aload_0 C dX11_turns_43 rfl ?_
      refine fgM_X11_97 C dX11_turns_44 ?_
      refine g_iload_2 C dX11_turns_47 rfl ?_
      refine g_iconst_1 C dX11_turns_48 ?_
      refine g_isub C dX11_turns_49 ?_
      refine g_iload_3 C dX11_turns_50 rfl ?_
      refine g_isub C dX11_turns_51 ?_
      obtain ⟨q, h⟩ := h
      refine alM_41 C q dX11_turns_52 ?_
      refine g_goto C 62 dX11_turns_53 (by decide) ?_
      exact g_wk (kM_turns_62 C hQ _ hk_28 _ _ _ _ _ _ h) (And.intro rfl (And.intro rfl (And.intro rfl (And.intro rfl (trivial)))))
theorem kM_turns_28 {X : Kx} {l : Launch} {E : Ev} {a : Nat → Nat} {post : St → Prop} (C : Cx X l E RX11 cX11_turns rmM_turns none) (hQ : QV X (wM E a) post) (x1 x2 x3 : Int32) (σ : St) (h : wpM_turns_28  x1 x2 x3 σ post) : G X (wM E a) σ 28 [some (.ref (a 0)), some (.int x1), some (.int x2), some (.int x3)] [] := by
  obtain ⟨n, h⟩ := h
  exact g_loop (J := fun t : Int32 × Int32 × Int32 × St => G X (wM E a) t.2.2.2 28 [some (.ref (a 0)), some (.int t.1), some (.int t.2.1), some (.int t.2.2.1)] []) (fun kb hkb t ht => kBM_turns_28 C hQ  (fun x1 x2 x3 σ => kb (x1, x2, x3, σ)) (fun x1 x2 x3 σ hh => hkb (x1, x2, x3, σ) hh) t.1 t.2.1 t.2.2.1 t.2.2.2 ht) n (x1, x2, x3, σ) h
def wpM_turns_25 (x1 s0 : Int32) (σ : St) (post : St → Prop) : Prop := wpM_turns_28 x1 s0 0 σ post
theorem kM_turns_25 {X : Kx} {l : Launch} {E : Ev} {a : Nat → Nat} {post : St → Prop} (C : Cx X l E RX11 cX11_turns rmM_turns none) (hQ : QV X (wM E a) post) (x1 s0 : Int32) (σ : St) (h : wpM_turns_25  x1 s0 σ post) : G X (wM E a) σ 25 [some (.ref (a 0)), some (.int x1), none, none] [.int s0] := by
  unfold wpM_turns_25 at h
  refine g_istore_2 C dX11_turns_25 (Nat.le_of_ble_eq_true rfl) ?_
  refine g_iconst_0 C dX11_turns_26 ?_
  refine g_istore_3 C dX11_turns_27 (Nat.le_of_ble_eq_true rfl) ?_
  exact g_wk (kM_turns_28 C hQ _ _ _ _ h) (And.intro rfl (And.intro rfl (And.intro rfl (And.intro rfl (trivial)))))
def wpM_turns (x1 : Int32) (σ : St) (post : St → Prop) : Prop := let σ1 : St := pI σ 30 x1; vp_in 2 6 ∧ (((x1 ≤ (σ1.2 19 (Int32.toNatClampNeg 2)) → wpM_turns_25 x1 x1 σ1 post) ∧ (¬ x1 ≤ (σ1.2 19 (Int32.toNatClampNeg 2)) → vp_in 2 6 ∧ (wpM_turns_25 x1 (σ1.2 19 (Int32.toNatClampNeg 2)) σ1 post))))
theorem kM_turns {X : Kx} {l : Launch} {E : Ev} {a : Nat → Nat} {post : St → Prop} (C : Cx X l E RX11 cX11_turns rmM_turns none) (hQ : QV X (wM E a) post) (x1 : Int32) (σ : St) (h : wpM_turns x1 σ post) : G X (wM E a) σ 0 [some (.ref (a 0)), some (.int x1), none, none] [] := by
  unfold wpM_turns at h
  refine g_aload_0 C dX11_turns_0 rfl ?_
  refine g_iload_1 C dX11_turns_1 rfl ?_
  refine fpM_X11_217 C dX11_turns_2 ?_
  refine g_aload_0 C dX11_turns_5 rfl ?_
  refine fgM_X11_55 C dX11_turns_6 ?_
  refine g_iconst_2 C dX11_turns_9 ?_
  obtain ⟨q, h⟩ := h
  refine alM_19 C q dX11_turns_10 ?_
  refine g_iload_1 C dX11_turns_11 rfl ?_
  refine g_icmp_ge C 24 dX11_turns_12 (by decide) (fun q => ?_) (fun q => ?_)
  · have h := h.1 q
    refine g_iload_1 C dX11_turns_24 rfl ?_
    exact g_wk (kM_turns_25 C hQ _ _ _ h) (And.intro rfl (And.intro rfl (trivial)))
  · have h := h.2 q
    refine g_aload_0 C dX11_turns_15 rfl ?_
    refine fgM_X11_55 C dX11_turns_16 ?_
    refine g_iconst_2 C dX11_turns_19 ?_
    obtain ⟨q, h⟩ := h
    refine alM_19 C q dX11_turns_20 ?_
    refine g_goto C 25 dX11_turns_21 (by decide) ?_
    exact g_wk (kM_turns_25 C hQ _ _ _ h) (And.intro rfl (And.intro rfl (trivial)))
theorem cM_turns {l : Launch} {E : Ev} {a : Nat → Nat} {x1 : Int32} {σ : St} {post : St → Prop} (h : wpM_turns x1 σ post) : CV l E (wM E a) yX11_turns cX11_turns 4 rmM_turns [.ref (a 0), .int x1] σ post := met_v (by decide) rfl (Nat.le_of_ble_eq_true rfl) rfl (fun X C hQ => kM_turns C hQ _ _ h)
theorem csM_X11_233 {X : Kx} {l : Launch} {E : Ev} {a : Nat → Nat} {σ : St} {cc : ByteArray} {rm : Room} {ret : Option FieldType} {pc : Nat} {lv : List (Option Value)} {rest : List Value} {x0 : Int32} {post : St → Prop} (C : Cx X l E RX11 cc rm ret) (h : wpM_turns x0 σ post) (hR : 0 + 1 ≤ rm.frames ∧ 8 + (4 + 11) + 0 ≤ rm.locals) (hW : (rest.map fun v => v.category).sum ≤ 8) (d : decode cc pc = .ok (.invokevirtual 233, 3)) (k : ∀ u : St, post u → G X (wM E a) u (pc + 3) lv rest) : G X (wM E a) σ pc lv (.int x0 :: .ref (a 0) :: rest) := g_callVv C 1 (As := [.int x0]) (rest := rest) (Cn := RX11) (T := TX11) (N := 42) (q0 := 0) (ci := 10) (by decide +kernel) (by decide +kernel) (by decide +kernel) (by decide +kernel) (by decide +kernel) (by decide +kernel) rfl rfl (cM_turns h) ⟨rfl, rfl⟩ hR rfl rfl hW d k
theorem csM_X11_229 {X : Kx} {l : Launch} {E : Ev} {a : Nat → Nat} {σ : St} {cc : ByteArray} {rm : Room} {ret : Option FieldType} {pc : Nat} {lv : List (Option Value)} {rest : List Value} {x0 x1 : Int32} {post : St → Prop} (C : Cx X l E RX11 cc rm ret) (h : wpM_draws x0 x1 σ post) (hR : 0 + 1 ≤ rm.frames ∧ 8 + (8 + 11) + 0 ≤ rm.locals) (hW : (rest.map fun v => v.category).sum ≤ 8) (d : decode cc pc = .ok (.invokevirtual 229, 3)) (k : ∀ u : St, post u → G X (wM E a) u (pc + 3) lv rest) : G X (wM E a) σ pc lv (.int x1 :: .int x0 :: .ref (a 0) :: rest) := g_callVv C 2 (As := [.int x0, .int x1]) (rest := rest) (Cn := RX11) (T := TX11) (N := 42) (q0 := 0) (ci := 10) (by decide +kernel) (by decide +kernel) (by decide +kernel) (by decide +kernel) (by decide +kernel) (by decide +kernel) rfl rfl (cM_draws h) ⟨rfl, rfl⟩ hR rfl rfl hW d k
theorem fgM_X11_223 {X : Kx} {l : Launch} {E : Ev} {a : Nat → Nat} {σ : St} {cc : ByteArray} {rm : Room} {ret : Option FieldType} {pc : Nat} {lv : List (Option Value)} {st : List Value} (C : Cx X l E RX11 cc rm ret) (d : decode cc pc = .ok (.getfield 223, 3)) (k : G X (wM E a) σ (pc + 3) lv (.int (σ.1 39) :: st)) : G X (wM E a) σ pc lv (.ref (a 0) :: st) := g_get C (q0 := 0) (ci := 10) (k := 39) rfl rfl inU_X11 (by decide) (by decide +kernel) rfl d k
theorem csM_X11_226 {X : Kx} {l : Launch} {E : Ev} {a : Nat → Nat} {σ : St} {cc : ByteArray} {rm : Room} {ret : Option FieldType} {pc : Nat} {lv : List (Option Value)} {rest : List Value} {x0 x1 : Int32} {post : Int32 → St → Prop} (C : Cx X l E RX11 cc rm ret) (h : wpM_rankOf x0 x1 σ post) (hR : 3 + 1 ≤ rm.frames ∧ 8 + (5 + 11) + 69 ≤ rm.locals) (hW : (rest.map fun v => v.category).sum ≤ 8) (d : decode cc pc = .ok (.invokevirtual 226, 3)) (k : ∀ (r : Int32) (u : St), post r u → G X (wM E a) u (pc + 3) lv (.int r :: rest)) : G X (wM E a) σ pc lv (.int x1 :: .int x0 :: .ref (a 0) :: rest) := g_callVi C 2 (As := [.int x0, .int x1]) (rest := rest) (Cn := RX11) (T := TX11) (N := 42) (q0 := 0) (ci := 10) (by decide +kernel) (by decide +kernel) (by decide +kernel) (by decide +kernel) (by decide +kernel) (by decide +kernel) rfl rfl (cM_rankOf h) ⟨rfl, rfl⟩ hR rfl rfl hW d k
theorem alM_15 {X : Kx} {l : Launch} {E : Ev} {a : Nat → Nat} {σ : St} {cc : ByteArray} {rm : Room} {ret : Option FieldType} {pc : Nat} {lv : List (Option Value)} {st : List Value} {own : String} {i : Int32} (C : Cx X l E own cc rm ret) (hin : vp_in i 16) (d : decode cc pc = .ok (.iaload, 1)) (k : G X (wM E a) σ (pc + 1) lv (.int (σ.2 15 i.toNatClampNeg) :: st)) : G X (wM E a) σ pc lv (.int i :: .ref (a 16) :: st) := g_iald C (q0 := 12) rfl hin d k
/-! IceRunModel.begin(I)I -/
abbrev rmM_begin : Room := { frames := 4, cells := 0, slots := 0, locals := 93 }
def wpM_begin_42 (σ : St) (post : Int32 → St → Prop) : Prop := post (-1) σ
theorem kM_begin_42 {X : Kx} {l : Launch} {E : Ev} {a : Nat → Nat} {post : Int32 → St → Prop} (C : Cx X l E RX11 cX11_begin rmM_begin (some .int)) (hQ : QI X (wM E a) post) (σ : St) (h : wpM_begin_42   σ post) : G X (wM E a) σ 42 [none, none, none, none, none] [] := by
  unfold wpM_begin_42 at h
  refine g_iconst_m1 C dX11_begin_42 ?_
  exact g_ireturn C hQ dX11_begin_43 h
def wpM_begin_208 (σ : St) (post : Int32 → St → Prop) : Prop := let σ1 : St := pI σ 31 0; vp_in (σ1.1 27) 4 ∧ (let σ2 : St := pA σ1 28 (Int32.toNatClampNeg (σ1.1 27)) 1; let σ3 : St := pI σ2 27 ((σ2.1 27) + 1); post ((σ3.1 27) - 1) σ3)
theorem kM_begin_208 {X : Kx} {l : Launch} {E : Ev} {a : Nat → Nat} {post : Int32 → St → Prop} (C : Cx X l E RX11 cX11_begin rmM_begin (some .int)) (hQ : QI X (wM E a) post) (σ : St) (h : wpM_begin_208   σ post) : G X (wM E a) σ 208 [some (.ref (a 0)), none, none, none, none] [] := by
  unfold wpM_begin_208 at h
  refine g_aload_0 C dX11_begin_208 rfl ?_
  refine g_iconst_0 C dX11_begin_209 ?_
  refine fpM_X11_220 C dX11_begin_210 ?_
  refine g_aload_0 C dX11_begin_213 rfl ?_
  refine fgM_X11_69 C dX11_begin_214 ?_
  refine g_aload_0 C dX11_begin_217 rfl ?_
  refine fgM_X11_212 C dX11_begin_218 ?_
  refine g_iconst_1 C dX11_begin_221 ?_
  obtain ⟨q, h⟩ := h
  refine asM_28 C q dX11_begin_222 ?_
  refine g_aload_0 C dX11_begin_223 rfl ?_
  refine g_dup C dX11_begin_224 rfl ?_
  refine fgM_X11_212 C dX11_begin_225 ?_
  refine g_iconst_1 C dX11_begin_228 ?_
  refine g_iadd C dX11_begin_229 ?_
  refine fpM_X11_212 C dX11_begin_230 ?_
  refine g_aload_0 C dX11_begin_233 rfl ?_
  refine fgM_X11_212 C dX11_begin_234 ?_
  refine g_iconst_1 C dX11_begin_237 ?_
  refine g_isub C dX11_begin_238 ?_
  exact g_ireturn C hQ dX11_begin_239 h
def wpM_begin_205 (s1 : Int32) (σ : St) (post : Int32 → St → Prop) : Prop := wpM_turns s1 σ (fun σ1 => wpM_begin_208 σ1 post)
theorem kM_begin_205 {X : Kx} {l : Launch} {E : Ev} {a : Nat → Nat} {post : Int32 → St → Prop} (C : Cx X l E RX11 cX11_begin rmM_begin (some .int)) (hQ : QI X (wM E a) post) (s1 : Int32) (σ : St) (h : wpM_begin_205  s1 σ post) : G X (wM E a) σ 205 [some (.ref (a 0)), none, none, none, none] [.int s1, .ref (a 0)] := by
  unfold wpM_begin_205 at h
  refine csM_X11_233 C h ⟨Nat.le_of_ble_eq_true rfl, Nat.le_of_ble_eq_true rfl⟩ (Nat.le_of_ble_eq_true rfl) dX11_begin_205 (fun _ h => ?_)
  exact g_wk (kM_begin_208 C hQ _ h) (And.intro rfl (trivial))
def wpM_begin_162 (x1 x2 : Int32) (σ : St) (post : Int32 → St → Prop) : Prop := ((¬ x2 = 0 → ((¬ (σ.1 27) = 0 → vp_in 3 6 ∧ ((((σ.2 19 (Int32.toNatClampNeg 3)) ≤ x2 → vp_in 3 6 ∧ (wpM_begin_205 (σ.2 19 (Int32.toNatClampNeg 3)) σ post)) ∧ (¬ (σ.2 19 (Int32.toNatClampNeg 3)) ≤ x2 → wpM_begin_205 x2 σ post)))) ∧ ((σ.1 27) = 0 → wpM_draws x1 x2 σ (fun σ1 => wpM_begin_208 σ1 post)))) ∧ (x2 = 0 → post (-1) σ))
theorem kM_begin_162 {X : Kx} {l : Launch} {E : Ev} {a : Nat → Nat} {post : Int32 → St → Prop} (C : Cx X l E RX11 cX11_begin rmM_begin (some .int)) (hQ : QI X (wM E a) post) (x1 x2 : Int32) (σ : St) (h : wpM_begin_162  x1 x2 σ post) : G X (wM E a) σ 162 [some (.ref (a 0)), some (.int x1), some (.int x2), none, none] [] := by
  unfold wpM_begin_162 at h
  refine g_iload_2 C dX11_begin_162 rfl ?_
  refine g_if_ne C 168 dX11_begin_163 (by decide) (fun q => ?_) (fun q => ?_)
  · have h := h.1 q
    refine g_aload_0 C dX11_begin_168 rfl ?_
    refine fgM_X11_212 C dX11_begin_169 ?_
    refine g_if_ne C 184 dX11_begin_172 (by decide) (fun q => ?_) (fun q => ?_)
    · have h := h.1 q
      refine g_aload_0 C dX11_begin_184 rfl ?_
      refine g_iload_2 C dX11_begin_185 rfl ?_
      refine g_aload_0 C dX11_begin_186 rfl ?_
      refine fgM_X11_55 C dX11_begin_187 ?_
      refine g_iconst_3 C dX11_begin_190 ?_
      obtain ⟨q, h⟩ := h
      refine alM_19 C q dX11_begin_191 ?_
      refine g_icmp_ge C 199 dX11_begin_192 (by decide) (fun q => ?_) (fun q => ?_)
      · have h := h.1 q
        refine g_aload_0 C dX11_begin_199 rfl ?_
        refine fgM_X11_55 C dX11_begin_200 ?_
        refine g_iconst_3 C dX11_begin_203 ?_
        obtain ⟨q, h⟩ := h
        refine alM_19 C q dX11_begin_204 ?_
        exact g_wk (kM_begin_205 C hQ _ _ h) (And.intro rfl (trivial))
      · have h := h.2 q
        refine g_iload_2 C dX11_begin_195 rfl ?_
        refine g_goto C 205 dX11_begin_196 (by decide) ?_
        exact g_wk (kM_begin_205 C hQ _ _ h) (And.intro rfl (trivial))
    · have h := h.2 q
      refine g_aload_0 C dX11_begin_175 rfl ?_
      refine g_iload_1 C dX11_begin_176 rfl ?_
      refine g_iload_2 C dX11_begin_177 rfl ?_
      refine csM_X11_229 C h ⟨Nat.le_of_ble_eq_true rfl, Nat.le_of_ble_eq_true rfl⟩ (Nat.le_of_ble_eq_true rfl) dX11_begin_178 (fun _ h => ?_)
      refine g_goto C 208 dX11_begin_181 (by decide) ?_
      exact g_wk (kM_begin_208 C hQ _ h) (And.intro rfl (trivial))
  · have h := h.2 q
    refine g_iconst_m1 C dX11_begin_166 ?_
    exact g_ireturn C hQ dX11_begin_167 h
def wpM_begin_150 (k_102 : Int32 → Int32 → Int32 → St → Prop) (k_113 : Int32 → Int32 → Int32 → Int32 → St → Prop) (x1 x2 x3 x4 : Int32) (σ : St) (post : Int32 → St → Prop) : Prop := let y1 : Int32 := x4 + 1; k_113 x1 x2 x3 y1 σ
theorem kM_begin_150 {X : Kx} {l : Launch} {E : Ev} {a : Nat → Nat} {post : Int32 → St → Prop} (C : Cx X l E RX11 cX11_begin rmM_begin (some .int)) (hQ : QI X (wM E a) post) (k_102 : Int32 → Int32 → Int32 → St → Prop) (hk_102 : ∀ (x1 x2 x3 : Int32) (σ : St), k_102 x1 x2 x3 σ → G X (wM E a) σ 102 [some (.ref (a 0)), some (.int x1), some (.int x2), some (.int x3), none] []) (k_113 : Int32 → Int32 → Int32 → Int32 → St → Prop) (hk_113 : ∀ (x1 x2 x3 x4 : Int32) (σ : St), k_113 x1 x2 x3 x4 σ → G X (wM E a) σ 113 [some (.ref (a 0)), some (.int x1), some (.int x2), some (.int x3), some (.int x4)] []) (x1 x2 x3 x4 : Int32) (σ : St) (h : wpM_begin_150 k_102 k_113 x1 x2 x3 x4 σ post) : G X (wM E a) σ 150 [some (.ref (a 0)), some (.int x1), some (.int x2), some (.int x3), some (.int x4)] [] := by
  unfold wpM_begin_150 at h
  refine g_iinc C (v := 1) (by decide) dX11_begin_150 rfl ?_
  refine g_goto C 113 dX11_begin_153 (by decide) ?_
  exact g_wk (hk_113 _ _ _ _ _ h) (And.intro rfl (And.intro rfl (And.intro rfl (And.intro rfl (And.intro rfl (trivial))))))
def wpBM_begin_113 (k_102 : Int32 → Int32 → Int32 → St → Prop) (k_113 : Int32 → Int32 → Int32 → Int32 → St → Prop) (x1 x2 x3 x4 : Int32) (σ : St) (post : Int32 → St → Prop) : Prop := (((σ.1 13) ≤ x4 → let y1 : Int32 := x3 + 1; k_102 x1 x2 y1 σ) ∧ (¬ (σ.1 13) ≤ x4 → wpM_rankOf x4 (σ.1 39) σ (fun r3 σ2 => ((r3 = x3 → vp_in x2 16 ∧ (let σ4 : St := pA σ2 41 (Int32.toNatClampNeg x2) x4; let y5 : Int32 := x2 + 1; wpM_begin_150 k_102 k_113 x1 y5 x3 x4 σ4 post)) ∧ (¬ r3 = x3 → wpM_begin_150 k_102 k_113 x1 x2 x3 x4 σ2 post)))))
def wpM_begin_113 (k_102 : Int32 → Int32 → Int32 → St → Prop) (x1 x2 x3 x4 : Int32) (σ : St) (post : Int32 → St → Prop) : Prop := ∃ n : Nat, lpN (α := Int32 × Int32 × Int32 × Int32 × St) (fun kb t => wpBM_begin_113 k_102 (fun x1 x2 x3 x4 σ => kb (x1, x2, x3, x4, σ)) t.1 t.2.1 t.2.2.1 t.2.2.2.1 t.2.2.2.2 post) n (x1, x2, x3, x4, σ)
theorem kBM_begin_113 {X : Kx} {l : Launch} {E : Ev} {a : Nat → Nat} {post : Int32 → St → Prop} (C : Cx X l E RX11 cX11_begin rmM_begin (some .int)) (hQ : QI X (wM E a) post) (k_102 : Int32 → Int32 → Int32 → St → Prop) (hk_102 : ∀ (x1 x2 x3 : Int32) (σ : St), k_102 x1 x2 x3 σ → G X (wM E a) σ 102 [some (.ref (a 0)), some (.int x1), some (.int x2), some (.int x3), none] []) (k_113 : Int32 → Int32 → Int32 → Int32 → St → Prop) (hk_113 : ∀ (x1 x2 x3 x4 : Int32) (σ : St), k_113 x1 x2 x3 x4 σ → G X (wM E a) σ 113 [some (.ref (a 0)), some (.int x1), some (.int x2), some (.int x3), some (.int x4)] []) (x1 x2 x3 x4 : Int32) (σ : St) (h : wpBM_begin_113 k_102 k_113 x1 x2 x3 x4 σ post) : G X (wM E a) σ 113 [some (.ref (a 0)), some (.int x1), some (.int x2), some (.int x3), some (.int x4)] [] := by
  unfold wpBM_begin_113 at h
  refine g_iload C dX11_begin_113 rfl ?_
  refine g_aload_0 C dX11_begin_115 rfl ?_
  refine fgM_X11_139 C dX11_begin_116 ?_
  refine g_icmp_ge C 156 dX11_begin_119 (by decide) (fun q => ?_) (fun q => ?_)
  · have h := h.1 q
    refine g_iinc C (v := 1) (by decide) dX11_begin_156 rfl ?_
    refine g_goto C 102 dX11_begin_159 (by decide) ?_
    exact g_wk (hk_102 _ _ _ _ h) (And.intro rfl (And.intro rfl (And.intro rfl (And.intro rfl (trivial)))))
  · have h := h.2 q
    refine g_aload_0 C dX11_begin_122 rfl ?_
    refine g_iload C dX11_begin_123 rfl ?_
    refine g_aload_0 C dX11_begin_125 rfl ?_
    refine fgM_X11_223 C dX11_begin_126 ?_
    refine csM_X11_226 C h ⟨Nat.le_of_ble_eq_true rfl, Nat.le_of_ble_eq_true rfl⟩ (Nat.le_of_ble_eq_true rfl) dX11_begin_129 (fun _ _ h => ?_)
    refine g_iload_3 C dX11_begin_132 rfl ?_
    refine g_icmp_eq C 139 dX11_begin_133 (by decide) (fun q => ?_) (fun q => ?_)
    · have h := h.1 q
      refine g_aload_0 C dX11_begin_139 rfl ?_
      refine fgM_X11_97 C dX11_begin_140 ?_
      refine g_iload_2 C dX11_begin_143 rfl ?_
      refine g_iload C dX11_begin_144 rfl ?_
      obtain ⟨q, h⟩ := h
      refine asM_41 C q dX11_begin_146 ?_
      refine g_iinc C (v := 1) (by decide) dX11_begin_147 rfl ?_
      exact g_wk (kM_begin_150 C hQ _ hk_102 _ hk_113 _ _ _ _ _ h) (And.intro rfl (And.intro rfl (And.intro rfl (And.intro rfl (And.intro rfl (trivial))))))
    · have h := h.2 q
      refine g_goto C 150 dX11_begin_136 (by decide) ?_
      exact g_wk (kM_begin_150 C hQ _ hk_102 _ hk_113 _ _ _ _ _ h) (And.intro rfl (And.intro rfl (And.intro rfl (And.intro rfl (And.intro rfl (trivial))))))
theorem kM_begin_113 {X : Kx} {l : Launch} {E : Ev} {a : Nat → Nat} {post : Int32 → St → Prop} (C : Cx X l E RX11 cX11_begin rmM_begin (some .int)) (hQ : QI X (wM E a) post) (k_102 : Int32 → Int32 → Int32 → St → Prop) (hk_102 : ∀ (x1 x2 x3 : Int32) (σ : St), k_102 x1 x2 x3 σ → G X (wM E a) σ 102 [some (.ref (a 0)), some (.int x1), some (.int x2), some (.int x3), none] []) (x1 x2 x3 x4 : Int32) (σ : St) (h : wpM_begin_113 k_102 x1 x2 x3 x4 σ post) : G X (wM E a) σ 113 [some (.ref (a 0)), some (.int x1), some (.int x2), some (.int x3), some (.int x4)] [] := by
  obtain ⟨n, h⟩ := h
  exact g_loop (J := fun t : Int32 × Int32 × Int32 × Int32 × St => G X (wM E a) t.2.2.2.2 113 [some (.ref (a 0)), some (.int t.1), some (.int t.2.1), some (.int t.2.2.1), some (.int t.2.2.2.1)] []) (fun kb hkb t ht => kBM_begin_113 C hQ k_102 hk_102 (fun x1 x2 x3 x4 σ => kb (x1, x2, x3, x4, σ)) (fun x1 x2 x3 x4 σ hh => hkb (x1, x2, x3, x4, σ) hh) t.1 t.2.1 t.2.2.1 t.2.2.2.1 t.2.2.2.2 ht) n (x1, x2, x3, x4, σ) h
def wpBM_begin_102 (k_102 : Int32 → Int32 → Int32 → St → Prop) (x1 x2 x3 : Int32) (σ : St) (post : Int32 → St → Prop) : Prop := (((σ.1 13) < x3 → wpM_begin_162 x1 x2 σ post) ∧ (¬ (σ.1 13) < x3 → wpM_begin_113 k_102 x1 x2 x3 0 σ post))
def wpM_begin_102 (x1 x2 x3 : Int32) (σ : St) (post : Int32 → St → Prop) : Prop := ∃ n : Nat, lpN (α := Int32 × Int32 × Int32 × St) (fun kb t => wpBM_begin_102 (fun x1 x2 x3 σ => kb (x1, x2, x3, σ)) t.1 t.2.1 t.2.2.1 t.2.2.2 post) n (x1, x2, x3, σ)
theorem kBM_begin_102 {X : Kx} {l : Launch} {E : Ev} {a : Nat → Nat} {post : Int32 → St → Prop} (C : Cx X l E RX11 cX11_begin rmM_begin (some .int)) (hQ : QI X (wM E a) post) (k_102 : Int32 → Int32 → Int32 → St → Prop) (hk_102 : ∀ (x1 x2 x3 : Int32) (σ : St), k_102 x1 x2 x3 σ → G X (wM E a) σ 102 [some (.ref (a 0)), some (.int x1), some (.int x2), some (.int x3), none] []) (x1 x2 x3 : Int32) (σ : St) (h : wpBM_begin_102 k_102 x1 x2 x3 σ post) : G X (wM E a) σ 102 [some (.ref (a 0)), some (.int x1), some (.int x2), some (.int x3), none] [] := by
  unfold wpBM_begin_102 at h
  refine g_iload_3 C dX11_begin_102 rfl ?_
  refine g_aload_0 C dX11_begin_103 rfl ?_
  refine fgM_X11_139 C dX11_begin_104 ?_
  refine g_icmp_gt C 162 dX11_begin_107 (by decide) (fun q => ?_) (fun q => ?_)
  · have h := h.1 q
    exact g_wk (kM_begin_162 C hQ _ _ _ h) (And.intro rfl (And.intro rfl (And.intro rfl (trivial))))
  · have h := h.2 q
    refine g_iconst_0 C dX11_begin_110 ?_
    refine g_istore C dX11_begin_111 (Nat.le_of_ble_eq_true rfl) ?_
    exact g_wk (kM_begin_113 C hQ _ hk_102 _ _ _ _ _ h) (And.intro rfl (And.intro rfl (And.intro rfl (And.intro rfl (And.intro rfl (trivial))))))
theorem kM_begin_102 {X : Kx} {l : Launch} {E : Ev} {a : Nat → Nat} {post : Int32 → St → Prop} (C : Cx X l E RX11 cX11_begin rmM_begin (some .int)) (hQ : QI X (wM E a) post) (x1 x2 x3 : Int32) (σ : St) (h : wpM_begin_102  x1 x2 x3 σ post) : G X (wM E a) σ 102 [some (.ref (a 0)), some (.int x1), some (.int x2), some (.int x3), none] [] := by
  obtain ⟨n, h⟩ := h
  exact g_loop (J := fun t : Int32 × Int32 × Int32 × St => G X (wM E a) t.2.2.2 102 [some (.ref (a 0)), some (.int t.1), some (.int t.2.1), some (.int t.2.2.1), none] []) (fun kb hkb t ht => kBM_begin_102 C hQ  (fun x1 x2 x3 σ => kb (x1, x2, x3, σ)) (fun x1 x2 x3 σ hh => hkb (x1, x2, x3, σ) hh) t.1 t.2.1 t.2.2.1 t.2.2.2 ht) n (x1, x2, x3, σ) h
def wpM_begin_91 (k_55 : Int32 → Int32 → Int32 → St → Prop) (x1 x2 x3 : Int32) (σ : St) (post : Int32 → St → Prop) : Prop := let y1 : Int32 := x3 + 1; k_55 x1 x2 y1 σ
theorem kM_begin_91 {X : Kx} {l : Launch} {E : Ev} {a : Nat → Nat} {post : Int32 → St → Prop} (C : Cx X l E RX11 cX11_begin rmM_begin (some .int)) (hQ : QI X (wM E a) post) (k_55 : Int32 → Int32 → Int32 → St → Prop) (hk_55 : ∀ (x1 x2 x3 : Int32) (σ : St), k_55 x1 x2 x3 σ → G X (wM E a) σ 55 [some (.ref (a 0)), some (.int x1), some (.int x2), some (.int x3), none] []) (x1 x2 x3 : Int32) (σ : St) (h : wpM_begin_91 k_55 x1 x2 x3 σ post) : G X (wM E a) σ 91 [some (.ref (a 0)), some (.int x1), some (.int x2), some (.int x3), none] [] := by
  unfold wpM_begin_91 at h
  refine g_iinc C (v := 1) (by decide) dX11_begin_91 rfl ?_
  refine g_goto C 55 dX11_begin_94 (by decide) ?_
  exact g_wk (hk_55 _ _ _ _ h) (And.intro rfl (And.intro rfl (And.intro rfl (And.intro rfl (trivial)))))
def wpBM_begin_55 (k_55 : Int32 → Int32 → Int32 → St → Prop) (x1 x2 x3 : Int32) (σ : St) (post : Int32 → St → Prop) : Prop := (((σ.1 13) ≤ x3 → wpM_begin_162 x1 x2 σ post) ∧ (¬ (σ.1 13) ≤ x3 → vp_in x3 16 ∧ (vp_in 0 6 ∧ ((((σ.2 15 (Int32.toNatClampNeg x3)) ≤ (σ.2 19 (Int32.toNatClampNeg 0)) → vp_in x2 16 ∧ (let σ1 : St := pA σ 41 (Int32.toNatClampNeg x2) x3; let y2 : Int32 := x2 + 1; wpM_begin_91 k_55 x1 y2 x3 σ1 post)) ∧ (¬ (σ.2 15 (Int32.toNatClampNeg x3)) ≤ (σ.2 19 (Int32.toNatClampNeg 0)) → wpM_begin_91 k_55 x1 x2 x3 σ post))))))
def wpM_begin_55 (x1 x2 x3 : Int32) (σ : St) (post : Int32 → St → Prop) : Prop := ∃ n : Nat, lpN (α := Int32 × Int32 × Int32 × St) (fun kb t => wpBM_begin_55 (fun x1 x2 x3 σ => kb (x1, x2, x3, σ)) t.1 t.2.1 t.2.2.1 t.2.2.2 post) n (x1, x2, x3, σ)
theorem kBM_begin_55 {X : Kx} {l : Launch} {E : Ev} {a : Nat → Nat} {post : Int32 → St → Prop} (C : Cx X l E RX11 cX11_begin rmM_begin (some .int)) (hQ : QI X (wM E a) post) (k_55 : Int32 → Int32 → Int32 → St → Prop) (hk_55 : ∀ (x1 x2 x3 : Int32) (σ : St), k_55 x1 x2 x3 σ → G X (wM E a) σ 55 [some (.ref (a 0)), some (.int x1), some (.int x2), some (.int x3), none] []) (x1 x2 x3 : Int32) (σ : St) (h : wpBM_begin_55 k_55 x1 x2 x3 σ post) : G X (wM E a) σ 55 [some (.ref (a 0)), some (.int x1), some (.int x2), some (.int x3), none] [] := by
  unfold wpBM_begin_55 at h
  refine g_iload_3 C dX11_begin_55 rfl ?_
  refine g_aload_0 C dX11_begin_56 rfl ?_
  refine fgM_X11_139 C dX11_begin_57 ?_
  refine g_icmp_ge C 97 dX11_begin_60 (by decide) (fun q => ?_) (fun q => ?_)
  · have h := h.1 q
    refine g_goto C 162 dX11_begin_97 (by decide) ?_
    exact g_wk (kM_begin_162 C hQ _ _ _ h) (And.intro rfl (And.intro rfl (And.intro rfl (trivial))))
  · have h := h.2 q
    refine g_aload_0 C dX11_begin_63 rfl ?_
    refine fgM_X11_43 C dX11_begin_64 ?_
    refine g_iload_3 C dX11_begin_67 rfl ?_
    obtain ⟨q, h⟩ := h
    refine alM_15 C q dX11_begin_68 ?_
    refine g_aload_0 C dX11_begin_69 rfl ?_
    refine fgM_X11_55 C dX11_begin_70 ?_
    refine g_iconst_0 C dX11_begin_73 ?_
    obtain ⟨q, h⟩ := h
    refine alM_19 C q dX11_begin_74 ?_
    refine g_icmp_le C 81 dX11_begin_75 (by decide) (fun q => ?_) (fun q => ?_)
    · have h := h.1 q
      refine g_aload_0 C dX11_begin_81 rfl ?_
      refine fgM_X11_97 C dX11_begin_82 ?_
      refine g_iload_2 C dX11_begin_85 rfl ?_
      refine g_iload_3 C dX11_begin_86 rfl ?_
      obtain ⟨q, h⟩ := h
      refine asM_41 C q dX11_begin_87 ?_
      refine g_iinc C (v := 1) (by decide) dX11_begin_88 rfl ?_
      exact g_wk (kM_begin_91 C hQ _ hk_55 _ _ _ _ h) (And.intro rfl (And.intro rfl (And.intro rfl (And.intro rfl (trivial)))))
    · have h := h.2 q
      refine g_goto C 91 dX11_begin_78 (by decide) ?_
      exact g_wk (kM_begin_91 C hQ _ hk_55 _ _ _ _ h) (And.intro rfl (And.intro rfl (And.intro rfl (And.intro rfl (trivial)))))
theorem kM_begin_55 {X : Kx} {l : Launch} {E : Ev} {a : Nat → Nat} {post : Int32 → St → Prop} (C : Cx X l E RX11 cX11_begin rmM_begin (some .int)) (hQ : QI X (wM E a) post) (x1 x2 x3 : Int32) (σ : St) (h : wpM_begin_55  x1 x2 x3 σ post) : G X (wM E a) σ 55 [some (.ref (a 0)), some (.int x1), some (.int x2), some (.int x3), none] [] := by
  obtain ⟨n, h⟩ := h
  exact g_loop (J := fun t : Int32 × Int32 × Int32 × St => G X (wM E a) t.2.2.2 55 [some (.ref (a 0)), some (.int t.1), some (.int t.2.1), some (.int t.2.2.1), none] []) (fun kb hkb t ht => kBM_begin_55 C hQ  (fun x1 x2 x3 σ => kb (x1, x2, x3, σ)) (fun x1 x2 x3 σ hh => hkb (x1, x2, x3, σ) hh) t.1 t.2.1 t.2.2.1 t.2.2.2 ht) n (x1, x2, x3, σ) h
def wpM_begin (x1 : Int32) (σ : St) (post : Int32 → St → Prop) : Prop := let σ1 : St := pI σ 0 0; (((σ1.1 26) = 0 → wpM_begin_42 σ1 post) ∧ (¬ (σ1.1 26) = 0 → wpM_isOn  σ1 (fun r3 σ2 => ((¬ r3 = 0 → wpM_begin_42 σ2 post) ∧ (r3 = 0 → vp_in 4 6 ∧ (((((σ2.2 19 (Int32.toNatClampNeg 4)) - 1) < (σ2.1 27) → wpM_begin_42 σ2 post) ∧ (¬ ((σ2.2 19 (Int32.toNatClampNeg 4)) - 1) < (σ2.1 27) → (((σ2.1 27) ≤ 3 → ((¬ (σ2.1 27) = 0 → wpM_begin_102 x1 0 1 σ2 post) ∧ ((σ2.1 27) = 0 → wpM_begin_55 x1 0 0 σ2 post))) ∧ (¬ (σ2.1 27) ≤ 3 → wpM_begin_42 σ2 post))))))))))
theorem kM_begin {X : Kx} {l : Launch} {E : Ev} {a : Nat → Nat} {post : Int32 → St → Prop} (C : Cx X l E RX11 cX11_begin rmM_begin (some .int)) (hQ : QI X (wM E a) post) (x1 : Int32) (σ : St) (h : wpM_begin x1 σ post) : G X (wM E a) σ 0 [some (.ref (a 0)), some (.int x1), none, none, none] [] := by
  unfold wpM_begin at h
  refine g_aload_0 C dX11_begin_0 rfl ?_
  refine g_iconst_0 C dX11_begin_1 ?_
  refine fpM_X11_106 C dX11_begin_2 ?_
  refine g_aload_0 C dX11_begin_5 rfl ?_
  refine fgM_X11_113 C dX11_begin_6 ?_
  refine g_if_eq C 42 dX11_begin_9 (by decide) (fun q => ?_) (fun q => ?_)
  · have h := h.1 q
    exact g_wk (kM_begin_42 C hQ _ h) (trivial)
  · have h := h.2 q
    refine g_aload_0 C dX11_begin_12 rfl ?_
    refine csM_X11_127 C h ⟨Nat.le_of_ble_eq_true rfl, Nat.le_of_ble_eq_true rfl⟩ (Nat.le_of_ble_eq_true rfl) dX11_begin_13 (fun _ _ h => ?_)
    refine g_if_ne C 42 dX11_begin_16 (by decide) (fun q => ?_) (fun q => ?_)
    · have h := h.1 q
      exact g_wk (kM_begin_42 C hQ _ h) (trivial)
    · have h := h.2 q
      refine g_aload_0 C dX11_begin_19 rfl ?_
      refine fgM_X11_212 C dX11_begin_20 ?_
      refine g_aload_0 C dX11_begin_23 rfl ?_
      refine fgM_X11_55 C dX11_begin_24 ?_
      refine g_iconst_4 C dX11_begin_27 ?_
      obtain ⟨q, h⟩ := h
      refine alM_19 C q dX11_begin_28 ?_
      refine g_iconst_1 C dX11_begin_29 ?_
      refine g_isub C dX11_begin_30 ?_
      refine g_icmp_gt C 42 dX11_begin_31 (by decide) (fun q => ?_) (fun q => ?_)
      · have h := h.1 q
        exact g_wk (kM_begin_42 C hQ _ h) (trivial)
      · have h := h.2 q
        refine g_aload_0 C dX11_begin_34 rfl ?_
        refine fgM_X11_212 C dX11_begin_35 ?_
        refine g_iconst_3 C dX11_begin_38 ?_
        refine g_icmp_le C 44 dX11_begin_39 (by decide) (fun q => ?_) (fun q => ?_)
        · have h := h.1 q
          refine g_iconst_0 C dX11_begin_44 ?_
          refine g_istore_2 C dX11_begin_45 (Nat.le_of_ble_eq_true rfl) ?_
          refine g_aload_0 C dX11_begin_46 rfl ?_
          refine fgM_X11_212 C dX11_begin_47 ?_
          refine g_if_ne C 100 dX11_begin_50 (by decide) (fun q => ?_) (fun q => ?_)
          · have h := h.1 q
            refine g_iconst_1 C dX11_begin_100 ?_
            refine g_istore_3 C dX11_begin_101 (Nat.le_of_ble_eq_true rfl) ?_
            exact g_wk (kM_begin_102 C hQ _ _ _ _ h) (And.intro rfl (And.intro rfl (And.intro rfl (And.intro rfl (trivial)))))
          · have h := h.2 q
            refine g_iconst_0 C dX11_begin_53 ?_
            refine g_istore_3 C dX11_begin_54 (Nat.le_of_ble_eq_true rfl) ?_
            exact g_wk (kM_begin_55 C hQ _ _ _ _ h) (And.intro rfl (And.intro rfl (And.intro rfl (And.intro rfl (trivial)))))
        · have h := h.2 q
          exact g_wk (kM_begin_42 C hQ _ h) (trivial)
theorem cM_begin {l : Launch} {E : Ev} {a : Nat → Nat} {x1 : Int32} {σ : St} {post : Int32 → St → Prop} (h : wpM_begin x1 σ post) : CI l E (wM E a) yX11_begin cX11_begin 5 .int rmM_begin [.ref (a 0), .int x1] σ post := met_i (by decide) rfl (Nat.le_of_ble_eq_true rfl) rfl (fun X C hQ => kM_begin C hQ _ _ h)
theorem fgM_X11_217 {X : Kx} {l : Launch} {E : Ev} {a : Nat → Nat} {σ : St} {cc : ByteArray} {rm : Room} {ret : Option FieldType} {pc : Nat} {lv : List (Option Value)} {st : List Value} (C : Cx X l E RX11 cc rm ret) (d : decode cc pc = .ok (.getfield 217, 3)) (k : G X (wM E a) σ (pc + 3) lv (.int (σ.1 30) :: st)) : G X (wM E a) σ pc lv (.ref (a 0) :: st) := g_get C (q0 := 0) (ci := 10) (k := 30) rfl rfl inU_X11 (by decide) (by decide +kernel) rfl d k
theorem alM_29 {X : Kx} {l : Launch} {E : Ev} {a : Nat → Nat} {σ : St} {cc : ByteArray} {rm : Room} {ret : Option FieldType} {pc : Nat} {lv : List (Option Value)} {st : List Value} {own : String} {i : Int32} (C : Cx X l E own cc rm ret) (hin : vp_in i 16) (d : decode cc pc = .ok (.iaload, 1)) (k : G X (wM E a) σ (pc + 1) lv (.int (σ.2 29 i.toNatClampNeg) :: st)) : G X (wM E a) σ pc lv (.int i :: .ref (a 30) :: st) := g_iald C (q0 := 20) rfl hin d k
/-! IceRunModel.order(I)I -/
abbrev rmM_order : Room := { frames := 1, cells := 0, slots := 0, locals := 22 }
def wpM_order_36 (s0 : Int32) (σ : St) (post : Int32 → St → Prop) : Prop := post s0 σ
theorem kM_order_36 {X : Kx} {l : Launch} {E : Ev} {a : Nat → Nat} {post : Int32 → St → Prop} (C : Cx X l E RX11 cX11_order rmM_order (some .int)) (hQ : QI X (wM E a) post) (s0 : Int32) (σ : St) (h : wpM_order_36  s0 σ post) : G X (wM E a) σ 36 [none, none] [.int s0] := by
  unfold wpM_order_36 at h
  exact g_ireturn C hQ dX11_order_36 h
def wpM_order_35 (σ : St) (post : Int32 → St → Prop) : Prop := wpM_order_36 (-1) σ post
theorem kM_order_35 {X : Kx} {l : Launch} {E : Ev} {a : Nat → Nat} {post : Int32 → St → Prop} (C : Cx X l E RX11 cX11_order rmM_order (some .int)) (hQ : QI X (wM E a) post) (σ : St) (h : wpM_order_35   σ post) : G X (wM E a) σ 35 [none, none] [] := by
  unfold wpM_order_35 at h
  refine g_iconst_m1 C dX11_order_35 ?_
  exact g_wk (kM_order_36 C hQ _ _ h) (trivial)
def wpM_order (x1 : Int32) (σ : St) (post : Int32 → St → Prop) : Prop := let σ1 : St := pI σ 0 0; (((σ1.1 26) = 0 → wpM_order_35 σ1 post) ∧ (¬ (σ1.1 26) = 0 → wpM_within x1 0 ((σ1.1 30) - 1) σ1 (fun r3 σ2 => ((r3 = 0 → wpM_order_35 σ2 post) ∧ (¬ r3 = 0 → vp_in x1 16 ∧ (wpM_order_36 (σ2.2 29 (Int32.toNatClampNeg x1)) σ2 post))))))
theorem kM_order {X : Kx} {l : Launch} {E : Ev} {a : Nat → Nat} {post : Int32 → St → Prop} (C : Cx X l E RX11 cX11_order rmM_order (some .int)) (hQ : QI X (wM E a) post) (x1 : Int32) (σ : St) (h : wpM_order x1 σ post) : G X (wM E a) σ 0 [some (.ref (a 0)), some (.int x1)] [] := by
  unfold wpM_order at h
  refine g_aload_0 C dX11_order_0 rfl ?_
  refine g_iconst_0 C dX11_order_1 ?_
  refine fpM_X11_106 C dX11_order_2 ?_
  refine g_aload_0 C dX11_order_5 rfl ?_
  refine fgM_X11_113 C dX11_order_6 ?_
  refine g_if_eq C 35 dX11_order_9 (by decide) (fun q => ?_) (fun q => ?_)
  · have h := h.1 q
    exact g_wk (kM_order_35 C hQ _ h) (trivial)
  · have h := h.2 q
    refine g_iload_1 C dX11_order_12 rfl ?_
    refine g_iconst_0 C dX11_order_13 ?_
    refine g_aload_0 C dX11_order_14 rfl ?_
    refine fgM_X11_217 C dX11_order_15 ?_
    refine g_iconst_1 C dX11_order_18 ?_
    refine g_isub C dX11_order_19 ?_
    refine csM_X11_109 C h ⟨Nat.le_of_ble_eq_true rfl, Nat.le_of_ble_eq_true rfl⟩ (Nat.le_of_ble_eq_true rfl) dX11_order_20 (fun _ _ h => ?_)
    refine g_if_eq C 35 dX11_order_23 (by decide) (fun q => ?_) (fun q => ?_)
    · have h := h.1 q
      exact g_wk (kM_order_35 C hQ _ h) (trivial)
    · have h := h.2 q
      refine g_aload_0 C dX11_order_26 rfl ?_
      refine fgM_X11_72 C dX11_order_27 ?_
      refine g_iload_1 C dX11_order_30 rfl ?_
      obtain ⟨q, h⟩ := h
      refine alM_29 C q dX11_order_31 ?_
      refine g_goto C 36 dX11_order_32 (by decide) ?_
      exact g_wk (kM_order_36 C hQ _ _ h) (trivial)
theorem cM_order {l : Launch} {E : Ev} {a : Nat → Nat} {x1 : Int32} {σ : St} {post : Int32 → St → Prop} (h : wpM_order x1 σ post) : CI l E (wM E a) yX11_order cX11_order 2 .int rmM_order [.ref (a 0), .int x1] σ post := met_i (by decide) rfl (Nat.le_of_ble_eq_true rfl) rfl (fun X C hQ => kM_order C hQ _ _ h)
theorem asM_35 {X : Kx} {l : Launch} {E : Ev} {a : Nat → Nat} {σ : St} {cc : ByteArray} {rm : Room} {ret : Option FieldType} {pc : Nat} {lv : List (Option Value)} {st : List Value} {own : String} {i x : Int32} (C : Cx X l E own cc rm ret) (hin : vp_in i 384) (d : decode cc pc = .ok (.iastore, 1)) (k : G X (wM E a) (pA σ 35 i.toNatClampNeg x) (pc + 1) lv st) : G X (wM E a) σ pc lv (.int x :: .int i :: .ref (a 36) :: st) := g_iast C (q0 := 24) rfl rfl hin d k
theorem asM_34 {X : Kx} {l : Launch} {E : Ev} {a : Nat → Nat} {σ : St} {cc : ByteArray} {rm : Room} {ret : Option FieldType} {pc : Nat} {lv : List (Option Value)} {st : List Value} {own : String} {i x : Int32} (C : Cx X l E own cc rm ret) (hin : vp_in i 384) (d : decode cc pc = .ok (.iastore, 1)) (k : G X (wM E a) (pA σ 34 i.toNatClampNeg x) (pc + 1) lv st) : G X (wM E a) σ pc lv (.int x :: .int i :: .ref (a 35) :: st) := g_iast C (q0 := 23) rfl rfl hin d k
theorem fgM_X11_85 {X : Kx} {l : Launch} {E : Ev} {a : Nat → Nat} {σ : St} {cc : ByteArray} {rm : Room} {ret : Option FieldType} {pc : Nat} {lv : List (Option Value)} {st : List Value} (C : Cx X l E RX11 cc rm ret) (d : decode cc pc = .ok (.getfield 85, 3)) (k : G X (wM E a) σ (pc + 3) lv (.ref (a 36) :: st)) : G X (wM E a) σ pc lv (.ref (a 0) :: st) := g_get C (q0 := 0) (ci := 10) (k := 35) rfl rfl inU_X11 (by decide) (by decide +kernel) rfl d k
theorem fgM_X11_82 {X : Kx} {l : Launch} {E : Ev} {a : Nat → Nat} {σ : St} {cc : ByteArray} {rm : Room} {ret : Option FieldType} {pc : Nat} {lv : List (Option Value)} {st : List Value} (C : Cx X l E RX11 cc rm ret) (d : decode cc pc = .ok (.getfield 82, 3)) (k : G X (wM E a) σ (pc + 3) lv (.ref (a 35) :: st)) : G X (wM E a) σ pc lv (.ref (a 0) :: st) := g_get C (q0 := 0) (ci := 10) (k := 34) rfl rfl inU_X11 (by decide) (by decide +kernel) rfl d k
theorem lc_X11_245 : Cond.constant RX11 245 (-1000000) ∈ UW := by decide +kernel
theorem alM_9 {X : Kx} {l : Launch} {E : Ev} {a : Nat → Nat} {σ : St} {cc : ByteArray} {rm : Room} {ret : Option FieldType} {pc : Nat} {lv : List (Option Value)} {st : List Value} {own : String} {i : Int32} (C : Cx X l E own cc rm ret) (hin : vp_in i 12) (d : decode cc pc = .ok (.iaload, 1)) (k : G X (wM E a) σ (pc + 1) lv (.int (σ.2 9 i.toNatClampNeg) :: st)) : G X (wM E a) σ pc lv (.int i :: .ref (a 10) :: st) := g_iald C (q0 := 7) rfl hin d k
/-! IceRunModel.passes(III)V -/
abbrev rmM_passes : Room := { frames := 0, cells := 0, slots := 0, locals := 0 }
def wpM_passes_136 (s1 s2 : Int32) (σ : St) (post : St → Prop) : Prop := vp_in s1 384 ∧ (let σ1 : St := pA σ 35 (Int32.toNatClampNeg s1) s2; post σ1)
theorem kM_passes_136 {X : Kx} {l : Launch} {E : Ev} {a : Nat → Nat} {post : St → Prop} (C : Cx X l E RX11 cX11_passes rmM_passes none) (hQ : QV X (wM E a) post) (s1 s2 : Int32) (σ : St) (h : wpM_passes_136  s1 s2 σ post) : G X (wM E a) σ 136 [none, none, none, none, none, none, none] [.int s2, .int s1, .ref (a 36)] := by
  unfold wpM_passes_136 at h
  obtain ⟨q, h⟩ := h
  refine asM_35 C q dX11_passes_136 ?_
  exact g_return C hQ dX11_passes_137 h
def wpM_passes_112 (s1 : Int32) (σ : St) (post : St → Prop) : Prop := wpM_passes_136 s1 0 σ post
theorem kM_passes_112 {X : Kx} {l : Launch} {E : Ev} {a : Nat → Nat} {post : St → Prop} (C : Cx X l E RX11 cX11_passes rmM_passes none) (hQ : QV X (wM E a) post) (s1 : Int32) (σ : St) (h : wpM_passes_112  s1 σ post) : G X (wM E a) σ 112 [none, none, none, none, none, none, none] [.int s1, .ref (a 36)] := by
  unfold wpM_passes_112 at h
  refine g_iconst_0 C dX11_passes_112 ?_
  refine g_goto C 136 dX11_passes_113 (by decide) ?_
  exact g_wk (kM_passes_136 C hQ _ _ _ h) (trivial)
def wpM_passes_82 (x1 x2 x4 x5 x6 s1 s2 : Int32) (σ : St) (post : St → Prop) : Prop := vp_in s1 384 ∧ (let σ1 : St := pA σ 34 (Int32.toNatClampNeg s1) s2; ((¬ x6 = 0 → wpM_passes_112 ((6 * x1) + x2) σ1 post) ∧ (x6 = 0 → ((x4 = 100 → wpM_passes_112 ((6 * x1) + x2) σ1 post) ∧ (¬ x4 = 100 → ((¬ x5 = 100 → ((x4 ≤ x5 → wpM_passes_136 ((6 * x1) + x2) (x5 - x4) σ1 post) ∧ (¬ x4 ≤ x5 → wpM_passes_136 ((6 * x1) + x2) (x4 - x5) σ1 post))) ∧ (x5 = 100 → wpM_passes_112 ((6 * x1) + x2) σ1 post)))))))
theorem kM_passes_82 {X : Kx} {l : Launch} {E : Ev} {a : Nat → Nat} {post : St → Prop} (C : Cx X l E RX11 cX11_passes rmM_passes none) (hQ : QV X (wM E a) post) (x1 x2 x4 x5 x6 s1 s2 : Int32) (σ : St) (h : wpM_passes_82  x1 x2 x4 x5 x6 s1 s2 σ post) : G X (wM E a) σ 82 [some (.ref (a 0)), some (.int x1), some (.int x2), none, some (.int x4), some (.int x5), some (.int x6)] [.int s2, .int s1, .ref (a 35)] := by
  unfold wpM_passes_82 at h
  obtain ⟨q, h⟩ := h
  refine asM_34 C q dX11_passes_82 ?_
  refine g_aload_0 C dX11_passes_83 rfl ?_
  refine fgM_X11_85 C dX11_passes_84 ?_
  refine g_bipush C (v := 6) (by decide) dX11_passes_87 ?_
  refine g_iload_1 C dX11_passes_89 rfl ?_
  refine g_imul C dX11_passes_90 ?_
  refine g_iload_2 C dX11_passes_91 rfl ?_
  refine g_iadd C dX11_passes_92 ?_
  refine g_iload C dX11_passes_93 rfl ?_
  refine g_if_ne C 112 dX11_passes_95 (by decide) (fun q => ?_) (fun q => ?_)
  · have h := h.1 q
    exact g_wk (kM_passes_112 C hQ _ _ h) (trivial)
  · have h := h.2 q
    refine g_iload C dX11_passes_98 rfl ?_
    refine g_bipush C (v := 100) (by decide) dX11_passes_100 ?_
    refine g_icmp_eq C 112 dX11_passes_102 (by decide) (fun q => ?_) (fun q => ?_)
    · have h := h.1 q
      exact g_wk (kM_passes_112 C hQ _ _ h) (trivial)
    · have h := h.2 q
      refine g_iload C dX11_passes_105 rfl ?_
      refine g_bipush C (v := 100) (by decide) dX11_passes_107 ?_
      refine g_icmp_ne C 116 dX11_passes_109 (by decide) (fun q => ?_) (fun q => ?_)
      · have h := h.1 q
        refine g_iload C dX11_passes_116 rfl ?_
        refine g_iload C dX11_passes_118 rfl ?_
        refine g_icmp_le C 131 dX11_passes_120 (by decide) (fun q => ?_) (fun q => ?_)
        · have h := h.1 q
          refine g_iload C dX11_passes_131 rfl ?_
          refine g_iload C dX11_passes_133 rfl ?_
          refine g_isub C dX11_passes_135 ?_
          exact g_wk (kM_passes_136 C hQ _ _ _ h) (trivial)
        · have h := h.2 q
          refine g_iload C dX11_passes_123 rfl ?_
          refine g_iload C dX11_passes_125 rfl ?_
          refine g_isub C dX11_passes_127 ?_
          refine g_goto C 136 dX11_passes_128 (by decide) ?_
          exact g_wk (kM_passes_136 C hQ _ _ _ h) (trivial)
      · have h := h.2 q
        exact g_wk (kM_passes_112 C hQ _ _ h) (trivial)
def wpM_passes_31 (x1 x2 x3 x4 x5 s0 : Int32) (σ : St) (post : St → Prop) : Prop := ((s0 = 0 → ((x4 = 100 → ((x5 = 100 → wpM_passes_82 x1 x2 x4 x5 s0 ((6 * x1) + x2) (-1000000) σ post) ∧ (¬ x5 = 100 → wpM_passes_82 x1 x2 x4 x5 s0 ((6 * x1) + x2) (x3 + x5) σ post))) ∧ (¬ x4 = 100 → wpM_passes_82 x1 x2 x4 x5 s0 ((6 * x1) + x2) (x3 + x4) σ post))) ∧ (¬ s0 = 0 → wpM_passes_82 x1 x2 x4 x5 s0 ((6 * x1) + x2) 0 σ post))
theorem kM_passes_31 {X : Kx} {l : Launch} {E : Ev} {a : Nat → Nat} {post : St → Prop} (C : Cx X l E RX11 cX11_passes rmM_passes none) (hQ : QV X (wM E a) post) (x1 x2 x3 x4 x5 s0 : Int32) (σ : St) (h : wpM_passes_31  x1 x2 x3 x4 x5 s0 σ post) : G X (wM E a) σ 31 [some (.ref (a 0)), some (.int x1), some (.int x2), some (.int x3), some (.int x4), some (.int x5), none] [.int s0] := by
  unfold wpM_passes_31 at h
  refine g_istore C dX11_passes_31 (Nat.le_of_ble_eq_true rfl) ?_
  refine g_aload_0 C dX11_passes_33 rfl ?_
  refine fgM_X11_82 C dX11_passes_34 ?_
  refine g_bipush C (v := 6) (by decide) dX11_passes_37 ?_
  refine g_iload_1 C dX11_passes_39 rfl ?_
  refine g_imul C dX11_passes_40 ?_
  refine g_iload_2 C dX11_passes_41 rfl ?_
  refine g_iadd C dX11_passes_42 ?_
  refine g_iload C dX11_passes_43 rfl ?_
  refine g_if_eq C 52 dX11_passes_45 (by decide) (fun q => ?_) (fun q => ?_)
  · have h := h.1 q
    refine g_iload C dX11_passes_52 rfl ?_
    refine g_bipush C (v := 100) (by decide) dX11_passes_54 ?_
    refine g_icmp_eq C 66 dX11_passes_56 (by decide) (fun q => ?_) (fun q => ?_)
    · have h := h.1 q
      refine g_iload C dX11_passes_66 rfl ?_
      refine g_bipush C (v := 100) (by decide) dX11_passes_68 ?_
      refine g_icmp_eq C 80 dX11_passes_70 (by decide) (fun q => ?_) (fun q => ?_)
      · have h := h.1 q
        refine g_ldc C lc_X11_245 dX11_passes_80 ?_
        exact g_wk (kM_passes_82 C hQ _ _ _ _ _ _ _ _ h) (And.intro rfl (And.intro rfl (And.intro rfl (And.intro rfl (And.intro rfl (And.intro rfl (trivial)))))))
      · have h := h.2 q
        refine g_iload_3 C dX11_passes_73 rfl ?_
        refine g_iload C dX11_passes_74 rfl ?_
        refine g_iadd C dX11_passes_76 ?_
        refine g_goto C 82 dX11_passes_77 (by decide) ?_
        exact g_wk (kM_passes_82 C hQ _ _ _ _ _ _ _ _ h) (And.intro rfl (And.intro rfl (And.intro rfl (And.intro rfl (And.intro rfl (And.intro rfl (trivial)))))))
    · have h := h.2 q
      refine g_iload_3 C dX11_passes_59 rfl ?_
      refine g_iload C dX11_passes_60 rfl ?_
      refine g_iadd C dX11_passes_62 ?_
      refine g_goto C 82 dX11_passes_63 (by decide) ?_
      exact g_wk (kM_passes_82 C hQ _ _ _ _ _ _ _ _ h) (And.intro rfl (And.intro rfl (And.intro rfl (And.intro rfl (And.intro rfl (And.intro rfl (trivial)))))))
  · have h := h.2 q
    refine g_iconst_0 C dX11_passes_48 ?_
    refine g_goto C 82 dX11_passes_49 (by decide) ?_
    exact g_wk (kM_passes_82 C hQ _ _ _ _ _ _ _ _ h) (And.intro rfl (And.intro rfl (And.intro rfl (And.intro rfl (And.intro rfl (And.intro rfl (trivial)))))))
def wpM_passes (x1 x2 x3 : Int32) (σ : St) (post : St → Prop) : Prop := vp_in (2 * x2) 12 ∧ (let y1 : Int32 := (σ.2 9 (Int32.toNatClampNeg (2 * x2))); vp_in ((2 * x2) + 1) 12 ∧ (let y2 : Int32 := (σ.2 9 (Int32.toNatClampNeg ((2 * x2) + 1))); ((¬ x2 = 0 → wpM_passes_31 x1 x2 x3 y1 y2 0 σ post) ∧ (x2 = 0 → wpM_passes_31 x1 x2 x3 y1 y2 1 σ post))))
theorem kM_passes {X : Kx} {l : Launch} {E : Ev} {a : Nat → Nat} {post : St → Prop} (C : Cx X l E RX11 cX11_passes rmM_passes none) (hQ : QV X (wM E a) post) (x1 x2 x3 : Int32) (σ : St) (h : wpM_passes x1 x2 x3 σ post) : G X (wM E a) σ 0 [some (.ref (a 0)), some (.int x1), some (.int x2), some (.int x3), none, none, none] [] := by
  unfold wpM_passes at h
  refine g_aload_0 C dX11_passes_0 rfl ?_
  refine fgM_X11_28 C dX11_passes_1 ?_
  refine g_iconst_2 C dX11_passes_4 ?_
  refine g_iload_2 C dX11_passes_5 rfl ?_
  refine g_imul C dX11_passes_6 ?_
  obtain ⟨q, h⟩ := h
  refine alM_9 C q dX11_passes_7 ?_
  refine g_istore C dX11_passes_8 (Nat.le_of_ble_eq_true rfl) ?_
  refine g_aload_0 C dX11_passes_10 rfl ?_
  refine fgM_X11_28 C dX11_passes_11 ?_
  refine g_iconst_2 C dX11_passes_14 ?_
  refine g_iload_2 C dX11_passes_15 rfl ?_
  refine g_imul C dX11_passes_16 ?_
  refine g_iconst_1 C dX11_passes_17 ?_
  refine g_iadd C dX11_passes_18 ?_
  obtain ⟨q, h⟩ := h
  refine alM_9 C q dX11_passes_19 ?_
  refine g_istore C dX11_passes_20 (Nat.le_of_ble_eq_true rfl) ?_
  refine g_iload_2 C dX11_passes_22 rfl ?_
  refine g_if_ne C 30 dX11_passes_23 (by decide) (fun q => ?_) (fun q => ?_)
  · have h := h.1 q
    refine g_iconst_0 C dX11_passes_30 ?_
    exact g_wk (kM_passes_31 C hQ _ _ _ _ _ _ _ h) (And.intro rfl (And.intro rfl (And.intro rfl (And.intro rfl (And.intro rfl (And.intro rfl (trivial)))))))
  · have h := h.2 q
    refine g_iconst_1 C dX11_passes_26 ?_
    refine g_goto C 31 dX11_passes_27 (by decide) ?_
    exact g_wk (kM_passes_31 C hQ _ _ _ _ _ _ _ h) (And.intro rfl (And.intro rfl (And.intro rfl (And.intro rfl (And.intro rfl (And.intro rfl (trivial)))))))
theorem cM_passes {l : Launch} {E : Ev} {a : Nat → Nat} {x1 x2 x3 : Int32} {σ : St} {post : St → Prop} (h : wpM_passes x1 x2 x3 σ post) : CV l E (wM E a) yX11_passes cX11_passes 7 rmM_passes [.ref (a 0), .int x1, .int x2, .int x3] σ post := met_v (by decide) rfl (Nat.le_of_ble_eq_true rfl) rfl (fun X C hQ => kM_passes C hQ _ _ _ _ h)

theorem asM_12 {X : Kx} {l : Launch} {E : Ev} {a : Nat → Nat} {σ : St} {cc : ByteArray} {rm : Room} {ret : Option FieldType} {pc : Nat} {lv : List (Option Value)} {st : List Value} {own : String} {i x : Int32} (C : Cx X l E own cc rm ret) (hin : vp_in i 36) (d : decode cc pc = .ok (.iastore, 1)) (k : G X (wM E a) (pA σ 12 i.toNatClampNeg x) (pc + 1) lv st) : G X (wM E a) σ pc lv (.int x :: .int i :: .ref (a 13) :: st) := g_iast C (q0 := 10) rfl rfl hin d k
theorem fgM_X11_34 {X : Kx} {l : Launch} {E : Ev} {a : Nat → Nat} {σ : St} {cc : ByteArray} {rm : Room} {ret : Option FieldType} {pc : Nat} {lv : List (Option Value)} {st : List Value} (C : Cx X l E RX11 cc rm ret) (d : decode cc pc = .ok (.getfield 34, 3)) (k : G X (wM E a) σ (pc + 3) lv (.ref (a 12) :: st)) : G X (wM E a) σ pc lv (.ref (a 0) :: st) := g_get C (q0 := 0) (ci := 10) (k := 11) rfl rfl inU_X11 (by decide) (by decide +kernel) rfl d k
theorem alM_11 {X : Kx} {l : Launch} {E : Ev} {a : Nat → Nat} {σ : St} {cc : ByteArray} {rm : Room} {ret : Option FieldType} {pc : Nat} {lv : List (Option Value)} {st : List Value} {own : String} {i : Int32} (C : Cx X l E own cc rm ret) (hin : vp_in i 4) (d : decode cc pc = .ok (.iaload, 1)) (k : G X (wM E a) σ (pc + 1) lv (.int (σ.2 11 i.toNatClampNeg) :: st)) : G X (wM E a) σ pc lv (.int i :: .ref (a 12) :: st) := g_iald C (q0 := 9) rfl hin d k
theorem fgM_X11_37 {X : Kx} {l : Launch} {E : Ev} {a : Nat → Nat} {σ : St} {cc : ByteArray} {rm : Room} {ret : Option FieldType} {pc : Nat} {lv : List (Option Value)} {st : List Value} (C : Cx X l E RX11 cc rm ret) (d : decode cc pc = .ok (.getfield 37, 3)) (k : G X (wM E a) σ (pc + 3) lv (.ref (a 13) :: st)) : G X (wM E a) σ pc lv (.ref (a 0) :: st) := g_get C (q0 := 0) (ci := 10) (k := 12) rfl rfl inU_X11 (by decide) (by decide +kernel) rfl d k
theorem asM_11 {X : Kx} {l : Launch} {E : Ev} {a : Nat → Nat} {σ : St} {cc : ByteArray} {rm : Room} {ret : Option FieldType} {pc : Nat} {lv : List (Option Value)} {st : List Value} {own : String} {i x : Int32} (C : Cx X l E own cc rm ret) (hin : vp_in i 4) (d : decode cc pc = .ok (.iastore, 1)) (k : G X (wM E a) (pA σ 11 i.toNatClampNeg x) (pc + 1) lv st) : G X (wM E a) σ pc lv (.int x :: .int i :: .ref (a 12) :: st) := g_iast C (q0 := 9) rfl rfl hin d k
theorem fgM_X11_31 {X : Kx} {l : Launch} {E : Ev} {a : Nat → Nat} {σ : St} {cc : ByteArray} {rm : Room} {ret : Option FieldType} {pc : Nat} {lv : List (Option Value)} {st : List Value} (C : Cx X l E RX11 cc rm ret) (d : decode cc pc = .ok (.getfield 31, 3)) (k : G X (wM E a) σ (pc + 3) lv (.ref (a 11) :: st)) : G X (wM E a) σ pc lv (.ref (a 0) :: st) := g_get C (q0 := 0) (ci := 10) (k := 10) rfl rfl inU_X11 (by decide) (by decide +kernel) rfl d k
theorem asM_10 {X : Kx} {l : Launch} {E : Ev} {a : Nat → Nat} {σ : St} {cc : ByteArray} {rm : Room} {ret : Option FieldType} {pc : Nat} {lv : List (Option Value)} {st : List Value} {own : String} {i x : Int32} (C : Cx X l E own cc rm ret) (hin : vp_in i 4) (d : decode cc pc = .ok (.iastore, 1)) (k : G X (wM E a) (pA σ 10 i.toNatClampNeg x) (pc + 1) lv st) : G X (wM E a) σ pc lv (.int x :: .int i :: .ref (a 11) :: st) := g_iast C (q0 := 8) rfl rfl hin d k
/-! IceRunModel.runners(IIIII)Z -/
abbrev rmM_runners : Room := { frames := 1, cells := 0, slots := 0, locals := 22 }
def wpM_runners_38 (σ : St) (post : Int32 → St → Prop) : Prop := post 0 σ
theorem kM_runners_38 {X : Kx} {l : Launch} {E : Ev} {a : Nat → Nat} {post : Int32 → St → Prop} (C : Cx X l E RX11 cX11_runners rmM_runners (some .boolean)) (hQ : QI X (wM E a) post) (σ : St) (h : wpM_runners_38   σ post) : G X (wM E a) σ 38 [none, none, none, none, none, none, none, none] [] := by
  unfold wpM_runners_38 at h
  refine g_iconst_0 C dX11_runners_38 ?_
  exact g_zreturn C hQ dX11_runners_39 (Or.inl rfl) h
def wpM_runners_115 (k_70 : Int32 → Int32 → Int32 → Int32 → Int32 → St → Prop) (x1 x2 x5 x6 x7 s1 s2 : Int32) (σ : St) (post : Int32 → St → Prop) : Prop := vp_in s1 36 ∧ (let σ1 : St := pA σ 12 (Int32.toNatClampNeg s1) s2; let y2 : Int32 := (x6 + x5); let y3 : Int32 := x7 + 1; k_70 x1 x2 x5 y2 y3 σ1)
theorem kM_runners_115 {X : Kx} {l : Launch} {E : Ev} {a : Nat → Nat} {post : Int32 → St → Prop} (C : Cx X l E RX11 cX11_runners rmM_runners (some .boolean)) (hQ : QI X (wM E a) post) (k_70 : Int32 → Int32 → Int32 → Int32 → Int32 → St → Prop) (hk_70 : ∀ (x1 x2 x5 x6 x7 : Int32) (σ : St), k_70 x1 x2 x5 x6 x7 σ → G X (wM E a) σ 70 [some (.ref (a 0)), some (.int x1), some (.int x2), none, none, some (.int x5), some (.int x6), some (.int x7)] []) (x1 x2 x5 x6 x7 s1 s2 : Int32) (σ : St) (h : wpM_runners_115 k_70 x1 x2 x5 x6 x7 s1 s2 σ post) : G X (wM E a) σ 115 [some (.ref (a 0)), some (.int x1), some (.int x2), none, none, some (.int x5), some (.int x6), some (.int x7)] [.int s2, .int s1, .ref (a 13)] := by
  unfold wpM_runners_115 at h
  obtain ⟨q, h⟩ := h
  refine asM_12 C q dX11_runners_115 ?_
  refine g_iload C dX11_runners_116 rfl ?_
  refine g_iload C dX11_runners_118 rfl ?_
  refine g_iadd C dX11_runners_120 ?_
  refine g_istore C dX11_runners_121 (Nat.le_of_ble_eq_true rfl) ?_
  refine g_iinc C (v := 1) (by decide) dX11_runners_123 rfl ?_
  refine g_goto C 70 dX11_runners_126 (by decide) ?_
  exact g_wk (hk_70 _ _ _ _ _ _ h) (And.intro rfl (And.intro rfl (And.intro rfl (And.intro rfl (And.intro rfl (And.intro rfl (trivial)))))))
def wpBM_runners_70 (k_70 : Int32 → Int32 → Int32 → Int32 → Int32 → St → Prop) (x1 x2 x5 x6 x7 : Int32) (σ : St) (post : Int32 → St → Prop) : Prop := vp_in x1 4 ∧ ((((σ.2 11 (Int32.toNatClampNeg x1)) ≤ x7 → post 1 σ) ∧ (¬ (σ.2 11 (Int32.toNatClampNeg x1)) ≤ x7 → ((¬ x2 = 0 → ((¬ x2 = 1 → wpM_runners_115 k_70 x1 x2 x5 x6 x7 ((9 * x1) + x7) x6 σ post) ∧ (x2 = 1 → wpM_runners_115 k_70 x1 x2 x5 x6 x7 ((9 * x1) + x7) ((Int32.toInt16 x6).toInt32) σ post))) ∧ (x2 = 0 → wpM_runners_115 k_70 x1 x2 x5 x6 x7 ((9 * x1) + x7) ((Int32.toInt8 x6).toInt32) σ post)))))
def wpM_runners_70 (x1 x2 x5 x6 x7 : Int32) (σ : St) (post : Int32 → St → Prop) : Prop := ∃ n : Nat, lpN (α := Int32 × Int32 × Int32 × Int32 × Int32 × St) (fun kb t => wpBM_runners_70 (fun x1 x2 x5 x6 x7 σ => kb (x1, x2, x5, x6, x7, σ)) t.1 t.2.1 t.2.2.1 t.2.2.2.1 t.2.2.2.2.1 t.2.2.2.2.2 post) n (x1, x2, x5, x6, x7, σ)
theorem kBM_runners_70 {X : Kx} {l : Launch} {E : Ev} {a : Nat → Nat} {post : Int32 → St → Prop} (C : Cx X l E RX11 cX11_runners rmM_runners (some .boolean)) (hQ : QI X (wM E a) post) (k_70 : Int32 → Int32 → Int32 → Int32 → Int32 → St → Prop) (hk_70 : ∀ (x1 x2 x5 x6 x7 : Int32) (σ : St), k_70 x1 x2 x5 x6 x7 σ → G X (wM E a) σ 70 [some (.ref (a 0)), some (.int x1), some (.int x2), none, none, some (.int x5), some (.int x6), some (.int x7)] []) (x1 x2 x5 x6 x7 : Int32) (σ : St) (h : wpBM_runners_70 k_70 x1 x2 x5 x6 x7 σ post) : G X (wM E a) σ 70 [some (.ref (a 0)), some (.int x1), some (.int x2), none, none, some (.int x5), some (.int x6), some (.int x7)] [] := by
  unfold wpBM_runners_70 at h
  refine g_iload C dX11_runners_70 rfl ?_
  refine g_aload_0 C dX11_runners_72 rfl ?_
  refine fgM_X11_34 C dX11_runners_73 ?_
  refine g_iload_1 C dX11_runners_76 rfl ?_
  obtain ⟨q, h⟩ := h
  refine alM_11 C q dX11_runners_77 ?_
  refine g_icmp_ge C 129 dX11_runners_78 (by decide) (fun q => ?_) (fun q => ?_)
  · have h := h.1 q
    refine g_iconst_1 C dX11_runners_129 ?_
    exact g_zreturn C hQ dX11_runners_130 (Or.inr rfl) h
  · have h := h.2 q
    refine g_aload_0 C dX11_runners_81 rfl ?_
    refine fgM_X11_37 C dX11_runners_82 ?_
    refine g_bipush C (v := 9) (by decide) dX11_runners_85 ?_
    refine g_iload_1 C dX11_runners_87 rfl ?_
    refine g_imul C dX11_runners_88 ?_
    refine g_iload C dX11_runners_89 rfl ?_
    refine g_iadd C dX11_runners_91 ?_
    refine g_iload_2 C dX11_runners_92 rfl ?_
    refine g_if_ne C 102 dX11_runners_93 (by decide) (fun q => ?_) (fun q => ?_)
    · have h := h.1 q
      refine g_iload_2 C dX11_runners_102 rfl ?_
      refine g_iconst_1 C dX11_runners_103 ?_
      refine g_icmp_ne C 113 dX11_runners_104 (by decide) (fun q => ?_) (fun q => ?_)
      · have h := h.1 q
        refine g_iload C dX11_runners_113 rfl ?_
        exact g_wk (kM_runners_115 C hQ _ hk_70 _ _ _ _ _ _ _ _ h) (And.intro rfl (And.intro rfl (And.intro rfl (And.intro rfl (And.intro rfl (And.intro rfl (trivial)))))))
      · have h := h.2 q
        refine g_iload C dX11_runners_107 rfl ?_
        refine g_i2s C dX11_runners_109 ?_
        refine g_goto C 115 dX11_runners_110 (by decide) ?_
        exact g_wk (kM_runners_115 C hQ _ hk_70 _ _ _ _ _ _ _ _ h) (And.intro rfl (And.intro rfl (And.intro rfl (And.intro rfl (And.intro rfl (And.intro rfl (trivial)))))))
    · have h := h.2 q
      refine g_iload C dX11_runners_96 rfl ?_
      refine g_i2b C dX11_runners_98 ?_
      refine g_goto C 115 dX11_runners_99 (by decide) ?_
      exact g_wk (kM_runners_115 C hQ _ hk_70 _ _ _ _ _ _ _ _ h) (And.intro rfl (And.intro rfl (And.intro rfl (And.intro rfl (And.intro rfl (And.intro rfl (trivial)))))))
theorem kM_runners_70 {X : Kx} {l : Launch} {E : Ev} {a : Nat → Nat} {post : Int32 → St → Prop} (C : Cx X l E RX11 cX11_runners rmM_runners (some .boolean)) (hQ : QI X (wM E a) post) (x1 x2 x5 x6 x7 : Int32) (σ : St) (h : wpM_runners_70  x1 x2 x5 x6 x7 σ post) : G X (wM E a) σ 70 [some (.ref (a 0)), some (.int x1), some (.int x2), none, none, some (.int x5), some (.int x6), some (.int x7)] [] := by
  obtain ⟨n, h⟩ := h
  exact g_loop (J := fun t : Int32 × Int32 × Int32 × Int32 × Int32 × St => G X (wM E a) t.2.2.2.2.2 70 [some (.ref (a 0)), some (.int t.1), some (.int t.2.1), none, none, some (.int t.2.2.1), some (.int t.2.2.2.1), some (.int t.2.2.2.2.1)] []) (fun kb hkb t ht => kBM_runners_70 C hQ  (fun x1 x2 x5 x6 x7 σ => kb (x1, x2, x5, x6, x7, σ)) (fun x1 x2 x5 x6 x7 σ hh => hkb (x1, x2, x5, x6, x7, σ) hh) t.1 t.2.1 t.2.2.1 t.2.2.2.1 t.2.2.2.2.1 t.2.2.2.2.2 ht) n (x1, x2, x5, x6, x7, σ) h
def wpM_runners_62 (x1 x2 x4 x5 s1 s2 : Int32) (σ : St) (post : Int32 → St → Prop) : Prop := vp_in s1 4 ∧ (let σ1 : St := pA σ 11 (Int32.toNatClampNeg s1) s2; wpM_runners_70 x1 x2 x5 x4 0 σ1 post)
theorem kM_runners_62 {X : Kx} {l : Launch} {E : Ev} {a : Nat → Nat} {post : Int32 → St → Prop} (C : Cx X l E RX11 cX11_runners rmM_runners (some .boolean)) (hQ : QI X (wM E a) post) (x1 x2 x4 x5 s1 s2 : Int32) (σ : St) (h : wpM_runners_62  x1 x2 x4 x5 s1 s2 σ post) : G X (wM E a) σ 62 [some (.ref (a 0)), some (.int x1), some (.int x2), none, some (.int x4), some (.int x5), none, none] [.int s2, .int s1, .ref (a 12)] := by
  unfold wpM_runners_62 at h
  obtain ⟨q, h⟩ := h
  refine asM_11 C q dX11_runners_62 ?_
  refine g_iload C dX11_runners_63 rfl ?_
  refine g_istore C dX11_runners_65 (Nat.le_of_ble_eq_true rfl) ?_
  refine g_iconst_0 C dX11_runners_67 ?_
  refine g_istore C dX11_runners_68 (Nat.le_of_ble_eq_true rfl) ?_
  exact g_wk (kM_runners_70 C hQ _ _ _ _ _ _ h) (And.intro rfl (And.intro rfl (And.intro rfl (And.intro rfl (And.intro rfl (And.intro rfl (trivial)))))))
def wpM_runners_40 (x1 x2 x3 x4 x5 : Int32) (σ : St) (post : Int32 → St → Prop) : Prop := vp_in x1 4 ∧ (let σ1 : St := pA σ 10 (Int32.toNatClampNeg x1) x2; ((¬ x2 = 3 → wpM_runners_62 x1 x2 x4 x5 x1 x3 σ1 post) ∧ (x2 = 3 → wpM_runners_62 x1 x2 x4 x5 x1 0 σ1 post)))
theorem kM_runners_40 {X : Kx} {l : Launch} {E : Ev} {a : Nat → Nat} {post : Int32 → St → Prop} (C : Cx X l E RX11 cX11_runners rmM_runners (some .boolean)) (hQ : QI X (wM E a) post) (x1 x2 x3 x4 x5 : Int32) (σ : St) (h : wpM_runners_40  x1 x2 x3 x4 x5 σ post) : G X (wM E a) σ 40 [some (.ref (a 0)), some (.int x1), some (.int x2), some (.int x3), some (.int x4), some (.int x5), none, none] [] := by
  unfold wpM_runners_40 at h
  refine g_aload_0 C dX11_runners_40 rfl ?_
  refine fgM_X11_31 C dX11_runners_41 ?_
  refine g_iload_1 C dX11_runners_44 rfl ?_
  refine g_iload_2 C dX11_runners_45 rfl ?_
  obtain ⟨q, h⟩ := h
  refine asM_10 C q dX11_runners_46 ?_
  refine g_aload_0 C dX11_runners_47 rfl ?_
  refine fgM_X11_34 C dX11_runners_48 ?_
  refine g_iload_1 C dX11_runners_51 rfl ?_
  refine g_iload_2 C dX11_runners_52 rfl ?_
  refine g_iconst_3 C dX11_runners_53 ?_
  refine g_icmp_ne C 61 dX11_runners_54 (by decide) (fun q => ?_) (fun q => ?_)
  · have h := h.1 q
    refine g_iload_3 C dX11_runners_61 rfl ?_
    exact g_wk (kM_runners_62 C hQ _ _ _ _ _ _ _ h) (And.intro rfl (And.intro rfl (And.intro rfl (And.intro rfl (And.intro rfl (trivial))))))
  · have h := h.2 q
    refine g_iconst_0 C dX11_runners_57 ?_
    refine g_goto C 62 dX11_runners_58 (by decide) ?_
    exact g_wk (kM_runners_62 C hQ _ _ _ _ _ _ _ h) (And.intro rfl (And.intro rfl (And.intro rfl (And.intro rfl (And.intro rfl (trivial))))))
def wpM_runners (x1 x2 x3 x4 x5 : Int32) (σ : St) (post : Int32 → St → Prop) : Prop := let σ1 : St := pI σ 0 0; wpM_within x1 0 3 σ1 (fun r3 σ2 => ((r3 = 0 → wpM_runners_38 σ2 post) ∧ (¬ r3 = 0 → wpM_within x2 0 3 σ2 (fun r5 σ4 => ((r5 = 0 → wpM_runners_38 σ4 post) ∧ (¬ r5 = 0 → ((9 < x3 → wpM_runners_38 σ4 post) ∧ (¬ 9 < x3 → ((0 ≤ x3 → wpM_runners_40 x1 x2 x3 x4 x5 σ4 post) ∧ (¬ 0 ≤ x3 → ((x2 = 3 → wpM_runners_40 x1 x2 x3 x4 x5 σ4 post) ∧ (¬ x2 = 3 → wpM_runners_38 σ4 post))))))))))))
theorem kM_runners {X : Kx} {l : Launch} {E : Ev} {a : Nat → Nat} {post : Int32 → St → Prop} (C : Cx X l E RX11 cX11_runners rmM_runners (some .boolean)) (hQ : QI X (wM E a) post) (x1 x2 x3 x4 x5 : Int32) (σ : St) (h : wpM_runners x1 x2 x3 x4 x5 σ post) : G X (wM E a) σ 0 [some (.ref (a 0)), some (.int x1), some (.int x2), some (.int x3), some (.int x4), some (.int x5), none, none] [] := by
  unfold wpM_runners at h
  refine g_aload_0 C dX11_runners_0 rfl ?_
  refine g_iconst_0 C dX11_runners_1 ?_
  refine fpM_X11_106 C dX11_runners_2 ?_
  refine g_iload_1 C dX11_runners_5 rfl ?_
  refine g_iconst_0 C dX11_runners_6 ?_
  refine g_iconst_3 C dX11_runners_7 ?_
  refine csM_X11_109 C h ⟨Nat.le_of_ble_eq_true rfl, Nat.le_of_ble_eq_true rfl⟩ (Nat.le_of_ble_eq_true rfl) dX11_runners_8 (fun _ _ h => ?_)
  refine g_if_eq C 38 dX11_runners_11 (by decide) (fun q => ?_) (fun q => ?_)
  · have h := h.1 q
    exact g_wk (kM_runners_38 C hQ _ h) (trivial)
  · have h := h.2 q
    refine g_iload_2 C dX11_runners_14 rfl ?_
    refine g_iconst_0 C dX11_runners_15 ?_
    refine g_iconst_3 C dX11_runners_16 ?_
    refine csM_X11_109 C h ⟨Nat.le_of_ble_eq_true rfl, Nat.le_of_ble_eq_true rfl⟩ (Nat.le_of_ble_eq_true rfl) dX11_runners_17 (fun _ _ h => ?_)
    refine g_if_eq C 38 dX11_runners_20 (by decide) (fun q => ?_) (fun q => ?_)
    · have h := h.1 q
      exact g_wk (kM_runners_38 C hQ _ h) (trivial)
    · have h := h.2 q
      refine g_iload_3 C dX11_runners_23 rfl ?_
      refine g_bipush C (v := 9) (by decide) dX11_runners_24 ?_
      refine g_icmp_gt C 38 dX11_runners_26 (by decide) (fun q => ?_) (fun q => ?_)
      · have h := h.1 q
        exact g_wk (kM_runners_38 C hQ _ h) (trivial)
      · have h := h.2 q
        refine g_iload_3 C dX11_runners_29 rfl ?_
        refine g_if_ge C 40 dX11_runners_30 (by decide) (fun q => ?_) (fun q => ?_)
        · have h := h.1 q
          exact g_wk (kM_runners_40 C hQ _ _ _ _ _ _ h) (And.intro rfl (And.intro rfl (And.intro rfl (And.intro rfl (And.intro rfl (And.intro rfl (trivial)))))))
        · have h := h.2 q
          refine g_iload_2 C dX11_runners_33 rfl ?_
          refine g_iconst_3 C dX11_runners_34 ?_
          refine g_icmp_eq C 40 dX11_runners_35 (by decide) (fun q => ?_) (fun q => ?_)
          · have h := h.1 q
            exact g_wk (kM_runners_40 C hQ _ _ _ _ _ _ h) (And.intro rfl (And.intro rfl (And.intro rfl (And.intro rfl (And.intro rfl (And.intro rfl (trivial)))))))
          · have h := h.2 q
            exact g_wk (kM_runners_38 C hQ _ h) (trivial)
theorem cM_runners {l : Launch} {E : Ev} {a : Nat → Nat} {x1 x2 x3 x4 x5 : Int32} {σ : St} {post : Int32 → St → Prop} (h : wpM_runners x1 x2 x3 x4 x5 σ post) : CI l E (wM E a) yX11_runners cX11_runners 8 .boolean rmM_runners [.ref (a 0), .int x1, .int x2, .int x3, .int x4, .int x5] σ post := met_i (by decide) rfl (Nat.le_of_ble_eq_true rfl) rfl (fun X C hQ => kM_runners C hQ _ _ _ _ _ _ h)
theorem alM_12 {X : Kx} {l : Launch} {E : Ev} {a : Nat → Nat} {σ : St} {cc : ByteArray} {rm : Room} {ret : Option FieldType} {pc : Nat} {lv : List (Option Value)} {st : List Value} {own : String} {i : Int32} (C : Cx X l E own cc rm ret) (hin : vp_in i 36) (d : decode cc pc = .ok (.iaload, 1)) (k : G X (wM E a) σ (pc + 1) lv (.int (σ.2 12 i.toNatClampNeg) :: st)) : G X (wM E a) σ pc lv (.int i :: .ref (a 13) :: st) := g_iald C (q0 := 10) rfl hin d k
theorem alM_10 {X : Kx} {l : Launch} {E : Ev} {a : Nat → Nat} {σ : St} {cc : ByteArray} {rm : Room} {ret : Option FieldType} {pc : Nat} {lv : List (Option Value)} {st : List Value} {own : String} {i : Int32} (C : Cx X l E own cc rm ret) (hin : vp_in i 4) (d : decode cc pc = .ok (.iaload, 1)) (k : G X (wM E a) σ (pc + 1) lv (.int (σ.2 10 i.toNatClampNeg) :: st)) : G X (wM E a) σ pc lv (.int i :: .ref (a 11) :: st) := g_iald C (q0 := 8) rfl hin d k
/-! IceRunModel.copy(IIIII)I -/
abbrev rmM_copy : Room := { frames := 1, cells := 0, slots := 0, locals := 22 }
def wpM_copy_23 (σ : St) (post : Int32 → St → Prop) : Prop := post (-1) σ
theorem kM_copy_23 {X : Kx} {l : Launch} {E : Ev} {a : Nat → Nat} {post : Int32 → St → Prop} (C : Cx X l E RX11 cX11_copy rmM_copy (some .int)) (hQ : QI X (wM E a) post) (σ : St) (h : wpM_copy_23   σ post) : G X (wM E a) σ 23 [none, none, none, none, none, none, none, none, none] [] := by
  unfold wpM_copy_23 at h
  refine g_iconst_m1 C dX11_copy_23 ?_
  exact g_ireturn C hQ dX11_copy_24 h
def wpM_copy_45 (σ : St) (post : Int32 → St → Prop) : Prop := post (-2) σ
theorem kM_copy_45 {X : Kx} {l : Launch} {E : Ev} {a : Nat → Nat} {post : Int32 → St → Prop} (C : Cx X l E RX11 cX11_copy rmM_copy (some .int)) (hQ : QI X (wM E a) post) (σ : St) (h : wpM_copy_45   σ post) : G X (wM E a) σ 45 [none, none, none, none, none, none, none, none, none] [] := by
  unfold wpM_copy_45 at h
  refine g_bipush C (v := (-2)) (by decide) dX11_copy_45 ?_
  exact g_ireturn C hQ dX11_copy_47 h
def wpM_copy_107 (σ : St) (post : Int32 → St → Prop) : Prop := post (-4) σ
theorem kM_copy_107 {X : Kx} {l : Launch} {E : Ev} {a : Nat → Nat} {post : Int32 → St → Prop} (C : Cx X l E RX11 cX11_copy rmM_copy (some .int)) (hQ : QI X (wM E a) post) (σ : St) (h : wpM_copy_107   σ post) : G X (wM E a) σ 107 [none, none, none, none, none, none, none, none, none] [] := by
  unfold wpM_copy_107 at h
  refine g_bipush C (v := (-4)) (by decide) dX11_copy_107 ?_
  exact g_ireturn C hQ dX11_copy_109 h
def wpM_copy_155 (k_131 : Int32 → Int32 → Int32 → Int32 → Int32 → Int32 → Int32 → St → Prop) (x1 x2 x3 x4 x5 x6 x7 s0 : Int32) (σ : St) (post : Int32 → St → Prop) : Prop := vp_in (((9 * x1) + x2) + s0) 36 ∧ (vp_in (((9 * x3) + x4) + s0) 36 ∧ (let σ1 : St := pA σ 12 (Int32.toNatClampNeg (((9 * x3) + x4) + s0)) (σ.2 12 (Int32.toNatClampNeg (((9 * x1) + x2) + s0))); let y2 : Int32 := x7 + 1; k_131 x1 x2 x3 x4 x5 x6 y2 σ1))
theorem kM_copy_155 {X : Kx} {l : Launch} {E : Ev} {a : Nat → Nat} {post : Int32 → St → Prop} (C : Cx X l E RX11 cX11_copy rmM_copy (some .int)) (hQ : QI X (wM E a) post) (k_131 : Int32 → Int32 → Int32 → Int32 → Int32 → Int32 → Int32 → St → Prop) (hk_131 : ∀ (x1 x2 x3 x4 x5 x6 x7 : Int32) (σ : St), k_131 x1 x2 x3 x4 x5 x6 x7 σ → G X (wM E a) σ 131 [some (.ref (a 0)), some (.int x1), some (.int x2), some (.int x3), some (.int x4), some (.int x5), some (.int x6), some (.int x7), none] []) (x1 x2 x3 x4 x5 x6 x7 s0 : Int32) (σ : St) (h : wpM_copy_155 k_131 x1 x2 x3 x4 x5 x6 x7 s0 σ post) : G X (wM E a) σ 155 [some (.ref (a 0)), some (.int x1), some (.int x2), some (.int x3), some (.int x4), some (.int x5), some (.int x6), some (.int x7), none] [.int s0] := by
  unfold wpM_copy_155 at h
  refine g_istore C dX11_copy_155 (Nat.le_of_ble_eq_true rfl) ?_
  refine g_aload_0 C dX11_copy_157 rfl ?_
  refine fgM_X11_37 C dX11_copy_158 ?_
  refine g_bipush C (v := 9) (by decide) dX11_copy_161 ?_
  refine g_iload_3 C dX11_copy_163 rfl ?_
  refine g_imul C dX11_copy_164 ?_
  refine g_iload C dX11_copy_165 rfl ?_
  refine g_iadd C dX11_copy_167 ?_
  refine g_iload C dX11_copy_168 rfl ?_
  refine g_iadd C dX11_copy_170 ?_
  refine g_aload_0 C dX11_copy_171 rfl ?_
  refine fgM_X11_37 C dX11_copy_172 ?_
  refine g_bipush C (v := 9) (by decide) dX11_copy_175 ?_
  refine g_iload_1 C dX11_copy_177 rfl ?_
  refine g_imul C dX11_copy_178 ?_
  refine g_iload_2 C dX11_copy_179 rfl ?_
  refine g_iadd C dX11_copy_180 ?_
  refine g_iload C dX11_copy_181 rfl ?_
  refine g_iadd C dX11_copy_183 ?_
  obtain ⟨q, h⟩ := h
  refine alM_12 C q dX11_copy_184 ?_
  obtain ⟨q, h⟩ := h
  refine asM_12 C q dX11_copy_185 ?_
  refine g_iinc C (v := 1) (by decide) dX11_copy_186 rfl ?_
  refine g_goto C 131 dX11_copy_189 (by decide) ?_
  exact g_wk (hk_131 _ _ _ _ _ _ _ _ h) (And.intro rfl (And.intro rfl (And.intro rfl (And.intro rfl (And.intro rfl (And.intro rfl (And.intro rfl (And.intro rfl (trivial)))))))))
def wpBM_copy_131 (k_131 : Int32 → Int32 → Int32 → Int32 → Int32 → Int32 → Int32 → St → Prop) (x1 x2 x3 x4 x5 x6 x7 : Int32) (σ : St) (post : Int32 → St → Prop) : Prop := ((x5 ≤ x7 → post x5 σ) ∧ (¬ x5 ≤ x7 → ((x6 = 0 → wpM_copy_155 k_131 x1 x2 x3 x4 x5 x6 x7 x7 σ post) ∧ (¬ x6 = 0 → wpM_copy_155 k_131 x1 x2 x3 x4 x5 x6 x7 ((x5 - 1) - x7) σ post))))
def wpM_copy_131 (x1 x2 x3 x4 x5 x6 x7 : Int32) (σ : St) (post : Int32 → St → Prop) : Prop := ∃ n : Nat, lpN (α := Int32 × Int32 × Int32 × Int32 × Int32 × Int32 × Int32 × St) (fun kb t => wpBM_copy_131 (fun x1 x2 x3 x4 x5 x6 x7 σ => kb (x1, x2, x3, x4, x5, x6, x7, σ)) t.1 t.2.1 t.2.2.1 t.2.2.2.1 t.2.2.2.2.1 t.2.2.2.2.2.1 t.2.2.2.2.2.2.1 t.2.2.2.2.2.2.2 post) n (x1, x2, x3, x4, x5, x6, x7, σ)
theorem kBM_copy_131 {X : Kx} {l : Launch} {E : Ev} {a : Nat → Nat} {post : Int32 → St → Prop} (C : Cx X l E RX11 cX11_copy rmM_copy (some .int)) (hQ : QI X (wM E a) post) (k_131 : Int32 → Int32 → Int32 → Int32 → Int32 → Int32 → Int32 → St → Prop) (hk_131 : ∀ (x1 x2 x3 x4 x5 x6 x7 : Int32) (σ : St), k_131 x1 x2 x3 x4 x5 x6 x7 σ → G X (wM E a) σ 131 [some (.ref (a 0)), some (.int x1), some (.int x2), some (.int x3), some (.int x4), some (.int x5), some (.int x6), some (.int x7), none] []) (x1 x2 x3 x4 x5 x6 x7 : Int32) (σ : St) (h : wpBM_copy_131 k_131 x1 x2 x3 x4 x5 x6 x7 σ post) : G X (wM E a) σ 131 [some (.ref (a 0)), some (.int x1), some (.int x2), some (.int x3), some (.int x4), some (.int x5), some (.int x6), some (.int x7), none] [] := by
  unfold wpBM_copy_131 at h
  refine g_iload C dX11_copy_131 rfl ?_
  refine g_iload C dX11_copy_133 rfl ?_
  refine g_icmp_ge C 192 dX11_copy_135 (by decide) (fun q => ?_) (fun q => ?_)
  · have h := h.1 q
    refine g_iload C dX11_copy_192 rfl ?_
    exact g_ireturn C hQ dX11_copy_194 h
  · have h := h.2 q
    refine g_iload C dX11_copy_138 rfl ?_
    refine g_if_eq C 153 dX11_copy_140 (by decide) (fun q => ?_) (fun q => ?_)
    · have h := h.1 q
      refine g_iload C dX11_copy_153 rfl ?_
      exact g_wk (kM_copy_155 C hQ _ hk_131 _ _ _ _ _ _ _ _ _ h) (And.intro rfl (And.intro rfl (And.intro rfl (And.intro rfl (And.intro rfl (And.intro rfl (And.intro rfl (And.intro rfl (trivial)))))))))
    · have h := h.2 q
      refine g_iload C dX11_copy_143 rfl ?_
      refine g_iconst_1 C dX11_copy_145 ?_
      refine g_isub C dX11_copy_146 ?_
      refine g_iload C dX11_copy_147 rfl ?_
      refine g_isub C dX11_copy_149 ?_
      refine g_goto C 155 dX11_copy_150 (by decide) ?_
      exact g_wk (kM_copy_155 C hQ _ hk_131 _ _ _ _ _ _ _ _ _ h) (And.intro rfl (And.intro rfl (And.intro rfl (And.intro rfl (And.intro rfl (And.intro rfl (And.intro rfl (And.intro rfl (trivial)))))))))
theorem kM_copy_131 {X : Kx} {l : Launch} {E : Ev} {a : Nat → Nat} {post : Int32 → St → Prop} (C : Cx X l E RX11 cX11_copy rmM_copy (some .int)) (hQ : QI X (wM E a) post) (x1 x2 x3 x4 x5 x6 x7 : Int32) (σ : St) (h : wpM_copy_131  x1 x2 x3 x4 x5 x6 x7 σ post) : G X (wM E a) σ 131 [some (.ref (a 0)), some (.int x1), some (.int x2), some (.int x3), some (.int x4), some (.int x5), some (.int x6), some (.int x7), none] [] := by
  obtain ⟨n, h⟩ := h
  exact g_loop (J := fun t : Int32 × Int32 × Int32 × Int32 × Int32 × Int32 × Int32 × St => G X (wM E a) t.2.2.2.2.2.2.2 131 [some (.ref (a 0)), some (.int t.1), some (.int t.2.1), some (.int t.2.2.1), some (.int t.2.2.2.1), some (.int t.2.2.2.2.1), some (.int t.2.2.2.2.2.1), some (.int t.2.2.2.2.2.2.1), none] []) (fun kb hkb t ht => kBM_copy_131 C hQ  (fun x1 x2 x3 x4 x5 x6 x7 σ => kb (x1, x2, x3, x4, x5, x6, x7, σ)) (fun x1 x2 x3 x4 x5 x6 x7 σ hh => hkb (x1, x2, x3, x4, x5, x6, x7, σ) hh) t.1 t.2.1 t.2.2.1 t.2.2.2.1 t.2.2.2.2.1 t.2.2.2.2.2.1 t.2.2.2.2.2.2.1 t.2.2.2.2.2.2.2 ht) n (x1, x2, x3, x4, x5, x6, x7, σ) h
def wpM_copy_126 (x1 x2 x3 x4 x5 s0 : Int32) (σ : St) (post : Int32 → St → Prop) : Prop := wpM_copy_131 x1 x2 x3 x4 x5 s0 0 σ post
theorem kM_copy_126 {X : Kx} {l : Launch} {E : Ev} {a : Nat → Nat} {post : Int32 → St → Prop} (C : Cx X l E RX11 cX11_copy rmM_copy (some .int)) (hQ : QI X (wM E a) post) (x1 x2 x3 x4 x5 s0 : Int32) (σ : St) (h : wpM_copy_126  x1 x2 x3 x4 x5 s0 σ post) : G X (wM E a) σ 126 [some (.ref (a 0)), some (.int x1), some (.int x2), some (.int x3), some (.int x4), some (.int x5), none, none, none] [.int s0] := by
  unfold wpM_copy_126 at h
  refine g_istore C dX11_copy_126 (Nat.le_of_ble_eq_true rfl) ?_
  refine g_iconst_0 C dX11_copy_128 ?_
  refine g_istore C dX11_copy_129 (Nat.le_of_ble_eq_true rfl) ?_
  exact g_wk (kM_copy_131 C hQ _ _ _ _ _ _ _ _ h) (And.intro rfl (And.intro rfl (And.intro rfl (And.intro rfl (And.intro rfl (And.intro rfl (And.intro rfl (And.intro rfl (trivial)))))))))
def wpM_copy_125 (x1 x2 x3 x4 x5 : Int32) (σ : St) (post : Int32 → St → Prop) : Prop := wpM_copy_126 x1 x2 x3 x4 x5 0 σ post
theorem kM_copy_125 {X : Kx} {l : Launch} {E : Ev} {a : Nat → Nat} {post : Int32 → St → Prop} (C : Cx X l E RX11 cX11_copy rmM_copy (some .int)) (hQ : QI X (wM E a) post) (x1 x2 x3 x4 x5 : Int32) (σ : St) (h : wpM_copy_125  x1 x2 x3 x4 x5 σ post) : G X (wM E a) σ 125 [some (.ref (a 0)), some (.int x1), some (.int x2), some (.int x3), some (.int x4), some (.int x5), none, none, none] [] := by
  unfold wpM_copy_125 at h
  refine g_iconst_0 C dX11_copy_125 ?_
  exact g_wk (kM_copy_126 C hQ _ _ _ _ _ _ _ h) (And.intro rfl (And.intro rfl (And.intro rfl (And.intro rfl (And.intro rfl (And.intro rfl (trivial)))))))
def wpM_copy (x1 x2 x3 x4 x5 : Int32) (σ : St) (post : Int32 → St → Prop) : Prop := let σ1 : St := pI σ 0 0; wpM_within x1 0 3 σ1 (fun r3 σ2 => ((r3 = 0 → wpM_copy_23 σ2 post) ∧ (¬ r3 = 0 → wpM_within x3 0 3 σ2 (fun r5 σ4 => ((¬ r5 = 0 → vp_in x1 4 ∧ ((((σ4.2 10 (Int32.toNatClampNeg x1)) = 3 → wpM_copy_45 σ4 post) ∧ (¬ (σ4.2 10 (Int32.toNatClampNeg x1)) = 3 → vp_in x3 4 ∧ (((¬ (σ4.2 10 (Int32.toNatClampNeg x3)) = 3 → vp_in x1 4 ∧ (vp_in x3 4 ∧ ((((σ4.2 10 (Int32.toNatClampNeg x1)) = (σ4.2 10 (Int32.toNatClampNeg x3)) → ((x5 < 0 → wpM_copy_107 σ4 post) ∧ (¬ x5 < 0 → ((x2 < 0 → wpM_copy_107 σ4 post) ∧ (¬ x2 < 0 → ((x4 < 0 → wpM_copy_107 σ4 post) ∧ (¬ x4 < 0 → vp_in x1 4 ∧ (((((σ4.2 11 (Int32.toNatClampNeg x1)) - x5) < x2 → wpM_copy_107 σ4 post) ∧ (¬ ((σ4.2 11 (Int32.toNatClampNeg x1)) - x5) < x2 → vp_in x3 4 ∧ (((x4 ≤ ((σ4.2 11 (Int32.toNatClampNeg x3)) - x5) → ((¬ x1 = x3 → wpM_copy_125 x1 x2 x3 x4 x5 σ4 post) ∧ (x1 = x3 → ((x4 ≤ x2 → wpM_copy_125 x1 x2 x3 x4 x5 σ4 post) ∧ (¬ x4 ≤ x2 → wpM_copy_126 x1 x2 x3 x4 x5 1 σ4 post))))) ∧ (¬ x4 ≤ ((σ4.2 11 (Int32.toNatClampNeg x3)) - x5) → wpM_copy_107 σ4 post))))))))))))) ∧ (¬ (σ4.2 10 (Int32.toNatClampNeg x1)) = (σ4.2 10 (Int32.toNatClampNeg x3)) → post (-3) σ4))))) ∧ ((σ4.2 10 (Int32.toNatClampNeg x3)) = 3 → wpM_copy_45 σ4 post))))))) ∧ (r5 = 0 → wpM_copy_23 σ4 post))))))
theorem kM_copy {X : Kx} {l : Launch} {E : Ev} {a : Nat → Nat} {post : Int32 → St → Prop} (C : Cx X l E RX11 cX11_copy rmM_copy (some .int)) (hQ : QI X (wM E a) post) (x1 x2 x3 x4 x5 : Int32) (σ : St) (h : wpM_copy x1 x2 x3 x4 x5 σ post) : G X (wM E a) σ 0 [some (.ref (a 0)), some (.int x1), some (.int x2), some (.int x3), some (.int x4), some (.int x5), none, none, none] [] := by
  unfold wpM_copy at h
  refine g_aload_0 C dX11_copy_0 rfl ?_
  refine g_iconst_0 C dX11_copy_1 ?_
  refine fpM_X11_106 C dX11_copy_2 ?_
  refine g_iload_1 C dX11_copy_5 rfl ?_
  refine g_iconst_0 C dX11_copy_6 ?_
  refine g_iconst_3 C dX11_copy_7 ?_
  refine csM_X11_109 C h ⟨Nat.le_of_ble_eq_true rfl, Nat.le_of_ble_eq_true rfl⟩ (Nat.le_of_ble_eq_true rfl) dX11_copy_8 (fun _ _ h => ?_)
  refine g_if_eq C 23 dX11_copy_11 (by decide) (fun q => ?_) (fun q => ?_)
  · have h := h.1 q
    exact g_wk (kM_copy_23 C hQ _ h) (trivial)
  · have h := h.2 q
    refine g_iload_3 C dX11_copy_14 rfl ?_
    refine g_iconst_0 C dX11_copy_15 ?_
    refine g_iconst_3 C dX11_copy_16 ?_
    refine csM_X11_109 C h ⟨Nat.le_of_ble_eq_true rfl, Nat.le_of_ble_eq_true rfl⟩ (Nat.le_of_ble_eq_true rfl) dX11_copy_17 (fun _ _ h => ?_)
    refine g_if_ne C 25 dX11_copy_20 (by decide) (fun q => ?_) (fun q => ?_)
    · have h := h.1 q
      refine g_aload_0 C dX11_copy_25 rfl ?_
      refine fgM_X11_31 C dX11_copy_26 ?_
      refine g_iload_1 C dX11_copy_29 rfl ?_
      obtain ⟨q, h⟩ := h
      refine alM_10 C q dX11_copy_30 ?_
      refine g_iconst_3 C dX11_copy_31 ?_
      refine g_icmp_eq C 45 dX11_copy_32 (by decide) (fun q => ?_) (fun q => ?_)
      · have h := h.1 q
        exact g_wk (kM_copy_45 C hQ _ h) (trivial)
      · have h := h.2 q
        refine g_aload_0 C dX11_copy_35 rfl ?_
        refine fgM_X11_31 C dX11_copy_36 ?_
        refine g_iload_3 C dX11_copy_39 rfl ?_
        obtain ⟨q, h⟩ := h
        refine alM_10 C q dX11_copy_40 ?_
        refine g_iconst_3 C dX11_copy_41 ?_
        refine g_icmp_ne C 48 dX11_copy_42 (by decide) (fun q => ?_) (fun q => ?_)
        · have h := h.1 q
          refine g_aload_0 C dX11_copy_48 rfl ?_
          refine fgM_X11_31 C dX11_copy_49 ?_
          refine g_iload_1 C dX11_copy_52 rfl ?_
          obtain ⟨q, h⟩ := h
          refine alM_10 C q dX11_copy_53 ?_
          refine g_aload_0 C dX11_copy_54 rfl ?_
          refine fgM_X11_31 C dX11_copy_55 ?_
          refine g_iload_3 C dX11_copy_58 rfl ?_
          obtain ⟨q, h⟩ := h
          refine alM_10 C q dX11_copy_59 ?_
          refine g_icmp_eq C 66 dX11_copy_60 (by decide) (fun q => ?_) (fun q => ?_)
          · have h := h.1 q
            refine g_iload C dX11_copy_66 rfl ?_
            refine g_if_lt C 107 dX11_copy_68 (by decide) (fun q => ?_) (fun q => ?_)
            · have h := h.1 q
              exact g_wk (kM_copy_107 C hQ _ h) (trivial)
            · have h := h.2 q
              refine g_iload_2 C dX11_copy_71 rfl ?_
              refine g_if_lt C 107 dX11_copy_72 (by decide) (fun q => ?_) (fun q => ?_)
              · have h := h.1 q
                exact g_wk (kM_copy_107 C hQ _ h) (trivial)
              · have h := h.2 q
                refine g_iload C dX11_copy_75 rfl ?_
                refine g_if_lt C 107 dX11_copy_77 (by decide) (fun q => ?_) (fun q => ?_)
                · have h := h.1 q
                  exact g_wk (kM_copy_107 C hQ _ h) (trivial)
                · have h := h.2 q
                  refine g_iload_2 C dX11_copy_80 rfl ?_
                  refine g_aload_0 C dX11_copy_81 rfl ?_
                  refine fgM_X11_34 C dX11_copy_82 ?_
                  refine g_iload_1 C dX11_copy_85 rfl ?_
                  obtain ⟨q, h⟩ := h
                  refine alM_11 C q dX11_copy_86 ?_
                  refine g_iload C dX11_copy_87 rfl ?_
                  refine g_isub C dX11_copy_89 ?_
                  refine g_icmp_gt C 107 dX11_copy_90 (by decide) (fun q => ?_) (fun q => ?_)
                  · have h := h.1 q
                    exact g_wk (kM_copy_107 C hQ _ h) (trivial)
                  · have h := h.2 q
                    refine g_iload C dX11_copy_93 rfl ?_
                    refine g_aload_0 C dX11_copy_95 rfl ?_
                    refine fgM_X11_34 C dX11_copy_96 ?_
                    refine g_iload_3 C dX11_copy_99 rfl ?_
                    obtain ⟨q, h⟩ := h
                    refine alM_11 C q dX11_copy_100 ?_
                    refine g_iload C dX11_copy_101 rfl ?_
                    refine g_isub C dX11_copy_103 ?_
                    refine g_icmp_le C 110 dX11_copy_104 (by decide) (fun q => ?_) (fun q => ?_)
                    · have h := h.1 q
                      refine g_iload_1 C dX11_copy_110 rfl ?_
                      refine g_iload_3 C dX11_copy_111 rfl ?_
                      refine g_icmp_ne C 125 dX11_copy_112 (by decide) (fun q => ?_) (fun q => ?_)
                      · have h := h.1 q
                        exact g_wk (kM_copy_125 C hQ _ _ _ _ _ _ h) (And.intro rfl (And.intro rfl (And.intro rfl (And.intro rfl (And.intro rfl (And.intro rfl (trivial)))))))
                      · have h := h.2 q
                        refine g_iload C dX11_copy_115 rfl ?_
                        refine g_iload_2 C dX11_copy_117 rfl ?_
                        refine g_icmp_le C 125 dX11_copy_118 (by decide) (fun q => ?_) (fun q => ?_)
                        · have h := h.1 q
                          exact g_wk (kM_copy_125 C hQ _ _ _ _ _ _ h) (And.intro rfl (And.intro rfl (And.intro rfl (And.intro rfl (And.intro rfl (And.intro rfl (trivial)))))))
                        · have h := h.2 q
                          refine g_iconst_1 C dX11_copy_121 ?_
                          refine g_goto C 126 dX11_copy_122 (by decide) ?_
                          exact g_wk (kM_copy_126 C hQ _ _ _ _ _ _ _ h) (And.intro rfl (And.intro rfl (And.intro rfl (And.intro rfl (And.intro rfl (And.intro rfl (trivial)))))))
                    · have h := h.2 q
                      exact g_wk (kM_copy_107 C hQ _ h) (trivial)
          · have h := h.2 q
            refine g_bipush C (v := (-3)) (by decide) dX11_copy_63 ?_
            exact g_ireturn C hQ dX11_copy_65 h
        · have h := h.2 q
          exact g_wk (kM_copy_45 C hQ _ h) (trivial)
    · have h := h.2 q
      exact g_wk (kM_copy_23 C hQ _ h) (trivial)
theorem cM_copy {l : Launch} {E : Ev} {a : Nat → Nat} {x1 x2 x3 x4 x5 : Int32} {σ : St} {post : Int32 → St → Prop} (h : wpM_copy x1 x2 x3 x4 x5 σ post) : CI l E (wM E a) yX11_copy cX11_copy 9 .int rmM_copy [.ref (a 0), .int x1, .int x2, .int x3, .int x4, .int x5] σ post := met_i (by decide) rfl (Nat.le_of_ble_eq_true rfl) rfl (fun X C hQ => kM_copy C hQ _ _ _ _ _ _ h)
/-! IceRunModel.glideOf(II)I -/
abbrev rmM_glideOf : Room := { frames := 1, cells := 0, slots := 0, locals := 22 }
def wpM_glideOf_39 (s0 : Int32) (σ : St) (post : Int32 → St → Prop) : Prop := post s0 σ
theorem kM_glideOf_39 {X : Kx} {l : Launch} {E : Ev} {a : Nat → Nat} {post : Int32 → St → Prop} (C : Cx X l E RX11 cX11_glideOf rmM_glideOf (some .int)) (hQ : QI X (wM E a) post) (s0 : Int32) (σ : St) (h : wpM_glideOf_39  s0 σ post) : G X (wM E a) σ 39 [none, none, none, none] [.int s0] := by
  unfold wpM_glideOf_39 at h
  exact g_ireturn C hQ dX11_glideOf_39 h
def wpM_glideOf (x1 x2 : Int32) (σ : St) (post : Int32 → St → Prop) : Prop := let y1 : Int32 := (x2 / 125); vp_in x1 4 ∧ (((y1 < (σ.2 11 (Int32.toNatClampNeg x1)) → vp_in ((9 * x1) + y1) 36 ∧ (wpM_bounded (σ.2 12 (Int32.toNatClampNeg ((9 * x1) + y1))) (-200) 200 σ (fun r3 σ2 => wpM_glideOf_39 r3 σ2 post))) ∧ (¬ y1 < (σ.2 11 (Int32.toNatClampNeg x1)) → wpM_glideOf_39 0 σ post)))
theorem kM_glideOf {X : Kx} {l : Launch} {E : Ev} {a : Nat → Nat} {post : Int32 → St → Prop} (C : Cx X l E RX11 cX11_glideOf rmM_glideOf (some .int)) (hQ : QI X (wM E a) post) (x1 x2 : Int32) (σ : St) (h : wpM_glideOf x1 x2 σ post) : G X (wM E a) σ 0 [some (.ref (a 0)), some (.int x1), some (.int x2), none] [] := by
  unfold wpM_glideOf at h
  refine g_iload_2 C dX11_glideOf_0 rfl ?_
  refine g_bipush C (v := 125) (by decide) dX11_glideOf_1 ?_
  refine g_idiv C (by decide) dX11_glideOf_3 ?_
  refine g_istore_3 C dX11_glideOf_4 (Nat.le_of_ble_eq_true rfl) ?_
  refine g_iload_3 C dX11_glideOf_5 rfl ?_
  refine g_aload_0 C dX11_glideOf_6 rfl ?_
  refine fgM_X11_34 C dX11_glideOf_7 ?_
  refine g_iload_1 C dX11_glideOf_10 rfl ?_
  obtain ⟨q, h⟩ := h
  refine alM_11 C q dX11_glideOf_11 ?_
  refine g_icmp_lt C 19 dX11_glideOf_12 (by decide) (fun q => ?_) (fun q => ?_)
  · have h := h.1 q
    refine g_aload_0 C dX11_glideOf_19 rfl ?_
    refine fgM_X11_37 C dX11_glideOf_20 ?_
    refine g_bipush C (v := 9) (by decide) dX11_glideOf_23 ?_
    refine g_iload_1 C dX11_glideOf_25 rfl ?_
    refine g_imul C dX11_glideOf_26 ?_
    refine g_iload_3 C dX11_glideOf_27 rfl ?_
    refine g_iadd C dX11_glideOf_28 ?_
    obtain ⟨q, h⟩ := h
    refine alM_12 C q dX11_glideOf_29 ?_
    refine g_sipush C (v := (-200)) (by decide) dX11_glideOf_30 ?_
    refine g_sipush C (v := 200) (by decide) dX11_glideOf_33 ?_
    refine csM_X11_131 C h ⟨Nat.le_of_ble_eq_true rfl, Nat.le_of_ble_eq_true rfl⟩ (Nat.le_of_ble_eq_true rfl) dX11_glideOf_36 (fun _ _ h => ?_)
    exact g_wk (kM_glideOf_39 C hQ _ _ h) (trivial)
  · have h := h.2 q
    refine g_iconst_0 C dX11_glideOf_15 ?_
    refine g_goto C 39 dX11_glideOf_16 (by decide) ?_
    exact g_wk (kM_glideOf_39 C hQ _ _ h) (trivial)
theorem cM_glideOf {l : Launch} {E : Ev} {a : Nat → Nat} {x1 x2 : Int32} {σ : St} {post : Int32 → St → Prop} (h : wpM_glideOf x1 x2 σ post) : CI l E (wM E a) yX11_glideOf cX11_glideOf 4 .int rmM_glideOf [.ref (a 0), .int x1, .int x2] σ post := met_i (by decide) rfl (Nat.le_of_ble_eq_true rfl) rfl (fun X C hQ => kM_glideOf C hQ _ _ _ h)
theorem csM_X11_135 {X : Kx} {l : Launch} {E : Ev} {a : Nat → Nat} {σ : St} {cc : ByteArray} {rm : Room} {ret : Option FieldType} {pc : Nat} {lv : List (Option Value)} {rest : List Value} {x0 x1 : Int32} {post : Int32 → St → Prop} (C : Cx X l E RX11 cc rm ret) (h : wpM_glideOf x0 x1 σ post) (hR : 1 + 1 ≤ rm.frames ∧ 8 + (4 + 11) + 22 ≤ rm.locals) (hW : (rest.map fun v => v.category).sum ≤ 8) (d : decode cc pc = .ok (.invokevirtual 135, 3)) (k : ∀ (r : Int32) (u : St), post r u → G X (wM E a) u (pc + 3) lv (.int r :: rest)) : G X (wM E a) σ pc lv (.int x1 :: .int x0 :: .ref (a 0) :: rest) := g_callVi C 2 (As := [.int x0, .int x1]) (rest := rest) (Cn := RX11) (T := TX11) (N := 42) (q0 := 0) (ci := 10) (by decide +kernel) (by decide +kernel) (by decide +kernel) (by decide +kernel) (by decide +kernel) (by decide +kernel) rfl rfl (cM_glideOf h) ⟨rfl, rfl⟩ hR rfl rfl hW d k
/-! IceRunModel.glide(II)I -/
abbrev rmM_glide : Room := { frames := 2, cells := 0, slots := 0, locals := 45 }
def wpM_glide_53 (s0 : Int32) (σ : St) (post : Int32 → St → Prop) : Prop := post s0 σ
theorem kM_glide_53 {X : Kx} {l : Launch} {E : Ev} {a : Nat → Nat} {post : Int32 → St → Prop} (C : Cx X l E RX11 cX11_glide rmM_glide (some .int)) (hQ : QI X (wM E a) post) (s0 : Int32) (σ : St) (h : wpM_glide_53  s0 σ post) : G X (wM E a) σ 53 [none, none, none, none] [.int s0] := by
  unfold wpM_glide_53 at h
  exact g_ireturn C hQ dX11_glide_53 h
def wpM_glide_36 (x1 x2 x3 s1 : Int32) (σ : St) (post : Int32 → St → Prop) : Prop := let σ1 : St := pI σ 0 s1; ((x3 = 0 → wpM_glide_53 0 σ1 post) ∧ (¬ x3 = 0 → wpM_glideOf x1 x2 σ1 (fun r3 σ2 => wpM_glide_53 r3 σ2 post)))
theorem kM_glide_36 {X : Kx} {l : Launch} {E : Ev} {a : Nat → Nat} {post : Int32 → St → Prop} (C : Cx X l E RX11 cX11_glide rmM_glide (some .int)) (hQ : QI X (wM E a) post) (x1 x2 x3 s1 : Int32) (σ : St) (h : wpM_glide_36  x1 x2 x3 s1 σ post) : G X (wM E a) σ 36 [some (.ref (a 0)), some (.int x1), some (.int x2), some (.int x3)] [.int s1, .ref (a 0)] := by
  unfold wpM_glide_36 at h
  refine fpM_X11_106 C dX11_glide_36 ?_
  refine g_iload_3 C dX11_glide_39 rfl ?_
  refine g_if_eq C 52 dX11_glide_40 (by decide) (fun q => ?_) (fun q => ?_)
  · have h := h.1 q
    refine g_iconst_0 C dX11_glide_52 ?_
    exact g_wk (kM_glide_53 C hQ _ _ h) (trivial)
  · have h := h.2 q
    refine g_aload_0 C dX11_glide_43 rfl ?_
    refine g_iload_1 C dX11_glide_44 rfl ?_
    refine g_iload_2 C dX11_glide_45 rfl ?_
    refine csM_X11_135 C h ⟨Nat.le_of_ble_eq_true rfl, Nat.le_of_ble_eq_true rfl⟩ (Nat.le_of_ble_eq_true rfl) dX11_glide_46 (fun _ _ h => ?_)
    refine g_goto C 53 dX11_glide_49 (by decide) ?_
    exact g_wk (kM_glide_53 C hQ _ _ h) (trivial)
def wpM_glide_25 (x1 x2 s0 : Int32) (σ : St) (post : Int32 → St → Prop) : Prop := ((s0 = 0 → wpM_glide_36 x1 x2 s0 1 σ post) ∧ (¬ s0 = 0 → wpM_glide_36 x1 x2 s0 0 σ post))
theorem kM_glide_25 {X : Kx} {l : Launch} {E : Ev} {a : Nat → Nat} {post : Int32 → St → Prop} (C : Cx X l E RX11 cX11_glide rmM_glide (some .int)) (hQ : QI X (wM E a) post) (x1 x2 s0 : Int32) (σ : St) (h : wpM_glide_25  x1 x2 s0 σ post) : G X (wM E a) σ 25 [some (.ref (a 0)), some (.int x1), some (.int x2), none] [.int s0] := by
  unfold wpM_glide_25 at h
  refine g_istore_3 C dX11_glide_25 (Nat.le_of_ble_eq_true rfl) ?_
  refine g_aload_0 C dX11_glide_26 rfl ?_
  refine g_iload_3 C dX11_glide_27 rfl ?_
  refine g_if_eq C 35 dX11_glide_28 (by decide) (fun q => ?_) (fun q => ?_)
  · have h := h.1 q
    refine g_iconst_1 C dX11_glide_35 ?_
    exact g_wk (kM_glide_36 C hQ _ _ _ _ _ h) (And.intro rfl (And.intro rfl (And.intro rfl (And.intro rfl (trivial)))))
  · have h := h.2 q
    refine g_iconst_0 C dX11_glide_31 ?_
    refine g_goto C 36 dX11_glide_32 (by decide) ?_
    exact g_wk (kM_glide_36 C hQ _ _ _ _ _ h) (And.intro rfl (And.intro rfl (And.intro rfl (And.intro rfl (trivial)))))
def wpM_glide_24 (x1 x2 : Int32) (σ : St) (post : Int32 → St → Prop) : Prop := wpM_glide_25 x1 x2 0 σ post
theorem kM_glide_24 {X : Kx} {l : Launch} {E : Ev} {a : Nat → Nat} {post : Int32 → St → Prop} (C : Cx X l E RX11 cX11_glide rmM_glide (some .int)) (hQ : QI X (wM E a) post) (x1 x2 : Int32) (σ : St) (h : wpM_glide_24  x1 x2 σ post) : G X (wM E a) σ 24 [some (.ref (a 0)), some (.int x1), some (.int x2), none] [] := by
  unfold wpM_glide_24 at h
  refine g_iconst_0 C dX11_glide_24 ?_
  exact g_wk (kM_glide_25 C hQ _ _ _ _ h) (And.intro rfl (And.intro rfl (And.intro rfl (trivial))))
def wpM_glide (x1 x2 : Int32) (σ : St) (post : Int32 → St → Prop) : Prop := wpM_within x1 0 3 σ (fun r2 σ1 => ((r2 = 0 → wpM_glide_24 x1 x2 σ1 post) ∧ (¬ r2 = 0 → wpM_within x2 0 1000 σ1 (fun r4 σ3 => ((r4 = 0 → wpM_glide_24 x1 x2 σ3 post) ∧ (¬ r4 = 0 → wpM_glide_25 x1 x2 1 σ3 post))))))
theorem kM_glide {X : Kx} {l : Launch} {E : Ev} {a : Nat → Nat} {post : Int32 → St → Prop} (C : Cx X l E RX11 cX11_glide rmM_glide (some .int)) (hQ : QI X (wM E a) post) (x1 x2 : Int32) (σ : St) (h : wpM_glide x1 x2 σ post) : G X (wM E a) σ 0 [some (.ref (a 0)), some (.int x1), some (.int x2), none] [] := by
  unfold wpM_glide at h
  refine g_iload_1 C dX11_glide_0 rfl ?_
  refine g_iconst_0 C dX11_glide_1 ?_
  refine g_iconst_3 C dX11_glide_2 ?_
  refine csM_X11_109 C h ⟨Nat.le_of_ble_eq_true rfl, Nat.le_of_ble_eq_true rfl⟩ (Nat.le_of_ble_eq_true rfl) dX11_glide_3 (fun _ _ h => ?_)
  refine g_if_eq C 24 dX11_glide_6 (by decide) (fun q => ?_) (fun q => ?_)
  · have h := h.1 q
    exact g_wk (kM_glide_24 C hQ _ _ _ h) (And.intro rfl (And.intro rfl (And.intro rfl (trivial))))
  · have h := h.2 q
    refine g_iload_2 C dX11_glide_9 rfl ?_
    refine g_iconst_0 C dX11_glide_10 ?_
    refine g_sipush C (v := 1000) (by decide) dX11_glide_11 ?_
    refine csM_X11_109 C h ⟨Nat.le_of_ble_eq_true rfl, Nat.le_of_ble_eq_true rfl⟩ (Nat.le_of_ble_eq_true rfl) dX11_glide_14 (fun _ _ h => ?_)
    refine g_if_eq C 24 dX11_glide_17 (by decide) (fun q => ?_) (fun q => ?_)
    · have h := h.1 q
      exact g_wk (kM_glide_24 C hQ _ _ _ h) (And.intro rfl (And.intro rfl (And.intro rfl (trivial))))
    · have h := h.2 q
      refine g_iconst_1 C dX11_glide_20 ?_
      refine g_goto C 25 dX11_glide_21 (by decide) ?_
      exact g_wk (kM_glide_25 C hQ _ _ _ _ h) (And.intro rfl (And.intro rfl (And.intro rfl (trivial))))
theorem cM_glide {l : Launch} {E : Ev} {a : Nat → Nat} {x1 x2 : Int32} {σ : St} {post : Int32 → St → Prop} (h : wpM_glide x1 x2 σ post) : CI l E (wM E a) yX11_glide cX11_glide 4 .int rmM_glide [.ref (a 0), .int x1, .int x2] σ post := met_i (by decide) rfl (Nat.le_of_ble_eq_true rfl) rfl (fun X C hQ => kM_glide C hQ _ _ _ h)
theorem fgM_X11_139 {X : Kx} {l : Launch} {E : Ev} {a : Nat → Nat} {σ : St} {cc : ByteArray} {rm : Room} {ret : Option FieldType} {pc : Nat} {lv : List (Option Value)} {st : List Value} (C : Cx X l E RX11 cc rm ret) (d : decode cc pc = .ok (.getfield 139, 3)) (k : G X (wM E a) σ (pc + 3) lv (.int (σ.1 13) :: st)) : G X (wM E a) σ pc lv (.ref (a 0) :: st) := g_get C (q0 := 0) (ci := 10) (k := 13) rfl rfl inU_X11 (by decide) (by decide +kernel) rfl d k
theorem fgM_X11_40 {X : Kx} {l : Launch} {E : Ev} {a : Nat → Nat} {σ : St} {cc : ByteArray} {rm : Room} {ret : Option FieldType} {pc : Nat} {lv : List (Option Value)} {st : List Value} (C : Cx X l E RX11 cc rm ret) (d : decode cc pc = .ok (.getfield 40, 3)) (k : G X (wM E a) σ (pc + 3) lv (.ref (a 15) :: st)) : G X (wM E a) σ pc lv (.ref (a 0) :: st) := g_get C (q0 := 0) (ci := 10) (k := 14) rfl rfl inU_X11 (by decide) (by decide +kernel) rfl d k
theorem asM_14 {X : Kx} {l : Launch} {E : Ev} {a : Nat → Nat} {σ : St} {cc : ByteArray} {rm : Room} {ret : Option FieldType} {pc : Nat} {lv : List (Option Value)} {st : List Value} {own : String} {i x : Int32} (C : Cx X l E own cc rm ret) (hin : vp_in i 16) (d : decode cc pc = .ok (.iastore, 1)) (k : G X (wM E a) (pA σ 14 i.toNatClampNeg x) (pc + 1) lv st) : G X (wM E a) σ pc lv (.int x :: .int i :: .ref (a 15) :: st) := g_iast C (q0 := 11) rfl rfl hin d k
theorem fgM_X11_43 {X : Kx} {l : Launch} {E : Ev} {a : Nat → Nat} {σ : St} {cc : ByteArray} {rm : Room} {ret : Option FieldType} {pc : Nat} {lv : List (Option Value)} {st : List Value} (C : Cx X l E RX11 cc rm ret) (d : decode cc pc = .ok (.getfield 43, 3)) (k : G X (wM E a) σ (pc + 3) lv (.ref (a 16) :: st)) : G X (wM E a) σ pc lv (.ref (a 0) :: st) := g_get C (q0 := 0) (ci := 10) (k := 15) rfl rfl inU_X11 (by decide) (by decide +kernel) rfl d k
theorem asM_15 {X : Kx} {l : Launch} {E : Ev} {a : Nat → Nat} {σ : St} {cc : ByteArray} {rm : Room} {ret : Option FieldType} {pc : Nat} {lv : List (Option Value)} {st : List Value} {own : String} {i x : Int32} (C : Cx X l E own cc rm ret) (hin : vp_in i 16) (d : decode cc pc = .ok (.iastore, 1)) (k : G X (wM E a) (pA σ 15 i.toNatClampNeg x) (pc + 1) lv st) : G X (wM E a) σ pc lv (.int x :: .int i :: .ref (a 16) :: st) := g_iast C (q0 := 12) rfl rfl hin d k
theorem fgM_X11_46 {X : Kx} {l : Launch} {E : Ev} {a : Nat → Nat} {σ : St} {cc : ByteArray} {rm : Room} {ret : Option FieldType} {pc : Nat} {lv : List (Option Value)} {st : List Value} (C : Cx X l E RX11 cc rm ret) (d : decode cc pc = .ok (.getfield 46, 3)) (k : G X (wM E a) σ (pc + 3) lv (.ref (a 17) :: st)) : G X (wM E a) σ pc lv (.ref (a 0) :: st) := g_get C (q0 := 0) (ci := 10) (k := 16) rfl rfl inU_X11 (by decide) (by decide +kernel) rfl d k
theorem asM_16 {X : Kx} {l : Launch} {E : Ev} {a : Nat → Nat} {σ : St} {cc : ByteArray} {rm : Room} {ret : Option FieldType} {pc : Nat} {lv : List (Option Value)} {st : List Value} {own : String} {i x : Int32} (C : Cx X l E own cc rm ret) (hin : vp_in i 16) (d : decode cc pc = .ok (.iastore, 1)) (k : G X (wM E a) (pA σ 16 i.toNatClampNeg x) (pc + 1) lv st) : G X (wM E a) σ pc lv (.int x :: .int i :: .ref (a 17) :: st) := g_iast C (q0 := 13) rfl rfl hin d k
theorem fgM_X11_49 {X : Kx} {l : Launch} {E : Ev} {a : Nat → Nat} {σ : St} {cc : ByteArray} {rm : Room} {ret : Option FieldType} {pc : Nat} {lv : List (Option Value)} {st : List Value} (C : Cx X l E RX11 cc rm ret) (d : decode cc pc = .ok (.getfield 49, 3)) (k : G X (wM E a) σ (pc + 3) lv (.ref (a 18) :: st)) : G X (wM E a) σ pc lv (.ref (a 0) :: st) := g_get C (q0 := 0) (ci := 10) (k := 17) rfl rfl inU_X11 (by decide) (by decide +kernel) rfl d k
theorem asM_17 {X : Kx} {l : Launch} {E : Ev} {a : Nat → Nat} {σ : St} {cc : ByteArray} {rm : Room} {ret : Option FieldType} {pc : Nat} {lv : List (Option Value)} {st : List Value} {own : String} {i x : Int32} (C : Cx X l E own cc rm ret) (hin : vp_in i 16) (d : decode cc pc = .ok (.iastore, 1)) (k : G X (wM E a) (pA σ 17 i.toNatClampNeg x) (pc + 1) lv st) : G X (wM E a) σ pc lv (.int x :: .int i :: .ref (a 18) :: st) := g_iast C (q0 := 14) rfl rfl hin d k
theorem fpM_X11_139 {X : Kx} {l : Launch} {E : Ev} {a : Nat → Nat} {σ : St} {cc : ByteArray} {rm : Room} {ret : Option FieldType} {pc : Nat} {lv : List (Option Value)} {st : List Value} {v : Int32} (C : Cx X l E RX11 cc rm ret) (d : decode cc pc = .ok (.putfield 139, 3)) (k : G X (wM E a) (pI σ 13 v) (pc + 3) lv st) : G X (wM E a) σ pc lv (.int v :: .ref (a 0) :: st) := g_put C (q0 := 0) (ci := 10) (k := 13) (ty0 := tyX11) rfl rfl inU_X11 (by decide) tyX11_ok nmX11 (by decide +kernel) rfl rfl rfl (Nat.le_of_ble_eq_true rfl) rfl d k
/-! IceRunModel.sled(IIII)I -/
abbrev rmM_sled : Room := { frames := 1, cells := 0, slots := 0, locals := 22 }
def wpM_sled_55 (σ : St) (post : Int32 → St → Prop) : Prop := post (-1) σ
theorem kM_sled_55 {X : Kx} {l : Launch} {E : Ev} {a : Nat → Nat} {post : Int32 → St → Prop} (C : Cx X l E RX11 cX11_sled rmM_sled (some .int)) (hQ : QI X (wM E a) post) (σ : St) (h : wpM_sled_55   σ post) : G X (wM E a) σ 55 [none, none, none, none, none] [] := by
  unfold wpM_sled_55 at h
  refine g_iconst_m1 C dX11_sled_55 ?_
  exact g_ireturn C hQ dX11_sled_56 h
def wpM_sled (x1 x2 x3 x4 : Int32) (σ : St) (post : Int32 → St → Prop) : Prop := let σ1 : St := pI σ 0 0; (((σ1.1 13) = 16 → wpM_sled_55 σ1 post) ∧ (¬ (σ1.1 13) = 16 → wpM_within x1 0 3 σ1 (fun r3 σ2 => ((r3 = 0 → wpM_sled_55 σ2 post) ∧ (¬ r3 = 0 → wpM_within x2 50 200 σ2 (fun r5 σ4 => ((r5 = 0 → wpM_sled_55 σ4 post) ∧ (¬ r5 = 0 → wpM_within x3 0 3 σ4 (fun r7 σ6 => ((r7 = 0 → wpM_sled_55 σ6 post) ∧ (¬ r7 = 0 → wpM_within x4 0 9 σ6 (fun r9 σ8 => ((¬ r9 = 0 → vp_in (σ8.1 13) 16 ∧ (let σ10 : St := pA σ8 14 (Int32.toNatClampNeg (σ8.1 13)) x1; vp_in (σ10.1 13) 16 ∧ (let σ11 : St := pA σ10 15 (Int32.toNatClampNeg (σ10.1 13)) x2; vp_in (σ11.1 13) 16 ∧ (let σ12 : St := pA σ11 16 (Int32.toNatClampNeg (σ11.1 13)) x3; vp_in (σ12.1 13) 16 ∧ (let σ13 : St := pA σ12 17 (Int32.toNatClampNeg (σ12.1 13)) x4; let σ14 : St := pI σ13 13 ((σ13.1 13) + 1); post ((σ14.1 13) - 1) σ14))))) ∧ (r9 = 0 → wpM_sled_55 σ8 post))))))))))))))
theorem kM_sled {X : Kx} {l : Launch} {E : Ev} {a : Nat → Nat} {post : Int32 → St → Prop} (C : Cx X l E RX11 cX11_sled rmM_sled (some .int)) (hQ : QI X (wM E a) post) (x1 x2 x3 x4 : Int32) (σ : St) (h : wpM_sled x1 x2 x3 x4 σ post) : G X (wM E a) σ 0 [some (.ref (a 0)), some (.int x1), some (.int x2), some (.int x3), some (.int x4)] [] := by
  unfold wpM_sled at h
  refine g_aload_0 C dX11_sled_0 rfl ?_
  refine g_iconst_0 C dX11_sled_1 ?_
  refine fpM_X11_106 C dX11_sled_2 ?_
  refine g_aload_0 C dX11_sled_5 rfl ?_
  refine fgM_X11_139 C dX11_sled_6 ?_
  refine g_bipush C (v := 16) (by decide) dX11_sled_9 ?_
  refine g_icmp_eq C 55 dX11_sled_11 (by decide) (fun q => ?_) (fun q => ?_)
  · have h := h.1 q
    exact g_wk (kM_sled_55 C hQ _ h) (trivial)
  · have h := h.2 q
    refine g_iload_1 C dX11_sled_14 rfl ?_
    refine g_iconst_0 C dX11_sled_15 ?_
    refine g_iconst_3 C dX11_sled_16 ?_
    refine csM_X11_109 C h ⟨Nat.le_of_ble_eq_true rfl, Nat.le_of_ble_eq_true rfl⟩ (Nat.le_of_ble_eq_true rfl) dX11_sled_17 (fun _ _ h => ?_)
    refine g_if_eq C 55 dX11_sled_20 (by decide) (fun q => ?_) (fun q => ?_)
    · have h := h.1 q
      exact g_wk (kM_sled_55 C hQ _ h) (trivial)
    · have h := h.2 q
      refine g_iload_2 C dX11_sled_23 rfl ?_
      refine g_bipush C (v := 50) (by decide) dX11_sled_24 ?_
      refine g_sipush C (v := 200) (by decide) dX11_sled_26 ?_
      refine csM_X11_109 C h ⟨Nat.le_of_ble_eq_true rfl, Nat.le_of_ble_eq_true rfl⟩ (Nat.le_of_ble_eq_true rfl) dX11_sled_29 (fun _ _ h => ?_)
      refine g_if_eq C 55 dX11_sled_32 (by decide) (fun q => ?_) (fun q => ?_)
      · have h := h.1 q
        exact g_wk (kM_sled_55 C hQ _ h) (trivial)
      · have h := h.2 q
        refine g_iload_3 C dX11_sled_35 rfl ?_
        refine g_iconst_0 C dX11_sled_36 ?_
        refine g_iconst_3 C dX11_sled_37 ?_
        refine csM_X11_109 C h ⟨Nat.le_of_ble_eq_true rfl, Nat.le_of_ble_eq_true rfl⟩ (Nat.le_of_ble_eq_true rfl) dX11_sled_38 (fun _ _ h => ?_)
        refine g_if_eq C 55 dX11_sled_41 (by decide) (fun q => ?_) (fun q => ?_)
        · have h := h.1 q
          exact g_wk (kM_sled_55 C hQ _ h) (trivial)
        · have h := h.2 q
          refine g_iload C dX11_sled_44 rfl ?_
          refine g_iconst_0 C dX11_sled_46 ?_
          refine g_bipush C (v := 9) (by decide) dX11_sled_47 ?_
          refine csM_X11_109 C h ⟨Nat.le_of_ble_eq_true rfl, Nat.le_of_ble_eq_true rfl⟩ (Nat.le_of_ble_eq_true rfl) dX11_sled_49 (fun _ _ h => ?_)
          refine g_if_ne C 57 dX11_sled_52 (by decide) (fun q => ?_) (fun q => ?_)
          · have h := h.1 q
            refine g_aload_0 C dX11_sled_57 rfl ?_
            refine fgM_X11_40 C dX11_sled_58 ?_
            refine g_aload_0 C dX11_sled_61 rfl ?_
            refine fgM_X11_139 C dX11_sled_62 ?_
            refine g_iload_1 C dX11_sled_65 rfl ?_
            obtain ⟨q, h⟩ := h
            refine asM_14 C q dX11_sled_66 ?_
            refine g_aload_0 C dX11_sled_67 rfl ?_
            refine fgM_X11_43 C dX11_sled_68 ?_
            refine g_aload_0 C dX11_sled_71 rfl ?_
            refine fgM_X11_139 C dX11_sled_72 ?_
            refine g_iload_2 C dX11_sled_75 rfl ?_
            obtain ⟨q, h⟩ := h
            refine asM_15 C q dX11_sled_76 ?_
            refine g_aload_0 C dX11_sled_77 rfl ?_
            refine fgM_X11_46 C dX11_sled_78 ?_
            refine g_aload_0 C dX11_sled_81 rfl ?_
            refine fgM_X11_139 C dX11_sled_82 ?_
            refine g_iload_3 C dX11_sled_85 rfl ?_
            obtain ⟨q, h⟩ := h
            refine asM_16 C q dX11_sled_86 ?_
            refine g_aload_0 C dX11_sled_87 rfl ?_
            refine fgM_X11_49 C dX11_sled_88 ?_
            refine g_aload_0 C dX11_sled_91 rfl ?_
            refine fgM_X11_139 C dX11_sled_92 ?_
            refine g_iload C dX11_sled_95 rfl ?_
            obtain ⟨q, h⟩ := h
            refine asM_17 C q dX11_sled_97 ?_
            refine g_aload_0 C dX11_sled_98 rfl ?_
            refine g_dup C dX11_sled_99 rfl ?_
            refine fgM_X11_139 C dX11_sled_100 ?_
            refine g_iconst_1 C dX11_sled_103 ?_
            refine g_iadd C dX11_sled_104 ?_
            refine fpM_X11_139 C dX11_sled_105 ?_
            refine g_aload_0 C dX11_sled_108 rfl ?_
            refine fgM_X11_139 C dX11_sled_109 ?_
            refine g_iconst_1 C dX11_sled_112 ?_
            refine g_isub C dX11_sled_113 ?_
            exact g_ireturn C hQ dX11_sled_114 h
          · have h := h.2 q
            exact g_wk (kM_sled_55 C hQ _ h) (trivial)
theorem cM_sled {l : Launch} {E : Ev} {a : Nat → Nat} {x1 x2 x3 x4 : Int32} {σ : St} {post : Int32 → St → Prop} (h : wpM_sled x1 x2 x3 x4 σ post) : CI l E (wM E a) yX11_sled cX11_sled 5 .int rmM_sled [.ref (a 0), .int x1, .int x2, .int x3, .int x4] σ post := met_i (by decide) rfl (Nat.le_of_ble_eq_true rfl) rfl (fun X C hQ => kM_sled C hQ _ _ _ _ _ h)
/-! IceRunModel.timeOf(IIII)I -/
abbrev rmM_timeOf : Room := { frames := 2, cells := 0, slots := 0, locals := 45 }
def wpM_timeOf_73 (s0 : Int32) (σ : St) (post : Int32 → St → Prop) : Prop := post s0 σ
theorem kM_timeOf_73 {X : Kx} {l : Launch} {E : Ev} {a : Nat → Nat} {post : Int32 → St → Prop} (C : Cx X l E RX11 cX11_timeOf rmM_timeOf (some .int)) (hQ : QI X (wM E a) post) (s0 : Int32) (σ : St) (h : wpM_timeOf_73  s0 σ post) : G X (wM E a) σ 73 [none, none, none, none, none, none] [.int s0] := by
  unfold wpM_timeOf_73 at h
  exact g_ireturn C hQ dX11_timeOf_73 h
def wpM_timeOf (x1 x2 x3 x4 : Int32) (σ : St) (post : Int32 → St → Prop) : Prop := vp_in x1 40 ∧ (vp_in x1 40 ∧ (vp_in x1 40 ∧ (vp_in x1 40 ∧ (wpM_glideOf x3 (σ.2 6 (Int32.toNatClampNeg x1)) σ (fun r2 σ1 => vp_in x1 40 ∧ (let y3 : Int32 := ((((((σ.2 3 (Int32.toNatClampNeg x1)) + ((1000 - (σ.2 6 (Int32.toNatClampNeg x1))) / 8)) + (2 * (σ.2 7 (Int32.toNatClampNeg x1)))) + r2) + ((9 - x4) * (σ1.2 4 (Int32.toNatClampNeg x1)))) - (x2 / 8)); ((1 ≤ y3 → wpM_timeOf_73 y3 σ1 post) ∧ (¬ 1 ≤ y3 → wpM_timeOf_73 1 σ1 post))))))))
theorem kM_timeOf {X : Kx} {l : Launch} {E : Ev} {a : Nat → Nat} {post : Int32 → St → Prop} (C : Cx X l E RX11 cX11_timeOf rmM_timeOf (some .int)) (hQ : QI X (wM E a) post) (x1 x2 x3 x4 : Int32) (σ : St) (h : wpM_timeOf x1 x2 x3 x4 σ post) : G X (wM E a) σ 0 [some (.ref (a 0)), some (.int x1), some (.int x2), some (.int x3), some (.int x4), none] [] := by
  unfold wpM_timeOf at h
  refine g_aload_0 C dX11_timeOf_0 rfl ?_
  refine fgM_X11_7 C dX11_timeOf_1 ?_
  refine g_iload_1 C dX11_timeOf_4 rfl ?_
  obtain ⟨q, h⟩ := h
  refine alM_3 C q dX11_timeOf_5 ?_
  refine g_sipush C (v := 1000) (by decide) dX11_timeOf_6 ?_
  refine g_aload_0 C dX11_timeOf_9 rfl ?_
  refine fgM_X11_19 C dX11_timeOf_10 ?_
  refine g_iload_1 C dX11_timeOf_13 rfl ?_
  obtain ⟨q, h⟩ := h
  refine alM_6 C q dX11_timeOf_14 ?_
  refine g_isub C dX11_timeOf_15 ?_
  refine g_bipush C (v := 8) (by decide) dX11_timeOf_16 ?_
  refine g_idiv C (by decide) dX11_timeOf_18 ?_
  refine g_iadd C dX11_timeOf_19 ?_
  refine g_iconst_2 C dX11_timeOf_20 ?_
  refine g_aload_0 C dX11_timeOf_21 rfl ?_
  refine fgM_X11_22 C dX11_timeOf_22 ?_
  refine g_iload_1 C dX11_timeOf_25 rfl ?_
  obtain ⟨q, h⟩ := h
  refine alM_7 C q dX11_timeOf_26 ?_
  refine g_imul C dX11_timeOf_27 ?_
  refine g_iadd C dX11_timeOf_28 ?_
  refine g_aload_0 C dX11_timeOf_29 rfl ?_
  refine g_iload_3 C dX11_timeOf_30 rfl ?_
  refine g_aload_0 C dX11_timeOf_31 rfl ?_
  refine fgM_X11_19 C dX11_timeOf_32 ?_
  refine g_iload_1 C dX11_timeOf_35 rfl ?_
  obtain ⟨q, h⟩ := h
  refine alM_6 C q dX11_timeOf_36 ?_
  refine csM_X11_135 C h ⟨Nat.le_of_ble_eq_true rfl, Nat.le_of_ble_eq_true rfl⟩ (Nat.le_of_ble_eq_true rfl) dX11_timeOf_37 (fun _ _ h => ?_)
  refine g_iadd C dX11_timeOf_40 ?_
  refine g_bipush C (v := 9) (by decide) dX11_timeOf_41 ?_
  refine g_iload C dX11_timeOf_43 rfl ?_
  refine g_isub C dX11_timeOf_45 ?_
  refine g_aload_0 C dX11_timeOf_46 rfl ?_
  refine fgM_X11_13 C dX11_timeOf_47 ?_
  refine g_iload_1 C dX11_timeOf_50 rfl ?_
  obtain ⟨q, h⟩ := h
  refine alM_4 C q dX11_timeOf_51 ?_
  refine g_imul C dX11_timeOf_52 ?_
  refine g_iadd C dX11_timeOf_53 ?_
  refine g_iload_2 C dX11_timeOf_54 rfl ?_
  refine g_bipush C (v := 8) (by decide) dX11_timeOf_55 ?_
  refine g_idiv C (by decide) dX11_timeOf_57 ?_
  refine g_isub C dX11_timeOf_58 ?_
  refine g_istore C dX11_timeOf_59 (Nat.le_of_ble_eq_true rfl) ?_
  refine g_iload C dX11_timeOf_61 rfl ?_
  refine g_iconst_1 C dX11_timeOf_63 ?_
  refine g_icmp_ge C 71 dX11_timeOf_64 (by decide) (fun q => ?_) (fun q => ?_)
  · have h := h.1 q
    refine g_iload C dX11_timeOf_71 rfl ?_
    exact g_wk (kM_timeOf_73 C hQ _ _ h) (trivial)
  · have h := h.2 q
    refine g_iconst_1 C dX11_timeOf_67 ?_
    refine g_goto C 73 dX11_timeOf_68 (by decide) ?_
    exact g_wk (kM_timeOf_73 C hQ _ _ h) (trivial)
theorem cM_timeOf {l : Launch} {E : Ev} {a : Nat → Nat} {x1 x2 x3 x4 : Int32} {σ : St} {post : Int32 → St → Prop} (h : wpM_timeOf x1 x2 x3 x4 σ post) : CI l E (wM E a) yX11_timeOf cX11_timeOf 6 .int rmM_timeOf [.ref (a 0), .int x1, .int x2, .int x3, .int x4] σ post := met_i (by decide) rfl (Nat.le_of_ble_eq_true rfl) rfl (fun X C hQ => kM_timeOf C hQ _ _ _ _ _ h)
theorem csM_X11_142 {X : Kx} {l : Launch} {E : Ev} {a : Nat → Nat} {σ : St} {cc : ByteArray} {rm : Room} {ret : Option FieldType} {pc : Nat} {lv : List (Option Value)} {rest : List Value} {x0 x1 x2 x3 : Int32} {post : Int32 → St → Prop} (C : Cx X l E RX11 cc rm ret) (h : wpM_timeOf x0 x1 x2 x3 σ post) (hR : 2 + 1 ≤ rm.frames ∧ 8 + (6 + 11) + 45 ≤ rm.locals) (hW : (rest.map fun v => v.category).sum ≤ 8) (d : decode cc pc = .ok (.invokevirtual 142, 3)) (k : ∀ (r : Int32) (u : St), post r u → G X (wM E a) u (pc + 3) lv (.int r :: rest)) : G X (wM E a) σ pc lv (.int x3 :: .int x2 :: .int x1 :: .int x0 :: .ref (a 0) :: rest) := g_callVi C 4 (As := [.int x0, .int x1, .int x2, .int x3]) (rest := rest) (Cn := RX11) (T := TX11) (N := 42) (q0 := 0) (ci := 10) (by decide +kernel) (by decide +kernel) (by decide +kernel) (by decide +kernel) (by decide +kernel) (by decide +kernel) rfl rfl (cM_timeOf h) ⟨rfl, rfl⟩ hR rfl rfl hW d k
/-! IceRunModel.standard()I -/
abbrev rmM_standard : Room := { frames := 3, cells := 0, slots := 0, locals := 70 }
def wpBM_standard_9 (k_9 : Int32 → Int32 → St → Prop) (x1 x2 : Int32) (σ : St) (post : Int32 → St → Prop) : Prop := (((σ.1 1) ≤ x2 → post x1 σ) ∧ (¬ (σ.1 1) ≤ x2 → wpM_timeOf x2 100 0 5 σ (fun r2 σ1 => let y3 : Int32 := (x1 + r2); let y4 : Int32 := x2 + 1; k_9 y3 y4 σ1)))
def wpM_standard_9 (x1 x2 : Int32) (σ : St) (post : Int32 → St → Prop) : Prop := ∃ n : Nat, lpN (α := Int32 × Int32 × St) (fun kb t => wpBM_standard_9 (fun x1 x2 σ => kb (x1, x2, σ)) t.1 t.2.1 t.2.2 post) n (x1, x2, σ)
theorem kBM_standard_9 {X : Kx} {l : Launch} {E : Ev} {a : Nat → Nat} {post : Int32 → St → Prop} (C : Cx X l E RX11 cX11_standard rmM_standard (some .int)) (hQ : QI X (wM E a) post) (k_9 : Int32 → Int32 → St → Prop) (hk_9 : ∀ (x1 x2 : Int32) (σ : St), k_9 x1 x2 σ → G X (wM E a) σ 9 [some (.ref (a 0)), some (.int x1), some (.int x2)] []) (x1 x2 : Int32) (σ : St) (h : wpBM_standard_9 k_9 x1 x2 σ post) : G X (wM E a) σ 9 [some (.ref (a 0)), some (.int x1), some (.int x2)] [] := by
  unfold wpBM_standard_9 at h
  refine g_iload_2 C dX11_standard_9 rfl ?_
  refine g_aload_0 C dX11_standard_10 rfl ?_
  refine fgM_X11_117 C dX11_standard_11 ?_
  refine g_icmp_ge C 35 dX11_standard_14 (by decide) (fun q => ?_) (fun q => ?_)
  · have h := h.1 q
    refine g_iload_1 C dX11_standard_35 rfl ?_
    exact g_ireturn C hQ dX11_standard_36 h
  · have h := h.2 q
    refine g_iload_1 C dX11_standard_17 rfl ?_
    refine g_aload_0 C dX11_standard_18 rfl ?_
    refine g_iload_2 C dX11_standard_19 rfl ?_
    refine g_bipush C (v := 100) (by decide) dX11_standard_20 ?_
    refine g_iconst_0 C dX11_standard_22 ?_
    refine g_iconst_5 C dX11_standard_23 ?_
    refine csM_X11_142 C h ⟨Nat.le_of_ble_eq_true rfl, Nat.le_of_ble_eq_true rfl⟩ (Nat.le_of_ble_eq_true rfl) dX11_standard_24 (fun _ _ h => ?_)
    refine g_iadd C dX11_standard_27 ?_
    refine g_istore_1 C dX11_standard_28 (Nat.le_of_ble_eq_true rfl) ?_
    refine g_iinc C (v := 1) (by decide) dX11_standard_29 rfl ?_
    refine g_goto C 9 dX11_standard_32 (by decide) ?_
    exact g_wk (hk_9 _ _ _ h) (And.intro rfl (And.intro rfl (And.intro rfl (trivial))))
theorem kM_standard_9 {X : Kx} {l : Launch} {E : Ev} {a : Nat → Nat} {post : Int32 → St → Prop} (C : Cx X l E RX11 cX11_standard rmM_standard (some .int)) (hQ : QI X (wM E a) post) (x1 x2 : Int32) (σ : St) (h : wpM_standard_9  x1 x2 σ post) : G X (wM E a) σ 9 [some (.ref (a 0)), some (.int x1), some (.int x2)] [] := by
  obtain ⟨n, h⟩ := h
  exact g_loop (J := fun t : Int32 × Int32 × St => G X (wM E a) t.2.2 9 [some (.ref (a 0)), some (.int t.1), some (.int t.2.1)] []) (fun kb hkb t ht => kBM_standard_9 C hQ  (fun x1 x2 σ => kb (x1, x2, σ)) (fun x1 x2 σ hh => hkb (x1, x2, σ) hh) t.1 t.2.1 t.2.2 ht) n (x1, x2, σ) h
def wpM_standard (σ : St) (post : Int32 → St → Prop) : Prop := let σ1 : St := pI σ 0 0; wpM_standard_9 0 0 σ1 post
theorem kM_standard {X : Kx} {l : Launch} {E : Ev} {a : Nat → Nat} {post : Int32 → St → Prop} (C : Cx X l E RX11 cX11_standard rmM_standard (some .int)) (hQ : QI X (wM E a) post) (σ : St) (h : wpM_standard  σ post) : G X (wM E a) σ 0 [some (.ref (a 0)), none, none] [] := by
  unfold wpM_standard at h
  refine g_aload_0 C dX11_standard_0 rfl ?_
  refine g_iconst_0 C dX11_standard_1 ?_
  refine fpM_X11_106 C dX11_standard_2 ?_
  refine g_iconst_0 C dX11_standard_5 ?_
  refine g_istore_1 C dX11_standard_6 (Nat.le_of_ble_eq_true rfl) ?_
  refine g_iconst_0 C dX11_standard_7 ?_
  refine g_istore_2 C dX11_standard_8 (Nat.le_of_ble_eq_true rfl) ?_
  exact g_wk (kM_standard_9 C hQ _ _ _ h) (And.intro rfl (And.intro rfl (And.intro rfl (trivial))))
theorem cM_standard {l : Launch} {E : Ev} {a : Nat → Nat} {σ : St} {post : Int32 → St → Prop} (h : wpM_standard  σ post) : CI l E (wM E a) yX11_standard cX11_standard 3 .int rmM_standard [.ref (a 0)] σ post := met_i (by decide) rfl (Nat.le_of_ble_eq_true rfl) rfl (fun X C hQ => kM_standard C hQ _ h)
theorem fgM_X11_61 {X : Kx} {l : Launch} {E : Ev} {a : Nat → Nat} {σ : St} {cc : ByteArray} {rm : Room} {ret : Option FieldType} {pc : Nat} {lv : List (Option Value)} {st : List Value} (C : Cx X l E RX11 cc rm ret) (d : decode cc pc = .ok (.getfield 61, 3)) (k : G X (wM E a) σ (pc + 3) lv (.ref (a 22) :: st)) : G X (wM E a) σ pc lv (.ref (a 0) :: st) := g_get C (q0 := 0) (ci := 10) (k := 21) rfl rfl inU_X11 (by decide) (by decide +kernel) rfl d k
theorem fgM_X11_146 {X : Kx} {l : Launch} {E : Ev} {a : Nat → Nat} {σ : St} {cc : ByteArray} {rm : Room} {ret : Option FieldType} {pc : Nat} {lv : List (Option Value)} {st : List Value} (C : Cx X l E RX11 cc rm ret) (d : decode cc pc = .ok (.getfield 146, 3)) (k : G X (wM E a) σ (pc + 3) lv (.int (σ.1 22) :: st)) : G X (wM E a) σ pc lv (.ref (a 0) :: st) := g_get C (q0 := 0) (ci := 10) (k := 22) rfl rfl inU_X11 (by decide) (by decide +kernel) rfl d k
theorem asM_21 {X : Kx} {l : Launch} {E : Ev} {a : Nat → Nat} {σ : St} {cc : ByteArray} {rm : Room} {ret : Option FieldType} {pc : Nat} {lv : List (Option Value)} {st : List Value} {own : String} {i x : Int32} (C : Cx X l E own cc rm ret) (hin : vp_in i 300) (d : decode cc pc = .ok (.bastore, 1)) (k : G X (wM E a) (pA σ 21 i.toNatClampNeg (vp_nar .byte x)) (pc + 1) lv st) : G X (wM E a) σ pc lv (.int x :: .int i :: .ref (a 22) :: st) := g_bast C (q0 := 18) rfl rfl hin d k
theorem fpM_X11_146 {X : Kx} {l : Launch} {E : Ev} {a : Nat → Nat} {σ : St} {cc : ByteArray} {rm : Room} {ret : Option FieldType} {pc : Nat} {lv : List (Option Value)} {st : List Value} {v : Int32} (C : Cx X l E RX11 cc rm ret) (d : decode cc pc = .ok (.putfield 146, 3)) (k : G X (wM E a) (pI σ 22 v) (pc + 3) lv st) : G X (wM E a) σ pc lv (.int v :: .ref (a 0) :: st) := g_put C (q0 := 0) (ci := 10) (k := 22) (ty0 := tyX11) rfl rfl inU_X11 (by decide) tyX11_ok nmX11 (by decide +kernel) rfl rfl rfl (Nat.le_of_ble_eq_true rfl) rfl d k
/-! IceRunModel.feed(IIIII)I -/
abbrev rmM_feed : Room := { frames := 0, cells := 0, slots := 0, locals := 0 }
def wpM_feed_73 (k_20 : Int32 → Int32 → Int32 → Int32 → Int32 → Int32 → St → Prop) (x1 x2 x3 x4 x5 x6 s0 : Int32) (σ : St) (post : Int32 → St → Prop) : Prop := vp_in (σ.1 22) 300 ∧ (let σ1 : St := pA σ 21 (Int32.toNatClampNeg (σ.1 22)) (vp_nar .byte ((Int32.toInt8 (s0 >>> ((24 - (8 * (x6 - x6 / 4 * 4))) &&& 31))).toInt32)); let σ2 : St := pI σ1 22 ((σ1.1 22) + 1); let y3 : Int32 := x6 + 1; k_20 x1 x2 x3 x4 x5 y3 σ2)
theorem kM_feed_73 {X : Kx} {l : Launch} {E : Ev} {a : Nat → Nat} {post : Int32 → St → Prop} (C : Cx X l E RX11 cX11_feed rmM_feed (some .int)) (hQ : QI X (wM E a) post) (k_20 : Int32 → Int32 → Int32 → Int32 → Int32 → Int32 → St → Prop) (hk_20 : ∀ (x1 x2 x3 x4 x5 x6 : Int32) (σ : St), k_20 x1 x2 x3 x4 x5 x6 σ → G X (wM E a) σ 20 [some (.ref (a 0)), some (.int x1), some (.int x2), some (.int x3), some (.int x4), some (.int x5), some (.int x6), none] []) (x1 x2 x3 x4 x5 x6 s0 : Int32) (σ : St) (h : wpM_feed_73 k_20 x1 x2 x3 x4 x5 x6 s0 σ post) : G X (wM E a) σ 73 [some (.ref (a 0)), some (.int x1), some (.int x2), some (.int x3), some (.int x4), some (.int x5), some (.int x6), none] [.int s0] := by
  unfold wpM_feed_73 at h
  refine g_istore C dX11_feed_73 (Nat.le_of_ble_eq_true rfl) ?_
  refine g_aload_0 C dX11_feed_75 rfl ?_
  refine fgM_X11_61 C dX11_feed_76 ?_
  refine g_aload_0 C dX11_feed_79 rfl ?_
  refine fgM_X11_146 C dX11_feed_80 ?_
  refine g_iload C dX11_feed_83 rfl ?_
  refine g_bipush C (v := 24) (by decide) dX11_feed_85 ?_
  refine g_bipush C (v := 8) (by decide) dX11_feed_87 ?_
  refine g_iload C dX11_feed_89 rfl ?_
  refine g_iconst_4 C dX11_feed_91 ?_
  refine g_irem C (by decide) dX11_feed_92 ?_
  refine g_imul C dX11_feed_93 ?_
  refine g_isub C dX11_feed_94 ?_
  refine g_ishr C dX11_feed_95 ?_
  refine g_i2b C dX11_feed_96 ?_
  obtain ⟨q, h⟩ := h
  refine asM_21 C q dX11_feed_97 ?_
  refine g_aload_0 C dX11_feed_98 rfl ?_
  refine g_dup C dX11_feed_99 rfl ?_
  refine fgM_X11_146 C dX11_feed_100 ?_
  refine g_iconst_1 C dX11_feed_103 ?_
  refine g_iadd C dX11_feed_104 ?_
  refine fpM_X11_146 C dX11_feed_105 ?_
  refine g_iinc C (v := 1) (by decide) dX11_feed_108 rfl ?_
  refine g_goto C 20 dX11_feed_111 (by decide) ?_
  exact g_wk (hk_20 _ _ _ _ _ _ _ h) (And.intro rfl (And.intro rfl (And.intro rfl (And.intro rfl (And.intro rfl (And.intro rfl (And.intro rfl (trivial))))))))
def wpBM_feed_20 (k_20 : Int32 → Int32 → Int32 → Int32 → Int32 → Int32 → St → Prop) (x1 x2 x3 x4 x5 x6 : Int32) (σ : St) (post : Int32 → St → Prop) : Prop := ((20 ≤ x6 → post (σ.1 22) σ) ∧ (¬ 20 ≤ x6 → ((4 ≤ x6 → ((8 ≤ x6 → ((12 ≤ x6 → ((16 ≤ x6 → wpM_feed_73 k_20 x1 x2 x3 x4 x5 x6 x5 σ post) ∧ (¬ 16 ≤ x6 → wpM_feed_73 k_20 x1 x2 x3 x4 x5 x6 x4 σ post))) ∧ (¬ 12 ≤ x6 → wpM_feed_73 k_20 x1 x2 x3 x4 x5 x6 x3 σ post))) ∧ (¬ 8 ≤ x6 → wpM_feed_73 k_20 x1 x2 x3 x4 x5 x6 x2 σ post))) ∧ (¬ 4 ≤ x6 → wpM_feed_73 k_20 x1 x2 x3 x4 x5 x6 x1 σ post))))
def wpM_feed_20 (x1 x2 x3 x4 x5 x6 : Int32) (σ : St) (post : Int32 → St → Prop) : Prop := ∃ n : Nat, lpN (α := Int32 × Int32 × Int32 × Int32 × Int32 × Int32 × St) (fun kb t => wpBM_feed_20 (fun x1 x2 x3 x4 x5 x6 σ => kb (x1, x2, x3, x4, x5, x6, σ)) t.1 t.2.1 t.2.2.1 t.2.2.2.1 t.2.2.2.2.1 t.2.2.2.2.2.1 t.2.2.2.2.2.2 post) n (x1, x2, x3, x4, x5, x6, σ)
theorem kBM_feed_20 {X : Kx} {l : Launch} {E : Ev} {a : Nat → Nat} {post : Int32 → St → Prop} (C : Cx X l E RX11 cX11_feed rmM_feed (some .int)) (hQ : QI X (wM E a) post) (k_20 : Int32 → Int32 → Int32 → Int32 → Int32 → Int32 → St → Prop) (hk_20 : ∀ (x1 x2 x3 x4 x5 x6 : Int32) (σ : St), k_20 x1 x2 x3 x4 x5 x6 σ → G X (wM E a) σ 20 [some (.ref (a 0)), some (.int x1), some (.int x2), some (.int x3), some (.int x4), some (.int x5), some (.int x6), none] []) (x1 x2 x3 x4 x5 x6 : Int32) (σ : St) (h : wpBM_feed_20 k_20 x1 x2 x3 x4 x5 x6 σ post) : G X (wM E a) σ 20 [some (.ref (a 0)), some (.int x1), some (.int x2), some (.int x3), some (.int x4), some (.int x5), some (.int x6), none] [] := by
  unfold wpBM_feed_20 at h
  refine g_iload C dX11_feed_20 rfl ?_
  refine g_bipush C (v := 20) (by decide) dX11_feed_22 ?_
  refine g_icmp_ge C 114 dX11_feed_24 (by decide) (fun q => ?_) (fun q => ?_)
  · have h := h.1 q
    refine g_aload_0 C dX11_feed_114 rfl ?_
    refine fgM_X11_146 C dX11_feed_115 ?_
    exact g_ireturn C hQ dX11_feed_118 h
  · have h := h.2 q
    refine g_iload C dX11_feed_27 rfl ?_
    refine g_iconst_4 C dX11_feed_29 ?_
    refine g_icmp_ge C 37 dX11_feed_30 (by decide) (fun q => ?_) (fun q => ?_)
    · have h := h.1 q
      refine g_iload C dX11_feed_37 rfl ?_
      refine g_bipush C (v := 8) (by decide) dX11_feed_39 ?_
      refine g_icmp_ge C 48 dX11_feed_41 (by decide) (fun q => ?_) (fun q => ?_)
      · have h := h.1 q
        refine g_iload C dX11_feed_48 rfl ?_
        refine g_bipush C (v := 12) (by decide) dX11_feed_50 ?_
        refine g_icmp_ge C 59 dX11_feed_52 (by decide) (fun q => ?_) (fun q => ?_)
        · have h := h.1 q
          refine g_iload C dX11_feed_59 rfl ?_
          refine g_bipush C (v := 16) (by decide) dX11_feed_61 ?_
          refine g_icmp_ge C 71 dX11_feed_63 (by decide) (fun q => ?_) (fun q => ?_)
          · have h := h.1 q
            refine g_iload C dX11_feed_71 rfl ?_
            exact g_wk (kM_feed_73 C hQ _ hk_20 _ _ _ _ _ _ _ _ h) (And.intro rfl (And.intro rfl (And.intro rfl (And.intro rfl (And.intro rfl (And.intro rfl (And.intro rfl (trivial))))))))
          · have h := h.2 q
            refine g_iload C dX11_feed_66 rfl ?_
            refine g_goto C 73 dX11_feed_68 (by decide) ?_
            exact g_wk (kM_feed_73 C hQ _ hk_20 _ _ _ _ _ _ _ _ h) (And.intro rfl (And.intro rfl (And.intro rfl (And.intro rfl (And.intro rfl (And.intro rfl (And.intro rfl (trivial))))))))
        · have h := h.2 q
          refine g_iload_3 C dX11_feed_55 rfl ?_
          refine g_goto C 73 dX11_feed_56 (by decide) ?_
          exact g_wk (kM_feed_73 C hQ _ hk_20 _ _ _ _ _ _ _ _ h) (And.intro rfl (And.intro rfl (And.intro rfl (And.intro rfl (And.intro rfl (And.intro rfl (And.intro rfl (trivial))))))))
      · have h := h.2 q
        refine g_iload_2 C dX11_feed_44 rfl ?_
        refine g_goto C 73 dX11_feed_45 (by decide) ?_
        exact g_wk (kM_feed_73 C hQ _ hk_20 _ _ _ _ _ _ _ _ h) (And.intro rfl (And.intro rfl (And.intro rfl (And.intro rfl (And.intro rfl (And.intro rfl (And.intro rfl (trivial))))))))
    · have h := h.2 q
      refine g_iload_1 C dX11_feed_33 rfl ?_
      refine g_goto C 73 dX11_feed_34 (by decide) ?_
      exact g_wk (kM_feed_73 C hQ _ hk_20 _ _ _ _ _ _ _ _ h) (And.intro rfl (And.intro rfl (And.intro rfl (And.intro rfl (And.intro rfl (And.intro rfl (And.intro rfl (trivial))))))))
theorem kM_feed_20 {X : Kx} {l : Launch} {E : Ev} {a : Nat → Nat} {post : Int32 → St → Prop} (C : Cx X l E RX11 cX11_feed rmM_feed (some .int)) (hQ : QI X (wM E a) post) (x1 x2 x3 x4 x5 x6 : Int32) (σ : St) (h : wpM_feed_20  x1 x2 x3 x4 x5 x6 σ post) : G X (wM E a) σ 20 [some (.ref (a 0)), some (.int x1), some (.int x2), some (.int x3), some (.int x4), some (.int x5), some (.int x6), none] [] := by
  obtain ⟨n, h⟩ := h
  exact g_loop (J := fun t : Int32 × Int32 × Int32 × Int32 × Int32 × Int32 × St => G X (wM E a) t.2.2.2.2.2.2 20 [some (.ref (a 0)), some (.int t.1), some (.int t.2.1), some (.int t.2.2.1), some (.int t.2.2.2.1), some (.int t.2.2.2.2.1), some (.int t.2.2.2.2.2.1), none] []) (fun kb hkb t ht => kBM_feed_20 C hQ  (fun x1 x2 x3 x4 x5 x6 σ => kb (x1, x2, x3, x4, x5, x6, σ)) (fun x1 x2 x3 x4 x5 x6 σ hh => hkb (x1, x2, x3, x4, x5, x6, σ) hh) t.1 t.2.1 t.2.2.1 t.2.2.2.1 t.2.2.2.2.1 t.2.2.2.2.2.1 t.2.2.2.2.2.2 ht) n (x1, x2, x3, x4, x5, x6, σ) h
def wpM_feed (x1 x2 x3 x4 x5 : Int32) (σ : St) (post : Int32 → St → Prop) : Prop := let σ1 : St := pI σ 0 0; (((σ1.1 22) ≤ 280 → wpM_feed_20 x1 x2 x3 x4 x5 0 σ1 post) ∧ (¬ (σ1.1 22) ≤ 280 → post (-1) σ1))
theorem kM_feed {X : Kx} {l : Launch} {E : Ev} {a : Nat → Nat} {post : Int32 → St → Prop} (C : Cx X l E RX11 cX11_feed rmM_feed (some .int)) (hQ : QI X (wM E a) post) (x1 x2 x3 x4 x5 : Int32) (σ : St) (h : wpM_feed x1 x2 x3 x4 x5 σ post) : G X (wM E a) σ 0 [some (.ref (a 0)), some (.int x1), some (.int x2), some (.int x3), some (.int x4), some (.int x5), none, none] [] := by
  unfold wpM_feed at h
  refine g_aload_0 C dX11_feed_0 rfl ?_
  refine g_iconst_0 C dX11_feed_1 ?_
  refine fpM_X11_106 C dX11_feed_2 ?_
  refine g_aload_0 C dX11_feed_5 rfl ?_
  refine fgM_X11_146 C dX11_feed_6 ?_
  refine g_sipush C (v := 280) (by decide) dX11_feed_9 ?_
  refine g_icmp_le C 17 dX11_feed_12 (by decide) (fun q => ?_) (fun q => ?_)
  · have h := h.1 q
    refine g_iconst_0 C dX11_feed_17 ?_
    refine g_istore C dX11_feed_18 (Nat.le_of_ble_eq_true rfl) ?_
    exact g_wk (kM_feed_20 C hQ _ _ _ _ _ _ _ h) (And.intro rfl (And.intro rfl (And.intro rfl (And.intro rfl (And.intro rfl (And.intro rfl (And.intro rfl (trivial))))))))
  · have h := h.2 q
    refine g_iconst_m1 C dX11_feed_15 ?_
    exact g_ireturn C hQ dX11_feed_16 h
theorem cM_feed {l : Launch} {E : Ev} {a : Nat → Nat} {x1 x2 x3 x4 x5 : Int32} {σ : St} {post : Int32 → St → Prop} (h : wpM_feed x1 x2 x3 x4 x5 σ post) : CI l E (wM E a) yX11_feed cX11_feed 8 .int rmM_feed [.ref (a 0), .int x1, .int x2, .int x3, .int x4, .int x5] σ post := met_i (by decide) rfl (Nat.le_of_ble_eq_true rfl) rfl (fun X C hQ => kM_feed C hQ _ _ _ _ _ _ h)
/-! IceRunModel.end(I)I -/
abbrev rmM_end : Room := { frames := 1, cells := 0, slots := 0, locals := 22 }
def wpM_end (x1 : Int32) (σ : St) (post : Int32 → St → Prop) : Prop := let σ1 : St := pI σ 0 0; wpM_within x1 0 (σ1.1 22) σ1 (fun r3 σ2 => ((¬ r3 = 0 → let σ4 : St := pI σ2 22 x1; post x1 σ4) ∧ (r3 = 0 → post (-1) σ2)))
theorem kM_end {X : Kx} {l : Launch} {E : Ev} {a : Nat → Nat} {post : Int32 → St → Prop} (C : Cx X l E RX11 cX11_end rmM_end (some .int)) (hQ : QI X (wM E a) post) (x1 : Int32) (σ : St) (h : wpM_end x1 σ post) : G X (wM E a) σ 0 [some (.ref (a 0)), some (.int x1)] [] := by
  unfold wpM_end at h
  refine g_aload_0 C dX11_end_0 rfl ?_
  refine g_iconst_0 C dX11_end_1 ?_
  refine fpM_X11_106 C dX11_end_2 ?_
  refine g_iload_1 C dX11_end_5 rfl ?_
  refine g_iconst_0 C dX11_end_6 ?_
  refine g_aload_0 C dX11_end_7 rfl ?_
  refine fgM_X11_146 C dX11_end_8 ?_
  refine csM_X11_109 C h ⟨Nat.le_of_ble_eq_true rfl, Nat.le_of_ble_eq_true rfl⟩ (Nat.le_of_ble_eq_true rfl) dX11_end_11 (fun _ _ h => ?_)
  refine g_if_ne C 19 dX11_end_14 (by decide) (fun q => ?_) (fun q => ?_)
  · have h := h.1 q
    refine g_aload_0 C dX11_end_19 rfl ?_
    refine g_iload_1 C dX11_end_20 rfl ?_
    refine fpM_X11_146 C dX11_end_21 ?_
    refine g_iload_1 C dX11_end_24 rfl ?_
    exact g_ireturn C hQ dX11_end_25 h
  · have h := h.2 q
    refine g_iconst_m1 C dX11_end_17 ?_
    exact g_ireturn C hQ dX11_end_18 h
theorem cM_end {l : Launch} {E : Ev} {a : Nat → Nat} {x1 : Int32} {σ : St} {post : Int32 → St → Prop} (h : wpM_end x1 σ post) : CI l E (wM E a) yX11_end cX11_end 2 .int rmM_end [.ref (a 0), .int x1] σ post := met_i (by decide) rfl (Nat.le_of_ble_eq_true rfl) rfl (fun X C hQ => kM_end C hQ _ _ h)
theorem alM_21 {X : Kx} {l : Launch} {E : Ev} {a : Nat → Nat} {σ : St} {cc : ByteArray} {rm : Room} {ret : Option FieldType} {pc : Nat} {lv : List (Option Value)} {st : List Value} {own : String} {i : Int32} (C : Cx X l E own cc rm ret) (hin : vp_in i 300) (d : decode cc pc = .ok (.baload, 1)) (k : G X (wM E a) σ (pc + 1) lv (.int (σ.2 21 i.toNatClampNeg) :: st)) : G X (wM E a) σ pc lv (.int i :: .ref (a 22) :: st) := g_bald C (q0 := 18) rfl hin d k
/-! IceRunModel.byteAt(I)I -/
abbrev rmM_byteAt : Room := { frames := 0, cells := 0, slots := 0, locals := 0 }
def wpM_byteAt_22 (s0 : Int32) (σ : St) (post : Int32 → St → Prop) : Prop := post s0 σ
theorem kM_byteAt_22 {X : Kx} {l : Launch} {E : Ev} {a : Nat → Nat} {post : Int32 → St → Prop} (C : Cx X l E RX11 cX11_byteAt rmM_byteAt (some .int)) (hQ : QI X (wM E a) post) (s0 : Int32) (σ : St) (h : wpM_byteAt_22  s0 σ post) : G X (wM E a) σ 22 [none, none] [.int s0] := by
  unfold wpM_byteAt_22 at h
  exact g_ireturn C hQ dX11_byteAt_22 h
def wpM_byteAt (x1 : Int32) (σ : St) (post : Int32 → St → Prop) : Prop := (((σ.1 22) ≤ x1 → wpM_byteAt_22 0 σ post) ∧ (¬ (σ.1 22) ≤ x1 → vp_in x1 300 ∧ (wpM_byteAt_22 ((σ.2 21 (Int32.toNatClampNeg x1)) &&& 255) σ post)))
theorem kM_byteAt {X : Kx} {l : Launch} {E : Ev} {a : Nat → Nat} {post : Int32 → St → Prop} (C : Cx X l E RX11 cX11_byteAt rmM_byteAt (some .int)) (hQ : QI X (wM E a) post) (x1 : Int32) (σ : St) (h : wpM_byteAt x1 σ post) : G X (wM E a) σ 0 [some (.ref (a 0)), some (.int x1)] [] := by
  unfold wpM_byteAt at h
  refine g_iload_1 C dX11_byteAt_0 rfl ?_
  refine g_aload_0 C dX11_byteAt_1 rfl ?_
  refine fgM_X11_146 C dX11_byteAt_2 ?_
  refine g_icmp_ge C 21 dX11_byteAt_5 (by decide) (fun q => ?_) (fun q => ?_)
  · have h := h.1 q
    refine g_iconst_0 C dX11_byteAt_21 ?_
    exact g_wk (kM_byteAt_22 C hQ _ _ h) (trivial)
  · have h := h.2 q
    refine g_aload_0 C dX11_byteAt_8 rfl ?_
    refine fgM_X11_61 C dX11_byteAt_9 ?_
    refine g_iload_1 C dX11_byteAt_12 rfl ?_
    obtain ⟨q, h⟩ := h
    refine alM_21 C q dX11_byteAt_13 ?_
    refine g_sipush C (v := 255) (by decide) dX11_byteAt_14 ?_
    refine g_iand C dX11_byteAt_17 ?_
    refine g_goto C 22 dX11_byteAt_18 (by decide) ?_
    exact g_wk (kM_byteAt_22 C hQ _ _ h) (trivial)
theorem cM_byteAt {l : Launch} {E : Ev} {a : Nat → Nat} {x1 : Int32} {σ : St} {post : Int32 → St → Prop} (h : wpM_byteAt x1 σ post) : CI l E (wM E a) yX11_byteAt cX11_byteAt 2 .int rmM_byteAt [.ref (a 0), .int x1] σ post := met_i (by decide) rfl (Nat.le_of_ble_eq_true rfl) rfl (fun X C hQ => kM_byteAt C hQ _ _ h)
/-! IceRunModel.isSmall(I)Z -/
abbrev rmM_isSmall : Room := { frames := 0, cells := 0, slots := 0, locals := 0 }
def wpM_isSmall_17 (s0 : Int32) (σ : St) (post : Int32 → St → Prop) : Prop := (s0 = 0 ∨ s0 = 1) ∧ post s0 σ
theorem kM_isSmall_17 {X : Kx} {l : Launch} {E : Ev} {a : Nat → Nat} {post : Int32 → St → Prop} (C : Cx X l E RX11 cX11_isSmall rmM_isSmall (some .boolean)) (hQ : QI X (wM E a) post) (s0 : Int32) (σ : St) (h : wpM_isSmall_17  s0 σ post) : G X (wM E a) σ 17 [none] [.int s0] := by
  unfold wpM_isSmall_17 at h
  exact g_zreturn C hQ dX11_isSmall_17 h.1 h.2
def wpM_isSmall_16 (σ : St) (post : Int32 → St → Prop) : Prop := wpM_isSmall_17 0 σ post
theorem kM_isSmall_16 {X : Kx} {l : Launch} {E : Ev} {a : Nat → Nat} {post : Int32 → St → Prop} (C : Cx X l E RX11 cX11_isSmall rmM_isSmall (some .boolean)) (hQ : QI X (wM E a) post) (σ : St) (h : wpM_isSmall_16   σ post) : G X (wM E a) σ 16 [none] [] := by
  unfold wpM_isSmall_16 at h
  refine g_iconst_0 C dX11_isSmall_16 ?_
  exact g_wk (kM_isSmall_17 C hQ _ _ h) (trivial)
def wpM_isSmall (x0 : Int32) (σ : St) (post : Int32 → St → Prop) : Prop := ((x0 < 97 → wpM_isSmall_16 σ post) ∧ (¬ x0 < 97 → ((122 < x0 → wpM_isSmall_16 σ post) ∧ (¬ 122 < x0 → wpM_isSmall_17 1 σ post))))
theorem kM_isSmall {X : Kx} {l : Launch} {E : Ev} {a : Nat → Nat} {post : Int32 → St → Prop} (C : Cx X l E RX11 cX11_isSmall rmM_isSmall (some .boolean)) (hQ : QI X (wM E a) post) (x0 : Int32) (σ : St) (h : wpM_isSmall x0 σ post) : G X (wM E a) σ 0 [some (.int x0)] [] := by
  unfold wpM_isSmall at h
  refine g_iload_0 C dX11_isSmall_0 rfl ?_
  refine g_bipush C (v := 97) (by decide) dX11_isSmall_1 ?_
  refine g_icmp_lt C 16 dX11_isSmall_3 (by decide) (fun q => ?_) (fun q => ?_)
  · have h := h.1 q
    exact g_wk (kM_isSmall_16 C hQ _ h) (trivial)
  · have h := h.2 q
    refine g_iload_0 C dX11_isSmall_6 rfl ?_
    refine g_bipush C (v := 122) (by decide) dX11_isSmall_7 ?_
    refine g_icmp_gt C 16 dX11_isSmall_9 (by decide) (fun q => ?_) (fun q => ?_)
    · have h := h.1 q
      exact g_wk (kM_isSmall_16 C hQ _ h) (trivial)
    · have h := h.2 q
      refine g_iconst_1 C dX11_isSmall_12 ?_
      refine g_goto C 17 dX11_isSmall_13 (by decide) ?_
      exact g_wk (kM_isSmall_17 C hQ _ _ h) (trivial)
theorem cM_isSmall {l : Launch} {E : Ev} {a : Nat → Nat} {x0 : Int32} {σ : St} {post : Int32 → St → Prop} (h : wpM_isSmall x0 σ post) : CI l E (wM E a) yX11_isSmall cX11_isSmall 1 .boolean rmM_isSmall [.int x0] σ post := met_i (by decide) rfl (Nat.le_of_ble_eq_true rfl) rfl (fun X C hQ => kM_isSmall C hQ _ _ h)
/-! IceRunModel.isDigit(I)Z -/
abbrev rmM_isDigit : Room := { frames := 0, cells := 0, slots := 0, locals := 0 }
def wpM_isDigit_17 (s0 : Int32) (σ : St) (post : Int32 → St → Prop) : Prop := (s0 = 0 ∨ s0 = 1) ∧ post s0 σ
theorem kM_isDigit_17 {X : Kx} {l : Launch} {E : Ev} {a : Nat → Nat} {post : Int32 → St → Prop} (C : Cx X l E RX11 cX11_isDigit rmM_isDigit (some .boolean)) (hQ : QI X (wM E a) post) (s0 : Int32) (σ : St) (h : wpM_isDigit_17  s0 σ post) : G X (wM E a) σ 17 [none] [.int s0] := by
  unfold wpM_isDigit_17 at h
  exact g_zreturn C hQ dX11_isDigit_17 h.1 h.2
def wpM_isDigit_16 (σ : St) (post : Int32 → St → Prop) : Prop := wpM_isDigit_17 0 σ post
theorem kM_isDigit_16 {X : Kx} {l : Launch} {E : Ev} {a : Nat → Nat} {post : Int32 → St → Prop} (C : Cx X l E RX11 cX11_isDigit rmM_isDigit (some .boolean)) (hQ : QI X (wM E a) post) (σ : St) (h : wpM_isDigit_16   σ post) : G X (wM E a) σ 16 [none] [] := by
  unfold wpM_isDigit_16 at h
  refine g_iconst_0 C dX11_isDigit_16 ?_
  exact g_wk (kM_isDigit_17 C hQ _ _ h) (trivial)
def wpM_isDigit (x0 : Int32) (σ : St) (post : Int32 → St → Prop) : Prop := ((x0 < 48 → wpM_isDigit_16 σ post) ∧ (¬ x0 < 48 → ((57 < x0 → wpM_isDigit_16 σ post) ∧ (¬ 57 < x0 → wpM_isDigit_17 1 σ post))))
theorem kM_isDigit {X : Kx} {l : Launch} {E : Ev} {a : Nat → Nat} {post : Int32 → St → Prop} (C : Cx X l E RX11 cX11_isDigit rmM_isDigit (some .boolean)) (hQ : QI X (wM E a) post) (x0 : Int32) (σ : St) (h : wpM_isDigit x0 σ post) : G X (wM E a) σ 0 [some (.int x0)] [] := by
  unfold wpM_isDigit at h
  refine g_iload_0 C dX11_isDigit_0 rfl ?_
  refine g_bipush C (v := 48) (by decide) dX11_isDigit_1 ?_
  refine g_icmp_lt C 16 dX11_isDigit_3 (by decide) (fun q => ?_) (fun q => ?_)
  · have h := h.1 q
    exact g_wk (kM_isDigit_16 C hQ _ h) (trivial)
  · have h := h.2 q
    refine g_iload_0 C dX11_isDigit_6 rfl ?_
    refine g_bipush C (v := 57) (by decide) dX11_isDigit_7 ?_
    refine g_icmp_gt C 16 dX11_isDigit_9 (by decide) (fun q => ?_) (fun q => ?_)
    · have h := h.1 q
      exact g_wk (kM_isDigit_16 C hQ _ h) (trivial)
    · have h := h.2 q
      refine g_iconst_1 C dX11_isDigit_12 ?_
      refine g_goto C 17 dX11_isDigit_13 (by decide) ?_
      exact g_wk (kM_isDigit_17 C hQ _ _ h) (trivial)
theorem cM_isDigit {l : Launch} {E : Ev} {a : Nat → Nat} {x0 : Int32} {σ : St} {post : Int32 → St → Prop} (h : wpM_isDigit x0 σ post) : CI l E (wM E a) yX11_isDigit cX11_isDigit 1 .boolean rmM_isDigit [.int x0] σ post := met_i (by decide) rfl (Nat.le_of_ble_eq_true rfl) rfl (fun X C hQ => kM_isDigit C hQ _ _ h)

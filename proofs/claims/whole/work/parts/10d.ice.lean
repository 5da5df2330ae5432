theorem asI_900 {X : Kx} {l : Launch} {E : Ev} {a : Nat → Nat} {σ : St} {cc : ByteArray} {rm : Room} {ret : Option FieldType} {pc : Nat} {lv : List (Option Value)} {st : List Value} {own : String} {i x : Int32} (C : Cx X l E own cc rm ret) (hin : vp_in i 16) (d : decode cc pc = .ok (.bastore, 1)) (k : G X (wI E a) (pA σ 900 i.toNatClampNeg (vp_nar .boolean x)) (pc + 1) lv st) : G X (wI E a) σ pc lv (.int x :: .int i :: .ref (a 901) :: st) := g_zast C (q0 := 42) rfl rfl hin d k
theorem fgI_X6_15 {X : Kx} {l : Launch} {E : Ev} {a : Nat → Nat} {σ : St} {cc : ByteArray} {rm : Room} {ret : Option FieldType} {pc : Nat} {lv : List (Option Value)} {st : List Value} (C : Cx X l E RX6 cc rm ret) (d : decode cc pc = .ok (.getfield 15, 3)) (k : G X (wI E a) σ (pc + 3) lv (.ref (a 902) :: st)) : G X (wI E a) σ pc lv (.ref (a 900) :: st) := g_get C (q0 := 41) (ci := 6) (k := 1) rfl rfl inU_X6 (by decide) (by decide +kernel) rfl d k
theorem asI_901 {X : Kx} {l : Launch} {E : Ev} {a : Nat → Nat} {σ : St} {cc : ByteArray} {rm : Room} {ret : Option FieldType} {pc : Nat} {lv : List (Option Value)} {st : List Value} {own : String} {i x : Int32} (C : Cx X l E own cc rm ret) (hin : vp_in i 16) (d : decode cc pc = .ok (.iastore, 1)) (k : G X (wI E a) (pA σ 901 i.toNatClampNeg x) (pc + 1) lv st) : G X (wI E a) σ pc lv (.int x :: .int i :: .ref (a 902) :: st) := g_iast C (q0 := 43) rfl rfl hin d k
theorem fgI_X6_9 {X : Kx} {l : Launch} {E : Ev} {a : Nat → Nat} {σ : St} {cc : ByteArray} {rm : Room} {ret : Option FieldType} {pc : Nat} {lv : List (Option Value)} {st : List Value} (C : Cx X l E RX6 cc rm ret) (d : decode cc pc = .ok (.getfield 9, 3)) (k : G X (wI E a) σ (pc + 3) lv (.ref (a 901) :: st)) : G X (wI E a) σ pc lv (.ref (a 900) :: st) := g_get C (q0 := 41) (ci := 6) (k := 0) rfl rfl inU_X6 (by decide) (by decide +kernel) rfl d k
theorem csI_X6_49 {X : Kx} {l : Launch} {E : Ev} {a : Nat → Nat} {σ : St} {cc : ByteArray} {rm : Room} {ret : Option FieldType} {pc : Nat} {lv : List (Option Value)} {rest : List Value} {x0 x1 : Int32} {post : Int32 → St → Prop} (C : Cx X l E RX6 cc rm ret) (h : wpI_X2_isInBy x0 x1 σ post) (hR : 2 + 1 ≤ rm.frames ∧ 8 + (3 + 11) + 43 ≤ rm.locals) (hW : (rest.map fun v => v.category).sum ≤ 8) (d : decode cc pc = .ok (.invokevirtual 49, 3)) (k : ∀ (r : Int32) (u : St), post r u → G X (wI E a) u (pc + 3) lv (.int r :: rest)) : G X (wI E a) σ pc lv (.int x1 :: .int x0 :: .ref (a 700) :: rest) := g_callVi C 2 (As := [.int x0, .int x1]) (rest := rest) (Cn := RX2) (T := TX2) (N := 14) (q0 := 29) (ci := 2) (by decide +kernel) (by decide +kernel) (by decide +kernel) (by decide +kernel) (by decide +kernel) (by decide +kernel) rfl rfl (cI_X2_isInBy h) ⟨rfl, rfl⟩ hR rfl rfl hW d k
theorem csI_X6_30 {X : Kx} {l : Launch} {E : Ev} {a : Nat → Nat} {σ : St} {cc : ByteArray} {rm : Room} {ret : Option FieldType} {pc : Nat} {lv : List (Option Value)} {rest : List Value} {x0 x1 : Int32} {post : Int32 → St → Prop} (C : Cx X l E RX6 cc rm ret) (h : wpI_X2_isWholeBy x0 x1 σ post) (hR : 1 + 1 ≤ rm.frames ∧ 8 + (3 + 11) + 22 ≤ rm.locals) (hW : (rest.map fun v => v.category).sum ≤ 8) (d : decode cc pc = .ok (.invokevirtual 30, 3)) (k : ∀ (r : Int32) (u : St), post r u → G X (wI E a) u (pc + 3) lv (.int r :: rest)) : G X (wI E a) σ pc lv (.int x1 :: .int x0 :: .ref (a 700) :: rest) := g_callVi C 2 (As := [.int x0, .int x1]) (rest := rest) (Cn := RX2) (T := TX2) (N := 14) (q0 := 29) (ci := 2) (by decide +kernel) (by decide +kernel) (by decide +kernel) (by decide +kernel) (by decide +kernel) (by decide +kernel) rfl rfl (cI_X2_isWholeBy h) ⟨rfl, rfl⟩ hR rfl rfl hW d k
theorem fgI_X6_36 {X : Kx} {l : Launch} {E : Ev} {a : Nat → Nat} {σ : St} {cc : ByteArray} {rm : Room} {ret : Option FieldType} {pc : Nat} {lv : List (Option Value)} {st : List Value} (C : Cx X l E RX6 cc rm ret) (d : decode cc pc = .ok (.getfield 36, 3)) (k : G X (wI E a) σ (pc + 3) lv (.ref (a 800) :: st)) : G X (wI E a) σ pc lv (.ref (a 700) :: st) := g_getN C (host := "IceRun") (q0 := 29) (ci := 2) (k := 13) rfl rfl inU_X2 (by decide) (by decide +kernel) rfl d k
theorem csI_X6_40 {X : Kx} {l : Launch} {E : Ev} {a : Nat → Nat} {σ : St} {cc : ByteArray} {rm : Room} {ret : Option FieldType} {pc : Nat} {lv : List (Option Value)} {rest : List Value} {x0 x1 : Int32} {post : Int32 → St → Prop} (C : Cx X l E RX6 cc rm ret) (h : wpI_X4_hasDown x0 x1 σ post) (hR : 1 + 1 ≤ rm.frames ∧ 8 + (3 + 11) + 22 ≤ rm.locals) (hW : (rest.map fun v => v.category).sum ≤ 8) (d : decode cc pc = .ok (.invokevirtual 40, 3)) (k : ∀ (r : Int32) (u : St), post r u → G X (wI E a) u (pc + 3) lv (.int r :: rest)) : G X (wI E a) σ pc lv (.int x1 :: .int x0 :: .ref (a 800) :: rest) := g_callVi C 2 (As := [.int x0, .int x1]) (rest := rest) (Cn := RX4) (T := TX4) (N := 5) (q0 := 35) (ci := 4) (by decide +kernel) (by decide +kernel) (by decide +kernel) (by decide +kernel) (by decide +kernel) (by decide +kernel) rfl rfl (cI_X4_hasDown h) ⟨rfl, rfl⟩ hR rfl rfl hW d k
theorem csI_X6_45 {X : Kx} {l : Launch} {E : Ev} {a : Nat → Nat} {σ : St} {cc : ByteArray} {rm : Room} {ret : Option FieldType} {pc : Nat} {lv : List (Option Value)} {rest : List Value} {x0 x1 : Int32} {post : Int32 → St → Prop} (C : Cx X l E RX6 cc rm ret) (h : wpI_X4_totalOf x0 x1 σ post) (hR : 1 + 1 ≤ rm.frames ∧ 8 + (3 + 11) + 21 ≤ rm.locals) (hW : (rest.map fun v => v.category).sum ≤ 8) (d : decode cc pc = .ok (.invokevirtual 45, 3)) (k : ∀ (r : Int32) (u : St), post r u → G X (wI E a) u (pc + 3) lv (.int r :: rest)) : G X (wI E a) σ pc lv (.int x1 :: .int x0 :: .ref (a 800) :: rest) := g_callVi C 2 (As := [.int x0, .int x1]) (rest := rest) (Cn := RX4) (T := TX4) (N := 5) (q0 := 35) (ci := 4) (by decide +kernel) (by decide +kernel) (by decide +kernel) (by decide +kernel) (by decide +kernel) (by decide +kernel) rfl rfl (cI_X4_totalOf h) ⟨rfl, rfl⟩ hR rfl rfl hW d k
/-! IceRun$Standing.recallSum(LIceRun$Race;II)V -/
abbrev rmI_X6_recallSum : Room := { frames := 3, cells := 0, slots := 0, locals := 65 }
def wpI_X6_recallSum_107 (s1 s2 : Int32) (σ : St) (post : St → Prop) : Prop := vp_in s1 16 ∧ (let σ1 : St := pA σ 900 (Int32.toNatClampNeg s1) (vp_nar .boolean s2); post σ1)
theorem kI_X6_recallSum_107 {X : Kx} {l : Launch} {E : Ev} {a : Nat → Nat} {post : St → Prop} (C : Cx X l E RX6 cX6_recallSum rmI_X6_recallSum none) (hQ : QV X (wI E a) post) (s1 s2 : Int32) (σ : St) (h : wpI_X6_recallSum_107  s1 s2 σ post) : G X (wI E a) σ 107 [none, none, none, none, none, none, none, none] [.int s2, .int s1, .ref (a 901)] := by
  unfold wpI_X6_recallSum_107 at h
  obtain ⟨q, h⟩ := h
  refine asI_900 C q dX6_recallSum_107 ?_
  exact g_return C hQ dX6_recallSum_108 h
def wpI_X6_recallSum_106 (s1 : Int32) (σ : St) (post : St → Prop) : Prop := wpI_X6_recallSum_107 s1 0 σ post
theorem kI_X6_recallSum_106 {X : Kx} {l : Launch} {E : Ev} {a : Nat → Nat} {post : St → Prop} (C : Cx X l E RX6 cX6_recallSum rmI_X6_recallSum none) (hQ : QV X (wI E a) post) (s1 : Int32) (σ : St) (h : wpI_X6_recallSum_106  s1 σ post) : G X (wI E a) σ 106 [none, none, none, none, none, none, none, none] [.int s1, .ref (a 901)] := by
  unfold wpI_X6_recallSum_106 at h
  refine g_iconst_0 C dX6_recallSum_106 ?_
  exact g_wk (kI_X6_recallSum_107 C hQ _ _ _ h) (trivial)
def wpI_X6_recallSum_62 (k_12 : Int32 → Int32 → Int32 → Int32 → Int32 → Int32 → St → Prop) (x2 x3 x4 x5 x6 x7 : Int32) (σ : St) (post : St → Prop) : Prop := let y1 : Int32 := x7 + 1; k_12 x2 x3 x4 x5 x6 y1 σ
theorem kI_X6_recallSum_62 {X : Kx} {l : Launch} {E : Ev} {a : Nat → Nat} {post : St → Prop} (C : Cx X l E RX6 cX6_recallSum rmI_X6_recallSum none) (hQ : QV X (wI E a) post) (k_12 : Int32 → Int32 → Int32 → Int32 → Int32 → Int32 → St → Prop) (hk_12 : ∀ (x2 x3 x4 x5 x6 x7 : Int32) (σ : St), k_12 x2 x3 x4 x5 x6 x7 σ → G X (wI E a) σ 12 [some (.ref (a 900)), some (.ref (a 700)), some (.int x2), some (.int x3), some (.int x4), some (.int x5), some (.int x6), some (.int x7)] []) (x2 x3 x4 x5 x6 x7 : Int32) (σ : St) (h : wpI_X6_recallSum_62 k_12 x2 x3 x4 x5 x6 x7 σ post) : G X (wI E a) σ 62 [some (.ref (a 900)), some (.ref (a 700)), some (.int x2), some (.int x3), some (.int x4), some (.int x5), some (.int x6), some (.int x7)] [] := by
  unfold wpI_X6_recallSum_62 at h
  refine g_iinc C (v := 1) (by decide) dX6_recallSum_62 rfl ?_
  refine g_goto C 12 dX6_recallSum_65 (by decide) ?_
  exact g_wk (hk_12 _ _ _ _ _ _ _ h) (And.intro rfl (And.intro rfl (And.intro rfl (And.intro rfl (And.intro rfl (And.intro rfl (And.intro rfl (And.intro rfl (trivial)))))))))
def wpBI_X6_recallSum_12 (k_12 : Int32 → Int32 → Int32 → Int32 → Int32 → Int32 → St → Prop) (x2 x3 x4 x5 x6 x7 : Int32) (σ : St) (post : St → Prop) : Prop := ((4 ≤ x7 → vp_in x2 16 ∧ (let σ1 : St := pA σ 901 (Int32.toNatClampNeg x2) x6; wpI_X2_isInBy x2 x3 σ1 (fun r3 σ2 => ((r3 = 0 → wpI_X6_recallSum_106 x2 σ2 post) ∧ (¬ r3 = 0 → ((x4 ≤ 0 → wpI_X6_recallSum_106 x2 σ2 post) ∧ (¬ x4 ≤ 0 → ((¬ x5 = x4 → wpI_X6_recallSum_106 x2 σ2 post) ∧ (x5 = x4 → wpI_X6_recallSum_107 x2 1 σ2 post))))))))) ∧ (¬ 4 ≤ x7 → wpI_X2_isWholeBy x7 x3 σ (fun r5 σ4 => ((r5 = 0 → wpI_X6_recallSum_62 k_12 x2 x3 x4 x5 x6 x7 σ4 post) ∧ (¬ r5 = 0 → let y6 : Int32 := x4 + 1; wpI_X4_hasDown x7 x2 σ4 (fun r8 σ7 => ((r8 = 0 → wpI_X6_recallSum_62 k_12 x2 x3 y6 x5 x6 x7 σ7 post) ∧ (¬ r8 = 0 → let y9 : Int32 := x5 + 1; wpI_X4_totalOf x7 x2 σ7 (fun r11 σ10 => let y12 : Int32 := (x6 + r11); wpI_X6_recallSum_62 k_12 x2 x3 y6 y9 y12 x7 σ10 post)))))))))
def wpI_X6_recallSum_12 (x2 x3 x4 x5 x6 x7 : Int32) (σ : St) (post : St → Prop) : Prop := ∃ n : Nat, lpN (α := Int32 × Int32 × Int32 × Int32 × Int32 × Int32 × St) (fun kb t => wpBI_X6_recallSum_12 (fun x2 x3 x4 x5 x6 x7 σ => kb (x2, x3, x4, x5, x6, x7, σ)) t.1 t.2.1 t.2.2.1 t.2.2.2.1 t.2.2.2.2.1 t.2.2.2.2.2.1 t.2.2.2.2.2.2 post) n (x2, x3, x4, x5, x6, x7, σ)
theorem kBI_X6_recallSum_12 {X : Kx} {l : Launch} {E : Ev} {a : Nat → Nat} {post : St → Prop} (C : Cx X l E RX6 cX6_recallSum rmI_X6_recallSum none) (hQ : QV X (wI E a) post) (k_12 : Int32 → Int32 → Int32 → Int32 → Int32 → Int32 → St → Prop) (hk_12 : ∀ (x2 x3 x4 x5 x6 x7 : Int32) (σ : St), k_12 x2 x3 x4 x5 x6 x7 σ → G X (wI E a) σ 12 [some (.ref (a 900)), some (.ref (a 700)), some (.int x2), some (.int x3), some (.int x4), some (.int x5), some (.int x6), some (.int x7)] []) (x2 x3 x4 x5 x6 x7 : Int32) (σ : St) (h : wpBI_X6_recallSum_12 k_12 x2 x3 x4 x5 x6 x7 σ post) : G X (wI E a) σ 12 [some (.ref (a 900)), some (.ref (a 700)), some (.int x2), some (.int x3), some (.int x4), some (.int x5), some (.int x6), some (.int x7)] [] := by
  unfold wpBI_X6_recallSum_12 at h
  refine g_iload C dX6_recallSum_12 rfl ?_
  refine g_iconst_4 C dX6_recallSum_14 ?_
  refine g_icmp_ge C 68 dX6_recallSum_15 (by decide) (fun q => ?_) (fun q => ?_)
  · have h := h.1 q
    refine g_aload_0 C dX6_recallSum_68 rfl ?_
    refine fgI_X6_15 C dX6_recallSum_69 ?_
    refine g_iload_2 C dX6_recallSum_72 rfl ?_
    refine g_iload C dX6_recallSum_73 rfl ?_
    obtain ⟨q, h⟩ := h
    refine asI_901 C q dX6_recallSum_75 ?_
    refine g_aload_0 C dX6_recallSum_76 rfl ?_
    refine fgI_X6_9 C dX6_recallSum_77 ?_
    refine g_iload_2 C dX6_recallSum_80 rfl ?_
    refine g_aload_1 C dX6_recallSum_81 rfl ?_
    refine g_iload_2 C dX6_recallSum_82 rfl ?_
    refine g_iload_3 C dX6_recallSum_83 rfl ?_
    refine csI_X6_49 C h ⟨Nat.le_of_ble_eq_true rfl, Nat.le_of_ble_eq_true rfl⟩ (Nat.le_of_ble_eq_true rfl) dX6_recallSum_84 (fun _ _ h => ?_)
    refine g_if_eq C 106 dX6_recallSum_87 (by decide) (fun q => ?_) (fun q => ?_)
    · have h := h.1 q
      exact g_wk (kI_X6_recallSum_106 C hQ _ _ h) (trivial)
    · have h := h.2 q
      refine g_iload C dX6_recallSum_90 rfl ?_
      refine g_if_le C 106 dX6_recallSum_92 (by decide) (fun q => ?_) (fun q => ?_)
      · have h := h.1 q
        exact g_wk (kI_X6_recallSum_106 C hQ _ _ h) (trivial)
      · have h := h.2 q
        refine g_iload C dX6_recallSum_95 rfl ?_
        refine g_iload C dX6_recallSum_97 rfl ?_
        refine g_icmp_ne C 106 dX6_recallSum_99 (by decide) (fun q => ?_) (fun q => ?_)
        · have h := h.1 q
          exact g_wk (kI_X6_recallSum_106 C hQ _ _ h) (trivial)
        · have h := h.2 q
          refine g_iconst_1 C dX6_recallSum_102 ?_
          refine g_goto C 107 dX6_recallSum_103 (by decide) ?_
          exact g_wk (kI_X6_recallSum_107 C hQ _ _ _ h) (trivial)
  · have h := h.2 q
    refine g_aload_1 C dX6_recallSum_18 rfl ?_
    refine g_iload C dX6_recallSum_19 rfl ?_
    refine g_iload_3 C dX6_recallSum_21 rfl ?_
    refine csI_X6_30 C h ⟨Nat.le_of_ble_eq_true rfl, Nat.le_of_ble_eq_true rfl⟩ (Nat.le_of_ble_eq_true rfl) dX6_recallSum_22 (fun _ _ h => ?_)
    refine g_if_eq C 62 dX6_recallSum_25 (by decide) (fun q => ?_) (fun q => ?_)
    · have h := h.1 q
      exact g_wk (kI_X6_recallSum_62 C hQ _ hk_12 _ _ _ _ _ _ _ h) (And.intro rfl (And.intro rfl (And.intro rfl (And.intro rfl (And.intro rfl (And.intro rfl (And.intro rfl (And.intro rfl (trivial)))))))))
    · have h := h.2 q
      refine g_iinc C (v := 1) (by decide) dX6_recallSum_28 rfl ?_
      refine g_aload_1 C dX6_recallSum_31 rfl ?_
      refine fgI_X6_36 C dX6_recallSum_32 ?_
      refine g_iload C dX6_recallSum_35 rfl ?_
      refine g_iload_2 C dX6_recallSum_37 rfl ?_
      refine csI_X6_40 C h ⟨Nat.le_of_ble_eq_true rfl, Nat.le_of_ble_eq_true rfl⟩ (Nat.le_of_ble_eq_true rfl) dX6_recallSum_38 (fun _ _ h => ?_)
      refine g_if_eq C 62 dX6_recallSum_41 (by decide) (fun q => ?_) (fun q => ?_)
      · have h := h.1 q
        exact g_wk (kI_X6_recallSum_62 C hQ _ hk_12 _ _ _ _ _ _ _ h) (And.intro rfl (And.intro rfl (And.intro rfl (And.intro rfl (And.intro rfl (And.intro rfl (And.intro rfl (And.intro rfl (trivial)))))))))
      · have h := h.2 q
        refine g_iinc C (v := 1) (by decide) dX6_recallSum_44 rfl ?_
        refine g_iload C dX6_recallSum_47 rfl ?_
        refine g_aload_1 C dX6_recallSum_49 rfl ?_
        refine fgI_X6_36 C dX6_recallSum_50 ?_
        refine g_iload C dX6_recallSum_53 rfl ?_
        refine g_iload_2 C dX6_recallSum_55 rfl ?_
        refine csI_X6_45 C h ⟨Nat.le_of_ble_eq_true rfl, Nat.le_of_ble_eq_true rfl⟩ (Nat.le_of_ble_eq_true rfl) dX6_recallSum_56 (fun _ _ h => ?_)
        refine g_iadd C dX6_recallSum_59 ?_
        refine g_istore C dX6_recallSum_60 (Nat.le_of_ble_eq_true rfl) ?_
        exact g_wk (kI_X6_recallSum_62 C hQ _ hk_12 _ _ _ _ _ _ _ h) (And.intro rfl (And.intro rfl (And.intro rfl (And.intro rfl (And.intro rfl (And.intro rfl (And.intro rfl (And.intro rfl (trivial)))))))))
theorem kI_X6_recallSum_12 {X : Kx} {l : Launch} {E : Ev} {a : Nat → Nat} {post : St → Prop} (C : Cx X l E RX6 cX6_recallSum rmI_X6_recallSum none) (hQ : QV X (wI E a) post) (x2 x3 x4 x5 x6 x7 : Int32) (σ : St) (h : wpI_X6_recallSum_12  x2 x3 x4 x5 x6 x7 σ post) : G X (wI E a) σ 12 [some (.ref (a 900)), some (.ref (a 700)), some (.int x2), some (.int x3), some (.int x4), some (.int x5), some (.int x6), some (.int x7)] [] := by
  obtain ⟨n, h⟩ := h
  exact g_loop (J := fun t : Int32 × Int32 × Int32 × Int32 × Int32 × Int32 × St => G X (wI E a) t.2.2.2.2.2.2 12 [some (.ref (a 900)), some (.ref (a 700)), some (.int t.1), some (.int t.2.1), some (.int t.2.2.1), some (.int t.2.2.2.1), some (.int t.2.2.2.2.1), some (.int t.2.2.2.2.2.1)] []) (fun kb hkb t ht => kBI_X6_recallSum_12 C hQ  (fun x2 x3 x4 x5 x6 x7 σ => kb (x2, x3, x4, x5, x6, x7, σ)) (fun x2 x3 x4 x5 x6 x7 σ hh => hkb (x2, x3, x4, x5, x6, x7, σ) hh) t.1 t.2.1 t.2.2.1 t.2.2.2.1 t.2.2.2.2.1 t.2.2.2.2.2.1 t.2.2.2.2.2.2 ht) n (x2, x3, x4, x5, x6, x7, σ) h
def wpI_X6_recallSum (x2 x3 : Int32) (σ : St) (post : St → Prop) : Prop := wpI_X6_recallSum_12 x2 x3 0 0 0 0 σ post
theorem kI_X6_recallSum {X : Kx} {l : Launch} {E : Ev} {a : Nat → Nat} {post : St → Prop} (C : Cx X l E RX6 cX6_recallSum rmI_X6_recallSum none) (hQ : QV X (wI E a) post) (x2 x3 : Int32) (σ : St) (h : wpI_X6_recallSum x2 x3 σ post) : G X (wI E a) σ 0 [some (.ref (a 900)), some (.ref (a 700)), some (.int x2), some (.int x3), none, none, none, none] [] := by
  unfold wpI_X6_recallSum at h
  refine g_iconst_0 C dX6_recallSum_0 ?_
  refine g_istore C dX6_recallSum_1 (Nat.le_of_ble_eq_true rfl) ?_
  refine g_iconst_0 C dX6_recallSum_3 ?_
  refine g_istore C dX6_recallSum_4 (Nat.le_of_ble_eq_true rfl) ?_
  refine g_iconst_0 C dX6_recallSum_6 ?_
  refine g_istore C dX6_recallSum_7 (Nat.le_of_ble_eq_true rfl) ?_
  refine g_iconst_0 C dX6_recallSum_9 ?_
  refine g_istore C dX6_recallSum_10 (Nat.le_of_ble_eq_true rfl) ?_
  exact g_wk (kI_X6_recallSum_12 C hQ _ _ _ _ _ _ _ h) (And.intro rfl (And.intro rfl (And.intro rfl (And.intro rfl (And.intro rfl (And.intro rfl (And.intro rfl (And.intro rfl (trivial)))))))))
theorem cI_X6_recallSum {l : Launch} {E : Ev} {a : Nat → Nat} {x2 x3 : Int32} {σ : St} {post : St → Prop} (h : wpI_X6_recallSum x2 x3 σ post) : CV l E (wI E a) yX6_recallSum cX6_recallSum 8 rmI_X6_recallSum [.ref (a 900), .ref (a 700), .int x2, .int x3] σ post := met_v (by decide) rfl (Nat.le_of_ble_eq_true rfl) rfl (fun X C hQ => kI_X6_recallSum C hQ _ _ _ h)
theorem alI_900 {X : Kx} {l : Launch} {E : Ev} {a : Nat → Nat} {σ : St} {cc : ByteArray} {rm : Room} {ret : Option FieldType} {pc : Nat} {lv : List (Option Value)} {st : List Value} {own : String} {i : Int32} (C : Cx X l E own cc rm ret) (hin : vp_in i 16) (d : decode cc pc = .ok (.baload, 1)) (k : G X (wI E a) σ (pc + 1) lv (.int (σ.2 900 i.toNatClampNeg) :: st)) : G X (wI E a) σ pc lv (.int i :: .ref (a 901) :: st) := g_zald C (q0 := 42) rfl hin d k
theorem alI_901 {X : Kx} {l : Launch} {E : Ev} {a : Nat → Nat} {σ : St} {cc : ByteArray} {rm : Room} {ret : Option FieldType} {pc : Nat} {lv : List (Option Value)} {st : List Value} {own : String} {i : Int32} (C : Cx X l E own cc rm ret) (hin : vp_in i 16) (d : decode cc pc = .ok (.iaload, 1)) (k : G X (wI E a) σ (pc + 1) lv (.int (σ.2 901 i.toNatClampNeg) :: st)) : G X (wI E a) σ pc lv (.int i :: .ref (a 902) :: st) := g_iald C (q0 := 43) rfl hin d k
/-! IceRun$Standing.manyBelow(I)I -/
abbrev rmI_X6_manyBelow : Room := { frames := 0, cells := 0, slots := 0, locals := 0 }
def wpI_X6_manyBelow_32 (k_4 : Int32 → Int32 → Int32 → St → Prop) (x1 x2 x3 : Int32) (σ : St) (post : Int32 → St → Prop) : Prop := let y1 : Int32 := x3 + 1; k_4 x1 x2 y1 σ
theorem kI_X6_manyBelow_32 {X : Kx} {l : Launch} {E : Ev} {a : Nat → Nat} {post : Int32 → St → Prop} (C : Cx X l E RX6 cX6_manyBelow rmI_X6_manyBelow (some .int)) (hQ : QI X (wI E a) post) (k_4 : Int32 → Int32 → Int32 → St → Prop) (hk_4 : ∀ (x1 x2 x3 : Int32) (σ : St), k_4 x1 x2 x3 σ → G X (wI E a) σ 4 [some (.ref (a 900)), some (.int x1), some (.int x2), some (.int x3)] []) (x1 x2 x3 : Int32) (σ : St) (h : wpI_X6_manyBelow_32 k_4 x1 x2 x3 σ post) : G X (wI E a) σ 32 [some (.ref (a 900)), some (.int x1), some (.int x2), some (.int x3)] [] := by
  unfold wpI_X6_manyBelow_32 at h
  refine g_iinc C (v := 1) (by decide) dX6_manyBelow_32 rfl ?_
  refine g_goto C 4 dX6_manyBelow_35 (by decide) ?_
  exact g_wk (hk_4 _ _ _ _ h) (And.intro rfl (And.intro rfl (And.intro rfl (And.intro rfl (trivial)))))
def wpBI_X6_manyBelow_4 (k_4 : Int32 → Int32 → Int32 → St → Prop) (x1 x2 x3 : Int32) (σ : St) (post : Int32 → St → Prop) : Prop := ((16 ≤ x3 → post x2 σ) ∧ (¬ 16 ≤ x3 → vp_in x3 16 ∧ ((((σ.2 900 (Int32.toNatClampNeg x3)) = 0 → wpI_X6_manyBelow_32 k_4 x1 x2 x3 σ post) ∧ (¬ (σ.2 900 (Int32.toNatClampNeg x3)) = 0 → vp_in x3 16 ∧ (((x1 ≤ (σ.2 901 (Int32.toNatClampNeg x3)) → wpI_X6_manyBelow_32 k_4 x1 x2 x3 σ post) ∧ (¬ x1 ≤ (σ.2 901 (Int32.toNatClampNeg x3)) → let y1 : Int32 := x2 + 1; wpI_X6_manyBelow_32 k_4 x1 y1 x3 σ post))))))))
def wpI_X6_manyBelow_4 (x1 x2 x3 : Int32) (σ : St) (post : Int32 → St → Prop) : Prop := ∃ n : Nat, lpN (α := Int32 × Int32 × Int32 × St) (fun kb t => wpBI_X6_manyBelow_4 (fun x1 x2 x3 σ => kb (x1, x2, x3, σ)) t.1 t.2.1 t.2.2.1 t.2.2.2 post) n (x1, x2, x3, σ)
theorem kBI_X6_manyBelow_4 {X : Kx} {l : Launch} {E : Ev} {a : Nat → Nat} {post : Int32 → St → Prop} (C : Cx X l E RX6 cX6_manyBelow rmI_X6_manyBelow (some .int)) (hQ : QI X (wI E a) post) (k_4 : Int32 → Int32 → Int32 → St → Prop) (hk_4 : ∀ (x1 x2 x3 : Int32) (σ : St), k_4 x1 x2 x3 σ → G X (wI E a) σ 4 [some (.ref (a 900)), some (.int x1), some (.int x2), some (.int x3)] []) (x1 x2 x3 : Int32) (σ : St) (h : wpBI_X6_manyBelow_4 k_4 x1 x2 x3 σ post) : G X (wI E a) σ 4 [some (.ref (a 900)), some (.int x1), some (.int x2), some (.int x3)] [] := by
  unfold wpBI_X6_manyBelow_4 at h
  refine g_iload_3 C dX6_manyBelow_4 rfl ?_
  refine g_bipush C (v := 16) (by decide) dX6_manyBelow_5 ?_
  refine g_icmp_ge C 38 dX6_manyBelow_7 (by decide) (fun q => ?_) (fun q => ?_)
  · have h := h.1 q
    refine g_iload_2 C dX6_manyBelow_38 rfl ?_
    exact g_ireturn C hQ dX6_manyBelow_39 h
  · have h := h.2 q
    refine g_aload_0 C dX6_manyBelow_10 rfl ?_
    refine fgI_X6_9 C dX6_manyBelow_11 ?_
    refine g_iload_3 C dX6_manyBelow_14 rfl ?_
    obtain ⟨q, h⟩ := h
    refine alI_900 C q dX6_manyBelow_15 ?_
    refine g_if_eq C 32 dX6_manyBelow_16 (by decide) (fun q => ?_) (fun q => ?_)
    · have h := h.1 q
      exact g_wk (kI_X6_manyBelow_32 C hQ _ hk_4 _ _ _ _ h) (And.intro rfl (And.intro rfl (And.intro rfl (And.intro rfl (trivial)))))
    · have h := h.2 q
      refine g_aload_0 C dX6_manyBelow_19 rfl ?_
      refine fgI_X6_15 C dX6_manyBelow_20 ?_
      refine g_iload_3 C dX6_manyBelow_23 rfl ?_
      obtain ⟨q, h⟩ := h
      refine alI_901 C q dX6_manyBelow_24 ?_
      refine g_iload_1 C dX6_manyBelow_25 rfl ?_
      refine g_icmp_ge C 32 dX6_manyBelow_26 (by decide) (fun q => ?_) (fun q => ?_)
      · have h := h.1 q
        exact g_wk (kI_X6_manyBelow_32 C hQ _ hk_4 _ _ _ _ h) (And.intro rfl (And.intro rfl (And.intro rfl (And.intro rfl (trivial)))))
      · have h := h.2 q
        refine g_iinc C (v := 1) (by decide) dX6_manyBelow_29 rfl ?_
        exact g_wk (kI_X6_manyBelow_32 C hQ _ hk_4 _ _ _ _ h) (And.intro rfl (And.intro rfl (And.intro rfl (And.intro rfl (trivial)))))
theorem kI_X6_manyBelow_4 {X : Kx} {l : Launch} {E : Ev} {a : Nat → Nat} {post : Int32 → St → Prop} (C : Cx X l E RX6 cX6_manyBelow rmI_X6_manyBelow (some .int)) (hQ : QI X (wI E a) post) (x1 x2 x3 : Int32) (σ : St) (h : wpI_X6_manyBelow_4  x1 x2 x3 σ post) : G X (wI E a) σ 4 [some (.ref (a 900)), some (.int x1), some (.int x2), some (.int x3)] [] := by
  obtain ⟨n, h⟩ := h
  exact g_loop (J := fun t : Int32 × Int32 × Int32 × St => G X (wI E a) t.2.2.2 4 [some (.ref (a 900)), some (.int t.1), some (.int t.2.1), some (.int t.2.2.1)] []) (fun kb hkb t ht => kBI_X6_manyBelow_4 C hQ  (fun x1 x2 x3 σ => kb (x1, x2, x3, σ)) (fun x1 x2 x3 σ hh => hkb (x1, x2, x3, σ) hh) t.1 t.2.1 t.2.2.1 t.2.2.2 ht) n (x1, x2, x3, σ) h
def wpI_X6_manyBelow (x1 : Int32) (σ : St) (post : Int32 → St → Prop) : Prop := wpI_X6_manyBelow_4 x1 0 0 σ post
theorem kI_X6_manyBelow {X : Kx} {l : Launch} {E : Ev} {a : Nat → Nat} {post : Int32 → St → Prop} (C : Cx X l E RX6 cX6_manyBelow rmI_X6_manyBelow (some .int)) (hQ : QI X (wI E a) post) (x1 : Int32) (σ : St) (h : wpI_X6_manyBelow x1 σ post) : G X (wI E a) σ 0 [some (.ref (a 900)), some (.int x1), none, none] [] := by
  unfold wpI_X6_manyBelow at h
  refine g_iconst_0 C dX6_manyBelow_0 ?_
  refine g_istore_2 C dX6_manyBelow_1 (Nat.le_of_ble_eq_true rfl) ?_
  refine g_iconst_0 C dX6_manyBelow_2 ?_
  refine g_istore_3 C dX6_manyBelow_3 (Nat.le_of_ble_eq_true rfl) ?_
  exact g_wk (kI_X6_manyBelow_4 C hQ _ _ _ _ h) (And.intro rfl (And.intro rfl (And.intro rfl (And.intro rfl (trivial)))))
theorem cI_X6_manyBelow {l : Launch} {E : Ev} {a : Nat → Nat} {x1 : Int32} {σ : St} {post : Int32 → St → Prop} (h : wpI_X6_manyBelow x1 σ post) : CI l E (wI E a) yX6_manyBelow cX6_manyBelow 4 .int rmI_X6_manyBelow [.ref (a 900), .int x1] σ post := met_i (by decide) rfl (Nat.le_of_ble_eq_true rfl) rfl (fun X C hQ => kI_X6_manyBelow C hQ _ _ h)
theorem asI_902 {X : Kx} {l : Launch} {E : Ev} {a : Nat → Nat} {σ : St} {cc : ByteArray} {rm : Room} {ret : Option FieldType} {pc : Nat} {lv : List (Option Value)} {st : List Value} {own : String} {i x : Int32} (C : Cx X l E own cc rm ret) (hin : vp_in i 16) (d : decode cc pc = .ok (.iastore, 1)) (k : G X (wI E a) (pA σ 902 i.toNatClampNeg x) (pc + 1) lv st) : G X (wI E a) σ pc lv (.int x :: .int i :: .ref (a 903) :: st) := g_iast C (q0 := 44) rfl rfl hin d k
theorem fgI_X6_19 {X : Kx} {l : Launch} {E : Ev} {a : Nat → Nat} {σ : St} {cc : ByteArray} {rm : Room} {ret : Option FieldType} {pc : Nat} {lv : List (Option Value)} {st : List Value} (C : Cx X l E RX6 cc rm ret) (d : decode cc pc = .ok (.getfield 19, 3)) (k : G X (wI E a) σ (pc + 3) lv (.ref (a 903) :: st)) : G X (wI E a) σ pc lv (.ref (a 900) :: st) := g_get C (q0 := 41) (ci := 6) (k := 2) rfl rfl inU_X6 (by decide) (by decide +kernel) rfl d k
theorem csI_X6_26 {X : Kx} {l : Launch} {E : Ev} {a : Nat → Nat} {σ : St} {cc : ByteArray} {rm : Room} {ret : Option FieldType} {pc : Nat} {lv : List (Option Value)} {rest : List Value} {x0 : Int32} {post : Int32 → St → Prop} (C : Cx X l E RX6 cc rm ret) (h : wpI_X6_manyBelow x0 σ post) (hR : 0 + 1 ≤ rm.frames ∧ 8 + (4 + 11) + 0 ≤ rm.locals) (hW : (rest.map fun v => v.category).sum ≤ 8) (d : decode cc pc = .ok (.invokevirtual 26, 3)) (k : ∀ (r : Int32) (u : St), post r u → G X (wI E a) u (pc + 3) lv (.int r :: rest)) : G X (wI E a) σ pc lv (.int x0 :: .ref (a 900) :: rest) := g_callVi C 1 (As := [.int x0]) (rest := rest) (Cn := RX6) (T := TX6) (N := 3) (q0 := 41) (ci := 6) (by decide +kernel) (by decide +kernel) (by decide +kernel) (by decide +kernel) (by decide +kernel) (by decide +kernel) rfl rfl (cI_X6_manyBelow h) ⟨rfl, rfl⟩ hR rfl rfl hW d k
theorem csI_X6_22 {X : Kx} {l : Launch} {E : Ev} {a : Nat → Nat} {σ : St} {cc : ByteArray} {rm : Room} {ret : Option FieldType} {pc : Nat} {lv : List (Option Value)} {rest : List Value} {x1 x2 : Int32} {post : St → Prop} (C : Cx X l E RX6 cc rm ret) (h : wpI_X6_recallSum x1 x2 σ post) (hR : 3 + 1 ≤ rm.frames ∧ 8 + (8 + 11) + 65 ≤ rm.locals) (hW : (rest.map fun v => v.category).sum ≤ 8) (d : decode cc pc = .ok (.invokevirtual 22, 3)) (k : ∀ u : St, post u → G X (wI E a) u (pc + 3) lv rest) : G X (wI E a) σ pc lv (.int x2 :: .int x1 :: .ref (a 700) :: .ref (a 900) :: rest) := g_callVv C 3 (As := [.ref (a 700), .int x1, .int x2]) (rest := rest) (Cn := RX6) (T := TX6) (N := 3) (q0 := 41) (ci := 6) (by decide +kernel) (by decide +kernel) (by decide +kernel) (by decide +kernel) (by decide +kernel) (by decide +kernel) rfl rfl (cI_X6_recallSum h) ⟨rfl, rfl⟩ hR rfl rfl hW d k
/-! IceRun$Standing.recall(LIceRun$Race;I)V -/
abbrev rmI_X6_recall : Room := { frames := 4, cells := 0, slots := 0, locals := 92 }
def wpI_X6_recall_59 (k_23 : Int32 → St → Prop) (x3 s1 s2 : Int32) (σ : St) (post : St → Prop) : Prop := vp_in s1 16 ∧ (let σ1 : St := pA σ 902 (Int32.toNatClampNeg s1) s2; let y2 : Int32 := x3 + 1; k_23 y2 σ1)
theorem kI_X6_recall_59 {X : Kx} {l : Launch} {E : Ev} {a : Nat → Nat} {post : St → Prop} (C : Cx X l E RX6 cX6_recall rmI_X6_recall none) (hQ : QV X (wI E a) post) (k_23 : Int32 → St → Prop) (hk_23 : ∀ (x3 : Int32) (σ : St), k_23 x3 σ → G X (wI E a) σ 23 [some (.ref (a 900)), none, none, some (.int x3)] []) (x3 s1 s2 : Int32) (σ : St) (h : wpI_X6_recall_59 k_23 x3 s1 s2 σ post) : G X (wI E a) σ 59 [some (.ref (a 900)), none, none, some (.int x3)] [.int s2, .int s1, .ref (a 903)] := by
  unfold wpI_X6_recall_59 at h
  obtain ⟨q, h⟩ := h
  refine asI_902 C q dX6_recall_59 ?_
  refine g_iinc C (v := 1) (by decide) dX6_recall_60 rfl ?_
  refine g_goto C 23 dX6_recall_63 (by decide) ?_
  exact g_wk (hk_23 _ _ h) (And.intro rfl (And.intro rfl (trivial)))
def wpBI_X6_recall_23 (k_23 : Int32 → St → Prop) (x3 : Int32) (σ : St) (post : St → Prop) : Prop := ((16 ≤ x3 → post σ) ∧ (¬ 16 ≤ x3 → vp_in x3 16 ∧ ((((σ.2 900 (Int32.toNatClampNeg x3)) = 0 → wpI_X6_recall_59 k_23 x3 x3 (-1) σ post) ∧ (¬ (σ.2 900 (Int32.toNatClampNeg x3)) = 0 → vp_in x3 16 ∧ (wpI_X6_manyBelow (σ.2 901 (Int32.toNatClampNeg x3)) σ (fun r2 σ1 => wpI_X6_recall_59 k_23 x3 x3 (1 + r2) σ1 post)))))))
def wpI_X6_recall_23 (x3 : Int32) (σ : St) (post : St → Prop) : Prop := ∃ n : Nat, lpN (α := Int32 × St) (fun kb t => wpBI_X6_recall_23 (fun x3 σ => kb (x3, σ)) t.1 t.2 post) n (x3, σ)
theorem kBI_X6_recall_23 {X : Kx} {l : Launch} {E : Ev} {a : Nat → Nat} {post : St → Prop} (C : Cx X l E RX6 cX6_recall rmI_X6_recall none) (hQ : QV X (wI E a) post) (k_23 : Int32 → St → Prop) (hk_23 : ∀ (x3 : Int32) (σ : St), k_23 x3 σ → G X (wI E a) σ 23 [some (.ref (a 900)), none, none, some (.int x3)] []) (x3 : Int32) (σ : St) (h : wpBI_X6_recall_23 k_23 x3 σ post) : G X (wI E a) σ 23 [some (.ref (a 900)), none, none, some (.int x3)] [] := by
  unfold wpBI_X6_recall_23 at h
  refine g_iload_3 C dX6_recall_23 rfl ?_
  refine g_bipush C (v := 16) (by decide) dX6_recall_24 ?_
  refine g_icmp_ge C 66 dX6_recall_26 (by decide) (fun q => ?_) (fun q => ?_)
  · have h := h.1 q
    exact g_return C hQ dX6_recall_66 h
  · have h := h.2 q
    refine g_aload_0 C dX6_recall_29 rfl ?_
    refine fgI_X6_19 C dX6_recall_30 ?_
    refine g_iload_3 C dX6_recall_33 rfl ?_
    refine g_aload_0 C dX6_recall_34 rfl ?_
    refine fgI_X6_9 C dX6_recall_35 ?_
    refine g_iload_3 C dX6_recall_38 rfl ?_
    obtain ⟨q, h⟩ := h
    refine alI_900 C q dX6_recall_39 ?_
    refine g_if_eq C 58 dX6_recall_40 (by decide) (fun q => ?_) (fun q => ?_)
    · have h := h.1 q
      refine g_iconst_m1 C dX6_recall_58 ?_
      exact g_wk (kI_X6_recall_59 C hQ _ hk_23 _ _ _ _ h) (And.intro rfl (And.intro rfl (trivial)))
    · have h := h.2 q
      refine g_iconst_1 C dX6_recall_43 ?_
      refine g_aload_0 C dX6_recall_44 rfl ?_
      refine g_aload_0 C dX6_recall_45 rfl ?_
      refine fgI_X6_15 C dX6_recall_46 ?_
      refine g_iload_3 C dX6_recall_49 rfl ?_
      obtain ⟨q, h⟩ := h
      refine alI_901 C q dX6_recall_50 ?_
      refine csI_X6_26 C h ⟨Nat.le_of_ble_eq_true rfl, Nat.le_of_ble_eq_true rfl⟩ (Nat.le_of_ble_eq_true rfl) dX6_recall_51 (fun _ _ h => ?_)
      refine g_iadd C dX6_recall_54 ?_
      refine g_goto C 59 dX6_recall_55 (by decide) ?_
      exact g_wk (kI_X6_recall_59 C hQ _ hk_23 _ _ _ _ h) (And.intro rfl (And.intro rfl (trivial)))
theorem kI_X6_recall_23 {X : Kx} {l : Launch} {E : Ev} {a : Nat → Nat} {post : St → Prop} (C : Cx X l E RX6 cX6_recall rmI_X6_recall none) (hQ : QV X (wI E a) post) (x3 : Int32) (σ : St) (h : wpI_X6_recall_23  x3 σ post) : G X (wI E a) σ 23 [some (.ref (a 900)), none, none, some (.int x3)] [] := by
  obtain ⟨n, h⟩ := h
  exact g_loop (J := fun t : Int32 × St => G X (wI E a) t.2 23 [some (.ref (a 900)), none, none, some (.int t.1)] []) (fun kb hkb t ht => kBI_X6_recall_23 C hQ  (fun x3 σ => kb (x3, σ)) (fun x3 σ hh => hkb (x3, σ) hh) t.1 t.2 ht) n (x3, σ) h
def wpBI_X6_recall_2 (k_2 : Int32 → Int32 → St → Prop) (x2 x3 : Int32) (σ : St) (post : St → Prop) : Prop := ((16 ≤ x3 → wpI_X6_recall_23 0 σ post) ∧ (¬ 16 ≤ x3 → wpI_X6_recallSum x3 x2 σ (fun σ1 => let y2 : Int32 := x3 + 1; k_2 x2 y2 σ1)))
def wpI_X6_recall_2 (x2 x3 : Int32) (σ : St) (post : St → Prop) : Prop := ∃ n : Nat, lpN (α := Int32 × Int32 × St) (fun kb t => wpBI_X6_recall_2 (fun x2 x3 σ => kb (x2, x3, σ)) t.1 t.2.1 t.2.2 post) n (x2, x3, σ)
theorem kBI_X6_recall_2 {X : Kx} {l : Launch} {E : Ev} {a : Nat → Nat} {post : St → Prop} (C : Cx X l E RX6 cX6_recall rmI_X6_recall none) (hQ : QV X (wI E a) post) (k_2 : Int32 → Int32 → St → Prop) (hk_2 : ∀ (x2 x3 : Int32) (σ : St), k_2 x2 x3 σ → G X (wI E a) σ 2 [some (.ref (a 900)), some (.ref (a 700)), some (.int x2), some (.int x3)] []) (x2 x3 : Int32) (σ : St) (h : wpBI_X6_recall_2 k_2 x2 x3 σ post) : G X (wI E a) σ 2 [some (.ref (a 900)), some (.ref (a 700)), some (.int x2), some (.int x3)] [] := by
  unfold wpBI_X6_recall_2 at h
  refine g_iload_3 C dX6_recall_2 rfl ?_
  refine g_bipush C (v := 16) (by decide) dX6_recall_3 ?_
  refine g_icmp_ge C 21 dX6_recall_5 (by decide) (fun q => ?_) (fun q => ?_)
  · have h := h.1 q
    refine g_iconst_0 C dX6_recall_21 ?_
    refine g_istore_3 C dX6_recall_22 (Nat.le_of_ble_eq_true rfl) ?_
    exact g_wk (kI_X6_recall_23 C hQ _ _ h) (And.intro rfl (And.intro rfl (trivial)))
  · have h := h.2 q
    refine g_aload_0 C dX6_recall_8 rfl ?_
    refine g_aload_1 C dX6_recall_9 rfl ?_
    refine g_iload_3 C dX6_recall_10 rfl ?_
    refine g_iload_2 C dX6_recall_11 rfl ?_
    refine csI_X6_22 C h ⟨Nat.le_of_ble_eq_true rfl, Nat.le_of_ble_eq_true rfl⟩ (Nat.le_of_ble_eq_true rfl) dX6_recall_12 (fun _ h => ?_)
    refine g_iinc C (v := 1) (by decide) dX6_recall_15 rfl ?_
    refine g_goto C 2 dX6_recall_18 (by decide) ?_
    exact g_wk (hk_2 _ _ _ h) (And.intro rfl (And.intro rfl (And.intro rfl (And.intro rfl (trivial)))))
theorem kI_X6_recall_2 {X : Kx} {l : Launch} {E : Ev} {a : Nat → Nat} {post : St → Prop} (C : Cx X l E RX6 cX6_recall rmI_X6_recall none) (hQ : QV X (wI E a) post) (x2 x3 : Int32) (σ : St) (h : wpI_X6_recall_2  x2 x3 σ post) : G X (wI E a) σ 2 [some (.ref (a 900)), some (.ref (a 700)), some (.int x2), some (.int x3)] [] := by
  obtain ⟨n, h⟩ := h
  exact g_loop (J := fun t : Int32 × Int32 × St => G X (wI E a) t.2.2 2 [some (.ref (a 900)), some (.ref (a 700)), some (.int t.1), some (.int t.2.1)] []) (fun kb hkb t ht => kBI_X6_recall_2 C hQ  (fun x2 x3 σ => kb (x2, x3, σ)) (fun x2 x3 σ hh => hkb (x2, x3, σ) hh) t.1 t.2.1 t.2.2 ht) n (x2, x3, σ) h
def wpI_X6_recall (x2 : Int32) (σ : St) (post : St → Prop) : Prop := wpI_X6_recall_2 x2 0 σ post
theorem kI_X6_recall {X : Kx} {l : Launch} {E : Ev} {a : Nat → Nat} {post : St → Prop} (C : Cx X l E RX6 cX6_recall rmI_X6_recall none) (hQ : QV X (wI E a) post) (x2 : Int32) (σ : St) (h : wpI_X6_recall x2 σ post) : G X (wI E a) σ 0 [some (.ref (a 900)), some (.ref (a 700)), some (.int x2), none] [] := by
  unfold wpI_X6_recall at h
  refine g_iconst_0 C dX6_recall_0 ?_
  refine g_istore_3 C dX6_recall_1 (Nat.le_of_ble_eq_true rfl) ?_
  exact g_wk (kI_X6_recall_2 C hQ _ _ _ h) (And.intro rfl (And.intro rfl (And.intro rfl (And.intro rfl (trivial)))))
theorem cI_X6_recall {l : Launch} {E : Ev} {a : Nat → Nat} {x2 : Int32} {σ : St} {post : St → Prop} (h : wpI_X6_recall x2 σ post) : CV l E (wI E a) yX6_recall cX6_recall 4 rmI_X6_recall [.ref (a 900), .ref (a 700), .int x2] σ post := met_v (by decide) rfl (Nat.le_of_ble_eq_true rfl) rfl (fun X C hQ => kI_X6_recall C hQ _ _ h)
theorem csI_X6_52 {X : Kx} {l : Launch} {E : Ev} {a : Nat → Nat} {σ : St} {cc : ByteArray} {rm : Room} {ret : Option FieldType} {pc : Nat} {lv : List (Option Value)} {rest : List Value} {x0 x1 x2 : Int32} {post : Int32 → St → Prop} (C : Cx X l E RX6 cc rm ret) (h : wpI_X10_within x0 x1 x2 σ post) (hR : 0 + 1 ≤ rm.frames ∧ 8 + (3 + 11) + 0 ≤ rm.locals) (hW : (rest.map fun v => v.category).sum ≤ 8) (d : decode cc pc = .ok (.invokestatic 52, 3)) (k : ∀ (r : Int32) (u : St), post r u → G X (wI E a) u (pc + 3) lv (.int r :: rest)) : G X (wI E a) σ pc lv (.int x2 :: .int x1 :: .int x0 :: rest) := g_callSNi C 3 (host := "IceRun") (As := [.int x0, .int x1, .int x2]) (rest := rest) (by decide +kernel) (by decide +kernel) (by decide +kernel) (by decide +kernel) (by decide +kernel) (cI_X10_within h) ⟨rfl, rfl⟩ hR rfl rfl hW d k
/-! IceRun$Standing.isRanked(I)Z -/
abbrev rmI_X6_isRanked : Room := { frames := 1, cells := 0, slots := 0, locals := 22 }
def wpI_X6_isRanked_24 (s0 : Int32) (σ : St) (post : Int32 → St → Prop) : Prop := (s0 = 0 ∨ s0 = 1) ∧ post s0 σ
theorem kI_X6_isRanked_24 {X : Kx} {l : Launch} {E : Ev} {a : Nat → Nat} {post : Int32 → St → Prop} (C : Cx X l E RX6 cX6_isRanked rmI_X6_isRanked (some .boolean)) (hQ : QI X (wI E a) post) (s0 : Int32) (σ : St) (h : wpI_X6_isRanked_24  s0 σ post) : G X (wI E a) σ 24 [none, none] [.int s0] := by
  unfold wpI_X6_isRanked_24 at h
  exact g_zreturn C hQ dX6_isRanked_24 h.1 h.2
def wpI_X6_isRanked_23 (σ : St) (post : Int32 → St → Prop) : Prop := wpI_X6_isRanked_24 0 σ post
theorem kI_X6_isRanked_23 {X : Kx} {l : Launch} {E : Ev} {a : Nat → Nat} {post : Int32 → St → Prop} (C : Cx X l E RX6 cX6_isRanked rmI_X6_isRanked (some .boolean)) (hQ : QI X (wI E a) post) (σ : St) (h : wpI_X6_isRanked_23   σ post) : G X (wI E a) σ 23 [none, none] [] := by
  unfold wpI_X6_isRanked_23 at h
  refine g_iconst_0 C dX6_isRanked_23 ?_
  exact g_wk (kI_X6_isRanked_24 C hQ _ _ h) (trivial)
def wpI_X6_isRanked (x1 : Int32) (σ : St) (post : Int32 → St → Prop) : Prop := wpI_X10_within x1 0 15 σ (fun r2 σ1 => ((r2 = 0 → wpI_X6_isRanked_23 σ1 post) ∧ (¬ r2 = 0 → vp_in x1 16 ∧ ((((σ1.2 900 (Int32.toNatClampNeg x1)) = 0 → wpI_X6_isRanked_23 σ1 post) ∧ (¬ (σ1.2 900 (Int32.toNatClampNeg x1)) = 0 → wpI_X6_isRanked_24 1 σ1 post))))))
theorem kI_X6_isRanked {X : Kx} {l : Launch} {E : Ev} {a : Nat → Nat} {post : Int32 → St → Prop} (C : Cx X l E RX6 cX6_isRanked rmI_X6_isRanked (some .boolean)) (hQ : QI X (wI E a) post) (x1 : Int32) (σ : St) (h : wpI_X6_isRanked x1 σ post) : G X (wI E a) σ 0 [some (.ref (a 900)), some (.int x1)] [] := by
  unfold wpI_X6_isRanked at h
  refine g_iload_1 C dX6_isRanked_0 rfl ?_
  refine g_iconst_0 C dX6_isRanked_1 ?_
  refine g_bipush C (v := 15) (by decide) dX6_isRanked_2 ?_
  refine csI_X6_52 C h ⟨Nat.le_of_ble_eq_true rfl, Nat.le_of_ble_eq_true rfl⟩ (Nat.le_of_ble_eq_true rfl) dX6_isRanked_4 (fun _ _ h => ?_)
  refine g_if_eq C 23 dX6_isRanked_7 (by decide) (fun q => ?_) (fun q => ?_)
  · have h := h.1 q
    exact g_wk (kI_X6_isRanked_23 C hQ _ h) (trivial)
  · have h := h.2 q
    refine g_aload_0 C dX6_isRanked_10 rfl ?_
    refine fgI_X6_9 C dX6_isRanked_11 ?_
    refine g_iload_1 C dX6_isRanked_14 rfl ?_
    obtain ⟨q, h⟩ := h
    refine alI_900 C q dX6_isRanked_15 ?_
    refine g_if_eq C 23 dX6_isRanked_16 (by decide) (fun q => ?_) (fun q => ?_)
    · have h := h.1 q
      exact g_wk (kI_X6_isRanked_23 C hQ _ h) (trivial)
    · have h := h.2 q
      refine g_iconst_1 C dX6_isRanked_19 ?_
      refine g_goto C 24 dX6_isRanked_20 (by decide) ?_
      exact g_wk (kI_X6_isRanked_24 C hQ _ _ h) (trivial)
theorem cI_X6_isRanked {l : Launch} {E : Ev} {a : Nat → Nat} {x1 : Int32} {σ : St} {post : Int32 → St → Prop} (h : wpI_X6_isRanked x1 σ post) : CI l E (wI E a) yX6_isRanked cX6_isRanked 2 .boolean rmI_X6_isRanked [.ref (a 900), .int x1] σ post := met_i (by decide) rfl (Nat.le_of_ble_eq_true rfl) rfl (fun X C hQ => kI_X6_isRanked C hQ _ _ h)
theorem csI_X6_56 {X : Kx} {l : Launch} {E : Ev} {a : Nat → Nat} {σ : St} {cc : ByteArray} {rm : Room} {ret : Option FieldType} {pc : Nat} {lv : List (Option Value)} {rest : List Value} {x0 : Int32} {post : Int32 → St → Prop} (C : Cx X l E RX6 cc rm ret) (h : wpI_X6_isRanked x0 σ post) (hR : 1 + 1 ≤ rm.frames ∧ 8 + (2 + 11) + 22 ≤ rm.locals) (hW : (rest.map fun v => v.category).sum ≤ 8) (d : decode cc pc = .ok (.invokevirtual 56, 3)) (k : ∀ (r : Int32) (u : St), post r u → G X (wI E a) u (pc + 3) lv (.int r :: rest)) : G X (wI E a) σ pc lv (.int x0 :: .ref (a 900) :: rest) := g_callVi C 1 (As := [.int x0]) (rest := rest) (Cn := RX6) (T := TX6) (N := 3) (q0 := 41) (ci := 6) (by decide +kernel) (by decide +kernel) (by decide +kernel) (by decide +kernel) (by decide +kernel) (by decide +kernel) rfl rfl (cI_X6_isRanked h) ⟨rfl, rfl⟩ hR rfl rfl hW d k
/-! IceRun$Standing.sumOf(I)I -/
abbrev rmI_X6_sumOf : Room := { frames := 2, cells := 0, slots := 0, locals := 43 }
def wpI_X6_sumOf_18 (s0 : Int32) (σ : St) (post : Int32 → St → Prop) : Prop := post s0 σ
theorem kI_X6_sumOf_18 {X : Kx} {l : Launch} {E : Ev} {a : Nat → Nat} {post : Int32 → St → Prop} (C : Cx X l E RX6 cX6_sumOf rmI_X6_sumOf (some .int)) (hQ : QI X (wI E a) post) (s0 : Int32) (σ : St) (h : wpI_X6_sumOf_18  s0 σ post) : G X (wI E a) σ 18 [none, none] [.int s0] := by
  unfold wpI_X6_sumOf_18 at h
  exact g_ireturn C hQ dX6_sumOf_18 h
def wpI_X6_sumOf (x1 : Int32) (σ : St) (post : Int32 → St → Prop) : Prop := wpI_X6_isRanked x1 σ (fun r2 σ1 => ((r2 = 0 → wpI_X6_sumOf_18 (-1) σ1 post) ∧ (¬ r2 = 0 → vp_in x1 16 ∧ (wpI_X6_sumOf_18 (σ1.2 901 (Int32.toNatClampNeg x1)) σ1 post))))
theorem kI_X6_sumOf {X : Kx} {l : Launch} {E : Ev} {a : Nat → Nat} {post : Int32 → St → Prop} (C : Cx X l E RX6 cX6_sumOf rmI_X6_sumOf (some .int)) (hQ : QI X (wI E a) post) (x1 : Int32) (σ : St) (h : wpI_X6_sumOf x1 σ post) : G X (wI E a) σ 0 [some (.ref (a 900)), some (.int x1)] [] := by
  unfold wpI_X6_sumOf at h
  refine g_aload_0 C dX6_sumOf_0 rfl ?_
  refine g_iload_1 C dX6_sumOf_1 rfl ?_
  refine csI_X6_56 C h ⟨Nat.le_of_ble_eq_true rfl, Nat.le_of_ble_eq_true rfl⟩ (Nat.le_of_ble_eq_true rfl) dX6_sumOf_2 (fun _ _ h => ?_)
  refine g_if_eq C 17 dX6_sumOf_5 (by decide) (fun q => ?_) (fun q => ?_)
  · have h := h.1 q
    refine g_iconst_m1 C dX6_sumOf_17 ?_
    exact g_wk (kI_X6_sumOf_18 C hQ _ _ h) (trivial)
  · have h := h.2 q
    refine g_aload_0 C dX6_sumOf_8 rfl ?_
    refine fgI_X6_15 C dX6_sumOf_9 ?_
    refine g_iload_1 C dX6_sumOf_12 rfl ?_
    obtain ⟨q, h⟩ := h
    refine alI_901 C q dX6_sumOf_13 ?_
    refine g_goto C 18 dX6_sumOf_14 (by decide) ?_
    exact g_wk (kI_X6_sumOf_18 C hQ _ _ h) (trivial)
theorem cI_X6_sumOf {l : Launch} {E : Ev} {a : Nat → Nat} {x1 : Int32} {σ : St} {post : Int32 → St → Prop} (h : wpI_X6_sumOf x1 σ post) : CI l E (wI E a) yX6_sumOf cX6_sumOf 2 .int rmI_X6_sumOf [.ref (a 900), .int x1] σ post := met_i (by decide) rfl (Nat.le_of_ble_eq_true rfl) rfl (fun X C hQ => kI_X6_sumOf C hQ _ _ h)
theorem alI_902 {X : Kx} {l : Launch} {E : Ev} {a : Nat → Nat} {σ : St} {cc : ByteArray} {rm : Room} {ret : Option FieldType} {pc : Nat} {lv : List (Option Value)} {st : List Value} {own : String} {i : Int32} (C : Cx X l E own cc rm ret) (hin : vp_in i 16) (d : decode cc pc = .ok (.iaload, 1)) (k : G X (wI E a) σ (pc + 1) lv (.int (σ.2 902 i.toNatClampNeg) :: st)) : G X (wI E a) σ pc lv (.int i :: .ref (a 903) :: st) := g_iald C (q0 := 44) rfl hin d k
/-! IceRun$Standing.rankOf(I)I -/
abbrev rmI_X6_rankOf : Room := { frames := 2, cells := 0, slots := 0, locals := 43 }
def wpI_X6_rankOf_18 (s0 : Int32) (σ : St) (post : Int32 → St → Prop) : Prop := post s0 σ
theorem kI_X6_rankOf_18 {X : Kx} {l : Launch} {E : Ev} {a : Nat → Nat} {post : Int32 → St → Prop} (C : Cx X l E RX6 cX6_rankOf rmI_X6_rankOf (some .int)) (hQ : QI X (wI E a) post) (s0 : Int32) (σ : St) (h : wpI_X6_rankOf_18  s0 σ post) : G X (wI E a) σ 18 [none, none] [.int s0] := by
  unfold wpI_X6_rankOf_18 at h
  exact g_ireturn C hQ dX6_rankOf_18 h
def wpI_X6_rankOf (x1 : Int32) (σ : St) (post : Int32 → St → Prop) : Prop := wpI_X6_isRanked x1 σ (fun r2 σ1 => ((r2 = 0 → wpI_X6_rankOf_18 (-1) σ1 post) ∧ (¬ r2 = 0 → vp_in x1 16 ∧ (wpI_X6_rankOf_18 (σ1.2 902 (Int32.toNatClampNeg x1)) σ1 post))))
theorem kI_X6_rankOf {X : Kx} {l : Launch} {E : Ev} {a : Nat → Nat} {post : Int32 → St → Prop} (C : Cx X l E RX6 cX6_rankOf rmI_X6_rankOf (some .int)) (hQ : QI X (wI E a) post) (x1 : Int32) (σ : St) (h : wpI_X6_rankOf x1 σ post) : G X (wI E a) σ 0 [some (.ref (a 900)), some (.int x1)] [] := by
  unfold wpI_X6_rankOf at h
  refine g_aload_0 C dX6_rankOf_0 rfl ?_
  refine g_iload_1 C dX6_rankOf_1 rfl ?_
  refine csI_X6_56 C h ⟨Nat.le_of_ble_eq_true rfl, Nat.le_of_ble_eq_true rfl⟩ (Nat.le_of_ble_eq_true rfl) dX6_rankOf_2 (fun _ _ h => ?_)
  refine g_if_eq C 17 dX6_rankOf_5 (by decide) (fun q => ?_) (fun q => ?_)
  · have h := h.1 q
    refine g_iconst_m1 C dX6_rankOf_17 ?_
    exact g_wk (kI_X6_rankOf_18 C hQ _ _ h) (trivial)
  · have h := h.2 q
    refine g_aload_0 C dX6_rankOf_8 rfl ?_
    refine fgI_X6_19 C dX6_rankOf_9 ?_
    refine g_iload_1 C dX6_rankOf_12 rfl ?_
    obtain ⟨q, h⟩ := h
    refine alI_902 C q dX6_rankOf_13 ?_
    refine g_goto C 18 dX6_rankOf_14 (by decide) ?_
    exact g_wk (kI_X6_rankOf_18 C hQ _ _ h) (trivial)
theorem cI_X6_rankOf {l : Launch} {E : Ev} {a : Nat → Nat} {x1 : Int32} {σ : St} {post : Int32 → St → Prop} (h : wpI_X6_rankOf x1 σ post) : CI l E (wI E a) yX6_rankOf cX6_rankOf 2 .int rmI_X6_rankOf [.ref (a 900), .int x1] σ post := met_i (by decide) rfl (Nat.le_of_ble_eq_true rfl) rfl (fun X C hQ => kI_X6_rankOf C hQ _ _ h)
theorem csI_X6_60 {X : Kx} {l : Launch} {E : Ev} {a : Nat → Nat} {σ : St} {cc : ByteArray} {rm : Room} {ret : Option FieldType} {pc : Nat} {lv : List (Option Value)} {rest : List Value} {x0 : Int32} {post : Int32 → St → Prop} (C : Cx X l E RX6 cc rm ret) (h : wpI_X6_rankOf x0 σ post) (hR : 2 + 1 ≤ rm.frames ∧ 8 + (2 + 11) + 43 ≤ rm.locals) (hW : (rest.map fun v => v.category).sum ≤ 8) (d : decode cc pc = .ok (.invokevirtual 60, 3)) (k : ∀ (r : Int32) (u : St), post r u → G X (wI E a) u (pc + 3) lv (.int r :: rest)) : G X (wI E a) σ pc lv (.int x0 :: .ref (a 900) :: rest) := g_callVi C 1 (As := [.int x0]) (rest := rest) (Cn := RX6) (T := TX6) (N := 3) (q0 := 41) (ci := 6) (by decide +kernel) (by decide +kernel) (by decide +kernel) (by decide +kernel) (by decide +kernel) (by decide +kernel) rfl rfl (cI_X6_rankOf h) ⟨rfl, rfl⟩ hR rfl rfl hW d k
/-! IceRun$Standing.manyAt(I)I -/
abbrev rmI_X6_manyAt : Room := { frames := 3, cells := 0, slots := 0, locals := 64 }
def wpI_X6_manyAt_22 (k_4 : Int32 → Int32 → Int32 → St → Prop) (x1 x2 x3 : Int32) (σ : St) (post : Int32 → St → Prop) : Prop := let y1 : Int32 := x3 + 1; k_4 x1 x2 y1 σ
theorem kI_X6_manyAt_22 {X : Kx} {l : Launch} {E : Ev} {a : Nat → Nat} {post : Int32 → St → Prop} (C : Cx X l E RX6 cX6_manyAt rmI_X6_manyAt (some .int)) (hQ : QI X (wI E a) post) (k_4 : Int32 → Int32 → Int32 → St → Prop) (hk_4 : ∀ (x1 x2 x3 : Int32) (σ : St), k_4 x1 x2 x3 σ → G X (wI E a) σ 4 [some (.ref (a 900)), some (.int x1), some (.int x2), some (.int x3)] []) (x1 x2 x3 : Int32) (σ : St) (h : wpI_X6_manyAt_22 k_4 x1 x2 x3 σ post) : G X (wI E a) σ 22 [some (.ref (a 900)), some (.int x1), some (.int x2), some (.int x3)] [] := by
  unfold wpI_X6_manyAt_22 at h
  refine g_iinc C (v := 1) (by decide) dX6_manyAt_22 rfl ?_
  refine g_goto C 4 dX6_manyAt_25 (by decide) ?_
  exact g_wk (hk_4 _ _ _ _ h) (And.intro rfl (And.intro rfl (And.intro rfl (And.intro rfl (trivial)))))
def wpBI_X6_manyAt_4 (k_4 : Int32 → Int32 → Int32 → St → Prop) (x1 x2 x3 : Int32) (σ : St) (post : Int32 → St → Prop) : Prop := ((16 ≤ x3 → post x2 σ) ∧ (¬ 16 ≤ x3 → wpI_X6_rankOf x3 σ (fun r2 σ1 => ((¬ r2 = x1 → wpI_X6_manyAt_22 k_4 x1 x2 x3 σ1 post) ∧ (r2 = x1 → let y3 : Int32 := x2 + 1; wpI_X6_manyAt_22 k_4 x1 y3 x3 σ1 post)))))
def wpI_X6_manyAt_4 (x1 x2 x3 : Int32) (σ : St) (post : Int32 → St → Prop) : Prop := ∃ n : Nat, lpN (α := Int32 × Int32 × Int32 × St) (fun kb t => wpBI_X6_manyAt_4 (fun x1 x2 x3 σ => kb (x1, x2, x3, σ)) t.1 t.2.1 t.2.2.1 t.2.2.2 post) n (x1, x2, x3, σ)
theorem kBI_X6_manyAt_4 {X : Kx} {l : Launch} {E : Ev} {a : Nat → Nat} {post : Int32 → St → Prop} (C : Cx X l E RX6 cX6_manyAt rmI_X6_manyAt (some .int)) (hQ : QI X (wI E a) post) (k_4 : Int32 → Int32 → Int32 → St → Prop) (hk_4 : ∀ (x1 x2 x3 : Int32) (σ : St), k_4 x1 x2 x3 σ → G X (wI E a) σ 4 [some (.ref (a 900)), some (.int x1), some (.int x2), some (.int x3)] []) (x1 x2 x3 : Int32) (σ : St) (h : wpBI_X6_manyAt_4 k_4 x1 x2 x3 σ post) : G X (wI E a) σ 4 [some (.ref (a 900)), some (.int x1), some (.int x2), some (.int x3)] [] := by
  unfold wpBI_X6_manyAt_4 at h
  refine g_iload_3 C dX6_manyAt_4 rfl ?_
  refine g_bipush C (v := 16) (by decide) dX6_manyAt_5 ?_
  refine g_icmp_ge C 28 dX6_manyAt_7 (by decide) (fun q => ?_) (fun q => ?_)
  · have h := h.1 q
    refine g_iload_2 C dX6_manyAt_28 rfl ?_
    exact g_ireturn C hQ dX6_manyAt_29 h
  · have h := h.2 q
    refine g_aload_0 C dX6_manyAt_10 rfl ?_
    refine g_iload_3 C dX6_manyAt_11 rfl ?_
    refine csI_X6_60 C h ⟨Nat.le_of_ble_eq_true rfl, Nat.le_of_ble_eq_true rfl⟩ (Nat.le_of_ble_eq_true rfl) dX6_manyAt_12 (fun _ _ h => ?_)
    refine g_iload_1 C dX6_manyAt_15 rfl ?_
    refine g_icmp_ne C 22 dX6_manyAt_16 (by decide) (fun q => ?_) (fun q => ?_)
    · have h := h.1 q
      exact g_wk (kI_X6_manyAt_22 C hQ _ hk_4 _ _ _ _ h) (And.intro rfl (And.intro rfl (And.intro rfl (And.intro rfl (trivial)))))
    · have h := h.2 q
      refine g_iinc C (v := 1) (by decide) dX6_manyAt_19 rfl ?_
      exact g_wk (kI_X6_manyAt_22 C hQ _ hk_4 _ _ _ _ h) (And.intro rfl (And.intro rfl (And.intro rfl (And.intro rfl (trivial)))))
theorem kI_X6_manyAt_4 {X : Kx} {l : Launch} {E : Ev} {a : Nat → Nat} {post : Int32 → St → Prop} (C : Cx X l E RX6 cX6_manyAt rmI_X6_manyAt (some .int)) (hQ : QI X (wI E a) post) (x1 x2 x3 : Int32) (σ : St) (h : wpI_X6_manyAt_4  x1 x2 x3 σ post) : G X (wI E a) σ 4 [some (.ref (a 900)), some (.int x1), some (.int x2), some (.int x3)] [] := by
  obtain ⟨n, h⟩ := h
  exact g_loop (J := fun t : Int32 × Int32 × Int32 × St => G X (wI E a) t.2.2.2 4 [some (.ref (a 900)), some (.int t.1), some (.int t.2.1), some (.int t.2.2.1)] []) (fun kb hkb t ht => kBI_X6_manyAt_4 C hQ  (fun x1 x2 x3 σ => kb (x1, x2, x3, σ)) (fun x1 x2 x3 σ hh => hkb (x1, x2, x3, σ) hh) t.1 t.2.1 t.2.2.1 t.2.2.2 ht) n (x1, x2, x3, σ) h
def wpI_X6_manyAt (x1 : Int32) (σ : St) (post : Int32 → St → Prop) : Prop := wpI_X6_manyAt_4 x1 0 0 σ post
theorem kI_X6_manyAt {X : Kx} {l : Launch} {E : Ev} {a : Nat → Nat} {post : Int32 → St → Prop} (C : Cx X l E RX6 cX6_manyAt rmI_X6_manyAt (some .int)) (hQ : QI X (wI E a) post) (x1 : Int32) (σ : St) (h : wpI_X6_manyAt x1 σ post) : G X (wI E a) σ 0 [some (.ref (a 900)), some (.int x1), none, none] [] := by
  unfold wpI_X6_manyAt at h
  refine g_iconst_0 C dX6_manyAt_0 ?_
  refine g_istore_2 C dX6_manyAt_1 (Nat.le_of_ble_eq_true rfl) ?_
  refine g_iconst_0 C dX6_manyAt_2 ?_
  refine g_istore_3 C dX6_manyAt_3 (Nat.le_of_ble_eq_true rfl) ?_
  exact g_wk (kI_X6_manyAt_4 C hQ _ _ _ _ h) (And.intro rfl (And.intro rfl (And.intro rfl (And.intro rfl (trivial)))))
theorem cI_X6_manyAt {l : Launch} {E : Ev} {a : Nat → Nat} {x1 : Int32} {σ : St} {post : Int32 → St → Prop} (h : wpI_X6_manyAt x1 σ post) : CI l E (wI E a) yX6_manyAt cX6_manyAt 4 .int rmI_X6_manyAt [.ref (a 900), .int x1] σ post := met_i (by decide) rfl (Nat.le_of_ble_eq_true rfl) rfl (fun X C hQ => kI_X6_manyAt C hQ _ _ h)
/-! IceRun$Standing.listByRank([I)I -/
abbrev rmI_X6_listByRank : Room := { frames := 3, cells := 0, slots := 0, locals := 64 }
def wpI_X6_listByRank_44 (k_4 : Int32 → Int32 → St → Prop) (k_13 : Int32 → Int32 → Int32 → St → Prop) (x2 x3 x4 : Int32) (σ : St) (post : Int32 → St → Prop) : Prop := let y1 : Int32 := x4 + 1; k_13 x2 x3 y1 σ
theorem kI_X6_listByRank_44 {X : Kx} {l : Launch} {E : Ev} {a : Nat → Nat} {post : Int32 → St → Prop} (C : Cx X l E RX6 cX6_listByRank rmI_X6_listByRank (some .int)) (hQ : QI X (wI E a) post) (k_4 : Int32 → Int32 → St → Prop) (hk_4 : ∀ (x2 x3 : Int32) (σ : St), k_4 x2 x3 σ → G X (wI E a) σ 4 [some (.ref (a 900)), some (.ref (a 710)), some (.int x2), some (.int x3), none] []) (k_13 : Int32 → Int32 → Int32 → St → Prop) (hk_13 : ∀ (x2 x3 x4 : Int32) (σ : St), k_13 x2 x3 x4 σ → G X (wI E a) σ 13 [some (.ref (a 900)), some (.ref (a 710)), some (.int x2), some (.int x3), some (.int x4)] []) (x2 x3 x4 : Int32) (σ : St) (h : wpI_X6_listByRank_44 k_4 k_13 x2 x3 x4 σ post) : G X (wI E a) σ 44 [some (.ref (a 900)), some (.ref (a 710)), some (.int x2), some (.int x3), some (.int x4)] [] := by
  unfold wpI_X6_listByRank_44 at h
  refine g_iinc C (v := 1) (by decide) dX6_listByRank_44 rfl ?_
  refine g_goto C 13 dX6_listByRank_47 (by decide) ?_
  exact g_wk (hk_13 _ _ _ _ h) (And.intro rfl (And.intro rfl (And.intro rfl (And.intro rfl (And.intro rfl (trivial))))))
def wpBI_X6_listByRank_13 (k_4 : Int32 → Int32 → St → Prop) (k_13 : Int32 → Int32 → Int32 → St → Prop) (x2 x3 x4 : Int32) (σ : St) (post : Int32 → St → Prop) : Prop := ((16 ≤ x4 → let y1 : Int32 := x3 + 1; k_4 x2 y1 σ) ∧ (¬ 16 ≤ x4 → wpI_X6_rankOf x4 σ (fun r3 σ2 => ((¬ r3 = x3 → wpI_X6_listByRank_44 k_4 k_13 x2 x3 x4 σ2 post) ∧ (r3 = x3 → ((16 ≤ x2 → wpI_X6_listByRank_44 k_4 k_13 x2 x3 x4 σ2 post) ∧ (¬ 16 ≤ x2 → vp_in x2 16 ∧ (let σ4 : St := pA σ2 709 (Int32.toNatClampNeg x2) x4; let y5 : Int32 := x2 + 1; wpI_X6_listByRank_44 k_4 k_13 y5 x3 x4 σ4 post))))))))
def wpI_X6_listByRank_13 (k_4 : Int32 → Int32 → St → Prop) (x2 x3 x4 : Int32) (σ : St) (post : Int32 → St → Prop) : Prop := ∃ n : Nat, lpN (α := Int32 × Int32 × Int32 × St) (fun kb t => wpBI_X6_listByRank_13 k_4 (fun x2 x3 x4 σ => kb (x2, x3, x4, σ)) t.1 t.2.1 t.2.2.1 t.2.2.2 post) n (x2, x3, x4, σ)
theorem kBI_X6_listByRank_13 {X : Kx} {l : Launch} {E : Ev} {a : Nat → Nat} {post : Int32 → St → Prop} (C : Cx X l E RX6 cX6_listByRank rmI_X6_listByRank (some .int)) (hQ : QI X (wI E a) post) (k_4 : Int32 → Int32 → St → Prop) (hk_4 : ∀ (x2 x3 : Int32) (σ : St), k_4 x2 x3 σ → G X (wI E a) σ 4 [some (.ref (a 900)), some (.ref (a 710)), some (.int x2), some (.int x3), none] []) (k_13 : Int32 → Int32 → Int32 → St → Prop) (hk_13 : ∀ (x2 x3 x4 : Int32) (σ : St), k_13 x2 x3 x4 σ → G X (wI E a) σ 13 [some (.ref (a 900)), some (.ref (a 710)), some (.int x2), some (.int x3), some (.int x4)] []) (x2 x3 x4 : Int32) (σ : St) (h : wpBI_X6_listByRank_13 k_4 k_13 x2 x3 x4 σ post) : G X (wI E a) σ 13 [some (.ref (a 900)), some (.ref (a 710)), some (.int x2), some (.int x3), some (.int x4)] [] := by
  unfold wpBI_X6_listByRank_13 at h
  refine g_iload C dX6_listByRank_13 rfl ?_
  refine g_bipush C (v := 16) (by decide) dX6_listByRank_15 ?_
  refine g_icmp_ge C 50 dX6_listByRank_17 (by decide) (fun q => ?_) (fun q => ?_)
  · have h := h.1 q
    refine g_iinc C (v := 1) (by decide) dX6_listByRank_50 rfl ?_
    refine g_goto C 4 dX6_listByRank_53 (by decide) ?_
    exact g_wk (hk_4 _ _ _ h) (And.intro rfl (And.intro rfl (And.intro rfl (And.intro rfl (trivial)))))
  · have h := h.2 q
    refine g_aload_0 C dX6_listByRank_20 rfl ?_
    refine g_iload C dX6_listByRank_21 rfl ?_
    refine csI_X6_60 C h ⟨Nat.le_of_ble_eq_true rfl, Nat.le_of_ble_eq_true rfl⟩ (Nat.le_of_ble_eq_true rfl) dX6_listByRank_23 (fun _ _ h => ?_)
    refine g_iload_3 C dX6_listByRank_26 rfl ?_
    refine g_icmp_ne C 44 dX6_listByRank_27 (by decide) (fun q => ?_) (fun q => ?_)
    · have h := h.1 q
      exact g_wk (kI_X6_listByRank_44 C hQ _ hk_4 _ hk_13 _ _ _ _ h) (And.intro rfl (And.intro rfl (And.intro rfl (And.intro rfl (And.intro rfl (trivial))))))
    · have h := h.2 q
      refine g_iload_2 C dX6_listByRank_30 rfl ?_
      refine g_aload_1 C dX6_listByRank_31 rfl ?_
      refine g_alen0 C (q0 := 31) (v := 16) rfl rfl dX6_listByRank_32 ?_
      refine g_icmp_ge C 44 dX6_listByRank_33 (by decide) (fun q => ?_) (fun q => ?_)
      · have h := h.1 q
        exact g_wk (kI_X6_listByRank_44 C hQ _ hk_4 _ hk_13 _ _ _ _ h) (And.intro rfl (And.intro rfl (And.intro rfl (And.intro rfl (And.intro rfl (trivial))))))
      · have h := h.2 q
        refine g_aload_1 C dX6_listByRank_36 rfl ?_
        refine g_iload_2 C dX6_listByRank_37 rfl ?_
        refine g_iload C dX6_listByRank_38 rfl ?_
        obtain ⟨q, h⟩ := h
        refine asI_709 C q dX6_listByRank_40 ?_
        refine g_iinc C (v := 1) (by decide) dX6_listByRank_41 rfl ?_
        exact g_wk (kI_X6_listByRank_44 C hQ _ hk_4 _ hk_13 _ _ _ _ h) (And.intro rfl (And.intro rfl (And.intro rfl (And.intro rfl (And.intro rfl (trivial))))))
theorem kI_X6_listByRank_13 {X : Kx} {l : Launch} {E : Ev} {a : Nat → Nat} {post : Int32 → St → Prop} (C : Cx X l E RX6 cX6_listByRank rmI_X6_listByRank (some .int)) (hQ : QI X (wI E a) post) (k_4 : Int32 → Int32 → St → Prop) (hk_4 : ∀ (x2 x3 : Int32) (σ : St), k_4 x2 x3 σ → G X (wI E a) σ 4 [some (.ref (a 900)), some (.ref (a 710)), some (.int x2), some (.int x3), none] []) (x2 x3 x4 : Int32) (σ : St) (h : wpI_X6_listByRank_13 k_4 x2 x3 x4 σ post) : G X (wI E a) σ 13 [some (.ref (a 900)), some (.ref (a 710)), some (.int x2), some (.int x3), some (.int x4)] [] := by
  obtain ⟨n, h⟩ := h
  exact g_loop (J := fun t : Int32 × Int32 × Int32 × St => G X (wI E a) t.2.2.2 13 [some (.ref (a 900)), some (.ref (a 710)), some (.int t.1), some (.int t.2.1), some (.int t.2.2.1)] []) (fun kb hkb t ht => kBI_X6_listByRank_13 C hQ k_4 hk_4 (fun x2 x3 x4 σ => kb (x2, x3, x4, σ)) (fun x2 x3 x4 σ hh => hkb (x2, x3, x4, σ) hh) t.1 t.2.1 t.2.2.1 t.2.2.2 ht) n (x2, x3, x4, σ) h
def wpBI_X6_listByRank_4 (k_4 : Int32 → Int32 → St → Prop) (x2 x3 : Int32) (σ : St) (post : Int32 → St → Prop) : Prop := ((16 < x3 → post x2 σ) ∧ (¬ 16 < x3 → wpI_X6_listByRank_13 k_4 x2 x3 0 σ post))
def wpI_X6_listByRank_4 (x2 x3 : Int32) (σ : St) (post : Int32 → St → Prop) : Prop := ∃ n : Nat, lpN (α := Int32 × Int32 × St) (fun kb t => wpBI_X6_listByRank_4 (fun x2 x3 σ => kb (x2, x3, σ)) t.1 t.2.1 t.2.2 post) n (x2, x3, σ)
theorem kBI_X6_listByRank_4 {X : Kx} {l : Launch} {E : Ev} {a : Nat → Nat} {post : Int32 → St → Prop} (C : Cx X l E RX6 cX6_listByRank rmI_X6_listByRank (some .int)) (hQ : QI X (wI E a) post) (k_4 : Int32 → Int32 → St → Prop) (hk_4 : ∀ (x2 x3 : Int32) (σ : St), k_4 x2 x3 σ → G X (wI E a) σ 4 [some (.ref (a 900)), some (.ref (a 710)), some (.int x2), some (.int x3), none] []) (x2 x3 : Int32) (σ : St) (h : wpBI_X6_listByRank_4 k_4 x2 x3 σ post) : G X (wI E a) σ 4 [some (.ref (a 900)), some (.ref (a 710)), some (.int x2), some (.int x3), none] [] := by
  unfold wpBI_X6_listByRank_4 at h
  refine g_iload_3 C dX6_listByRank_4 rfl ?_
  refine g_bipush C (v := 16) (by decide) dX6_listByRank_5 ?_
  refine g_icmp_gt C 56 dX6_listByRank_7 (by decide) (fun q => ?_) (fun q => ?_)
  · have h := h.1 q
    refine g_iload_2 C dX6_listByRank_56 rfl ?_
    exact g_ireturn C hQ dX6_listByRank_57 h
  · have h := h.2 q
    refine g_iconst_0 C dX6_listByRank_10 ?_
    refine g_istore C dX6_listByRank_11 (Nat.le_of_ble_eq_true rfl) ?_
    exact g_wk (kI_X6_listByRank_13 C hQ _ hk_4 _ _ _ _ h) (And.intro rfl (And.intro rfl (And.intro rfl (And.intro rfl (And.intro rfl (trivial))))))
theorem kI_X6_listByRank_4 {X : Kx} {l : Launch} {E : Ev} {a : Nat → Nat} {post : Int32 → St → Prop} (C : Cx X l E RX6 cX6_listByRank rmI_X6_listByRank (some .int)) (hQ : QI X (wI E a) post) (x2 x3 : Int32) (σ : St) (h : wpI_X6_listByRank_4  x2 x3 σ post) : G X (wI E a) σ 4 [some (.ref (a 900)), some (.ref (a 710)), some (.int x2), some (.int x3), none] [] := by
  obtain ⟨n, h⟩ := h
  exact g_loop (J := fun t : Int32 × Int32 × St => G X (wI E a) t.2.2 4 [some (.ref (a 900)), some (.ref (a 710)), some (.int t.1), some (.int t.2.1), none] []) (fun kb hkb t ht => kBI_X6_listByRank_4 C hQ  (fun x2 x3 σ => kb (x2, x3, σ)) (fun x2 x3 σ hh => hkb (x2, x3, σ) hh) t.1 t.2.1 t.2.2 ht) n (x2, x3, σ) h
def wpI_X6_listByRank (σ : St) (post : Int32 → St → Prop) : Prop := wpI_X6_listByRank_4 0 1 σ post
theorem kI_X6_listByRank {X : Kx} {l : Launch} {E : Ev} {a : Nat → Nat} {post : Int32 → St → Prop} (C : Cx X l E RX6 cX6_listByRank rmI_X6_listByRank (some .int)) (hQ : QI X (wI E a) post) (σ : St) (h : wpI_X6_listByRank  σ post) : G X (wI E a) σ 0 [some (.ref (a 900)), some (.ref (a 710)), none, none, none] [] := by
  unfold wpI_X6_listByRank at h
  refine g_iconst_0 C dX6_listByRank_0 ?_
  refine g_istore_2 C dX6_listByRank_1 (Nat.le_of_ble_eq_true rfl) ?_
  refine g_iconst_1 C dX6_listByRank_2 ?_
  refine g_istore_3 C dX6_listByRank_3 (Nat.le_of_ble_eq_true rfl) ?_
  exact g_wk (kI_X6_listByRank_4 C hQ _ _ _ h) (And.intro rfl (And.intro rfl (And.intro rfl (And.intro rfl (trivial)))))
theorem cI_X6_listByRank {l : Launch} {E : Ev} {a : Nat → Nat} {σ : St} {post : Int32 → St → Prop} (h : wpI_X6_listByRank  σ post) : CI l E (wI E a) yX6_listByRank cX6_listByRank 5 .int rmI_X6_listByRank [.ref (a 900), .ref (a 710)] σ post := met_i (by decide) rfl (Nat.le_of_ble_eq_true rfl) rfl (fun X C hQ => kI_X6_listByRank C hQ _ h)
theorem asI_401 {X : Kx} {l : Launch} {E : Ev} {a : Nat → Nat} {σ : St} {cc : ByteArray} {rm : Room} {ret : Option FieldType} {pc : Nat} {lv : List (Option Value)} {st : List Value} {own : String} {i x : Int32} (C : Cx X l E own cc rm ret) (hin : vp_in i 300) (d : decode cc pc = .ok (.bastore, 1)) (k : G X (wI E a) (pA σ 401 i.toNatClampNeg (vp_nar .byte x)) (pc + 1) lv st) : G X (wI E a) σ pc lv (.int x :: .int i :: .ref (a 402) :: st) := g_bast C (q0 := 24) rfl rfl hin d k
theorem fpI_X7_9 {X : Kx} {l : Launch} {E : Ev} {a : Nat → Nat} {σ : St} {cc : ByteArray} {rm : Room} {ret : Option FieldType} {pc : Nat} {lv : List (Option Value)} {st : List Value} {v : Int32} (C : Cx X l E RX7 cc rm ret) (d : decode cc pc = .ok (.putfield 9, 3)) (k : G X (wI E a) (pI σ 400 v) (pc + 3) lv st) : G X (wI E a) σ pc lv (.int v :: .ref (a 400) :: st) := g_put C (q0 := 23) (ci := 7) (k := 0) (ty0 := tyX7) rfl rfl inU_X7 (by decide) tyX7_ok nmX7 (by decide +kernel) rfl rfl rfl (Nat.le_of_ble_eq_true rfl) rfl d k
/-! IceRun$Tape.append(I)V -/
abbrev rmI_X7_append : Room := { frames := 0, cells := 0, slots := 0, locals := 0 }
def wpI_X7_append_46 (σ : St) (post : St → Prop) : Prop := post σ
theorem kI_X7_append_46 {X : Kx} {l : Launch} {E : Ev} {a : Nat → Nat} {post : St → Prop} (C : Cx X l E RX7 cX7_append rmI_X7_append none) (hQ : QV X (wI E a) post) (σ : St) (h : wpI_X7_append_46   σ post) : G X (wI E a) σ 46 [none, none, none] [] := by
  unfold wpI_X7_append_46 at h
  exact g_return C hQ dX7_append_46 h
def wpBI_X7_append_3 (k_3 : Int32 → Int32 → St → Prop) (x1 x2 : Int32) (σ : St) (post : St → Prop) : Prop := ((x2 < 0 → wpI_X7_append_46 σ post) ∧ (¬ x2 < 0 → ((300 ≤ (σ.1 400) → wpI_X7_append_46 σ post) ∧ (¬ 300 ≤ (σ.1 400) → vp_in (σ.1 400) 300 ∧ (let σ1 : St := pA σ 401 (Int32.toNatClampNeg (σ.1 400)) (vp_nar .byte ((Int32.toInt8 ((Int32.toUInt32 x1 >>> (Int32.toUInt32 x2 &&& Int32.toUInt32 31)).toInt32)).toInt32)); let σ2 : St := pI σ1 400 ((σ1.1 400) + 1); let y3 : Int32 := x2 + (-8); k_3 x1 y3 σ2)))))
def wpI_X7_append_3 (x1 x2 : Int32) (σ : St) (post : St → Prop) : Prop := ∃ n : Nat, lpN (α := Int32 × Int32 × St) (fun kb t => wpBI_X7_append_3 (fun x1 x2 σ => kb (x1, x2, σ)) t.1 t.2.1 t.2.2 post) n (x1, x2, σ)
theorem kBI_X7_append_3 {X : Kx} {l : Launch} {E : Ev} {a : Nat → Nat} {post : St → Prop} (C : Cx X l E RX7 cX7_append rmI_X7_append none) (hQ : QV X (wI E a) post) (k_3 : Int32 → Int32 → St → Prop) (hk_3 : ∀ (x1 x2 : Int32) (σ : St), k_3 x1 x2 σ → G X (wI E a) σ 3 [some (.ref (a 400)), some (.int x1), some (.int x2)] []) (x1 x2 : Int32) (σ : St) (h : wpBI_X7_append_3 k_3 x1 x2 σ post) : G X (wI E a) σ 3 [some (.ref (a 400)), some (.int x1), some (.int x2)] [] := by
  unfold wpBI_X7_append_3 at h
  refine g_iload_2 C dX7_append_3 rfl ?_
  refine g_if_lt C 46 dX7_append_4 (by decide) (fun q => ?_) (fun q => ?_)
  · have h := h.1 q
    exact g_wk (kI_X7_append_46 C hQ _ h) (trivial)
  · have h := h.2 q
    refine g_aload_0 C dX7_append_7 rfl ?_
    refine fgI_X7_9 C dX7_append_8 ?_
    refine g_sipush C (v := 300) (by decide) dX7_append_11 ?_
    refine g_icmp_ge C 46 dX7_append_14 (by decide) (fun q => ?_) (fun q => ?_)
    · have h := h.1 q
      exact g_wk (kI_X7_append_46 C hQ _ h) (trivial)
    · have h := h.2 q
      refine g_aload_0 C dX7_append_17 rfl ?_
      refine fgI_X7_15 C dX7_append_18 ?_
      refine g_aload_0 C dX7_append_21 rfl ?_
      refine fgI_X7_9 C dX7_append_22 ?_
      refine g_iload_1 C dX7_append_25 rfl ?_
      refine g_iload_2 C dX7_append_26 rfl ?_
      refine g_iushr C dX7_append_27 ?_
      refine g_i2b C dX7_append_28 ?_
      obtain ⟨q, h⟩ := h
      refine asI_401 C q dX7_append_29 ?_
      refine g_aload_0 C dX7_append_30 rfl ?_
      refine g_dup C dX7_append_31 rfl ?_
      refine fgI_X7_9 C dX7_append_32 ?_
      refine g_iconst_1 C dX7_append_35 ?_
      refine g_iadd C dX7_append_36 ?_
      refine fpI_X7_9 C dX7_append_37 ?_
      refine g_iinc C (v := (-8)) (by decide) dX7_append_40 rfl ?_
      refine g_goto C 3 dX7_append_43 (by decide) ?_
      exact g_wk (hk_3 _ _ _ h) (And.intro rfl (And.intro rfl (And.intro rfl (trivial))))
theorem kI_X7_append_3 {X : Kx} {l : Launch} {E : Ev} {a : Nat → Nat} {post : St → Prop} (C : Cx X l E RX7 cX7_append rmI_X7_append none) (hQ : QV X (wI E a) post) (x1 x2 : Int32) (σ : St) (h : wpI_X7_append_3  x1 x2 σ post) : G X (wI E a) σ 3 [some (.ref (a 400)), some (.int x1), some (.int x2)] [] := by
  obtain ⟨n, h⟩ := h
  exact g_loop (J := fun t : Int32 × Int32 × St => G X (wI E a) t.2.2 3 [some (.ref (a 400)), some (.int t.1), some (.int t.2.1)] []) (fun kb hkb t ht => kBI_X7_append_3 C hQ  (fun x1 x2 σ => kb (x1, x2, σ)) (fun x1 x2 σ hh => hkb (x1, x2, σ) hh) t.1 t.2.1 t.2.2 ht) n (x1, x2, σ) h
def wpI_X7_append (x1 : Int32) (σ : St) (post : St → Prop) : Prop := wpI_X7_append_3 x1 24 σ post
theorem kI_X7_append {X : Kx} {l : Launch} {E : Ev} {a : Nat → Nat} {post : St → Prop} (C : Cx X l E RX7 cX7_append rmI_X7_append none) (hQ : QV X (wI E a) post) (x1 : Int32) (σ : St) (h : wpI_X7_append x1 σ post) : G X (wI E a) σ 0 [some (.ref (a 400)), some (.int x1), none] [] := by
  unfold wpI_X7_append at h
  refine g_bipush C (v := 24) (by decide) dX7_append_0 ?_
  refine g_istore_2 C dX7_append_2 (Nat.le_of_ble_eq_true rfl) ?_
  exact g_wk (kI_X7_append_3 C hQ _ _ _ h) (And.intro rfl (And.intro rfl (And.intro rfl (trivial))))
theorem cI_X7_append {l : Launch} {E : Ev} {a : Nat → Nat} {x1 : Int32} {σ : St} {post : St → Prop} (h : wpI_X7_append x1 σ post) : CV l E (wI E a) yX7_append cX7_append 3 rmI_X7_append [.ref (a 400), .int x1] σ post := met_v (by decide) rfl (Nat.le_of_ble_eq_true rfl) rfl (fun X C hQ => kI_X7_append C hQ _ _ h)
theorem fgI_X8_37 {X : Kx} {l : Launch} {E : Ev} {a : Nat → Nat} {σ : St} {cc : ByteArray} {rm : Room} {ret : Option FieldType} {pc : Nat} {lv : List (Option Value)} {st : List Value} (C : Cx X l E RX8 cc rm ret) (d : decode cc pc = .ok (.getfield 37, 3)) (k : G X (wI E a) σ (pc + 3) lv (.ref (a 109) :: st)) : G X (wI E a) σ pc lv (.ref (a 100) :: st) := g_get C (q0 := 1) (ci := 8) (k := 8) rfl rfl inU_X8 (by decide) (by decide +kernel) rfl d k
theorem asI_108 {X : Kx} {l : Launch} {E : Ev} {a : Nat → Nat} {σ : St} {cc : ByteArray} {rm : Room} {ret : Option FieldType} {pc : Nat} {lv : List (Option Value)} {st : List Value} {own : String} {i x : Int32} (C : Cx X l E own cc rm ret) (hin : vp_in i 12) (d : decode cc pc = .ok (.iastore, 1)) (k : G X (wI E a) (pA σ 108 i.toNatClampNeg x) (pc + 1) lv st) : G X (wI E a) σ pc lv (.int x :: .int i :: .ref (a 109) :: st) := g_iast C (q0 := 8) rfl rfl hin d k
theorem asI_107 {X : Kx} {l : Launch} {E : Ev} {a : Nat → Nat} {σ : St} {cc : ByteArray} {rm : Room} {ret : Option FieldType} {pc : Nat} {lv : List (Option Value)} {st : List Value} {own : String} {i x : Int32} (C : Cx X l E own cc rm ret) (hin : vp_in i 6) (d : decode cc pc = .ok (.iastore, 1)) (k : G X (wI E a) (pA σ 107 i.toNatClampNeg x) (pc + 1) lv st) : G X (wI E a) σ pc lv (.int x :: .int i :: .ref (a 108) :: st) := g_iast C (q0 := 7) rfl rfl hin d k
theorem fgI_X8_34 {X : Kx} {l : Launch} {E : Ev} {a : Nat → Nat} {σ : St} {cc : ByteArray} {rm : Room} {ret : Option FieldType} {pc : Nat} {lv : List (Option Value)} {st : List Value} (C : Cx X l E RX8 cc rm ret) (d : decode cc pc = .ok (.getfield 34, 3)) (k : G X (wI E a) σ (pc + 3) lv (.ref (a 108) :: st)) : G X (wI E a) σ pc lv (.ref (a 100) :: st) := g_get C (q0 := 1) (ci := 8) (k := 7) rfl rfl inU_X8 (by decide) (by decide +kernel) rfl d k
theorem fgI_X8_18 {X : Kx} {l : Launch} {E : Ev} {a : Nat → Nat} {σ : St} {cc : ByteArray} {rm : Room} {ret : Option FieldType} {pc : Nat} {lv : List (Option Value)} {st : List Value} (C : Cx X l E RX8 cc rm ret) (d : decode cc pc = .ok (.getfield 18, 3)) (k : G X (wI E a) σ (pc + 3) lv (.ref (a 103) :: st)) : G X (wI E a) σ pc lv (.ref (a 100) :: st) := g_get C (q0 := 1) (ci := 8) (k := 2) rfl rfl inU_X8 (by decide) (by decide +kernel) rfl d k
theorem asI_102 {X : Kx} {l : Launch} {E : Ev} {a : Nat → Nat} {σ : St} {cc : ByteArray} {rm : Room} {ret : Option FieldType} {pc : Nat} {lv : List (Option Value)} {st : List Value} {own : String} {i x : Int32} (C : Cx X l E own cc rm ret) (hin : vp_in i 40) (d : decode cc pc = .ok (.iastore, 1)) (k : G X (wI E a) (pA σ 102 i.toNatClampNeg x) (pc + 1) lv st) : G X (wI E a) σ pc lv (.int x :: .int i :: .ref (a 103) :: st) := g_iast C (q0 := 2) rfl rfl hin d k
theorem fgI_X8_22 {X : Kx} {l : Launch} {E : Ev} {a : Nat → Nat} {σ : St} {cc : ByteArray} {rm : Room} {ret : Option FieldType} {pc : Nat} {lv : List (Option Value)} {st : List Value} (C : Cx X l E RX8 cc rm ret) (d : decode cc pc = .ok (.getfield 22, 3)) (k : G X (wI E a) σ (pc + 3) lv (.ref (a 104) :: st)) : G X (wI E a) σ pc lv (.ref (a 100) :: st) := g_get C (q0 := 1) (ci := 8) (k := 3) rfl rfl inU_X8 (by decide) (by decide +kernel) rfl d k
theorem asI_103 {X : Kx} {l : Launch} {E : Ev} {a : Nat → Nat} {σ : St} {cc : ByteArray} {rm : Room} {ret : Option FieldType} {pc : Nat} {lv : List (Option Value)} {st : List Value} {own : String} {i x : Int32} (C : Cx X l E own cc rm ret) (hin : vp_in i 40) (d : decode cc pc = .ok (.iastore, 1)) (k : G X (wI E a) (pA σ 103 i.toNatClampNeg x) (pc + 1) lv st) : G X (wI E a) σ pc lv (.int x :: .int i :: .ref (a 104) :: st) := g_iast C (q0 := 3) rfl rfl hin d k
theorem fgI_X8_25 {X : Kx} {l : Launch} {E : Ev} {a : Nat → Nat} {σ : St} {cc : ByteArray} {rm : Room} {ret : Option FieldType} {pc : Nat} {lv : List (Option Value)} {st : List Value} (C : Cx X l E RX8 cc rm ret) (d : decode cc pc = .ok (.getfield 25, 3)) (k : G X (wI E a) σ (pc + 3) lv (.ref (a 105) :: st)) : G X (wI E a) σ pc lv (.ref (a 100) :: st) := g_get C (q0 := 1) (ci := 8) (k := 4) rfl rfl inU_X8 (by decide) (by decide +kernel) rfl d k
theorem asI_104 {X : Kx} {l : Launch} {E : Ev} {a : Nat → Nat} {σ : St} {cc : ByteArray} {rm : Room} {ret : Option FieldType} {pc : Nat} {lv : List (Option Value)} {st : List Value} {own : String} {i x : Int32} (C : Cx X l E own cc rm ret) (hin : vp_in i 40) (d : decode cc pc = .ok (.iastore, 1)) (k : G X (wI E a) (pA σ 104 i.toNatClampNeg x) (pc + 1) lv st) : G X (wI E a) σ pc lv (.int x :: .int i :: .ref (a 105) :: st) := g_iast C (q0 := 4) rfl rfl hin d k
theorem fgI_X8_28 {X : Kx} {l : Launch} {E : Ev} {a : Nat → Nat} {σ : St} {cc : ByteArray} {rm : Room} {ret : Option FieldType} {pc : Nat} {lv : List (Option Value)} {st : List Value} (C : Cx X l E RX8 cc rm ret) (d : decode cc pc = .ok (.getfield 28, 3)) (k : G X (wI E a) σ (pc + 3) lv (.ref (a 106) :: st)) : G X (wI E a) σ pc lv (.ref (a 100) :: st) := g_get C (q0 := 1) (ci := 8) (k := 5) rfl rfl inU_X8 (by decide) (by decide +kernel) rfl d k
theorem asI_105 {X : Kx} {l : Launch} {E : Ev} {a : Nat → Nat} {σ : St} {cc : ByteArray} {rm : Room} {ret : Option FieldType} {pc : Nat} {lv : List (Option Value)} {st : List Value} {own : String} {i x : Int32} (C : Cx X l E own cc rm ret) (hin : vp_in i 40) (d : decode cc pc = .ok (.iastore, 1)) (k : G X (wI E a) (pA σ 105 i.toNatClampNeg x) (pc + 1) lv st) : G X (wI E a) σ pc lv (.int x :: .int i :: .ref (a 106) :: st) := g_iast C (q0 := 5) rfl rfl hin d k
theorem fgI_X8_31 {X : Kx} {l : Launch} {E : Ev} {a : Nat → Nat} {σ : St} {cc : ByteArray} {rm : Room} {ret : Option FieldType} {pc : Nat} {lv : List (Option Value)} {st : List Value} (C : Cx X l E RX8 cc rm ret) (d : decode cc pc = .ok (.getfield 31, 3)) (k : G X (wI E a) σ (pc + 3) lv (.ref (a 107) :: st)) : G X (wI E a) σ pc lv (.ref (a 100) :: st) := g_get C (q0 := 1) (ci := 8) (k := 6) rfl rfl inU_X8 (by decide) (by decide +kernel) rfl d k
theorem asI_106 {X : Kx} {l : Launch} {E : Ev} {a : Nat → Nat} {σ : St} {cc : ByteArray} {rm : Room} {ret : Option FieldType} {pc : Nat} {lv : List (Option Value)} {st : List Value} {own : String} {i x : Int32} (C : Cx X l E own cc rm ret) (hin : vp_in i 40) (d : decode cc pc = .ok (.iastore, 1)) (k : G X (wI E a) (pA σ 106 i.toNatClampNeg x) (pc + 1) lv st) : G X (wI E a) σ pc lv (.int x :: .int i :: .ref (a 107) :: st) := g_iast C (q0 := 6) rfl rfl hin d k
theorem fpI_X8_9 {X : Kx} {l : Launch} {E : Ev} {a : Nat → Nat} {σ : St} {cc : ByteArray} {rm : Room} {ret : Option FieldType} {pc : Nat} {lv : List (Option Value)} {st : List Value} {v : Int32} (C : Cx X l E RX8 cc rm ret) (d : decode cc pc = .ok (.putfield 9, 3)) (k : G X (wI E a) (pI σ 100 v) (pc + 3) lv st) : G X (wI E a) σ pc lv (.int v :: .ref (a 100) :: st) := g_put C (q0 := 1) (ci := 8) (k := 0) (ty0 := tyX8) rfl rfl inU_X8 (by decide) tyX8_ok nmX8 (by decide +kernel) rfl rfl rfl (Nat.le_of_ble_eq_true rfl) rfl d k
theorem fpI_X8_15 {X : Kx} {l : Launch} {E : Ev} {a : Nat → Nat} {σ : St} {cc : ByteArray} {rm : Room} {ret : Option FieldType} {pc : Nat} {lv : List (Option Value)} {st : List Value} {v : Int32} (C : Cx X l E RX8 cc rm ret) (d : decode cc pc = .ok (.putfield 15, 3)) (k : G X (wI E a) (pI σ 101 v) (pc + 3) lv st) : G X (wI E a) σ pc lv (.int v :: .ref (a 100) :: st) := g_put C (q0 := 1) (ci := 8) (k := 1) (ty0 := tyX8) rfl rfl inU_X8 (by decide) tyX8_ok nmX8 (by decide +kernel) rfl rfl rfl (Nat.le_of_ble_eq_true rfl) rfl d k
/-! IceRun$Track.makeAnew(II)V -/
abbrev rmI_X8_makeAnew : Room := { frames := 0, cells := 0, slots := 0, locals := 0 }
def wpBI_X8_makeAnew_99 (k_99 : Int32 → St → Prop) (x3 : Int32) (σ : St) (post : St → Prop) : Prop := ((12 ≤ x3 → post σ) ∧ (¬ 12 ≤ x3 → vp_in x3 12 ∧ (let σ1 : St := pA σ 108 (Int32.toNatClampNeg x3) 0; let y2 : Int32 := x3 + 1; k_99 y2 σ1)))
def wpI_X8_makeAnew_99 (x3 : Int32) (σ : St) (post : St → Prop) : Prop := ∃ n : Nat, lpN (α := Int32 × St) (fun kb t => wpBI_X8_makeAnew_99 (fun x3 σ => kb (x3, σ)) t.1 t.2 post) n (x3, σ)
theorem kBI_X8_makeAnew_99 {X : Kx} {l : Launch} {E : Ev} {a : Nat → Nat} {post : St → Prop} (C : Cx X l E RX8 cX8_makeAnew rmI_X8_makeAnew none) (hQ : QV X (wI E a) post) (k_99 : Int32 → St → Prop) (hk_99 : ∀ (x3 : Int32) (σ : St), k_99 x3 σ → G X (wI E a) σ 99 [some (.ref (a 100)), none, none, some (.int x3)] []) (x3 : Int32) (σ : St) (h : wpBI_X8_makeAnew_99 k_99 x3 σ post) : G X (wI E a) σ 99 [some (.ref (a 100)), none, none, some (.int x3)] [] := by
  unfold wpBI_X8_makeAnew_99 at h
  refine g_iload_3 C dX8_makeAnew_99 rfl ?_
  refine g_aload_0 C dX8_makeAnew_100 rfl ?_
  refine fgI_X8_37 C dX8_makeAnew_101 ?_
  refine g_alen0 C (q0 := 8) (v := 12) rfl rfl dX8_makeAnew_104 ?_
  refine g_icmp_ge C 121 dX8_makeAnew_105 (by decide) (fun q => ?_) (fun q => ?_)
  · have h := h.1 q
    exact g_return C hQ dX8_makeAnew_121 h
  · have h := h.2 q
    refine g_aload_0 C dX8_makeAnew_108 rfl ?_
    refine fgI_X8_37 C dX8_makeAnew_109 ?_
    refine g_iload_3 C dX8_makeAnew_112 rfl ?_
    refine g_iconst_0 C dX8_makeAnew_113 ?_
    obtain ⟨q, h⟩ := h
    refine asI_108 C q dX8_makeAnew_114 ?_
    refine g_iinc C (v := 1) (by decide) dX8_makeAnew_115 rfl ?_
    refine g_goto C 99 dX8_makeAnew_118 (by decide) ?_
    exact g_wk (hk_99 _ _ h) (And.intro rfl (And.intro rfl (trivial)))
theorem kI_X8_makeAnew_99 {X : Kx} {l : Launch} {E : Ev} {a : Nat → Nat} {post : St → Prop} (C : Cx X l E RX8 cX8_makeAnew rmI_X8_makeAnew none) (hQ : QV X (wI E a) post) (x3 : Int32) (σ : St) (h : wpI_X8_makeAnew_99  x3 σ post) : G X (wI E a) σ 99 [some (.ref (a 100)), none, none, some (.int x3)] [] := by
  obtain ⟨n, h⟩ := h
  exact g_loop (J := fun t : Int32 × St => G X (wI E a) t.2 99 [some (.ref (a 100)), none, none, some (.int t.1)] []) (fun kb hkb t ht => kBI_X8_makeAnew_99 C hQ  (fun x3 σ => kb (x3, σ)) (fun x3 σ hh => hkb (x3, σ) hh) t.1 t.2 ht) n (x3, σ) h
def wpI_X8_makeAnew_90 (k_64 : Int32 → Int32 → Int32 → St → Prop) (x1 x2 x3 s1 s2 : Int32) (σ : St) (post : St → Prop) : Prop := vp_in s1 6 ∧ (let σ1 : St := pA σ 107 (Int32.toNatClampNeg s1) s2; let y2 : Int32 := x3 + 1; k_64 x1 x2 y2 σ1)
theorem kI_X8_makeAnew_90 {X : Kx} {l : Launch} {E : Ev} {a : Nat → Nat} {post : St → Prop} (C : Cx X l E RX8 cX8_makeAnew rmI_X8_makeAnew none) (hQ : QV X (wI E a) post) (k_64 : Int32 → Int32 → Int32 → St → Prop) (hk_64 : ∀ (x1 x2 x3 : Int32) (σ : St), k_64 x1 x2 x3 σ → G X (wI E a) σ 64 [some (.ref (a 100)), some (.int x1), some (.int x2), some (.int x3)] []) (x1 x2 x3 s1 s2 : Int32) (σ : St) (h : wpI_X8_makeAnew_90 k_64 x1 x2 x3 s1 s2 σ post) : G X (wI E a) σ 90 [some (.ref (a 100)), some (.int x1), some (.int x2), some (.int x3)] [.int s2, .int s1, .ref (a 108)] := by
  unfold wpI_X8_makeAnew_90 at h
  obtain ⟨q, h⟩ := h
  refine asI_107 C q dX8_makeAnew_90 ?_
  refine g_iinc C (v := 1) (by decide) dX8_makeAnew_91 rfl ?_
  refine g_goto C 64 dX8_makeAnew_94 (by decide) ?_
  exact g_wk (hk_64 _ _ _ _ h) (And.intro rfl (And.intro rfl (And.intro rfl (And.intro rfl (trivial)))))
def wpBI_X8_makeAnew_64 (k_64 : Int32 → Int32 → Int32 → St → Prop) (x1 x2 x3 : Int32) (σ : St) (post : St → Prop) : Prop := ((x2 ≤ x3 → wpI_X8_makeAnew_99 0 σ post) ∧ (¬ x2 ≤ x3 → ((x2 ≤ 1 → wpI_X8_makeAnew_90 k_64 x1 x2 x3 x3 0 σ post) ∧ (¬ x2 ≤ 1 → (¬ (x2 - 1) = 0) ∧ (wpI_X8_makeAnew_90 k_64 x1 x2 x3 x3 ((x3 * x1) / (x2 - 1)) σ post)))))
def wpI_X8_makeAnew_64 (x1 x2 x3 : Int32) (σ : St) (post : St → Prop) : Prop := ∃ n : Nat, lpN (α := Int32 × Int32 × Int32 × St) (fun kb t => wpBI_X8_makeAnew_64 (fun x1 x2 x3 σ => kb (x1, x2, x3, σ)) t.1 t.2.1 t.2.2.1 t.2.2.2 post) n (x1, x2, x3, σ)
theorem kBI_X8_makeAnew_64 {X : Kx} {l : Launch} {E : Ev} {a : Nat → Nat} {post : St → Prop} (C : Cx X l E RX8 cX8_makeAnew rmI_X8_makeAnew none) (hQ : QV X (wI E a) post) (k_64 : Int32 → Int32 → Int32 → St → Prop) (hk_64 : ∀ (x1 x2 x3 : Int32) (σ : St), k_64 x1 x2 x3 σ → G X (wI E a) σ 64 [some (.ref (a 100)), some (.int x1), some (.int x2), some (.int x3)] []) (x1 x2 x3 : Int32) (σ : St) (h : wpBI_X8_makeAnew_64 k_64 x1 x2 x3 σ post) : G X (wI E a) σ 64 [some (.ref (a 100)), some (.int x1), some (.int x2), some (.int x3)] [] := by
  unfold wpBI_X8_makeAnew_64 at h
  refine g_iload_3 C dX8_makeAnew_64 rfl ?_
  refine g_iload_2 C dX8_makeAnew_65 rfl ?_
  refine g_icmp_ge C 97 dX8_makeAnew_66 (by decide) (fun q => ?_) (fun q => ?_)
  · have h := h.1 q
    refine g_iconst_0 C dX8_makeAnew_97 ?_
    refine g_istore_3 C dX8_makeAnew_98 (Nat.le_of_ble_eq_true rfl) ?_
    exact g_wk (kI_X8_makeAnew_99 C hQ _ _ h) (And.intro rfl (And.intro rfl (trivial)))
  · have h := h.2 q
    refine g_aload_0 C dX8_makeAnew_69 rfl ?_
    refine fgI_X8_34 C dX8_makeAnew_70 ?_
    refine g_iload_3 C dX8_makeAnew_73 rfl ?_
    refine g_iload_2 C dX8_makeAnew_74 rfl ?_
    refine g_iconst_1 C dX8_makeAnew_75 ?_
    refine g_icmp_le C 89 dX8_makeAnew_76 (by decide) (fun q => ?_) (fun q => ?_)
    · have h := h.1 q
      refine g_iconst_0 C dX8_makeAnew_89 ?_
      exact g_wk (kI_X8_makeAnew_90 C hQ _ hk_64 _ _ _ _ _ _ h) (And.intro rfl (And.intro rfl (And.intro rfl (And.intro rfl (trivial)))))
    · have h := h.2 q
      refine g_iload_3 C dX8_makeAnew_79 rfl ?_
      refine g_iload_1 C dX8_makeAnew_80 rfl ?_
      refine g_imul C dX8_makeAnew_81 ?_
      refine g_iload_2 C dX8_makeAnew_82 rfl ?_
      refine g_iconst_1 C dX8_makeAnew_83 ?_
      refine g_isub C dX8_makeAnew_84 ?_
      obtain ⟨q, h⟩ := h
      refine g_idiv C q dX8_makeAnew_85 ?_
      refine g_goto C 90 dX8_makeAnew_86 (by decide) ?_
      exact g_wk (kI_X8_makeAnew_90 C hQ _ hk_64 _ _ _ _ _ _ h) (And.intro rfl (And.intro rfl (And.intro rfl (And.intro rfl (trivial)))))
theorem kI_X8_makeAnew_64 {X : Kx} {l : Launch} {E : Ev} {a : Nat → Nat} {post : St → Prop} (C : Cx X l E RX8 cX8_makeAnew rmI_X8_makeAnew none) (hQ : QV X (wI E a) post) (x1 x2 x3 : Int32) (σ : St) (h : wpI_X8_makeAnew_64  x1 x2 x3 σ post) : G X (wI E a) σ 64 [some (.ref (a 100)), some (.int x1), some (.int x2), some (.int x3)] [] := by
  obtain ⟨n, h⟩ := h
  exact g_loop (J := fun t : Int32 × Int32 × Int32 × St => G X (wI E a) t.2.2.2 64 [some (.ref (a 100)), some (.int t.1), some (.int t.2.1), some (.int t.2.2.1)] []) (fun kb hkb t ht => kBI_X8_makeAnew_64 C hQ  (fun x1 x2 x3 σ => kb (x1, x2, x3, σ)) (fun x1 x2 x3 σ hh => hkb (x1, x2, x3, σ) hh) t.1 t.2.1 t.2.2.1 t.2.2.2 ht) n (x1, x2, x3, σ) h
def wpBI_X8_makeAnew_12 (k_12 : Int32 → Int32 → Int32 → St → Prop) (x1 x2 x3 : Int32) (σ : St) (post : St → Prop) : Prop := ((x1 ≤ x3 → wpI_X8_makeAnew_64 x1 x2 0 σ post) ∧ (¬ x1 ≤ x3 → vp_in x3 40 ∧ (let σ1 : St := pA σ 102 (Int32.toNatClampNeg x3) 200; vp_in x3 40 ∧ (let σ2 : St := pA σ1 103 (Int32.toNatClampNeg x3) 0; vp_in x3 40 ∧ (let σ3 : St := pA σ2 104 (Int32.toNatClampNeg x3) 0; vp_in x3 40 ∧ (let σ4 : St := pA σ3 105 (Int32.toNatClampNeg x3) 500; vp_in x3 40 ∧ (let σ5 : St := pA σ4 106 (Int32.toNatClampNeg x3) 0; let y6 : Int32 := x3 + 1; k_12 x1 x2 y6 σ5)))))))
def wpI_X8_makeAnew_12 (x1 x2 x3 : Int32) (σ : St) (post : St → Prop) : Prop := ∃ n : Nat, lpN (α := Int32 × Int32 × Int32 × St) (fun kb t => wpBI_X8_makeAnew_12 (fun x1 x2 x3 σ => kb (x1, x2, x3, σ)) t.1 t.2.1 t.2.2.1 t.2.2.2 post) n (x1, x2, x3, σ)
theorem kBI_X8_makeAnew_12 {X : Kx} {l : Launch} {E : Ev} {a : Nat → Nat} {post : St → Prop} (C : Cx X l E RX8 cX8_makeAnew rmI_X8_makeAnew none) (hQ : QV X (wI E a) post) (k_12 : Int32 → Int32 → Int32 → St → Prop) (hk_12 : ∀ (x1 x2 x3 : Int32) (σ : St), k_12 x1 x2 x3 σ → G X (wI E a) σ 12 [some (.ref (a 100)), some (.int x1), some (.int x2), some (.int x3)] []) (x1 x2 x3 : Int32) (σ : St) (h : wpBI_X8_makeAnew_12 k_12 x1 x2 x3 σ post) : G X (wI E a) σ 12 [some (.ref (a 100)), some (.int x1), some (.int x2), some (.int x3)] [] := by
  unfold wpBI_X8_makeAnew_12 at h
  refine g_iload_3 C dX8_makeAnew_12 rfl ?_
  refine g_iload_1 C dX8_makeAnew_13 rfl ?_
  refine g_icmp_ge C 62 dX8_makeAnew_14 (by decide) (fun q => ?_) (fun q => ?_)
  · have h := h.1 q
    refine g_iconst_0 C dX8_makeAnew_62 ?_
    refine g_istore_3 C dX8_makeAnew_63 (Nat.le_of_ble_eq_true rfl) ?_
    exact g_wk (kI_X8_makeAnew_64 C hQ _ _ _ _ h) (And.intro rfl (And.intro rfl (And.intro rfl (And.intro rfl (trivial)))))
  · have h := h.2 q
    refine g_aload_0 C dX8_makeAnew_17 rfl ?_
    refine fgI_X8_18 C dX8_makeAnew_18 ?_
    refine g_iload_3 C dX8_makeAnew_21 rfl ?_
    refine g_sipush C (v := 200) (by decide) dX8_makeAnew_22 ?_
    obtain ⟨q, h⟩ := h
    refine asI_102 C q dX8_makeAnew_25 ?_
    refine g_aload_0 C dX8_makeAnew_26 rfl ?_
    refine fgI_X8_22 C dX8_makeAnew_27 ?_
    refine g_iload_3 C dX8_makeAnew_30 rfl ?_
    refine g_iconst_0 C dX8_makeAnew_31 ?_
    obtain ⟨q, h⟩ := h
    refine asI_103 C q dX8_makeAnew_32 ?_
    refine g_aload_0 C dX8_makeAnew_33 rfl ?_
    refine fgI_X8_25 C dX8_makeAnew_34 ?_
    refine g_iload_3 C dX8_makeAnew_37 rfl ?_
    refine g_iconst_0 C dX8_makeAnew_38 ?_
    obtain ⟨q, h⟩ := h
    refine asI_104 C q dX8_makeAnew_39 ?_
    refine g_aload_0 C dX8_makeAnew_40 rfl ?_
    refine fgI_X8_28 C dX8_makeAnew_41 ?_
    refine g_iload_3 C dX8_makeAnew_44 rfl ?_
    refine g_sipush C (v := 500) (by decide) dX8_makeAnew_45 ?_
    obtain ⟨q, h⟩ := h
    refine asI_105 C q dX8_makeAnew_48 ?_
    refine g_aload_0 C dX8_makeAnew_49 rfl ?_
    refine fgI_X8_31 C dX8_makeAnew_50 ?_
    refine g_iload_3 C dX8_makeAnew_53 rfl ?_
    refine g_iconst_0 C dX8_makeAnew_54 ?_
    obtain ⟨q, h⟩ := h
    refine asI_106 C q dX8_makeAnew_55 ?_
    refine g_iinc C (v := 1) (by decide) dX8_makeAnew_56 rfl ?_
    refine g_goto C 12 dX8_makeAnew_59 (by decide) ?_
    exact g_wk (hk_12 _ _ _ _ h) (And.intro rfl (And.intro rfl (And.intro rfl (And.intro rfl (trivial)))))
theorem kI_X8_makeAnew_12 {X : Kx} {l : Launch} {E : Ev} {a : Nat → Nat} {post : St → Prop} (C : Cx X l E RX8 cX8_makeAnew rmI_X8_makeAnew none) (hQ : QV X (wI E a) post) (x1 x2 x3 : Int32) (σ : St) (h : wpI_X8_makeAnew_12  x1 x2 x3 σ post) : G X (wI E a) σ 12 [some (.ref (a 100)), some (.int x1), some (.int x2), some (.int x3)] [] := by
  obtain ⟨n, h⟩ := h
  exact g_loop (J := fun t : Int32 × Int32 × Int32 × St => G X (wI E a) t.2.2.2 12 [some (.ref (a 100)), some (.int t.1), some (.int t.2.1), some (.int t.2.2.1)] []) (fun kb hkb t ht => kBI_X8_makeAnew_12 C hQ  (fun x1 x2 x3 σ => kb (x1, x2, x3, σ)) (fun x1 x2 x3 σ hh => hkb (x1, x2, x3, σ) hh) t.1 t.2.1 t.2.2.1 t.2.2.2 ht) n (x1, x2, x3, σ) h
def wpI_X8_makeAnew (x1 x2 : Int32) (σ : St) (post : St → Prop) : Prop := let σ1 : St := pI σ 100 x1; let σ2 : St := pI σ1 101 x2; wpI_X8_makeAnew_12 x1 x2 0 σ2 post
theorem kI_X8_makeAnew {X : Kx} {l : Launch} {E : Ev} {a : Nat → Nat} {post : St → Prop} (C : Cx X l E RX8 cX8_makeAnew rmI_X8_makeAnew none) (hQ : QV X (wI E a) post) (x1 x2 : Int32) (σ : St) (h : wpI_X8_makeAnew x1 x2 σ post) : G X (wI E a) σ 0 [some (.ref (a 100)), some (.int x1), some (.int x2), none] [] := by
  unfold wpI_X8_makeAnew at h
  refine g_aload_0 C dX8_makeAnew_0 rfl ?_
  refine g_iload_1 C dX8_makeAnew_1 rfl ?_
  refine fpI_X8_9 C dX8_makeAnew_2 ?_
  refine g_aload_0 C dX8_makeAnew_5 rfl ?_
  refine g_iload_2 C dX8_makeAnew_6 rfl ?_
  refine fpI_X8_15 C dX8_makeAnew_7 ?_
  refine g_iconst_0 C dX8_makeAnew_10 ?_
  refine g_istore_3 C dX8_makeAnew_11 (Nat.le_of_ble_eq_true rfl) ?_
  exact g_wk (kI_X8_makeAnew_12 C hQ _ _ _ _ h) (And.intro rfl (And.intro rfl (And.intro rfl (And.intro rfl (trivial)))))
theorem cI_X8_makeAnew {l : Launch} {E : Ev} {a : Nat → Nat} {x1 x2 : Int32} {σ : St} {post : St → Prop} (h : wpI_X8_makeAnew x1 x2 σ post) : CV l E (wI E a) yX8_makeAnew cX8_makeAnew 4 rmI_X8_makeAnew [.ref (a 100), .int x1, .int x2] σ post := met_v (by decide) rfl (Nat.le_of_ble_eq_true rfl) rfl (fun X C hQ => kI_X8_makeAnew C hQ _ _ _ h)
theorem fgI_X8_9 {X : Kx} {l : Launch} {E : Ev} {a : Nat → Nat} {σ : St} {cc : ByteArray} {rm : Room} {ret : Option FieldType} {pc : Nat} {lv : List (Option Value)} {st : List Value} (C : Cx X l E RX8 cc rm ret) (d : decode cc pc = .ok (.getfield 9, 3)) (k : G X (wI E a) σ (pc + 3) lv (.int (σ.1 100) :: st)) : G X (wI E a) σ pc lv (.ref (a 100) :: st) := g_get C (q0 := 1) (ci := 8) (k := 0) rfl rfl inU_X8 (by decide) (by decide +kernel) rfl d k
theorem csI_X8_40 {X : Kx} {l : Launch} {E : Ev} {a : Nat → Nat} {σ : St} {cc : ByteArray} {rm : Room} {ret : Option FieldType} {pc : Nat} {lv : List (Option Value)} {rest : List Value} {x0 x1 x2 : Int32} {post : Int32 → St → Prop} (C : Cx X l E RX8 cc rm ret) (h : wpI_X10_within x0 x1 x2 σ post) (hR : 0 + 1 ≤ rm.frames ∧ 8 + (3 + 11) + 0 ≤ rm.locals) (hW : (rest.map fun v => v.category).sum ≤ 8) (d : decode cc pc = .ok (.invokestatic 40, 3)) (k : ∀ (r : Int32) (u : St), post r u → G X (wI E a) u (pc + 3) lv (.int r :: rest)) : G X (wI E a) σ pc lv (.int x2 :: .int x1 :: .int x0 :: rest) := g_callSNi C 3 (host := "IceRun") (As := [.int x0, .int x1, .int x2]) (rest := rest) (by decide +kernel) (by decide +kernel) (by decide +kernel) (by decide +kernel) (by decide +kernel) (cI_X10_within h) ⟨rfl, rfl⟩ hR rfl rfl hW d k
/-! IceRun$Track.hasCell(I)Z -/
abbrev rmI_X8_hasCell : Room := { frames := 1, cells := 0, slots := 0, locals := 22 }
def wpI_X8_hasCell (x1 : Int32) (σ : St) (post : Int32 → St → Prop) : Prop := wpI_X10_within x1 0 ((σ.1 100) - 1) σ (fun r2 σ1 => (r2 = 0 ∨ r2 = 1) ∧ post r2 σ1)
theorem kI_X8_hasCell {X : Kx} {l : Launch} {E : Ev} {a : Nat → Nat} {post : Int32 → St → Prop} (C : Cx X l E RX8 cX8_hasCell rmI_X8_hasCell (some .boolean)) (hQ : QI X (wI E a) post) (x1 : Int32) (σ : St) (h : wpI_X8_hasCell x1 σ post) : G X (wI E a) σ 0 [some (.ref (a 100)), some (.int x1)] [] := by
  unfold wpI_X8_hasCell at h
  refine g_iload_1 C dX8_hasCell_0 rfl ?_
  refine g_iconst_0 C dX8_hasCell_1 ?_
  refine g_aload_0 C dX8_hasCell_2 rfl ?_
  refine fgI_X8_9 C dX8_hasCell_3 ?_
  refine g_iconst_1 C dX8_hasCell_6 ?_
  refine g_isub C dX8_hasCell_7 ?_
  refine csI_X8_40 C h ⟨Nat.le_of_ble_eq_true rfl, Nat.le_of_ble_eq_true rfl⟩ (Nat.le_of_ble_eq_true rfl) dX8_hasCell_8 (fun _ _ h => ?_)
  exact g_zreturn C hQ dX8_hasCell_11 h.1 h.2
theorem cI_X8_hasCell {l : Launch} {E : Ev} {a : Nat → Nat} {x1 : Int32} {σ : St} {post : Int32 → St → Prop} (h : wpI_X8_hasCell x1 σ post) : CI l E (wI E a) yX8_hasCell cX8_hasCell 2 .boolean rmI_X8_hasCell [.ref (a 100), .int x1] σ post := met_i (by decide) rfl (Nat.le_of_ble_eq_true rfl) rfl (fun X C hQ => kI_X8_hasCell C hQ _ _ h)
/-! IceRun$Track.shape(IIII)V -/
abbrev rmI_X8_shape : Room := { frames := 0, cells := 0, slots := 0, locals := 0 }
def wpI_X8_shape (x1 x2 x3 x4 : Int32) (σ : St) (post : St → Prop) : Prop := vp_in x1 40 ∧ (let σ1 : St := pA σ 102 (Int32.toNatClampNeg x1) x2; vp_in x1 40 ∧ (let σ2 : St := pA σ1 103 (Int32.toNatClampNeg x1) x3; vp_in x1 40 ∧ (let σ3 : St := pA σ2 104 (Int32.toNatClampNeg x1) x4; post σ3)))
theorem kI_X8_shape {X : Kx} {l : Launch} {E : Ev} {a : Nat → Nat} {post : St → Prop} (C : Cx X l E RX8 cX8_shape rmI_X8_shape none) (hQ : QV X (wI E a) post) (x1 x2 x3 x4 : Int32) (σ : St) (h : wpI_X8_shape x1 x2 x3 x4 σ post) : G X (wI E a) σ 0 [some (.ref (a 100)), some (.int x1), some (.int x2), some (.int x3), some (.int x4)] [] := by
  unfold wpI_X8_shape at h
  refine g_aload_0 C dX8_shape_0 rfl ?_
  refine fgI_X8_18 C dX8_shape_1 ?_
  refine g_iload_1 C dX8_shape_4 rfl ?_
  refine g_iload_2 C dX8_shape_5 rfl ?_
  obtain ⟨q, h⟩ := h
  refine asI_102 C q dX8_shape_6 ?_
  refine g_aload_0 C dX8_shape_7 rfl ?_
  refine fgI_X8_22 C dX8_shape_8 ?_
  refine g_iload_1 C dX8_shape_11 rfl ?_
  refine g_iload_3 C dX8_shape_12 rfl ?_
  obtain ⟨q, h⟩ := h
  refine asI_103 C q dX8_shape_13 ?_
  refine g_aload_0 C dX8_shape_14 rfl ?_
  refine fgI_X8_25 C dX8_shape_15 ?_
  refine g_iload_1 C dX8_shape_18 rfl ?_
  refine g_iload C dX8_shape_19 rfl ?_
  obtain ⟨q, h⟩ := h
  refine asI_104 C q dX8_shape_21 ?_
  exact g_return C hQ dX8_shape_22 h
theorem cI_X8_shape {l : Launch} {E : Ev} {a : Nat → Nat} {x1 x2 x3 x4 : Int32} {σ : St} {post : St → Prop} (h : wpI_X8_shape x1 x2 x3 x4 σ post) : CV l E (wI E a) yX8_shape cX8_shape 5 rmI_X8_shape [.ref (a 100), .int x1, .int x2, .int x3, .int x4] σ post := met_v (by decide) rfl (Nat.le_of_ble_eq_true rfl) rfl (fun X C hQ => kI_X8_shape C hQ _ _ _ _ _ h)

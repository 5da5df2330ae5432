theorem fgM_X11_152 {X : Kx} {l : Launch} {E : Ev} {a : Nat → Nat} {σ : St} {cc : ByteArray} {rm : Room} {ret : Option FieldType} {pc : Nat} {lv : List (Option Value)} {st : List Value} (C : Cx X l E RX11 cc rm ret) (d : decode cc pc = .ok (.getfield 152, 3)) (k : G X (wM E a) σ (pc + 3) lv (.int (σ.1 24) :: st)) : G X (wM E a) σ pc lv (.ref (a 0) :: st) := g_get C (q0 := 0) (ci := 10) (k := 24) rfl rfl inU_X11 (by decide) (by decide +kernel) rfl d k
theorem fpM_X11_152 {X : Kx} {l : Launch} {E : Ev} {a : Nat → Nat} {σ : St} {cc : ByteArray} {rm : Room} {ret : Option FieldType} {pc : Nat} {lv : List (Option Value)} {st : List Value} {v : Int32} (C : Cx X l E RX11 cc rm ret) (d : decode cc pc = .ok (.putfield 152, 3)) (k : G X (wM E a) (pI σ 24 v) (pc + 3) lv st) : G X (wM E a) σ pc lv (.int v :: .ref (a 0) :: st) := g_put C (q0 := 0) (ci := 10) (k := 24) (ty0 := tyX11) rfl rfl inU_X11 (by decide) tyX11_ok nmX11 (by decide +kernel) rfl rfl rfl (Nat.le_of_ble_eq_true rfl) rfl d k
theorem fgM_X11_149 {X : Kx} {l : Launch} {E : Ev} {a : Nat → Nat} {σ : St} {cc : ByteArray} {rm : Room} {ret : Option FieldType} {pc : Nat} {lv : List (Option Value)} {st : List Value} (C : Cx X l E RX11 cc rm ret) (d : decode cc pc = .ok (.getfield 149, 3)) (k : G X (wM E a) σ (pc + 3) lv (.int (σ.1 25) :: st)) : G X (wM E a) σ pc lv (.ref (a 0) :: st) := g_get C (q0 := 0) (ci := 10) (k := 25) rfl rfl inU_X11 (by decide) (by decide +kernel) rfl d k
theorem csM_X11_155 {X : Kx} {l : Launch} {E : Ev} {a : Nat → Nat} {σ : St} {cc : ByteArray} {rm : Room} {ret : Option FieldType} {pc : Nat} {lv : List (Option Value)} {rest : List Value} {x0 : Int32} {post : Int32 → St → Prop} (C : Cx X l E RX11 cc rm ret) (h : wpM_byteAt x0 σ post) (hR : 0 + 1 ≤ rm.frames ∧ 8 + (2 + 11) + 0 ≤ rm.locals) (hW : (rest.map fun v => v.category).sum ≤ 8) (d : decode cc pc = .ok (.invokevirtual 155, 3)) (k : ∀ (r : Int32) (u : St), post r u → G X (wM E a) u (pc + 3) lv (.int r :: rest)) : G X (wM E a) σ pc lv (.int x0 :: .ref (a 0) :: rest) := g_callVi C 1 (As := [.int x0]) (rest := rest) (Cn := RX11) (T := TX11) (N := 42) (q0 := 0) (ci := 10) (by decide +kernel) (by decide +kernel) (by decide +kernel) (by decide +kernel) (by decide +kernel) (by decide +kernel) rfl rfl (cM_byteAt h) ⟨rfl, rfl⟩ hR rfl rfl hW d k
theorem csM_X11_162 {X : Kx} {l : Launch} {E : Ev} {a : Nat → Nat} {σ : St} {cc : ByteArray} {rm : Room} {ret : Option FieldType} {pc : Nat} {lv : List (Option Value)} {rest : List Value} {x0 : Int32} {post : Int32 → St → Prop} (C : Cx X l E RX11 cc rm ret) (h : wpM_isDigit x0 σ post) (hR : 0 + 1 ≤ rm.frames ∧ 8 + (1 + 11) + 0 ≤ rm.locals) (hW : (rest.map fun v => v.category).sum ≤ 8) (d : decode cc pc = .ok (.invokestatic 162, 3)) (k : ∀ (r : Int32) (u : St), post r u → G X (wM E a) u (pc + 3) lv (.int r :: rest)) : G X (wM E a) σ pc lv (.int x0 :: rest) := g_callSi C 1 (As := [.int x0]) (rest := rest) (by decide +kernel) (by decide +kernel) (by decide +kernel) (by decide +kernel) (by decide +kernel) (cM_isDigit h) ⟨rfl, rfl⟩ hR rfl rfl hW d k
theorem fpM_X11_149 {X : Kx} {l : Launch} {E : Ev} {a : Nat → Nat} {σ : St} {cc : ByteArray} {rm : Room} {ret : Option FieldType} {pc : Nat} {lv : List (Option Value)} {st : List Value} {v : Int32} (C : Cx X l E RX11 cc rm ret) (d : decode cc pc = .ok (.putfield 149, 3)) (k : G X (wM E a) (pI σ 25 v) (pc + 3) lv st) : G X (wM E a) σ pc lv (.int v :: .ref (a 0) :: st) := g_put C (q0 := 0) (ci := 10) (k := 25) (ty0 := tyX11) rfl rfl inU_X11 (by decide) tyX11_ok nmX11 (by decide +kernel) rfl rfl rfl (Nat.le_of_ble_eq_true rfl) rfl d k
theorem csM_X11_159 {X : Kx} {l : Launch} {E : Ev} {a : Nat → Nat} {σ : St} {cc : ByteArray} {rm : Room} {ret : Option FieldType} {pc : Nat} {lv : List (Option Value)} {rest : List Value} {x0 : Int32} {post : Int32 → St → Prop} (C : Cx X l E RX11 cc rm ret) (h : wpM_isSmall x0 σ post) (hR : 0 + 1 ≤ rm.frames ∧ 8 + (1 + 11) + 0 ≤ rm.locals) (hW : (rest.map fun v => v.category).sum ≤ 8) (d : decode cc pc = .ok (.invokestatic 159, 3)) (k : ∀ (r : Int32) (u : St), post r u → G X (wM E a) u (pc + 3) lv (.int r :: rest)) : G X (wM E a) σ pc lv (.int x0 :: rest) := g_callSi C 1 (As := [.int x0]) (rest := rest) (by decide +kernel) (by decide +kernel) (by decide +kernel) (by decide +kernel) (by decide +kernel) (cM_isSmall h) ⟨rfl, rfl⟩ hR rfl rfl hW d k
/-! IceRunModel.token()V -/
abbrev rmM_token : Room := { frames := 1, cells := 0, slots := 0, locals := 21 }
def wpM_token_34 (k_8 : St → Prop) (σ : St) (post : St → Prop) : Prop := let σ1 : St := pI σ 24 ((σ.1 24) + 1); k_8 σ1
theorem kM_token_34 {X : Kx} {l : Launch} {E : Ev} {a : Nat → Nat} {post : St → Prop} (C : Cx X l E RX11 cX11_token rmM_token none) (hQ : QV X (wM E a) post) (k_8 : St → Prop) (hk_8 : ∀ (σ : St), k_8  σ → G X (wM E a) σ 8 [some (.ref (a 0))] []) (σ : St) (h : wpM_token_34 k_8  σ post) : G X (wM E a) σ 34 [some (.ref (a 0))] [] := by
  unfold wpM_token_34 at h
  refine g_aload_0 C dX11_token_34 rfl ?_
  refine g_dup C dX11_token_35 rfl ?_
  refine fgM_X11_152 C dX11_token_36 ?_
  refine g_iconst_1 C dX11_token_39 ?_
  refine g_iadd C dX11_token_40 ?_
  refine fpM_X11_152 C dX11_token_41 ?_
  refine g_goto C 8 dX11_token_44 (by decide) ?_
  exact g_wk (hk_8 _ h) (And.intro rfl (trivial))
def wpM_token_158 (σ : St) (post : St → Prop) : Prop := post σ
theorem kM_token_158 {X : Kx} {l : Launch} {E : Ev} {a : Nat → Nat} {post : St → Prop} (C : Cx X l E RX11 cX11_token rmM_token none) (hQ : QV X (wM E a) post) (σ : St) (h : wpM_token_158   σ post) : G X (wM E a) σ 158 [none] [] := by
  unfold wpM_token_158 at h
  exact g_return C hQ dX11_token_158 h
def wpBM_token_110 (k_110 : St → Prop) (σ : St) (post : St → Prop) : Prop := wpM_byteAt (σ.1 25) σ (fun r2 σ1 => wpM_isDigit r2 σ1 (fun r4 σ3 => ((r4 = 0 → wpM_token_158 σ3 post) ∧ (¬ r4 = 0 → let σ5 : St := pI σ3 25 ((σ3.1 25) + 1); k_110 σ5))))
def wpM_token_110 (σ : St) (post : St → Prop) : Prop := ∃ n : Nat, lpN (α := St) (fun kb t => wpBM_token_110 (fun σ => kb σ) t post) n σ
theorem kBM_token_110 {X : Kx} {l : Launch} {E : Ev} {a : Nat → Nat} {post : St → Prop} (C : Cx X l E RX11 cX11_token rmM_token none) (hQ : QV X (wM E a) post) (k_110 : St → Prop) (hk_110 : ∀ (σ : St), k_110  σ → G X (wM E a) σ 110 [some (.ref (a 0))] []) (σ : St) (h : wpBM_token_110 k_110  σ post) : G X (wM E a) σ 110 [some (.ref (a 0))] [] := by
  unfold wpBM_token_110 at h
  refine g_aload_0 C dX11_token_110 rfl ?_
  refine g_aload_0 C dX11_token_111 rfl ?_
  refine fgM_X11_149 C dX11_token_112 ?_
  refine csM_X11_155 C h ⟨Nat.le_of_ble_eq_true rfl, Nat.le_of_ble_eq_true rfl⟩ (Nat.le_of_ble_eq_true rfl) dX11_token_115 (fun _ _ h => ?_)
  refine csM_X11_162 C h ⟨Nat.le_of_ble_eq_true rfl, Nat.le_of_ble_eq_true rfl⟩ (Nat.le_of_ble_eq_true rfl) dX11_token_118 (fun _ _ h => ?_)
  refine g_if_eq C 158 dX11_token_121 (by decide) (fun q => ?_) (fun q => ?_)
  · have h := h.1 q
    exact g_wk (kM_token_158 C hQ _ h) (trivial)
  · have h := h.2 q
    refine g_aload_0 C dX11_token_124 rfl ?_
    refine g_dup C dX11_token_125 rfl ?_
    refine fgM_X11_149 C dX11_token_126 ?_
    refine g_iconst_1 C dX11_token_129 ?_
    refine g_iadd C dX11_token_130 ?_
    refine fpM_X11_149 C dX11_token_131 ?_
    refine g_goto C 110 dX11_token_134 (by decide) ?_
    exact g_wk (hk_110 _ h) (And.intro rfl (trivial))
theorem kM_token_110 {X : Kx} {l : Launch} {E : Ev} {a : Nat → Nat} {post : St → Prop} (C : Cx X l E RX11 cX11_token rmM_token none) (hQ : QV X (wM E a) post) (σ : St) (h : wpM_token_110   σ post) : G X (wM E a) σ 110 [some (.ref (a 0))] [] := by
  obtain ⟨n, h⟩ := h
  exact g_loop (J := fun t : St => G X (wM E a) t 110 [some (.ref (a 0))] []) (fun kb hkb t ht => kBM_token_110 C hQ  (fun  σ => kb σ) (fun  σ hh => hkb σ hh) t ht) n σ h
def wpBM_token_69 (k_69 : St → Prop) (σ : St) (post : St → Prop) : Prop := wpM_byteAt (σ.1 25) σ (fun r2 σ1 => wpM_isSmall r2 σ1 (fun r4 σ3 => ((r4 = 0 → wpM_token_158 σ3 post) ∧ (¬ r4 = 0 → let σ5 : St := pI σ3 25 ((σ3.1 25) + 1); k_69 σ5))))
def wpM_token_69 (σ : St) (post : St → Prop) : Prop := ∃ n : Nat, lpN (α := St) (fun kb t => wpBM_token_69 (fun σ => kb σ) t post) n σ
theorem kBM_token_69 {X : Kx} {l : Launch} {E : Ev} {a : Nat → Nat} {post : St → Prop} (C : Cx X l E RX11 cX11_token rmM_token none) (hQ : QV X (wM E a) post) (k_69 : St → Prop) (hk_69 : ∀ (σ : St), k_69  σ → G X (wM E a) σ 69 [some (.ref (a 0))] []) (σ : St) (h : wpBM_token_69 k_69  σ post) : G X (wM E a) σ 69 [some (.ref (a 0))] [] := by
  unfold wpBM_token_69 at h
  refine g_aload_0 C dX11_token_69 rfl ?_
  refine g_aload_0 C dX11_token_70 rfl ?_
  refine fgM_X11_149 C dX11_token_71 ?_
  refine csM_X11_155 C h ⟨Nat.le_of_ble_eq_true rfl, Nat.le_of_ble_eq_true rfl⟩ (Nat.le_of_ble_eq_true rfl) dX11_token_74 (fun _ _ h => ?_)
  refine csM_X11_159 C h ⟨Nat.le_of_ble_eq_true rfl, Nat.le_of_ble_eq_true rfl⟩ (Nat.le_of_ble_eq_true rfl) dX11_token_77 (fun _ _ h => ?_)
  refine g_if_eq C 158 dX11_token_80 (by decide) (fun q => ?_) (fun q => ?_)
  · have h := h.1 q
    exact g_wk (kM_token_158 C hQ _ h) (trivial)
  · have h := h.2 q
    refine g_aload_0 C dX11_token_83 rfl ?_
    refine g_dup C dX11_token_84 rfl ?_
    refine fgM_X11_149 C dX11_token_85 ?_
    refine g_iconst_1 C dX11_token_88 ?_
    refine g_iadd C dX11_token_89 ?_
    refine fpM_X11_149 C dX11_token_90 ?_
    refine g_goto C 69 dX11_token_93 (by decide) ?_
    exact g_wk (hk_69 _ h) (And.intro rfl (trivial))
theorem kM_token_69 {X : Kx} {l : Launch} {E : Ev} {a : Nat → Nat} {post : St → Prop} (C : Cx X l E RX11 cX11_token rmM_token none) (hQ : QV X (wM E a) post) (σ : St) (h : wpM_token_69   σ post) : G X (wM E a) σ 69 [some (.ref (a 0))] [] := by
  obtain ⟨n, h⟩ := h
  exact g_loop (J := fun t : St => G X (wM E a) t 69 [some (.ref (a 0))] []) (fun kb hkb t ht => kBM_token_69 C hQ  (fun  σ => kb σ) (fun  σ hh => hkb σ hh) t ht) n σ h
def wpBM_token_8 (k_8 : St → Prop) (σ : St) (post : St → Prop) : Prop := wpM_byteAt (σ.1 24) σ (fun r2 σ1 => ((r2 = 32 → wpM_token_34 k_8 σ1 post) ∧ (¬ r2 = 32 → wpM_byteAt (σ1.1 24) σ1 (fun r4 σ3 => ((¬ r4 = 10 → let σ5 : St := pI σ3 25 (σ3.1 24); wpM_byteAt (σ5.1 24) σ5 (fun r7 σ6 => wpM_isSmall r7 σ6 (fun r9 σ8 => ((r9 = 0 → wpM_byteAt (σ8.1 24) σ8 (fun r11 σ10 => wpM_isDigit r11 σ10 (fun r13 σ12 => ((r13 = 0 → (((σ12.1 22) ≤ (σ12.1 24) → wpM_token_158 σ12 post) ∧ (¬ (σ12.1 22) ≤ (σ12.1 24) → let σ14 : St := pI σ12 25 ((σ12.1 25) + 1); wpM_token_158 σ14 post))) ∧ (¬ r13 = 0 → wpM_token_110 σ12 post))))) ∧ (¬ r9 = 0 → wpM_token_69 σ8 post))))) ∧ (r4 = 10 → wpM_token_34 k_8 σ3 post))))))
def wpM_token_8 (σ : St) (post : St → Prop) : Prop := ∃ n : Nat, lpN (α := St) (fun kb t => wpBM_token_8 (fun σ => kb σ) t post) n σ
theorem kBM_token_8 {X : Kx} {l : Launch} {E : Ev} {a : Nat → Nat} {post : St → Prop} (C : Cx X l E RX11 cX11_token rmM_token none) (hQ : QV X (wM E a) post) (k_8 : St → Prop) (hk_8 : ∀ (σ : St), k_8  σ → G X (wM E a) σ 8 [some (.ref (a 0))] []) (σ : St) (h : wpBM_token_8 k_8  σ post) : G X (wM E a) σ 8 [some (.ref (a 0))] [] := by
  unfold wpBM_token_8 at h
  refine g_aload_0 C dX11_token_8 rfl ?_
  refine g_aload_0 C dX11_token_9 rfl ?_
  refine fgM_X11_152 C dX11_token_10 ?_
  refine csM_X11_155 C h ⟨Nat.le_of_ble_eq_true rfl, Nat.le_of_ble_eq_true rfl⟩ (Nat.le_of_ble_eq_true rfl) dX11_token_13 (fun _ _ h => ?_)
  refine g_bipush C (v := 32) (by decide) dX11_token_16 ?_
  refine g_icmp_eq C 34 dX11_token_18 (by decide) (fun q => ?_) (fun q => ?_)
  · have h := h.1 q
    exact g_wk (kM_token_34 C hQ _ hk_8 _ h) (And.intro rfl (trivial))
  · have h := h.2 q
    refine g_aload_0 C dX11_token_21 rfl ?_
    refine g_aload_0 C dX11_token_22 rfl ?_
    refine fgM_X11_152 C dX11_token_23 ?_
    refine csM_X11_155 C h ⟨Nat.le_of_ble_eq_true rfl, Nat.le_of_ble_eq_true rfl⟩ (Nat.le_of_ble_eq_true rfl) dX11_token_26 (fun _ _ h => ?_)
    refine g_bipush C (v := 10) (by decide) dX11_token_29 ?_
    refine g_icmp_ne C 47 dX11_token_31 (by decide) (fun q => ?_) (fun q => ?_)
    · have h := h.1 q
      refine g_aload_0 C dX11_token_47 rfl ?_
      refine g_aload_0 C dX11_token_48 rfl ?_
      refine fgM_X11_152 C dX11_token_49 ?_
      refine fpM_X11_149 C dX11_token_52 ?_
      refine g_aload_0 C dX11_token_55 rfl ?_
      refine g_aload_0 C dX11_token_56 rfl ?_
      refine fgM_X11_152 C dX11_token_57 ?_
      refine csM_X11_155 C h ⟨Nat.le_of_ble_eq_true rfl, Nat.le_of_ble_eq_true rfl⟩ (Nat.le_of_ble_eq_true rfl) dX11_token_60 (fun _ _ h => ?_)
      refine csM_X11_159 C h ⟨Nat.le_of_ble_eq_true rfl, Nat.le_of_ble_eq_true rfl⟩ (Nat.le_of_ble_eq_true rfl) dX11_token_63 (fun _ _ h => ?_)
      refine g_if_eq C 96 dX11_token_66 (by decide) (fun q => ?_) (fun q => ?_)
      · have h := h.1 q
        refine g_aload_0 C dX11_token_96 rfl ?_
        refine g_aload_0 C dX11_token_97 rfl ?_
        refine fgM_X11_152 C dX11_token_98 ?_
        refine csM_X11_155 C h ⟨Nat.le_of_ble_eq_true rfl, Nat.le_of_ble_eq_true rfl⟩ (Nat.le_of_ble_eq_true rfl) dX11_token_101 (fun _ _ h => ?_)
        refine csM_X11_162 C h ⟨Nat.le_of_ble_eq_true rfl, Nat.le_of_ble_eq_true rfl⟩ (Nat.le_of_ble_eq_true rfl) dX11_token_104 (fun _ _ h => ?_)
        refine g_if_eq C 137 dX11_token_107 (by decide) (fun q => ?_) (fun q => ?_)
        · have h := h.1 q
          refine g_aload_0 C dX11_token_137 rfl ?_
          refine fgM_X11_152 C dX11_token_138 ?_
          refine g_aload_0 C dX11_token_141 rfl ?_
          refine fgM_X11_146 C dX11_token_142 ?_
          refine g_icmp_ge C 158 dX11_token_145 (by decide) (fun q => ?_) (fun q => ?_)
          · have h := h.1 q
            exact g_wk (kM_token_158 C hQ _ h) (trivial)
          · have h := h.2 q
            refine g_aload_0 C dX11_token_148 rfl ?_
            refine g_dup C dX11_token_149 rfl ?_
            refine fgM_X11_149 C dX11_token_150 ?_
            refine g_iconst_1 C dX11_token_153 ?_
            refine g_iadd C dX11_token_154 ?_
            refine fpM_X11_149 C dX11_token_155 ?_
            exact g_wk (kM_token_158 C hQ _ h) (trivial)
        · have h := h.2 q
          exact g_wk (kM_token_110 C hQ _ h) (And.intro rfl (trivial))
      · have h := h.2 q
        exact g_wk (kM_token_69 C hQ _ h) (And.intro rfl (trivial))
    · have h := h.2 q
      exact g_wk (kM_token_34 C hQ _ hk_8 _ h) (And.intro rfl (trivial))
theorem kM_token_8 {X : Kx} {l : Launch} {E : Ev} {a : Nat → Nat} {post : St → Prop} (C : Cx X l E RX11 cX11_token rmM_token none) (hQ : QV X (wM E a) post) (σ : St) (h : wpM_token_8   σ post) : G X (wM E a) σ 8 [some (.ref (a 0))] [] := by
  obtain ⟨n, h⟩ := h
  exact g_loop (J := fun t : St => G X (wM E a) t 8 [some (.ref (a 0))] []) (fun kb hkb t ht => kBM_token_8 C hQ  (fun  σ => kb σ) (fun  σ hh => hkb σ hh) t ht) n σ h
def wpM_token (σ : St) (post : St → Prop) : Prop := let σ1 : St := pI σ 24 (σ.1 25); wpM_token_8 σ1 post
theorem kM_token {X : Kx} {l : Launch} {E : Ev} {a : Nat → Nat} {post : St → Prop} (C : Cx X l E RX11 cX11_token rmM_token none) (hQ : QV X (wM E a) post) (σ : St) (h : wpM_token  σ post) : G X (wM E a) σ 0 [some (.ref (a 0))] [] := by
  unfold wpM_token at h
  refine g_aload_0 C dX11_token_0 rfl ?_
  refine g_aload_0 C dX11_token_1 rfl ?_
  refine fgM_X11_149 C dX11_token_2 ?_
  refine fpM_X11_152 C dX11_token_5 ?_
  exact g_wk (kM_token_8 C hQ _ h) (And.intro rfl (trivial))
theorem cM_token {l : Launch} {E : Ev} {a : Nat → Nat} {σ : St} {post : St → Prop} (h : wpM_token  σ post) : CV l E (wM E a) yX11_token cX11_token 1 rmM_token [.ref (a 0)] σ post := met_v (by decide) rfl (Nat.le_of_ble_eq_true rfl) rfl (fun X C hQ => kM_token C hQ _ h)
theorem fpM_X11_65 {X : Kx} {l : Launch} {E : Ev} {a : Nat → Nat} {σ : St} {cc : ByteArray} {rm : Room} {ret : Option FieldType} {pc : Nat} {lv : List (Option Value)} {st : List Value} {v : Int32} (C : Cx X l E RX11 cc rm ret) (d : decode cc pc = .ok (.putfield 65, 3)) (k : G X (wM E a) (pI σ 23 v) (pc + 3) lv st) : G X (wM E a) σ pc lv (.int v :: .ref (a 0) :: st) := g_put C (q0 := 0) (ci := 10) (k := 23) (ty0 := tyX11) rfl rfl inU_X11 (by decide) tyX11_ok nmX11 (by decide +kernel) rfl rfl rfl (Nat.le_of_ble_eq_true rfl) rfl d k
/-! IceRunModel.fault(I)I -/
abbrev rmM_fault : Room := { frames := 0, cells := 0, slots := 0, locals := 0 }
def wpM_fault (x1 : Int32) (σ : St) (post : Int32 → St → Prop) : Prop := let σ1 : St := pI σ 23 (σ.1 24); post x1 σ1
theorem kM_fault {X : Kx} {l : Launch} {E : Ev} {a : Nat → Nat} {post : Int32 → St → Prop} (C : Cx X l E RX11 cX11_fault rmM_fault (some .int)) (hQ : QI X (wM E a) post) (x1 : Int32) (σ : St) (h : wpM_fault x1 σ post) : G X (wM E a) σ 0 [some (.ref (a 0)), some (.int x1)] [] := by
  unfold wpM_fault at h
  refine g_aload_0 C dX11_fault_0 rfl ?_
  refine g_aload_0 C dX11_fault_1 rfl ?_
  refine fgM_X11_152 C dX11_fault_2 ?_
  refine fpM_X11_65 C dX11_fault_5 ?_
  refine g_iload_1 C dX11_fault_8 rfl ?_
  exact g_ireturn C hQ dX11_fault_9 h
theorem cM_fault {l : Launch} {E : Ev} {a : Nat → Nat} {x1 : Int32} {σ : St} {post : Int32 → St → Prop} (h : wpM_fault x1 σ post) : CI l E (wM E a) yX11_fault cX11_fault 2 .int rmM_fault [.ref (a 0), .int x1] σ post := met_i (by decide) rfl (Nat.le_of_ble_eq_true rfl) rfl (fun X C hQ => kM_fault C hQ _ _ h)
/-! IceRunModel.least(I)I -/
abbrev rmM_least : Room := { frames := 0, cells := 0, slots := 0, locals := 0 }
def wpM_least_19 (s0 : Int32) (σ : St) (post : Int32 → St → Prop) : Prop := post s0 σ
theorem kM_least_19 {X : Kx} {l : Launch} {E : Ev} {a : Nat → Nat} {post : Int32 → St → Prop} (C : Cx X l E RX11 cX11_least rmM_least (some .int)) (hQ : QI X (wM E a) post) (s0 : Int32) (σ : St) (h : wpM_least_19  s0 σ post) : G X (wM E a) σ 19 [none] [.int s0] := by
  unfold wpM_least_19 at h
  exact g_ireturn C hQ dX11_least_19 h
def wpM_least (x0 : Int32) (σ : St) (post : Int32 → St → Prop) : Prop := ((¬ x0 = 0 → ((x0 ≤ 2 → wpM_least_19 0 σ post) ∧ (¬ x0 ≤ 2 → wpM_least_19 1 σ post))) ∧ (x0 = 0 → wpM_least_19 50 σ post))
theorem kM_least {X : Kx} {l : Launch} {E : Ev} {a : Nat → Nat} {post : Int32 → St → Prop} (C : Cx X l E RX11 cX11_least rmM_least (some .int)) (hQ : QI X (wM E a) post) (x0 : Int32) (σ : St) (h : wpM_least x0 σ post) : G X (wM E a) σ 0 [some (.int x0)] [] := by
  unfold wpM_least at h
  refine g_iload_0 C dX11_least_0 rfl ?_
  refine g_if_ne C 9 dX11_least_1 (by decide) (fun q => ?_) (fun q => ?_)
  · have h := h.1 q
    refine g_iload_0 C dX11_least_9 rfl ?_
    refine g_iconst_2 C dX11_least_10 ?_
    refine g_icmp_le C 18 dX11_least_11 (by decide) (fun q => ?_) (fun q => ?_)
    · have h := h.1 q
      refine g_iconst_0 C dX11_least_18 ?_
      exact g_wk (kM_least_19 C hQ _ _ h) (trivial)
    · have h := h.2 q
      refine g_iconst_1 C dX11_least_14 ?_
      refine g_goto C 19 dX11_least_15 (by decide) ?_
      exact g_wk (kM_least_19 C hQ _ _ h) (trivial)
  · have h := h.2 q
    refine g_bipush C (v := 50) (by decide) dX11_least_4 ?_
    refine g_goto C 19 dX11_least_6 (by decide) ?_
    exact g_wk (kM_least_19 C hQ _ _ h) (trivial)
theorem cM_least {l : Launch} {E : Ev} {a : Nat → Nat} {x0 : Int32} {σ : St} {post : Int32 → St → Prop} (h : wpM_least x0 σ post) : CI l E (wM E a) yX11_least cX11_least 1 .int rmM_least [.int x0] σ post := met_i (by decide) rfl (Nat.le_of_ble_eq_true rfl) rfl (fun X C hQ => kM_least C hQ _ _ h)
/-! IceRunModel.most(I)I -/
abbrev rmM_most : Room := { frames := 0, cells := 0, slots := 0, locals := 0 }
def wpM_most_31 (s0 : Int32) (σ : St) (post : Int32 → St → Prop) : Prop := post s0 σ
theorem kM_most_31 {X : Kx} {l : Launch} {E : Ev} {a : Nat → Nat} {post : Int32 → St → Prop} (C : Cx X l E RX11 cX11_most rmM_most (some .int)) (hQ : QI X (wM E a) post) (s0 : Int32) (σ : St) (h : wpM_most_31  s0 σ post) : G X (wM E a) σ 31 [none] [.int s0] := by
  unfold wpM_most_31 at h
  exact g_ireturn C hQ dX11_most_31 h
def wpM_most (x0 : Int32) (σ : St) (post : Int32 → St → Prop) : Prop := ((¬ x0 = 0 → ((¬ x0 = 1 → ((¬ x0 = 4 → wpM_most_31 16 σ post) ∧ (x0 = 4 → wpM_most_31 4 σ post))) ∧ (x0 = 1 → wpM_most_31 100 σ post))) ∧ (x0 = 0 → wpM_most_31 200 σ post))
theorem kM_most {X : Kx} {l : Launch} {E : Ev} {a : Nat → Nat} {post : Int32 → St → Prop} (C : Cx X l E RX11 cX11_most rmM_most (some .int)) (hQ : QI X (wM E a) post) (x0 : Int32) (σ : St) (h : wpM_most x0 σ post) : G X (wM E a) σ 0 [some (.int x0)] [] := by
  unfold wpM_most at h
  refine g_iload_0 C dX11_most_0 rfl ?_
  refine g_if_ne C 10 dX11_most_1 (by decide) (fun q => ?_) (fun q => ?_)
  · have h := h.1 q
    refine g_iload_0 C dX11_most_10 rfl ?_
    refine g_iconst_1 C dX11_most_11 ?_
    refine g_icmp_ne C 20 dX11_most_12 (by decide) (fun q => ?_) (fun q => ?_)
    · have h := h.1 q
      refine g_iload_0 C dX11_most_20 rfl ?_
      refine g_iconst_4 C dX11_most_21 ?_
      refine g_icmp_ne C 29 dX11_most_22 (by decide) (fun q => ?_) (fun q => ?_)
      · have h := h.1 q
        refine g_bipush C (v := 16) (by decide) dX11_most_29 ?_
        exact g_wk (kM_most_31 C hQ _ _ h) (trivial)
      · have h := h.2 q
        refine g_iconst_4 C dX11_most_25 ?_
        refine g_goto C 31 dX11_most_26 (by decide) ?_
        exact g_wk (kM_most_31 C hQ _ _ h) (trivial)
    · have h := h.2 q
      refine g_bipush C (v := 100) (by decide) dX11_most_15 ?_
      refine g_goto C 31 dX11_most_17 (by decide) ?_
      exact g_wk (kM_most_31 C hQ _ _ h) (trivial)
  · have h := h.2 q
    refine g_sipush C (v := 200) (by decide) dX11_most_4 ?_
    refine g_goto C 31 dX11_most_7 (by decide) ?_
    exact g_wk (kM_most_31 C hQ _ _ h) (trivial)
theorem cM_most {l : Launch} {E : Ev} {a : Nat → Nat} {x0 : Int32} {σ : St} {post : Int32 → St → Prop} (h : wpM_most x0 σ post) : CI l E (wM E a) yX11_most cX11_most 1 .int rmM_most [.int x0] σ post := met_i (by decide) rfl (Nat.le_of_ble_eq_true rfl) rfl (fun X C hQ => kM_most C hQ _ _ h)
theorem fgM_X11_65 {X : Kx} {l : Launch} {E : Ev} {a : Nat → Nat} {σ : St} {cc : ByteArray} {rm : Room} {ret : Option FieldType} {pc : Nat} {lv : List (Option Value)} {st : List Value} (C : Cx X l E RX11 cc rm ret) (d : decode cc pc = .ok (.getfield 65, 3)) (k : G X (wM E a) σ (pc + 3) lv (.int (σ.1 23) :: st)) : G X (wM E a) σ pc lv (.ref (a 0) :: st) := g_get C (q0 := 0) (ci := 10) (k := 23) rfl rfl inU_X11 (by decide) (by decide +kernel) rfl d k
/-! IceRunModel.place()I -/
abbrev rmM_place : Room := { frames := 0, cells := 0, slots := 0, locals := 0 }
def wpM_place (σ : St) (post : Int32 → St → Prop) : Prop := let σ1 : St := pI σ 0 0; post (σ1.1 23) σ1
theorem kM_place {X : Kx} {l : Launch} {E : Ev} {a : Nat → Nat} {post : Int32 → St → Prop} (C : Cx X l E RX11 cX11_place rmM_place (some .int)) (hQ : QI X (wM E a) post) (σ : St) (h : wpM_place  σ post) : G X (wM E a) σ 0 [some (.ref (a 0))] [] := by
  unfold wpM_place at h
  refine g_aload_0 C dX11_place_0 rfl ?_
  refine g_iconst_0 C dX11_place_1 ?_
  refine fpM_X11_106 C dX11_place_2 ?_
  refine g_aload_0 C dX11_place_5 rfl ?_
  refine fgM_X11_65 C dX11_place_6 ?_
  exact g_ireturn C hQ dX11_place_9 h
theorem cM_place {l : Launch} {E : Ev} {a : Nat → Nat} {σ : St} {post : Int32 → St → Prop} (h : wpM_place  σ post) : CI l E (wM E a) yX11_place cX11_place 1 .int rmM_place [.ref (a 0)] σ post := met_i (by decide) rfl (Nat.le_of_ble_eq_true rfl) rfl (fun X C hQ => kM_place C hQ _ h)
theorem alM_19 {X : Kx} {l : Launch} {E : Ev} {a : Nat → Nat} {σ : St} {cc : ByteArray} {rm : Room} {ret : Option FieldType} {pc : Nat} {lv : List (Option Value)} {st : List Value} {own : String} {i : Int32} (C : Cx X l E own cc rm ret) (hin : vp_in i 6) (d : decode cc pc = .ok (.iaload, 1)) (k : G X (wM E a) σ (pc + 1) lv (.int (σ.2 19 i.toNatClampNeg) :: st)) : G X (wM E a) σ pc lv (.int i :: .ref (a 20) :: st) := g_iald C (q0 := 16) rfl hin d k
/-! IceRunModel.law(I)I -/
abbrev rmM_law : Room := { frames := 1, cells := 0, slots := 0, locals := 22 }
def wpM_law_24 (s0 : Int32) (σ : St) (post : Int32 → St → Prop) : Prop := post s0 σ
theorem kM_law_24 {X : Kx} {l : Launch} {E : Ev} {a : Nat → Nat} {post : Int32 → St → Prop} (C : Cx X l E RX11 cX11_law rmM_law (some .int)) (hQ : QI X (wM E a) post) (s0 : Int32) (σ : St) (h : wpM_law_24  s0 σ post) : G X (wM E a) σ 24 [none, none] [.int s0] := by
  unfold wpM_law_24 at h
  exact g_ireturn C hQ dX11_law_24 h
def wpM_law (x1 : Int32) (σ : St) (post : Int32 → St → Prop) : Prop := let σ1 : St := pI σ 0 0; wpM_within x1 0 5 σ1 (fun r3 σ2 => ((r3 = 0 → wpM_law_24 (-1) σ2 post) ∧ (¬ r3 = 0 → vp_in x1 6 ∧ (wpM_law_24 (σ2.2 19 (Int32.toNatClampNeg x1)) σ2 post))))
theorem kM_law {X : Kx} {l : Launch} {E : Ev} {a : Nat → Nat} {post : Int32 → St → Prop} (C : Cx X l E RX11 cX11_law rmM_law (some .int)) (hQ : QI X (wM E a) post) (x1 : Int32) (σ : St) (h : wpM_law x1 σ post) : G X (wM E a) σ 0 [some (.ref (a 0)), some (.int x1)] [] := by
  unfold wpM_law at h
  refine g_aload_0 C dX11_law_0 rfl ?_
  refine g_iconst_0 C dX11_law_1 ?_
  refine fpM_X11_106 C dX11_law_2 ?_
  refine g_iload_1 C dX11_law_5 rfl ?_
  refine g_iconst_0 C dX11_law_6 ?_
  refine g_iconst_5 C dX11_law_7 ?_
  refine csM_X11_109 C h ⟨Nat.le_of_ble_eq_true rfl, Nat.le_of_ble_eq_true rfl⟩ (Nat.le_of_ble_eq_true rfl) dX11_law_8 (fun _ _ h => ?_)
  refine g_if_eq C 23 dX11_law_11 (by decide) (fun q => ?_) (fun q => ?_)
  · have h := h.1 q
    refine g_iconst_m1 C dX11_law_23 ?_
    exact g_wk (kM_law_24 C hQ _ _ h) (trivial)
  · have h := h.2 q
    refine g_aload_0 C dX11_law_14 rfl ?_
    refine fgM_X11_55 C dX11_law_15 ?_
    refine g_iload_1 C dX11_law_18 rfl ?_
    obtain ⟨q, h⟩ := h
    refine alM_19 C q dX11_law_19 ?_
    refine g_goto C 24 dX11_law_20 (by decide) ?_
    exact g_wk (kM_law_24 C hQ _ _ h) (trivial)
theorem cM_law {l : Launch} {E : Ev} {a : Nat → Nat} {x1 : Int32} {σ : St} {post : Int32 → St → Prop} (h : wpM_law x1 σ post) : CI l E (wM E a) yX11_law cX11_law 2 .int rmM_law [.ref (a 0), .int x1] σ post := met_i (by decide) rfl (Nat.le_of_ble_eq_true rfl) rfl (fun X C hQ => kM_law C hQ _ _ h)
theorem asM_28 {X : Kx} {l : Launch} {E : Ev} {a : Nat → Nat} {σ : St} {cc : ByteArray} {rm : Room} {ret : Option FieldType} {pc : Nat} {lv : List (Option Value)} {st : List Value} {own : String} {i x : Int32} (C : Cx X l E own cc rm ret) (hin : vp_in i 4) (d : decode cc pc = .ok (.iastore, 1)) (k : G X (wM E a) (pA σ 28 i.toNatClampNeg x) (pc + 1) lv st) : G X (wM E a) σ pc lv (.int x :: .int i :: .ref (a 29) :: st) := g_iast C (q0 := 19) rfl rfl hin d k
theorem fgM_X11_79 {X : Kx} {l : Launch} {E : Ev} {a : Nat → Nat} {σ : St} {cc : ByteArray} {rm : Room} {ret : Option FieldType} {pc : Nat} {lv : List (Option Value)} {st : List Value} (C : Cx X l E RX11 cc rm ret) (d : decode cc pc = .ok (.getfield 79, 3)) (k : G X (wM E a) σ (pc + 3) lv (.ref (a 34) :: st)) : G X (wM E a) σ pc lv (.ref (a 0) :: st) := g_get C (q0 := 0) (ci := 10) (k := 33) rfl rfl inU_X11 (by decide) (by decide +kernel) rfl d k
theorem asM_33 {X : Kx} {l : Launch} {E : Ev} {a : Nat → Nat} {σ : St} {cc : ByteArray} {rm : Room} {ret : Option FieldType} {pc : Nat} {lv : List (Option Value)} {st : List Value} {own : String} {i x : Int32} (C : Cx X l E own cc rm ret) (hin : vp_in i 64) (d : decode cc pc = .ok (.bastore, 1)) (k : G X (wM E a) (pA σ 33 i.toNatClampNeg (vp_nar .boolean x)) (pc + 1) lv st) : G X (wM E a) σ pc lv (.int x :: .int i :: .ref (a 34) :: st) := g_zast C (q0 := 22) rfl rfl hin d k
theorem fgM_X11_75 {X : Kx} {l : Launch} {E : Ev} {a : Nat → Nat} {σ : St} {cc : ByteArray} {rm : Room} {ret : Option FieldType} {pc : Nat} {lv : List (Option Value)} {st : List Value} (C : Cx X l E RX11 cc rm ret) (d : decode cc pc = .ok (.getfield 75, 3)) (k : G X (wM E a) σ (pc + 3) lv (.ref (a 33) :: st)) : G X (wM E a) σ pc lv (.ref (a 0) :: st) := g_get C (q0 := 0) (ci := 10) (k := 32) rfl rfl inU_X11 (by decide) (by decide +kernel) rfl d k
theorem asM_32 {X : Kx} {l : Launch} {E : Ev} {a : Nat → Nat} {σ : St} {cc : ByteArray} {rm : Room} {ret : Option FieldType} {pc : Nat} {lv : List (Option Value)} {st : List Value} {own : String} {i x : Int32} (C : Cx X l E own cc rm ret) (hin : vp_in i 16) (d : decode cc pc = .ok (.bastore, 1)) (k : G X (wM E a) (pA σ 32 i.toNatClampNeg (vp_nar .boolean x)) (pc + 1) lv st) : G X (wM E a) σ pc lv (.int x :: .int i :: .ref (a 33) :: st) := g_zast C (q0 := 21) rfl rfl hin d k
theorem fpM_X11_212 {X : Kx} {l : Launch} {E : Ev} {a : Nat → Nat} {σ : St} {cc : ByteArray} {rm : Room} {ret : Option FieldType} {pc : Nat} {lv : List (Option Value)} {st : List Value} {v : Int32} (C : Cx X l E RX11 cc rm ret) (d : decode cc pc = .ok (.putfield 212, 3)) (k : G X (wM E a) (pI σ 27 v) (pc + 3) lv st) : G X (wM E a) σ pc lv (.int v :: .ref (a 0) :: st) := g_put C (q0 := 0) (ci := 10) (k := 27) (ty0 := tyX11) rfl rfl inU_X11 (by decide) tyX11_ok nmX11 (by decide +kernel) rfl rfl rfl (Nat.le_of_ble_eq_true rfl) rfl d k
theorem fpM_X11_217 {X : Kx} {l : Launch} {E : Ev} {a : Nat → Nat} {σ : St} {cc : ByteArray} {rm : Room} {ret : Option FieldType} {pc : Nat} {lv : List (Option Value)} {st : List Value} {v : Int32} (C : Cx X l E RX11 cc rm ret) (d : decode cc pc = .ok (.putfield 217, 3)) (k : G X (wM E a) (pI σ 30 v) (pc + 3) lv st) : G X (wM E a) σ pc lv (.int v :: .ref (a 0) :: st) := g_put C (q0 := 0) (ci := 10) (k := 30) (ty0 := tyX11) rfl rfl inU_X11 (by decide) tyX11_ok nmX11 (by decide +kernel) rfl rfl rfl (Nat.le_of_ble_eq_true rfl) rfl d k
theorem fpM_X11_220 {X : Kx} {l : Launch} {E : Ev} {a : Nat → Nat} {σ : St} {cc : ByteArray} {rm : Room} {ret : Option FieldType} {pc : Nat} {lv : List (Option Value)} {st : List Value} {v : Int32} (C : Cx X l E RX11 cc rm ret) (d : decode cc pc = .ok (.putfield 220, 3)) (k : G X (wM E a) (pI σ 31 v) (pc + 3) lv st) : G X (wM E a) σ pc lv (.int v :: .ref (a 0) :: st) := g_put C (q0 := 0) (ci := 10) (k := 31) (ty0 := tyX11) rfl rfl inU_X11 (by decide) tyX11_ok nmX11 (by decide +kernel) rfl rfl rfl (Nat.le_of_ble_eq_true rfl) rfl d k
theorem fpM_X11_223 {X : Kx} {l : Launch} {E : Ev} {a : Nat → Nat} {σ : St} {cc : ByteArray} {rm : Room} {ret : Option FieldType} {pc : Nat} {lv : List (Option Value)} {st : List Value} {v : Int32} (C : Cx X l E RX11 cc rm ret) (d : decode cc pc = .ok (.putfield 223, 3)) (k : G X (wM E a) (pI σ 39 v) (pc + 3) lv st) : G X (wM E a) σ pc lv (.int v :: .ref (a 0) :: st) := g_put C (q0 := 0) (ci := 10) (k := 39) (ty0 := tyX11) rfl rfl inU_X11 (by decide) tyX11_ok nmX11 (by decide +kernel) rfl rfl rfl (Nat.le_of_ble_eq_true rfl) rfl d k
/-! IceRunModel.clears()V -/
abbrev rmM_clears : Room := { frames := 0, cells := 0, slots := 0, locals := 0 }
def wpBM_clears_64 (k_64 : Int32 → St → Prop) (x1 : Int32) (σ : St) (post : St → Prop) : Prop := ((4 ≤ x1 → post σ) ∧ (¬ 4 ≤ x1 → vp_in x1 4 ∧ (let σ1 : St := pA σ 28 (Int32.toNatClampNeg x1) 0; let y2 : Int32 := x1 + 1; k_64 y2 σ1)))
def wpM_clears_64 (x1 : Int32) (σ : St) (post : St → Prop) : Prop := ∃ n : Nat, lpN (α := Int32 × St) (fun kb t => wpBM_clears_64 (fun x1 σ => kb (x1, σ)) t.1 t.2 post) n (x1, σ)
theorem kBM_clears_64 {X : Kx} {l : Launch} {E : Ev} {a : Nat → Nat} {post : St → Prop} (C : Cx X l E RX11 cX11_clears rmM_clears none) (hQ : QV X (wM E a) post) (k_64 : Int32 → St → Prop) (hk_64 : ∀ (x1 : Int32) (σ : St), k_64 x1 σ → G X (wM E a) σ 64 [some (.ref (a 0)), some (.int x1)] []) (x1 : Int32) (σ : St) (h : wpBM_clears_64 k_64 x1 σ post) : G X (wM E a) σ 64 [some (.ref (a 0)), some (.int x1)] [] := by
  unfold wpBM_clears_64 at h
  refine g_iload_1 C dX11_clears_64 rfl ?_
  refine g_iconst_4 C dX11_clears_65 ?_
  refine g_icmp_ge C 82 dX11_clears_66 (by decide) (fun q => ?_) (fun q => ?_)
  · have h := h.1 q
    exact g_return C hQ dX11_clears_82 h
  · have h := h.2 q
    refine g_aload_0 C dX11_clears_69 rfl ?_
    refine fgM_X11_69 C dX11_clears_70 ?_
    refine g_iload_1 C dX11_clears_73 rfl ?_
    refine g_iconst_0 C dX11_clears_74 ?_
    obtain ⟨q, h⟩ := h
    refine asM_28 C q dX11_clears_75 ?_
    refine g_iinc C (v := 1) (by decide) dX11_clears_76 rfl ?_
    refine g_goto C 64 dX11_clears_79 (by decide) ?_
    exact g_wk (hk_64 _ _ h) (And.intro rfl (And.intro rfl (trivial)))
theorem kM_clears_64 {X : Kx} {l : Launch} {E : Ev} {a : Nat → Nat} {post : St → Prop} (C : Cx X l E RX11 cX11_clears rmM_clears none) (hQ : QV X (wM E a) post) (x1 : Int32) (σ : St) (h : wpM_clears_64  x1 σ post) : G X (wM E a) σ 64 [some (.ref (a 0)), some (.int x1)] [] := by
  obtain ⟨n, h⟩ := h
  exact g_loop (J := fun t : Int32 × St => G X (wM E a) t.2 64 [some (.ref (a 0)), some (.int t.1)] []) (fun kb hkb t ht => kBM_clears_64 C hQ  (fun x1 σ => kb (x1, σ)) (fun x1 σ hh => hkb (x1, σ) hh) t.1 t.2 ht) n (x1, σ) h
def wpBM_clears_43 (k_43 : Int32 → St → Prop) (x1 : Int32) (σ : St) (post : St → Prop) : Prop := ((64 ≤ x1 → wpM_clears_64 0 σ post) ∧ (¬ 64 ≤ x1 → vp_in x1 64 ∧ (let σ1 : St := pA σ 33 (Int32.toNatClampNeg x1) (vp_nar .boolean 0); let y2 : Int32 := x1 + 1; k_43 y2 σ1)))
def wpM_clears_43 (x1 : Int32) (σ : St) (post : St → Prop) : Prop := ∃ n : Nat, lpN (α := Int32 × St) (fun kb t => wpBM_clears_43 (fun x1 σ => kb (x1, σ)) t.1 t.2 post) n (x1, σ)
theorem kBM_clears_43 {X : Kx} {l : Launch} {E : Ev} {a : Nat → Nat} {post : St → Prop} (C : Cx X l E RX11 cX11_clears rmM_clears none) (hQ : QV X (wM E a) post) (k_43 : Int32 → St → Prop) (hk_43 : ∀ (x1 : Int32) (σ : St), k_43 x1 σ → G X (wM E a) σ 43 [some (.ref (a 0)), some (.int x1)] []) (x1 : Int32) (σ : St) (h : wpBM_clears_43 k_43 x1 σ post) : G X (wM E a) σ 43 [some (.ref (a 0)), some (.int x1)] [] := by
  unfold wpBM_clears_43 at h
  refine g_iload_1 C dX11_clears_43 rfl ?_
  refine g_bipush C (v := 64) (by decide) dX11_clears_44 ?_
  refine g_icmp_ge C 62 dX11_clears_46 (by decide) (fun q => ?_) (fun q => ?_)
  · have h := h.1 q
    refine g_iconst_0 C dX11_clears_62 ?_
    refine g_istore_1 C dX11_clears_63 (Nat.le_of_ble_eq_true rfl) ?_
    exact g_wk (kM_clears_64 C hQ _ _ h) (And.intro rfl (And.intro rfl (trivial)))
  · have h := h.2 q
    refine g_aload_0 C dX11_clears_49 rfl ?_
    refine fgM_X11_79 C dX11_clears_50 ?_
    refine g_iload_1 C dX11_clears_53 rfl ?_
    refine g_iconst_0 C dX11_clears_54 ?_
    obtain ⟨q, h⟩ := h
    refine asM_33 C q dX11_clears_55 ?_
    refine g_iinc C (v := 1) (by decide) dX11_clears_56 rfl ?_
    refine g_goto C 43 dX11_clears_59 (by decide) ?_
    exact g_wk (hk_43 _ _ h) (And.intro rfl (And.intro rfl (trivial)))
theorem kM_clears_43 {X : Kx} {l : Launch} {E : Ev} {a : Nat → Nat} {post : St → Prop} (C : Cx X l E RX11 cX11_clears rmM_clears none) (hQ : QV X (wM E a) post) (x1 : Int32) (σ : St) (h : wpM_clears_43  x1 σ post) : G X (wM E a) σ 43 [some (.ref (a 0)), some (.int x1)] [] := by
  obtain ⟨n, h⟩ := h
  exact g_loop (J := fun t : Int32 × St => G X (wM E a) t.2 43 [some (.ref (a 0)), some (.int t.1)] []) (fun kb hkb t ht => kBM_clears_43 C hQ  (fun x1 σ => kb (x1, σ)) (fun x1 σ hh => hkb (x1, σ) hh) t.1 t.2 ht) n (x1, σ) h
def wpBM_clears_22 (k_22 : Int32 → St → Prop) (x1 : Int32) (σ : St) (post : St → Prop) : Prop := ((16 ≤ x1 → wpM_clears_43 0 σ post) ∧ (¬ 16 ≤ x1 → vp_in x1 16 ∧ (let σ1 : St := pA σ 32 (Int32.toNatClampNeg x1) (vp_nar .boolean 0); let y2 : Int32 := x1 + 1; k_22 y2 σ1)))
def wpM_clears_22 (x1 : Int32) (σ : St) (post : St → Prop) : Prop := ∃ n : Nat, lpN (α := Int32 × St) (fun kb t => wpBM_clears_22 (fun x1 σ => kb (x1, σ)) t.1 t.2 post) n (x1, σ)
theorem kBM_clears_22 {X : Kx} {l : Launch} {E : Ev} {a : Nat → Nat} {post : St → Prop} (C : Cx X l E RX11 cX11_clears rmM_clears none) (hQ : QV X (wM E a) post) (k_22 : Int32 → St → Prop) (hk_22 : ∀ (x1 : Int32) (σ : St), k_22 x1 σ → G X (wM E a) σ 22 [some (.ref (a 0)), some (.int x1)] []) (x1 : Int32) (σ : St) (h : wpBM_clears_22 k_22 x1 σ post) : G X (wM E a) σ 22 [some (.ref (a 0)), some (.int x1)] [] := by
  unfold wpBM_clears_22 at h
  refine g_iload_1 C dX11_clears_22 rfl ?_
  refine g_bipush C (v := 16) (by decide) dX11_clears_23 ?_
  refine g_icmp_ge C 41 dX11_clears_25 (by decide) (fun q => ?_) (fun q => ?_)
  · have h := h.1 q
    refine g_iconst_0 C dX11_clears_41 ?_
    refine g_istore_1 C dX11_clears_42 (Nat.le_of_ble_eq_true rfl) ?_
    exact g_wk (kM_clears_43 C hQ _ _ h) (And.intro rfl (And.intro rfl (trivial)))
  · have h := h.2 q
    refine g_aload_0 C dX11_clears_28 rfl ?_
    refine fgM_X11_75 C dX11_clears_29 ?_
    refine g_iload_1 C dX11_clears_32 rfl ?_
    refine g_iconst_0 C dX11_clears_33 ?_
    obtain ⟨q, h⟩ := h
    refine asM_32 C q dX11_clears_34 ?_
    refine g_iinc C (v := 1) (by decide) dX11_clears_35 rfl ?_
    refine g_goto C 22 dX11_clears_38 (by decide) ?_
    exact g_wk (hk_22 _ _ h) (And.intro rfl (And.intro rfl (trivial)))
theorem kM_clears_22 {X : Kx} {l : Launch} {E : Ev} {a : Nat → Nat} {post : St → Prop} (C : Cx X l E RX11 cX11_clears rmM_clears none) (hQ : QV X (wM E a) post) (x1 : Int32) (σ : St) (h : wpM_clears_22  x1 σ post) : G X (wM E a) σ 22 [some (.ref (a 0)), some (.int x1)] [] := by
  obtain ⟨n, h⟩ := h
  exact g_loop (J := fun t : Int32 × St => G X (wM E a) t.2 22 [some (.ref (a 0)), some (.int t.1)] []) (fun kb hkb t ht => kBM_clears_22 C hQ  (fun x1 σ => kb (x1, σ)) (fun x1 σ hh => hkb (x1, σ) hh) t.1 t.2 ht) n (x1, σ) h
def wpM_clears (σ : St) (post : St → Prop) : Prop := let σ1 : St := pI σ 27 0; let σ2 : St := pI σ1 30 0; let σ3 : St := pI σ2 31 0; let σ4 : St := pI σ3 39 0; wpM_clears_22 0 σ4 post
theorem kM_clears {X : Kx} {l : Launch} {E : Ev} {a : Nat → Nat} {post : St → Prop} (C : Cx X l E RX11 cX11_clears rmM_clears none) (hQ : QV X (wM E a) post) (σ : St) (h : wpM_clears  σ post) : G X (wM E a) σ 0 [some (.ref (a 0)), none] [] := by
  unfold wpM_clears at h
  refine g_aload_0 C dX11_clears_0 rfl ?_
  refine g_iconst_0 C dX11_clears_1 ?_
  refine fpM_X11_212 C dX11_clears_2 ?_
  refine g_aload_0 C dX11_clears_5 rfl ?_
  refine g_iconst_0 C dX11_clears_6 ?_
  refine fpM_X11_217 C dX11_clears_7 ?_
  refine g_aload_0 C dX11_clears_10 rfl ?_
  refine g_iconst_0 C dX11_clears_11 ?_
  refine fpM_X11_220 C dX11_clears_12 ?_
  refine g_aload_0 C dX11_clears_15 rfl ?_
  refine g_iconst_0 C dX11_clears_16 ?_
  refine fpM_X11_223 C dX11_clears_17 ?_
  refine g_iconst_0 C dX11_clears_20 ?_
  refine g_istore_1 C dX11_clears_21 (Nat.le_of_ble_eq_true rfl) ?_
  exact g_wk (kM_clears_22 C hQ _ _ h) (And.intro rfl (And.intro rfl (trivial)))
theorem cM_clears {l : Launch} {E : Ev} {a : Nat → Nat} {σ : St} {post : St → Prop} (h : wpM_clears  σ post) : CV l E (wM E a) yX11_clears cX11_clears 2 rmM_clears [.ref (a 0)] σ post := met_v (by decide) rfl (Nat.le_of_ble_eq_true rfl) rfl (fun X C hQ => kM_clears C hQ _ h)
theorem fpM_X11_113 {X : Kx} {l : Launch} {E : Ev} {a : Nat → Nat} {σ : St} {cc : ByteArray} {rm : Room} {ret : Option FieldType} {pc : Nat} {lv : List (Option Value)} {st : List Value} {v : Int32} (C : Cx X l E RX11 cc rm ret) (hz : v = 0 ∨ v = 1) (d : decode cc pc = .ok (.putfield 113, 3)) (k : G X (wM E a) (pI σ 26 v) (pc + 3) lv st) : G X (wM E a) σ pc lv (.int v :: .ref (a 0) :: st) := g_put C (q0 := 0) (ci := 10) (k := 26) (ty0 := tyX11) rfl rfl inU_X11 (by decide) tyX11_ok nmX11 (by decide +kernel) rfl (nar_z hz) (fit_z hz) (Nat.le_of_ble_eq_true rfl) rfl d k
theorem csM_X11_214 {X : Kx} {l : Launch} {E : Ev} {a : Nat → Nat} {σ : St} {cc : ByteArray} {rm : Room} {ret : Option FieldType} {pc : Nat} {lv : List (Option Value)} {rest : List Value} {post : St → Prop} (C : Cx X l E RX11 cc rm ret) (h : wpM_clears  σ post) (hR : 0 + 1 ≤ rm.frames ∧ 8 + (2 + 11) + 0 ≤ rm.locals) (hW : (rest.map fun v => v.category).sum ≤ 8) (d : decode cc pc = .ok (.invokevirtual 214, 3)) (k : ∀ u : St, post u → G X (wM E a) u (pc + 3) lv rest) : G X (wM E a) σ pc lv (.ref (a 0) :: rest) := g_callVv C 0 (As := []) (rest := rest) (Cn := RX11) (T := TX11) (N := 42) (q0 := 0) (ci := 10) (by decide +kernel) (by decide +kernel) (by decide +kernel) (by decide +kernel) (by decide +kernel) (by decide +kernel) rfl rfl (cM_clears h) ⟨rfl, rfl⟩ hR rfl rfl hW d k
/-! IceRunModel.race()Z -/
abbrev rmM_race : Room := { frames := 1, cells := 0, slots := 0, locals := 21 }
def wpM_race_19 (σ : St) (post : Int32 → St → Prop) : Prop := post 0 σ
theorem kM_race_19 {X : Kx} {l : Launch} {E : Ev} {a : Nat → Nat} {post : Int32 → St → Prop} (C : Cx X l E RX11 cX11_race rmM_race (some .boolean)) (hQ : QI X (wM E a) post) (σ : St) (h : wpM_race_19   σ post) : G X (wM E a) σ 19 [none] [] := by
  unfold wpM_race_19 at h
  refine g_iconst_0 C dX11_race_19 ?_
  exact g_zreturn C hQ dX11_race_20 (Or.inl rfl) h
def wpM_race (σ : St) (post : Int32 → St → Prop) : Prop := let σ1 : St := pI σ 0 0; (((σ1.1 1) = 0 → wpM_race_19 σ1 post) ∧ (¬ (σ1.1 1) = 0 → wpM_isOn  σ1 (fun r3 σ2 => ((r3 = 0 → let σ4 : St := pI σ2 26 1; wpM_clears  σ4 (fun σ5 => post 1 σ5)) ∧ (¬ r3 = 0 → wpM_race_19 σ2 post)))))
theorem kM_race {X : Kx} {l : Launch} {E : Ev} {a : Nat → Nat} {post : Int32 → St → Prop} (C : Cx X l E RX11 cX11_race rmM_race (some .boolean)) (hQ : QI X (wM E a) post) (σ : St) (h : wpM_race  σ post) : G X (wM E a) σ 0 [some (.ref (a 0))] [] := by
  unfold wpM_race at h
  refine g_aload_0 C dX11_race_0 rfl ?_
  refine g_iconst_0 C dX11_race_1 ?_
  refine fpM_X11_106 C dX11_race_2 ?_
  refine g_aload_0 C dX11_race_5 rfl ?_
  refine fgM_X11_117 C dX11_race_6 ?_
  refine g_if_eq C 19 dX11_race_9 (by decide) (fun q => ?_) (fun q => ?_)
  · have h := h.1 q
    exact g_wk (kM_race_19 C hQ _ h) (trivial)
  · have h := h.2 q
    refine g_aload_0 C dX11_race_12 rfl ?_
    refine csM_X11_127 C h ⟨Nat.le_of_ble_eq_true rfl, Nat.le_of_ble_eq_true rfl⟩ (Nat.le_of_ble_eq_true rfl) dX11_race_13 (fun _ _ h => ?_)
    refine g_if_eq C 21 dX11_race_16 (by decide) (fun q => ?_) (fun q => ?_)
    · have h := h.1 q
      refine g_aload_0 C dX11_race_21 rfl ?_
      refine g_iconst_1 C dX11_race_22 ?_
      refine fpM_X11_113 C (Or.inr rfl) dX11_race_23 ?_
      refine g_aload_0 C dX11_race_26 rfl ?_
      refine csM_X11_214 C h ⟨Nat.le_of_ble_eq_true rfl, Nat.le_of_ble_eq_true rfl⟩ (Nat.le_of_ble_eq_true rfl) dX11_race_27 (fun _ h => ?_)
      refine g_iconst_1 C dX11_race_30 ?_
      exact g_zreturn C hQ dX11_race_31 (Or.inr rfl) h
    · have h := h.2 q
      exact g_wk (kM_race_19 C hQ _ h) (trivial)
theorem cM_race {l : Launch} {E : Ev} {a : Nat → Nat} {σ : St} {post : Int32 → St → Prop} (h : wpM_race  σ post) : CI l E (wM E a) yX11_race cX11_race 1 .boolean rmM_race [.ref (a 0)] σ post := met_i (by decide) rfl (Nat.le_of_ble_eq_true rfl) rfl (fun X C hQ => kM_race C hQ _ h)
theorem alM_32 {X : Kx} {l : Launch} {E : Ev} {a : Nat → Nat} {σ : St} {cc : ByteArray} {rm : Room} {ret : Option FieldType} {pc : Nat} {lv : List (Option Value)} {st : List Value} {own : String} {i : Int32} (C : Cx X l E own cc rm ret) (hin : vp_in i 16) (d : decode cc pc = .ok (.baload, 1)) (k : G X (wM E a) σ (pc + 1) lv (.int (σ.2 32 i.toNatClampNeg) :: st)) : G X (wM E a) σ pc lv (.int i :: .ref (a 33) :: st) := g_zald C (q0 := 21) rfl hin d k
/-! IceRunModel.isEntered(I)Z -/
abbrev rmM_isEntered : Room := { frames := 1, cells := 0, slots := 0, locals := 22 }
def wpM_isEntered_35 (s0 : Int32) (σ : St) (post : Int32 → St → Prop) : Prop := (s0 = 0 ∨ s0 = 1) ∧ post s0 σ
theorem kM_isEntered_35 {X : Kx} {l : Launch} {E : Ev} {a : Nat → Nat} {post : Int32 → St → Prop} (C : Cx X l E RX11 cX11_isEntered rmM_isEntered (some .boolean)) (hQ : QI X (wM E a) post) (s0 : Int32) (σ : St) (h : wpM_isEntered_35  s0 σ post) : G X (wM E a) σ 35 [none, none] [.int s0] := by
  unfold wpM_isEntered_35 at h
  exact g_zreturn C hQ dX11_isEntered_35 h.1 h.2
def wpM_isEntered_34 (σ : St) (post : Int32 → St → Prop) : Prop := wpM_isEntered_35 0 σ post
theorem kM_isEntered_34 {X : Kx} {l : Launch} {E : Ev} {a : Nat → Nat} {post : Int32 → St → Prop} (C : Cx X l E RX11 cX11_isEntered rmM_isEntered (some .boolean)) (hQ : QI X (wM E a) post) (σ : St) (h : wpM_isEntered_34   σ post) : G X (wM E a) σ 34 [none, none] [] := by
  unfold wpM_isEntered_34 at h
  refine g_iconst_0 C dX11_isEntered_34 ?_
  exact g_wk (kM_isEntered_35 C hQ _ _ h) (trivial)
def wpM_isEntered (x1 : Int32) (σ : St) (post : Int32 → St → Prop) : Prop := (((σ.1 26) = 0 → wpM_isEntered_34 σ post) ∧ (¬ (σ.1 26) = 0 → wpM_within x1 0 ((σ.1 13) - 1) σ (fun r2 σ1 => ((r2 = 0 → wpM_isEntered_34 σ1 post) ∧ (¬ r2 = 0 → vp_in x1 16 ∧ ((((σ1.2 32 (Int32.toNatClampNeg x1)) = 0 → wpM_isEntered_34 σ1 post) ∧ (¬ (σ1.2 32 (Int32.toNatClampNeg x1)) = 0 → wpM_isEntered_35 1 σ1 post))))))))
theorem kM_isEntered {X : Kx} {l : Launch} {E : Ev} {a : Nat → Nat} {post : Int32 → St → Prop} (C : Cx X l E RX11 cX11_isEntered rmM_isEntered (some .boolean)) (hQ : QI X (wM E a) post) (x1 : Int32) (σ : St) (h : wpM_isEntered x1 σ post) : G X (wM E a) σ 0 [some (.ref (a 0)), some (.int x1)] [] := by
  unfold wpM_isEntered at h
  refine g_aload_0 C dX11_isEntered_0 rfl ?_
  refine fgM_X11_113 C dX11_isEntered_1 ?_
  refine g_if_eq C 34 dX11_isEntered_4 (by decide) (fun q => ?_) (fun q => ?_)
  · have h := h.1 q
    exact g_wk (kM_isEntered_34 C hQ _ h) (trivial)
  · have h := h.2 q
    refine g_iload_1 C dX11_isEntered_7 rfl ?_
    refine g_iconst_0 C dX11_isEntered_8 ?_
    refine g_aload_0 C dX11_isEntered_9 rfl ?_
    refine fgM_X11_139 C dX11_isEntered_10 ?_
    refine g_iconst_1 C dX11_isEntered_13 ?_
    refine g_isub C dX11_isEntered_14 ?_
    refine csM_X11_109 C h ⟨Nat.le_of_ble_eq_true rfl, Nat.le_of_ble_eq_true rfl⟩ (Nat.le_of_ble_eq_true rfl) dX11_isEntered_15 (fun _ _ h => ?_)
    refine g_if_eq C 34 dX11_isEntered_18 (by decide) (fun q => ?_) (fun q => ?_)
    · have h := h.1 q
      exact g_wk (kM_isEntered_34 C hQ _ h) (trivial)
    · have h := h.2 q
      refine g_aload_0 C dX11_isEntered_21 rfl ?_
      refine fgM_X11_75 C dX11_isEntered_22 ?_
      refine g_iload_1 C dX11_isEntered_25 rfl ?_
      obtain ⟨q, h⟩ := h
      refine alM_32 C q dX11_isEntered_26 ?_
      refine g_if_eq C 34 dX11_isEntered_27 (by decide) (fun q => ?_) (fun q => ?_)
      · have h := h.1 q
        exact g_wk (kM_isEntered_34 C hQ _ h) (trivial)
      · have h := h.2 q
        refine g_iconst_1 C dX11_isEntered_30 ?_
        refine g_goto C 35 dX11_isEntered_31 (by decide) ?_
        exact g_wk (kM_isEntered_35 C hQ _ _ h) (trivial)
theorem cM_isEntered {l : Launch} {E : Ev} {a : Nat → Nat} {x1 : Int32} {σ : St} {post : Int32 → St → Prop} (h : wpM_isEntered x1 σ post) : CI l E (wM E a) yX11_isEntered cX11_isEntered 2 .boolean rmM_isEntered [.ref (a 0), .int x1] σ post := met_i (by decide) rfl (Nat.le_of_ble_eq_true rfl) rfl (fun X C hQ => kM_isEntered C hQ _ _ h)
theorem fgM_X11_94 {X : Kx} {l : Launch} {E : Ev} {a : Nat → Nat} {σ : St} {cc : ByteArray} {rm : Room} {ret : Option FieldType} {pc : Nat} {lv : List (Option Value)} {st : List Value} (C : Cx X l E RX11 cc rm ret) (d : decode cc pc = .ok (.getfield 94, 3)) (k : G X (wM E a) σ (pc + 3) lv (.ref (a 39) :: st)) : G X (wM E a) σ pc lv (.ref (a 0) :: st) := g_get C (q0 := 0) (ci := 10) (k := 38) rfl rfl inU_X11 (by decide) (by decide +kernel) rfl d k
theorem alM_38 {X : Kx} {l : Launch} {E : Ev} {a : Nat → Nat} {σ : St} {cc : ByteArray} {rm : Room} {ret : Option FieldType} {pc : Nat} {lv : List (Option Value)} {st : List Value} {own : String} {i : Int32} (C : Cx X l E own cc rm ret) (hin : vp_in i 20) (d : decode cc pc = .ok (.iaload, 1)) (k : G X (wM E a) σ (pc + 1) lv (.int (σ.2 38 i.toNatClampNeg) :: st)) : G X (wM E a) σ pc lv (.int i :: .ref (a 39) :: st) := g_iald C (q0 := 27) rfl hin d k
/-! IceRunModel.isStruck(II)Z -/
abbrev rmM_isStruck : Room := { frames := 0, cells := 0, slots := 0, locals := 0 }
def wpM_isStruck_34 (k_5 : Int32 → Int32 → Int32 → Int32 → St → Prop) (x1 x2 x4 s0 : Int32) (σ : St) (post : Int32 → St → Prop) : Prop := let y1 : Int32 := x4 + 1; k_5 x1 x2 s0 y1 σ
theorem kM_isStruck_34 {X : Kx} {l : Launch} {E : Ev} {a : Nat → Nat} {post : Int32 → St → Prop} (C : Cx X l E RX11 cX11_isStruck rmM_isStruck (some .boolean)) (hQ : QI X (wM E a) post) (k_5 : Int32 → Int32 → Int32 → Int32 → St → Prop) (hk_5 : ∀ (x1 x2 x3 x4 : Int32) (σ : St), k_5 x1 x2 x3 x4 σ → G X (wM E a) σ 5 [some (.ref (a 0)), some (.int x1), some (.int x2), some (.int x3), some (.int x4)] []) (x1 x2 x4 s0 : Int32) (σ : St) (h : wpM_isStruck_34 k_5 x1 x2 x4 s0 σ post) : G X (wM E a) σ 34 [some (.ref (a 0)), some (.int x1), some (.int x2), none, some (.int x4)] [.int s0] := by
  unfold wpM_isStruck_34 at h
  refine g_istore_3 C dX11_isStruck_34 (Nat.le_of_ble_eq_true rfl) ?_
  refine g_iinc C (v := 1) (by decide) dX11_isStruck_35 rfl ?_
  refine g_goto C 5 dX11_isStruck_38 (by decide) ?_
  exact g_wk (hk_5 _ _ _ _ _ h) (And.intro rfl (And.intro rfl (And.intro rfl (And.intro rfl (And.intro rfl (trivial))))))
def wpM_isStruck_29 (k_5 : Int32 → Int32 → Int32 → Int32 → St → Prop) (x1 x2 x4 : Int32) (σ : St) (post : Int32 → St → Prop) : Prop := wpM_isStruck_34 k_5 x1 x2 x4 1 σ post
theorem kM_isStruck_29 {X : Kx} {l : Launch} {E : Ev} {a : Nat → Nat} {post : Int32 → St → Prop} (C : Cx X l E RX11 cX11_isStruck rmM_isStruck (some .boolean)) (hQ : QI X (wM E a) post) (k_5 : Int32 → Int32 → Int32 → Int32 → St → Prop) (hk_5 : ∀ (x1 x2 x3 x4 : Int32) (σ : St), k_5 x1 x2 x3 x4 σ → G X (wM E a) σ 5 [some (.ref (a 0)), some (.int x1), some (.int x2), some (.int x3), some (.int x4)] []) (x1 x2 x4 : Int32) (σ : St) (h : wpM_isStruck_29 k_5 x1 x2 x4 σ post) : G X (wM E a) σ 29 [some (.ref (a 0)), some (.int x1), some (.int x2), none, some (.int x4)] [] := by
  unfold wpM_isStruck_29 at h
  refine g_iconst_1 C dX11_isStruck_29 ?_
  refine g_goto C 34 dX11_isStruck_30 (by decide) ?_
  exact g_wk (kM_isStruck_34 C hQ _ hk_5 _ _ _ _ _ h) (And.intro rfl (And.intro rfl (And.intro rfl (And.intro rfl (trivial)))))
def wpBM_isStruck_5 (k_5 : Int32 → Int32 → Int32 → Int32 → St → Prop) (x1 x2 x3 x4 : Int32) (σ : St) (post : Int32 → St → Prop) : Prop := ((x2 ≤ x4 → (x3 = 0 ∨ x3 = 1) ∧ post x3 σ) ∧ (¬ x2 ≤ x4 → ((¬ x3 = 0 → wpM_isStruck_29 k_5 x1 x2 x4 σ post) ∧ (x3 = 0 → vp_in x4 20 ∧ (((¬ (σ.2 38 (Int32.toNatClampNeg x4)) = (10 + x1) → wpM_isStruck_34 k_5 x1 x2 x4 0 σ post) ∧ ((σ.2 38 (Int32.toNatClampNeg x4)) = (10 + x1) → wpM_isStruck_29 k_5 x1 x2 x4 σ post)))))))
def wpM_isStruck_5 (x1 x2 x3 x4 : Int32) (σ : St) (post : Int32 → St → Prop) : Prop := ∃ n : Nat, lpN (α := Int32 × Int32 × Int32 × Int32 × St) (fun kb t => wpBM_isStruck_5 (fun x1 x2 x3 x4 σ => kb (x1, x2, x3, x4, σ)) t.1 t.2.1 t.2.2.1 t.2.2.2.1 t.2.2.2.2 post) n (x1, x2, x3, x4, σ)
theorem kBM_isStruck_5 {X : Kx} {l : Launch} {E : Ev} {a : Nat → Nat} {post : Int32 → St → Prop} (C : Cx X l E RX11 cX11_isStruck rmM_isStruck (some .boolean)) (hQ : QI X (wM E a) post) (k_5 : Int32 → Int32 → Int32 → Int32 → St → Prop) (hk_5 : ∀ (x1 x2 x3 x4 : Int32) (σ : St), k_5 x1 x2 x3 x4 σ → G X (wM E a) σ 5 [some (.ref (a 0)), some (.int x1), some (.int x2), some (.int x3), some (.int x4)] []) (x1 x2 x3 x4 : Int32) (σ : St) (h : wpBM_isStruck_5 k_5 x1 x2 x3 x4 σ post) : G X (wM E a) σ 5 [some (.ref (a 0)), some (.int x1), some (.int x2), some (.int x3), some (.int x4)] [] := by
  unfold wpBM_isStruck_5 at h
  refine g_iload C dX11_isStruck_5 rfl ?_
  refine g_iload_2 C dX11_isStruck_7 rfl ?_
  refine g_icmp_ge C 41 dX11_isStruck_8 (by decide) (fun q => ?_) (fun q => ?_)
  · have h := h.1 q
    refine g_iload_3 C dX11_isStruck_41 rfl ?_
    exact g_zreturn C hQ dX11_isStruck_42 h.1 h.2
  · have h := h.2 q
    refine g_iload_3 C dX11_isStruck_11 rfl ?_
    refine g_if_ne C 29 dX11_isStruck_12 (by decide) (fun q => ?_) (fun q => ?_)
    · have h := h.1 q
      exact g_wk (kM_isStruck_29 C hQ _ hk_5 _ _ _ _ h) (And.intro rfl (And.intro rfl (And.intro rfl (And.intro rfl (trivial)))))
    · have h := h.2 q
      refine g_aload_0 C dX11_isStruck_15 rfl ?_
      refine fgM_X11_94 C dX11_isStruck_16 ?_
      refine g_iload C dX11_isStruck_19 rfl ?_
      obtain ⟨q, h⟩ := h
      refine alM_38 C q dX11_isStruck_21 ?_
      refine g_bipush C (v := 10) (by decide) dX11_isStruck_22 ?_
      refine g_iload_1 C dX11_isStruck_24 rfl ?_
      refine g_iadd C dX11_isStruck_25 ?_
      refine g_icmp_ne C 33 dX11_isStruck_26 (by decide) (fun q => ?_) (fun q => ?_)
      · have h := h.1 q
        refine g_iconst_0 C dX11_isStruck_33 ?_
        exact g_wk (kM_isStruck_34 C hQ _ hk_5 _ _ _ _ _ h) (And.intro rfl (And.intro rfl (And.intro rfl (And.intro rfl (trivial)))))
      · have h := h.2 q
        exact g_wk (kM_isStruck_29 C hQ _ hk_5 _ _ _ _ h) (And.intro rfl (And.intro rfl (And.intro rfl (And.intro rfl (trivial)))))
theorem kM_isStruck_5 {X : Kx} {l : Launch} {E : Ev} {a : Nat → Nat} {post : Int32 → St → Prop} (C : Cx X l E RX11 cX11_isStruck rmM_isStruck (some .boolean)) (hQ : QI X (wM E a) post) (x1 x2 x3 x4 : Int32) (σ : St) (h : wpM_isStruck_5  x1 x2 x3 x4 σ post) : G X (wM E a) σ 5 [some (.ref (a 0)), some (.int x1), some (.int x2), some (.int x3), some (.int x4)] [] := by
  obtain ⟨n, h⟩ := h
  exact g_loop (J := fun t : Int32 × Int32 × Int32 × Int32 × St => G X (wM E a) t.2.2.2.2 5 [some (.ref (a 0)), some (.int t.1), some (.int t.2.1), some (.int t.2.2.1), some (.int t.2.2.2.1)] []) (fun kb hkb t ht => kBM_isStruck_5 C hQ  (fun x1 x2 x3 x4 σ => kb (x1, x2, x3, x4, σ)) (fun x1 x2 x3 x4 σ hh => hkb (x1, x2, x3, x4, σ) hh) t.1 t.2.1 t.2.2.1 t.2.2.2.1 t.2.2.2.2 ht) n (x1, x2, x3, x4, σ) h
def wpM_isStruck (x1 x2 : Int32) (σ : St) (post : Int32 → St → Prop) : Prop := wpM_isStruck_5 x1 x2 0 0 σ post
theorem kM_isStruck {X : Kx} {l : Launch} {E : Ev} {a : Nat → Nat} {post : Int32 → St → Prop} (C : Cx X l E RX11 cX11_isStruck rmM_isStruck (some .boolean)) (hQ : QI X (wM E a) post) (x1 x2 : Int32) (σ : St) (h : wpM_isStruck x1 x2 σ post) : G X (wM E a) σ 0 [some (.ref (a 0)), some (.int x1), some (.int x2), none, none] [] := by
  unfold wpM_isStruck at h
  refine g_iconst_0 C dX11_isStruck_0 ?_
  refine g_istore_3 C dX11_isStruck_1 (Nat.le_of_ble_eq_true rfl) ?_
  refine g_iconst_0 C dX11_isStruck_2 ?_
  refine g_istore C dX11_isStruck_3 (Nat.le_of_ble_eq_true rfl) ?_
  exact g_wk (kM_isStruck_5 C hQ _ _ _ _ _ h) (And.intro rfl (And.intro rfl (And.intro rfl (And.intro rfl (And.intro rfl (trivial))))))
theorem cM_isStruck {l : Launch} {E : Ev} {a : Nat → Nat} {x1 x2 : Int32} {σ : St} {post : Int32 → St → Prop} (h : wpM_isStruck x1 x2 σ post) : CI l E (wM E a) yX11_isStruck cX11_isStruck 5 .boolean rmM_isStruck [.ref (a 0), .int x1, .int x2] σ post := met_i (by decide) rfl (Nat.le_of_ble_eq_true rfl) rfl (fun X C hQ => kM_isStruck C hQ _ _ _ h)
theorem alM_33 {X : Kx} {l : Launch} {E : Ev} {a : Nat → Nat} {σ : St} {cc : ByteArray} {rm : Room} {ret : Option FieldType} {pc : Nat} {lv : List (Option Value)} {st : List Value} {own : String} {i : Int32} (C : Cx X l E own cc rm ret) (hin : vp_in i 64) (d : decode cc pc = .ok (.baload, 1)) (k : G X (wM E a) σ (pc + 1) lv (.int (σ.2 33 i.toNatClampNeg) :: st)) : G X (wM E a) σ pc lv (.int i :: .ref (a 34) :: st) := g_zald C (q0 := 22) rfl hin d k
theorem csM_X11_246 {X : Kx} {l : Launch} {E : Ev} {a : Nat → Nat} {σ : St} {cc : ByteArray} {rm : Room} {ret : Option FieldType} {pc : Nat} {lv : List (Option Value)} {rest : List Value} {x0 : Int32} {post : Int32 → St → Prop} (C : Cx X l E RX11 cc rm ret) (h : wpM_isEntered x0 σ post) (hR : 1 + 1 ≤ rm.frames ∧ 8 + (2 + 11) + 22 ≤ rm.locals) (hW : (rest.map fun v => v.category).sum ≤ 8) (d : decode cc pc = .ok (.invokevirtual 246, 3)) (k : ∀ (r : Int32) (u : St), post r u → G X (wM E a) u (pc + 3) lv (.int r :: rest)) : G X (wM E a) σ pc lv (.int x0 :: .ref (a 0) :: rest) := g_callVi C 1 (As := [.int x0]) (rest := rest) (Cn := RX11) (T := TX11) (N := 42) (q0 := 0) (ci := 10) (by decide +kernel) (by decide +kernel) (by decide +kernel) (by decide +kernel) (by decide +kernel) (by decide +kernel) rfl rfl (cM_isEntered h) ⟨rfl, rfl⟩ hR rfl rfl hW d k
theorem csM_X11_249 {X : Kx} {l : Launch} {E : Ev} {a : Nat → Nat} {σ : St} {cc : ByteArray} {rm : Room} {ret : Option FieldType} {pc : Nat} {lv : List (Option Value)} {rest : List Value} {x0 x1 : Int32} {post : Int32 → St → Prop} (C : Cx X l E RX11 cc rm ret) (h : wpM_isStruck x0 x1 σ post) (hR : 0 + 1 ≤ rm.frames ∧ 8 + (5 + 11) + 0 ≤ rm.locals) (hW : (rest.map fun v => v.category).sum ≤ 8) (d : decode cc pc = .ok (.invokevirtual 249, 3)) (k : ∀ (r : Int32) (u : St), post r u → G X (wM E a) u (pc + 3) lv (.int r :: rest)) : G X (wM E a) σ pc lv (.int x1 :: .int x0 :: .ref (a 0) :: rest) := g_callVi C 2 (As := [.int x0, .int x1]) (rest := rest) (Cn := RX11) (T := TX11) (N := 42) (q0 := 0) (ci := 10) (by decide +kernel) (by decide +kernel) (by decide +kernel) (by decide +kernel) (by decide +kernel) (by decide +kernel) rfl rfl (cM_isStruck h) ⟨rfl, rfl⟩ hR rfl rfl hW d k
/-! IceRunModel.isRanked(II)Z -/
abbrev rmM_isRanked : Room := { frames := 2, cells := 0, slots := 0, locals := 43 }
def wpM_isRanked_17 (σ : St) (post : Int32 → St → Prop) : Prop := post 0 σ
theorem kM_isRanked_17 {X : Kx} {l : Launch} {E : Ev} {a : Nat → Nat} {post : Int32 → St → Prop} (C : Cx X l E RX11 cX11_isRanked rmM_isRanked (some .boolean)) (hQ : QI X (wM E a) post) (σ : St) (h : wpM_isRanked_17   σ post) : G X (wM E a) σ 17 [none, none, none, none, none] [] := by
  unfold wpM_isRanked_17 at h
  refine g_iconst_0 C dX11_isRanked_17 ?_
  exact g_zreturn C hQ dX11_isRanked_18 (Or.inl rfl) h
def wpM_isRanked_85 (s0 : Int32) (σ : St) (post : Int32 → St → Prop) : Prop := (s0 = 0 ∨ s0 = 1) ∧ post s0 σ
theorem kM_isRanked_85 {X : Kx} {l : Launch} {E : Ev} {a : Nat → Nat} {post : Int32 → St → Prop} (C : Cx X l E RX11 cX11_isRanked rmM_isRanked (some .boolean)) (hQ : QI X (wM E a) post) (s0 : Int32) (σ : St) (h : wpM_isRanked_85  s0 σ post) : G X (wM E a) σ 85 [none, none, none, none, none] [.int s0] := by
  unfold wpM_isRanked_85 at h
  exact g_zreturn C hQ dX11_isRanked_85 h.1 h.2
def wpM_isRanked_70 (k_24 : Int32 → Int32 → Int32 → Int32 → St → Prop) (x1 x2 x3 x4 : Int32) (σ : St) (post : Int32 → St → Prop) : Prop := let y1 : Int32 := x4 + 1; k_24 x1 x2 x3 y1 σ
theorem kM_isRanked_70 {X : Kx} {l : Launch} {E : Ev} {a : Nat → Nat} {post : Int32 → St → Prop} (C : Cx X l E RX11 cX11_isRanked rmM_isRanked (some .boolean)) (hQ : QI X (wM E a) post) (k_24 : Int32 → Int32 → Int32 → Int32 → St → Prop) (hk_24 : ∀ (x1 x2 x3 x4 : Int32) (σ : St), k_24 x1 x2 x3 x4 σ → G X (wM E a) σ 24 [some (.ref (a 0)), some (.int x1), some (.int x2), some (.int x3), some (.int x4)] []) (x1 x2 x3 x4 : Int32) (σ : St) (h : wpM_isRanked_70 k_24 x1 x2 x3 x4 σ post) : G X (wM E a) σ 70 [some (.ref (a 0)), some (.int x1), some (.int x2), some (.int x3), some (.int x4)] [] := by
  unfold wpM_isRanked_70 at h
  refine g_iinc C (v := 1) (by decide) dX11_isRanked_70 rfl ?_
  refine g_goto C 24 dX11_isRanked_73 (by decide) ?_
  exact g_wk (hk_24 _ _ _ _ _ h) (And.intro rfl (And.intro rfl (And.intro rfl (And.intro rfl (And.intro rfl (trivial))))))
def wpBM_isRanked_24 (k_24 : Int32 → Int32 → Int32 → Int32 → St → Prop) (x1 x2 x3 x4 : Int32) (σ : St) (post : Int32 → St → Prop) : Prop := ((x2 ≤ x4 → ((x3 ≤ 0 → wpM_isRanked_85 0 σ post) ∧ (¬ x3 ≤ 0 → wpM_isRanked_85 1 σ post))) ∧ (¬ x2 ≤ x4 → vp_in x4 20 ∧ ((((σ.2 38 (Int32.toNatClampNeg x4)) < 10 → vp_in x4 20 ∧ (vp_in ((16 * (σ.2 38 (Int32.toNatClampNeg x4))) + x1) 64 ∧ (((¬ (σ.2 33 (Int32.toNatClampNeg ((16 * (σ.2 38 (Int32.toNatClampNeg x4))) + x1))) = 0 → let y1 : Int32 := x3 + 1; wpM_isRanked_70 k_24 x1 x2 y1 x4 σ post) ∧ ((σ.2 33 (Int32.toNatClampNeg ((16 * (σ.2 38 (Int32.toNatClampNeg x4))) + x1))) = 0 → post 0 σ))))) ∧ (¬ (σ.2 38 (Int32.toNatClampNeg x4)) < 10 → wpM_isRanked_70 k_24 x1 x2 x3 x4 σ post)))))
def wpM_isRanked_24 (x1 x2 x3 x4 : Int32) (σ : St) (post : Int32 → St → Prop) : Prop := ∃ n : Nat, lpN (α := Int32 × Int32 × Int32 × Int32 × St) (fun kb t => wpBM_isRanked_24 (fun x1 x2 x3 x4 σ => kb (x1, x2, x3, x4, σ)) t.1 t.2.1 t.2.2.1 t.2.2.2.1 t.2.2.2.2 post) n (x1, x2, x3, x4, σ)
theorem kBM_isRanked_24 {X : Kx} {l : Launch} {E : Ev} {a : Nat → Nat} {post : Int32 → St → Prop} (C : Cx X l E RX11 cX11_isRanked rmM_isRanked (some .boolean)) (hQ : QI X (wM E a) post) (k_24 : Int32 → Int32 → Int32 → Int32 → St → Prop) (hk_24 : ∀ (x1 x2 x3 x4 : Int32) (σ : St), k_24 x1 x2 x3 x4 σ → G X (wM E a) σ 24 [some (.ref (a 0)), some (.int x1), some (.int x2), some (.int x3), some (.int x4)] []) (x1 x2 x3 x4 : Int32) (σ : St) (h : wpBM_isRanked_24 k_24 x1 x2 x3 x4 σ post) : G X (wM E a) σ 24 [some (.ref (a 0)), some (.int x1), some (.int x2), some (.int x3), some (.int x4)] [] := by
  unfold wpBM_isRanked_24 at h
  refine g_iload C dX11_isRanked_24 rfl ?_
  refine g_iload_2 C dX11_isRanked_26 rfl ?_
  refine g_icmp_ge C 76 dX11_isRanked_27 (by decide) (fun q => ?_) (fun q => ?_)
  · have h := h.1 q
    refine g_iload_3 C dX11_isRanked_76 rfl ?_
    refine g_if_le C 84 dX11_isRanked_77 (by decide) (fun q => ?_) (fun q => ?_)
    · have h := h.1 q
      refine g_iconst_0 C dX11_isRanked_84 ?_
      exact g_wk (kM_isRanked_85 C hQ _ _ h) (trivial)
    · have h := h.2 q
      refine g_iconst_1 C dX11_isRanked_80 ?_
      refine g_goto C 85 dX11_isRanked_81 (by decide) ?_
      exact g_wk (kM_isRanked_85 C hQ _ _ h) (trivial)
  · have h := h.2 q
    refine g_aload_0 C dX11_isRanked_30 rfl ?_
    refine fgM_X11_94 C dX11_isRanked_31 ?_
    refine g_iload C dX11_isRanked_34 rfl ?_
    obtain ⟨q, h⟩ := h
    refine alM_38 C q dX11_isRanked_36 ?_
    refine g_bipush C (v := 10) (by decide) dX11_isRanked_37 ?_
    refine g_icmp_lt C 45 dX11_isRanked_39 (by decide) (fun q => ?_) (fun q => ?_)
    · have h := h.1 q
      refine g_aload_0 C dX11_isRanked_45 rfl ?_
      refine fgM_X11_79 C dX11_isRanked_46 ?_
      refine g_bipush C (v := 16) (by decide) dX11_isRanked_49 ?_
      refine g_aload_0 C dX11_isRanked_51 rfl ?_
      refine fgM_X11_94 C dX11_isRanked_52 ?_
      refine g_iload C dX11_isRanked_55 rfl ?_
      obtain ⟨q, h⟩ := h
      refine alM_38 C q dX11_isRanked_57 ?_
      refine g_imul C dX11_isRanked_58 ?_
      refine g_iload_1 C dX11_isRanked_59 rfl ?_
      refine g_iadd C dX11_isRanked_60 ?_
      obtain ⟨q, h⟩ := h
      refine alM_33 C q dX11_isRanked_61 ?_
      refine g_if_ne C 67 dX11_isRanked_62 (by decide) (fun q => ?_) (fun q => ?_)
      · have h := h.1 q
        refine g_iinc C (v := 1) (by decide) dX11_isRanked_67 rfl ?_
        exact g_wk (kM_isRanked_70 C hQ _ hk_24 _ _ _ _ _ h) (And.intro rfl (And.intro rfl (And.intro rfl (And.intro rfl (And.intro rfl (trivial))))))
      · have h := h.2 q
        refine g_iconst_0 C dX11_isRanked_65 ?_
        exact g_zreturn C hQ dX11_isRanked_66 (Or.inl rfl) h
    · have h := h.2 q
      refine g_goto C 70 dX11_isRanked_42 (by decide) ?_
      exact g_wk (kM_isRanked_70 C hQ _ hk_24 _ _ _ _ _ h) (And.intro rfl (And.intro rfl (And.intro rfl (And.intro rfl (And.intro rfl (trivial))))))
theorem kM_isRanked_24 {X : Kx} {l : Launch} {E : Ev} {a : Nat → Nat} {post : Int32 → St → Prop} (C : Cx X l E RX11 cX11_isRanked rmM_isRanked (some .boolean)) (hQ : QI X (wM E a) post) (x1 x2 x3 x4 : Int32) (σ : St) (h : wpM_isRanked_24  x1 x2 x3 x4 σ post) : G X (wM E a) σ 24 [some (.ref (a 0)), some (.int x1), some (.int x2), some (.int x3), some (.int x4)] [] := by
  obtain ⟨n, h⟩ := h
  exact g_loop (J := fun t : Int32 × Int32 × Int32 × Int32 × St => G X (wM E a) t.2.2.2.2 24 [some (.ref (a 0)), some (.int t.1), some (.int t.2.1), some (.int t.2.2.1), some (.int t.2.2.2.1)] []) (fun kb hkb t ht => kBM_isRanked_24 C hQ  (fun x1 x2 x3 x4 σ => kb (x1, x2, x3, x4, σ)) (fun x1 x2 x3 x4 σ hh => hkb (x1, x2, x3, x4, σ) hh) t.1 t.2.1 t.2.2.1 t.2.2.2.1 t.2.2.2.2 ht) n (x1, x2, x3, x4, σ) h
def wpM_isRanked (x1 x2 : Int32) (σ : St) (post : Int32 → St → Prop) : Prop := wpM_isEntered x1 σ (fun r2 σ1 => ((r2 = 0 → wpM_isRanked_17 σ1 post) ∧ (¬ r2 = 0 → wpM_isStruck x1 x2 σ1 (fun r4 σ3 => ((r4 = 0 → wpM_isRanked_24 x1 x2 0 0 σ3 post) ∧ (¬ r4 = 0 → wpM_isRanked_17 σ3 post))))))
theorem kM_isRanked {X : Kx} {l : Launch} {E : Ev} {a : Nat → Nat} {post : Int32 → St → Prop} (C : Cx X l E RX11 cX11_isRanked rmM_isRanked (some .boolean)) (hQ : QI X (wM E a) post) (x1 x2 : Int32) (σ : St) (h : wpM_isRanked x1 x2 σ post) : G X (wM E a) σ 0 [some (.ref (a 0)), some (.int x1), some (.int x2), none, none] [] := by
  unfold wpM_isRanked at h
  refine g_aload_0 C dX11_isRanked_0 rfl ?_
  refine g_iload_1 C dX11_isRanked_1 rfl ?_
  refine csM_X11_246 C h ⟨Nat.le_of_ble_eq_true rfl, Nat.le_of_ble_eq_true rfl⟩ (Nat.le_of_ble_eq_true rfl) dX11_isRanked_2 (fun _ _ h => ?_)
  refine g_if_eq C 17 dX11_isRanked_5 (by decide) (fun q => ?_) (fun q => ?_)
  · have h := h.1 q
    exact g_wk (kM_isRanked_17 C hQ _ h) (trivial)
  · have h := h.2 q
    refine g_aload_0 C dX11_isRanked_8 rfl ?_
    refine g_iload_1 C dX11_isRanked_9 rfl ?_
    refine g_iload_2 C dX11_isRanked_10 rfl ?_
    refine csM_X11_249 C h ⟨Nat.le_of_ble_eq_true rfl, Nat.le_of_ble_eq_true rfl⟩ (Nat.le_of_ble_eq_true rfl) dX11_isRanked_11 (fun _ _ h => ?_)
    refine g_if_eq C 19 dX11_isRanked_14 (by decide) (fun q => ?_) (fun q => ?_)
    · have h := h.1 q
      refine g_iconst_0 C dX11_isRanked_19 ?_
      refine g_istore_3 C dX11_isRanked_20 (Nat.le_of_ble_eq_true rfl) ?_
      refine g_iconst_0 C dX11_isRanked_21 ?_
      refine g_istore C dX11_isRanked_22 (Nat.le_of_ble_eq_true rfl) ?_
      exact g_wk (kM_isRanked_24 C hQ _ _ _ _ _ h) (And.intro rfl (And.intro rfl (And.intro rfl (And.intro rfl (And.intro rfl (trivial))))))
    · have h := h.2 q
      exact g_wk (kM_isRanked_17 C hQ _ h) (trivial)
theorem cM_isRanked {l : Launch} {E : Ev} {a : Nat → Nat} {x1 x2 : Int32} {σ : St} {post : Int32 → St → Prop} (h : wpM_isRanked x1 x2 σ post) : CI l E (wM E a) yX11_isRanked cX11_isRanked 5 .boolean rmM_isRanked [.ref (a 0), .int x1, .int x2] σ post := met_i (by decide) rfl (Nat.le_of_ble_eq_true rfl) rfl (fun X C hQ => kM_isRanked C hQ _ _ _ h)
theorem fgM_X11_88 {X : Kx} {l : Launch} {E : Ev} {a : Nat → Nat} {σ : St} {cc : ByteArray} {rm : Room} {ret : Option FieldType} {pc : Nat} {lv : List (Option Value)} {st : List Value} (C : Cx X l E RX11 cc rm ret) (d : decode cc pc = .ok (.getfield 88, 3)) (k : G X (wM E a) σ (pc + 3) lv (.ref (a 37) :: st)) : G X (wM E a) σ pc lv (.ref (a 0) :: st) := g_get C (q0 := 0) (ci := 10) (k := 36) rfl rfl inU_X11 (by decide) (by decide +kernel) rfl d k
theorem alM_36 {X : Kx} {l : Launch} {E : Ev} {a : Nat → Nat} {σ : St} {cc : ByteArray} {rm : Room} {ret : Option FieldType} {pc : Nat} {lv : List (Option Value)} {st : List Value} {own : String} {i : Int32} (C : Cx X l E own cc rm ret) (hin : vp_in i 64) (d : decode cc pc = .ok (.iaload, 1)) (k : G X (wM E a) σ (pc + 1) lv (.int (σ.2 36 i.toNatClampNeg) :: st)) : G X (wM E a) σ pc lv (.int i :: .ref (a 37) :: st) := g_iald C (q0 := 25) rfl hin d k
/-! IceRunModel.sumOf(II)I -/
abbrev rmM_sumOf : Room := { frames := 2, cells := 0, slots := 0, locals := 43 }
def wpM_sumOf_17 (σ : St) (post : Int32 → St → Prop) : Prop := post (-1) σ
theorem kM_sumOf_17 {X : Kx} {l : Launch} {E : Ev} {a : Nat → Nat} {post : Int32 → St → Prop} (C : Cx X l E RX11 cX11_sumOf rmM_sumOf (some .int)) (hQ : QI X (wM E a) post) (σ : St) (h : wpM_sumOf_17   σ post) : G X (wM E a) σ 17 [none, none, none, none, none, none, none] [] := by
  unfold wpM_sumOf_17 at h
  refine g_iconst_m1 C dX11_sumOf_17 ?_
  exact g_ireturn C hQ dX11_sumOf_18 h
def wpM_sumOf_105 (s0 : Int32) (σ : St) (post : Int32 → St → Prop) : Prop := post s0 σ
theorem kM_sumOf_105 {X : Kx} {l : Launch} {E : Ev} {a : Nat → Nat} {post : Int32 → St → Prop} (C : Cx X l E RX11 cX11_sumOf rmM_sumOf (some .int)) (hQ : QI X (wM E a) post) (s0 : Int32) (σ : St) (h : wpM_sumOf_105  s0 σ post) : G X (wM E a) σ 105 [none, none, none, none, none, none, none] [.int s0] := by
  unfold wpM_sumOf_105 at h
  exact g_ireturn C hQ dX11_sumOf_105 h
def wpM_sumOf_89 (k_27 : Int32 → Int32 → Int32 → Int32 → Int32 → St → Prop) (x1 x2 x3 x4 x5 : Int32) (σ : St) (post : Int32 → St → Prop) : Prop := let y1 : Int32 := x5 + 1; k_27 x1 x2 x3 x4 y1 σ
theorem kM_sumOf_89 {X : Kx} {l : Launch} {E : Ev} {a : Nat → Nat} {post : Int32 → St → Prop} (C : Cx X l E RX11 cX11_sumOf rmM_sumOf (some .int)) (hQ : QI X (wM E a) post) (k_27 : Int32 → Int32 → Int32 → Int32 → Int32 → St → Prop) (hk_27 : ∀ (x1 x2 x3 x4 x5 : Int32) (σ : St), k_27 x1 x2 x3 x4 x5 σ → G X (wM E a) σ 27 [some (.ref (a 0)), some (.int x1), some (.int x2), some (.int x3), some (.int x4), some (.int x5), none] []) (x1 x2 x3 x4 x5 : Int32) (σ : St) (h : wpM_sumOf_89 k_27 x1 x2 x3 x4 x5 σ post) : G X (wM E a) σ 89 [some (.ref (a 0)), some (.int x1), some (.int x2), some (.int x3), some (.int x4), some (.int x5), none] [] := by
  unfold wpM_sumOf_89 at h
  refine g_iinc C (v := 1) (by decide) dX11_sumOf_89 rfl ?_
  refine g_goto C 27 dX11_sumOf_92 (by decide) ?_
  exact g_wk (hk_27 _ _ _ _ _ _ h) (And.intro rfl (And.intro rfl (And.intro rfl (And.intro rfl (And.intro rfl (And.intro rfl (trivial)))))))
def wpBM_sumOf_27 (k_27 : Int32 → Int32 → Int32 → Int32 → Int32 → St → Prop) (x1 x2 x3 x4 x5 : Int32) (σ : St) (post : Int32 → St → Prop) : Prop := ((x2 ≤ x5 → ((¬ x3 = 0 → wpM_sumOf_105 x4 σ post) ∧ (x3 = 0 → wpM_sumOf_105 (-1) σ post))) ∧ (¬ x2 ≤ x5 → vp_in x5 20 ∧ (let y1 : Int32 := (σ.2 38 (Int32.toNatClampNeg x5)); ((y1 < 10 → vp_in ((16 * y1) + x1) 64 ∧ (((¬ (σ.2 33 (Int32.toNatClampNeg ((16 * y1) + x1))) = 0 → let y2 : Int32 := x3 + 1; vp_in ((16 * y1) + x1) 64 ∧ (let y3 : Int32 := (x4 + (σ.2 36 (Int32.toNatClampNeg ((16 * y1) + x1)))); wpM_sumOf_89 k_27 x1 x2 y2 y3 x5 σ post)) ∧ ((σ.2 33 (Int32.toNatClampNeg ((16 * y1) + x1))) = 0 → post (-1) σ)))) ∧ (¬ y1 < 10 → wpM_sumOf_89 k_27 x1 x2 x3 x4 x5 σ post)))))
def wpM_sumOf_27 (x1 x2 x3 x4 x5 : Int32) (σ : St) (post : Int32 → St → Prop) : Prop := ∃ n : Nat, lpN (α := Int32 × Int32 × Int32 × Int32 × Int32 × St) (fun kb t => wpBM_sumOf_27 (fun x1 x2 x3 x4 x5 σ => kb (x1, x2, x3, x4, x5, σ)) t.1 t.2.1 t.2.2.1 t.2.2.2.1 t.2.2.2.2.1 t.2.2.2.2.2 post) n (x1, x2, x3, x4, x5, σ)
theorem kBM_sumOf_27 {X : Kx} {l : Launch} {E : Ev} {a : Nat → Nat} {post : Int32 → St → Prop} (C : Cx X l E RX11 cX11_sumOf rmM_sumOf (some .int)) (hQ : QI X (wM E a) post) (k_27 : Int32 → Int32 → Int32 → Int32 → Int32 → St → Prop) (hk_27 : ∀ (x1 x2 x3 x4 x5 : Int32) (σ : St), k_27 x1 x2 x3 x4 x5 σ → G X (wM E a) σ 27 [some (.ref (a 0)), some (.int x1), some (.int x2), some (.int x3), some (.int x4), some (.int x5), none] []) (x1 x2 x3 x4 x5 : Int32) (σ : St) (h : wpBM_sumOf_27 k_27 x1 x2 x3 x4 x5 σ post) : G X (wM E a) σ 27 [some (.ref (a 0)), some (.int x1), some (.int x2), some (.int x3), some (.int x4), some (.int x5), none] [] := by
  unfold wpBM_sumOf_27 at h
  refine g_iload C dX11_sumOf_27 rfl ?_
  refine g_iload_2 C dX11_sumOf_29 rfl ?_
  refine g_icmp_ge C 95 dX11_sumOf_30 (by decide) (fun q => ?_) (fun q => ?_)
  · have h := h.1 q
    refine g_iload_3 C dX11_sumOf_95 rfl ?_
    refine g_if_ne C 103 dX11_sumOf_96 (by decide) (fun q => ?_) (fun q => ?_)
    · have h := h.1 q
      refine g_iload C dX11_sumOf_103 rfl ?_
      exact g_wk (kM_sumOf_105 C hQ _ _ h) (trivial)
    · have h := h.2 q
      refine g_iconst_m1 C dX11_sumOf_99 ?_
      refine g_goto C 105 dX11_sumOf_100 (by decide) ?_
      exact g_wk (kM_sumOf_105 C hQ _ _ h) (trivial)
  · have h := h.2 q
    refine g_aload_0 C dX11_sumOf_33 rfl ?_
    refine fgM_X11_94 C dX11_sumOf_34 ?_
    refine g_iload C dX11_sumOf_37 rfl ?_
    obtain ⟨q, h⟩ := h
    refine alM_38 C q dX11_sumOf_39 ?_
    refine g_istore C dX11_sumOf_40 (Nat.le_of_ble_eq_true rfl) ?_
    refine g_iload C dX11_sumOf_42 rfl ?_
    refine g_bipush C (v := 10) (by decide) dX11_sumOf_44 ?_
    refine g_icmp_lt C 52 dX11_sumOf_46 (by decide) (fun q => ?_) (fun q => ?_)
    · have h := h.1 q
      refine g_aload_0 C dX11_sumOf_52 rfl ?_
      refine fgM_X11_79 C dX11_sumOf_53 ?_
      refine g_bipush C (v := 16) (by decide) dX11_sumOf_56 ?_
      refine g_iload C dX11_sumOf_58 rfl ?_
      refine g_imul C dX11_sumOf_60 ?_
      refine g_iload_1 C dX11_sumOf_61 rfl ?_
      refine g_iadd C dX11_sumOf_62 ?_
      obtain ⟨q, h⟩ := h
      refine alM_33 C q dX11_sumOf_63 ?_
      refine g_if_ne C 69 dX11_sumOf_64 (by decide) (fun q => ?_) (fun q => ?_)
      · have h := h.1 q
        refine g_iinc C (v := 1) (by decide) dX11_sumOf_69 rfl ?_
        refine g_iload C dX11_sumOf_72 rfl ?_
        refine g_aload_0 C dX11_sumOf_74 rfl ?_
        refine fgM_X11_88 C dX11_sumOf_75 ?_
        refine g_bipush C (v := 16) (by decide) dX11_sumOf_78 ?_
        refine g_iload C dX11_sumOf_80 rfl ?_
        refine g_imul C dX11_sumOf_82 ?_
        refine g_iload_1 C dX11_sumOf_83 rfl ?_
        refine g_iadd C dX11_sumOf_84 ?_
        obtain ⟨q, h⟩ := h
        refine alM_36 C q dX11_sumOf_85 ?_
        refine g_iadd C dX11_sumOf_86 ?_
        refine g_istore C dX11_sumOf_87 (Nat.le_of_ble_eq_true rfl) ?_
        exact g_wk (kM_sumOf_89 C hQ _ hk_27 _ _ _ _ _ _ h) (And.intro rfl (And.intro rfl (And.intro rfl (And.intro rfl (And.intro rfl (And.intro rfl (trivial)))))))
      · have h := h.2 q
        refine g_iconst_m1 C dX11_sumOf_67 ?_
        exact g_ireturn C hQ dX11_sumOf_68 h
    · have h := h.2 q
      refine g_goto C 89 dX11_sumOf_49 (by decide) ?_
      exact g_wk (kM_sumOf_89 C hQ _ hk_27 _ _ _ _ _ _ h) (And.intro rfl (And.intro rfl (And.intro rfl (And.intro rfl (And.intro rfl (And.intro rfl (trivial)))))))
theorem kM_sumOf_27 {X : Kx} {l : Launch} {E : Ev} {a : Nat → Nat} {post : Int32 → St → Prop} (C : Cx X l E RX11 cX11_sumOf rmM_sumOf (some .int)) (hQ : QI X (wM E a) post) (x1 x2 x3 x4 x5 : Int32) (σ : St) (h : wpM_sumOf_27  x1 x2 x3 x4 x5 σ post) : G X (wM E a) σ 27 [some (.ref (a 0)), some (.int x1), some (.int x2), some (.int x3), some (.int x4), some (.int x5), none] [] := by
  obtain ⟨n, h⟩ := h
  exact g_loop (J := fun t : Int32 × Int32 × Int32 × Int32 × Int32 × St => G X (wM E a) t.2.2.2.2.2 27 [some (.ref (a 0)), some (.int t.1), some (.int t.2.1), some (.int t.2.2.1), some (.int t.2.2.2.1), some (.int t.2.2.2.2.1), none] []) (fun kb hkb t ht => kBM_sumOf_27 C hQ  (fun x1 x2 x3 x4 x5 σ => kb (x1, x2, x3, x4, x5, σ)) (fun x1 x2 x3 x4 x5 σ hh => hkb (x1, x2, x3, x4, x5, σ) hh) t.1 t.2.1 t.2.2.1 t.2.2.2.1 t.2.2.2.2.1 t.2.2.2.2.2 ht) n (x1, x2, x3, x4, x5, σ) h
def wpM_sumOf (x1 x2 : Int32) (σ : St) (post : Int32 → St → Prop) : Prop := wpM_isEntered x1 σ (fun r2 σ1 => ((r2 = 0 → wpM_sumOf_17 σ1 post) ∧ (¬ r2 = 0 → wpM_isStruck x1 x2 σ1 (fun r4 σ3 => ((r4 = 0 → wpM_sumOf_27 x1 x2 0 0 0 σ3 post) ∧ (¬ r4 = 0 → wpM_sumOf_17 σ3 post))))))
theorem kM_sumOf {X : Kx} {l : Launch} {E : Ev} {a : Nat → Nat} {post : Int32 → St → Prop} (C : Cx X l E RX11 cX11_sumOf rmM_sumOf (some .int)) (hQ : QI X (wM E a) post) (x1 x2 : Int32) (σ : St) (h : wpM_sumOf x1 x2 σ post) : G X (wM E a) σ 0 [some (.ref (a 0)), some (.int x1), some (.int x2), none, none, none, none] [] := by
  unfold wpM_sumOf at h
  refine g_aload_0 C dX11_sumOf_0 rfl ?_
  refine g_iload_1 C dX11_sumOf_1 rfl ?_
  refine csM_X11_246 C h ⟨Nat.le_of_ble_eq_true rfl, Nat.le_of_ble_eq_true rfl⟩ (Nat.le_of_ble_eq_true rfl) dX11_sumOf_2 (fun _ _ h => ?_)
  refine g_if_eq C 17 dX11_sumOf_5 (by decide) (fun q => ?_) (fun q => ?_)
  · have h := h.1 q
    exact g_wk (kM_sumOf_17 C hQ _ h) (trivial)
  · have h := h.2 q
    refine g_aload_0 C dX11_sumOf_8 rfl ?_
    refine g_iload_1 C dX11_sumOf_9 rfl ?_
    refine g_iload_2 C dX11_sumOf_10 rfl ?_
    refine csM_X11_249 C h ⟨Nat.le_of_ble_eq_true rfl, Nat.le_of_ble_eq_true rfl⟩ (Nat.le_of_ble_eq_true rfl) dX11_sumOf_11 (fun _ _ h => ?_)
    refine g_if_eq C 19 dX11_sumOf_14 (by decide) (fun q => ?_) (fun q => ?_)
    · have h := h.1 q
      refine g_iconst_0 C dX11_sumOf_19 ?_
      refine g_istore_3 C dX11_sumOf_20 (Nat.le_of_ble_eq_true rfl) ?_
      refine g_iconst_0 C dX11_sumOf_21 ?_
      refine g_istore C dX11_sumOf_22 (Nat.le_of_ble_eq_true rfl) ?_
      refine g_iconst_0 C dX11_sumOf_24 ?_
      refine g_istore C dX11_sumOf_25 (Nat.le_of_ble_eq_true rfl) ?_
      exact g_wk (kM_sumOf_27 C hQ _ _ _ _ _ _ h) (And.intro rfl (And.intro rfl (And.intro rfl (And.intro rfl (And.intro rfl (And.intro rfl (trivial)))))))
    · have h := h.2 q
      exact g_wk (kM_sumOf_17 C hQ _ h) (trivial)
theorem cM_sumOf {l : Launch} {E : Ev} {a : Nat → Nat} {x1 x2 : Int32} {σ : St} {post : Int32 → St → Prop} (h : wpM_sumOf x1 x2 σ post) : CI l E (wM E a) yX11_sumOf cX11_sumOf 7 .int rmM_sumOf [.ref (a 0), .int x1, .int x2] σ post := met_i (by decide) rfl (Nat.le_of_ble_eq_true rfl) rfl (fun X C hQ => kM_sumOf C hQ _ _ _ h)
theorem csM_X11_256 {X : Kx} {l : Launch} {E : Ev} {a : Nat → Nat} {σ : St} {cc : ByteArray} {rm : Room} {ret : Option FieldType} {pc : Nat} {lv : List (Option Value)} {rest : List Value} {x0 x1 : Int32} {post : Int32 → St → Prop} (C : Cx X l E RX11 cc rm ret) (h : wpM_isRanked x0 x1 σ post) (hR : 2 + 1 ≤ rm.frames ∧ 8 + (5 + 11) + 43 ≤ rm.locals) (hW : (rest.map fun v => v.category).sum ≤ 8) (d : decode cc pc = .ok (.invokevirtual 256, 3)) (k : ∀ (r : Int32) (u : St), post r u → G X (wM E a) u (pc + 3) lv (.int r :: rest)) : G X (wM E a) σ pc lv (.int x1 :: .int x0 :: .ref (a 0) :: rest) := g_callVi C 2 (As := [.int x0, .int x1]) (rest := rest) (Cn := RX11) (T := TX11) (N := 42) (q0 := 0) (ci := 10) (by decide +kernel) (by decide +kernel) (by decide +kernel) (by decide +kernel) (by decide +kernel) (by decide +kernel) rfl rfl (cM_isRanked h) ⟨rfl, rfl⟩ hR rfl rfl hW d k
theorem csM_X11_259 {X : Kx} {l : Launch} {E : Ev} {a : Nat → Nat} {σ : St} {cc : ByteArray} {rm : Room} {ret : Option FieldType} {pc : Nat} {lv : List (Option Value)} {rest : List Value} {x0 x1 : Int32} {post : Int32 → St → Prop} (C : Cx X l E RX11 cc rm ret) (h : wpM_sumOf x0 x1 σ post) (hR : 2 + 1 ≤ rm.frames ∧ 8 + (7 + 11) + 43 ≤ rm.locals) (hW : (rest.map fun v => v.category).sum ≤ 8) (d : decode cc pc = .ok (.invokevirtual 259, 3)) (k : ∀ (r : Int32) (u : St), post r u → G X (wM E a) u (pc + 3) lv (.int r :: rest)) : G X (wM E a) σ pc lv (.int x1 :: .int x0 :: .ref (a 0) :: rest) := g_callVi C 2 (As := [.int x0, .int x1]) (rest := rest) (Cn := RX11) (T := TX11) (N := 42) (q0 := 0) (ci := 10) (by decide +kernel) (by decide +kernel) (by decide +kernel) (by decide +kernel) (by decide +kernel) (by decide +kernel) rfl rfl (cM_sumOf h) ⟨rfl, rfl⟩ hR rfl rfl hW d k
/-! IceRunModel.rankOf(II)I -/
abbrev rmM_rankOf : Room := { frames := 3, cells := 0, slots := 0, locals := 69 }
def wpM_rankOf_57 (k_16 : Int32 → Int32 → Int32 → Int32 → St → Prop) (x1 x2 x4 s0 s1 : Int32) (σ : St) (post : Int32 → St → Prop) : Prop := let y1 : Int32 := (s0 + s1); let y2 : Int32 := x4 + 1; k_16 x1 x2 y1 y2 σ
theorem kM_rankOf_57 {X : Kx} {l : Launch} {E : Ev} {a : Nat → Nat} {post : Int32 → St → Prop} (C : Cx X l E RX11 cX11_rankOf rmM_rankOf (some .int)) (hQ : QI X (wM E a) post) (k_16 : Int32 → Int32 → Int32 → Int32 → St → Prop) (hk_16 : ∀ (x1 x2 x3 x4 : Int32) (σ : St), k_16 x1 x2 x3 x4 σ → G X (wM E a) σ 16 [some (.ref (a 0)), some (.int x1), some (.int x2), some (.int x3), some (.int x4)] []) (x1 x2 x4 s0 s1 : Int32) (σ : St) (h : wpM_rankOf_57 k_16 x1 x2 x4 s0 s1 σ post) : G X (wM E a) σ 57 [some (.ref (a 0)), some (.int x1), some (.int x2), none, some (.int x4)] [.int s1, .int s0] := by
  unfold wpM_rankOf_57 at h
  refine g_iadd C dX11_rankOf_57 ?_
  refine g_istore_3 C dX11_rankOf_58 (Nat.le_of_ble_eq_true rfl) ?_
  refine g_iinc C (v := 1) (by decide) dX11_rankOf_59 rfl ?_
  refine g_goto C 16 dX11_rankOf_62 (by decide) ?_
  exact g_wk (hk_16 _ _ _ _ _ h) (And.intro rfl (And.intro rfl (And.intro rfl (And.intro rfl (And.intro rfl (trivial))))))
def wpM_rankOf_56 (k_16 : Int32 → Int32 → Int32 → Int32 → St → Prop) (x1 x2 x4 s0 : Int32) (σ : St) (post : Int32 → St → Prop) : Prop := wpM_rankOf_57 k_16 x1 x2 x4 s0 0 σ post
theorem kM_rankOf_56 {X : Kx} {l : Launch} {E : Ev} {a : Nat → Nat} {post : Int32 → St → Prop} (C : Cx X l E RX11 cX11_rankOf rmM_rankOf (some .int)) (hQ : QI X (wM E a) post) (k_16 : Int32 → Int32 → Int32 → Int32 → St → Prop) (hk_16 : ∀ (x1 x2 x3 x4 : Int32) (σ : St), k_16 x1 x2 x3 x4 σ → G X (wM E a) σ 16 [some (.ref (a 0)), some (.int x1), some (.int x2), some (.int x3), some (.int x4)] []) (x1 x2 x4 s0 : Int32) (σ : St) (h : wpM_rankOf_56 k_16 x1 x2 x4 s0 σ post) : G X (wM E a) σ 56 [some (.ref (a 0)), some (.int x1), some (.int x2), none, some (.int x4)] [.int s0] := by
  unfold wpM_rankOf_56 at h
  refine g_iconst_0 C dX11_rankOf_56 ?_
  exact g_wk (kM_rankOf_57 C hQ _ hk_16 _ _ _ _ _ _ h) (And.intro rfl (And.intro rfl (And.intro rfl (And.intro rfl (trivial)))))
def wpBM_rankOf_16 (k_16 : Int32 → Int32 → Int32 → Int32 → St → Prop) (x1 x2 x3 x4 : Int32) (σ : St) (post : Int32 → St → Prop) : Prop := (((σ.1 13) ≤ x4 → post x3 σ) ∧ (¬ (σ.1 13) ≤ x4 → wpM_isRanked x4 x2 σ (fun r2 σ1 => ((r2 = 0 → wpM_rankOf_56 k_16 x1 x2 x4 x3 σ1 post) ∧ (¬ r2 = 0 → wpM_sumOf x4 x2 σ1 (fun r4 σ3 => wpM_sumOf x1 x2 σ3 (fun r6 σ5 => ((r6 ≤ r4 → wpM_rankOf_56 k_16 x1 x2 x4 x3 σ5 post) ∧ (¬ r6 ≤ r4 → wpM_rankOf_57 k_16 x1 x2 x4 x3 1 σ5 post)))))))))
def wpM_rankOf_16 (x1 x2 x3 x4 : Int32) (σ : St) (post : Int32 → St → Prop) : Prop := ∃ n : Nat, lpN (α := Int32 × Int32 × Int32 × Int32 × St) (fun kb t => wpBM_rankOf_16 (fun x1 x2 x3 x4 σ => kb (x1, x2, x3, x4, σ)) t.1 t.2.1 t.2.2.1 t.2.2.2.1 t.2.2.2.2 post) n (x1, x2, x3, x4, σ)
theorem kBM_rankOf_16 {X : Kx} {l : Launch} {E : Ev} {a : Nat → Nat} {post : Int32 → St → Prop} (C : Cx X l E RX11 cX11_rankOf rmM_rankOf (some .int)) (hQ : QI X (wM E a) post) (k_16 : Int32 → Int32 → Int32 → Int32 → St → Prop) (hk_16 : ∀ (x1 x2 x3 x4 : Int32) (σ : St), k_16 x1 x2 x3 x4 σ → G X (wM E a) σ 16 [some (.ref (a 0)), some (.int x1), some (.int x2), some (.int x3), some (.int x4)] []) (x1 x2 x3 x4 : Int32) (σ : St) (h : wpBM_rankOf_16 k_16 x1 x2 x3 x4 σ post) : G X (wM E a) σ 16 [some (.ref (a 0)), some (.int x1), some (.int x2), some (.int x3), some (.int x4)] [] := by
  unfold wpBM_rankOf_16 at h
  refine g_iload C dX11_rankOf_16 rfl ?_
  refine g_aload_0 C dX11_rankOf_18 rfl ?_
  refine fgM_X11_139 C dX11_rankOf_19 ?_
  refine g_icmp_ge C 65 dX11_rankOf_22 (by decide) (fun q => ?_) (fun q => ?_)
  · have h := h.1 q
    refine g_iload_3 C dX11_rankOf_65 rfl ?_
    exact g_ireturn C hQ dX11_rankOf_66 h
  · have h := h.2 q
    refine g_iload_3 C dX11_rankOf_25 rfl ?_
    refine g_aload_0 C dX11_rankOf_26 rfl ?_
    refine g_iload C dX11_rankOf_27 rfl ?_
    refine g_iload_2 C dX11_rankOf_29 rfl ?_
    refine csM_X11_256 C h ⟨Nat.le_of_ble_eq_true rfl, Nat.le_of_ble_eq_true rfl⟩ (Nat.le_of_ble_eq_true rfl) dX11_rankOf_30 (fun _ _ h => ?_)
    refine g_if_eq C 56 dX11_rankOf_33 (by decide) (fun q => ?_) (fun q => ?_)
    · have h := h.1 q
      exact g_wk (kM_rankOf_56 C hQ _ hk_16 _ _ _ _ _ h) (And.intro rfl (And.intro rfl (And.intro rfl (And.intro rfl (trivial)))))
    · have h := h.2 q
      refine g_aload_0 C dX11_rankOf_36 rfl ?_
      refine g_iload C dX11_rankOf_37 rfl ?_
      refine g_iload_2 C dX11_rankOf_39 rfl ?_
      refine csM_X11_259 C h ⟨Nat.le_of_ble_eq_true rfl, Nat.le_of_ble_eq_true rfl⟩ (Nat.le_of_ble_eq_true rfl) dX11_rankOf_40 (fun _ _ h => ?_)
      refine g_aload_0 C dX11_rankOf_43 rfl ?_
      refine g_iload_1 C dX11_rankOf_44 rfl ?_
      refine g_iload_2 C dX11_rankOf_45 rfl ?_
      refine csM_X11_259 C h ⟨Nat.le_of_ble_eq_true rfl, Nat.le_of_ble_eq_true rfl⟩ (Nat.le_of_ble_eq_true rfl) dX11_rankOf_46 (fun _ _ h => ?_)
      refine g_icmp_ge C 56 dX11_rankOf_49 (by decide) (fun q => ?_) (fun q => ?_)
      · have h := h.1 q
        exact g_wk (kM_rankOf_56 C hQ _ hk_16 _ _ _ _ _ h) (And.intro rfl (And.intro rfl (And.intro rfl (And.intro rfl (trivial)))))
      · have h := h.2 q
        refine g_iconst_1 C dX11_rankOf_52 ?_
        refine g_goto C 57 dX11_rankOf_53 (by decide) ?_
        exact g_wk (kM_rankOf_57 C hQ _ hk_16 _ _ _ _ _ _ h) (And.intro rfl (And.intro rfl (And.intro rfl (And.intro rfl (trivial)))))
theorem kM_rankOf_16 {X : Kx} {l : Launch} {E : Ev} {a : Nat → Nat} {post : Int32 → St → Prop} (C : Cx X l E RX11 cX11_rankOf rmM_rankOf (some .int)) (hQ : QI X (wM E a) post) (x1 x2 x3 x4 : Int32) (σ : St) (h : wpM_rankOf_16  x1 x2 x3 x4 σ post) : G X (wM E a) σ 16 [some (.ref (a 0)), some (.int x1), some (.int x2), some (.int x3), some (.int x4)] [] := by
  obtain ⟨n, h⟩ := h
  exact g_loop (J := fun t : Int32 × Int32 × Int32 × Int32 × St => G X (wM E a) t.2.2.2.2 16 [some (.ref (a 0)), some (.int t.1), some (.int t.2.1), some (.int t.2.2.1), some (.int t.2.2.2.1)] []) (fun kb hkb t ht => kBM_rankOf_16 C hQ  (fun x1 x2 x3 x4 σ => kb (x1, x2, x3, x4, σ)) (fun x1 x2 x3 x4 σ hh => hkb (x1, x2, x3, x4, σ) hh) t.1 t.2.1 t.2.2.1 t.2.2.2.1 t.2.2.2.2 ht) n (x1, x2, x3, x4, σ) h
def wpM_rankOf (x1 x2 : Int32) (σ : St) (post : Int32 → St → Prop) : Prop := wpM_isRanked x1 x2 σ (fun r2 σ1 => ((¬ r2 = 0 → wpM_rankOf_16 x1 x2 1 0 σ1 post) ∧ (r2 = 0 → post (-1) σ1)))
theorem kM_rankOf {X : Kx} {l : Launch} {E : Ev} {a : Nat → Nat} {post : Int32 → St → Prop} (C : Cx X l E RX11 cX11_rankOf rmM_rankOf (some .int)) (hQ : QI X (wM E a) post) (x1 x2 : Int32) (σ : St) (h : wpM_rankOf x1 x2 σ post) : G X (wM E a) σ 0 [some (.ref (a 0)), some (.int x1), some (.int x2), none, none] [] := by
  unfold wpM_rankOf at h
  refine g_aload_0 C dX11_rankOf_0 rfl ?_
  refine g_iload_1 C dX11_rankOf_1 rfl ?_
  refine g_iload_2 C dX11_rankOf_2 rfl ?_
  refine csM_X11_256 C h ⟨Nat.le_of_ble_eq_true rfl, Nat.le_of_ble_eq_true rfl⟩ (Nat.le_of_ble_eq_true rfl) dX11_rankOf_3 (fun _ _ h => ?_)
  refine g_if_ne C 11 dX11_rankOf_6 (by decide) (fun q => ?_) (fun q => ?_)
  · have h := h.1 q
    refine g_iconst_1 C dX11_rankOf_11 ?_
    refine g_istore_3 C dX11_rankOf_12 (Nat.le_of_ble_eq_true rfl) ?_
    refine g_iconst_0 C dX11_rankOf_13 ?_
    refine g_istore C dX11_rankOf_14 (Nat.le_of_ble_eq_true rfl) ?_
    exact g_wk (kM_rankOf_16 C hQ _ _ _ _ _ h) (And.intro rfl (And.intro rfl (And.intro rfl (And.intro rfl (And.intro rfl (trivial))))))
  · have h := h.2 q
    refine g_iconst_m1 C dX11_rankOf_9 ?_
    exact g_ireturn C hQ dX11_rankOf_10 h
theorem cM_rankOf {l : Launch} {E : Ev} {a : Nat → Nat} {x1 x2 : Int32} {σ : St} {post : Int32 → St → Prop} (h : wpM_rankOf x1 x2 σ post) : CI l E (wM E a) yX11_rankOf cX11_rankOf 5 .int rmM_rankOf [.ref (a 0), .int x1, .int x2] σ post := met_i (by decide) rfl (Nat.le_of_ble_eq_true rfl) rfl (fun X C hQ => kM_rankOf C hQ _ _ _ h)

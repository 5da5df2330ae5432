theorem csM_X11_262 {X : Kx} {l : Launch} {E : Ev} {a : Nat → Nat} {σ : St} {cc : ByteArray} {rm : Room} {ret : Option FieldType} {pc : Nat} {lv : List (Option Value)} {rest : List Value} {x0 x1 x2 : Int32} {post : Int32 → St → Prop} (C : Cx X l E RX11 cc rm ret) (h : wpM_timeAt x0 x1 x2 σ post) (hR : 0 + 1 ≤ rm.frames ∧ 8 + (4 + 11) + 0 ≤ rm.locals) (hW : (rest.map fun v => v.category).sum ≤ 8) (d : decode cc pc = .ok (.invokevirtual 262, 3)) (k : ∀ (r : Int32) (u : St), post r u → G X (wM E a) u (pc + 3) lv (.int r :: rest)) : G X (wM E a) σ pc lv (.int x2 :: .int x1 :: .int x0 :: .ref (a 0) :: rest) := g_callVi C 3 (As := [.int x0, .int x1, .int x2]) (rest := rest) (Cn := RX11) (T := TX11) (N := 42) (q0 := 0) (ci := 10) (by decide +kernel) (by decide +kernel) (by decide +kernel) (by decide +kernel) (by decide +kernel) (by decide +kernel) rfl rfl (cM_timeAt h) ⟨rfl, rfl⟩ hR rfl rfl hW d k
theorem mm_X11_265 : Cond.methodLink RX11 265 Lib.Math.min.name ∈ UW := by decide +kernel
theorem mwM_min : Cond.static Lib.Math.min.name ∈ UW ∧ Cond.initialized "java/lang/Math" ∈ UW ∧ Cond.code Lib.Math.min.name Lib.Math.min.code 2 (some .int) ∈ UW := ⟨by decide +kernel, by decide +kernel, by decide +kernel⟩
/-! IceRunModel.lost(III)I -/
abbrev rmM_lost : Room := { frames := 2, cells := 0, slots := 0, locals := 44 }
def wpM_lost_38 (σ : St) (post : Int32 → St → Prop) : Prop := post (-1) σ
theorem kM_lost_38 {X : Kx} {l : Launch} {E : Ev} {a : Nat → Nat} {post : Int32 → St → Prop} (C : Cx X l E RX11 cX11_lost rmM_lost (some .int)) (hQ : QI X (wM E a) post) (σ : St) (h : wpM_lost_38   σ post) : G X (wM E a) σ 38 [none, none, none, none, none, none, none, none, none] [] := by
  unfold wpM_lost_38 at h
  refine g_iconst_m1 C dX11_lost_38 ?_
  exact g_ireturn C hQ dX11_lost_39 h
def wpM_lost_254 (s0 s1 : Int32) (σ : St) (post : Int32 → St → Prop) : Prop := post (s0 + s1) σ
theorem kM_lost_254 {X : Kx} {l : Launch} {E : Ev} {a : Nat → Nat} {post : Int32 → St → Prop} (C : Cx X l E RX11 cX11_lost rmM_lost (some .int)) (hQ : QI X (wM E a) post) (s0 s1 : Int32) (σ : St) (h : wpM_lost_254  s0 s1 σ post) : G X (wM E a) σ 254 [none, none, none, none, none, none, none, none, none] [.int s1, .int s0] := by
  unfold wpM_lost_254 at h
  refine g_iadd C dX11_lost_254 ?_
  exact g_ireturn C hQ dX11_lost_255 h
def wpM_lost_213 (k_132 : Int32 → Int32 → Int32 → Int32 → Int32 → Int32 → Int32 → St → Prop) (x1 x3 x4 x5 x6 x7 x8 : Int32) (σ : St) (post : Int32 → St → Prop) : Prop := let y1 : Int32 := x8 + 1; k_132 x1 x3 x4 x5 x6 x7 y1 σ
theorem kM_lost_213 {X : Kx} {l : Launch} {E : Ev} {a : Nat → Nat} {post : Int32 → St → Prop} (C : Cx X l E RX11 cX11_lost rmM_lost (some .int)) (hQ : QI X (wM E a) post) (k_132 : Int32 → Int32 → Int32 → Int32 → Int32 → Int32 → Int32 → St → Prop) (hk_132 : ∀ (x1 x3 x4 x5 x6 x7 x8 : Int32) (σ : St), k_132 x1 x3 x4 x5 x6 x7 x8 σ → G X (wM E a) σ 132 [some (.ref (a 0)), some (.int x1), none, some (.int x3), some (.int x4), some (.int x5), some (.int x6), some (.int x7), some (.int x8)] []) (x1 x3 x4 x5 x6 x7 x8 : Int32) (σ : St) (h : wpM_lost_213 k_132 x1 x3 x4 x5 x6 x7 x8 σ post) : G X (wM E a) σ 213 [some (.ref (a 0)), some (.int x1), none, some (.int x3), some (.int x4), some (.int x5), some (.int x6), some (.int x7), some (.int x8)] [] := by
  unfold wpM_lost_213 at h
  refine g_iinc C (v := 1) (by decide) dX11_lost_213 rfl ?_
  refine g_goto C 132 dX11_lost_216 (by decide) ?_
  exact g_wk (hk_132 _ _ _ _ _ _ _ _ h) (And.intro rfl (And.intro rfl (And.intro rfl (And.intro rfl (And.intro rfl (And.intro rfl (And.intro rfl (And.intro rfl (trivial)))))))))
def wpBM_lost_132 (k_132 : Int32 → Int32 → Int32 → Int32 → Int32 → Int32 → Int32 → St → Prop) (x1 x3 x4 x5 x6 x7 x8 : Int32) (σ : St) (post : Int32 → St → Prop) : Prop := (((σ.1 13) ≤ x8 → let y1 : Int32 := (x7 - x6); (¬ (x5 - x4) = 0) ∧ ((¬ (x5 - x4) = 0) ∧ ((((y1 - y1 / (x5 - x4) * (x5 - x4)) ≤ (x3 - x4) → wpM_lost_254 (y1 / (x5 - x4)) 0 σ post) ∧ (¬ (y1 - y1 / (x5 - x4) * (x5 - x4)) ≤ (x3 - x4) → wpM_lost_254 (y1 / (x5 - x4)) 1 σ post))))) ∧ (¬ (σ.1 13) ≤ x8 → vp_in ((16 * x1) + x8) 64 ∧ ((((σ.2 33 (Int32.toNatClampNeg ((16 * x1) + x8))) = 0 → wpM_lost_213 k_132 x1 x3 x4 x5 x6 x7 x8 σ post) ∧ (¬ (σ.2 33 (Int32.toNatClampNeg ((16 * x1) + x8))) = 0 → wpM_timeAt x1 x8 x4 σ (fun r3 σ2 => ((r3 = (-1000000) → wpM_lost_213 k_132 x1 x3 x4 x5 x6 x7 x8 σ2 post) ∧ (¬ r3 = (-1000000) → wpM_timeAt x1 x8 x5 σ2 (fun r5 σ4 => ((¬ r5 = (-1000000) → wpM_timeAt x1 x8 x5 σ4 (fun r7 σ6 => wpM_timeAt x1 x8 x4 σ6 (fun r9 σ8 => let y10 : Int32 := (if (r7 - r9) < x6 then (r7 - r9) else x6); wpM_lost_213 k_132 x1 x3 x4 x5 y10 x7 x8 σ8 post))) ∧ (r5 = (-1000000) → wpM_lost_213 k_132 x1 x3 x4 x5 x6 x7 x8 σ4 post)))))))))))
def wpM_lost_132 (x1 x3 x4 x5 x6 x7 x8 : Int32) (σ : St) (post : Int32 → St → Prop) : Prop := ∃ n : Nat, lpN (α := Int32 × Int32 × Int32 × Int32 × Int32 × Int32 × Int32 × St) (fun kb t => wpBM_lost_132 (fun x1 x3 x4 x5 x6 x7 x8 σ => kb (x1, x3, x4, x5, x6, x7, x8, σ)) t.1 t.2.1 t.2.2.1 t.2.2.2.1 t.2.2.2.2.1 t.2.2.2.2.2.1 t.2.2.2.2.2.2.1 t.2.2.2.2.2.2.2 post) n (x1, x3, x4, x5, x6, x7, x8, σ)
theorem kBM_lost_132 {X : Kx} {l : Launch} {E : Ev} {a : Nat → Nat} {post : Int32 → St → Prop} (C : Cx X l E RX11 cX11_lost rmM_lost (some .int)) (hQ : QI X (wM E a) post) (k_132 : Int32 → Int32 → Int32 → Int32 → Int32 → Int32 → Int32 → St → Prop) (hk_132 : ∀ (x1 x3 x4 x5 x6 x7 x8 : Int32) (σ : St), k_132 x1 x3 x4 x5 x6 x7 x8 σ → G X (wM E a) σ 132 [some (.ref (a 0)), some (.int x1), none, some (.int x3), some (.int x4), some (.int x5), some (.int x6), some (.int x7), some (.int x8)] []) (x1 x3 x4 x5 x6 x7 x8 : Int32) (σ : St) (h : wpBM_lost_132 k_132 x1 x3 x4 x5 x6 x7 x8 σ post) : G X (wM E a) σ 132 [some (.ref (a 0)), some (.int x1), none, some (.int x3), some (.int x4), some (.int x5), some (.int x6), some (.int x7), some (.int x8)] [] := by
  unfold wpBM_lost_132 at h
  refine g_iload C dX11_lost_132 rfl ?_
  refine g_aload_0 C dX11_lost_134 rfl ?_
  refine fgM_X11_139 C dX11_lost_135 ?_
  refine g_icmp_ge C 219 dX11_lost_138 (by decide) (fun q => ?_) (fun q => ?_)
  · have h := h.1 q
    refine g_iload C dX11_lost_219 rfl ?_
    refine g_iload C dX11_lost_221 rfl ?_
    refine g_isub C dX11_lost_223 ?_
    refine g_istore C dX11_lost_224 (Nat.le_of_ble_eq_true rfl) ?_
    refine g_iload C dX11_lost_226 rfl ?_
    refine g_iload C dX11_lost_228 rfl ?_
    refine g_iload C dX11_lost_230 rfl ?_
    refine g_isub C dX11_lost_232 ?_
    obtain ⟨q, h⟩ := h
    refine g_idiv C q dX11_lost_233 ?_
    refine g_iload_3 C dX11_lost_234 rfl ?_
    refine g_iload C dX11_lost_235 rfl ?_
    refine g_isub C dX11_lost_237 ?_
    refine g_iload C dX11_lost_238 rfl ?_
    refine g_iload C dX11_lost_240 rfl ?_
    refine g_iload C dX11_lost_242 rfl ?_
    refine g_isub C dX11_lost_244 ?_
    obtain ⟨q, h⟩ := h
    refine g_irem C q dX11_lost_245 ?_
    refine g_icmp_ge C 253 dX11_lost_246 (by decide) (fun q => ?_) (fun q => ?_)
    · have h := h.1 q
      refine g_iconst_0 C dX11_lost_253 ?_
      exact g_wk (kM_lost_254 C hQ _ _ _ h) (trivial)
    · have h := h.2 q
      refine g_iconst_1 C dX11_lost_249 ?_
      refine g_goto C 254 dX11_lost_250 (by decide) ?_
      exact g_wk (kM_lost_254 C hQ _ _ _ h) (trivial)
  · have h := h.2 q
    refine g_aload_0 C dX11_lost_141 rfl ?_
    refine fgM_X11_79 C dX11_lost_142 ?_
    refine g_bipush C (v := 16) (by decide) dX11_lost_145 ?_
    refine g_iload_1 C dX11_lost_147 rfl ?_
    refine g_imul C dX11_lost_148 ?_
    refine g_iload C dX11_lost_149 rfl ?_
    refine g_iadd C dX11_lost_151 ?_
    obtain ⟨q, h⟩ := h
    refine alM_33 C q dX11_lost_152 ?_
    refine g_if_eq C 213 dX11_lost_153 (by decide) (fun q => ?_) (fun q => ?_)
    · have h := h.1 q
      exact g_wk (kM_lost_213 C hQ _ hk_132 _ _ _ _ _ _ _ _ h) (And.intro rfl (And.intro rfl (And.intro rfl (And.intro rfl (And.intro rfl (And.intro rfl (And.intro rfl (And.intro rfl (trivial)))))))))
    · have h := h.2 q
      refine g_aload_0 C dX11_lost_156 rfl ?_
      refine g_iload_1 C dX11_lost_157 rfl ?_
      refine g_iload C dX11_lost_158 rfl ?_
      refine g_iload C dX11_lost_160 rfl ?_
      refine csM_X11_262 C h ⟨Nat.le_of_ble_eq_true rfl, Nat.le_of_ble_eq_true rfl⟩ (Nat.le_of_ble_eq_true rfl) dX11_lost_162 (fun _ _ h => ?_)
      refine g_ldc C lc_X11_245 dX11_lost_165 ?_
      refine g_icmp_eq C 213 dX11_lost_167 (by decide) (fun q => ?_) (fun q => ?_)
      · have h := h.1 q
        exact g_wk (kM_lost_213 C hQ _ hk_132 _ _ _ _ _ _ _ _ h) (And.intro rfl (And.intro rfl (And.intro rfl (And.intro rfl (And.intro rfl (And.intro rfl (And.intro rfl (And.intro rfl (trivial)))))))))
      · have h := h.2 q
        refine g_aload_0 C dX11_lost_170 rfl ?_
        refine g_iload_1 C dX11_lost_171 rfl ?_
        refine g_iload C dX11_lost_172 rfl ?_
        refine g_iload C dX11_lost_174 rfl ?_
        refine csM_X11_262 C h ⟨Nat.le_of_ble_eq_true rfl, Nat.le_of_ble_eq_true rfl⟩ (Nat.le_of_ble_eq_true rfl) dX11_lost_176 (fun _ _ h => ?_)
        refine g_ldc C lc_X11_245 dX11_lost_179 ?_
        refine g_icmp_ne C 187 dX11_lost_181 (by decide) (fun q => ?_) (fun q => ?_)
        · have h := h.1 q
          refine g_iload C dX11_lost_187 rfl ?_
          refine g_aload_0 C dX11_lost_189 rfl ?_
          refine g_iload_1 C dX11_lost_190 rfl ?_
          refine g_iload C dX11_lost_191 rfl ?_
          refine g_iload C dX11_lost_193 rfl ?_
          refine csM_X11_262 C h ⟨Nat.le_of_ble_eq_true rfl, Nat.le_of_ble_eq_true rfl⟩ (Nat.le_of_ble_eq_true rfl) dX11_lost_195 (fun _ _ h => ?_)
          refine g_aload_0 C dX11_lost_198 rfl ?_
          refine g_iload_1 C dX11_lost_199 rfl ?_
          refine g_iload C dX11_lost_200 rfl ?_
          refine g_iload C dX11_lost_202 rfl ?_
          refine csM_X11_262 C h ⟨Nat.le_of_ble_eq_true rfl, Nat.le_of_ble_eq_true rfl⟩ (Nat.le_of_ble_eq_true rfl) dX11_lost_204 (fun _ _ h => ?_)
          refine g_isub C dX11_lost_207 ?_
          refine g_mmin C mm_X11_265 mwM_min.1 mwM_min.2.1 mwM_min.2.2 ⟨Nat.le_of_ble_eq_true rfl, Nat.le_of_ble_eq_true rfl⟩ dX11_lost_208 ?_
          refine g_istore C dX11_lost_211 (Nat.le_of_ble_eq_true rfl) ?_
          exact g_wk (kM_lost_213 C hQ _ hk_132 _ _ _ _ _ _ _ _ h) (And.intro rfl (And.intro rfl (And.intro rfl (And.intro rfl (And.intro rfl (And.intro rfl (And.intro rfl (And.intro rfl (trivial)))))))))
        · have h := h.2 q
          refine g_goto C 213 dX11_lost_184 (by decide) ?_
          exact g_wk (kM_lost_213 C hQ _ hk_132 _ _ _ _ _ _ _ _ h) (And.intro rfl (And.intro rfl (And.intro rfl (And.intro rfl (And.intro rfl (And.intro rfl (And.intro rfl (And.intro rfl (trivial)))))))))
theorem kM_lost_132 {X : Kx} {l : Launch} {E : Ev} {a : Nat → Nat} {post : Int32 → St → Prop} (C : Cx X l E RX11 cX11_lost rmM_lost (some .int)) (hQ : QI X (wM E a) post) (x1 x3 x4 x5 x6 x7 x8 : Int32) (σ : St) (h : wpM_lost_132  x1 x3 x4 x5 x6 x7 x8 σ post) : G X (wM E a) σ 132 [some (.ref (a 0)), some (.int x1), none, some (.int x3), some (.int x4), some (.int x5), some (.int x6), some (.int x7), some (.int x8)] [] := by
  obtain ⟨n, h⟩ := h
  exact g_loop (J := fun t : Int32 × Int32 × Int32 × Int32 × Int32 × Int32 × Int32 × St => G X (wM E a) t.2.2.2.2.2.2.2 132 [some (.ref (a 0)), some (.int t.1), none, some (.int t.2.1), some (.int t.2.2.1), some (.int t.2.2.2.1), some (.int t.2.2.2.2.1), some (.int t.2.2.2.2.2.1), some (.int t.2.2.2.2.2.2.1)] []) (fun kb hkb t ht => kBM_lost_132 C hQ  (fun x1 x3 x4 x5 x6 x7 x8 σ => kb (x1, x3, x4, x5, x6, x7, x8, σ)) (fun x1 x3 x4 x5 x6 x7 x8 σ hh => hkb (x1, x3, x4, x5, x6, x7, x8, σ) hh) t.1 t.2.1 t.2.2.1 t.2.2.2.1 t.2.2.2.2.1 t.2.2.2.2.2.1 t.2.2.2.2.2.2.1 t.2.2.2.2.2.2.2 ht) n (x1, x3, x4, x5, x6, x7, x8, σ) h
def wpM_lost_95 (x1 x2 x3 x4 x5 : Int32) (σ : St) (post : Int32 → St → Prop) : Prop := ((¬ x5 = (σ.1 2) → wpM_timeAt x1 x2 x5 σ (fun r2 σ1 => wpM_timeAt x1 x2 x4 σ1 (fun r4 σ3 => let y5 : Int32 := (r2 - r4); wpM_lost_132 x1 x3 x4 x5 y5 y5 0 σ3 post))) ∧ (x5 = (σ.1 2) → post (-1) σ))
theorem kM_lost_95 {X : Kx} {l : Launch} {E : Ev} {a : Nat → Nat} {post : Int32 → St → Prop} (C : Cx X l E RX11 cX11_lost rmM_lost (some .int)) (hQ : QI X (wM E a) post) (x1 x2 x3 x4 x5 : Int32) (σ : St) (h : wpM_lost_95  x1 x2 x3 x4 x5 σ post) : G X (wM E a) σ 95 [some (.ref (a 0)), some (.int x1), some (.int x2), some (.int x3), some (.int x4), some (.int x5), none, none, none] [] := by
  unfold wpM_lost_95 at h
  refine g_iload C dX11_lost_95 rfl ?_
  refine g_aload_0 C dX11_lost_97 rfl ?_
  refine fgM_X11_120 C dX11_lost_98 ?_
  refine g_icmp_ne C 106 dX11_lost_101 (by decide) (fun q => ?_) (fun q => ?_)
  · have h := h.1 q
    refine g_aload_0 C dX11_lost_106 rfl ?_
    refine g_iload_1 C dX11_lost_107 rfl ?_
    refine g_iload_2 C dX11_lost_108 rfl ?_
    refine g_iload C dX11_lost_109 rfl ?_
    refine csM_X11_262 C h ⟨Nat.le_of_ble_eq_true rfl, Nat.le_of_ble_eq_true rfl⟩ (Nat.le_of_ble_eq_true rfl) dX11_lost_111 (fun _ _ h => ?_)
    refine g_aload_0 C dX11_lost_114 rfl ?_
    refine g_iload_1 C dX11_lost_115 rfl ?_
    refine g_iload_2 C dX11_lost_116 rfl ?_
    refine g_iload C dX11_lost_117 rfl ?_
    refine csM_X11_262 C h ⟨Nat.le_of_ble_eq_true rfl, Nat.le_of_ble_eq_true rfl⟩ (Nat.le_of_ble_eq_true rfl) dX11_lost_119 (fun _ _ h => ?_)
    refine g_isub C dX11_lost_122 ?_
    refine g_istore C dX11_lost_123 (Nat.le_of_ble_eq_true rfl) ?_
    refine g_iload C dX11_lost_125 rfl ?_
    refine g_istore C dX11_lost_127 (Nat.le_of_ble_eq_true rfl) ?_
    refine g_iconst_0 C dX11_lost_129 ?_
    refine g_istore C dX11_lost_130 (Nat.le_of_ble_eq_true rfl) ?_
    exact g_wk (kM_lost_132 C hQ _ _ _ _ _ _ _ _ h) (And.intro rfl (And.intro rfl (And.intro rfl (And.intro rfl (And.intro rfl (And.intro rfl (And.intro rfl (And.intro rfl (trivial)))))))))
  · have h := h.2 q
    refine g_iconst_m1 C dX11_lost_104 ?_
    exact g_ireturn C hQ dX11_lost_105 h
def wpBM_lost_67 (k_67 : Int32 → Int32 → Int32 → Int32 → Int32 → St → Prop) (x1 x2 x3 x4 x5 : Int32) (σ : St) (post : Int32 → St → Prop) : Prop := (((σ.1 2) ≤ x5 → wpM_lost_95 x1 x2 x3 x4 x5 σ post) ∧ (¬ (σ.1 2) ≤ x5 → wpM_timeAt x1 x2 x5 σ (fun r2 σ1 => ((¬ r2 = (-1000000) → wpM_lost_95 x1 x2 x3 x4 x5 σ1 post) ∧ (r2 = (-1000000) → let y3 : Int32 := x5 + 1; k_67 x1 x2 x3 x4 y3 σ1)))))
def wpM_lost_67 (x1 x2 x3 x4 x5 : Int32) (σ : St) (post : Int32 → St → Prop) : Prop := ∃ n : Nat, lpN (α := Int32 × Int32 × Int32 × Int32 × Int32 × St) (fun kb t => wpBM_lost_67 (fun x1 x2 x3 x4 x5 σ => kb (x1, x2, x3, x4, x5, σ)) t.1 t.2.1 t.2.2.1 t.2.2.2.1 t.2.2.2.2.1 t.2.2.2.2.2 post) n (x1, x2, x3, x4, x5, σ)
theorem kBM_lost_67 {X : Kx} {l : Launch} {E : Ev} {a : Nat → Nat} {post : Int32 → St → Prop} (C : Cx X l E RX11 cX11_lost rmM_lost (some .int)) (hQ : QI X (wM E a) post) (k_67 : Int32 → Int32 → Int32 → Int32 → Int32 → St → Prop) (hk_67 : ∀ (x1 x2 x3 x4 x5 : Int32) (σ : St), k_67 x1 x2 x3 x4 x5 σ → G X (wM E a) σ 67 [some (.ref (a 0)), some (.int x1), some (.int x2), some (.int x3), some (.int x4), some (.int x5), none, none, none] []) (x1 x2 x3 x4 x5 : Int32) (σ : St) (h : wpBM_lost_67 k_67 x1 x2 x3 x4 x5 σ post) : G X (wM E a) σ 67 [some (.ref (a 0)), some (.int x1), some (.int x2), some (.int x3), some (.int x4), some (.int x5), none, none, none] [] := by
  unfold wpBM_lost_67 at h
  refine g_iload C dX11_lost_67 rfl ?_
  refine g_aload_0 C dX11_lost_69 rfl ?_
  refine fgM_X11_120 C dX11_lost_70 ?_
  refine g_icmp_ge C 95 dX11_lost_73 (by decide) (fun q => ?_) (fun q => ?_)
  · have h := h.1 q
    exact g_wk (kM_lost_95 C hQ _ _ _ _ _ _ h) (And.intro rfl (And.intro rfl (And.intro rfl (And.intro rfl (And.intro rfl (And.intro rfl (trivial)))))))
  · have h := h.2 q
    refine g_aload_0 C dX11_lost_76 rfl ?_
    refine g_iload_1 C dX11_lost_77 rfl ?_
    refine g_iload_2 C dX11_lost_78 rfl ?_
    refine g_iload C dX11_lost_79 rfl ?_
    refine csM_X11_262 C h ⟨Nat.le_of_ble_eq_true rfl, Nat.le_of_ble_eq_true rfl⟩ (Nat.le_of_ble_eq_true rfl) dX11_lost_81 (fun _ _ h => ?_)
    refine g_ldc C lc_X11_245 dX11_lost_84 ?_
    refine g_icmp_ne C 95 dX11_lost_86 (by decide) (fun q => ?_) (fun q => ?_)
    · have h := h.1 q
      exact g_wk (kM_lost_95 C hQ _ _ _ _ _ _ h) (And.intro rfl (And.intro rfl (And.intro rfl (And.intro rfl (And.intro rfl (And.intro rfl (trivial)))))))
    · have h := h.2 q
      refine g_iinc C (v := 1) (by decide) dX11_lost_89 rfl ?_
      refine g_goto C 67 dX11_lost_92 (by decide) ?_
      exact g_wk (hk_67 _ _ _ _ _ _ h) (And.intro rfl (And.intro rfl (And.intro rfl (And.intro rfl (And.intro rfl (And.intro rfl (trivial)))))))
theorem kM_lost_67 {X : Kx} {l : Launch} {E : Ev} {a : Nat → Nat} {post : Int32 → St → Prop} (C : Cx X l E RX11 cX11_lost rmM_lost (some .int)) (hQ : QI X (wM E a) post) (x1 x2 x3 x4 x5 : Int32) (σ : St) (h : wpM_lost_67  x1 x2 x3 x4 x5 σ post) : G X (wM E a) σ 67 [some (.ref (a 0)), some (.int x1), some (.int x2), some (.int x3), some (.int x4), some (.int x5), none, none, none] [] := by
  obtain ⟨n, h⟩ := h
  exact g_loop (J := fun t : Int32 × Int32 × Int32 × Int32 × Int32 × St => G X (wM E a) t.2.2.2.2.2 67 [some (.ref (a 0)), some (.int t.1), some (.int t.2.1), some (.int t.2.2.1), some (.int t.2.2.2.1), some (.int t.2.2.2.2.1), none, none, none] []) (fun kb hkb t ht => kBM_lost_67 C hQ  (fun x1 x2 x3 x4 x5 σ => kb (x1, x2, x3, x4, x5, σ)) (fun x1 x2 x3 x4 x5 σ hh => hkb (x1, x2, x3, x4, x5, σ) hh) t.1 t.2.1 t.2.2.1 t.2.2.2.1 t.2.2.2.2.1 t.2.2.2.2.2 ht) n (x1, x2, x3, x4, x5, σ) h
def wpBM_lost_43 (k_43 : Int32 → Int32 → Int32 → Int32 → St → Prop) (x1 x2 x3 x4 : Int32) (σ : St) (post : Int32 → St → Prop) : Prop := wpM_timeAt x1 x2 x4 σ (fun r2 σ1 => ((¬ r2 = (-1000000) → let y3 : Int32 := (x3 + 1); wpM_lost_67 x1 x2 x3 x4 y3 σ1 post) ∧ (r2 = (-1000000) → let y4 : Int32 := x4 + (-1); k_43 x1 x2 x3 y4 σ1)))
def wpM_lost_43 (x1 x2 x3 x4 : Int32) (σ : St) (post : Int32 → St → Prop) : Prop := ∃ n : Nat, lpN (α := Int32 × Int32 × Int32 × Int32 × St) (fun kb t => wpBM_lost_43 (fun x1 x2 x3 x4 σ => kb (x1, x2, x3, x4, σ)) t.1 t.2.1 t.2.2.1 t.2.2.2.1 t.2.2.2.2 post) n (x1, x2, x3, x4, σ)
theorem kBM_lost_43 {X : Kx} {l : Launch} {E : Ev} {a : Nat → Nat} {post : Int32 → St → Prop} (C : Cx X l E RX11 cX11_lost rmM_lost (some .int)) (hQ : QI X (wM E a) post) (k_43 : Int32 → Int32 → Int32 → Int32 → St → Prop) (hk_43 : ∀ (x1 x2 x3 x4 : Int32) (σ : St), k_43 x1 x2 x3 x4 σ → G X (wM E a) σ 43 [some (.ref (a 0)), some (.int x1), some (.int x2), some (.int x3), some (.int x4), none, none, none, none] []) (x1 x2 x3 x4 : Int32) (σ : St) (h : wpBM_lost_43 k_43 x1 x2 x3 x4 σ post) : G X (wM E a) σ 43 [some (.ref (a 0)), some (.int x1), some (.int x2), some (.int x3), some (.int x4), none, none, none, none] [] := by
  unfold wpBM_lost_43 at h
  refine g_aload_0 C dX11_lost_43 rfl ?_
  refine g_iload_1 C dX11_lost_44 rfl ?_
  refine g_iload_2 C dX11_lost_45 rfl ?_
  refine g_iload C dX11_lost_46 rfl ?_
  refine csM_X11_262 C h ⟨Nat.le_of_ble_eq_true rfl, Nat.le_of_ble_eq_true rfl⟩ (Nat.le_of_ble_eq_true rfl) dX11_lost_48 (fun _ _ h => ?_)
  refine g_ldc C lc_X11_245 dX11_lost_51 ?_
  refine g_icmp_ne C 62 dX11_lost_53 (by decide) (fun q => ?_) (fun q => ?_)
  · have h := h.1 q
    refine g_iload_3 C dX11_lost_62 rfl ?_
    refine g_iconst_1 C dX11_lost_63 ?_
    refine g_iadd C dX11_lost_64 ?_
    refine g_istore C dX11_lost_65 (Nat.le_of_ble_eq_true rfl) ?_
    exact g_wk (kM_lost_67 C hQ _ _ _ _ _ _ h) (And.intro rfl (And.intro rfl (And.intro rfl (And.intro rfl (And.intro rfl (And.intro rfl (trivial)))))))
  · have h := h.2 q
    refine g_iinc C (v := (-1)) (by decide) dX11_lost_56 rfl ?_
    refine g_goto C 43 dX11_lost_59 (by decide) ?_
    exact g_wk (hk_43 _ _ _ _ _ h) (And.intro rfl (And.intro rfl (And.intro rfl (And.intro rfl (And.intro rfl (trivial))))))
theorem kM_lost_43 {X : Kx} {l : Launch} {E : Ev} {a : Nat → Nat} {post : Int32 → St → Prop} (C : Cx X l E RX11 cX11_lost rmM_lost (some .int)) (hQ : QI X (wM E a) post) (x1 x2 x3 x4 : Int32) (σ : St) (h : wpM_lost_43  x1 x2 x3 x4 σ post) : G X (wM E a) σ 43 [some (.ref (a 0)), some (.int x1), some (.int x2), some (.int x3), some (.int x4), none, none, none, none] [] := by
  obtain ⟨n, h⟩ := h
  exact g_loop (J := fun t : Int32 × Int32 × Int32 × Int32 × St => G X (wM E a) t.2.2.2.2 43 [some (.ref (a 0)), some (.int t.1), some (.int t.2.1), some (.int t.2.2.1), some (.int t.2.2.2.1), none, none, none, none] []) (fun kb hkb t ht => kBM_lost_43 C hQ  (fun x1 x2 x3 x4 σ => kb (x1, x2, x3, x4, σ)) (fun x1 x2 x3 x4 σ hh => hkb (x1, x2, x3, x4, σ) hh) t.1 t.2.1 t.2.2.1 t.2.2.2.1 t.2.2.2.2 ht) n (x1, x2, x3, x4, σ) h
def wpM_lost (x1 x2 x3 : Int32) (σ : St) (post : Int32 → St → Prop) : Prop := let σ1 : St := pI σ 0 0; wpM_hasCome x1 x2 σ1 (fun r3 σ2 => ((r3 = 0 → wpM_lost_38 σ2 post) ∧ (¬ r3 = 0 → vp_in x1 4 ∧ (((¬ (σ2.2 28 (Int32.toNatClampNeg x1)) = 2 → wpM_lost_38 σ2 post) ∧ ((σ2.2 28 (Int32.toNatClampNeg x1)) = 2 → wpM_within x3 0 ((σ2.1 2) - 2) σ2 (fun r5 σ4 => ((¬ r5 = 0 → wpM_lost_43 x1 x2 x3 x3 σ4 post) ∧ (r5 = 0 → wpM_lost_38 σ4 post)))))))))
theorem kM_lost {X : Kx} {l : Launch} {E : Ev} {a : Nat → Nat} {post : Int32 → St → Prop} (C : Cx X l E RX11 cX11_lost rmM_lost (some .int)) (hQ : QI X (wM E a) post) (x1 x2 x3 : Int32) (σ : St) (h : wpM_lost x1 x2 x3 σ post) : G X (wM E a) σ 0 [some (.ref (a 0)), some (.int x1), some (.int x2), some (.int x3), none, none, none, none, none] [] := by
  unfold wpM_lost at h
  refine g_aload_0 C dX11_lost_0 rfl ?_
  refine g_iconst_0 C dX11_lost_1 ?_
  refine fpM_X11_106 C dX11_lost_2 ?_
  refine g_aload_0 C dX11_lost_5 rfl ?_
  refine g_iload_1 C dX11_lost_6 rfl ?_
  refine g_iload_2 C dX11_lost_7 rfl ?_
  refine csM_X11_253 C h ⟨Nat.le_of_ble_eq_true rfl, Nat.le_of_ble_eq_true rfl⟩ (Nat.le_of_ble_eq_true rfl) dX11_lost_8 (fun _ _ h => ?_)
  refine g_if_eq C 38 dX11_lost_11 (by decide) (fun q => ?_) (fun q => ?_)
  · have h := h.1 q
    exact g_wk (kM_lost_38 C hQ _ h) (trivial)
  · have h := h.2 q
    refine g_aload_0 C dX11_lost_14 rfl ?_
    refine fgM_X11_69 C dX11_lost_15 ?_
    refine g_iload_1 C dX11_lost_18 rfl ?_
    obtain ⟨q, h⟩ := h
    refine alM_28 C q dX11_lost_19 ?_
    refine g_iconst_2 C dX11_lost_20 ?_
    refine g_icmp_ne C 38 dX11_lost_21 (by decide) (fun q => ?_) (fun q => ?_)
    · have h := h.1 q
      exact g_wk (kM_lost_38 C hQ _ h) (trivial)
    · have h := h.2 q
      refine g_iload_3 C dX11_lost_24 rfl ?_
      refine g_iconst_0 C dX11_lost_25 ?_
      refine g_aload_0 C dX11_lost_26 rfl ?_
      refine fgM_X11_120 C dX11_lost_27 ?_
      refine g_iconst_2 C dX11_lost_30 ?_
      refine g_isub C dX11_lost_31 ?_
      refine csM_X11_109 C h ⟨Nat.le_of_ble_eq_true rfl, Nat.le_of_ble_eq_true rfl⟩ (Nat.le_of_ble_eq_true rfl) dX11_lost_32 (fun _ _ h => ?_)
      refine g_if_ne C 40 dX11_lost_35 (by decide) (fun q => ?_) (fun q => ?_)
      · have h := h.1 q
        refine g_iload_3 C dX11_lost_40 rfl ?_
        refine g_istore C dX11_lost_41 (Nat.le_of_ble_eq_true rfl) ?_
        exact g_wk (kM_lost_43 C hQ _ _ _ _ _ h) (And.intro rfl (And.intro rfl (And.intro rfl (And.intro rfl (And.intro rfl (trivial))))))
      · have h := h.2 q
        exact g_wk (kM_lost_38 C hQ _ h) (trivial)
theorem cM_lost {l : Launch} {E : Ev} {a : Nat → Nat} {x1 x2 x3 : Int32} {σ : St} {post : Int32 → St → Prop} (h : wpM_lost x1 x2 x3 σ post) : CI l E (wM E a) yX11_lost cX11_lost 9 .int rmM_lost [.ref (a 0), .int x1, .int x2, .int x3] σ post := met_i (by decide) rfl (Nat.le_of_ble_eq_true rfl) rfl (fun X C hQ => kM_lost C hQ _ _ _ _ h)
/-! IceRunModel.pointsOf(I)I -/
abbrev rmM_pointsOf : Room := { frames := 0, cells := 0, slots := 0, locals := 0 }
def wpM_pointsOf_64 (s0 : Int32) (σ : St) (post : Int32 → St → Prop) : Prop := post s0 σ
theorem kM_pointsOf_64 {X : Kx} {l : Launch} {E : Ev} {a : Nat → Nat} {post : Int32 → St → Prop} (C : Cx X l E RX11 cX11_pointsOf rmM_pointsOf (some .int)) (hQ : QI X (wM E a) post) (s0 : Int32) (σ : St) (h : wpM_pointsOf_64  s0 σ post) : G X (wM E a) σ 64 [none] [.int s0] := by
  unfold wpM_pointsOf_64 at h
  exact g_ireturn C hQ dX11_pointsOf_64 h
def wpM_pointsOf (x0 : Int32) (σ : St) (post : Int32 → St → Prop) : Prop := ((¬ x0 = 1 → ((¬ x0 = 2 → ((¬ x0 = 3 → ((¬ x0 = 4 → ((¬ x0 = 5 → ((x0 ≤ 15 → wpM_pointsOf_64 (16 - x0) σ post) ∧ (¬ x0 ≤ 15 → wpM_pointsOf_64 0 σ post))) ∧ (x0 = 5 → wpM_pointsOf_64 11 σ post))) ∧ (x0 = 4 → wpM_pointsOf_64 13 σ post))) ∧ (x0 = 3 → wpM_pointsOf_64 16 σ post))) ∧ (x0 = 2 → wpM_pointsOf_64 20 σ post))) ∧ (x0 = 1 → wpM_pointsOf_64 25 σ post))
theorem kM_pointsOf {X : Kx} {l : Launch} {E : Ev} {a : Nat → Nat} {post : Int32 → St → Prop} (C : Cx X l E RX11 cX11_pointsOf rmM_pointsOf (some .int)) (hQ : QI X (wM E a) post) (x0 : Int32) (σ : St) (h : wpM_pointsOf x0 σ post) : G X (wM E a) σ 0 [some (.int x0)] [] := by
  unfold wpM_pointsOf at h
  refine g_iload_0 C dX11_pointsOf_0 rfl ?_
  refine g_iconst_1 C dX11_pointsOf_1 ?_
  refine g_icmp_ne C 10 dX11_pointsOf_2 (by decide) (fun q => ?_) (fun q => ?_)
  · have h := h.1 q
    refine g_iload_0 C dX11_pointsOf_10 rfl ?_
    refine g_iconst_2 C dX11_pointsOf_11 ?_
    refine g_icmp_ne C 20 dX11_pointsOf_12 (by decide) (fun q => ?_) (fun q => ?_)
    · have h := h.1 q
      refine g_iload_0 C dX11_pointsOf_20 rfl ?_
      refine g_iconst_3 C dX11_pointsOf_21 ?_
      refine g_icmp_ne C 30 dX11_pointsOf_22 (by decide) (fun q => ?_) (fun q => ?_)
      · have h := h.1 q
        refine g_iload_0 C dX11_pointsOf_30 rfl ?_
        refine g_iconst_4 C dX11_pointsOf_31 ?_
        refine g_icmp_ne C 40 dX11_pointsOf_32 (by decide) (fun q => ?_) (fun q => ?_)
        · have h := h.1 q
          refine g_iload_0 C dX11_pointsOf_40 rfl ?_
          refine g_iconst_5 C dX11_pointsOf_41 ?_
          refine g_icmp_ne C 50 dX11_pointsOf_42 (by decide) (fun q => ?_) (fun q => ?_)
          · have h := h.1 q
            refine g_iload_0 C dX11_pointsOf_50 rfl ?_
            refine g_bipush C (v := 15) (by decide) dX11_pointsOf_51 ?_
            refine g_icmp_le C 60 dX11_pointsOf_53 (by decide) (fun q => ?_) (fun q => ?_)
            · have h := h.1 q
              refine g_bipush C (v := 16) (by decide) dX11_pointsOf_60 ?_
              refine g_iload_0 C dX11_pointsOf_62 rfl ?_
              refine g_isub C dX11_pointsOf_63 ?_
              exact g_wk (kM_pointsOf_64 C hQ _ _ h) (trivial)
            · have h := h.2 q
              refine g_iconst_0 C dX11_pointsOf_56 ?_
              refine g_goto C 64 dX11_pointsOf_57 (by decide) ?_
              exact g_wk (kM_pointsOf_64 C hQ _ _ h) (trivial)
          · have h := h.2 q
            refine g_bipush C (v := 11) (by decide) dX11_pointsOf_45 ?_
            refine g_goto C 64 dX11_pointsOf_47 (by decide) ?_
            exact g_wk (kM_pointsOf_64 C hQ _ _ h) (trivial)
        · have h := h.2 q
          refine g_bipush C (v := 13) (by decide) dX11_pointsOf_35 ?_
          refine g_goto C 64 dX11_pointsOf_37 (by decide) ?_
          exact g_wk (kM_pointsOf_64 C hQ _ _ h) (trivial)
      · have h := h.2 q
        refine g_bipush C (v := 16) (by decide) dX11_pointsOf_25 ?_
        refine g_goto C 64 dX11_pointsOf_27 (by decide) ?_
        exact g_wk (kM_pointsOf_64 C hQ _ _ h) (trivial)
    · have h := h.2 q
      refine g_bipush C (v := 20) (by decide) dX11_pointsOf_15 ?_
      refine g_goto C 64 dX11_pointsOf_17 (by decide) ?_
      exact g_wk (kM_pointsOf_64 C hQ _ _ h) (trivial)
  · have h := h.2 q
    refine g_bipush C (v := 25) (by decide) dX11_pointsOf_5 ?_
    refine g_goto C 64 dX11_pointsOf_7 (by decide) ?_
    exact g_wk (kM_pointsOf_64 C hQ _ _ h) (trivial)
theorem cM_pointsOf {l : Launch} {E : Ev} {a : Nat → Nat} {x0 : Int32} {σ : St} {post : Int32 → St → Prop} (h : wpM_pointsOf x0 σ post) : CI l E (wM E a) yX11_pointsOf cX11_pointsOf 1 .int rmM_pointsOf [.int x0] σ post := met_i (by decide) rfl (Nat.le_of_ble_eq_true rfl) rfl (fun X C hQ => kM_pointsOf C hQ _ _ h)
theorem asM_18 {X : Kx} {l : Launch} {E : Ev} {a : Nat → Nat} {σ : St} {cc : ByteArray} {rm : Room} {ret : Option FieldType} {pc : Nat} {lv : List (Option Value)} {st : List Value} {own : String} {i x : Int32} (C : Cx X l E own cc rm ret) (hin : vp_in i 16) (d : decode cc pc = .ok (.iastore, 1)) (k : G X (wM E a) (pA σ 18 i.toNatClampNeg x) (pc + 1) lv st) : G X (wM E a) σ pc lv (.int x :: .int i :: .ref (a 19) :: st) := g_iast C (q0 := 15) rfl rfl hin d k
theorem fgM_X11_52 {X : Kx} {l : Launch} {E : Ev} {a : Nat → Nat} {σ : St} {cc : ByteArray} {rm : Room} {ret : Option FieldType} {pc : Nat} {lv : List (Option Value)} {st : List Value} (C : Cx X l E RX11 cc rm ret) (d : decode cc pc = .ok (.getfield 52, 3)) (k : G X (wM E a) σ (pc + 3) lv (.ref (a 19) :: st)) : G X (wM E a) σ pc lv (.ref (a 0) :: st) := g_get C (q0 := 0) (ci := 10) (k := 18) rfl rfl inU_X11 (by decide) (by decide +kernel) rfl d k
theorem alM_18 {X : Kx} {l : Launch} {E : Ev} {a : Nat → Nat} {σ : St} {cc : ByteArray} {rm : Room} {ret : Option FieldType} {pc : Nat} {lv : List (Option Value)} {st : List Value} {own : String} {i : Int32} (C : Cx X l E own cc rm ret) (hin : vp_in i 16) (d : decode cc pc = .ok (.iaload, 1)) (k : G X (wM E a) σ (pc + 1) lv (.int (σ.2 18 i.toNatClampNeg) :: st)) : G X (wM E a) σ pc lv (.int i :: .ref (a 19) :: st) := g_iald C (q0 := 15) rfl hin d k
theorem csM_X11_270 {X : Kx} {l : Launch} {E : Ev} {a : Nat → Nat} {σ : St} {cc : ByteArray} {rm : Room} {ret : Option FieldType} {pc : Nat} {lv : List (Option Value)} {rest : List Value} {x0 : Int32} {post : Int32 → St → Prop} (C : Cx X l E RX11 cc rm ret) (h : wpM_pointsOf x0 σ post) (hR : 0 + 1 ≤ rm.frames ∧ 8 + (1 + 11) + 0 ≤ rm.locals) (hW : (rest.map fun v => v.category).sum ≤ 8) (d : decode cc pc = .ok (.invokestatic 270, 3)) (k : ∀ (r : Int32) (u : St), post r u → G X (wM E a) u (pc + 3) lv (.int r :: rest)) : G X (wM E a) σ pc lv (.int x0 :: rest) := g_callSi C 1 (As := [.int x0]) (rest := rest) (by decide +kernel) (by decide +kernel) (by decide +kernel) (by decide +kernel) (by decide +kernel) (cM_pointsOf h) ⟨rfl, rfl⟩ hR rfl rfl hW d k
theorem fgM_X11_273 {X : Kx} {l : Launch} {E : Ev} {a : Nat → Nat} {σ : St} {cc : ByteArray} {rm : Room} {ret : Option FieldType} {pc : Nat} {lv : List (Option Value)} {st : List Value} (C : Cx X l E RX11 cc rm ret) (d : decode cc pc = .ok (.getfield 273, 3)) (k : G X (wM E a) σ (pc + 3) lv (.int (σ.1 40) :: st)) : G X (wM E a) σ pc lv (.ref (a 0) :: st) := g_get C (q0 := 0) (ci := 10) (k := 40) rfl rfl inU_X11 (by decide) (by decide +kernel) rfl d k
theorem fpM_X11_273 {X : Kx} {l : Launch} {E : Ev} {a : Nat → Nat} {σ : St} {cc : ByteArray} {rm : Room} {ret : Option FieldType} {pc : Nat} {lv : List (Option Value)} {st : List Value} {v : Int32} (C : Cx X l E RX11 cc rm ret) (d : decode cc pc = .ok (.putfield 273, 3)) (k : G X (wM E a) (pI σ 40 v) (pc + 3) lv st) : G X (wM E a) σ pc lv (.int v :: .ref (a 0) :: st) := g_put C (q0 := 0) (ci := 10) (k := 40) (ty0 := tyX11) rfl rfl inU_X11 (by decide) tyX11_ok nmX11 (by decide +kernel) rfl rfl rfl (Nat.le_of_ble_eq_true rfl) rfl d k
/-! IceRunModel.close()I -/
abbrev rmM_close : Room := { frames := 4, cells := 0, slots := 0, locals := 93 }
def wpM_close_61 (σ : St) (post : Int32 → St → Prop) : Prop := post (-1) σ
theorem kM_close_61 {X : Kx} {l : Launch} {E : Ev} {a : Nat → Nat} {post : Int32 → St → Prop} (C : Cx X l E RX11 cX11_close rmM_close (some .int)) (hQ : QI X (wM E a) post) (σ : St) (h : wpM_close_61   σ post) : G X (wM E a) σ 61 [none, none, none, none, none, none, none, none] [] := by
  unfold wpM_close_61 at h
  refine g_iconst_m1 C dX11_close_61 ?_
  exact g_ireturn C hQ dX11_close_62 h
def wpM_close_209 (k_67 : Int32 → Int32 → St → Prop) (x2 x3 : Int32) (σ : St) (post : Int32 → St → Prop) : Prop := let y1 : Int32 := x3 + 1; k_67 x2 y1 σ
theorem kM_close_209 {X : Kx} {l : Launch} {E : Ev} {a : Nat → Nat} {post : Int32 → St → Prop} (C : Cx X l E RX11 cX11_close rmM_close (some .int)) (hQ : QI X (wM E a) post) (k_67 : Int32 → Int32 → St → Prop) (hk_67 : ∀ (x2 x3 : Int32) (σ : St), k_67 x2 x3 σ → G X (wM E a) σ 67 [some (.ref (a 0)), none, some (.int x2), some (.int x3), none, none, none, none] []) (x2 x3 : Int32) (σ : St) (h : wpM_close_209 k_67 x2 x3 σ post) : G X (wM E a) σ 209 [some (.ref (a 0)), none, some (.int x2), some (.int x3), none, none, none, none] [] := by
  unfold wpM_close_209 at h
  refine g_iinc C (v := 1) (by decide) dX11_close_209 rfl ?_
  refine g_goto C 67 dX11_close_212 (by decide) ?_
  exact g_wk (hk_67 _ _ _ h) (And.intro rfl (And.intro rfl (And.intro rfl (trivial))))
def wpM_close_207 (k_67 : Int32 → Int32 → St → Prop) (x2 x3 s1 s2 s3 : Int32) (σ : St) (post : Int32 → St → Prop) : Prop := vp_in s1 16 ∧ (let σ1 : St := pA σ 18 (Int32.toNatClampNeg s1) (s2 + s3); wpM_close_209 k_67 x2 x3 σ1 post)
theorem kM_close_207 {X : Kx} {l : Launch} {E : Ev} {a : Nat → Nat} {post : Int32 → St → Prop} (C : Cx X l E RX11 cX11_close rmM_close (some .int)) (hQ : QI X (wM E a) post) (k_67 : Int32 → Int32 → St → Prop) (hk_67 : ∀ (x2 x3 : Int32) (σ : St), k_67 x2 x3 σ → G X (wM E a) σ 67 [some (.ref (a 0)), none, some (.int x2), some (.int x3), none, none, none, none] []) (x2 x3 s1 s2 s3 : Int32) (σ : St) (h : wpM_close_207 k_67 x2 x3 s1 s2 s3 σ post) : G X (wM E a) σ 207 [some (.ref (a 0)), none, some (.int x2), some (.int x3), none, none, none, none] [.int s3, .int s2, .int s1, .ref (a 19)] := by
  unfold wpM_close_207 at h
  refine g_iadd C dX11_close_207 ?_
  obtain ⟨q, h⟩ := h
  refine asM_18 C q dX11_close_208 ?_
  exact g_wk (kM_close_209 C hQ _ hk_67 _ _ _ h) (And.intro rfl (And.intro rfl (And.intro rfl (trivial))))
def wpBM_close_151 (k_67 : Int32 → Int32 → St → Prop) (k_151 : Int32 → Int32 → Int32 → Int32 → Int32 → Int32 → St → Prop) (x2 x3 x4 x5 x6 x7 : Int32) (σ : St) (post : Int32 → St → Prop) : Prop := (((x4 + x5) ≤ x7 → vp_in x3 16 ∧ (vp_in 5 6 ∧ (((¬ (σ.2 19 (Int32.toNatClampNeg 5)) = 1 → wpM_pointsOf x4 σ (fun r2 σ1 => wpM_close_207 k_67 x2 x3 x3 (σ.2 18 (Int32.toNatClampNeg x3)) r2 σ1 post)) ∧ ((σ.2 19 (Int32.toNatClampNeg 5)) = 1 → (¬ x5 = 0) ∧ (wpM_close_207 k_67 x2 x3 x3 (σ.2 18 (Int32.toNatClampNeg x3)) (x6 / x5) σ post)))))) ∧ (¬ (x4 + x5) ≤ x7 → wpM_pointsOf x7 σ (fun r4 σ3 => let y5 : Int32 := (x6 + r4); let y6 : Int32 := x7 + 1; k_151 x2 x3 x4 x5 y5 y6 σ3)))
def wpM_close_151 (k_67 : Int32 → Int32 → St → Prop) (x2 x3 x4 x5 x6 x7 : Int32) (σ : St) (post : Int32 → St → Prop) : Prop := ∃ n : Nat, lpN (α := Int32 × Int32 × Int32 × Int32 × Int32 × Int32 × St) (fun kb t => wpBM_close_151 k_67 (fun x2 x3 x4 x5 x6 x7 σ => kb (x2, x3, x4, x5, x6, x7, σ)) t.1 t.2.1 t.2.2.1 t.2.2.2.1 t.2.2.2.2.1 t.2.2.2.2.2.1 t.2.2.2.2.2.2 post) n (x2, x3, x4, x5, x6, x7, σ)
theorem kBM_close_151 {X : Kx} {l : Launch} {E : Ev} {a : Nat → Nat} {post : Int32 → St → Prop} (C : Cx X l E RX11 cX11_close rmM_close (some .int)) (hQ : QI X (wM E a) post) (k_67 : Int32 → Int32 → St → Prop) (hk_67 : ∀ (x2 x3 : Int32) (σ : St), k_67 x2 x3 σ → G X (wM E a) σ 67 [some (.ref (a 0)), none, some (.int x2), some (.int x3), none, none, none, none] []) (k_151 : Int32 → Int32 → Int32 → Int32 → Int32 → Int32 → St → Prop) (hk_151 : ∀ (x2 x3 x4 x5 x6 x7 : Int32) (σ : St), k_151 x2 x3 x4 x5 x6 x7 σ → G X (wM E a) σ 151 [some (.ref (a 0)), none, some (.int x2), some (.int x3), some (.int x4), some (.int x5), some (.int x6), some (.int x7)] []) (x2 x3 x4 x5 x6 x7 : Int32) (σ : St) (h : wpBM_close_151 k_67 k_151 x2 x3 x4 x5 x6 x7 σ post) : G X (wM E a) σ 151 [some (.ref (a 0)), none, some (.int x2), some (.int x3), some (.int x4), some (.int x5), some (.int x6), some (.int x7)] [] := by
  unfold wpBM_close_151 at h
  refine g_iload C dX11_close_151 rfl ?_
  refine g_iload C dX11_close_153 rfl ?_
  refine g_iload C dX11_close_155 rfl ?_
  refine g_iadd C dX11_close_157 ?_
  refine g_icmp_ge C 177 dX11_close_158 (by decide) (fun q => ?_) (fun q => ?_)
  · have h := h.1 q
    refine g_aload_0 C dX11_close_177 rfl ?_
    refine fgM_X11_52 C dX11_close_178 ?_
    refine g_iload_3 C dX11_close_181 rfl ?_
    refine g_dup2 C dX11_close_182 rfl rfl ?_
    obtain ⟨q, h⟩ := h
    refine alM_18 C q dX11_close_183 ?_
    refine g_aload_0 C dX11_close_184 rfl ?_
    refine fgM_X11_55 C dX11_close_185 ?_
    refine g_iconst_5 C dX11_close_188 ?_
    obtain ⟨q, h⟩ := h
    refine alM_19 C q dX11_close_189 ?_
    refine g_iconst_1 C dX11_close_190 ?_
    refine g_icmp_ne C 202 dX11_close_191 (by decide) (fun q => ?_) (fun q => ?_)
    · have h := h.1 q
      refine g_iload C dX11_close_202 rfl ?_
      refine csM_X11_270 C h ⟨Nat.le_of_ble_eq_true rfl, Nat.le_of_ble_eq_true rfl⟩ (Nat.le_of_ble_eq_true rfl) dX11_close_204 (fun _ _ h => ?_)
      exact g_wk (kM_close_207 C hQ _ hk_67 _ _ _ _ _ _ h) (And.intro rfl (And.intro rfl (And.intro rfl (trivial))))
    · have h := h.2 q
      refine g_iload C dX11_close_194 rfl ?_
      refine g_iload C dX11_close_196 rfl ?_
      obtain ⟨q, h⟩ := h
      refine g_idiv C q dX11_close_198 ?_
      refine g_goto C 207 dX11_close_199 (by decide) ?_
      exact g_wk (kM_close_207 C hQ _ hk_67 _ _ _ _ _ _ h) (And.intro rfl (And.intro rfl (And.intro rfl (trivial))))
  · have h := h.2 q
    refine g_iload C dX11_close_161 rfl ?_
    refine g_iload C dX11_close_163 rfl ?_
    refine csM_X11_270 C h ⟨Nat.le_of_ble_eq_true rfl, Nat.le_of_ble_eq_true rfl⟩ (Nat.le_of_ble_eq_true rfl) dX11_close_165 (fun _ _ h => ?_)
    refine g_iadd C dX11_close_168 ?_
    refine g_istore C dX11_close_169 (Nat.le_of_ble_eq_true rfl) ?_
    refine g_iinc C (v := 1) (by decide) dX11_close_171 rfl ?_
    refine g_goto C 151 dX11_close_174 (by decide) ?_
    exact g_wk (hk_151 _ _ _ _ _ _ _ h) (And.intro rfl (And.intro rfl (And.intro rfl (And.intro rfl (And.intro rfl (And.intro rfl (And.intro rfl (trivial))))))))
theorem kM_close_151 {X : Kx} {l : Launch} {E : Ev} {a : Nat → Nat} {post : Int32 → St → Prop} (C : Cx X l E RX11 cX11_close rmM_close (some .int)) (hQ : QI X (wM E a) post) (k_67 : Int32 → Int32 → St → Prop) (hk_67 : ∀ (x2 x3 : Int32) (σ : St), k_67 x2 x3 σ → G X (wM E a) σ 67 [some (.ref (a 0)), none, some (.int x2), some (.int x3), none, none, none, none] []) (x2 x3 x4 x5 x6 x7 : Int32) (σ : St) (h : wpM_close_151 k_67 x2 x3 x4 x5 x6 x7 σ post) : G X (wM E a) σ 151 [some (.ref (a 0)), none, some (.int x2), some (.int x3), some (.int x4), some (.int x5), some (.int x6), some (.int x7)] [] := by
  obtain ⟨n, h⟩ := h
  exact g_loop (J := fun t : Int32 × Int32 × Int32 × Int32 × Int32 × Int32 × St => G X (wM E a) t.2.2.2.2.2.2 151 [some (.ref (a 0)), none, some (.int t.1), some (.int t.2.1), some (.int t.2.2.1), some (.int t.2.2.2.1), some (.int t.2.2.2.2.1), some (.int t.2.2.2.2.2.1)] []) (fun kb hkb t ht => kBM_close_151 C hQ k_67 hk_67 (fun x2 x3 x4 x5 x6 x7 σ => kb (x2, x3, x4, x5, x6, x7, σ)) (fun x2 x3 x4 x5 x6 x7 σ hh => hkb (x2, x3, x4, x5, x6, x7, σ) hh) t.1 t.2.1 t.2.2.1 t.2.2.2.1 t.2.2.2.2.1 t.2.2.2.2.2.1 t.2.2.2.2.2.2 ht) n (x2, x3, x4, x5, x6, x7, σ) h
def wpM_close_135 (k_67 : Int32 → Int32 → St → Prop) (k_104 : Int32 → Int32 → Int32 → Int32 → Int32 → St → Prop) (x2 x3 x4 x6 s0 s1 : Int32) (σ : St) (post : Int32 → St → Prop) : Prop := let y1 : Int32 := (s0 + s1); let y2 : Int32 := x6 + 1; k_104 x2 x3 x4 y1 y2 σ
theorem kM_close_135 {X : Kx} {l : Launch} {E : Ev} {a : Nat → Nat} {post : Int32 → St → Prop} (C : Cx X l E RX11 cX11_close rmM_close (some .int)) (hQ : QI X (wM E a) post) (k_67 : Int32 → Int32 → St → Prop) (hk_67 : ∀ (x2 x3 : Int32) (σ : St), k_67 x2 x3 σ → G X (wM E a) σ 67 [some (.ref (a 0)), none, some (.int x2), some (.int x3), none, none, none, none] []) (k_104 : Int32 → Int32 → Int32 → Int32 → Int32 → St → Prop) (hk_104 : ∀ (x2 x3 x4 x5 x6 : Int32) (σ : St), k_104 x2 x3 x4 x5 x6 σ → G X (wM E a) σ 104 [some (.ref (a 0)), none, some (.int x2), some (.int x3), some (.int x4), some (.int x5), some (.int x6), none] []) (x2 x3 x4 x6 s0 s1 : Int32) (σ : St) (h : wpM_close_135 k_67 k_104 x2 x3 x4 x6 s0 s1 σ post) : G X (wM E a) σ 135 [some (.ref (a 0)), none, some (.int x2), some (.int x3), some (.int x4), none, some (.int x6), none] [.int s1, .int s0] := by
  unfold wpM_close_135 at h
  refine g_iadd C dX11_close_135 ?_
  refine g_istore C dX11_close_136 (Nat.le_of_ble_eq_true rfl) ?_
  refine g_iinc C (v := 1) (by decide) dX11_close_138 rfl ?_
  refine g_goto C 104 dX11_close_141 (by decide) ?_
  exact g_wk (hk_104 _ _ _ _ _ _ h) (And.intro rfl (And.intro rfl (And.intro rfl (And.intro rfl (And.intro rfl (And.intro rfl (trivial)))))))
def wpBM_close_104 (k_67 : Int32 → Int32 → St → Prop) (k_104 : Int32 → Int32 → Int32 → Int32 → Int32 → St → Prop) (x2 x3 x4 x5 x6 : Int32) (σ : St) (post : Int32 → St → Prop) : Prop := (((σ.1 13) ≤ x6 → wpM_close_151 k_67 x2 x3 x4 x5 0 x4 σ post) ∧ (¬ (σ.1 13) ≤ x6 → wpM_rankOf x6 (σ.1 39) σ (fun r2 σ1 => ((¬ r2 = x4 → wpM_close_135 k_67 k_104 x2 x3 x4 x6 x5 0 σ1 post) ∧ (r2 = x4 → wpM_close_135 k_67 k_104 x2 x3 x4 x6 x5 1 σ1 post)))))
def wpM_close_104 (k_67 : Int32 → Int32 → St → Prop) (x2 x3 x4 x5 x6 : Int32) (σ : St) (post : Int32 → St → Prop) : Prop := ∃ n : Nat, lpN (α := Int32 × Int32 × Int32 × Int32 × Int32 × St) (fun kb t => wpBM_close_104 k_67 (fun x2 x3 x4 x5 x6 σ => kb (x2, x3, x4, x5, x6, σ)) t.1 t.2.1 t.2.2.1 t.2.2.2.1 t.2.2.2.2.1 t.2.2.2.2.2 post) n (x2, x3, x4, x5, x6, σ)
theorem kBM_close_104 {X : Kx} {l : Launch} {E : Ev} {a : Nat → Nat} {post : Int32 → St → Prop} (C : Cx X l E RX11 cX11_close rmM_close (some .int)) (hQ : QI X (wM E a) post) (k_67 : Int32 → Int32 → St → Prop) (hk_67 : ∀ (x2 x3 : Int32) (σ : St), k_67 x2 x3 σ → G X (wM E a) σ 67 [some (.ref (a 0)), none, some (.int x2), some (.int x3), none, none, none, none] []) (k_104 : Int32 → Int32 → Int32 → Int32 → Int32 → St → Prop) (hk_104 : ∀ (x2 x3 x4 x5 x6 : Int32) (σ : St), k_104 x2 x3 x4 x5 x6 σ → G X (wM E a) σ 104 [some (.ref (a 0)), none, some (.int x2), some (.int x3), some (.int x4), some (.int x5), some (.int x6), none] []) (x2 x3 x4 x5 x6 : Int32) (σ : St) (h : wpBM_close_104 k_67 k_104 x2 x3 x4 x5 x6 σ post) : G X (wM E a) σ 104 [some (.ref (a 0)), none, some (.int x2), some (.int x3), some (.int x4), some (.int x5), some (.int x6), none] [] := by
  unfold wpBM_close_104 at h
  refine g_iload C dX11_close_104 rfl ?_
  refine g_aload_0 C dX11_close_106 rfl ?_
  refine fgM_X11_139 C dX11_close_107 ?_
  refine g_icmp_ge C 144 dX11_close_110 (by decide) (fun q => ?_) (fun q => ?_)
  · have h := h.1 q
    refine g_iconst_0 C dX11_close_144 ?_
    refine g_istore C dX11_close_145 (Nat.le_of_ble_eq_true rfl) ?_
    refine g_iload C dX11_close_147 rfl ?_
    refine g_istore C dX11_close_149 (Nat.le_of_ble_eq_true rfl) ?_
    exact g_wk (kM_close_151 C hQ _ hk_67 _ _ _ _ _ _ _ h) (And.intro rfl (And.intro rfl (And.intro rfl (And.intro rfl (And.intro rfl (And.intro rfl (And.intro rfl (trivial))))))))
  · have h := h.2 q
    refine g_iload C dX11_close_113 rfl ?_
    refine g_aload_0 C dX11_close_115 rfl ?_
    refine g_iload C dX11_close_116 rfl ?_
    refine g_aload_0 C dX11_close_118 rfl ?_
    refine fgM_X11_223 C dX11_close_119 ?_
    refine csM_X11_226 C h ⟨Nat.le_of_ble_eq_true rfl, Nat.le_of_ble_eq_true rfl⟩ (Nat.le_of_ble_eq_true rfl) dX11_close_122 (fun _ _ h => ?_)
    refine g_iload C dX11_close_125 rfl ?_
    refine g_icmp_ne C 134 dX11_close_127 (by decide) (fun q => ?_) (fun q => ?_)
    · have h := h.1 q
      refine g_iconst_0 C dX11_close_134 ?_
      exact g_wk (kM_close_135 C hQ _ hk_67 _ hk_104 _ _ _ _ _ _ _ h) (And.intro rfl (And.intro rfl (And.intro rfl (And.intro rfl (And.intro rfl (trivial))))))
    · have h := h.2 q
      refine g_iconst_1 C dX11_close_130 ?_
      refine g_goto C 135 dX11_close_131 (by decide) ?_
      exact g_wk (kM_close_135 C hQ _ hk_67 _ hk_104 _ _ _ _ _ _ _ h) (And.intro rfl (And.intro rfl (And.intro rfl (And.intro rfl (And.intro rfl (trivial))))))
theorem kM_close_104 {X : Kx} {l : Launch} {E : Ev} {a : Nat → Nat} {post : Int32 → St → Prop} (C : Cx X l E RX11 cX11_close rmM_close (some .int)) (hQ : QI X (wM E a) post) (k_67 : Int32 → Int32 → St → Prop) (hk_67 : ∀ (x2 x3 : Int32) (σ : St), k_67 x2 x3 σ → G X (wM E a) σ 67 [some (.ref (a 0)), none, some (.int x2), some (.int x3), none, none, none, none] []) (x2 x3 x4 x5 x6 : Int32) (σ : St) (h : wpM_close_104 k_67 x2 x3 x4 x5 x6 σ post) : G X (wM E a) σ 104 [some (.ref (a 0)), none, some (.int x2), some (.int x3), some (.int x4), some (.int x5), some (.int x6), none] [] := by
  obtain ⟨n, h⟩ := h
  exact g_loop (J := fun t : Int32 × Int32 × Int32 × Int32 × Int32 × St => G X (wM E a) t.2.2.2.2.2 104 [some (.ref (a 0)), none, some (.int t.1), some (.int t.2.1), some (.int t.2.2.1), some (.int t.2.2.2.1), some (.int t.2.2.2.2.1), none] []) (fun kb hkb t ht => kBM_close_104 C hQ k_67 hk_67 (fun x2 x3 x4 x5 x6 σ => kb (x2, x3, x4, x5, x6, σ)) (fun x2 x3 x4 x5 x6 σ hh => hkb (x2, x3, x4, x5, x6, σ) hh) t.1 t.2.1 t.2.2.1 t.2.2.2.1 t.2.2.2.2.1 t.2.2.2.2.2 ht) n (x2, x3, x4, x5, x6, σ) h
def wpBM_close_67 (k_67 : Int32 → Int32 → St → Prop) (x2 x3 : Int32) (σ : St) (post : Int32 → St → Prop) : Prop := (((σ.1 13) ≤ x3 → let σ1 : St := pI σ 26 0; wpM_clears σ1 (fun σ2 => let σ3 : St := pI σ2 40 ((σ2.1 40) + 1); post x2 σ3)) ∧ (¬ (σ.1 13) ≤ x3 → wpM_rankOf x3 (σ.1 39) σ (fun r5 σ4 => ((¬ r5 = (-1) → let y6 : Int32 := x2 + 1; wpM_close_104 k_67 y6 x3 r5 0 0 σ4 post) ∧ (r5 = (-1) → wpM_close_209 k_67 x2 x3 σ4 post)))))
def wpM_close_67 (x2 x3 : Int32) (σ : St) (post : Int32 → St → Prop) : Prop := ∃ n : Nat, lpN (α := Int32 × Int32 × St) (fun kb t => wpBM_close_67 (fun x2 x3 σ => kb (x2, x3, σ)) t.1 t.2.1 t.2.2 post) n (x2, x3, σ)
theorem kBM_close_67 {X : Kx} {l : Launch} {E : Ev} {a : Nat → Nat} {post : Int32 → St → Prop} (C : Cx X l E RX11 cX11_close rmM_close (some .int)) (hQ : QI X (wM E a) post) (k_67 : Int32 → Int32 → St → Prop) (hk_67 : ∀ (x2 x3 : Int32) (σ : St), k_67 x2 x3 σ → G X (wM E a) σ 67 [some (.ref (a 0)), none, some (.int x2), some (.int x3), none, none, none, none] []) (x2 x3 : Int32) (σ : St) (h : wpBM_close_67 k_67 x2 x3 σ post) : G X (wM E a) σ 67 [some (.ref (a 0)), none, some (.int x2), some (.int x3), none, none, none, none] [] := by
  unfold wpBM_close_67 at h
  refine g_iload_3 C dX11_close_67 rfl ?_
  refine g_aload_0 C dX11_close_68 rfl ?_
  refine fgM_X11_139 C dX11_close_69 ?_
  refine g_icmp_ge C 215 dX11_close_72 (by decide) (fun q => ?_) (fun q => ?_)
  · have h := h.1 q
    refine g_aload_0 C dX11_close_215 rfl ?_
    refine g_iconst_0 C dX11_close_216 ?_
    refine fpM_X11_113 C (Or.inl rfl) dX11_close_217 ?_
    refine g_aload_0 C dX11_close_220 rfl ?_
    refine csM_X11_214 C h ⟨Nat.le_of_ble_eq_true rfl, Nat.le_of_ble_eq_true rfl⟩ (Nat.le_of_ble_eq_true rfl) dX11_close_221 (fun _ h => ?_)
    refine g_aload_0 C dX11_close_224 rfl ?_
    refine g_dup C dX11_close_225 rfl ?_
    refine fgM_X11_273 C dX11_close_226 ?_
    refine g_iconst_1 C dX11_close_229 ?_
    refine g_iadd C dX11_close_230 ?_
    refine fpM_X11_273 C dX11_close_231 ?_
    refine g_iload_2 C dX11_close_234 rfl ?_
    exact g_ireturn C hQ dX11_close_235 h
  · have h := h.2 q
    refine g_aload_0 C dX11_close_75 rfl ?_
    refine g_iload_3 C dX11_close_76 rfl ?_
    refine g_aload_0 C dX11_close_77 rfl ?_
    refine fgM_X11_223 C dX11_close_78 ?_
    refine csM_X11_226 C h ⟨Nat.le_of_ble_eq_true rfl, Nat.le_of_ble_eq_true rfl⟩ (Nat.le_of_ble_eq_true rfl) dX11_close_81 (fun _ _ h => ?_)
    refine g_istore C dX11_close_84 (Nat.le_of_ble_eq_true rfl) ?_
    refine g_iload C dX11_close_86 rfl ?_
    refine g_iconst_m1 C dX11_close_88 ?_
    refine g_icmp_ne C 95 dX11_close_89 (by decide) (fun q => ?_) (fun q => ?_)
    · have h := h.1 q
      refine g_iinc C (v := 1) (by decide) dX11_close_95 rfl ?_
      refine g_iconst_0 C dX11_close_98 ?_
      refine g_istore C dX11_close_99 (Nat.le_of_ble_eq_true rfl) ?_
      refine g_iconst_0 C dX11_close_101 ?_
      refine g_istore C dX11_close_102 (Nat.le_of_ble_eq_true rfl) ?_
      exact g_wk (kM_close_104 C hQ _ hk_67 _ _ _ _ _ _ h) (And.intro rfl (And.intro rfl (And.intro rfl (And.intro rfl (And.intro rfl (And.intro rfl (trivial)))))))
    · have h := h.2 q
      refine g_goto C 209 dX11_close_92 (by decide) ?_
      exact g_wk (kM_close_209 C hQ _ hk_67 _ _ _ h) (And.intro rfl (And.intro rfl (And.intro rfl (trivial))))
theorem kM_close_67 {X : Kx} {l : Launch} {E : Ev} {a : Nat → Nat} {post : Int32 → St → Prop} (C : Cx X l E RX11 cX11_close rmM_close (some .int)) (hQ : QI X (wM E a) post) (x2 x3 : Int32) (σ : St) (h : wpM_close_67  x2 x3 σ post) : G X (wM E a) σ 67 [some (.ref (a 0)), none, some (.int x2), some (.int x3), none, none, none, none] [] := by
  obtain ⟨n, h⟩ := h
  exact g_loop (J := fun t : Int32 × Int32 × St => G X (wM E a) t.2.2 67 [some (.ref (a 0)), none, some (.int t.1), some (.int t.2.1), none, none, none, none] []) (fun kb hkb t ht => kBM_close_67 C hQ  (fun x2 x3 σ => kb (x2, x3, σ)) (fun x2 x3 σ hh => hkb (x2, x3, σ) hh) t.1 t.2.1 t.2.2 ht) n (x2, x3, σ) h
def wpM_close_36 (k_9 : Int32 → Int32 → St → Prop) (x2 s0 : Int32) (σ : St) (post : Int32 → St → Prop) : Prop := let y1 : Int32 := x2 + 1; k_9 s0 y1 σ
theorem kM_close_36 {X : Kx} {l : Launch} {E : Ev} {a : Nat → Nat} {post : Int32 → St → Prop} (C : Cx X l E RX11 cX11_close rmM_close (some .int)) (hQ : QI X (wM E a) post) (k_9 : Int32 → Int32 → St → Prop) (hk_9 : ∀ (x1 x2 : Int32) (σ : St), k_9 x1 x2 σ → G X (wM E a) σ 9 [some (.ref (a 0)), some (.int x1), some (.int x2), none, none, none, none, none] []) (x2 s0 : Int32) (σ : St) (h : wpM_close_36 k_9 x2 s0 σ post) : G X (wM E a) σ 36 [some (.ref (a 0)), none, some (.int x2), none, none, none, none, none] [.int s0] := by
  unfold wpM_close_36 at h
  refine g_istore_1 C dX11_close_36 (Nat.le_of_ble_eq_true rfl) ?_
  refine g_iinc C (v := 1) (by decide) dX11_close_37 rfl ?_
  refine g_goto C 9 dX11_close_40 (by decide) ?_
  exact g_wk (hk_9 _ _ _ h) (And.intro rfl (And.intro rfl (And.intro rfl (trivial))))
def wpM_close_31 (k_9 : Int32 → Int32 → St → Prop) (x2 : Int32) (σ : St) (post : Int32 → St → Prop) : Prop := wpM_close_36 k_9 x2 1 σ post
theorem kM_close_31 {X : Kx} {l : Launch} {E : Ev} {a : Nat → Nat} {post : Int32 → St → Prop} (C : Cx X l E RX11 cX11_close rmM_close (some .int)) (hQ : QI X (wM E a) post) (k_9 : Int32 → Int32 → St → Prop) (hk_9 : ∀ (x1 x2 : Int32) (σ : St), k_9 x1 x2 σ → G X (wM E a) σ 9 [some (.ref (a 0)), some (.int x1), some (.int x2), none, none, none, none, none] []) (x2 : Int32) (σ : St) (h : wpM_close_31 k_9 x2 σ post) : G X (wM E a) σ 31 [some (.ref (a 0)), none, some (.int x2), none, none, none, none, none] [] := by
  unfold wpM_close_31 at h
  refine g_iconst_1 C dX11_close_31 ?_
  refine g_goto C 36 dX11_close_32 (by decide) ?_
  exact g_wk (kM_close_36 C hQ _ hk_9 _ _ _ h) (And.intro rfl (And.intro rfl (trivial)))
def wpBM_close_9 (k_9 : Int32 → Int32 → St → Prop) (x1 x2 : Int32) (σ : St) (post : Int32 → St → Prop) : Prop := (((σ.1 27) ≤ x2 → (((σ.1 26) = 0 → wpM_close_61 σ post) ∧ (¬ (σ.1 26) = 0 → wpM_isOn σ (fun r2 σ1 => ((¬ r2 = 0 → wpM_close_61 σ1 post) ∧ (r2 = 0 → ((¬ x1 = 0 → wpM_close_67 0 0 σ1 post) ∧ (x1 = 0 → wpM_close_61 σ1 post)))))))) ∧ (¬ (σ.1 27) ≤ x2 → ((¬ x1 = 0 → wpM_close_31 k_9 x2 σ post) ∧ (x1 = 0 → vp_in x2 4 ∧ (((¬ (σ.2 28 (Int32.toNatClampNeg x2)) = 2 → wpM_close_36 k_9 x2 0 σ post) ∧ ((σ.2 28 (Int32.toNatClampNeg x2)) = 2 → wpM_close_31 k_9 x2 σ post)))))))
def wpM_close_9 (x1 x2 : Int32) (σ : St) (post : Int32 → St → Prop) : Prop := ∃ n : Nat, lpN (α := Int32 × Int32 × St) (fun kb t => wpBM_close_9 (fun x1 x2 σ => kb (x1, x2, σ)) t.1 t.2.1 t.2.2 post) n (x1, x2, σ)
theorem kBM_close_9 {X : Kx} {l : Launch} {E : Ev} {a : Nat → Nat} {post : Int32 → St → Prop} (C : Cx X l E RX11 cX11_close rmM_close (some .int)) (hQ : QI X (wM E a) post) (k_9 : Int32 → Int32 → St → Prop) (hk_9 : ∀ (x1 x2 : Int32) (σ : St), k_9 x1 x2 σ → G X (wM E a) σ 9 [some (.ref (a 0)), some (.int x1), some (.int x2), none, none, none, none, none] []) (x1 x2 : Int32) (σ : St) (h : wpBM_close_9 k_9 x1 x2 σ post) : G X (wM E a) σ 9 [some (.ref (a 0)), some (.int x1), some (.int x2), none, none, none, none, none] [] := by
  unfold wpBM_close_9 at h
  refine g_iload_2 C dX11_close_9 rfl ?_
  refine g_aload_0 C dX11_close_10 rfl ?_
  refine fgM_X11_212 C dX11_close_11 ?_
  refine g_icmp_ge C 43 dX11_close_14 (by decide) (fun q => ?_) (fun q => ?_)
  · have h := h.1 q
    refine g_aload_0 C dX11_close_43 rfl ?_
    refine fgM_X11_113 C dX11_close_44 ?_
    refine g_if_eq C 61 dX11_close_47 (by decide) (fun q => ?_) (fun q => ?_)
    · have h := h.1 q
      exact g_wk (kM_close_61 C hQ _ h) (trivial)
    · have h := h.2 q
      refine g_aload_0 C dX11_close_50 rfl ?_
      refine csM_X11_127 C h ⟨Nat.le_of_ble_eq_true rfl, Nat.le_of_ble_eq_true rfl⟩ (Nat.le_of_ble_eq_true rfl) dX11_close_51 (fun _ _ h => ?_)
      refine g_if_ne C 61 dX11_close_54 (by decide) (fun q => ?_) (fun q => ?_)
      · have h := h.1 q
        exact g_wk (kM_close_61 C hQ _ h) (trivial)
      · have h := h.2 q
        refine g_iload_1 C dX11_close_57 rfl ?_
        refine g_if_ne C 63 dX11_close_58 (by decide) (fun q => ?_) (fun q => ?_)
        · have h := h.1 q
          refine g_iconst_0 C dX11_close_63 ?_
          refine g_istore_2 C dX11_close_64 (Nat.le_of_ble_eq_true rfl) ?_
          refine g_iconst_0 C dX11_close_65 ?_
          refine g_istore_3 C dX11_close_66 (Nat.le_of_ble_eq_true rfl) ?_
          exact g_wk (kM_close_67 C hQ _ _ _ h) (And.intro rfl (And.intro rfl (And.intro rfl (trivial))))
        · have h := h.2 q
          exact g_wk (kM_close_61 C hQ _ h) (trivial)
  · have h := h.2 q
    refine g_iload_1 C dX11_close_17 rfl ?_
    refine g_if_ne C 31 dX11_close_18 (by decide) (fun q => ?_) (fun q => ?_)
    · have h := h.1 q
      exact g_wk (kM_close_31 C hQ _ hk_9 _ _ h) (And.intro rfl (And.intro rfl (trivial)))
    · have h := h.2 q
      refine g_aload_0 C dX11_close_21 rfl ?_
      refine fgM_X11_69 C dX11_close_22 ?_
      refine g_iload_2 C dX11_close_25 rfl ?_
      obtain ⟨q, h⟩ := h
      refine alM_28 C q dX11_close_26 ?_
      refine g_iconst_2 C dX11_close_27 ?_
      refine g_icmp_ne C 35 dX11_close_28 (by decide) (fun q => ?_) (fun q => ?_)
      · have h := h.1 q
        refine g_iconst_0 C dX11_close_35 ?_
        exact g_wk (kM_close_36 C hQ _ hk_9 _ _ _ h) (And.intro rfl (And.intro rfl (trivial)))
      · have h := h.2 q
        exact g_wk (kM_close_31 C hQ _ hk_9 _ _ h) (And.intro rfl (And.intro rfl (trivial)))
theorem kM_close_9 {X : Kx} {l : Launch} {E : Ev} {a : Nat → Nat} {post : Int32 → St → Prop} (C : Cx X l E RX11 cX11_close rmM_close (some .int)) (hQ : QI X (wM E a) post) (x1 x2 : Int32) (σ : St) (h : wpM_close_9  x1 x2 σ post) : G X (wM E a) σ 9 [some (.ref (a 0)), some (.int x1), some (.int x2), none, none, none, none, none] [] := by
  obtain ⟨n, h⟩ := h
  exact g_loop (J := fun t : Int32 × Int32 × St => G X (wM E a) t.2.2 9 [some (.ref (a 0)), some (.int t.1), some (.int t.2.1), none, none, none, none, none] []) (fun kb hkb t ht => kBM_close_9 C hQ  (fun x1 x2 σ => kb (x1, x2, σ)) (fun x1 x2 σ hh => hkb (x1, x2, σ) hh) t.1 t.2.1 t.2.2 ht) n (x1, x2, σ) h
def wpM_close (σ : St) (post : Int32 → St → Prop) : Prop := let σ1 : St := pI σ 0 0; wpM_close_9 0 0 σ1 post
theorem kM_close {X : Kx} {l : Launch} {E : Ev} {a : Nat → Nat} {post : Int32 → St → Prop} (C : Cx X l E RX11 cX11_close rmM_close (some .int)) (hQ : QI X (wM E a) post) (σ : St) (h : wpM_close  σ post) : G X (wM E a) σ 0 [some (.ref (a 0)), none, none, none, none, none, none, none] [] := by
  unfold wpM_close at h
  refine g_aload_0 C dX11_close_0 rfl ?_
  refine g_iconst_0 C dX11_close_1 ?_
  refine fpM_X11_106 C dX11_close_2 ?_
  refine g_iconst_0 C dX11_close_5 ?_
  refine g_istore_1 C dX11_close_6 (Nat.le_of_ble_eq_true rfl) ?_
  refine g_iconst_0 C dX11_close_7 ?_
  refine g_istore_2 C dX11_close_8 (Nat.le_of_ble_eq_true rfl) ?_
  exact g_wk (kM_close_9 C hQ _ _ _ h) (And.intro rfl (And.intro rfl (And.intro rfl (trivial))))
theorem cM_close {l : Launch} {E : Ev} {a : Nat → Nat} {σ : St} {post : Int32 → St → Prop} (h : wpM_close  σ post) : CI l E (wM E a) yX11_close cX11_close 8 .int rmM_close [.ref (a 0)] σ post := met_i (by decide) rfl (Nat.le_of_ble_eq_true rfl) rfl (fun X C hQ => kM_close C hQ _ h)
theorem alM_14 {X : Kx} {l : Launch} {E : Ev} {a : Nat → Nat} {σ : St} {cc : ByteArray} {rm : Room} {ret : Option FieldType} {pc : Nat} {lv : List (Option Value)} {st : List Value} {own : String} {i : Int32} (C : Cx X l E own cc rm ret) (hin : vp_in i 16) (d : decode cc pc = .ok (.iaload, 1)) (k : G X (wM E a) σ (pc + 1) lv (.int (σ.2 14 i.toNatClampNeg) :: st)) : G X (wM E a) σ pc lv (.int i :: .ref (a 15) :: st) := g_iald C (q0 := 11) rfl hin d k
/-! IceRunModel.points(II)I -/
abbrev rmM_points : Room := { frames := 1, cells := 0, slots := 0, locals := 22 }
def wpM_points_48 (σ : St) (post : Int32 → St → Prop) : Prop := post (-1) σ
theorem kM_points_48 {X : Kx} {l : Launch} {E : Ev} {a : Nat → Nat} {post : Int32 → St → Prop} (C : Cx X l E RX11 cX11_points rmM_points (some .int)) (hQ : QI X (wM E a) post) (σ : St) (h : wpM_points_48   σ post) : G X (wM E a) σ 48 [none, none, none, none, none] [] := by
  unfold wpM_points_48 at h
  refine g_iconst_m1 C dX11_points_48 ?_
  exact g_ireturn C hQ dX11_points_49 h
def wpM_points_87 (k_55 : Int32 → Int32 → Int32 → St → Prop) (x2 x4 s0 s1 : Int32) (σ : St) (post : Int32 → St → Prop) : Prop := let y1 : Int32 := (s0 + s1); let y2 : Int32 := x4 + 1; k_55 x2 y1 y2 σ
theorem kM_points_87 {X : Kx} {l : Launch} {E : Ev} {a : Nat → Nat} {post : Int32 → St → Prop} (C : Cx X l E RX11 cX11_points rmM_points (some .int)) (hQ : QI X (wM E a) post) (k_55 : Int32 → Int32 → Int32 → St → Prop) (hk_55 : ∀ (x2 x3 x4 : Int32) (σ : St), k_55 x2 x3 x4 σ → G X (wM E a) σ 55 [some (.ref (a 0)), none, some (.int x2), some (.int x3), some (.int x4)] []) (x2 x4 s0 s1 : Int32) (σ : St) (h : wpM_points_87 k_55 x2 x4 s0 s1 σ post) : G X (wM E a) σ 87 [some (.ref (a 0)), none, some (.int x2), none, some (.int x4)] [.int s1, .int s0] := by
  unfold wpM_points_87 at h
  refine g_iadd C dX11_points_87 ?_
  refine g_istore_3 C dX11_points_88 (Nat.le_of_ble_eq_true rfl) ?_
  refine g_iinc C (v := 1) (by decide) dX11_points_89 rfl ?_
  refine g_goto C 55 dX11_points_92 (by decide) ?_
  exact g_wk (hk_55 _ _ _ _ h) (And.intro rfl (And.intro rfl (And.intro rfl (And.intro rfl (trivial)))))
def wpBM_points_55 (k_55 : Int32 → Int32 → Int32 → St → Prop) (x2 x3 x4 : Int32) (σ : St) (post : Int32 → St → Prop) : Prop := (((σ.1 13) ≤ x4 → post x3 σ) ∧ (¬ (σ.1 13) ≤ x4 → vp_in x4 16 ∧ (((¬ (σ.2 14 (Int32.toNatClampNeg x4)) = x2 → wpM_points_87 k_55 x2 x4 x3 0 σ post) ∧ ((σ.2 14 (Int32.toNatClampNeg x4)) = x2 → vp_in x4 16 ∧ (wpM_points_87 k_55 x2 x4 x3 (σ.2 18 (Int32.toNatClampNeg x4)) σ post))))))
def wpM_points_55 (x2 x3 x4 : Int32) (σ : St) (post : Int32 → St → Prop) : Prop := ∃ n : Nat, lpN (α := Int32 × Int32 × Int32 × St) (fun kb t => wpBM_points_55 (fun x2 x3 x4 σ => kb (x2, x3, x4, σ)) t.1 t.2.1 t.2.2.1 t.2.2.2 post) n (x2, x3, x4, σ)
theorem kBM_points_55 {X : Kx} {l : Launch} {E : Ev} {a : Nat → Nat} {post : Int32 → St → Prop} (C : Cx X l E RX11 cX11_points rmM_points (some .int)) (hQ : QI X (wM E a) post) (k_55 : Int32 → Int32 → Int32 → St → Prop) (hk_55 : ∀ (x2 x3 x4 : Int32) (σ : St), k_55 x2 x3 x4 σ → G X (wM E a) σ 55 [some (.ref (a 0)), none, some (.int x2), some (.int x3), some (.int x4)] []) (x2 x3 x4 : Int32) (σ : St) (h : wpBM_points_55 k_55 x2 x3 x4 σ post) : G X (wM E a) σ 55 [some (.ref (a 0)), none, some (.int x2), some (.int x3), some (.int x4)] [] := by
  unfold wpBM_points_55 at h
  refine g_iload C dX11_points_55 rfl ?_
  refine g_aload_0 C dX11_points_57 rfl ?_
  refine fgM_X11_139 C dX11_points_58 ?_
  refine g_icmp_ge C 95 dX11_points_61 (by decide) (fun q => ?_) (fun q => ?_)
  · have h := h.1 q
    refine g_iload_3 C dX11_points_95 rfl ?_
    exact g_ireturn C hQ dX11_points_96 h
  · have h := h.2 q
    refine g_iload_3 C dX11_points_64 rfl ?_
    refine g_aload_0 C dX11_points_65 rfl ?_
    refine fgM_X11_40 C dX11_points_66 ?_
    refine g_iload C dX11_points_69 rfl ?_
    obtain ⟨q, h⟩ := h
    refine alM_14 C q dX11_points_71 ?_
    refine g_iload_2 C dX11_points_72 rfl ?_
    refine g_icmp_ne C 86 dX11_points_73 (by decide) (fun q => ?_) (fun q => ?_)
    · have h := h.1 q
      refine g_iconst_0 C dX11_points_86 ?_
      exact g_wk (kM_points_87 C hQ _ hk_55 _ _ _ _ _ h) (And.intro rfl (And.intro rfl (And.intro rfl (trivial))))
    · have h := h.2 q
      refine g_aload_0 C dX11_points_76 rfl ?_
      refine fgM_X11_52 C dX11_points_77 ?_
      refine g_iload C dX11_points_80 rfl ?_
      obtain ⟨q, h⟩ := h
      refine alM_18 C q dX11_points_82 ?_
      refine g_goto C 87 dX11_points_83 (by decide) ?_
      exact g_wk (kM_points_87 C hQ _ hk_55 _ _ _ _ _ h) (And.intro rfl (And.intro rfl (And.intro rfl (trivial))))
theorem kM_points_55 {X : Kx} {l : Launch} {E : Ev} {a : Nat → Nat} {post : Int32 → St → Prop} (C : Cx X l E RX11 cX11_points rmM_points (some .int)) (hQ : QI X (wM E a) post) (x2 x3 x4 : Int32) (σ : St) (h : wpM_points_55  x2 x3 x4 σ post) : G X (wM E a) σ 55 [some (.ref (a 0)), none, some (.int x2), some (.int x3), some (.int x4)] [] := by
  obtain ⟨n, h⟩ := h
  exact g_loop (J := fun t : Int32 × Int32 × Int32 × St => G X (wM E a) t.2.2.2 55 [some (.ref (a 0)), none, some (.int t.1), some (.int t.2.1), some (.int t.2.2.1)] []) (fun kb hkb t ht => kBM_points_55 C hQ  (fun x2 x3 x4 σ => kb (x2, x3, x4, σ)) (fun x2 x3 x4 σ hh => hkb (x2, x3, x4, σ) hh) t.1 t.2.1 t.2.2.1 t.2.2.2 ht) n (x2, x3, x4, σ) h
def wpM_points_33 (s0 : Int32) (σ : St) (post : Int32 → St → Prop) : Prop := post s0 σ
theorem kM_points_33 {X : Kx} {l : Launch} {E : Ev} {a : Nat → Nat} {post : Int32 → St → Prop} (C : Cx X l E RX11 cX11_points rmM_points (some .int)) (hQ : QI X (wM E a) post) (s0 : Int32) (σ : St) (h : wpM_points_33  s0 σ post) : G X (wM E a) σ 33 [none, none, none, none, none] [.int s0] := by
  unfold wpM_points_33 at h
  exact g_ireturn C hQ dX11_points_33 h
def wpM_points (x1 x2 : Int32) (σ : St) (post : Int32 → St → Prop) : Prop := let σ1 : St := pI σ 0 0; ((¬ x1 = 0 → ((¬ x1 = 1 → wpM_points_48 σ1 post) ∧ (x1 = 1 → wpM_within x2 0 3 σ1 (fun r3 σ2 => ((¬ r3 = 0 → wpM_points_55 x2 0 0 σ2 post) ∧ (r3 = 0 → wpM_points_48 σ2 post)))))) ∧ (x1 = 0 → wpM_within x2 0 ((σ1.1 13) - 1) σ1 (fun r5 σ4 => ((r5 = 0 → wpM_points_33 (-1) σ4 post) ∧ (¬ r5 = 0 → vp_in x2 16 ∧ (wpM_points_33 (σ4.2 18 (Int32.toNatClampNeg x2)) σ4 post))))))
theorem kM_points {X : Kx} {l : Launch} {E : Ev} {a : Nat → Nat} {post : Int32 → St → Prop} (C : Cx X l E RX11 cX11_points rmM_points (some .int)) (hQ : QI X (wM E a) post) (x1 x2 : Int32) (σ : St) (h : wpM_points x1 x2 σ post) : G X (wM E a) σ 0 [some (.ref (a 0)), some (.int x1), some (.int x2), none, none] [] := by
  unfold wpM_points at h
  refine g_aload_0 C dX11_points_0 rfl ?_
  refine g_iconst_0 C dX11_points_1 ?_
  refine fpM_X11_106 C dX11_points_2 ?_
  refine g_iload_1 C dX11_points_5 rfl ?_
  refine g_if_ne C 34 dX11_points_6 (by decide) (fun q => ?_) (fun q => ?_)
  · have h := h.1 q
    refine g_iload_1 C dX11_points_34 rfl ?_
    refine g_iconst_1 C dX11_points_35 ?_
    refine g_icmp_ne C 48 dX11_points_36 (by decide) (fun q => ?_) (fun q => ?_)
    · have h := h.1 q
      exact g_wk (kM_points_48 C hQ _ h) (trivial)
    · have h := h.2 q
      refine g_iload_2 C dX11_points_39 rfl ?_
      refine g_iconst_0 C dX11_points_40 ?_
      refine g_iconst_3 C dX11_points_41 ?_
      refine csM_X11_109 C h ⟨Nat.le_of_ble_eq_true rfl, Nat.le_of_ble_eq_true rfl⟩ (Nat.le_of_ble_eq_true rfl) dX11_points_42 (fun _ _ h => ?_)
      refine g_if_ne C 50 dX11_points_45 (by decide) (fun q => ?_) (fun q => ?_)
      · have h := h.1 q
        refine g_iconst_0 C dX11_points_50 ?_
        refine g_istore_3 C dX11_points_51 (Nat.le_of_ble_eq_true rfl) ?_
        refine g_iconst_0 C dX11_points_52 ?_
        refine g_istore C dX11_points_53 (Nat.le_of_ble_eq_true rfl) ?_
        exact g_wk (kM_points_55 C hQ _ _ _ _ h) (And.intro rfl (And.intro rfl (And.intro rfl (And.intro rfl (trivial)))))
      · have h := h.2 q
        exact g_wk (kM_points_48 C hQ _ h) (trivial)
  · have h := h.2 q
    refine g_iload_2 C dX11_points_9 rfl ?_
    refine g_iconst_0 C dX11_points_10 ?_
    refine g_aload_0 C dX11_points_11 rfl ?_
    refine fgM_X11_139 C dX11_points_12 ?_
    refine g_iconst_1 C dX11_points_15 ?_
    refine g_isub C dX11_points_16 ?_
    refine csM_X11_109 C h ⟨Nat.le_of_ble_eq_true rfl, Nat.le_of_ble_eq_true rfl⟩ (Nat.le_of_ble_eq_true rfl) dX11_points_17 (fun _ _ h => ?_)
    refine g_if_eq C 32 dX11_points_20 (by decide) (fun q => ?_) (fun q => ?_)
    · have h := h.1 q
      refine g_iconst_m1 C dX11_points_32 ?_
      exact g_wk (kM_points_33 C hQ _ _ h) (trivial)
    · have h := h.2 q
      refine g_aload_0 C dX11_points_23 rfl ?_
      refine fgM_X11_52 C dX11_points_24 ?_
      refine g_iload_2 C dX11_points_27 rfl ?_
      obtain ⟨q, h⟩ := h
      refine alM_18 C q dX11_points_28 ?_
      refine g_goto C 33 dX11_points_29 (by decide) ?_
      exact g_wk (kM_points_33 C hQ _ _ h) (trivial)
theorem cM_points {l : Launch} {E : Ev} {a : Nat → Nat} {x1 x2 : Int32} {σ : St} {post : Int32 → St → Prop} (h : wpM_points x1 x2 σ post) : CI l E (wM E a) yX11_points cX11_points 5 .int rmM_points [.ref (a 0), .int x1, .int x2] σ post := met_i (by decide) rfl (Nat.le_of_ble_eq_true rfl) rfl (fun X C hQ => kM_points C hQ _ _ _ h)
/-! IceRunModel.count(I)I -/
abbrev rmM_count : Room := { frames := 1, cells := 0, slots := 0, locals := 20 }
def wpM_count_100 (s0 : Int32) (σ : St) (post : Int32 → St → Prop) : Prop := post s0 σ
theorem kM_count_100 {X : Kx} {l : Launch} {E : Ev} {a : Nat → Nat} {post : Int32 → St → Prop} (C : Cx X l E RX11 cX11_count rmM_count (some .int)) (hQ : QI X (wM E a) post) (s0 : Int32) (σ : St) (h : wpM_count_100  s0 σ post) : G X (wM E a) σ 100 [none, none, none, none] [.int s0] := by
  unfold wpM_count_100 at h
  exact g_ireturn C hQ dX11_count_100 h
def wpM_count_127 (k_103 : Int32 → Int32 → St → Prop) (x3 s0 s1 : Int32) (σ : St) (post : Int32 → St → Prop) : Prop := let y1 : Int32 := (s0 + s1); let y2 : Int32 := x3 + 1; k_103 y1 y2 σ
theorem kM_count_127 {X : Kx} {l : Launch} {E : Ev} {a : Nat → Nat} {post : Int32 → St → Prop} (C : Cx X l E RX11 cX11_count rmM_count (some .int)) (hQ : QI X (wM E a) post) (k_103 : Int32 → Int32 → St → Prop) (hk_103 : ∀ (x2 x3 : Int32) (σ : St), k_103 x2 x3 σ → G X (wM E a) σ 103 [some (.ref (a 0)), none, some (.int x2), some (.int x3)] []) (x3 s0 s1 : Int32) (σ : St) (h : wpM_count_127 k_103 x3 s0 s1 σ post) : G X (wM E a) σ 127 [some (.ref (a 0)), none, none, some (.int x3)] [.int s1, .int s0] := by
  unfold wpM_count_127 at h
  refine g_iadd C dX11_count_127 ?_
  refine g_istore_2 C dX11_count_128 (Nat.le_of_ble_eq_true rfl) ?_
  refine g_iinc C (v := 1) (by decide) dX11_count_129 rfl ?_
  refine g_goto C 103 dX11_count_132 (by decide) ?_
  exact g_wk (hk_103 _ _ _ h) (And.intro rfl (And.intro rfl (And.intro rfl (trivial))))
def wpBM_count_103 (k_103 : Int32 → Int32 → St → Prop) (x2 x3 : Int32) (σ : St) (post : Int32 → St → Prop) : Prop := (((σ.1 27) ≤ x3 → post x2 σ) ∧ (¬ (σ.1 27) ≤ x3 → vp_in x3 4 ∧ (((¬ (σ.2 28 (Int32.toNatClampNeg x3)) = 2 → wpM_count_127 k_103 x3 x2 0 σ post) ∧ ((σ.2 28 (Int32.toNatClampNeg x3)) = 2 → wpM_count_127 k_103 x3 x2 1 σ post)))))
def wpM_count_103 (x2 x3 : Int32) (σ : St) (post : Int32 → St → Prop) : Prop := ∃ n : Nat, lpN (α := Int32 × Int32 × St) (fun kb t => wpBM_count_103 (fun x2 x3 σ => kb (x2, x3, σ)) t.1 t.2.1 t.2.2 post) n (x2, x3, σ)
theorem kBM_count_103 {X : Kx} {l : Launch} {E : Ev} {a : Nat → Nat} {post : Int32 → St → Prop} (C : Cx X l E RX11 cX11_count rmM_count (some .int)) (hQ : QI X (wM E a) post) (k_103 : Int32 → Int32 → St → Prop) (hk_103 : ∀ (x2 x3 : Int32) (σ : St), k_103 x2 x3 σ → G X (wM E a) σ 103 [some (.ref (a 0)), none, some (.int x2), some (.int x3)] []) (x2 x3 : Int32) (σ : St) (h : wpBM_count_103 k_103 x2 x3 σ post) : G X (wM E a) σ 103 [some (.ref (a 0)), none, some (.int x2), some (.int x3)] [] := by
  unfold wpBM_count_103 at h
  refine g_iload_3 C dX11_count_103 rfl ?_
  refine g_aload_0 C dX11_count_104 rfl ?_
  refine fgM_X11_212 C dX11_count_105 ?_
  refine g_icmp_ge C 135 dX11_count_108 (by decide) (fun q => ?_) (fun q => ?_)
  · have h := h.1 q
    refine g_iload_2 C dX11_count_135 rfl ?_
    exact g_ireturn C hQ dX11_count_136 h
  · have h := h.2 q
    refine g_iload_2 C dX11_count_111 rfl ?_
    refine g_aload_0 C dX11_count_112 rfl ?_
    refine fgM_X11_69 C dX11_count_113 ?_
    refine g_iload_3 C dX11_count_116 rfl ?_
    obtain ⟨q, h⟩ := h
    refine alM_28 C q dX11_count_117 ?_
    refine g_iconst_2 C dX11_count_118 ?_
    refine g_icmp_ne C 126 dX11_count_119 (by decide) (fun q => ?_) (fun q => ?_)
    · have h := h.1 q
      refine g_iconst_0 C dX11_count_126 ?_
      exact g_wk (kM_count_127 C hQ _ hk_103 _ _ _ _ h) (And.intro rfl (And.intro rfl (trivial)))
    · have h := h.2 q
      refine g_iconst_1 C dX11_count_122 ?_
      refine g_goto C 127 dX11_count_123 (by decide) ?_
      exact g_wk (kM_count_127 C hQ _ hk_103 _ _ _ _ h) (And.intro rfl (And.intro rfl (trivial)))
theorem kM_count_103 {X : Kx} {l : Launch} {E : Ev} {a : Nat → Nat} {post : Int32 → St → Prop} (C : Cx X l E RX11 cX11_count rmM_count (some .int)) (hQ : QI X (wM E a) post) (x2 x3 : Int32) (σ : St) (h : wpM_count_103  x2 x3 σ post) : G X (wM E a) σ 103 [some (.ref (a 0)), none, some (.int x2), some (.int x3)] [] := by
  obtain ⟨n, h⟩ := h
  exact g_loop (J := fun t : Int32 × Int32 × St => G X (wM E a) t.2.2 103 [some (.ref (a 0)), none, some (.int t.1), some (.int t.2.1)] []) (fun kb hkb t ht => kBM_count_103 C hQ  (fun x2 x3 σ => kb (x2, x3, σ)) (fun x2 x3 σ hh => hkb (x2, x3, σ) hh) t.1 t.2.1 t.2.2 ht) n (x2, x3, σ) h
def wpM_count_154 (s0 : Int32) (σ : St) (post : Int32 → St → Prop) : Prop := post s0 σ
theorem kM_count_154 {X : Kx} {l : Launch} {E : Ev} {a : Nat → Nat} {post : Int32 → St → Prop} (C : Cx X l E RX11 cX11_count rmM_count (some .int)) (hQ : QI X (wM E a) post) (s0 : Int32) (σ : St) (h : wpM_count_154  s0 σ post) : G X (wM E a) σ 154 [none, none, none, none] [.int s0] := by
  unfold wpM_count_154 at h
  exact g_ireturn C hQ dX11_count_154 h
def wpM_count_170 (s0 : Int32) (σ : St) (post : Int32 → St → Prop) : Prop := post s0 σ
theorem kM_count_170 {X : Kx} {l : Launch} {E : Ev} {a : Nat → Nat} {post : Int32 → St → Prop} (C : Cx X l E RX11 cX11_count rmM_count (some .int)) (hQ : QI X (wM E a) post) (s0 : Int32) (σ : St) (h : wpM_count_170  s0 σ post) : G X (wM E a) σ 170 [none, none, none, none] [.int s0] := by
  unfold wpM_count_170 at h
  exact g_ireturn C hQ dX11_count_170 h
def wpM_count_206 (k_183 : Int32 → Int32 → St → Prop) (x3 s0 s1 : Int32) (σ : St) (post : Int32 → St → Prop) : Prop := let y1 : Int32 := (s0 + s1); let y2 : Int32 := x3 + 1; k_183 y1 y2 σ
theorem kM_count_206 {X : Kx} {l : Launch} {E : Ev} {a : Nat → Nat} {post : Int32 → St → Prop} (C : Cx X l E RX11 cX11_count rmM_count (some .int)) (hQ : QI X (wM E a) post) (k_183 : Int32 → Int32 → St → Prop) (hk_183 : ∀ (x2 x3 : Int32) (σ : St), k_183 x2 x3 σ → G X (wM E a) σ 183 [some (.ref (a 0)), none, some (.int x2), some (.int x3)] []) (x3 s0 s1 : Int32) (σ : St) (h : wpM_count_206 k_183 x3 s0 s1 σ post) : G X (wM E a) σ 206 [some (.ref (a 0)), none, none, some (.int x3)] [.int s1, .int s0] := by
  unfold wpM_count_206 at h
  refine g_iadd C dX11_count_206 ?_
  refine g_istore_2 C dX11_count_207 (Nat.le_of_ble_eq_true rfl) ?_
  refine g_iinc C (v := 1) (by decide) dX11_count_208 rfl ?_
  refine g_goto C 183 dX11_count_211 (by decide) ?_
  exact g_wk (hk_183 _ _ _ h) (And.intro rfl (And.intro rfl (And.intro rfl (trivial))))
def wpBM_count_183 (k_183 : Int32 → Int32 → St → Prop) (x2 x3 : Int32) (σ : St) (post : Int32 → St → Prop) : Prop := (((σ.1 13) ≤ x3 → post x2 σ) ∧ (¬ (σ.1 13) ≤ x3 → vp_in x3 16 ∧ ((((σ.2 32 (Int32.toNatClampNeg x3)) = 0 → wpM_count_206 k_183 x3 x2 0 σ post) ∧ (¬ (σ.2 32 (Int32.toNatClampNeg x3)) = 0 → wpM_count_206 k_183 x3 x2 1 σ post)))))
def wpM_count_183 (x2 x3 : Int32) (σ : St) (post : Int32 → St → Prop) : Prop := ∃ n : Nat, lpN (α := Int32 × Int32 × St) (fun kb t => wpBM_count_183 (fun x2 x3 σ => kb (x2, x3, σ)) t.1 t.2.1 t.2.2 post) n (x2, x3, σ)
theorem kBM_count_183 {X : Kx} {l : Launch} {E : Ev} {a : Nat → Nat} {post : Int32 → St → Prop} (C : Cx X l E RX11 cX11_count rmM_count (some .int)) (hQ : QI X (wM E a) post) (k_183 : Int32 → Int32 → St → Prop) (hk_183 : ∀ (x2 x3 : Int32) (σ : St), k_183 x2 x3 σ → G X (wM E a) σ 183 [some (.ref (a 0)), none, some (.int x2), some (.int x3)] []) (x2 x3 : Int32) (σ : St) (h : wpBM_count_183 k_183 x2 x3 σ post) : G X (wM E a) σ 183 [some (.ref (a 0)), none, some (.int x2), some (.int x3)] [] := by
  unfold wpBM_count_183 at h
  refine g_iload_3 C dX11_count_183 rfl ?_
  refine g_aload_0 C dX11_count_184 rfl ?_
  refine fgM_X11_139 C dX11_count_185 ?_
  refine g_icmp_ge C 214 dX11_count_188 (by decide) (fun q => ?_) (fun q => ?_)
  · have h := h.1 q
    refine g_iload_2 C dX11_count_214 rfl ?_
    exact g_ireturn C hQ dX11_count_215 h
  · have h := h.2 q
    refine g_iload_2 C dX11_count_191 rfl ?_
    refine g_aload_0 C dX11_count_192 rfl ?_
    refine fgM_X11_75 C dX11_count_193 ?_
    refine g_iload_3 C dX11_count_196 rfl ?_
    obtain ⟨q, h⟩ := h
    refine alM_32 C q dX11_count_197 ?_
    refine g_if_eq C 205 dX11_count_198 (by decide) (fun q => ?_) (fun q => ?_)
    · have h := h.1 q
      refine g_iconst_0 C dX11_count_205 ?_
      exact g_wk (kM_count_206 C hQ _ hk_183 _ _ _ _ h) (And.intro rfl (And.intro rfl (trivial)))
    · have h := h.2 q
      refine g_iconst_1 C dX11_count_201 ?_
      refine g_goto C 206 dX11_count_202 (by decide) ?_
      exact g_wk (kM_count_206 C hQ _ hk_183 _ _ _ _ h) (And.intro rfl (And.intro rfl (trivial)))
theorem kM_count_183 {X : Kx} {l : Launch} {E : Ev} {a : Nat → Nat} {post : Int32 → St → Prop} (C : Cx X l E RX11 cX11_count rmM_count (some .int)) (hQ : QI X (wM E a) post) (x2 x3 : Int32) (σ : St) (h : wpM_count_183  x2 x3 σ post) : G X (wM E a) σ 183 [some (.ref (a 0)), none, some (.int x2), some (.int x3)] [] := by
  obtain ⟨n, h⟩ := h
  exact g_loop (J := fun t : Int32 × Int32 × St => G X (wM E a) t.2.2 183 [some (.ref (a 0)), none, some (.int t.1), some (.int t.2.1)] []) (fun kb hkb t ht => kBM_count_183 C hQ  (fun x2 x3 σ => kb (x2, x3, σ)) (fun x2 x3 σ hh => hkb (x2, x3, σ) hh) t.1 t.2.1 t.2.2 ht) n (x2, x3, σ) h
def wpM_count (x1 : Int32) (σ : St) (post : Int32 → St → Prop) : Prop := let σ1 : St := pI σ 0 0; ((x1 = 0 → post (σ1.1 1) σ1) ∧ (x1 = 1 → post (σ1.1 2) σ1) ∧ (x1 = 2 → post (σ1.1 13) σ1) ∧ (x1 = 3 → post (σ1.1 22) σ1) ∧ (x1 = 4 → (((σ1.1 26) = 0 → wpM_count_100 0 σ1 post) ∧ (¬ (σ1.1 26) = 0 → wpM_count_100 1 σ1 post))) ∧ (x1 = 5 → wpM_count_103 0 0 σ1 post) ∧ (x1 = 6 → wpM_isOn  σ1 (fun r3 σ2 => ((r3 = 0 → wpM_count_154 (-1) σ2 post) ∧ (¬ r3 = 0 → wpM_count_154 ((σ2.1 27) - 1) σ2 post)))) ∧ (x1 = 7 → wpM_isOn  σ1 (fun r5 σ4 => ((r5 = 0 → wpM_count_170 0 σ4 post) ∧ (¬ r5 = 0 → wpM_count_170 (σ4.1 31) σ4 post)))) ∧ (x1 = 8 → post (σ1.1 39) σ1) ∧ (x1 = 9 → post (σ1.1 40) σ1) ∧ (x1 = 10 → wpM_count_183 0 0 σ1 post) ∧ (¬ x1 = 0 → ¬ x1 = 1 → ¬ x1 = 2 → ¬ x1 = 3 → ¬ x1 = 4 → ¬ x1 = 5 → ¬ x1 = 6 → ¬ x1 = 7 → ¬ x1 = 8 → ¬ x1 = 9 → ¬ x1 = 10 → post (-1) σ1))
theorem kM_count {X : Kx} {l : Launch} {E : Ev} {a : Nat → Nat} {post : Int32 → St → Prop} (C : Cx X l E RX11 cX11_count rmM_count (some .int)) (hQ : QI X (wM E a) post) (x1 : Int32) (σ : St) (h : wpM_count x1 σ post) : G X (wM E a) σ 0 [some (.ref (a 0)), some (.int x1), none, none] [] := by
  unfold wpM_count at h
  refine g_aload_0 C dX11_count_0 rfl ?_
  refine g_iconst_0 C dX11_count_1 ?_
  refine fpM_X11_106 C dX11_count_2 ?_
  refine g_iconst_0 C dX11_count_5 ?_
  refine g_istore_2 C dX11_count_6 (Nat.le_of_ble_eq_true rfl) ?_
  refine g_iload_1 C dX11_count_7 rfl ?_
  by_cases q0 : x1 = 0
  · have h := h.1 q0
    refine g_tabIn C 68 0 q0 dX11_count_8 (by decide) (by decide) (by rfl) (by decide) ?_
    refine g_aload_0 C dX11_count_68 rfl ?_
    refine fgM_X11_117 C dX11_count_69 ?_
    exact g_ireturn C hQ dX11_count_72 h
  by_cases q1 : x1 = 1
  · have h := h.2.1 q1
    refine g_tabIn C 73 1 q1 dX11_count_8 (by decide) (by decide) (by rfl) (by decide) ?_
    refine g_aload_0 C dX11_count_73 rfl ?_
    refine fgM_X11_120 C dX11_count_74 ?_
    exact g_ireturn C hQ dX11_count_77 h
  by_cases q2 : x1 = 2
  · have h := h.2.2.1 q2
    refine g_tabIn C 78 2 q2 dX11_count_8 (by decide) (by decide) (by rfl) (by decide) ?_
    refine g_aload_0 C dX11_count_78 rfl ?_
    refine fgM_X11_139 C dX11_count_79 ?_
    exact g_ireturn C hQ dX11_count_82 h
  by_cases q3 : x1 = 3
  · have h := h.2.2.2.1 q3
    refine g_tabIn C 83 3 q3 dX11_count_8 (by decide) (by decide) (by rfl) (by decide) ?_
    refine g_aload_0 C dX11_count_83 rfl ?_
    refine fgM_X11_146 C dX11_count_84 ?_
    exact g_ireturn C hQ dX11_count_87 h
  by_cases q4 : x1 = 4
  · have h := h.2.2.2.2.1 q4
    refine g_tabIn C 88 4 q4 dX11_count_8 (by decide) (by decide) (by rfl) (by decide) ?_
    refine g_aload_0 C dX11_count_88 rfl ?_
    refine fgM_X11_113 C dX11_count_89 ?_
    refine g_if_eq C 99 dX11_count_92 (by decide) (fun q => ?_) (fun q => ?_)
    · have h := h.1 q
      refine g_iconst_0 C dX11_count_99 ?_
      exact g_wk (kM_count_100 C hQ _ _ h) (trivial)
    · have h := h.2 q
      refine g_iconst_1 C dX11_count_95 ?_
      refine g_goto C 100 dX11_count_96 (by decide) ?_
      exact g_wk (kM_count_100 C hQ _ _ h) (trivial)
  by_cases q5 : x1 = 5
  · have h := h.2.2.2.2.2.1 q5
    refine g_tabIn C 101 5 q5 dX11_count_8 (by decide) (by decide) (by rfl) (by decide) ?_
    refine g_iconst_0 C dX11_count_101 ?_
    refine g_istore_3 C dX11_count_102 (Nat.le_of_ble_eq_true rfl) ?_
    exact g_wk (kM_count_103 C hQ _ _ _ h) (And.intro rfl (And.intro rfl (And.intro rfl (trivial))))
  by_cases q6 : x1 = 6
  · have h := h.2.2.2.2.2.2.1 q6
    refine g_tabIn C 137 6 q6 dX11_count_8 (by decide) (by decide) (by rfl) (by decide) ?_
    refine g_aload_0 C dX11_count_137 rfl ?_
    refine csM_X11_127 C h ⟨Nat.le_of_ble_eq_true rfl, Nat.le_of_ble_eq_true rfl⟩ (Nat.le_of_ble_eq_true rfl) dX11_count_138 (fun _ _ h => ?_)
    refine g_if_eq C 153 dX11_count_141 (by decide) (fun q => ?_) (fun q => ?_)
    · have h := h.1 q
      refine g_iconst_m1 C dX11_count_153 ?_
      exact g_wk (kM_count_154 C hQ _ _ h) (trivial)
    · have h := h.2 q
      refine g_aload_0 C dX11_count_144 rfl ?_
      refine fgM_X11_212 C dX11_count_145 ?_
      refine g_iconst_1 C dX11_count_148 ?_
      refine g_isub C dX11_count_149 ?_
      refine g_goto C 154 dX11_count_150 (by decide) ?_
      exact g_wk (kM_count_154 C hQ _ _ h) (trivial)
  by_cases q7 : x1 = 7
  · have h := h.2.2.2.2.2.2.2.1 q7
    refine g_tabIn C 155 7 q7 dX11_count_8 (by decide) (by decide) (by rfl) (by decide) ?_
    refine g_aload_0 C dX11_count_155 rfl ?_
    refine csM_X11_127 C h ⟨Nat.le_of_ble_eq_true rfl, Nat.le_of_ble_eq_true rfl⟩ (Nat.le_of_ble_eq_true rfl) dX11_count_156 (fun _ _ h => ?_)
    refine g_if_eq C 169 dX11_count_159 (by decide) (fun q => ?_) (fun q => ?_)
    · have h := h.1 q
      refine g_iconst_0 C dX11_count_169 ?_
      exact g_wk (kM_count_170 C hQ _ _ h) (trivial)
    · have h := h.2 q
      refine g_aload_0 C dX11_count_162 rfl ?_
      refine fgM_X11_220 C dX11_count_163 ?_
      refine g_goto C 170 dX11_count_166 (by decide) ?_
      exact g_wk (kM_count_170 C hQ _ _ h) (trivial)
  by_cases q8 : x1 = 8
  · have h := h.2.2.2.2.2.2.2.2.1 q8
    refine g_tabIn C 171 8 q8 dX11_count_8 (by decide) (by decide) (by rfl) (by decide) ?_
    refine g_aload_0 C dX11_count_171 rfl ?_
    refine fgM_X11_223 C dX11_count_172 ?_
    exact g_ireturn C hQ dX11_count_175 h
  by_cases q9 : x1 = 9
  · have h := h.2.2.2.2.2.2.2.2.2.1 q9
    refine g_tabIn C 176 9 q9 dX11_count_8 (by decide) (by decide) (by rfl) (by decide) ?_
    refine g_aload_0 C dX11_count_176 rfl ?_
    refine fgM_X11_273 C dX11_count_177 ?_
    exact g_ireturn C hQ dX11_count_180 h
  by_cases q10 : x1 = 10
  · have h := h.2.2.2.2.2.2.2.2.2.2.1 q10
    refine g_tabIn C 181 10 q10 dX11_count_8 (by decide) (by decide) (by rfl) (by decide) ?_
    refine g_iconst_0 C dX11_count_181 ?_
    refine g_istore_3 C dX11_count_182 (Nat.le_of_ble_eq_true rfl) ?_
    exact g_wk (kM_count_183 C hQ _ _ _ h) (And.intro rfl (And.intro rfl (And.intro rfl (trivial))))
  have h := h.2.2.2.2.2.2.2.2.2.2.2 q0 q1 q2 q3 q4 q5 q6 q7 q8 q9 q10
  refine g_tabOut C 216 (by have e0 := lv_neT q0 (a := 0) (by decide); have e1 := lv_neT q1 (a := 1) (by decide); have e2 := lv_neT q2 (a := 2) (by decide); have e3 := lv_neT q3 (a := 3) (by decide); have e4 := lv_neT q4 (a := 4) (by decide); have e5 := lv_neT q5 (a := 5) (by decide); have e6 := lv_neT q6 (a := 6) (by decide); have e7 := lv_neT q7 (a := 7) (by decide); have e8 := lv_neT q8 (a := 8) (by decide); have e9 := lv_neT q9 (a := 9) (by decide); have e10 := lv_neT q10 (a := 10) (by decide); omega) dX11_count_8 (by decide) ?_
  refine g_iconst_m1 C dX11_count_216 ?_
  exact g_ireturn C hQ dX11_count_217 h
theorem cM_count {l : Launch} {E : Ev} {a : Nat → Nat} {x1 : Int32} {σ : St} {post : Int32 → St → Prop} (h : wpM_count x1 σ post) : CI l E (wM E a) yX11_count cX11_count 4 .int rmM_count [.ref (a 0), .int x1] σ post := met_i (by decide) rfl (Nat.le_of_ble_eq_true rfl) rfl (fun X C hQ => kM_count C hQ _ _ h)

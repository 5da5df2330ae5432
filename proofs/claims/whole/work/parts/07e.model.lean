theorem asM_36 {X : Kx} {l : Launch} {E : Ev} {a : Nat → Nat} {σ : St} {cc : ByteArray} {rm : Room} {ret : Option FieldType} {pc : Nat} {lv : List (Option Value)} {st : List Value} {own : String} {i x : Int32} (C : Cx X l E own cc rm ret) (hin : vp_in i 64) (d : decode cc pc = .ok (.iastore, 1)) (k : G X (wM E a) (pA σ 36 i.toNatClampNeg x) (pc + 1) lv st) : G X (wM E a) σ pc lv (.int x :: .int i :: .ref (a 37) :: st) := g_iast C (q0 := 25) rfl rfl hin d k
theorem fgM_X11_220 {X : Kx} {l : Launch} {E : Ev} {a : Nat → Nat} {σ : St} {cc : ByteArray} {rm : Room} {ret : Option FieldType} {pc : Nat} {lv : List (Option Value)} {st : List Value} (C : Cx X l E RX11 cc rm ret) (d : decode cc pc = .ok (.getfield 220, 3)) (k : G X (wM E a) σ (pc + 3) lv (.int (σ.1 31) :: st)) : G X (wM E a) σ pc lv (.ref (a 0) :: st) := g_get C (q0 := 0) (ci := 10) (k := 31) rfl rfl inU_X11 (by decide) (by decide +kernel) rfl d k
theorem asM_38 {X : Kx} {l : Launch} {E : Ev} {a : Nat → Nat} {σ : St} {cc : ByteArray} {rm : Room} {ret : Option FieldType} {pc : Nat} {lv : List (Option Value)} {st : List Value} {own : String} {i x : Int32} (C : Cx X l E own cc rm ret) (hin : vp_in i 20) (d : decode cc pc = .ok (.iastore, 1)) (k : G X (wM E a) (pA σ 38 i.toNatClampNeg x) (pc + 1) lv st) : G X (wM E a) σ pc lv (.int x :: .int i :: .ref (a 39) :: st) := g_iast C (q0 := 27) rfl rfl hin d k
theorem alM_34 {X : Kx} {l : Launch} {E : Ev} {a : Nat → Nat} {σ : St} {cc : ByteArray} {rm : Room} {ret : Option FieldType} {pc : Nat} {lv : List (Option Value)} {st : List Value} {own : String} {i : Int32} (C : Cx X l E own cc rm ret) (hin : vp_in i 384) (d : decode cc pc = .ok (.iaload, 1)) (k : G X (wM E a) σ (pc + 1) lv (.int (σ.2 34 i.toNatClampNeg) :: st)) : G X (wM E a) σ pc lv (.int i :: .ref (a 35) :: st) := g_iald C (q0 := 23) rfl hin d k
theorem alM_16 {X : Kx} {l : Launch} {E : Ev} {a : Nat → Nat} {σ : St} {cc : ByteArray} {rm : Room} {ret : Option FieldType} {pc : Nat} {lv : List (Option Value)} {st : List Value} {own : String} {i : Int32} (C : Cx X l E own cc rm ret) (hin : vp_in i 16) (d : decode cc pc = .ok (.iaload, 1)) (k : G X (wM E a) σ (pc + 1) lv (.int (σ.2 16 i.toNatClampNeg) :: st)) : G X (wM E a) σ pc lv (.int i :: .ref (a 17) :: st) := g_iald C (q0 := 13) rfl hin d k
theorem alM_17 {X : Kx} {l : Launch} {E : Ev} {a : Nat → Nat} {σ : St} {cc : ByteArray} {rm : Room} {ret : Option FieldType} {pc : Nat} {lv : List (Option Value)} {st : List Value} {own : String} {i : Int32} (C : Cx X l E own cc rm ret) (hin : vp_in i 16) (d : decode cc pc = .ok (.iaload, 1)) (k : G X (wM E a) σ (pc + 1) lv (.int (σ.2 17 i.toNatClampNeg) :: st)) : G X (wM E a) σ pc lv (.int i :: .ref (a 18) :: st) := g_iald C (q0 := 14) rfl hin d k
theorem alM_8 {X : Kx} {l : Launch} {E : Ev} {a : Nat → Nat} {σ : St} {cc : ByteArray} {rm : Room} {ret : Option FieldType} {pc : Nat} {lv : List (Option Value)} {st : List Value} {own : String} {i : Int32} (C : Cx X l E own cc rm ret) (hin : vp_in i 6) (d : decode cc pc = .ok (.iaload, 1)) (k : G X (wM E a) σ (pc + 1) lv (.int (σ.2 8 i.toNatClampNeg) :: st)) : G X (wM E a) σ pc lv (.int i :: .ref (a 9) :: st) := g_iald C (q0 := 6) rfl hin d k
theorem csM_X11_241 {X : Kx} {l : Launch} {E : Ev} {a : Nat → Nat} {σ : St} {cc : ByteArray} {rm : Room} {ret : Option FieldType} {pc : Nat} {lv : List (Option Value)} {rest : List Value} {x0 x1 x2 : Int32} {post : St → Prop} (C : Cx X l E RX11 cc rm ret) (h : wpM_passes x0 x1 x2 σ post) (hR : 0 + 1 ≤ rm.frames ∧ 8 + (7 + 11) + 0 ≤ rm.locals) (hW : (rest.map fun v => v.category).sum ≤ 8) (d : decode cc pc = .ok (.invokevirtual 241, 3)) (k : ∀ u : St, post u → G X (wM E a) u (pc + 3) lv rest) : G X (wM E a) σ pc lv (.int x2 :: .int x1 :: .int x0 :: .ref (a 0) :: rest) := g_callVv C 3 (As := [.int x0, .int x1, .int x2]) (rest := rest) (Cn := RX11) (T := TX11) (N := 42) (q0 := 0) (ci := 10) (by decide +kernel) (by decide +kernel) (by decide +kernel) (by decide +kernel) (by decide +kernel) (by decide +kernel) rfl rfl (cM_passes h) ⟨rfl, rfl⟩ hR rfl rfl hW d k
theorem fgM_X11_91 {X : Kx} {l : Launch} {E : Ev} {a : Nat → Nat} {σ : St} {cc : ByteArray} {rm : Room} {ret : Option FieldType} {pc : Nat} {lv : List (Option Value)} {st : List Value} (C : Cx X l E RX11 cc rm ret) (d : decode cc pc = .ok (.getfield 91, 3)) (k : G X (wM E a) σ (pc + 3) lv (.ref (a 38) :: st)) : G X (wM E a) σ pc lv (.ref (a 0) :: st) := g_get C (q0 := 0) (ci := 10) (k := 37) rfl rfl inU_X11 (by decide) (by decide +kernel) rfl d k
theorem csM_X11_238 {X : Kx} {l : Launch} {E : Ev} {a : Nat → Nat} {σ : St} {cc : ByteArray} {rm : Room} {ret : Option FieldType} {pc : Nat} {lv : List (Option Value)} {rest : List Value} {post : Int32 → St → Prop} (C : Cx X l E RX11 cc rm ret) (h : wpM_standard  σ post) (hR : 3 + 1 ≤ rm.frames ∧ 8 + (3 + 11) + 70 ≤ rm.locals) (hW : (rest.map fun v => v.category).sum ≤ 8) (d : decode cc pc = .ok (.invokevirtual 238, 3)) (k : ∀ (r : Int32) (u : St), post r u → G X (wM E a) u (pc + 3) lv (.int r :: rest)) : G X (wM E a) σ pc lv (.ref (a 0) :: rest) := g_callVi C 0 (As := []) (rest := rest) (Cn := RX11) (T := TX11) (N := 42) (q0 := 0) (ci := 10) (by decide +kernel) (by decide +kernel) (by decide +kernel) (by decide +kernel) (by decide +kernel) (by decide +kernel) rfl rfl (cM_standard h) ⟨rfl, rfl⟩ hR rfl rfl hW d k
theorem asM_37 {X : Kx} {l : Launch} {E : Ev} {a : Nat → Nat} {σ : St} {cc : ByteArray} {rm : Room} {ret : Option FieldType} {pc : Nat} {lv : List (Option Value)} {st : List Value} {own : String} {i x : Int32} (C : Cx X l E own cc rm ret) (hin : vp_in i 64) (d : decode cc pc = .ok (.iastore, 1)) (k : G X (wM E a) (pA σ 37 i.toNatClampNeg x) (pc + 1) lv st) : G X (wM E a) σ pc lv (.int x :: .int i :: .ref (a 38) :: st) := g_iast C (q0 := 26) rfl rfl hin d k
/-! IceRunModel.start()I -/
abbrev rmM_start : Room := { frames := 4, cells := 0, slots := 0, locals := 92 }
def wpM_start_321 (x3 : Int32) (σ : St) (post : Int32 → St → Prop) : Prop := vp_in x3 64 ∧ (post (σ.2 36 (Int32.toNatClampNeg x3)) σ)
theorem kM_start_321 {X : Kx} {l : Launch} {E : Ev} {a : Nat → Nat} {post : Int32 → St → Prop} (C : Cx X l E RX11 cX11_start rmM_start (some .int)) (hQ : QI X (wM E a) post) (x3 : Int32) (σ : St) (h : wpM_start_321  x3 σ post) : G X (wM E a) σ 321 [some (.ref (a 0)), none, none, some (.int x3), none, none, none] [] := by
  unfold wpM_start_321 at h
  refine g_aload_0 C dX11_start_321 rfl ?_
  refine fgM_X11_88 C dX11_start_322 ?_
  refine g_iload_3 C dX11_start_325 rfl ?_
  obtain ⟨q, h⟩ := h
  refine alM_36 C q dX11_start_326 ?_
  exact g_ireturn C hQ dX11_start_327 h
def wpM_start_264 (x1 x3 s1 s2 s3 : Int32) (σ : St) (post : Int32 → St → Prop) : Prop := vp_in s1 64 ∧ (let σ1 : St := pA σ 36 (Int32.toNatClampNeg s1) (s2 + s3); vp_in x3 64 ∧ (let σ2 : St := pA σ1 33 (Int32.toNatClampNeg x3) (vp_nar .boolean 1); let σ3 : St := pI σ2 31 ((σ2.1 31) + 1); ((¬ (σ3.1 31) = (σ3.1 30) → wpM_start_321 x3 σ3 post) ∧ ((σ3.1 31) = (σ3.1 30) → vp_in x1 4 ∧ (let σ4 : St := pA σ3 28 (Int32.toNatClampNeg x1) 2; vp_in (σ4.1 39) 20 ∧ (let σ5 : St := pA σ4 38 (Int32.toNatClampNeg (σ4.1 39)) x1; let σ6 : St := pI σ5 39 ((σ5.1 39) + 1); wpM_start_321 x3 σ6 post))))))
theorem kM_start_264 {X : Kx} {l : Launch} {E : Ev} {a : Nat → Nat} {post : Int32 → St → Prop} (C : Cx X l E RX11 cX11_start rmM_start (some .int)) (hQ : QI X (wM E a) post) (x1 x3 s1 s2 s3 : Int32) (σ : St) (h : wpM_start_264  x1 x3 s1 s2 s3 σ post) : G X (wM E a) σ 264 [some (.ref (a 0)), some (.int x1), none, some (.int x3), none, none, none] [.int s3, .int s2, .int s1, .ref (a 37)] := by
  unfold wpM_start_264 at h
  refine g_iadd C dX11_start_264 ?_
  obtain ⟨q, h⟩ := h
  refine asM_36 C q dX11_start_265 ?_
  refine g_aload_0 C dX11_start_266 rfl ?_
  refine fgM_X11_79 C dX11_start_267 ?_
  refine g_iload_3 C dX11_start_270 rfl ?_
  refine g_iconst_1 C dX11_start_271 ?_
  obtain ⟨q, h⟩ := h
  refine asM_33 C q dX11_start_272 ?_
  refine g_aload_0 C dX11_start_273 rfl ?_
  refine g_dup C dX11_start_274 rfl ?_
  refine fgM_X11_220 C dX11_start_275 ?_
  refine g_iconst_1 C dX11_start_278 ?_
  refine g_iadd C dX11_start_279 ?_
  refine fpM_X11_220 C dX11_start_280 ?_
  refine g_aload_0 C dX11_start_283 rfl ?_
  refine fgM_X11_220 C dX11_start_284 ?_
  refine g_aload_0 C dX11_start_287 rfl ?_
  refine fgM_X11_217 C dX11_start_288 ?_
  refine g_icmp_ne C 321 dX11_start_291 (by decide) (fun q => ?_) (fun q => ?_)
  · have h := h.1 q
    exact g_wk (kM_start_321 C hQ _ _ h) (And.intro rfl (And.intro rfl (trivial)))
  · have h := h.2 q
    refine g_aload_0 C dX11_start_294 rfl ?_
    refine fgM_X11_69 C dX11_start_295 ?_
    refine g_iload_1 C dX11_start_298 rfl ?_
    refine g_iconst_2 C dX11_start_299 ?_
    obtain ⟨q, h⟩ := h
    refine asM_28 C q dX11_start_300 ?_
    refine g_aload_0 C dX11_start_301 rfl ?_
    refine fgM_X11_94 C dX11_start_302 ?_
    refine g_aload_0 C dX11_start_305 rfl ?_
    refine fgM_X11_223 C dX11_start_306 ?_
    refine g_iload_1 C dX11_start_309 rfl ?_
    obtain ⟨q, h⟩ := h
    refine asM_38 C q dX11_start_310 ?_
    refine g_aload_0 C dX11_start_311 rfl ?_
    refine g_dup C dX11_start_312 rfl ?_
    refine fgM_X11_223 C dX11_start_313 ?_
    refine g_iconst_1 C dX11_start_316 ?_
    refine g_iadd C dX11_start_317 ?_
    refine fpM_X11_223 C dX11_start_318 ?_
    exact g_wk (kM_start_321 C hQ _ _ h) (And.intro rfl (And.intro rfl (trivial)))
def wpBM_start_206 (k_206 : Int32 → Int32 → Int32 → St → Prop) (x1 x3 x6 : Int32) (σ : St) (post : Int32 → St → Prop) : Prop := vp_in ((6 * x3) + x6) 384 ∧ (((¬ (σ.2 34 (Int32.toNatClampNeg ((6 * x3) + x6))) = (-1000000) → vp_in ((6 * x3) + x6) 384 ∧ (((((σ.1 2) - 1) ≤ x6 → wpM_start_264 x1 x3 x3 (σ.2 34 (Int32.toNatClampNeg ((6 * x3) + x6))) 0 σ post) ∧ (¬ ((σ.1 2) - 1) ≤ x6 → wpM_start_264 x1 x3 x3 (σ.2 34 (Int32.toNatClampNeg ((6 * x3) + x6))) 10000 σ post)))) ∧ ((σ.2 34 (Int32.toNatClampNeg ((6 * x3) + x6))) = (-1000000) → let y1 : Int32 := x6 + (-1); k_206 x1 x3 y1 σ)))
def wpM_start_206 (x1 x3 x6 : Int32) (σ : St) (post : Int32 → St → Prop) : Prop := ∃ n : Nat, lpN (α := Int32 × Int32 × Int32 × St) (fun kb t => wpBM_start_206 (fun x1 x3 x6 σ => kb (x1, x3, x6, σ)) t.1 t.2.1 t.2.2.1 t.2.2.2 post) n (x1, x3, x6, σ)
theorem kBM_start_206 {X : Kx} {l : Launch} {E : Ev} {a : Nat → Nat} {post : Int32 → St → Prop} (C : Cx X l E RX11 cX11_start rmM_start (some .int)) (hQ : QI X (wM E a) post) (k_206 : Int32 → Int32 → Int32 → St → Prop) (hk_206 : ∀ (x1 x3 x6 : Int32) (σ : St), k_206 x1 x3 x6 σ → G X (wM E a) σ 206 [some (.ref (a 0)), some (.int x1), none, some (.int x3), none, none, some (.int x6)] []) (x1 x3 x6 : Int32) (σ : St) (h : wpBM_start_206 k_206 x1 x3 x6 σ post) : G X (wM E a) σ 206 [some (.ref (a 0)), some (.int x1), none, some (.int x3), none, none, some (.int x6)] [] := by
  unfold wpBM_start_206 at h
  refine g_aload_0 C dX11_start_206 rfl ?_
  refine fgM_X11_82 C dX11_start_207 ?_
  refine g_bipush C (v := 6) (by decide) dX11_start_210 ?_
  refine g_iload_3 C dX11_start_212 rfl ?_
  refine g_imul C dX11_start_213 ?_
  refine g_iload C dX11_start_214 rfl ?_
  refine g_iadd C dX11_start_216 ?_
  obtain ⟨q, h⟩ := h
  refine alM_34 C q dX11_start_217 ?_
  refine g_ldc C lc_X11_245 dX11_start_218 ?_
  refine g_icmp_ne C 229 dX11_start_220 (by decide) (fun q => ?_) (fun q => ?_)
  · have h := h.1 q
    refine g_aload_0 C dX11_start_229 rfl ?_
    refine fgM_X11_88 C dX11_start_230 ?_
    refine g_iload_3 C dX11_start_233 rfl ?_
    refine g_aload_0 C dX11_start_234 rfl ?_
    refine fgM_X11_82 C dX11_start_235 ?_
    refine g_bipush C (v := 6) (by decide) dX11_start_238 ?_
    refine g_iload_3 C dX11_start_240 rfl ?_
    refine g_imul C dX11_start_241 ?_
    refine g_iload C dX11_start_242 rfl ?_
    refine g_iadd C dX11_start_244 ?_
    obtain ⟨q, h⟩ := h
    refine alM_34 C q dX11_start_245 ?_
    refine g_iload C dX11_start_246 rfl ?_
    refine g_aload_0 C dX11_start_248 rfl ?_
    refine fgM_X11_120 C dX11_start_249 ?_
    refine g_iconst_1 C dX11_start_252 ?_
    refine g_isub C dX11_start_253 ?_
    refine g_icmp_ge C 263 dX11_start_254 (by decide) (fun q => ?_) (fun q => ?_)
    · have h := h.1 q
      refine g_iconst_0 C dX11_start_263 ?_
      exact g_wk (kM_start_264 C hQ _ _ _ _ _ _ h) (And.intro rfl (And.intro rfl (And.intro rfl (trivial))))
    · have h := h.2 q
      refine g_sipush C (v := 10000) (by decide) dX11_start_257 ?_
      refine g_goto C 264 dX11_start_260 (by decide) ?_
      exact g_wk (kM_start_264 C hQ _ _ _ _ _ _ h) (And.intro rfl (And.intro rfl (And.intro rfl (trivial))))
  · have h := h.2 q
    refine g_iinc C (v := (-1)) (by decide) dX11_start_223 rfl ?_
    refine g_goto C 206 dX11_start_226 (by decide) ?_
    exact g_wk (hk_206 _ _ _ _ h) (And.intro rfl (And.intro rfl (And.intro rfl (And.intro rfl (trivial)))))
theorem kM_start_206 {X : Kx} {l : Launch} {E : Ev} {a : Nat → Nat} {post : Int32 → St → Prop} (C : Cx X l E RX11 cX11_start rmM_start (some .int)) (hQ : QI X (wM E a) post) (x1 x3 x6 : Int32) (σ : St) (h : wpM_start_206  x1 x3 x6 σ post) : G X (wM E a) σ 206 [some (.ref (a 0)), some (.int x1), none, some (.int x3), none, none, some (.int x6)] [] := by
  obtain ⟨n, h⟩ := h
  exact g_loop (J := fun t : Int32 × Int32 × Int32 × St => G X (wM E a) t.2.2.2 206 [some (.ref (a 0)), some (.int t.1), none, some (.int t.2.1), none, none, some (.int t.2.2.1)] []) (fun kb hkb t ht => kBM_start_206 C hQ  (fun x1 x3 x6 σ => kb (x1, x3, x6, σ)) (fun x1 x3 x6 σ hh => hkb (x1, x3, x6, σ) hh) t.1 t.2.1 t.2.2.1 t.2.2.2 ht) n (x1, x3, x6, σ) h
def wpM_start_192 (k_57 : Int32 → Int32 → Int32 → Int32 → Int32 → Int32 → St → Prop) (x1 x2 x3 x4 x5 x6 : Int32) (σ : St) (post : Int32 → St → Prop) : Prop := let y1 : Int32 := x6 + 1; k_57 x1 x2 x3 x4 x5 y1 σ
theorem kM_start_192 {X : Kx} {l : Launch} {E : Ev} {a : Nat → Nat} {post : Int32 → St → Prop} (C : Cx X l E RX11 cX11_start rmM_start (some .int)) (hQ : QI X (wM E a) post) (k_57 : Int32 → Int32 → Int32 → Int32 → Int32 → Int32 → St → Prop) (hk_57 : ∀ (x1 x2 x3 x4 x5 x6 : Int32) (σ : St), k_57 x1 x2 x3 x4 x5 x6 σ → G X (wM E a) σ 57 [some (.ref (a 0)), some (.int x1), some (.int x2), some (.int x3), some (.int x4), some (.int x5), some (.int x6)] []) (x1 x2 x3 x4 x5 x6 : Int32) (σ : St) (h : wpM_start_192 k_57 x1 x2 x3 x4 x5 x6 σ post) : G X (wM E a) σ 192 [some (.ref (a 0)), some (.int x1), some (.int x2), some (.int x3), some (.int x4), some (.int x5), some (.int x6)] [] := by
  unfold wpM_start_192 at h
  refine g_iinc C (v := 1) (by decide) dX11_start_192 rfl ?_
  refine g_goto C 57 dX11_start_195 (by decide) ?_
  exact g_wk (hk_57 _ _ _ _ _ _ _ h) (And.intro rfl (And.intro rfl (And.intro rfl (And.intro rfl (And.intro rfl (And.intro rfl (And.intro rfl (trivial))))))))
def wpM_start_99 (k_57 : Int32 → Int32 → Int32 → Int32 → Int32 → Int32 → St → Prop) (x1 x2 x3 x4 x5 x6 : Int32) (σ : St) (post : Int32 → St → Prop) : Prop := (((σ.1 1) ≤ x6 → wpM_start_192 k_57 x1 x2 x3 x4 x5 x6 σ post) ∧ (¬ (σ.1 1) ≤ x6 → vp_in x2 16 ∧ (vp_in x2 16 ∧ (vp_in x2 16 ∧ (wpM_timeOf x6 (σ.2 15 (Int32.toNatClampNeg x2)) (σ.2 16 (Int32.toNatClampNeg x2)) (σ.2 17 (Int32.toNatClampNeg x2)) σ (fun r2 σ1 => let y3 : Int32 := (x4 + r2); vp_in x6 40 ∧ (vp_in x2 16 ∧ (wpM_bounded (((σ1.2 7 (Int32.toNatClampNeg x6)) + 1) + ((σ1.2 15 (Int32.toNatClampNeg x2)) / 64)) 0 100 σ1 (fun r5 σ4 => vp_in x6 40 ∧ (let σ6 : St := pA σ4 7 (Int32.toNatClampNeg x6) r5; vp_in x6 40 ∧ (wpM_bounded ((σ6.2 6 (Int32.toNatClampNeg x6)) - 2) 0 1000 σ6 (fun r8 σ7 => vp_in x6 40 ∧ (let σ9 : St := pA σ7 6 (Int32.toNatClampNeg x6) r8; wpM_start_192 k_57 x1 x2 x3 y3 x5 x6 σ9 post)))))))))))))
theorem kM_start_99 {X : Kx} {l : Launch} {E : Ev} {a : Nat → Nat} {post : Int32 → St → Prop} (C : Cx X l E RX11 cX11_start rmM_start (some .int)) (hQ : QI X (wM E a) post) (k_57 : Int32 → Int32 → Int32 → Int32 → Int32 → Int32 → St → Prop) (hk_57 : ∀ (x1 x2 x3 x4 x5 x6 : Int32) (σ : St), k_57 x1 x2 x3 x4 x5 x6 σ → G X (wM E a) σ 57 [some (.ref (a 0)), some (.int x1), some (.int x2), some (.int x3), some (.int x4), some (.int x5), some (.int x6)] []) (x1 x2 x3 x4 x5 x6 : Int32) (σ : St) (h : wpM_start_99 k_57 x1 x2 x3 x4 x5 x6 σ post) : G X (wM E a) σ 99 [some (.ref (a 0)), some (.int x1), some (.int x2), some (.int x3), some (.int x4), some (.int x5), some (.int x6)] [] := by
  unfold wpM_start_99 at h
  refine g_iload C dX11_start_99 rfl ?_
  refine g_aload_0 C dX11_start_101 rfl ?_
  refine fgM_X11_117 C dX11_start_102 ?_
  refine g_icmp_ge C 192 dX11_start_105 (by decide) (fun q => ?_) (fun q => ?_)
  · have h := h.1 q
    exact g_wk (kM_start_192 C hQ _ hk_57 _ _ _ _ _ _ _ h) (And.intro rfl (And.intro rfl (And.intro rfl (And.intro rfl (And.intro rfl (And.intro rfl (And.intro rfl (trivial))))))))
  · have h := h.2 q
    refine g_iload C dX11_start_108 rfl ?_
    refine g_aload_0 C dX11_start_110 rfl ?_
    refine g_iload C dX11_start_111 rfl ?_
    refine g_aload_0 C dX11_start_113 rfl ?_
    refine fgM_X11_43 C dX11_start_114 ?_
    refine g_iload_2 C dX11_start_117 rfl ?_
    obtain ⟨q, h⟩ := h
    refine alM_15 C q dX11_start_118 ?_
    refine g_aload_0 C dX11_start_119 rfl ?_
    refine fgM_X11_46 C dX11_start_120 ?_
    refine g_iload_2 C dX11_start_123 rfl ?_
    obtain ⟨q, h⟩ := h
    refine alM_16 C q dX11_start_124 ?_
    refine g_aload_0 C dX11_start_125 rfl ?_
    refine fgM_X11_49 C dX11_start_126 ?_
    refine g_iload_2 C dX11_start_129 rfl ?_
    obtain ⟨q, h⟩ := h
    refine alM_17 C q dX11_start_130 ?_
    refine csM_X11_142 C h ⟨Nat.le_of_ble_eq_true rfl, Nat.le_of_ble_eq_true rfl⟩ (Nat.le_of_ble_eq_true rfl) dX11_start_131 (fun _ _ h => ?_)
    refine g_iadd C dX11_start_134 ?_
    refine g_istore C dX11_start_135 (Nat.le_of_ble_eq_true rfl) ?_
    refine g_aload_0 C dX11_start_137 rfl ?_
    refine fgM_X11_22 C dX11_start_138 ?_
    refine g_iload C dX11_start_141 rfl ?_
    refine g_aload_0 C dX11_start_143 rfl ?_
    refine fgM_X11_22 C dX11_start_144 ?_
    refine g_iload C dX11_start_147 rfl ?_
    obtain ⟨q, h⟩ := h
    refine alM_7 C q dX11_start_149 ?_
    refine g_iconst_1 C dX11_start_150 ?_
    refine g_iadd C dX11_start_151 ?_
    refine g_aload_0 C dX11_start_152 rfl ?_
    refine fgM_X11_43 C dX11_start_153 ?_
    refine g_iload_2 C dX11_start_156 rfl ?_
    obtain ⟨q, h⟩ := h
    refine alM_15 C q dX11_start_157 ?_
    refine g_bipush C (v := 64) (by decide) dX11_start_158 ?_
    refine g_idiv C (by decide) dX11_start_160 ?_
    refine g_iadd C dX11_start_161 ?_
    refine g_iconst_0 C dX11_start_162 ?_
    refine g_bipush C (v := 100) (by decide) dX11_start_163 ?_
    refine csM_X11_131 C h ⟨Nat.le_of_ble_eq_true rfl, Nat.le_of_ble_eq_true rfl⟩ (Nat.le_of_ble_eq_true rfl) dX11_start_165 (fun _ _ h => ?_)
    obtain ⟨q, h⟩ := h
    refine asM_7 C q dX11_start_168 ?_
    refine g_aload_0 C dX11_start_169 rfl ?_
    refine fgM_X11_19 C dX11_start_170 ?_
    refine g_iload C dX11_start_173 rfl ?_
    refine g_aload_0 C dX11_start_175 rfl ?_
    refine fgM_X11_19 C dX11_start_176 ?_
    refine g_iload C dX11_start_179 rfl ?_
    obtain ⟨q, h⟩ := h
    refine alM_6 C q dX11_start_181 ?_
    refine g_iconst_2 C dX11_start_182 ?_
    refine g_isub C dX11_start_183 ?_
    refine g_iconst_0 C dX11_start_184 ?_
    refine g_sipush C (v := 1000) (by decide) dX11_start_185 ?_
    refine csM_X11_131 C h ⟨Nat.le_of_ble_eq_true rfl, Nat.le_of_ble_eq_true rfl⟩ (Nat.le_of_ble_eq_true rfl) dX11_start_188 (fun _ _ h => ?_)
    obtain ⟨q, h⟩ := h
    refine asM_6 C q dX11_start_191 ?_
    exact g_wk (kM_start_192 C hQ _ hk_57 _ _ _ _ _ _ _ h) (And.intro rfl (And.intro rfl (And.intro rfl (And.intro rfl (And.intro rfl (And.intro rfl (And.intro rfl (trivial))))))))
def wpBM_start_57 (k_57 : Int32 → Int32 → Int32 → Int32 → Int32 → Int32 → St → Prop) (x1 x2 x3 x4 x5 x6 : Int32) (σ : St) (post : Int32 → St → Prop) : Prop := (((σ.1 1) < x6 → let y1 : Int32 := ((σ.1 2) - 1); wpM_start_206 x1 x3 y1 σ post) ∧ (¬ (σ.1 1) < x6 → (((σ.1 2) ≤ x5 → wpM_start_99 k_57 x1 x2 x3 x4 x5 x6 σ post) ∧ (¬ (σ.1 2) ≤ x5 → vp_in x5 6 ∧ (((¬ (σ.2 8 (Int32.toNatClampNeg x5)) = x6 → wpM_start_99 k_57 x1 x2 x3 x4 x5 x6 σ post) ∧ ((σ.2 8 (Int32.toNatClampNeg x5)) = x6 → wpM_passes x3 x5 x4 σ (fun σ2 => let y3 : Int32 := x5 + 1; wpM_start_99 k_57 x1 x2 x3 x4 y3 x6 σ2 post))))))))
def wpM_start_57 (x1 x2 x3 x4 x5 x6 : Int32) (σ : St) (post : Int32 → St → Prop) : Prop := ∃ n : Nat, lpN (α := Int32 × Int32 × Int32 × Int32 × Int32 × Int32 × St) (fun kb t => wpBM_start_57 (fun x1 x2 x3 x4 x5 x6 σ => kb (x1, x2, x3, x4, x5, x6, σ)) t.1 t.2.1 t.2.2.1 t.2.2.2.1 t.2.2.2.2.1 t.2.2.2.2.2.1 t.2.2.2.2.2.2 post) n (x1, x2, x3, x4, x5, x6, σ)
theorem kBM_start_57 {X : Kx} {l : Launch} {E : Ev} {a : Nat → Nat} {post : Int32 → St → Prop} (C : Cx X l E RX11 cX11_start rmM_start (some .int)) (hQ : QI X (wM E a) post) (k_57 : Int32 → Int32 → Int32 → Int32 → Int32 → Int32 → St → Prop) (hk_57 : ∀ (x1 x2 x3 x4 x5 x6 : Int32) (σ : St), k_57 x1 x2 x3 x4 x5 x6 σ → G X (wM E a) σ 57 [some (.ref (a 0)), some (.int x1), some (.int x2), some (.int x3), some (.int x4), some (.int x5), some (.int x6)] []) (x1 x2 x3 x4 x5 x6 : Int32) (σ : St) (h : wpBM_start_57 k_57 x1 x2 x3 x4 x5 x6 σ post) : G X (wM E a) σ 57 [some (.ref (a 0)), some (.int x1), some (.int x2), some (.int x3), some (.int x4), some (.int x5), some (.int x6)] [] := by
  unfold wpBM_start_57 at h
  refine g_iload C dX11_start_57 rfl ?_
  refine g_aload_0 C dX11_start_59 rfl ?_
  refine fgM_X11_117 C dX11_start_60 ?_
  refine g_icmp_gt C 198 dX11_start_63 (by decide) (fun q => ?_) (fun q => ?_)
  · have h := h.1 q
    refine g_aload_0 C dX11_start_198 rfl ?_
    refine fgM_X11_120 C dX11_start_199 ?_
    refine g_iconst_1 C dX11_start_202 ?_
    refine g_isub C dX11_start_203 ?_
    refine g_istore C dX11_start_204 (Nat.le_of_ble_eq_true rfl) ?_
    exact g_wk (kM_start_206 C hQ _ _ _ _ h) (And.intro rfl (And.intro rfl (And.intro rfl (And.intro rfl (trivial)))))
  · have h := h.2 q
    refine g_iload C dX11_start_66 rfl ?_
    refine g_aload_0 C dX11_start_68 rfl ?_
    refine fgM_X11_120 C dX11_start_69 ?_
    refine g_icmp_ge C 99 dX11_start_72 (by decide) (fun q => ?_) (fun q => ?_)
    · have h := h.1 q
      exact g_wk (kM_start_99 C hQ _ hk_57 _ _ _ _ _ _ _ h) (And.intro rfl (And.intro rfl (And.intro rfl (And.intro rfl (And.intro rfl (And.intro rfl (And.intro rfl (trivial))))))))
    · have h := h.2 q
      refine g_aload_0 C dX11_start_75 rfl ?_
      refine fgM_X11_25 C dX11_start_76 ?_
      refine g_iload C dX11_start_79 rfl ?_
      obtain ⟨q, h⟩ := h
      refine alM_8 C q dX11_start_81 ?_
      refine g_iload C dX11_start_82 rfl ?_
      refine g_icmp_ne C 99 dX11_start_84 (by decide) (fun q => ?_) (fun q => ?_)
      · have h := h.1 q
        exact g_wk (kM_start_99 C hQ _ hk_57 _ _ _ _ _ _ _ h) (And.intro rfl (And.intro rfl (And.intro rfl (And.intro rfl (And.intro rfl (And.intro rfl (And.intro rfl (trivial))))))))
      · have h := h.2 q
        refine g_aload_0 C dX11_start_87 rfl ?_
        refine g_iload_3 C dX11_start_88 rfl ?_
        refine g_iload C dX11_start_89 rfl ?_
        refine g_iload C dX11_start_91 rfl ?_
        refine csM_X11_241 C h ⟨Nat.le_of_ble_eq_true rfl, Nat.le_of_ble_eq_true rfl⟩ (Nat.le_of_ble_eq_true rfl) dX11_start_93 (fun _ h => ?_)
        refine g_iinc C (v := 1) (by decide) dX11_start_96 rfl ?_
        exact g_wk (kM_start_99 C hQ _ hk_57 _ _ _ _ _ _ _ h) (And.intro rfl (And.intro rfl (And.intro rfl (And.intro rfl (And.intro rfl (And.intro rfl (And.intro rfl (trivial))))))))
theorem kM_start_57 {X : Kx} {l : Launch} {E : Ev} {a : Nat → Nat} {post : Int32 → St → Prop} (C : Cx X l E RX11 cX11_start rmM_start (some .int)) (hQ : QI X (wM E a) post) (x1 x2 x3 x4 x5 x6 : Int32) (σ : St) (h : wpM_start_57  x1 x2 x3 x4 x5 x6 σ post) : G X (wM E a) σ 57 [some (.ref (a 0)), some (.int x1), some (.int x2), some (.int x3), some (.int x4), some (.int x5), some (.int x6)] [] := by
  obtain ⟨n, h⟩ := h
  exact g_loop (J := fun t : Int32 × Int32 × Int32 × Int32 × Int32 × Int32 × St => G X (wM E a) t.2.2.2.2.2.2 57 [some (.ref (a 0)), some (.int t.1), some (.int t.2.1), some (.int t.2.2.1), some (.int t.2.2.2.1), some (.int t.2.2.2.2.1), some (.int t.2.2.2.2.2.1)] []) (fun kb hkb t ht => kBM_start_57 C hQ  (fun x1 x2 x3 x4 x5 x6 σ => kb (x1, x2, x3, x4, x5, x6, σ)) (fun x1 x2 x3 x4 x5 x6 σ hh => hkb (x1, x2, x3, x4, x5, x6, σ) hh) t.1 t.2.1 t.2.2.1 t.2.2.2.1 t.2.2.2.2.1 t.2.2.2.2.2.1 t.2.2.2.2.2.2 ht) n (x1, x2, x3, x4, x5, x6, σ) h
def wpM_start (σ : St) (post : Int32 → St → Prop) : Prop := let σ1 : St := pI σ 0 0; wpM_isOn  σ1 (fun r3 σ2 => ((¬ r3 = 0 → let y4 : Int32 := ((σ2.1 27) - 1); vp_in (σ2.1 31) 16 ∧ (let y5 : Int32 := (σ2.2 29 (Int32.toNatClampNeg (σ2.1 31))); let y6 : Int32 := ((16 * y4) + y5); wpM_standard  σ2 (fun r8 σ7 => vp_in y6 64 ∧ (let σ9 : St := pA σ7 37 (Int32.toNatClampNeg y6) r8; wpM_start_57 y4 y5 y6 0 0 0 σ9 post)))) ∧ (r3 = 0 → post (-1) σ2)))
theorem kM_start {X : Kx} {l : Launch} {E : Ev} {a : Nat → Nat} {post : Int32 → St → Prop} (C : Cx X l E RX11 cX11_start rmM_start (some .int)) (hQ : QI X (wM E a) post) (σ : St) (h : wpM_start  σ post) : G X (wM E a) σ 0 [some (.ref (a 0)), none, none, none, none, none, none] [] := by
  unfold wpM_start at h
  refine g_aload_0 C dX11_start_0 rfl ?_
  refine g_iconst_0 C dX11_start_1 ?_
  refine fpM_X11_106 C dX11_start_2 ?_
  refine g_aload_0 C dX11_start_5 rfl ?_
  refine csM_X11_127 C h ⟨Nat.le_of_ble_eq_true rfl, Nat.le_of_ble_eq_true rfl⟩ (Nat.le_of_ble_eq_true rfl) dX11_start_6 (fun _ _ h => ?_)
  refine g_if_ne C 14 dX11_start_9 (by decide) (fun q => ?_) (fun q => ?_)
  · have h := h.1 q
    refine g_aload_0 C dX11_start_14 rfl ?_
    refine fgM_X11_212 C dX11_start_15 ?_
    refine g_iconst_1 C dX11_start_18 ?_
    refine g_isub C dX11_start_19 ?_
    refine g_istore_1 C dX11_start_20 (Nat.le_of_ble_eq_true rfl) ?_
    refine g_aload_0 C dX11_start_21 rfl ?_
    refine fgM_X11_72 C dX11_start_22 ?_
    refine g_aload_0 C dX11_start_25 rfl ?_
    refine fgM_X11_220 C dX11_start_26 ?_
    obtain ⟨q, h⟩ := h
    refine alM_29 C q dX11_start_29 ?_
    refine g_istore_2 C dX11_start_30 (Nat.le_of_ble_eq_true rfl) ?_
    refine g_bipush C (v := 16) (by decide) dX11_start_31 ?_
    refine g_iload_1 C dX11_start_33 rfl ?_
    refine g_imul C dX11_start_34 ?_
    refine g_iload_2 C dX11_start_35 rfl ?_
    refine g_iadd C dX11_start_36 ?_
    refine g_istore_3 C dX11_start_37 (Nat.le_of_ble_eq_true rfl) ?_
    refine g_aload_0 C dX11_start_38 rfl ?_
    refine fgM_X11_91 C dX11_start_39 ?_
    refine g_iload_3 C dX11_start_42 rfl ?_
    refine g_aload_0 C dX11_start_43 rfl ?_
    refine csM_X11_238 C h ⟨Nat.le_of_ble_eq_true rfl, Nat.le_of_ble_eq_true rfl⟩ (Nat.le_of_ble_eq_true rfl) dX11_start_44 (fun _ _ h => ?_)
    obtain ⟨q, h⟩ := h
    refine asM_37 C q dX11_start_47 ?_
    refine g_iconst_0 C dX11_start_48 ?_
    refine g_istore C dX11_start_49 (Nat.le_of_ble_eq_true rfl) ?_
    refine g_iconst_0 C dX11_start_51 ?_
    refine g_istore C dX11_start_52 (Nat.le_of_ble_eq_true rfl) ?_
    refine g_iconst_0 C dX11_start_54 ?_
    refine g_istore C dX11_start_55 (Nat.le_of_ble_eq_true rfl) ?_
    exact g_wk (kM_start_57 C hQ _ _ _ _ _ _ _ h) (And.intro rfl (And.intro rfl (And.intro rfl (And.intro rfl (And.intro rfl (And.intro rfl (And.intro rfl (trivial))))))))
  · have h := h.2 q
    refine g_iconst_m1 C dX11_start_12 ?_
    exact g_ireturn C hQ dX11_start_13 h
theorem cM_start {l : Launch} {E : Ev} {a : Nat → Nat} {σ : St} {post : Int32 → St → Prop} (h : wpM_start  σ post) : CI l E (wM E a) yX11_start cX11_start 7 .int rmM_start [.ref (a 0)] σ post := met_i (by decide) rfl (Nat.le_of_ble_eq_true rfl) rfl (fun X C hQ => kM_start C hQ _ h)
/-! IceRunModel.shut()I -/
abbrev rmM_shut : Room := { frames := 1, cells := 0, slots := 0, locals := 20 }
def wpM_shut (σ : St) (post : Int32 → St → Prop) : Prop := let σ1 : St := pI σ 0 0; wpM_isOn  σ1 (fun r3 σ2 => ((¬ r3 = 0 → vp_in ((σ2.1 27) - 1) 4 ∧ (let σ4 : St := pA σ2 28 (Int32.toNatClampNeg ((σ2.1 27) - 1)) 3; post (σ4.1 31) σ4)) ∧ (r3 = 0 → post (-1) σ2)))
theorem kM_shut {X : Kx} {l : Launch} {E : Ev} {a : Nat → Nat} {post : Int32 → St → Prop} (C : Cx X l E RX11 cX11_shut rmM_shut (some .int)) (hQ : QI X (wM E a) post) (σ : St) (h : wpM_shut  σ post) : G X (wM E a) σ 0 [some (.ref (a 0))] [] := by
  unfold wpM_shut at h
  refine g_aload_0 C dX11_shut_0 rfl ?_
  refine g_iconst_0 C dX11_shut_1 ?_
  refine fpM_X11_106 C dX11_shut_2 ?_
  refine g_aload_0 C dX11_shut_5 rfl ?_
  refine csM_X11_127 C h ⟨Nat.le_of_ble_eq_true rfl, Nat.le_of_ble_eq_true rfl⟩ (Nat.le_of_ble_eq_true rfl) dX11_shut_6 (fun _ _ h => ?_)
  refine g_if_ne C 14 dX11_shut_9 (by decide) (fun q => ?_) (fun q => ?_)
  · have h := h.1 q
    refine g_aload_0 C dX11_shut_14 rfl ?_
    refine fgM_X11_69 C dX11_shut_15 ?_
    refine g_aload_0 C dX11_shut_18 rfl ?_
    refine fgM_X11_212 C dX11_shut_19 ?_
    refine g_iconst_1 C dX11_shut_22 ?_
    refine g_isub C dX11_shut_23 ?_
    refine g_iconst_3 C dX11_shut_24 ?_
    obtain ⟨q, h⟩ := h
    refine asM_28 C q dX11_shut_25 ?_
    refine g_aload_0 C dX11_shut_26 rfl ?_
    refine fgM_X11_220 C dX11_shut_27 ?_
    exact g_ireturn C hQ dX11_shut_30 h
  · have h := h.2 q
    refine g_iconst_m1 C dX11_shut_12 ?_
    exact g_ireturn C hQ dX11_shut_13 h
theorem cM_shut {l : Launch} {E : Ev} {a : Nat → Nat} {σ : St} {post : Int32 → St → Prop} (h : wpM_shut  σ post) : CI l E (wM E a) yX11_shut cX11_shut 1 .int rmM_shut [.ref (a 0)] σ post := met_i (by decide) rfl (Nat.le_of_ble_eq_true rfl) rfl (fun X C hQ => kM_shut C hQ _ h)
/-! IceRunModel.touch(II)Z -/
abbrev rmM_touch : Room := { frames := 2, cells := 0, slots := 0, locals := 43 }
def wpM_touch_46 (σ : St) (post : Int32 → St → Prop) : Prop := post 0 σ
theorem kM_touch_46 {X : Kx} {l : Launch} {E : Ev} {a : Nat → Nat} {post : Int32 → St → Prop} (C : Cx X l E RX11 cX11_touch rmM_touch (some .boolean)) (hQ : QI X (wM E a) post) (σ : St) (h : wpM_touch_46   σ post) : G X (wM E a) σ 46 [none, none, none] [] := by
  unfold wpM_touch_46 at h
  refine g_iconst_0 C dX11_touch_46 ?_
  exact g_zreturn C hQ dX11_touch_47 (Or.inl rfl) h
def wpM_touch (x1 x2 : Int32) (σ : St) (post : Int32 → St → Prop) : Prop := let σ1 : St := pI σ 0 0; wpM_within x2 0 200 σ1 (fun r3 σ2 => ((r3 = 0 → wpM_touch_46 σ2 post) ∧ (¬ r3 = 0 → wpM_isEntered x1 σ2 (fun r5 σ4 => ((r5 = 0 → wpM_touch_46 σ4 post) ∧ (¬ r5 = 0 → vp_in 1 6 ∧ (((x2 ≤ (σ4.2 19 (Int32.toNatClampNeg 1)) → wpM_touch_46 σ4 post) ∧ (¬ x2 ≤ (σ4.2 19 (Int32.toNatClampNeg 1)) → wpM_isStruck x1 (σ4.1 39) σ4 (fun r7 σ6 => ((r7 = 0 → vp_in (σ6.1 39) 20 ∧ (let σ8 : St := pA σ6 38 (Int32.toNatClampNeg (σ6.1 39)) (10 + x1); let σ9 : St := pI σ8 39 ((σ8.1 39) + 1); post 1 σ9)) ∧ (¬ r7 = 0 → wpM_touch_46 σ6 post))))))))))))
theorem kM_touch {X : Kx} {l : Launch} {E : Ev} {a : Nat → Nat} {post : Int32 → St → Prop} (C : Cx X l E RX11 cX11_touch rmM_touch (some .boolean)) (hQ : QI X (wM E a) post) (x1 x2 : Int32) (σ : St) (h : wpM_touch x1 x2 σ post) : G X (wM E a) σ 0 [some (.ref (a 0)), some (.int x1), some (.int x2)] [] := by
  unfold wpM_touch at h
  refine g_aload_0 C dX11_touch_0 rfl ?_
  refine g_iconst_0 C dX11_touch_1 ?_
  refine fpM_X11_106 C dX11_touch_2 ?_
  refine g_iload_2 C dX11_touch_5 rfl ?_
  refine g_iconst_0 C dX11_touch_6 ?_
  refine g_sipush C (v := 200) (by decide) dX11_touch_7 ?_
  refine csM_X11_109 C h ⟨Nat.le_of_ble_eq_true rfl, Nat.le_of_ble_eq_true rfl⟩ (Nat.le_of_ble_eq_true rfl) dX11_touch_10 (fun _ _ h => ?_)
  refine g_if_eq C 46 dX11_touch_13 (by decide) (fun q => ?_) (fun q => ?_)
  · have h := h.1 q
    exact g_wk (kM_touch_46 C hQ _ h) (trivial)
  · have h := h.2 q
    refine g_aload_0 C dX11_touch_16 rfl ?_
    refine g_iload_1 C dX11_touch_17 rfl ?_
    refine csM_X11_246 C h ⟨Nat.le_of_ble_eq_true rfl, Nat.le_of_ble_eq_true rfl⟩ (Nat.le_of_ble_eq_true rfl) dX11_touch_18 (fun _ _ h => ?_)
    refine g_if_eq C 46 dX11_touch_21 (by decide) (fun q => ?_) (fun q => ?_)
    · have h := h.1 q
      exact g_wk (kM_touch_46 C hQ _ h) (trivial)
    · have h := h.2 q
      refine g_iload_2 C dX11_touch_24 rfl ?_
      refine g_aload_0 C dX11_touch_25 rfl ?_
      refine fgM_X11_55 C dX11_touch_26 ?_
      refine g_iconst_1 C dX11_touch_29 ?_
      obtain ⟨q, h⟩ := h
      refine alM_19 C q dX11_touch_30 ?_
      refine g_icmp_le C 46 dX11_touch_31 (by decide) (fun q => ?_) (fun q => ?_)
      · have h := h.1 q
        exact g_wk (kM_touch_46 C hQ _ h) (trivial)
      · have h := h.2 q
        refine g_aload_0 C dX11_touch_34 rfl ?_
        refine g_iload_1 C dX11_touch_35 rfl ?_
        refine g_aload_0 C dX11_touch_36 rfl ?_
        refine fgM_X11_223 C dX11_touch_37 ?_
        refine csM_X11_249 C h ⟨Nat.le_of_ble_eq_true rfl, Nat.le_of_ble_eq_true rfl⟩ (Nat.le_of_ble_eq_true rfl) dX11_touch_40 (fun _ _ h => ?_)
        refine g_if_eq C 48 dX11_touch_43 (by decide) (fun q => ?_) (fun q => ?_)
        · have h := h.1 q
          refine g_aload_0 C dX11_touch_48 rfl ?_
          refine fgM_X11_94 C dX11_touch_49 ?_
          refine g_aload_0 C dX11_touch_52 rfl ?_
          refine fgM_X11_223 C dX11_touch_53 ?_
          refine g_bipush C (v := 10) (by decide) dX11_touch_56 ?_
          refine g_iload_1 C dX11_touch_58 rfl ?_
          refine g_iadd C dX11_touch_59 ?_
          obtain ⟨q, h⟩ := h
          refine asM_38 C q dX11_touch_60 ?_
          refine g_aload_0 C dX11_touch_61 rfl ?_
          refine g_dup C dX11_touch_62 rfl ?_
          refine fgM_X11_223 C dX11_touch_63 ?_
          refine g_iconst_1 C dX11_touch_66 ?_
          refine g_iadd C dX11_touch_67 ?_
          refine fpM_X11_223 C dX11_touch_68 ?_
          refine g_iconst_1 C dX11_touch_71 ?_
          exact g_zreturn C hQ dX11_touch_72 (Or.inr rfl) h
        · have h := h.2 q
          exact g_wk (kM_touch_46 C hQ _ h) (trivial)
theorem cM_touch {l : Launch} {E : Ev} {a : Nat → Nat} {x1 x2 : Int32} {σ : St} {post : Int32 → St → Prop} (h : wpM_touch x1 x2 σ post) : CI l E (wM E a) yX11_touch cX11_touch 3 .boolean rmM_touch [.ref (a 0), .int x1, .int x2] σ post := met_i (by decide) rfl (Nat.le_of_ble_eq_true rfl) rfl (fun X C hQ => kM_touch C hQ _ _ _ h)
/-! IceRunModel.hasCome(II)Z -/
abbrev rmM_hasCome : Room := { frames := 1, cells := 0, slots := 0, locals := 22 }
def wpM_hasCome_74 (s0 : Int32) (σ : St) (post : Int32 → St → Prop) : Prop := (s0 = 0 ∨ s0 = 1) ∧ post s0 σ
theorem kM_hasCome_74 {X : Kx} {l : Launch} {E : Ev} {a : Nat → Nat} {post : Int32 → St → Prop} (C : Cx X l E RX11 cX11_hasCome rmM_hasCome (some .boolean)) (hQ : QI X (wM E a) post) (s0 : Int32) (σ : St) (h : wpM_hasCome_74  s0 σ post) : G X (wM E a) σ 74 [none, none, none] [.int s0] := by
  unfold wpM_hasCome_74 at h
  exact g_zreturn C hQ dX11_hasCome_74 h.1 h.2
def wpM_hasCome_73 (σ : St) (post : Int32 → St → Prop) : Prop := wpM_hasCome_74 0 σ post
theorem kM_hasCome_73 {X : Kx} {l : Launch} {E : Ev} {a : Nat → Nat} {post : Int32 → St → Prop} (C : Cx X l E RX11 cX11_hasCome rmM_hasCome (some .boolean)) (hQ : QI X (wM E a) post) (σ : St) (h : wpM_hasCome_73   σ post) : G X (wM E a) σ 73 [none, none, none] [] := by
  unfold wpM_hasCome_73 at h
  refine g_iconst_0 C dX11_hasCome_73 ?_
  exact g_wk (kM_hasCome_74 C hQ _ _ h) (trivial)
def wpM_hasCome_41 (x1 x2 : Int32) (σ : St) (post : Int32 → St → Prop) : Prop := wpM_within x2 0 ((σ.1 13) - 1) σ (fun r2 σ1 => ((r2 = 0 → wpM_hasCome_73 σ1 post) ∧ (¬ r2 = 0 → vp_in ((16 * x1) + x2) 64 ∧ ((((σ1.2 33 (Int32.toNatClampNeg ((16 * x1) + x2))) = 0 → wpM_hasCome_73 σ1 post) ∧ (¬ (σ1.2 33 (Int32.toNatClampNeg ((16 * x1) + x2))) = 0 → wpM_hasCome_74 1 σ1 post))))))
theorem kM_hasCome_41 {X : Kx} {l : Launch} {E : Ev} {a : Nat → Nat} {post : Int32 → St → Prop} (C : Cx X l E RX11 cX11_hasCome rmM_hasCome (some .boolean)) (hQ : QI X (wM E a) post) (x1 x2 : Int32) (σ : St) (h : wpM_hasCome_41  x1 x2 σ post) : G X (wM E a) σ 41 [some (.ref (a 0)), some (.int x1), some (.int x2)] [] := by
  unfold wpM_hasCome_41 at h
  refine g_iload_2 C dX11_hasCome_41 rfl ?_
  refine g_iconst_0 C dX11_hasCome_42 ?_
  refine g_aload_0 C dX11_hasCome_43 rfl ?_
  refine fgM_X11_139 C dX11_hasCome_44 ?_
  refine g_iconst_1 C dX11_hasCome_47 ?_
  refine g_isub C dX11_hasCome_48 ?_
  refine csM_X11_109 C h ⟨Nat.le_of_ble_eq_true rfl, Nat.le_of_ble_eq_true rfl⟩ (Nat.le_of_ble_eq_true rfl) dX11_hasCome_49 (fun _ _ h => ?_)
  refine g_if_eq C 73 dX11_hasCome_52 (by decide) (fun q => ?_) (fun q => ?_)
  · have h := h.1 q
    exact g_wk (kM_hasCome_73 C hQ _ h) (trivial)
  · have h := h.2 q
    refine g_aload_0 C dX11_hasCome_55 rfl ?_
    refine fgM_X11_79 C dX11_hasCome_56 ?_
    refine g_bipush C (v := 16) (by decide) dX11_hasCome_59 ?_
    refine g_iload_1 C dX11_hasCome_61 rfl ?_
    refine g_imul C dX11_hasCome_62 ?_
    refine g_iload_2 C dX11_hasCome_63 rfl ?_
    refine g_iadd C dX11_hasCome_64 ?_
    obtain ⟨q, h⟩ := h
    refine alM_33 C q dX11_hasCome_65 ?_
    refine g_if_eq C 73 dX11_hasCome_66 (by decide) (fun q => ?_) (fun q => ?_)
    · have h := h.1 q
      exact g_wk (kM_hasCome_73 C hQ _ h) (trivial)
    · have h := h.2 q
      refine g_iconst_1 C dX11_hasCome_69 ?_
      refine g_goto C 74 dX11_hasCome_70 (by decide) ?_
      exact g_wk (kM_hasCome_74 C hQ _ _ h) (trivial)
def wpM_hasCome (x1 x2 : Int32) (σ : St) (post : Int32 → St → Prop) : Prop := (((σ.1 26) = 0 → wpM_hasCome_73 σ post) ∧ (¬ (σ.1 26) = 0 → wpM_within x1 0 ((σ.1 27) - 1) σ (fun r2 σ1 => ((r2 = 0 → wpM_hasCome_73 σ1 post) ∧ (¬ r2 = 0 → vp_in x1 4 ∧ ((((σ1.2 28 (Int32.toNatClampNeg x1)) = 1 → wpM_hasCome_41 x1 x2 σ1 post) ∧ (¬ (σ1.2 28 (Int32.toNatClampNeg x1)) = 1 → vp_in x1 4 ∧ (((¬ (σ1.2 28 (Int32.toNatClampNeg x1)) = 2 → wpM_hasCome_73 σ1 post) ∧ ((σ1.2 28 (Int32.toNatClampNeg x1)) = 2 → wpM_hasCome_41 x1 x2 σ1 post)))))))))))
theorem kM_hasCome {X : Kx} {l : Launch} {E : Ev} {a : Nat → Nat} {post : Int32 → St → Prop} (C : Cx X l E RX11 cX11_hasCome rmM_hasCome (some .boolean)) (hQ : QI X (wM E a) post) (x1 x2 : Int32) (σ : St) (h : wpM_hasCome x1 x2 σ post) : G X (wM E a) σ 0 [some (.ref (a 0)), some (.int x1), some (.int x2)] [] := by
  unfold wpM_hasCome at h
  refine g_aload_0 C dX11_hasCome_0 rfl ?_
  refine fgM_X11_113 C dX11_hasCome_1 ?_
  refine g_if_eq C 73 dX11_hasCome_4 (by decide) (fun q => ?_) (fun q => ?_)
  · have h := h.1 q
    exact g_wk (kM_hasCome_73 C hQ _ h) (trivial)
  · have h := h.2 q
    refine g_iload_1 C dX11_hasCome_7 rfl ?_
    refine g_iconst_0 C dX11_hasCome_8 ?_
    refine g_aload_0 C dX11_hasCome_9 rfl ?_
    refine fgM_X11_212 C dX11_hasCome_10 ?_
    refine g_iconst_1 C dX11_hasCome_13 ?_
    refine g_isub C dX11_hasCome_14 ?_
    refine csM_X11_109 C h ⟨Nat.le_of_ble_eq_true rfl, Nat.le_of_ble_eq_true rfl⟩ (Nat.le_of_ble_eq_true rfl) dX11_hasCome_15 (fun _ _ h => ?_)
    refine g_if_eq C 73 dX11_hasCome_18 (by decide) (fun q => ?_) (fun q => ?_)
    · have h := h.1 q
      exact g_wk (kM_hasCome_73 C hQ _ h) (trivial)
    · have h := h.2 q
      refine g_aload_0 C dX11_hasCome_21 rfl ?_
      refine fgM_X11_69 C dX11_hasCome_22 ?_
      refine g_iload_1 C dX11_hasCome_25 rfl ?_
      obtain ⟨q, h⟩ := h
      refine alM_28 C q dX11_hasCome_26 ?_
      refine g_iconst_1 C dX11_hasCome_27 ?_
      refine g_icmp_eq C 41 dX11_hasCome_28 (by decide) (fun q => ?_) (fun q => ?_)
      · have h := h.1 q
        exact g_wk (kM_hasCome_41 C hQ _ _ _ h) (And.intro rfl (And.intro rfl (And.intro rfl (trivial))))
      · have h := h.2 q
        refine g_aload_0 C dX11_hasCome_31 rfl ?_
        refine fgM_X11_69 C dX11_hasCome_32 ?_
        refine g_iload_1 C dX11_hasCome_35 rfl ?_
        obtain ⟨q, h⟩ := h
        refine alM_28 C q dX11_hasCome_36 ?_
        refine g_iconst_2 C dX11_hasCome_37 ?_
        refine g_icmp_ne C 73 dX11_hasCome_38 (by decide) (fun q => ?_) (fun q => ?_)
        · have h := h.1 q
          exact g_wk (kM_hasCome_73 C hQ _ h) (trivial)
        · have h := h.2 q
          exact g_wk (kM_hasCome_41 C hQ _ _ _ h) (And.intro rfl (And.intro rfl (And.intro rfl (trivial))))
theorem cM_hasCome {l : Launch} {E : Ev} {a : Nat → Nat} {x1 x2 : Int32} {σ : St} {post : Int32 → St → Prop} (h : wpM_hasCome x1 x2 σ post) : CI l E (wM E a) yX11_hasCome cX11_hasCome 3 .boolean rmM_hasCome [.ref (a 0), .int x1, .int x2] σ post := met_i (by decide) rfl (Nat.le_of_ble_eq_true rfl) rfl (fun X C hQ => kM_hasCome C hQ _ _ _ h)
theorem csM_X11_253 {X : Kx} {l : Launch} {E : Ev} {a : Nat → Nat} {σ : St} {cc : ByteArray} {rm : Room} {ret : Option FieldType} {pc : Nat} {lv : List (Option Value)} {rest : List Value} {x0 x1 : Int32} {post : Int32 → St → Prop} (C : Cx X l E RX11 cc rm ret) (h : wpM_hasCome x0 x1 σ post) (hR : 1 + 1 ≤ rm.frames ∧ 8 + (3 + 11) + 22 ≤ rm.locals) (hW : (rest.map fun v => v.category).sum ≤ 8) (d : decode cc pc = .ok (.invokevirtual 253, 3)) (k : ∀ (r : Int32) (u : St), post r u → G X (wM E a) u (pc + 3) lv (.int r :: rest)) : G X (wM E a) σ pc lv (.int x1 :: .int x0 :: .ref (a 0) :: rest) := g_callVi C 2 (As := [.int x0, .int x1]) (rest := rest) (Cn := RX11) (T := TX11) (N := 42) (q0 := 0) (ci := 10) (by decide +kernel) (by decide +kernel) (by decide +kernel) (by decide +kernel) (by decide +kernel) (by decide +kernel) rfl rfl (cM_hasCome h) ⟨rfl, rfl⟩ hR rfl rfl hW d k
/-! IceRunModel.time(III)I -/
abbrev rmM_time : Room := { frames := 2, cells := 0, slots := 0, locals := 44 }
def wpM_time_28 (σ : St) (post : Int32 → St → Prop) : Prop := post (-1) σ
theorem kM_time_28 {X : Kx} {l : Launch} {E : Ev} {a : Nat → Nat} {post : Int32 → St → Prop} (C : Cx X l E RX11 cX11_time rmM_time (some .int)) (hQ : QI X (wM E a) post) (σ : St) (h : wpM_time_28   σ post) : G X (wM E a) σ 28 [none, none, none, none, none] [] := by
  unfold wpM_time_28 at h
  refine g_iconst_m1 C dX11_time_28 ?_
  exact g_ireturn C hQ dX11_time_29 h
def wpM_time_61 (s0 : Int32) (σ : St) (post : Int32 → St → Prop) : Prop := post s0 σ
theorem kM_time_61 {X : Kx} {l : Launch} {E : Ev} {a : Nat → Nat} {post : Int32 → St → Prop} (C : Cx X l E RX11 cX11_time rmM_time (some .int)) (hQ : QI X (wM E a) post) (s0 : Int32) (σ : St) (h : wpM_time_61  s0 σ post) : G X (wM E a) σ 61 [none, none, none, none, none] [.int s0] := by
  unfold wpM_time_61 at h
  exact g_ireturn C hQ dX11_time_61 h
def wpM_time (x1 x2 x3 : Int32) (σ : St) (post : Int32 → St → Prop) : Prop := let σ1 : St := pI σ 0 0; wpM_hasCome x1 x2 σ1 (fun r3 σ2 => ((r3 = 0 → wpM_time_28 σ2 post) ∧ (¬ r3 = 0 → wpM_within x3 0 ((σ2.1 2) - 1) σ2 (fun r5 σ4 => ((¬ r5 = 0 → vp_in ((6 * ((16 * x1) + x2)) + x3) 384 ∧ (let y6 : Int32 := (σ4.2 34 (Int32.toNatClampNeg ((6 * ((16 * x1) + x2)) + x3))); ((¬ y6 = (-1000000) → wpM_time_61 y6 σ4 post) ∧ (y6 = (-1000000) → wpM_time_61 (-1) σ4 post)))) ∧ (r5 = 0 → wpM_time_28 σ4 post))))))
theorem kM_time {X : Kx} {l : Launch} {E : Ev} {a : Nat → Nat} {post : Int32 → St → Prop} (C : Cx X l E RX11 cX11_time rmM_time (some .int)) (hQ : QI X (wM E a) post) (x1 x2 x3 : Int32) (σ : St) (h : wpM_time x1 x2 x3 σ post) : G X (wM E a) σ 0 [some (.ref (a 0)), some (.int x1), some (.int x2), some (.int x3), none] [] := by
  unfold wpM_time at h
  refine g_aload_0 C dX11_time_0 rfl ?_
  refine g_iconst_0 C dX11_time_1 ?_
  refine fpM_X11_106 C dX11_time_2 ?_
  refine g_aload_0 C dX11_time_5 rfl ?_
  refine g_iload_1 C dX11_time_6 rfl ?_
  refine g_iload_2 C dX11_time_7 rfl ?_
  refine csM_X11_253 C h ⟨Nat.le_of_ble_eq_true rfl, Nat.le_of_ble_eq_true rfl⟩ (Nat.le_of_ble_eq_true rfl) dX11_time_8 (fun _ _ h => ?_)
  refine g_if_eq C 28 dX11_time_11 (by decide) (fun q => ?_) (fun q => ?_)
  · have h := h.1 q
    exact g_wk (kM_time_28 C hQ _ h) (trivial)
  · have h := h.2 q
    refine g_iload_3 C dX11_time_14 rfl ?_
    refine g_iconst_0 C dX11_time_15 ?_
    refine g_aload_0 C dX11_time_16 rfl ?_
    refine fgM_X11_120 C dX11_time_17 ?_
    refine g_iconst_1 C dX11_time_20 ?_
    refine g_isub C dX11_time_21 ?_
    refine csM_X11_109 C h ⟨Nat.le_of_ble_eq_true rfl, Nat.le_of_ble_eq_true rfl⟩ (Nat.le_of_ble_eq_true rfl) dX11_time_22 (fun _ _ h => ?_)
    refine g_if_ne C 30 dX11_time_25 (by decide) (fun q => ?_) (fun q => ?_)
    · have h := h.1 q
      refine g_aload_0 C dX11_time_30 rfl ?_
      refine fgM_X11_82 C dX11_time_31 ?_
      refine g_bipush C (v := 6) (by decide) dX11_time_34 ?_
      refine g_bipush C (v := 16) (by decide) dX11_time_36 ?_
      refine g_iload_1 C dX11_time_38 rfl ?_
      refine g_imul C dX11_time_39 ?_
      refine g_iload_2 C dX11_time_40 rfl ?_
      refine g_iadd C dX11_time_41 ?_
      refine g_imul C dX11_time_42 ?_
      refine g_iload_3 C dX11_time_43 rfl ?_
      refine g_iadd C dX11_time_44 ?_
      obtain ⟨q, h⟩ := h
      refine alM_34 C q dX11_time_45 ?_
      refine g_istore C dX11_time_46 (Nat.le_of_ble_eq_true rfl) ?_
      refine g_iload C dX11_time_48 rfl ?_
      refine g_ldc C lc_X11_245 dX11_time_50 ?_
      refine g_icmp_ne C 59 dX11_time_52 (by decide) (fun q => ?_) (fun q => ?_)
      · have h := h.1 q
        refine g_iload C dX11_time_59 rfl ?_
        exact g_wk (kM_time_61 C hQ _ _ h) (trivial)
      · have h := h.2 q
        refine g_iconst_m1 C dX11_time_55 ?_
        refine g_goto C 61 dX11_time_56 (by decide) ?_
        exact g_wk (kM_time_61 C hQ _ _ h) (trivial)
    · have h := h.2 q
      exact g_wk (kM_time_28 C hQ _ h) (trivial)
theorem cM_time {l : Launch} {E : Ev} {a : Nat → Nat} {x1 x2 x3 : Int32} {σ : St} {post : Int32 → St → Prop} (h : wpM_time x1 x2 x3 σ post) : CI l E (wM E a) yX11_time cX11_time 5 .int rmM_time [.ref (a 0), .int x1, .int x2, .int x3] σ post := met_i (by decide) rfl (Nat.le_of_ble_eq_true rfl) rfl (fun X C hQ => kM_time C hQ _ _ _ _ h)
theorem alM_35 {X : Kx} {l : Launch} {E : Ev} {a : Nat → Nat} {σ : St} {cc : ByteArray} {rm : Room} {ret : Option FieldType} {pc : Nat} {lv : List (Option Value)} {st : List Value} {own : String} {i : Int32} (C : Cx X l E own cc rm ret) (hin : vp_in i 384) (d : decode cc pc = .ok (.iaload, 1)) (k : G X (wM E a) σ (pc + 1) lv (.int (σ.2 35 i.toNatClampNeg) :: st)) : G X (wM E a) σ pc lv (.int i :: .ref (a 36) :: st) := g_iald C (q0 := 24) rfl hin d k
/-! IceRunModel.twice(III)I -/
abbrev rmM_twice : Room := { frames := 2, cells := 0, slots := 0, locals := 44 }
def wpM_twice_48 (s0 : Int32) (σ : St) (post : Int32 → St → Prop) : Prop := post s0 σ
theorem kM_twice_48 {X : Kx} {l : Launch} {E : Ev} {a : Nat → Nat} {post : Int32 → St → Prop} (C : Cx X l E RX11 cX11_twice rmM_twice (some .int)) (hQ : QI X (wM E a) post) (s0 : Int32) (σ : St) (h : wpM_twice_48  s0 σ post) : G X (wM E a) σ 48 [none, none, none, none] [.int s0] := by
  unfold wpM_twice_48 at h
  exact g_ireturn C hQ dX11_twice_48 h
def wpM_twice_47 (σ : St) (post : Int32 → St → Prop) : Prop := wpM_twice_48 (-1) σ post
theorem kM_twice_47 {X : Kx} {l : Launch} {E : Ev} {a : Nat → Nat} {post : Int32 → St → Prop} (C : Cx X l E RX11 cX11_twice rmM_twice (some .int)) (hQ : QI X (wM E a) post) (σ : St) (h : wpM_twice_47   σ post) : G X (wM E a) σ 47 [none, none, none, none] [] := by
  unfold wpM_twice_47 at h
  refine g_iconst_m1 C dX11_twice_47 ?_
  exact g_wk (kM_twice_48 C hQ _ _ h) (trivial)
def wpM_twice (x1 x2 x3 : Int32) (σ : St) (post : Int32 → St → Prop) : Prop := let σ1 : St := pI σ 0 0; wpM_hasCome x1 x2 σ1 (fun r3 σ2 => ((r3 = 0 → wpM_twice_47 σ2 post) ∧ (¬ r3 = 0 → wpM_within x3 0 ((σ2.1 2) - 1) σ2 (fun r5 σ4 => ((r5 = 0 → wpM_twice_47 σ4 post) ∧ (¬ r5 = 0 → vp_in ((6 * ((16 * x1) + x2)) + x3) 384 ∧ (wpM_twice_48 (σ4.2 35 (Int32.toNatClampNeg ((6 * ((16 * x1) + x2)) + x3))) σ4 post)))))))
theorem kM_twice {X : Kx} {l : Launch} {E : Ev} {a : Nat → Nat} {post : Int32 → St → Prop} (C : Cx X l E RX11 cX11_twice rmM_twice (some .int)) (hQ : QI X (wM E a) post) (x1 x2 x3 : Int32) (σ : St) (h : wpM_twice x1 x2 x3 σ post) : G X (wM E a) σ 0 [some (.ref (a 0)), some (.int x1), some (.int x2), some (.int x3)] [] := by
  unfold wpM_twice at h
  refine g_aload_0 C dX11_twice_0 rfl ?_
  refine g_iconst_0 C dX11_twice_1 ?_
  refine fpM_X11_106 C dX11_twice_2 ?_
  refine g_aload_0 C dX11_twice_5 rfl ?_
  refine g_iload_1 C dX11_twice_6 rfl ?_
  refine g_iload_2 C dX11_twice_7 rfl ?_
  refine csM_X11_253 C h ⟨Nat.le_of_ble_eq_true rfl, Nat.le_of_ble_eq_true rfl⟩ (Nat.le_of_ble_eq_true rfl) dX11_twice_8 (fun _ _ h => ?_)
  refine g_if_eq C 47 dX11_twice_11 (by decide) (fun q => ?_) (fun q => ?_)
  · have h := h.1 q
    exact g_wk (kM_twice_47 C hQ _ h) (trivial)
  · have h := h.2 q
    refine g_iload_3 C dX11_twice_14 rfl ?_
    refine g_iconst_0 C dX11_twice_15 ?_
    refine g_aload_0 C dX11_twice_16 rfl ?_
    refine fgM_X11_120 C dX11_twice_17 ?_
    refine g_iconst_1 C dX11_twice_20 ?_
    refine g_isub C dX11_twice_21 ?_
    refine csM_X11_109 C h ⟨Nat.le_of_ble_eq_true rfl, Nat.le_of_ble_eq_true rfl⟩ (Nat.le_of_ble_eq_true rfl) dX11_twice_22 (fun _ _ h => ?_)
    refine g_if_eq C 47 dX11_twice_25 (by decide) (fun q => ?_) (fun q => ?_)
    · have h := h.1 q
      exact g_wk (kM_twice_47 C hQ _ h) (trivial)
    · have h := h.2 q
      refine g_aload_0 C dX11_twice_28 rfl ?_
      refine fgM_X11_85 C dX11_twice_29 ?_
      refine g_bipush C (v := 6) (by decide) dX11_twice_32 ?_
      refine g_bipush C (v := 16) (by decide) dX11_twice_34 ?_
      refine g_iload_1 C dX11_twice_36 rfl ?_
      refine g_imul C dX11_twice_37 ?_
      refine g_iload_2 C dX11_twice_38 rfl ?_
      refine g_iadd C dX11_twice_39 ?_
      refine g_imul C dX11_twice_40 ?_
      refine g_iload_3 C dX11_twice_41 rfl ?_
      refine g_iadd C dX11_twice_42 ?_
      obtain ⟨q, h⟩ := h
      refine alM_35 C q dX11_twice_43 ?_
      refine g_goto C 48 dX11_twice_44 (by decide) ?_
      exact g_wk (kM_twice_48 C hQ _ _ h) (trivial)
theorem cM_twice {l : Launch} {E : Ev} {a : Nat → Nat} {x1 x2 x3 : Int32} {σ : St} {post : Int32 → St → Prop} (h : wpM_twice x1 x2 x3 σ post) : CI l E (wM E a) yX11_twice cX11_twice 4 .int rmM_twice [.ref (a 0), .int x1, .int x2, .int x3] σ post := met_i (by decide) rfl (Nat.le_of_ble_eq_true rfl) rfl (fun X C hQ => kM_twice C hQ _ _ _ _ h)
/-! IceRunModel.sum(II)I -/
abbrev rmM_sum : Room := { frames := 3, cells := 0, slots := 0, locals := 69 }
def wpM_sum_43 (s0 : Int32) (σ : St) (post : Int32 → St → Prop) : Prop := post s0 σ
theorem kM_sum_43 {X : Kx} {l : Launch} {E : Ev} {a : Nat → Nat} {post : Int32 → St → Prop} (C : Cx X l E RX11 cX11_sum rmM_sum (some .int)) (hQ : QI X (wM E a) post) (s0 : Int32) (σ : St) (h : wpM_sum_43  s0 σ post) : G X (wM E a) σ 43 [none, none, none] [.int s0] := by
  unfold wpM_sum_43 at h
  exact g_ireturn C hQ dX11_sum_43 h
def wpM_sum_42 (σ : St) (post : Int32 → St → Prop) : Prop := wpM_sum_43 (-1) σ post
theorem kM_sum_42 {X : Kx} {l : Launch} {E : Ev} {a : Nat → Nat} {post : Int32 → St → Prop} (C : Cx X l E RX11 cX11_sum rmM_sum (some .int)) (hQ : QI X (wM E a) post) (σ : St) (h : wpM_sum_42   σ post) : G X (wM E a) σ 42 [none, none, none] [] := by
  unfold wpM_sum_42 at h
  refine g_iconst_m1 C dX11_sum_42 ?_
  exact g_wk (kM_sum_43 C hQ _ _ h) (trivial)
def wpM_sum (x1 x2 : Int32) (σ : St) (post : Int32 → St → Prop) : Prop := let σ1 : St := pI σ 0 0; (((σ1.1 26) = 0 → wpM_sum_42 σ1 post) ∧ (¬ (σ1.1 26) = 0 → wpM_within x2 0 (σ1.1 39) σ1 (fun r3 σ2 => ((r3 = 0 → wpM_sum_42 σ2 post) ∧ (¬ r3 = 0 → wpM_isRanked x1 x2 σ2 (fun r5 σ4 => ((r5 = 0 → wpM_sum_42 σ4 post) ∧ (¬ r5 = 0 → wpM_sumOf x1 x2 σ4 (fun r7 σ6 => wpM_sum_43 r7 σ6 post)))))))))
theorem kM_sum {X : Kx} {l : Launch} {E : Ev} {a : Nat → Nat} {post : Int32 → St → Prop} (C : Cx X l E RX11 cX11_sum rmM_sum (some .int)) (hQ : QI X (wM E a) post) (x1 x2 : Int32) (σ : St) (h : wpM_sum x1 x2 σ post) : G X (wM E a) σ 0 [some (.ref (a 0)), some (.int x1), some (.int x2)] [] := by
  unfold wpM_sum at h
  refine g_aload_0 C dX11_sum_0 rfl ?_
  refine g_iconst_0 C dX11_sum_1 ?_
  refine fpM_X11_106 C dX11_sum_2 ?_
  refine g_aload_0 C dX11_sum_5 rfl ?_
  refine fgM_X11_113 C dX11_sum_6 ?_
  refine g_if_eq C 42 dX11_sum_9 (by decide) (fun q => ?_) (fun q => ?_)
  · have h := h.1 q
    exact g_wk (kM_sum_42 C hQ _ h) (trivial)
  · have h := h.2 q
    refine g_iload_2 C dX11_sum_12 rfl ?_
    refine g_iconst_0 C dX11_sum_13 ?_
    refine g_aload_0 C dX11_sum_14 rfl ?_
    refine fgM_X11_223 C dX11_sum_15 ?_
    refine csM_X11_109 C h ⟨Nat.le_of_ble_eq_true rfl, Nat.le_of_ble_eq_true rfl⟩ (Nat.le_of_ble_eq_true rfl) dX11_sum_18 (fun _ _ h => ?_)
    refine g_if_eq C 42 dX11_sum_21 (by decide) (fun q => ?_) (fun q => ?_)
    · have h := h.1 q
      exact g_wk (kM_sum_42 C hQ _ h) (trivial)
    · have h := h.2 q
      refine g_aload_0 C dX11_sum_24 rfl ?_
      refine g_iload_1 C dX11_sum_25 rfl ?_
      refine g_iload_2 C dX11_sum_26 rfl ?_
      refine csM_X11_256 C h ⟨Nat.le_of_ble_eq_true rfl, Nat.le_of_ble_eq_true rfl⟩ (Nat.le_of_ble_eq_true rfl) dX11_sum_27 (fun _ _ h => ?_)
      refine g_if_eq C 42 dX11_sum_30 (by decide) (fun q => ?_) (fun q => ?_)
      · have h := h.1 q
        exact g_wk (kM_sum_42 C hQ _ h) (trivial)
      · have h := h.2 q
        refine g_aload_0 C dX11_sum_33 rfl ?_
        refine g_iload_1 C dX11_sum_34 rfl ?_
        refine g_iload_2 C dX11_sum_35 rfl ?_
        refine csM_X11_259 C h ⟨Nat.le_of_ble_eq_true rfl, Nat.le_of_ble_eq_true rfl⟩ (Nat.le_of_ble_eq_true rfl) dX11_sum_36 (fun _ _ h => ?_)
        refine g_goto C 43 dX11_sum_39 (by decide) ?_
        exact g_wk (kM_sum_43 C hQ _ _ h) (trivial)
theorem cM_sum {l : Launch} {E : Ev} {a : Nat → Nat} {x1 x2 : Int32} {σ : St} {post : Int32 → St → Prop} (h : wpM_sum x1 x2 σ post) : CI l E (wM E a) yX11_sum cX11_sum 3 .int rmM_sum [.ref (a 0), .int x1, .int x2] σ post := met_i (by decide) rfl (Nat.le_of_ble_eq_true rfl) rfl (fun X C hQ => kM_sum C hQ _ _ _ h)
/-! IceRunModel.rank(II)I -/
abbrev rmM_rank : Room := { frames := 4, cells := 0, slots := 0, locals := 93 }
def wpM_rank_34 (s0 : Int32) (σ : St) (post : Int32 → St → Prop) : Prop := post s0 σ
theorem kM_rank_34 {X : Kx} {l : Launch} {E : Ev} {a : Nat → Nat} {post : Int32 → St → Prop} (C : Cx X l E RX11 cX11_rank rmM_rank (some .int)) (hQ : QI X (wM E a) post) (s0 : Int32) (σ : St) (h : wpM_rank_34  s0 σ post) : G X (wM E a) σ 34 [none, none, none] [.int s0] := by
  unfold wpM_rank_34 at h
  exact g_ireturn C hQ dX11_rank_34 h
def wpM_rank_33 (σ : St) (post : Int32 → St → Prop) : Prop := wpM_rank_34 (-1) σ post
theorem kM_rank_33 {X : Kx} {l : Launch} {E : Ev} {a : Nat → Nat} {post : Int32 → St → Prop} (C : Cx X l E RX11 cX11_rank rmM_rank (some .int)) (hQ : QI X (wM E a) post) (σ : St) (h : wpM_rank_33   σ post) : G X (wM E a) σ 33 [none, none, none] [] := by
  unfold wpM_rank_33 at h
  refine g_iconst_m1 C dX11_rank_33 ?_
  exact g_wk (kM_rank_34 C hQ _ _ h) (trivial)
def wpM_rank (x1 x2 : Int32) (σ : St) (post : Int32 → St → Prop) : Prop := let σ1 : St := pI σ 0 0; (((σ1.1 26) = 0 → wpM_rank_33 σ1 post) ∧ (¬ (σ1.1 26) = 0 → wpM_within x2 0 (σ1.1 39) σ1 (fun r3 σ2 => ((r3 = 0 → wpM_rank_33 σ2 post) ∧ (¬ r3 = 0 → wpM_rankOf x1 x2 σ2 (fun r5 σ4 => wpM_rank_34 r5 σ4 post))))))
theorem kM_rank {X : Kx} {l : Launch} {E : Ev} {a : Nat → Nat} {post : Int32 → St → Prop} (C : Cx X l E RX11 cX11_rank rmM_rank (some .int)) (hQ : QI X (wM E a) post) (x1 x2 : Int32) (σ : St) (h : wpM_rank x1 x2 σ post) : G X (wM E a) σ 0 [some (.ref (a 0)), some (.int x1), some (.int x2)] [] := by
  unfold wpM_rank at h
  refine g_aload_0 C dX11_rank_0 rfl ?_
  refine g_iconst_0 C dX11_rank_1 ?_
  refine fpM_X11_106 C dX11_rank_2 ?_
  refine g_aload_0 C dX11_rank_5 rfl ?_
  refine fgM_X11_113 C dX11_rank_6 ?_
  refine g_if_eq C 33 dX11_rank_9 (by decide) (fun q => ?_) (fun q => ?_)
  · have h := h.1 q
    exact g_wk (kM_rank_33 C hQ _ h) (trivial)
  · have h := h.2 q
    refine g_iload_2 C dX11_rank_12 rfl ?_
    refine g_iconst_0 C dX11_rank_13 ?_
    refine g_aload_0 C dX11_rank_14 rfl ?_
    refine fgM_X11_223 C dX11_rank_15 ?_
    refine csM_X11_109 C h ⟨Nat.le_of_ble_eq_true rfl, Nat.le_of_ble_eq_true rfl⟩ (Nat.le_of_ble_eq_true rfl) dX11_rank_18 (fun _ _ h => ?_)
    refine g_if_eq C 33 dX11_rank_21 (by decide) (fun q => ?_) (fun q => ?_)
    · have h := h.1 q
      exact g_wk (kM_rank_33 C hQ _ h) (trivial)
    · have h := h.2 q
      refine g_aload_0 C dX11_rank_24 rfl ?_
      refine g_iload_1 C dX11_rank_25 rfl ?_
      refine g_iload_2 C dX11_rank_26 rfl ?_
      refine csM_X11_226 C h ⟨Nat.le_of_ble_eq_true rfl, Nat.le_of_ble_eq_true rfl⟩ (Nat.le_of_ble_eq_true rfl) dX11_rank_27 (fun _ _ h => ?_)
      refine g_goto C 34 dX11_rank_30 (by decide) ?_
      exact g_wk (kM_rank_34 C hQ _ _ h) (trivial)
theorem cM_rank {l : Launch} {E : Ev} {a : Nat → Nat} {x1 x2 : Int32} {σ : St} {post : Int32 → St → Prop} (h : wpM_rank x1 x2 σ post) : CI l E (wM E a) yX11_rank cX11_rank 3 .int rmM_rank [.ref (a 0), .int x1, .int x2] σ post := met_i (by decide) rfl (Nat.le_of_ble_eq_true rfl) rfl (fun X C hQ => kM_rank C hQ _ _ _ h)
theorem alM_37 {X : Kx} {l : Launch} {E : Ev} {a : Nat → Nat} {σ : St} {cc : ByteArray} {rm : Room} {ret : Option FieldType} {pc : Nat} {lv : List (Option Value)} {st : List Value} {own : String} {i : Int32} (C : Cx X l E own cc rm ret) (hin : vp_in i 64) (d : decode cc pc = .ok (.iaload, 1)) (k : G X (wM E a) σ (pc + 1) lv (.int (σ.2 37 i.toNatClampNeg) :: st)) : G X (wM E a) σ pc lv (.int i :: .ref (a 38) :: st) := g_iald C (q0 := 26) rfl hin d k
/-! IceRunModel.ice(II)I -/
abbrev rmM_ice : Room := { frames := 2, cells := 0, slots := 0, locals := 44 }
def wpM_ice_102 (k_50 : Int32 → Int32 → Int32 → Int32 → St → Prop) (x1 x2 x5 s0 s1 : Int32) (σ : St) (post : Int32 → St → Prop) : Prop := let y1 : Int32 := (s0 + s1); let y2 : Int32 := x5 + 1; k_50 x1 x2 y1 y2 σ
theorem kM_ice_102 {X : Kx} {l : Launch} {E : Ev} {a : Nat → Nat} {post : Int32 → St → Prop} (C : Cx X l E RX11 cX11_ice rmM_ice (some .int)) (hQ : QI X (wM E a) post) (k_50 : Int32 → Int32 → Int32 → Int32 → St → Prop) (hk_50 : ∀ (x1 x2 x4 x5 : Int32) (σ : St), k_50 x1 x2 x4 x5 σ → G X (wM E a) σ 50 [some (.ref (a 0)), some (.int x1), some (.int x2), none, some (.int x4), some (.int x5)] []) (x1 x2 x5 s0 s1 : Int32) (σ : St) (h : wpM_ice_102 k_50 x1 x2 x5 s0 s1 σ post) : G X (wM E a) σ 102 [some (.ref (a 0)), some (.int x1), some (.int x2), none, none, some (.int x5)] [.int s1, .int s0] := by
  unfold wpM_ice_102 at h
  refine g_iadd C dX11_ice_102 ?_
  refine g_istore C dX11_ice_103 (Nat.le_of_ble_eq_true rfl) ?_
  refine g_iinc C (v := 1) (by decide) dX11_ice_105 rfl ?_
  refine g_goto C 50 dX11_ice_108 (by decide) ?_
  exact g_wk (hk_50 _ _ _ _ _ h) (And.intro rfl (And.intro rfl (And.intro rfl (And.intro rfl (And.intro rfl (trivial))))))
def wpBM_ice_50 (k_50 : Int32 → Int32 → Int32 → Int32 → St → Prop) (x1 x2 x4 x5 : Int32) (σ : St) (post : Int32 → St → Prop) : Prop := ((16 ≤ x5 → post x4 σ) ∧ (¬ 16 ≤ x5 → vp_in ((16 * x1) + x5) 64 ∧ ((((σ.2 33 (Int32.toNatClampNeg ((16 * x1) + x5))) = 0 → wpM_ice_102 k_50 x1 x2 x5 x4 0 σ post) ∧ (¬ (σ.2 33 (Int32.toNatClampNeg ((16 * x1) + x5))) = 0 → vp_in ((16 * x1) + x2) 64 ∧ (vp_in ((16 * x1) + x5) 64 ∧ (wpM_ice_102 k_50 x1 x2 x5 x4 ((σ.2 37 (Int32.toNatClampNeg ((16 * x1) + x2))) - (σ.2 37 (Int32.toNatClampNeg ((16 * x1) + x5)))) σ post)))))))
def wpM_ice_50 (x1 x2 x4 x5 : Int32) (σ : St) (post : Int32 → St → Prop) : Prop := ∃ n : Nat, lpN (α := Int32 × Int32 × Int32 × Int32 × St) (fun kb t => wpBM_ice_50 (fun x1 x2 x4 x5 σ => kb (x1, x2, x4, x5, σ)) t.1 t.2.1 t.2.2.1 t.2.2.2.1 t.2.2.2.2 post) n (x1, x2, x4, x5, σ)
theorem kBM_ice_50 {X : Kx} {l : Launch} {E : Ev} {a : Nat → Nat} {post : Int32 → St → Prop} (C : Cx X l E RX11 cX11_ice rmM_ice (some .int)) (hQ : QI X (wM E a) post) (k_50 : Int32 → Int32 → Int32 → Int32 → St → Prop) (hk_50 : ∀ (x1 x2 x4 x5 : Int32) (σ : St), k_50 x1 x2 x4 x5 σ → G X (wM E a) σ 50 [some (.ref (a 0)), some (.int x1), some (.int x2), none, some (.int x4), some (.int x5)] []) (x1 x2 x4 x5 : Int32) (σ : St) (h : wpBM_ice_50 k_50 x1 x2 x4 x5 σ post) : G X (wM E a) σ 50 [some (.ref (a 0)), some (.int x1), some (.int x2), none, some (.int x4), some (.int x5)] [] := by
  unfold wpBM_ice_50 at h
  refine g_iload C dX11_ice_50 rfl ?_
  refine g_bipush C (v := 16) (by decide) dX11_ice_52 ?_
  refine g_icmp_ge C 111 dX11_ice_54 (by decide) (fun q => ?_) (fun q => ?_)
  · have h := h.1 q
    refine g_iload C dX11_ice_111 rfl ?_
    exact g_ireturn C hQ dX11_ice_113 h
  · have h := h.2 q
    refine g_iload C dX11_ice_57 rfl ?_
    refine g_aload_0 C dX11_ice_59 rfl ?_
    refine fgM_X11_79 C dX11_ice_60 ?_
    refine g_bipush C (v := 16) (by decide) dX11_ice_63 ?_
    refine g_iload_1 C dX11_ice_65 rfl ?_
    refine g_imul C dX11_ice_66 ?_
    refine g_iload C dX11_ice_67 rfl ?_
    refine g_iadd C dX11_ice_69 ?_
    obtain ⟨q, h⟩ := h
    refine alM_33 C q dX11_ice_70 ?_
    refine g_if_eq C 101 dX11_ice_71 (by decide) (fun q => ?_) (fun q => ?_)
    · have h := h.1 q
      refine g_iconst_0 C dX11_ice_101 ?_
      exact g_wk (kM_ice_102 C hQ _ hk_50 _ _ _ _ _ _ h) (And.intro rfl (And.intro rfl (And.intro rfl (And.intro rfl (trivial)))))
    · have h := h.2 q
      refine g_aload_0 C dX11_ice_74 rfl ?_
      refine fgM_X11_91 C dX11_ice_75 ?_
      refine g_bipush C (v := 16) (by decide) dX11_ice_78 ?_
      refine g_iload_1 C dX11_ice_80 rfl ?_
      refine g_imul C dX11_ice_81 ?_
      refine g_iload_2 C dX11_ice_82 rfl ?_
      refine g_iadd C dX11_ice_83 ?_
      obtain ⟨q, h⟩ := h
      refine alM_37 C q dX11_ice_84 ?_
      refine g_aload_0 C dX11_ice_85 rfl ?_
      refine fgM_X11_91 C dX11_ice_86 ?_
      refine g_bipush C (v := 16) (by decide) dX11_ice_89 ?_
      refine g_iload_1 C dX11_ice_91 rfl ?_
      refine g_imul C dX11_ice_92 ?_
      refine g_iload C dX11_ice_93 rfl ?_
      refine g_iadd C dX11_ice_95 ?_
      obtain ⟨q, h⟩ := h
      refine alM_37 C q dX11_ice_96 ?_
      refine g_isub C dX11_ice_97 ?_
      refine g_goto C 102 dX11_ice_98 (by decide) ?_
      exact g_wk (kM_ice_102 C hQ _ hk_50 _ _ _ _ _ _ h) (And.intro rfl (And.intro rfl (And.intro rfl (And.intro rfl (trivial)))))
theorem kM_ice_50 {X : Kx} {l : Launch} {E : Ev} {a : Nat → Nat} {post : Int32 → St → Prop} (C : Cx X l E RX11 cX11_ice rmM_ice (some .int)) (hQ : QI X (wM E a) post) (x1 x2 x4 x5 : Int32) (σ : St) (h : wpM_ice_50  x1 x2 x4 x5 σ post) : G X (wM E a) σ 50 [some (.ref (a 0)), some (.int x1), some (.int x2), none, some (.int x4), some (.int x5)] [] := by
  obtain ⟨n, h⟩ := h
  exact g_loop (J := fun t : Int32 × Int32 × Int32 × Int32 × St => G X (wM E a) t.2.2.2.2 50 [some (.ref (a 0)), some (.int t.1), some (.int t.2.1), none, some (.int t.2.2.1), some (.int t.2.2.2.1)] []) (fun kb hkb t ht => kBM_ice_50 C hQ  (fun x1 x2 x4 x5 σ => kb (x1, x2, x4, x5, σ)) (fun x1 x2 x4 x5 σ hh => hkb (x1, x2, x4, x5, σ) hh) t.1 t.2.1 t.2.2.1 t.2.2.2.1 t.2.2.2.2 ht) n (x1, x2, x4, x5, σ) h
def wpM_ice_35 (x1 x2 x3 s1 : Int32) (σ : St) (post : Int32 → St → Prop) : Prop := let σ1 : St := pI σ 0 s1; ((¬ x3 = 0 → wpM_ice_50 x1 x2 0 0 σ1 post) ∧ (x3 = 0 → post 0 σ1))
theorem kM_ice_35 {X : Kx} {l : Launch} {E : Ev} {a : Nat → Nat} {post : Int32 → St → Prop} (C : Cx X l E RX11 cX11_ice rmM_ice (some .int)) (hQ : QI X (wM E a) post) (x1 x2 x3 s1 : Int32) (σ : St) (h : wpM_ice_35  x1 x2 x3 s1 σ post) : G X (wM E a) σ 35 [some (.ref (a 0)), some (.int x1), some (.int x2), some (.int x3), none, none] [.int s1, .ref (a 0)] := by
  unfold wpM_ice_35 at h
  refine fpM_X11_106 C dX11_ice_35 ?_
  refine g_iload_3 C dX11_ice_38 rfl ?_
  refine g_if_ne C 44 dX11_ice_39 (by decide) (fun q => ?_) (fun q => ?_)
  · have h := h.1 q
    refine g_iconst_0 C dX11_ice_44 ?_
    refine g_istore C dX11_ice_45 (Nat.le_of_ble_eq_true rfl) ?_
    refine g_iconst_0 C dX11_ice_47 ?_
    refine g_istore C dX11_ice_48 (Nat.le_of_ble_eq_true rfl) ?_
    exact g_wk (kM_ice_50 C hQ _ _ _ _ _ h) (And.intro rfl (And.intro rfl (And.intro rfl (And.intro rfl (And.intro rfl (trivial))))))
  · have h := h.2 q
    refine g_iconst_0 C dX11_ice_42 ?_
    exact g_ireturn C hQ dX11_ice_43 h
def wpM_ice_24 (x1 x2 s0 : Int32) (σ : St) (post : Int32 → St → Prop) : Prop := ((s0 = 0 → wpM_ice_35 x1 x2 s0 1 σ post) ∧ (¬ s0 = 0 → wpM_ice_35 x1 x2 s0 0 σ post))
theorem kM_ice_24 {X : Kx} {l : Launch} {E : Ev} {a : Nat → Nat} {post : Int32 → St → Prop} (C : Cx X l E RX11 cX11_ice rmM_ice (some .int)) (hQ : QI X (wM E a) post) (x1 x2 s0 : Int32) (σ : St) (h : wpM_ice_24  x1 x2 s0 σ post) : G X (wM E a) σ 24 [some (.ref (a 0)), some (.int x1), some (.int x2), none, none, none] [.int s0] := by
  unfold wpM_ice_24 at h
  refine g_istore_3 C dX11_ice_24 (Nat.le_of_ble_eq_true rfl) ?_
  refine g_aload_0 C dX11_ice_25 rfl ?_
  refine g_iload_3 C dX11_ice_26 rfl ?_
  refine g_if_eq C 34 dX11_ice_27 (by decide) (fun q => ?_) (fun q => ?_)
  · have h := h.1 q
    refine g_iconst_1 C dX11_ice_34 ?_
    exact g_wk (kM_ice_35 C hQ _ _ _ _ _ h) (And.intro rfl (And.intro rfl (And.intro rfl (And.intro rfl (trivial)))))
  · have h := h.2 q
    refine g_iconst_0 C dX11_ice_30 ?_
    refine g_goto C 35 dX11_ice_31 (by decide) ?_
    exact g_wk (kM_ice_35 C hQ _ _ _ _ _ h) (And.intro rfl (And.intro rfl (And.intro rfl (And.intro rfl (trivial)))))
def wpM_ice_23 (x1 x2 : Int32) (σ : St) (post : Int32 → St → Prop) : Prop := wpM_ice_24 x1 x2 0 σ post
theorem kM_ice_23 {X : Kx} {l : Launch} {E : Ev} {a : Nat → Nat} {post : Int32 → St → Prop} (C : Cx X l E RX11 cX11_ice rmM_ice (some .int)) (hQ : QI X (wM E a) post) (x1 x2 : Int32) (σ : St) (h : wpM_ice_23  x1 x2 σ post) : G X (wM E a) σ 23 [some (.ref (a 0)), some (.int x1), some (.int x2), none, none, none] [] := by
  unfold wpM_ice_23 at h
  refine g_iconst_0 C dX11_ice_23 ?_
  exact g_wk (kM_ice_24 C hQ _ _ _ _ h) (And.intro rfl (And.intro rfl (And.intro rfl (trivial))))
def wpM_ice (x1 x2 : Int32) (σ : St) (post : Int32 → St → Prop) : Prop := wpM_hasCome x1 x2 σ (fun r2 σ1 => ((r2 = 0 → wpM_ice_23 x1 x2 σ1 post) ∧ (¬ r2 = 0 → vp_in x1 4 ∧ (((¬ (σ1.2 28 (Int32.toNatClampNeg x1)) = 2 → wpM_ice_23 x1 x2 σ1 post) ∧ ((σ1.2 28 (Int32.toNatClampNeg x1)) = 2 → wpM_ice_24 x1 x2 1 σ1 post))))))
theorem kM_ice {X : Kx} {l : Launch} {E : Ev} {a : Nat → Nat} {post : Int32 → St → Prop} (C : Cx X l E RX11 cX11_ice rmM_ice (some .int)) (hQ : QI X (wM E a) post) (x1 x2 : Int32) (σ : St) (h : wpM_ice x1 x2 σ post) : G X (wM E a) σ 0 [some (.ref (a 0)), some (.int x1), some (.int x2), none, none, none] [] := by
  unfold wpM_ice at h
  refine g_aload_0 C dX11_ice_0 rfl ?_
  refine g_iload_1 C dX11_ice_1 rfl ?_
  refine g_iload_2 C dX11_ice_2 rfl ?_
  refine csM_X11_253 C h ⟨Nat.le_of_ble_eq_true rfl, Nat.le_of_ble_eq_true rfl⟩ (Nat.le_of_ble_eq_true rfl) dX11_ice_3 (fun _ _ h => ?_)
  refine g_if_eq C 23 dX11_ice_6 (by decide) (fun q => ?_) (fun q => ?_)
  · have h := h.1 q
    exact g_wk (kM_ice_23 C hQ _ _ _ h) (And.intro rfl (And.intro rfl (And.intro rfl (trivial))))
  · have h := h.2 q
    refine g_aload_0 C dX11_ice_9 rfl ?_
    refine fgM_X11_69 C dX11_ice_10 ?_
    refine g_iload_1 C dX11_ice_13 rfl ?_
    obtain ⟨q, h⟩ := h
    refine alM_28 C q dX11_ice_14 ?_
    refine g_iconst_2 C dX11_ice_15 ?_
    refine g_icmp_ne C 23 dX11_ice_16 (by decide) (fun q => ?_) (fun q => ?_)
    · have h := h.1 q
      exact g_wk (kM_ice_23 C hQ _ _ _ h) (And.intro rfl (And.intro rfl (And.intro rfl (trivial))))
    · have h := h.2 q
      refine g_iconst_1 C dX11_ice_19 ?_
      refine g_goto C 24 dX11_ice_20 (by decide) ?_
      exact g_wk (kM_ice_24 C hQ _ _ _ _ h) (And.intro rfl (And.intro rfl (And.intro rfl (trivial))))
theorem cM_ice {l : Launch} {E : Ev} {a : Nat → Nat} {x1 x2 : Int32} {σ : St} {post : Int32 → St → Prop} (h : wpM_ice x1 x2 σ post) : CI l E (wM E a) yX11_ice cX11_ice 6 .int rmM_ice [.ref (a 0), .int x1, .int x2] σ post := met_i (by decide) rfl (Nat.le_of_ble_eq_true rfl) rfl (fun X C hQ => kM_ice C hQ _ _ _ h)
/-! IceRunModel.timeAt(III)I -/
abbrev rmM_timeAt : Room := { frames := 0, cells := 0, slots := 0, locals := 0 }
def wpM_timeAt (x1 x2 x3 : Int32) (σ : St) (post : Int32 → St → Prop) : Prop := vp_in ((6 * ((16 * x1) + x2)) + x3) 384 ∧ (post (σ.2 34 (Int32.toNatClampNeg ((6 * ((16 * x1) + x2)) + x3))) σ)
theorem kM_timeAt {X : Kx} {l : Launch} {E : Ev} {a : Nat → Nat} {post : Int32 → St → Prop} (C : Cx X l E RX11 cX11_timeAt rmM_timeAt (some .int)) (hQ : QI X (wM E a) post) (x1 x2 x3 : Int32) (σ : St) (h : wpM_timeAt x1 x2 x3 σ post) : G X (wM E a) σ 0 [some (.ref (a 0)), some (.int x1), some (.int x2), some (.int x3)] [] := by
  unfold wpM_timeAt at h
  refine g_aload_0 C dX11_timeAt_0 rfl ?_
  refine fgM_X11_82 C dX11_timeAt_1 ?_
  refine g_bipush C (v := 6) (by decide) dX11_timeAt_4 ?_
  refine g_bipush C (v := 16) (by decide) dX11_timeAt_6 ?_
  refine g_iload_1 C dX11_timeAt_8 rfl ?_
  refine g_imul C dX11_timeAt_9 ?_
  refine g_iload_2 C dX11_timeAt_10 rfl ?_
  refine g_iadd C dX11_timeAt_11 ?_
  refine g_imul C dX11_timeAt_12 ?_
  refine g_iload_3 C dX11_timeAt_13 rfl ?_
  refine g_iadd C dX11_timeAt_14 ?_
  obtain ⟨q, h⟩ := h
  refine alM_34 C q dX11_timeAt_15 ?_
  exact g_ireturn C hQ dX11_timeAt_16 h
theorem cM_timeAt {l : Launch} {E : Ev} {a : Nat → Nat} {x1 x2 x3 : Int32} {σ : St} {post : Int32 → St → Prop} (h : wpM_timeAt x1 x2 x3 σ post) : CI l E (wM E a) yX11_timeAt cX11_timeAt 4 .int rmM_timeAt [.ref (a 0), .int x1, .int x2, .int x3] σ post := met_i (by decide) rfl (Nat.le_of_ble_eq_true rfl) rfl (fun X C hQ => kM_timeAt C hQ _ _ _ _ h)

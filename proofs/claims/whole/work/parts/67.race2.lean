/-! the world of a race and its sheet alone -/
def wR (E : Ev) (a : Nat → Nat) (σ : St) : va_W := [
  (a 700, .inr (2, [.int (σ.1 700), .int (σ.1 701), .int (σ.1 702), .int (σ.1 703), .int (σ.1 704), .int (σ.1 705), .int (σ.1 706), .int (σ.1 707), .ref (a 709), .ref (a 710), .ref (a 711), .ref (a 712), .ref (a 713), .ref (a 800)])),
  (a 709, .inl (E.2.1 0, 16, .inl (σ.2 708))),
  (a 710, .inl (E.2.1 0, 16, .inl (σ.2 709))),
  (a 711, .inl (E.2.1 2, 16, .inl (σ.2 710))),
  (a 712, .inl (E.2.1 0, 16, .inl (σ.2 711))),
  (a 713, .inl (E.2.1 0, 4, .inl (σ.2 712))),
  (a 800, .inr (4, [.ref (a 801), .ref (a 802), .ref (a 803), .ref (a 804), .ref (a 805)])),
  (a 801, .inl (E.2.1 2, 64, .inl (σ.2 800))),
  (a 802, .inl (E.2.1 0, 64, .inl (σ.2 801))),
  (a 803, .inl (E.2.1 0, 64, .inl (σ.2 802))),
  (a 804, .inl (E.2.1 0, 384, .inl (σ.2 803))),
  (a 805, .inl (E.2.1 0, 384, .inl (σ.2 804)))]
def zS : St := (fun _ => 0, fun _ _ => 0)
def adr : List (Nat × Nat) → Nat → Nat
  | [], _ => 0
  | q :: t, k => cond (Nat.beq k q.1) q.2 (adr t k)
theorem fgR_X4_9 {X : Kx} {l : Launch} {E : Ev} {a : Nat → Nat} {σ : St} {cc : ByteArray} {rm : Room} {ret : Option FieldType} {pc : Nat} {lv : List (Option Value)} {st : List Value} (C : Cx X l E RX4 cc rm ret) (d : decode cc pc = .ok (.getfield 9, 3)) (k : G X (wR E a) σ (pc + 3) lv (.ref (a 801) :: st)) : G X (wR E a) σ pc lv (.ref (a 800) :: st) := g_get C (q0 := 6) (ci := 4) (k := 0) rfl rfl inU_X4 (by decide) (by decide +kernel) rfl d k
theorem asR_800 {X : Kx} {l : Launch} {E : Ev} {a : Nat → Nat} {σ : St} {cc : ByteArray} {rm : Room} {ret : Option FieldType} {pc : Nat} {lv : List (Option Value)} {st : List Value} {own : String} {i x : Int32} (C : Cx X l E own cc rm ret) (hin : vp_in i 64) (d : decode cc pc = .ok (.bastore, 1)) (k : G X (wR E a) (pA σ 800 i.toNatClampNeg (vp_nar .boolean x)) (pc + 1) lv st) : G X (wR E a) σ pc lv (.int x :: .int i :: .ref (a 801) :: st) := g_zast C (q0 := 7) rfl rfl hin d k
/-! IceRun$Sheet.forgetAll()V -/
abbrev rmR_X4_forgetAll : Room := { frames := 0, cells := 0, slots := 0, locals := 0 }
def wpBR_X4_forgetAll_2 (k_2 : Int32 → St → Prop) (x1 : Int32) (σ : St) (post : St → Prop) : Prop := ((64 ≤ x1 → post σ) ∧ (¬ 64 ≤ x1 → vp_in x1 64 ∧ (let σ1 : St := pA σ 800 (Int32.toNatClampNeg x1) (vp_nar .boolean 0); let y2 : Int32 := x1 + 1; k_2 y2 σ1)))
def wpR_X4_forgetAll_2 (x1 : Int32) (σ : St) (post : St → Prop) : Prop := ∃ n : Nat, lpN (α := Int32 × St) (fun kb t => wpBR_X4_forgetAll_2 (fun x1 σ => kb (x1, σ)) t.1 t.2 post) n (x1, σ)
theorem kBR_X4_forgetAll_2 {X : Kx} {l : Launch} {E : Ev} {a : Nat → Nat} {post : St → Prop} (C : Cx X l E RX4 cX4_forgetAll rmR_X4_forgetAll none) (hQ : QV X (wR E a) post) (k_2 : Int32 → St → Prop) (hk_2 : ∀ (x1 : Int32) (σ : St), k_2 x1 σ → G X (wR E a) σ 2 [some (.ref (a 800)), some (.int x1)] []) (x1 : Int32) (σ : St) (h : wpBR_X4_forgetAll_2 k_2 x1 σ post) : G X (wR E a) σ 2 [some (.ref (a 800)), some (.int x1)] [] := by
  unfold wpBR_X4_forgetAll_2 at h
  refine g_iload_1 C dX4_forgetAll_2 rfl ?_
  refine g_aload_0 C dX4_forgetAll_3 rfl ?_
  refine fgR_X4_9 C dX4_forgetAll_4 ?_
  refine g_alen2 C (q0 := 7) (v := 64) rfl rfl dX4_forgetAll_7 ?_
  refine g_icmp_ge C 24 dX4_forgetAll_8 (by decide) (fun q => ?_) (fun q => ?_)
  · have h := h.1 q
    exact g_return C hQ dX4_forgetAll_24 h
  · have h := h.2 q
    refine g_aload_0 C dX4_forgetAll_11 rfl ?_
    refine fgR_X4_9 C dX4_forgetAll_12 ?_
    refine g_iload_1 C dX4_forgetAll_15 rfl ?_
    refine g_iconst_0 C dX4_forgetAll_16 ?_
    obtain ⟨q, h⟩ := h
    refine asR_800 C q dX4_forgetAll_17 ?_
    refine g_iinc C (v := 1) (by decide) dX4_forgetAll_18 rfl ?_
    refine g_goto C 2 dX4_forgetAll_21 (by decide) ?_
    exact g_wk (hk_2 _ _ h) (And.intro rfl (And.intro rfl (trivial)))
theorem kR_X4_forgetAll_2 {X : Kx} {l : Launch} {E : Ev} {a : Nat → Nat} {post : St → Prop} (C : Cx X l E RX4 cX4_forgetAll rmR_X4_forgetAll none) (hQ : QV X (wR E a) post) (x1 : Int32) (σ : St) (h : wpR_X4_forgetAll_2  x1 σ post) : G X (wR E a) σ 2 [some (.ref (a 800)), some (.int x1)] [] := by
  obtain ⟨n, h⟩ := h
  exact g_loop (J := fun t : Int32 × St => G X (wR E a) t.2 2 [some (.ref (a 800)), some (.int t.1)] []) (fun kb hkb t ht => kBR_X4_forgetAll_2 C hQ  (fun x1 σ => kb (x1, σ)) (fun x1 σ hh => hkb (x1, σ) hh) t.1 t.2 ht) n (x1, σ) h
def wpR_X4_forgetAll (σ : St) (post : St → Prop) : Prop := wpR_X4_forgetAll_2 0 σ post
theorem kR_X4_forgetAll {X : Kx} {l : Launch} {E : Ev} {a : Nat → Nat} {post : St → Prop} (C : Cx X l E RX4 cX4_forgetAll rmR_X4_forgetAll none) (hQ : QV X (wR E a) post) (σ : St) (h : wpR_X4_forgetAll  σ post) : G X (wR E a) σ 0 [some (.ref (a 800)), none] [] := by
  unfold wpR_X4_forgetAll at h
  refine g_iconst_0 C dX4_forgetAll_0 ?_
  refine g_istore_1 C dX4_forgetAll_1 (Nat.le_of_ble_eq_true rfl) ?_
  exact g_wk (kR_X4_forgetAll_2 C hQ _ _ h) (And.intro rfl (And.intro rfl (trivial)))
theorem cR_X4_forgetAll {l : Launch} {E : Ev} {a : Nat → Nat} {σ : St} {post : St → Prop} (h : wpR_X4_forgetAll  σ post) : CV l E (wR E a) yX4_forgetAll cX4_forgetAll 2 rmR_X4_forgetAll [.ref (a 800)] σ post := met_v (by decide) rfl (Nat.le_of_ble_eq_true rfl) rfl (fun X C hQ => kR_X4_forgetAll C hQ _ h)
theorem fgR_X2_31 {X : Kx} {l : Launch} {E : Ev} {a : Nat → Nat} {σ : St} {cc : ByteArray} {rm : Room} {ret : Option FieldType} {pc : Nat} {lv : List (Option Value)} {st : List Value} (C : Cx X l E RX2 cc rm ret) (d : decode cc pc = .ok (.getfield 31, 3)) (k : G X (wR E a) σ (pc + 3) lv (.ref (a 800) :: st)) : G X (wR E a) σ pc lv (.ref (a 700) :: st) := g_get C (q0 := 0) (ci := 2) (k := 13) rfl rfl inU_X2 (by decide) (by decide +kernel) rfl d k
theorem csR_X2_64 {X : Kx} {l : Launch} {E : Ev} {a : Nat → Nat} {σ : St} {cc : ByteArray} {rm : Room} {ret : Option FieldType} {pc : Nat} {lv : List (Option Value)} {rest : List Value} {post : St → Prop} (C : Cx X l E RX2 cc rm ret) (h : wpR_X4_forgetAll  σ post) (hR : 0 + 1 ≤ rm.frames ∧ 8 + (2 + 11) + 0 ≤ rm.locals) (hW : (rest.map fun v => v.category).sum ≤ 8) (d : decode cc pc = .ok (.invokevirtual 64, 3)) (k : ∀ u : St, post u → G X (wR E a) u (pc + 3) lv rest) : G X (wR E a) σ pc lv (.ref (a 800) :: rest) := g_callVv C 0 (As := []) (rest := rest) (Cn := RX4) (T := TX4) (N := 5) (q0 := 6) (ci := 4) (by decide +kernel) (by decide +kernel) (by decide +kernel) (by decide +kernel) (by decide +kernel) (by decide +kernel) rfl rfl (cR_X4_forgetAll h) ⟨rfl, rfl⟩ hR rfl rfl hW d k
theorem fgR_X2_25 {X : Kx} {l : Launch} {E : Ev} {a : Nat → Nat} {σ : St} {cc : ByteArray} {rm : Room} {ret : Option FieldType} {pc : Nat} {lv : List (Option Value)} {st : List Value} (C : Cx X l E RX2 cc rm ret) (d : decode cc pc = .ok (.getfield 25, 3)) (k : G X (wR E a) σ (pc + 3) lv (.ref (a 713) :: st)) : G X (wR E a) σ pc lv (.ref (a 700) :: st) := g_get C (q0 := 0) (ci := 2) (k := 12) rfl rfl inU_X2 (by decide) (by decide +kernel) rfl d k
theorem asR_712 {X : Kx} {l : Launch} {E : Ev} {a : Nat → Nat} {σ : St} {cc : ByteArray} {rm : Room} {ret : Option FieldType} {pc : Nat} {lv : List (Option Value)} {st : List Value} {own : String} {i x : Int32} (C : Cx X l E own cc rm ret) (hin : vp_in i 4) (d : decode cc pc = .ok (.iastore, 1)) (k : G X (wR E a) (pA σ 712 i.toNatClampNeg x) (pc + 1) lv st) : G X (wR E a) σ pc lv (.int x :: .int i :: .ref (a 713) :: st) := g_iast C (q0 := 5) rfl rfl hin d k
theorem fgR_X2_18 {X : Kx} {l : Launch} {E : Ev} {a : Nat → Nat} {σ : St} {cc : ByteArray} {rm : Room} {ret : Option FieldType} {pc : Nat} {lv : List (Option Value)} {st : List Value} (C : Cx X l E RX2 cc rm ret) (d : decode cc pc = .ok (.getfield 18, 3)) (k : G X (wR E a) σ (pc + 3) lv (.ref (a 711) :: st)) : G X (wR E a) σ pc lv (.ref (a 700) :: st) := g_get C (q0 := 0) (ci := 2) (k := 10) rfl rfl inU_X2 (by decide) (by decide +kernel) rfl d k
theorem asR_710 {X : Kx} {l : Launch} {E : Ev} {a : Nat → Nat} {σ : St} {cc : ByteArray} {rm : Room} {ret : Option FieldType} {pc : Nat} {lv : List (Option Value)} {st : List Value} {own : String} {i x : Int32} (C : Cx X l E own cc rm ret) (hin : vp_in i 16) (d : decode cc pc = .ok (.bastore, 1)) (k : G X (wR E a) (pA σ 710 i.toNatClampNeg (vp_nar .boolean x)) (pc + 1) lv st) : G X (wR E a) σ pc lv (.int x :: .int i :: .ref (a 711) :: st) := g_zast C (q0 := 3) rfl rfl hin d k
theorem fgR_X2_22 {X : Kx} {l : Launch} {E : Ev} {a : Nat → Nat} {σ : St} {cc : ByteArray} {rm : Room} {ret : Option FieldType} {pc : Nat} {lv : List (Option Value)} {st : List Value} (C : Cx X l E RX2 cc rm ret) (d : decode cc pc = .ok (.getfield 22, 3)) (k : G X (wR E a) σ (pc + 3) lv (.ref (a 712) :: st)) : G X (wR E a) σ pc lv (.ref (a 700) :: st) := g_get C (q0 := 0) (ci := 2) (k := 11) rfl rfl inU_X2 (by decide) (by decide +kernel) rfl d k
theorem asR_711 {X : Kx} {l : Launch} {E : Ev} {a : Nat → Nat} {σ : St} {cc : ByteArray} {rm : Room} {ret : Option FieldType} {pc : Nat} {lv : List (Option Value)} {st : List Value} {own : String} {i x : Int32} (C : Cx X l E own cc rm ret) (hin : vp_in i 16) (d : decode cc pc = .ok (.iastore, 1)) (k : G X (wR E a) (pA σ 711 i.toNatClampNeg x) (pc + 1) lv st) : G X (wR E a) σ pc lv (.int x :: .int i :: .ref (a 712) :: st) := g_iast C (q0 := 4) rfl rfl hin d k
theorem fpR_X2_38 {X : Kx} {l : Launch} {E : Ev} {a : Nat → Nat} {σ : St} {cc : ByteArray} {rm : Room} {ret : Option FieldType} {pc : Nat} {lv : List (Option Value)} {st : List Value} {v : Int32} (C : Cx X l E RX2 cc rm ret) (hz : v = 0 ∨ v = 1) (d : decode cc pc = .ok (.putfield 38, 3)) (k : G X (wR E a) (pI σ 700 v) (pc + 3) lv st) : G X (wR E a) σ pc lv (.int v :: .ref (a 700) :: st) := g_put C (q0 := 0) (ci := 2) (k := 0) (ty0 := tyX2) rfl rfl inU_X2 (by decide) tyX2_ok nmX2 (by decide +kernel) rfl (nar_z hz) (fit_z hz) (Nat.le_of_ble_eq_true rfl) rfl d k
theorem fpR_X2_42 {X : Kx} {l : Launch} {E : Ev} {a : Nat → Nat} {σ : St} {cc : ByteArray} {rm : Room} {ret : Option FieldType} {pc : Nat} {lv : List (Option Value)} {st : List Value} {v : Int32} (C : Cx X l E RX2 cc rm ret) (d : decode cc pc = .ok (.putfield 42, 3)) (k : G X (wR E a) (pI σ 701 v) (pc + 3) lv st) : G X (wR E a) σ pc lv (.int v :: .ref (a 700) :: st) := g_put C (q0 := 0) (ci := 2) (k := 1) (ty0 := tyX2) rfl rfl inU_X2 (by decide) tyX2_ok nmX2 (by decide +kernel) rfl rfl rfl (Nat.le_of_ble_eq_true rfl) rfl d k
theorem fpR_X2_46 {X : Kx} {l : Launch} {E : Ev} {a : Nat → Nat} {σ : St} {cc : ByteArray} {rm : Room} {ret : Option FieldType} {pc : Nat} {lv : List (Option Value)} {st : List Value} {v : Int32} (C : Cx X l E RX2 cc rm ret) (d : decode cc pc = .ok (.putfield 46, 3)) (k : G X (wR E a) (pI σ 702 v) (pc + 3) lv st) : G X (wR E a) σ pc lv (.int v :: .ref (a 700) :: st) := g_put C (q0 := 0) (ci := 2) (k := 2) (ty0 := tyX2) rfl rfl inU_X2 (by decide) tyX2_ok nmX2 (by decide +kernel) rfl rfl rfl (Nat.le_of_ble_eq_true rfl) rfl d k
theorem fpR_X2_49 {X : Kx} {l : Launch} {E : Ev} {a : Nat → Nat} {σ : St} {cc : ByteArray} {rm : Room} {ret : Option FieldType} {pc : Nat} {lv : List (Option Value)} {st : List Value} {v : Int32} (C : Cx X l E RX2 cc rm ret) (d : decode cc pc = .ok (.putfield 49, 3)) (k : G X (wR E a) (pI σ 703 v) (pc + 3) lv st) : G X (wR E a) σ pc lv (.int v :: .ref (a 700) :: st) := g_put C (q0 := 0) (ci := 2) (k := 3) (ty0 := tyX2) rfl rfl inU_X2 (by decide) tyX2_ok nmX2 (by decide +kernel) rfl rfl rfl (Nat.le_of_ble_eq_true rfl) rfl d k
theorem fpR_X2_52 {X : Kx} {l : Launch} {E : Ev} {a : Nat → Nat} {σ : St} {cc : ByteArray} {rm : Room} {ret : Option FieldType} {pc : Nat} {lv : List (Option Value)} {st : List Value} {v : Int32} (C : Cx X l E RX2 cc rm ret) (d : decode cc pc = .ok (.putfield 52, 3)) (k : G X (wR E a) (pI σ 704 v) (pc + 3) lv st) : G X (wR E a) σ pc lv (.int v :: .ref (a 700) :: st) := g_put C (q0 := 0) (ci := 2) (k := 4) (ty0 := tyX2) rfl rfl inU_X2 (by decide) tyX2_ok nmX2 (by decide +kernel) rfl rfl rfl (Nat.le_of_ble_eq_true rfl) rfl d k
theorem fpR_X2_55 {X : Kx} {l : Launch} {E : Ev} {a : Nat → Nat} {σ : St} {cc : ByteArray} {rm : Room} {ret : Option FieldType} {pc : Nat} {lv : List (Option Value)} {st : List Value} {v : Int32} (C : Cx X l E RX2 cc rm ret) (d : decode cc pc = .ok (.putfield 55, 3)) (k : G X (wR E a) (pI σ 705 v) (pc + 3) lv st) : G X (wR E a) σ pc lv (.int v :: .ref (a 700) :: st) := g_put C (q0 := 0) (ci := 2) (k := 5) (ty0 := tyX2) rfl rfl inU_X2 (by decide) tyX2_ok nmX2 (by decide +kernel) rfl rfl rfl (Nat.le_of_ble_eq_true rfl) rfl d k
theorem fpR_X2_58 {X : Kx} {l : Launch} {E : Ev} {a : Nat → Nat} {σ : St} {cc : ByteArray} {rm : Room} {ret : Option FieldType} {pc : Nat} {lv : List (Option Value)} {st : List Value} {v : Int32} (C : Cx X l E RX2 cc rm ret) (d : decode cc pc = .ok (.putfield 58, 3)) (k : G X (wR E a) (pI σ 706 v) (pc + 3) lv st) : G X (wR E a) σ pc lv (.int v :: .ref (a 700) :: st) := g_put C (q0 := 0) (ci := 2) (k := 6) (ty0 := tyX2) rfl rfl inU_X2 (by decide) tyX2_ok nmX2 (by decide +kernel) rfl rfl rfl (Nat.le_of_ble_eq_true rfl) rfl d k
theorem fpR_X2_61 {X : Kx} {l : Launch} {E : Ev} {a : Nat → Nat} {σ : St} {cc : ByteArray} {rm : Room} {ret : Option FieldType} {pc : Nat} {lv : List (Option Value)} {st : List Value} {v : Int32} (C : Cx X l E RX2 cc rm ret) (d : decode cc pc = .ok (.putfield 61, 3)) (k : G X (wR E a) (pI σ 707 v) (pc + 3) lv st) : G X (wR E a) σ pc lv (.int v :: .ref (a 700) :: st) := g_put C (q0 := 0) (ci := 2) (k := 7) (ty0 := tyX2) rfl rfl inU_X2 (by decide) tyX2_ok nmX2 (by decide +kernel) rfl rfl rfl (Nat.le_of_ble_eq_true rfl) rfl d k
/-! IceRun$Race.forget()V -/
abbrev rmR_X2_forget : Room := { frames := 1, cells := 0, slots := 0, locals := 21 }
def wpBR_X2_forget_70 (k_70 : Int32 → St → Prop) (x1 : Int32) (σ : St) (post : St → Prop) : Prop := ((4 ≤ x1 → wpR_X4_forgetAll σ (fun σ1 => post σ1)) ∧ (¬ 4 ≤ x1 → vp_in x1 4 ∧ (let σ2 : St := pA σ 712 (Int32.toNatClampNeg x1) (-1); let y3 : Int32 := x1 + 1; k_70 y3 σ2)))
def wpR_X2_forget_70 (x1 : Int32) (σ : St) (post : St → Prop) : Prop := ∃ n : Nat, lpN (α := Int32 × St) (fun kb t => wpBR_X2_forget_70 (fun x1 σ => kb (x1, σ)) t.1 t.2 post) n (x1, σ)
theorem kBR_X2_forget_70 {X : Kx} {l : Launch} {E : Ev} {a : Nat → Nat} {post : St → Prop} (C : Cx X l E RX2 cX2_forget rmR_X2_forget none) (hQ : QV X (wR E a) post) (k_70 : Int32 → St → Prop) (hk_70 : ∀ (x1 : Int32) (σ : St), k_70 x1 σ → G X (wR E a) σ 70 [some (.ref (a 700)), some (.int x1)] []) (x1 : Int32) (σ : St) (h : wpBR_X2_forget_70 k_70 x1 σ post) : G X (wR E a) σ 70 [some (.ref (a 700)), some (.int x1)] [] := by
  unfold wpBR_X2_forget_70 at h
  refine g_iload_1 C dX2_forget_70 rfl ?_
  refine g_iconst_4 C dX2_forget_71 ?_
  refine g_icmp_ge C 88 dX2_forget_72 (by decide) (fun q => ?_) (fun q => ?_)
  · have h := h.1 q
    refine g_aload_0 C dX2_forget_88 rfl ?_
    refine fgR_X2_31 C dX2_forget_89 ?_
    refine csR_X2_64 C h ⟨Nat.le_of_ble_eq_true rfl, Nat.le_of_ble_eq_true rfl⟩ (Nat.le_of_ble_eq_true rfl) dX2_forget_92 (fun _ h => ?_)
    exact g_return C hQ dX2_forget_95 h
  · have h := h.2 q
    refine g_aload_0 C dX2_forget_75 rfl ?_
    refine fgR_X2_25 C dX2_forget_76 ?_
    refine g_iload_1 C dX2_forget_79 rfl ?_
    refine g_iconst_m1 C dX2_forget_80 ?_
    obtain ⟨q, h⟩ := h
    refine asR_712 C q dX2_forget_81 ?_
    refine g_iinc C (v := 1) (by decide) dX2_forget_82 rfl ?_
    refine g_goto C 70 dX2_forget_85 (by decide) ?_
    exact g_wk (hk_70 _ _ h) (And.intro rfl (And.intro rfl (trivial)))
theorem kR_X2_forget_70 {X : Kx} {l : Launch} {E : Ev} {a : Nat → Nat} {post : St → Prop} (C : Cx X l E RX2 cX2_forget rmR_X2_forget none) (hQ : QV X (wR E a) post) (x1 : Int32) (σ : St) (h : wpR_X2_forget_70  x1 σ post) : G X (wR E a) σ 70 [some (.ref (a 700)), some (.int x1)] [] := by
  obtain ⟨n, h⟩ := h
  exact g_loop (J := fun t : Int32 × St => G X (wR E a) t.2 70 [some (.ref (a 700)), some (.int t.1)] []) (fun kb hkb t ht => kBR_X2_forget_70 C hQ  (fun x1 σ => kb (x1, σ)) (fun x1 σ hh => hkb (x1, σ) hh) t.1 t.2 ht) n (x1, σ) h
def wpBR_X2_forget_42 (k_42 : Int32 → St → Prop) (x1 : Int32) (σ : St) (post : St → Prop) : Prop := ((16 ≤ x1 → wpR_X2_forget_70 0 σ post) ∧ (¬ 16 ≤ x1 → vp_in x1 16 ∧ (let σ1 : St := pA σ 710 (Int32.toNatClampNeg x1) (vp_nar .boolean 0); vp_in x1 16 ∧ (let σ2 : St := pA σ1 711 (Int32.toNatClampNeg x1) (-1); let y3 : Int32 := x1 + 1; k_42 y3 σ2))))
def wpR_X2_forget_42 (x1 : Int32) (σ : St) (post : St → Prop) : Prop := ∃ n : Nat, lpN (α := Int32 × St) (fun kb t => wpBR_X2_forget_42 (fun x1 σ => kb (x1, σ)) t.1 t.2 post) n (x1, σ)
theorem kBR_X2_forget_42 {X : Kx} {l : Launch} {E : Ev} {a : Nat → Nat} {post : St → Prop} (C : Cx X l E RX2 cX2_forget rmR_X2_forget none) (hQ : QV X (wR E a) post) (k_42 : Int32 → St → Prop) (hk_42 : ∀ (x1 : Int32) (σ : St), k_42 x1 σ → G X (wR E a) σ 42 [some (.ref (a 700)), some (.int x1)] []) (x1 : Int32) (σ : St) (h : wpBR_X2_forget_42 k_42 x1 σ post) : G X (wR E a) σ 42 [some (.ref (a 700)), some (.int x1)] [] := by
  unfold wpBR_X2_forget_42 at h
  refine g_iload_1 C dX2_forget_42 rfl ?_
  refine g_bipush C (v := 16) (by decide) dX2_forget_43 ?_
  refine g_icmp_ge C 68 dX2_forget_45 (by decide) (fun q => ?_) (fun q => ?_)
  · have h := h.1 q
    refine g_iconst_0 C dX2_forget_68 ?_
    refine g_istore_1 C dX2_forget_69 (Nat.le_of_ble_eq_true rfl) ?_
    exact g_wk (kR_X2_forget_70 C hQ _ _ h) (And.intro rfl (And.intro rfl (trivial)))
  · have h := h.2 q
    refine g_aload_0 C dX2_forget_48 rfl ?_
    refine fgR_X2_18 C dX2_forget_49 ?_
    refine g_iload_1 C dX2_forget_52 rfl ?_
    refine g_iconst_0 C dX2_forget_53 ?_
    obtain ⟨q, h⟩ := h
    refine asR_710 C q dX2_forget_54 ?_
    refine g_aload_0 C dX2_forget_55 rfl ?_
    refine fgR_X2_22 C dX2_forget_56 ?_
    refine g_iload_1 C dX2_forget_59 rfl ?_
    refine g_iconst_m1 C dX2_forget_60 ?_
    obtain ⟨q, h⟩ := h
    refine asR_711 C q dX2_forget_61 ?_
    refine g_iinc C (v := 1) (by decide) dX2_forget_62 rfl ?_
    refine g_goto C 42 dX2_forget_65 (by decide) ?_
    exact g_wk (hk_42 _ _ h) (And.intro rfl (And.intro rfl (trivial)))
theorem kR_X2_forget_42 {X : Kx} {l : Launch} {E : Ev} {a : Nat → Nat} {post : St → Prop} (C : Cx X l E RX2 cX2_forget rmR_X2_forget none) (hQ : QV X (wR E a) post) (x1 : Int32) (σ : St) (h : wpR_X2_forget_42  x1 σ post) : G X (wR E a) σ 42 [some (.ref (a 700)), some (.int x1)] [] := by
  obtain ⟨n, h⟩ := h
  exact g_loop (J := fun t : Int32 × St => G X (wR E a) t.2 42 [some (.ref (a 700)), some (.int t.1)] []) (fun kb hkb t ht => kBR_X2_forget_42 C hQ  (fun x1 σ => kb (x1, σ)) (fun x1 σ hh => hkb (x1, σ) hh) t.1 t.2 ht) n (x1, σ) h
def wpR_X2_forget (σ : St) (post : St → Prop) : Prop := let σ1 : St := pI σ 700 0; let σ2 : St := pI σ1 701 0; let σ3 : St := pI σ2 702 (-1); let σ4 : St := pI σ3 703 0; let σ5 : St := pI σ4 704 0; let σ6 : St := pI σ5 705 0; let σ7 : St := pI σ6 706 0; let σ8 : St := pI σ7 707 0; wpR_X2_forget_42 0 σ8 post
theorem kR_X2_forget {X : Kx} {l : Launch} {E : Ev} {a : Nat → Nat} {post : St → Prop} (C : Cx X l E RX2 cX2_forget rmR_X2_forget none) (hQ : QV X (wR E a) post) (σ : St) (h : wpR_X2_forget  σ post) : G X (wR E a) σ 0 [some (.ref (a 700)), none] [] := by
  unfold wpR_X2_forget at h
  refine g_aload_0 C dX2_forget_0 rfl ?_
  refine g_iconst_0 C dX2_forget_1 ?_
  refine fpR_X2_38 C (Or.inl rfl) dX2_forget_2 ?_
  refine g_aload_0 C dX2_forget_5 rfl ?_
  refine g_iconst_0 C dX2_forget_6 ?_
  refine fpR_X2_42 C dX2_forget_7 ?_
  refine g_aload_0 C dX2_forget_10 rfl ?_
  refine g_iconst_m1 C dX2_forget_11 ?_
  refine fpR_X2_46 C dX2_forget_12 ?_
  refine g_aload_0 C dX2_forget_15 rfl ?_
  refine g_iconst_0 C dX2_forget_16 ?_
  refine fpR_X2_49 C dX2_forget_17 ?_
  refine g_aload_0 C dX2_forget_20 rfl ?_
  refine g_iconst_0 C dX2_forget_21 ?_
  refine fpR_X2_52 C dX2_forget_22 ?_
  refine g_aload_0 C dX2_forget_25 rfl ?_
  refine g_iconst_0 C dX2_forget_26 ?_
  refine fpR_X2_55 C dX2_forget_27 ?_
  refine g_aload_0 C dX2_forget_30 rfl ?_
  refine g_iconst_0 C dX2_forget_31 ?_
  refine fpR_X2_58 C dX2_forget_32 ?_
  refine g_aload_0 C dX2_forget_35 rfl ?_
  refine g_iconst_0 C dX2_forget_36 ?_
  refine fpR_X2_61 C dX2_forget_37 ?_
  refine g_iconst_0 C dX2_forget_40 ?_
  refine g_istore_1 C dX2_forget_41 (Nat.le_of_ble_eq_true rfl) ?_
  exact g_wk (kR_X2_forget_42 C hQ _ _ h) (And.intro rfl (And.intro rfl (trivial)))
theorem cR_X2_forget {l : Launch} {E : Ev} {a : Nat → Nat} {σ : St} {post : St → Prop} (h : wpR_X2_forget  σ post) : CV l E (wR E a) yX2_forget cX2_forget 2 rmR_X2_forget [.ref (a 700)] σ post := met_v (by decide) rfl (Nat.le_of_ble_eq_true rfl) rfl (fun X C hQ => kR_X2_forget C hQ _ h)
theorem R_forget {σ : St} {post : St → Prop} (h : post (frI σ)) : wpR_X2_forget σ post := I_forget (post := post) h

theorem csSI_X1_89 {X : Kx} {l : Launch} {E : Ev} {a : Nat → Nat} {σ : St} {cc : ByteArray} {rm : Room} {ret : Option FieldType} {pc : Nat} {lv : List (Option Value)} {rest : List Value} {i : Nat} {post : Int32 → St → Prop} (C : Cx X l E RX1 cc rm ret) (h : wpS_length i  σ post) (hR : 1 + 1 ≤ rm.frames ∧ 8 + (1 + 11) + 20 ≤ rm.locals) (hW : (rest.map fun v => v.category).sum ≤ 8) (d : decode cc pc = .ok (.invokevirtual 89, 3)) (k : ∀ (r : Int32) (u : St), post r u → G X (wI E a) u (pc + 3) lv (.int r :: rest)) : G X (wI E a) σ pc lv (.ref (E.2.2 (20 + i)) :: rest) := g_callT C 0 (As := []) (rest := rest) h.1 (by decide +kernel) (by decide +kernel) (by decide +kernel) (by decide +kernel) (by decide +kernel) (by decide +kernel) (cS_length h) ⟨rfl, rfl⟩ hR rfl rfl hW d k
theorem csSI_X1_95 {X : Kx} {l : Launch} {E : Ev} {a : Nat → Nat} {σ : St} {cc : ByteArray} {rm : Room} {ret : Option FieldType} {pc : Nat} {lv : List (Option Value)} {rest : List Value} {i : Nat} {x0 : Int32} {post : Int32 → St → Prop} (C : Cx X l E RX1 cc rm ret) (h : wpS_charAt i x0 σ post) (hR : 3 + 1 ≤ rm.frames ∧ 8 + (2 + 11) + 64 ≤ rm.locals) (hW : (rest.map fun v => v.category).sum ≤ 8) (d : decode cc pc = .ok (.invokevirtual 95, 3)) (k : ∀ (r : Int32) (u : St), post r u → G X (wI E a) u (pc + 3) lv (.int r :: rest)) : G X (wI E a) σ pc lv (.int x0 :: .ref (E.2.2 (20 + i)) :: rest) := g_callT C 1 (As := [.int x0]) (rest := rest) h.1 (by decide +kernel) (by decide +kernel) (by decide +kernel) (by decide +kernel) (by decide +kernel) (by decide +kernel) (cS_charAt h) ⟨rfl, rfl⟩ hR rfl rfl hW d k
/-! IceRun$LawReader.spells(LIceRun$Tape;Ljava/lang/String;)Z -/
abbrev rmI_X1_spells : Room := { frames := 4, cells := 0, slots := 0, locals := 85 }
def wpBI_X1_spells_20 (k_20 : Nat → Int32 → St → Prop) (n2 : Nat) (x3 : Int32) (σ : St) (post : Int32 → St → Prop) : Prop := wpS_length n2 σ (fun r2 σ1 => ((r2 ≤ x3 → post 1 σ1) ∧ (¬ r2 ≤ x3 → wpI_X7_byteAt ((σ1.1 602) + x3) σ1 (fun r4 σ3 => wpS_charAt n2 x3 σ3 (fun r6 σ5 => ((r4 = r6 → let y7 : Int32 := x3 + 1; k_20 n2 y7 σ5) ∧ (¬ r4 = r6 → post 0 σ5)))))))
def wpI_X1_spells_20 (n2 : Nat) (x3 : Int32) (σ : St) (post : Int32 → St → Prop) : Prop := ∃ n : Nat, lpN (α := Nat × Int32 × St) (fun kb t => wpBI_X1_spells_20 (fun n2 x3 σ => kb (n2, x3, σ)) t.1 t.2.1 t.2.2 post) n (n2, x3, σ)
theorem kBI_X1_spells_20 {X : Kx} {l : Launch} {E : Ev} {a : Nat → Nat} {post : Int32 → St → Prop} (C : Cx X l E RX1 cX1_spells rmI_X1_spells (some .boolean)) (hQ : QI X (wI E a) post) (k_20 : Nat → Int32 → St → Prop) (hk_20 : ∀ (n2 : Nat) (x3 : Int32) (σ : St), k_20 n2 x3 σ → G X (wI E a) σ 20 [some (.ref (a 600)), some (.ref (a 400)), some (.ref (E.2.2 (20 + n2))), some (.int x3)] []) (n2 : Nat) (x3 : Int32) (σ : St) (h : wpBI_X1_spells_20 k_20 n2 x3 σ post) : G X (wI E a) σ 20 [some (.ref (a 600)), some (.ref (a 400)), some (.ref (E.2.2 (20 + n2))), some (.int x3)] [] := by
  unfold wpBI_X1_spells_20 at h
  refine g_iload_3 C dX1_spells_20 rfl ?_
  refine g_aload_2 C dX1_spells_21 rfl ?_
  refine csSI_X1_89 C h ⟨Nat.le_of_ble_eq_true rfl, Nat.le_of_ble_eq_true rfl⟩ (Nat.le_of_ble_eq_true rfl) dX1_spells_22 (fun _ _ h => ?_)
  refine g_icmp_ge C 54 dX1_spells_25 (by decide) (fun q => ?_) (fun q => ?_)
  · have h := h.1 q
    refine g_iconst_1 C dX1_spells_54 ?_
    exact g_zreturn C hQ dX1_spells_55 (Or.inr rfl) h
  · have h := h.2 q
    refine g_aload_1 C dX1_spells_28 rfl ?_
    refine g_aload_0 C dX1_spells_29 rfl ?_
    refine fgI_X1_19 C dX1_spells_30 ?_
    refine g_iload_3 C dX1_spells_33 rfl ?_
    refine g_iadd C dX1_spells_34 ?_
    refine csI_X1_67 C h ⟨Nat.le_of_ble_eq_true rfl, Nat.le_of_ble_eq_true rfl⟩ (Nat.le_of_ble_eq_true rfl) dX1_spells_35 (fun _ _ h => ?_)
    refine g_aload_2 C dX1_spells_38 rfl ?_
    refine g_iload_3 C dX1_spells_39 rfl ?_
    refine csSI_X1_95 C h ⟨Nat.le_of_ble_eq_true rfl, Nat.le_of_ble_eq_true rfl⟩ (Nat.le_of_ble_eq_true rfl) dX1_spells_40 (fun _ _ h => ?_)
    refine g_icmp_eq C 48 dX1_spells_43 (by decide) (fun q => ?_) (fun q => ?_)
    · have h := h.1 q
      refine g_iinc C (v := 1) (by decide) dX1_spells_48 rfl ?_
      refine g_goto C 20 dX1_spells_51 (by decide) ?_
      exact g_wk (hk_20 _ _ _ h) (And.intro rfl (And.intro rfl (And.intro rfl (And.intro rfl (trivial)))))
    · have h := h.2 q
      refine g_iconst_0 C dX1_spells_46 ?_
      exact g_zreturn C hQ dX1_spells_47 (Or.inl rfl) h
theorem kI_X1_spells_20 {X : Kx} {l : Launch} {E : Ev} {a : Nat → Nat} {post : Int32 → St → Prop} (C : Cx X l E RX1 cX1_spells rmI_X1_spells (some .boolean)) (hQ : QI X (wI E a) post) (n2 : Nat) (x3 : Int32) (σ : St) (h : wpI_X1_spells_20  n2 x3 σ post) : G X (wI E a) σ 20 [some (.ref (a 600)), some (.ref (a 400)), some (.ref (E.2.2 (20 + n2))), some (.int x3)] [] := by
  obtain ⟨n, h⟩ := h
  exact g_loop (J := fun t : Nat × Int32 × St => G X (wI E a) t.2.2 20 [some (.ref (a 600)), some (.ref (a 400)), some (.ref (E.2.2 (20 + t.1))), some (.int t.2.1)] []) (fun kb hkb t ht => kBI_X1_spells_20 C hQ  (fun n2 x3 σ => kb (n2, x3, σ)) (fun n2 x3 σ hh => hkb (n2, x3, σ) hh) t.1 t.2.1 t.2.2 ht) n (n2, x3, σ) h
def wpI_X1_spells (n2 : Nat) (σ : St) (post : Int32 → St → Prop) : Prop := wpS_length n2 σ (fun r2 σ1 => ((((σ.1 603) - (σ.1 602)) = r2 → wpI_X1_spells_20 n2 0 σ1 post) ∧ (¬ ((σ.1 603) - (σ.1 602)) = r2 → post 0 σ1)))
theorem kI_X1_spells {X : Kx} {l : Launch} {E : Ev} {a : Nat → Nat} {post : Int32 → St → Prop} (C : Cx X l E RX1 cX1_spells rmI_X1_spells (some .boolean)) (hQ : QI X (wI E a) post) (n2 : Nat) (σ : St) (h : wpI_X1_spells n2 σ post) : G X (wI E a) σ 0 [some (.ref (a 600)), some (.ref (a 400)), some (.ref (E.2.2 (20 + n2))), none] [] := by
  unfold wpI_X1_spells at h
  refine g_aload_0 C dX1_spells_0 rfl ?_
  refine fgI_X1_22 C dX1_spells_1 ?_
  refine g_aload_0 C dX1_spells_4 rfl ?_
  refine fgI_X1_19 C dX1_spells_5 ?_
  refine g_isub C dX1_spells_8 ?_
  refine g_aload_2 C dX1_spells_9 rfl ?_
  refine csSI_X1_89 C h ⟨Nat.le_of_ble_eq_true rfl, Nat.le_of_ble_eq_true rfl⟩ (Nat.le_of_ble_eq_true rfl) dX1_spells_10 (fun _ _ h => ?_)
  refine g_icmp_eq C 18 dX1_spells_13 (by decide) (fun q => ?_) (fun q => ?_)
  · have h := h.1 q
    refine g_iconst_0 C dX1_spells_18 ?_
    refine g_istore_3 C dX1_spells_19 (Nat.le_of_ble_eq_true rfl) ?_
    exact g_wk (kI_X1_spells_20 C hQ _ _ _ h) (And.intro rfl (And.intro rfl (And.intro rfl (And.intro rfl (trivial)))))
  · have h := h.2 q
    refine g_iconst_0 C dX1_spells_16 ?_
    exact g_zreturn C hQ dX1_spells_17 (Or.inl rfl) h
theorem cI_X1_spells {l : Launch} {E : Ev} {a : Nat → Nat} {n2 : Nat} {σ : St} {post : Int32 → St → Prop} (h : wpI_X1_spells n2 σ post) : CI l E (wI E a) yX1_spells cX1_spells 4 .boolean rmI_X1_spells [.ref (a 600), .ref (a 400), .ref (E.2.2 (20 + n2))] σ post := met_i (by decide) rfl (Nat.le_of_ble_eq_true rfl) rfl (fun X C hQ => kI_X1_spells C hQ _ _ h)
theorem us_X1_77 : Cond.fieldLinkNest RX1 77 "IceRun$Word" "ALL" "[LIceRun$Word;" "IceRun" ∈ NW := by decide +kernel
theorem wf_X1_81 : Cond.fieldLinkNest RX1 81 "IceRun$Word" "text" "Ljava/lang/String;" "IceRun" ∈ NW := by decide +kernel
theorem csI_X1_85 {X : Kx} {l : Launch} {E : Ev} {a : Nat → Nat} {σ : St} {cc : ByteArray} {rm : Room} {ret : Option FieldType} {pc : Nat} {lv : List (Option Value)} {rest : List Value} {n1 : Nat} {post : Int32 → St → Prop} (C : Cx X l E RX1 cc rm ret) (h : wpI_X1_spells n1 σ post) (hR : 4 + 1 ≤ rm.frames ∧ 8 + (4 + 11) + 85 ≤ rm.locals) (hW : (rest.map fun v => v.category).sum ≤ 8) (d : decode cc pc = .ok (.invokevirtual 85, 3)) (k : ∀ (r : Int32) (u : St), post r u → G X (wI E a) u (pc + 3) lv (.int r :: rest)) : G X (wI E a) σ pc lv (.ref (E.2.2 (20 + n1)) :: .ref (a 400) :: .ref (a 600) :: rest) := g_callVi C 2 (As := [.ref (a 400), .ref (E.2.2 (20 + n1))]) (rest := rest) (Cn := RX1) (T := TX1) (N := 5) (q0 := 27) (ci := 1) (by decide +kernel) (by decide +kernel) (by decide +kernel) (by decide +kernel) (by decide +kernel) (by decide +kernel) rfl rfl (cI_X1_spells h) ⟨rfl, rfl⟩ hR rfl rfl hW d k
/-! IceRun$LawReader.wordAtHand(LIceRun$Tape;)LIceRun$Word; -/
abbrev rmI_X1_wordAtHand : Room := { frames := 5, cells := 0, slots := 0, locals := 108 }
def wpI_X1_wordAtHand_46 (σ : St) (post : Option Nat → St → Prop) : Prop := post none σ
theorem kI_X1_wordAtHand_46 {X : Kx} {l : Launch} {E : Ev} {a : Nat → Nat} {post : Option Nat → St → Prop} (C : Cx X l E RX1 cX1_wordAtHand rmI_X1_wordAtHand (some (.object "IceRun$Word"))) (hQ : QW X (wI E a) post) (σ : St) (h : wpI_X1_wordAtHand_46   σ post) : G X (wI E a) σ 46 [none, none, none] [] := by
  unfold wpI_X1_wordAtHand_46 at h
  refine g_null C dX1_wordAtHand_46 ?_
  exact g_nullreturn C hQ dX1_wordAtHand_47 h
def wpBI_X1_wordAtHand_10 (k_10 : Int32 → St → Prop) (x2 : Int32) (σ : St) (post : Option Nat → St → Prop) : Prop := ((7 ≤ x2 → wpI_X1_wordAtHand_46 σ post) ∧ (¬ 7 ≤ x2 → vp_in x2 7 ∧ ((Int32.toNatClampNeg x2) < 7 ∧ (wpI_X1_spells (Int32.toNatClampNeg x2) σ (fun r2 σ1 => ((r2 = 0 → let y3 : Int32 := x2 + 1; k_10 y3 σ1) ∧ (¬ r2 = 0 → vp_in x2 7 ∧ (post (some (Int32.toNatClampNeg x2)) σ1))))))))
def wpI_X1_wordAtHand_10 (x2 : Int32) (σ : St) (post : Option Nat → St → Prop) : Prop := ∃ n : Nat, lpN (α := Int32 × St) (fun kb t => wpBI_X1_wordAtHand_10 (fun x2 σ => kb (x2, σ)) t.1 t.2 post) n (x2, σ)
theorem kBI_X1_wordAtHand_10 {X : Kx} {l : Launch} {E : Ev} {a : Nat → Nat} {post : Option Nat → St → Prop} (C : Cx X l E RX1 cX1_wordAtHand rmI_X1_wordAtHand (some (.object "IceRun$Word"))) (hQ : QW X (wI E a) post) (k_10 : Int32 → St → Prop) (hk_10 : ∀ (x2 : Int32) (σ : St), k_10 x2 σ → G X (wI E a) σ 10 [some (.ref (a 600)), some (.ref (a 400)), some (.int x2)] []) (x2 : Int32) (σ : St) (h : wpBI_X1_wordAtHand_10 k_10 x2 σ post) : G X (wI E a) σ 10 [some (.ref (a 600)), some (.ref (a 400)), some (.int x2)] [] := by
  unfold wpBI_X1_wordAtHand_10 at h
  refine g_iload_2 C dX1_wordAtHand_10 rfl ?_
  refine g_wall C us_X1_77 dX1_wordAtHand_11 ?_
  refine g_wlen C dX1_wordAtHand_14 ?_
  refine g_icmp_ge C 46 dX1_wordAtHand_15 (by decide) (fun q => ?_) (fun q => ?_)
  · have h := h.1 q
    exact g_wk (kI_X1_wordAtHand_46 C hQ _ h) (trivial)
  · have h := h.2 q
    refine g_aload_0 C dX1_wordAtHand_18 rfl ?_
    refine g_aload_1 C dX1_wordAtHand_19 rfl ?_
    refine g_wall C us_X1_77 dX1_wordAtHand_20 ?_
    refine g_iload_2 C dX1_wordAtHand_23 rfl ?_
    obtain ⟨q, h⟩ := h
    refine g_wald C q dX1_wordAtHand_24 ?_
    obtain ⟨q, h⟩ := h
    refine g_wtext C q wf_X1_81 dX1_wordAtHand_25 ?_
    refine csI_X1_85 C h ⟨Nat.le_of_ble_eq_true rfl, Nat.le_of_ble_eq_true rfl⟩ (Nat.le_of_ble_eq_true rfl) dX1_wordAtHand_28 (fun _ _ h => ?_)
    refine g_if_eq C 40 dX1_wordAtHand_31 (by decide) (fun q => ?_) (fun q => ?_)
    · have h := h.1 q
      refine g_iinc C (v := 1) (by decide) dX1_wordAtHand_40 rfl ?_
      refine g_goto C 10 dX1_wordAtHand_43 (by decide) ?_
      exact g_wk (hk_10 _ _ h) (And.intro rfl (And.intro rfl (And.intro rfl (trivial))))
    · have h := h.2 q
      refine g_wall C us_X1_77 dX1_wordAtHand_34 ?_
      refine g_iload_2 C dX1_wordAtHand_37 rfl ?_
      obtain ⟨q, h⟩ := h
      refine g_wald C q dX1_wordAtHand_38 ?_
      exact g_wreturn C hQ dX1_wordAtHand_39 h
theorem kI_X1_wordAtHand_10 {X : Kx} {l : Launch} {E : Ev} {a : Nat → Nat} {post : Option Nat → St → Prop} (C : Cx X l E RX1 cX1_wordAtHand rmI_X1_wordAtHand (some (.object "IceRun$Word"))) (hQ : QW X (wI E a) post) (x2 : Int32) (σ : St) (h : wpI_X1_wordAtHand_10  x2 σ post) : G X (wI E a) σ 10 [some (.ref (a 600)), some (.ref (a 400)), some (.int x2)] [] := by
  obtain ⟨n, h⟩ := h
  exact g_loop (J := fun t : Int32 × St => G X (wI E a) t.2 10 [some (.ref (a 600)), some (.ref (a 400)), some (.int t.1)] []) (fun kb hkb t ht => kBI_X1_wordAtHand_10 C hQ  (fun x2 σ => kb (x2, σ)) (fun x2 σ hh => hkb (x2, σ) hh) t.1 t.2 ht) n (x2, σ) h
def wpI_X1_wordAtHand (σ : St) (post : Option Nat → St → Prop) : Prop := ((¬ (σ.1 601) = 1 → wpI_X1_wordAtHand_46 σ post) ∧ ((σ.1 601) = 1 → wpI_X1_wordAtHand_10 0 σ post))
theorem kI_X1_wordAtHand {X : Kx} {l : Launch} {E : Ev} {a : Nat → Nat} {post : Option Nat → St → Prop} (C : Cx X l E RX1 cX1_wordAtHand rmI_X1_wordAtHand (some (.object "IceRun$Word"))) (hQ : QW X (wI E a) post) (σ : St) (h : wpI_X1_wordAtHand  σ post) : G X (wI E a) σ 0 [some (.ref (a 600)), some (.ref (a 400)), none] [] := by
  unfold wpI_X1_wordAtHand at h
  refine g_aload_0 C dX1_wordAtHand_0 rfl ?_
  refine fgI_X1_15 C dX1_wordAtHand_1 ?_
  refine g_iconst_1 C dX1_wordAtHand_4 ?_
  refine g_icmp_ne C 46 dX1_wordAtHand_5 (by decide) (fun q => ?_) (fun q => ?_)
  · have h := h.1 q
    exact g_wk (kI_X1_wordAtHand_46 C hQ _ h) (trivial)
  · have h := h.2 q
    refine g_iconst_0 C dX1_wordAtHand_8 ?_
    refine g_istore_2 C dX1_wordAtHand_9 (Nat.le_of_ble_eq_true rfl) ?_
    exact g_wk (kI_X1_wordAtHand_10 C hQ _ _ h) (And.intro rfl (And.intro rfl (And.intro rfl (trivial))))
theorem cI_X1_wordAtHand {l : Launch} {E : Ev} {a : Nat → Nat} {σ : St} {post : Option Nat → St → Prop} (h : wpI_X1_wordAtHand  σ post) : CW l E (wI E a) yX1_wordAtHand cX1_wordAtHand 3 rmI_X1_wordAtHand [.ref (a 600), .ref (a 400)] σ post := met_w (by decide) rfl (Nat.le_of_ble_eq_true rfl) rfl (fun X C hQ => kI_X1_wordAtHand C hQ _ h)
theorem fgI_X1_25 {X : Kx} {l : Launch} {E : Ev} {a : Nat → Nat} {σ : St} {cc : ByteArray} {rm : Room} {ret : Option FieldType} {pc : Nat} {lv : List (Option Value)} {st : List Value} (C : Cx X l E RX1 cc rm ret) (d : decode cc pc = .ok (.getfield 25, 3)) (k : G X (wI E a) σ (pc + 3) lv (.int (σ.1 604) :: st)) : G X (wI E a) σ pc lv (.ref (a 600) :: st) := g_get C (q0 := 27) (ci := 1) (k := 4) rfl rfl inU_X1 (by decide) (by decide +kernel) rfl d k
theorem fgI_X1_9 {X : Kx} {l : Launch} {E : Ev} {a : Nat → Nat} {σ : St} {cc : ByteArray} {rm : Room} {ret : Option FieldType} {pc : Nat} {lv : List (Option Value)} {st : List Value} (C : Cx X l E RX1 cc rm ret) (d : decode cc pc = .ok (.getfield 9, 3)) (k : G X (wI E a) σ (pc + 3) lv (.ref (a 601) :: st)) : G X (wI E a) σ pc lv (.ref (a 600) :: st) := g_get C (q0 := 27) (ci := 1) (k := 0) rfl rfl inU_X1 (by decide) (by decide +kernel) rfl d k
theorem wf_X1_64 : Cond.fieldLinkNest RX1 64 "IceRun$Word" "slot" "I" "IceRun" ∈ NW := by decide +kernel
theorem asI_600 {X : Kx} {l : Launch} {E : Ev} {a : Nat → Nat} {σ : St} {cc : ByteArray} {rm : Room} {ret : Option FieldType} {pc : Nat} {lv : List (Option Value)} {st : List Value} {own : String} {i x : Int32} (C : Cx X l E own cc rm ret) (hin : vp_in i 6) (d : decode cc pc = .ok (.iastore, 1)) (k : G X (wI E a) (pA σ 600 i.toNatClampNeg x) (pc + 1) lv st) : G X (wI E a) σ pc lv (.int x :: .int i :: .ref (a 601) :: st) := g_iast C (q0 := 28) rfl rfl hin d k
theorem csI_X1_44 {X : Kx} {l : Launch} {E : Ev} {a : Nat → Nat} {σ : St} {cc : ByteArray} {rm : Room} {ret : Option FieldType} {pc : Nat} {lv : List (Option Value)} {rest : List Value} {post : Option Nat → St → Prop} (C : Cx X l E RX1 cc rm ret) (h : wpI_X1_wordAtHand  σ post) (hR : 5 + 1 ≤ rm.frames ∧ 8 + (3 + 11) + 108 ≤ rm.locals) (hW : (rest.map fun v => v.category).sum ≤ 8) (d : decode cc pc = .ok (.invokevirtual 44, 3)) (k : ∀ u : St, post none u → G X (wI E a) u (pc + 3) lv (.null :: rest)) (k1 : ∀ (j : Nat) (u : St), post (some j) u → G X (wI E a) u (pc + 3) lv (.ref (E.2.2 (10 + j)) :: rest)) : G X (wI E a) σ pc lv (.ref (a 400) :: .ref (a 600) :: rest) := g_callVw C 1 (As := [.ref (a 400)]) (rest := rest) (Cn := RX1) (T := TX1) (N := 5) (q0 := 27) (ci := 1) (by decide +kernel) (by decide +kernel) (by decide +kernel) (by decide +kernel) (by decide +kernel) (by decide +kernel) rfl rfl (cI_X1_wordAtHand h) ⟨rfl, rfl⟩ hR rfl rfl hW d k k1
theorem wf_X1_48 : Cond.fieldLinkNest RX1 48 "IceRun$Word" "numbered" "Z" "IceRun" ∈ NW := by decide +kernel
theorem wf_X1_54 : Cond.fieldLinkNest RX1 54 "IceRun$Word" "low" "I" "IceRun" ∈ NW := by decide +kernel
theorem wf_X1_57 : Cond.fieldLinkNest RX1 57 "IceRun$Word" "high" "I" "IceRun" ∈ NW := by decide +kernel
theorem csI_X1_60 {X : Kx} {l : Launch} {E : Ev} {a : Nat → Nat} {σ : St} {cc : ByteArray} {rm : Room} {ret : Option FieldType} {pc : Nat} {lv : List (Option Value)} {rest : List Value} {x1 x2 : Int32} {post : Int32 → St → Prop} (C : Cx X l E RX1 cc rm ret) (h : wpI_X1_readNumber x1 x2 σ post) (hR : 2 + 1 ≤ rm.frames ∧ 8 + (6 + 11) + 43 ≤ rm.locals) (hW : (rest.map fun v => v.category).sum ≤ 8) (d : decode cc pc = .ok (.invokevirtual 60, 3)) (k : ∀ (r : Int32) (u : St), post r u → G X (wI E a) u (pc + 3) lv (.int r :: rest)) : G X (wI E a) σ pc lv (.int x2 :: .int x1 :: .ref (a 400) :: .ref (a 600) :: rest) := g_callVi C 3 (As := [.ref (a 400), .int x1, .int x2]) (rest := rest) (Cn := RX1) (T := TX1) (N := 5) (q0 := 27) (ci := 1) (by decide +kernel) (by decide +kernel) (by decide +kernel) (by decide +kernel) (by decide +kernel) (by decide +kernel) rfl rfl (cI_X1_readNumber h) ⟨rfl, rfl⟩ hR rfl rfl hW d k
/-! IceRun$LawReader.readLaw(LIceRun$Tape;)V -/
abbrev rmI_X1_readLaw : Room := { frames := 6, cells := 0, slots := 0, locals := 130 }
def wpI_X1_readLaw_91 (σ : St) (post : St → Prop) : Prop := post σ
theorem kI_X1_readLaw_91 {X : Kx} {l : Launch} {E : Ev} {a : Nat → Nat} {post : St → Prop} (C : Cx X l E RX1 cX1_readLaw rmI_X1_readLaw none) (hQ : QV X (wI E a) post) (σ : St) (h : wpI_X1_readLaw_91   σ post) : G X (wI E a) σ 91 [none, none, none, none] [] := by
  unfold wpI_X1_readLaw_91 at h
  exact g_return C hQ dX1_readLaw_91 h
def wpI_X1_readLaw_69 (n2 : Nat) (x3 : Int32) (σ : St) (post : St → Prop) : Prop := ((¬ (σ.1 604) = 0 → wpI_X1_readLaw_91 σ post) ∧ ((σ.1 604) = 0 → n2 < 7 ∧ (vp_in (wdSlot n2) 6 ∧ (let σ1 : St := pA σ 600 (Int32.toNatClampNeg (wdSlot n2)) x3; wpI_X1_advance σ1 (fun σ2 => wpI_X1_readLaw_91 σ2 post)))))
theorem kI_X1_readLaw_69 {X : Kx} {l : Launch} {E : Ev} {a : Nat → Nat} {post : St → Prop} (C : Cx X l E RX1 cX1_readLaw rmI_X1_readLaw none) (hQ : QV X (wI E a) post) (n2 : Nat) (x3 : Int32) (σ : St) (h : wpI_X1_readLaw_69  n2 x3 σ post) : G X (wI E a) σ 69 [some (.ref (a 600)), some (.ref (a 400)), some (.ref (E.2.2 (10 + n2))), some (.int x3)] [] := by
  unfold wpI_X1_readLaw_69 at h
  refine g_aload_0 C dX1_readLaw_69 rfl ?_
  refine fgI_X1_25 C dX1_readLaw_70 ?_
  refine g_if_ne C 91 dX1_readLaw_73 (by decide) (fun q => ?_) (fun q => ?_)
  · have h := h.1 q
    exact g_wk (kI_X1_readLaw_91 C hQ _ h) (trivial)
  · have h := h.2 q
    refine g_aload_0 C dX1_readLaw_76 rfl ?_
    refine fgI_X1_9 C dX1_readLaw_77 ?_
    refine g_aload_2 C dX1_readLaw_80 rfl ?_
    obtain ⟨q, h⟩ := h
    refine g_wslot C q wf_X1_64 dX1_readLaw_81 ?_
    refine g_iload_3 C dX1_readLaw_84 rfl ?_
    obtain ⟨q, h⟩ := h
    refine asI_600 C q dX1_readLaw_85 ?_
    refine g_aload_0 C dX1_readLaw_86 rfl ?_
    refine g_aload_1 C dX1_readLaw_87 rfl ?_
    refine csI_X1_37 C h ⟨Nat.le_of_ble_eq_true rfl, Nat.le_of_ble_eq_true rfl⟩ (Nat.le_of_ble_eq_true rfl) dX1_readLaw_88 (fun _ h => ?_)
    exact g_wk (kI_X1_readLaw_91 C hQ _ h) (trivial)
def wpI_X1_readLaw_48 (n2 : Nat) (s0 : Int32) (σ : St) (post : St → Prop) : Prop := ((¬ (σ.1 604) = 0 → wpI_X1_readLaw_69 n2 s0 σ post) ∧ ((σ.1 604) = 0 → (((σ.1 601) = 3 → wpI_X1_readLaw_69 n2 s0 σ post) ∧ (¬ (σ.1 601) = 3 → let σ1 : St := pI σ 604 1; wpI_X1_readLaw_69 n2 s0 σ1 post))))
theorem kI_X1_readLaw_48 {X : Kx} {l : Launch} {E : Ev} {a : Nat → Nat} {post : St → Prop} (C : Cx X l E RX1 cX1_readLaw rmI_X1_readLaw none) (hQ : QV X (wI E a) post) (n2 : Nat) (s0 : Int32) (σ : St) (h : wpI_X1_readLaw_48  n2 s0 σ post) : G X (wI E a) σ 48 [some (.ref (a 600)), some (.ref (a 400)), some (.ref (E.2.2 (10 + n2))), none] [.int s0] := by
  unfold wpI_X1_readLaw_48 at h
  refine g_istore_3 C dX1_readLaw_48 (Nat.le_of_ble_eq_true rfl) ?_
  refine g_aload_0 C dX1_readLaw_49 rfl ?_
  refine fgI_X1_25 C dX1_readLaw_50 ?_
  refine g_if_ne C 69 dX1_readLaw_53 (by decide) (fun q => ?_) (fun q => ?_)
  · have h := h.1 q
    exact g_wk (kI_X1_readLaw_69 C hQ _ _ _ h) (And.intro rfl (And.intro rfl (And.intro rfl (And.intro rfl (trivial)))))
  · have h := h.2 q
    refine g_aload_0 C dX1_readLaw_56 rfl ?_
    refine fgI_X1_15 C dX1_readLaw_57 ?_
    refine g_iconst_3 C dX1_readLaw_60 ?_
    refine g_icmp_eq C 69 dX1_readLaw_61 (by decide) (fun q => ?_) (fun q => ?_)
    · have h := h.1 q
      exact g_wk (kI_X1_readLaw_69 C hQ _ _ _ h) (And.intro rfl (And.intro rfl (And.intro rfl (And.intro rfl (trivial)))))
    · have h := h.2 q
      refine g_aload_0 C dX1_readLaw_64 rfl ?_
      refine g_iconst_1 C dX1_readLaw_65 ?_
      refine fpI_X1_25 C dX1_readLaw_66 ?_
      exact g_wk (kI_X1_readLaw_69 C hQ _ _ _ h) (And.intro rfl (And.intro rfl (And.intro rfl (And.intro rfl (trivial)))))
def wpI_X1_readLaw (σ : St) (post : St → Prop) : Prop := wpI_X1_wordAtHand  σ (fun r2 σ1 => (r2 = none → let σ4 : St := pI σ1 604 1; post σ4) ∧ (∀ j3 : Nat, r2 = some j3 → wpI_X1_advance  σ1 (fun σ5 => j3 < 7 ∧ ((((wdNum j3) = 0 → j3 < 7 ∧ (wpI_X1_readLaw_48 j3 (wdLow j3) σ5 post)) ∧ (¬ (wdNum j3) = 0 → j3 < 7 ∧ (j3 < 7 ∧ (wpI_X1_readNumber (wdLow j3) (wdHigh j3) σ5 (fun r7 σ6 => wpI_X1_readLaw_48 j3 r7 σ6 post)))))))))
theorem kI_X1_readLaw {X : Kx} {l : Launch} {E : Ev} {a : Nat → Nat} {post : St → Prop} (C : Cx X l E RX1 cX1_readLaw rmI_X1_readLaw none) (hQ : QV X (wI E a) post) (σ : St) (h : wpI_X1_readLaw  σ post) : G X (wI E a) σ 0 [some (.ref (a 600)), some (.ref (a 400)), none, none] [] := by
  unfold wpI_X1_readLaw at h
  refine g_aload_0 C dX1_readLaw_0 rfl ?_
  refine g_aload_1 C dX1_readLaw_1 rfl ?_
  refine csI_X1_44 C h ⟨Nat.le_of_ble_eq_true rfl, Nat.le_of_ble_eq_true rfl⟩ (Nat.le_of_ble_eq_true rfl) dX1_readLaw_2 (fun _ h => ?_) (fun _ _ h => ?_)
  · have h := h.1 rfl
    refine g_nstore_2 C dX1_readLaw_5 (Nat.le_of_ble_eq_true rfl) ?_
    refine g_nload_2 C dX1_readLaw_6 rfl ?_
    refine g_nnN C dX1_readLaw_7 ?_
    refine g_aload_0 C dX1_readLaw_10 rfl ?_
    refine g_iconst_1 C dX1_readLaw_11 ?_
    refine fpI_X1_25 C dX1_readLaw_12 ?_
    exact g_return C hQ dX1_readLaw_15 h
  · have h := h.2 _ rfl
    refine g_astore_2 C dX1_readLaw_5 (Nat.le_of_ble_eq_true rfl) ?_
    refine g_aload_2 C dX1_readLaw_6 rfl ?_
    refine g_nnR C 16 dX1_readLaw_7 (by decide) ?_
    refine g_aload_0 C dX1_readLaw_16 rfl ?_
    refine g_aload_1 C dX1_readLaw_17 rfl ?_
    refine csI_X1_37 C h ⟨Nat.le_of_ble_eq_true rfl, Nat.le_of_ble_eq_true rfl⟩ (Nat.le_of_ble_eq_true rfl) dX1_readLaw_18 (fun _ h => ?_)
    refine g_aload_2 C dX1_readLaw_21 rfl ?_
    obtain ⟨q, h⟩ := h
    refine g_wnumbered C q wf_X1_48 dX1_readLaw_22 ?_
    refine g_if_eq C 44 dX1_readLaw_25 (by decide) (fun q => ?_) (fun q => ?_)
    · have h := h.1 q
      refine g_aload_2 C dX1_readLaw_44 rfl ?_
      obtain ⟨q, h⟩ := h
      refine g_wlow C q wf_X1_54 dX1_readLaw_45 ?_
      exact g_wk (kI_X1_readLaw_48 C hQ _ _ _ h) (And.intro rfl (And.intro rfl (And.intro rfl (trivial))))
    · have h := h.2 q
      refine g_aload_0 C dX1_readLaw_28 rfl ?_
      refine g_aload_1 C dX1_readLaw_29 rfl ?_
      refine g_aload_2 C dX1_readLaw_30 rfl ?_
      obtain ⟨q, h⟩ := h
      refine g_wlow C q wf_X1_54 dX1_readLaw_31 ?_
      refine g_aload_2 C dX1_readLaw_34 rfl ?_
      obtain ⟨q, h⟩ := h
      refine g_whigh C q wf_X1_57 dX1_readLaw_35 ?_
      refine csI_X1_60 C h ⟨Nat.le_of_ble_eq_true rfl, Nat.le_of_ble_eq_true rfl⟩ (Nat.le_of_ble_eq_true rfl) dX1_readLaw_38 (fun _ _ h => ?_)
      refine g_goto C 48 dX1_readLaw_41 (by decide) ?_
      exact g_wk (kI_X1_readLaw_48 C hQ _ _ _ h) (And.intro rfl (And.intro rfl (And.intro rfl (trivial))))
theorem cI_X1_readLaw {l : Launch} {E : Ev} {a : Nat → Nat} {σ : St} {post : St → Prop} (h : wpI_X1_readLaw  σ post) : CV l E (wI E a) yX1_readLaw cX1_readLaw 4 rmI_X1_readLaw [.ref (a 600), .ref (a 400)] σ post := met_v (by decide) rfl (Nat.le_of_ble_eq_true rfl) rfl (fun X C hQ => kI_X1_readLaw C hQ _ h)
theorem csI_X1_41 {X : Kx} {l : Launch} {E : Ev} {a : Nat → Nat} {σ : St} {cc : ByteArray} {rm : Room} {ret : Option FieldType} {pc : Nat} {lv : List (Option Value)} {rest : List Value} {post : St → Prop} (C : Cx X l E RX1 cc rm ret) (h : wpI_X1_readLaw  σ post) (hR : 6 + 1 ≤ rm.frames ∧ 8 + (4 + 11) + 130 ≤ rm.locals) (hW : (rest.map fun v => v.category).sum ≤ 8) (d : decode cc pc = .ok (.invokevirtual 41, 3)) (k : ∀ u : St, post u → G X (wI E a) u (pc + 3) lv rest) : G X (wI E a) σ pc lv (.ref (a 400) :: .ref (a 600) :: rest) := g_callVv C 1 (As := [.ref (a 400)]) (rest := rest) (Cn := RX1) (T := TX1) (N := 5) (q0 := 27) (ci := 1) (by decide +kernel) (by decide +kernel) (by decide +kernel) (by decide +kernel) (by decide +kernel) (by decide +kernel) rfl rfl (cI_X1_readLaw h) ⟨rfl, rfl⟩ hR rfl rfl hW d k
theorem us_X1_28 : Cond.fieldLinkNest RX1 28 "IceRun" "USUAL" "[I" "IceRun" ∈ NW := by decide +kernel
theorem ac_X1_31 : Cond.methodLink RX1 31 arraycopyName ∈ UW := by decide +kernel
theorem cuI_600 {X : Kx} {l : Launch} {E : Ev} {a : Nat → Nat} {σ : St} {cc : ByteArray} {rm : Room} {ret : Option FieldType} {pc : Nat} {lv : List (Option Value)} {st : List Value} {own : String} {idx : Nat} {sp dp n : Int32} (C : Cx X l E own cc rm ret) (h1 : Cond.methodLink own idx arraycopyName ∈ UW) (h2 : Cond.native arraycopyName ∈ UW) (h3 : Cond.static arraycopyName ∈ UW) (h4 : Cond.initialized "java/lang/System" ∈ UW) (hc : ¬ sp < 0 ∧ ¬ dp < 0 ∧ ¬ n < 0 ∧ sp.toNatClampNeg + n.toNatClampNeg ≤ 6 ∧ dp.toNatClampNeg + n.toNatClampNeg ≤ 6) (hR : 1 ≤ rm.frames ∧ (st.map fun v => v.category).sum + 18 ≤ rm.locals) (d : decode cc pc = .ok (.invokestatic idx, 3)) (k : G X (wI E a) (pC σ 600 (va_cpy usualF (σ.2 600) sp.toNatClampNeg dp.toNatClampNeg n.toNatClampNeg)) (pc + 3) lv st) : G X (wI E a) σ pc lv (.int n :: .int dp :: .ref (a 601) :: .int sp :: .ref (E.2.2 0) :: st) := g_copyU C h1 h2 h3 h4 (q1 := 28) rfl rfl hc hR d k
/-! IceRun$LawReader.read(LIceRun$Tape;)I -/
abbrev rmI_X1_read : Room := { frames := 7, cells := 0, slots := 0, locals := 153 }
def wpI_X1_read_63 (σ : St) (post : Int32 → St → Prop) : Prop := post (σ.1 604) σ
theorem kI_X1_read_63 {X : Kx} {l : Launch} {E : Ev} {a : Nat → Nat} {post : Int32 → St → Prop} (C : Cx X l E RX1 cX1_read rmI_X1_read (some .int)) (hQ : QI X (wI E a) post) (σ : St) (h : wpI_X1_read_63   σ post) : G X (wI E a) σ 63 [some (.ref (a 600)), none, none] [] := by
  unfold wpI_X1_read_63 at h
  refine g_aload_0 C dX1_read_63 rfl ?_
  refine fgI_X1_25 C dX1_read_64 ?_
  exact g_ireturn C hQ dX1_read_67 h
def wpBI_X1_read_31 (k_31 : Int32 → St → Prop) (x2 : Int32) (σ : St) (post : Int32 → St → Prop) : Prop := ((300 ≤ x2 → wpI_X1_read_63 σ post) ∧ (¬ 300 ≤ x2 → ((¬ (σ.1 604) = 0 → wpI_X1_read_63 σ post) ∧ ((σ.1 604) = 0 → (((σ.1 601) = 0 → wpI_X1_read_63 σ post) ∧ (¬ (σ.1 601) = 0 → wpI_X1_readLaw σ (fun σ1 => let y2 : Int32 := x2 + 1; k_31 y2 σ1)))))))
def wpI_X1_read_31 (x2 : Int32) (σ : St) (post : Int32 → St → Prop) : Prop := ∃ n : Nat, lpN (α := Int32 × St) (fun kb t => wpBI_X1_read_31 (fun x2 σ => kb (x2, σ)) t.1 t.2 post) n (x2, σ)
theorem kBI_X1_read_31 {X : Kx} {l : Launch} {E : Ev} {a : Nat → Nat} {post : Int32 → St → Prop} (C : Cx X l E RX1 cX1_read rmI_X1_read (some .int)) (hQ : QI X (wI E a) post) (k_31 : Int32 → St → Prop) (hk_31 : ∀ (x2 : Int32) (σ : St), k_31 x2 σ → G X (wI E a) σ 31 [some (.ref (a 600)), some (.ref (a 400)), some (.int x2)] []) (x2 : Int32) (σ : St) (h : wpBI_X1_read_31 k_31 x2 σ post) : G X (wI E a) σ 31 [some (.ref (a 600)), some (.ref (a 400)), some (.int x2)] [] := by
  unfold wpBI_X1_read_31 at h
  refine g_iload_2 C dX1_read_31 rfl ?_
  refine g_sipush C (v := 300) (by decide) dX1_read_32 ?_
  refine g_icmp_ge C 63 dX1_read_35 (by decide) (fun q => ?_) (fun q => ?_)
  · have h := h.1 q
    exact g_wk (kI_X1_read_63 C hQ _ h) (And.intro rfl (trivial))
  · have h := h.2 q
    refine g_aload_0 C dX1_read_38 rfl ?_
    refine fgI_X1_25 C dX1_read_39 ?_
    refine g_if_ne C 63 dX1_read_42 (by decide) (fun q => ?_) (fun q => ?_)
    · have h := h.1 q
      exact g_wk (kI_X1_read_63 C hQ _ h) (And.intro rfl (trivial))
    · have h := h.2 q
      refine g_aload_0 C dX1_read_45 rfl ?_
      refine fgI_X1_15 C dX1_read_46 ?_
      refine g_if_eq C 63 dX1_read_49 (by decide) (fun q => ?_) (fun q => ?_)
      · have h := h.1 q
        exact g_wk (kI_X1_read_63 C hQ _ h) (And.intro rfl (trivial))
      · have h := h.2 q
        refine g_aload_0 C dX1_read_52 rfl ?_
        refine g_aload_1 C dX1_read_53 rfl ?_
        refine csI_X1_41 C h ⟨Nat.le_of_ble_eq_true rfl, Nat.le_of_ble_eq_true rfl⟩ (Nat.le_of_ble_eq_true rfl) dX1_read_54 (fun _ h => ?_)
        refine g_iinc C (v := 1) (by decide) dX1_read_57 rfl ?_
        refine g_goto C 31 dX1_read_60 (by decide) ?_
        exact g_wk (hk_31 _ _ h) (And.intro rfl (And.intro rfl (And.intro rfl (trivial))))
theorem kI_X1_read_31 {X : Kx} {l : Launch} {E : Ev} {a : Nat → Nat} {post : Int32 → St → Prop} (C : Cx X l E RX1 cX1_read rmI_X1_read (some .int)) (hQ : QI X (wI E a) post) (x2 : Int32) (σ : St) (h : wpI_X1_read_31  x2 σ post) : G X (wI E a) σ 31 [some (.ref (a 600)), some (.ref (a 400)), some (.int x2)] [] := by
  obtain ⟨n, h⟩ := h
  exact g_loop (J := fun t : Int32 × St => G X (wI E a) t.2 31 [some (.ref (a 600)), some (.ref (a 400)), some (.int t.1)] []) (fun kb hkb t ht => kBI_X1_read_31 C hQ  (fun x2 σ => kb (x2, σ)) (fun x2 σ hh => hkb (x2, σ) hh) t.1 t.2 ht) n (x2, σ) h
def wpI_X1_read (σ : St) (post : Int32 → St → Prop) : Prop := (¬ (0 : Int32) < 0 ∧ ¬ (0 : Int32) < 0 ∧ ¬ (6 : Int32) < 0 ∧ (Int32.toNatClampNeg 0) + (Int32.toNatClampNeg 6) ≤ 6 ∧ (Int32.toNatClampNeg 0) + (Int32.toNatClampNeg 6) ≤ 6) ∧ (let σ1 : St := pC σ 600 (va_cpy usualF (σ.2 600) (Int32.toNatClampNeg 0) (Int32.toNatClampNeg 0) (Int32.toNatClampNeg 6)); let σ2 : St := pI σ1 603 0; let σ3 : St := pI σ2 604 0; wpI_X1_advance  σ3 (fun σ4 => wpI_X1_read_31 0 σ4 post))
theorem kI_X1_read {X : Kx} {l : Launch} {E : Ev} {a : Nat → Nat} {post : Int32 → St → Prop} (C : Cx X l E RX1 cX1_read rmI_X1_read (some .int)) (hQ : QI X (wI E a) post) (σ : St) (h : wpI_X1_read  σ post) : G X (wI E a) σ 0 [some (.ref (a 600)), some (.ref (a 400)), none] [] := by
  unfold wpI_X1_read at h
  refine g_usual C us_X1_28 dX1_read_0 ?_
  refine g_iconst_0 C dX1_read_3 ?_
  refine g_aload_0 C dX1_read_4 rfl ?_
  refine fgI_X1_9 C dX1_read_5 ?_
  refine g_iconst_0 C dX1_read_8 ?_
  refine g_bipush C (v := 6) (by decide) dX1_read_9 ?_
  obtain ⟨q, h⟩ := h
  refine cuI_600 C ac_X1_31 acw.1 acw.2.1 acw.2.2 q ⟨Nat.le_of_ble_eq_true rfl, Nat.le_of_ble_eq_true rfl⟩ dX1_read_11 ?_
  refine g_aload_0 C dX1_read_14 rfl ?_
  refine g_iconst_0 C dX1_read_15 ?_
  refine fpI_X1_22 C dX1_read_16 ?_
  refine g_aload_0 C dX1_read_19 rfl ?_
  refine g_iconst_0 C dX1_read_20 ?_
  refine fpI_X1_25 C dX1_read_21 ?_
  refine g_aload_0 C dX1_read_24 rfl ?_
  refine g_aload_1 C dX1_read_25 rfl ?_
  refine csI_X1_37 C h ⟨Nat.le_of_ble_eq_true rfl, Nat.le_of_ble_eq_true rfl⟩ (Nat.le_of_ble_eq_true rfl) dX1_read_26 (fun _ h => ?_)
  refine g_iconst_0 C dX1_read_29 ?_
  refine g_istore_2 C dX1_read_30 (Nat.le_of_ble_eq_true rfl) ?_
  exact g_wk (kI_X1_read_31 C hQ _ _ h) (And.intro rfl (And.intro rfl (And.intro rfl (trivial))))
theorem cI_X1_read {l : Launch} {E : Ev} {a : Nat → Nat} {σ : St} {post : Int32 → St → Prop} (h : wpI_X1_read  σ post) : CI l E (wI E a) yX1_read cX1_read 3 .int rmI_X1_read [.ref (a 600), .ref (a 400)] σ post := met_i (by decide) rfl (Nat.le_of_ble_eq_true rfl) rfl (fun X C hQ => kI_X1_read C hQ _ h)
theorem fpI_X0_22 {X : Kx} {l : Launch} {E : Ev} {a : Nat → Nat} {σ : St} {cc : ByteArray} {rm : Room} {ret : Option FieldType} {pc : Nat} {lv : List (Option Value)} {st : List Value} {v : Int32} (C : Cx X l E RX0 cc rm ret) (d : decode cc pc = .ok (.putfield 22, 3)) (k : G X (wI E a) (pI σ 502 v) (pc + 3) lv st) : G X (wI E a) σ pc lv (.int v :: .ref (a 500) :: st) := g_put C (q0 := 25) (ci := 0) (k := 2) (ty0 := tyX0) rfl rfl inU_X0 (by decide) tyX0_ok nmX0 (by decide +kernel) rfl rfl rfl (Nat.le_of_ble_eq_true rfl) rfl d k
theorem fgI_X0_12 {X : Kx} {l : Launch} {E : Ev} {a : Nat → Nat} {σ : St} {cc : ByteArray} {rm : Room} {ret : Option FieldType} {pc : Nat} {lv : List (Option Value)} {st : List Value} (C : Cx X l E RX0 cc rm ret) (d : decode cc pc = .ok (.getfield 12, 3)) (k : G X (wI E a) σ (pc + 3) lv (.ref (a 600) :: st)) : G X (wI E a) σ pc lv (.ref (a 500) :: st) := g_get C (q0 := 25) (ci := 0) (k := 0) rfl rfl inU_X0 (by decide) (by decide +kernel) rfl d k
theorem fgI_X0_42 {X : Kx} {l : Launch} {E : Ev} {a : Nat → Nat} {σ : St} {cc : ByteArray} {rm : Room} {ret : Option FieldType} {pc : Nat} {lv : List (Option Value)} {st : List Value} (C : Cx X l E RX0 cc rm ret) (d : decode cc pc = .ok (.getfield 42, 3)) (k : G X (wI E a) σ (pc + 3) lv (.ref (a 601) :: st)) : G X (wI E a) σ pc lv (.ref (a 600) :: st) := g_getN C (host := "IceRun") (q0 := 27) (ci := 1) (k := 0) rfl rfl inU_X1 (by decide) (by decide +kernel) rfl d k
theorem ac_X0_29 : Cond.methodLink RX0 29 arraycopyName ∈ UW := by decide +kernel
theorem cpI_600_501 {X : Kx} {l : Launch} {E : Ev} {a : Nat → Nat} {σ : St} {cc : ByteArray} {rm : Room} {ret : Option FieldType} {pc : Nat} {lv : List (Option Value)} {st : List Value} {own : String} {idx : Nat} {sp dp n : Int32} (C : Cx X l E own cc rm ret) (h1 : Cond.methodLink own idx arraycopyName ∈ UW) (h2 : Cond.native arraycopyName ∈ UW) (h3 : Cond.static arraycopyName ∈ UW) (h4 : Cond.initialized "java/lang/System" ∈ UW) (hc : ¬ sp < 0 ∧ ¬ dp < 0 ∧ ¬ n < 0 ∧ sp.toNatClampNeg + n.toNatClampNeg ≤ 6 ∧ dp.toNatClampNeg + n.toNatClampNeg ≤ 6) (hR : 1 ≤ rm.frames ∧ (st.map fun v => v.category).sum + 18 ≤ rm.locals) (d : decode cc pc = .ok (.invokestatic idx, 3)) (k : G X (wI E a) (pC σ 501 (va_cpy (σ.2 600) (σ.2 501) sp.toNatClampNeg dp.toNatClampNeg n.toNatClampNeg)) (pc + 3) lv st) : G X (wI E a) σ pc lv (.int n :: .int dp :: .ref (a 502) :: .int sp :: .ref (a 601) :: st) := g_copyi C h1 h2 h3 h4 (q0 := 28) (q1 := 26) rfl rfl rfl hc hR d k
theorem csI_X0_35 {X : Kx} {l : Launch} {E : Ev} {a : Nat → Nat} {σ : St} {cc : ByteArray} {rm : Room} {ret : Option FieldType} {pc : Nat} {lv : List (Option Value)} {rest : List Value} {post : Int32 → St → Prop} (C : Cx X l E RX0 cc rm ret) (h : wpI_X1_read  σ post) (hR : 7 + 1 ≤ rm.frames ∧ 8 + (3 + 11) + 153 ≤ rm.locals) (hW : (rest.map fun v => v.category).sum ≤ 8) (d : decode cc pc = .ok (.invokevirtual 35, 3)) (k : ∀ (r : Int32) (u : St), post r u → G X (wI E a) u (pc + 3) lv (.int r :: rest)) : G X (wI E a) σ pc lv (.ref (a 400) :: .ref (a 600) :: rest) := g_callVi C 1 (As := [.ref (a 400)]) (rest := rest) (Cn := RX1) (T := TX1) (N := 5) (q0 := 27) (ci := 1) (by decide +kernel) (by decide +kernel) (by decide +kernel) (by decide +kernel) (by decide +kernel) (by decide +kernel) rfl rfl (cI_X1_read h) ⟨rfl, rfl⟩ hR rfl rfl hW d k
theorem fgI_X0_39 {X : Kx} {l : Launch} {E : Ev} {a : Nat → Nat} {σ : St} {cc : ByteArray} {rm : Room} {ret : Option FieldType} {pc : Nat} {lv : List (Option Value)} {st : List Value} (C : Cx X l E RX0 cc rm ret) (d : decode cc pc = .ok (.getfield 39, 3)) (k : G X (wI E a) σ (pc + 3) lv (.int (σ.1 602) :: st)) : G X (wI E a) σ pc lv (.ref (a 600) :: st) := g_getN C (host := "IceRun") (q0 := 27) (ci := 1) (k := 2) rfl rfl inU_X1 (by decide) (by decide +kernel) rfl d k
/-! IceRun$LawBook.take(LIceRun$Tape;)I -/
abbrev rmI_X0_take : Room := { frames := 8, cells := 0, slots := 0, locals := 175 }
def wpI_X0_take_50 (x2 : Int32) (σ : St) (post : Int32 → St → Prop) : Prop := post x2 σ
theorem kI_X0_take_50 {X : Kx} {l : Launch} {E : Ev} {a : Nat → Nat} {post : Int32 → St → Prop} (C : Cx X l E RX0 cX0_take rmI_X0_take (some .int)) (hQ : QI X (wI E a) post) (x2 : Int32) (σ : St) (h : wpI_X0_take_50  x2 σ post) : G X (wI E a) σ 50 [none, none, some (.int x2)] [] := by
  unfold wpI_X0_take_50 at h
  refine g_iload_2 C dX0_take_50 rfl ?_
  exact g_ireturn C hQ dX0_take_51 h
def wpI_X0_take_25 (x2 s1 : Int32) (σ : St) (post : Int32 → St → Prop) : Prop := let σ1 : St := pI σ 502 s1; ((¬ x2 = 0 → wpI_X0_take_50 x2 σ1 post) ∧ (x2 = 0 → (¬ (0 : Int32) < 0 ∧ ¬ (0 : Int32) < 0 ∧ ¬ (6 : Int32) < 0 ∧ (Int32.toNatClampNeg 0) + (Int32.toNatClampNeg 6) ≤ 6 ∧ (Int32.toNatClampNeg 0) + (Int32.toNatClampNeg 6) ≤ 6) ∧ (let σ2 : St := pC σ1 501 (va_cpy (σ1.2 600) (σ1.2 501) (Int32.toNatClampNeg 0) (Int32.toNatClampNeg 0) (Int32.toNatClampNeg 6)); wpI_X0_take_50 x2 σ2 post)))
theorem kI_X0_take_25 {X : Kx} {l : Launch} {E : Ev} {a : Nat → Nat} {post : Int32 → St → Prop} (C : Cx X l E RX0 cX0_take rmI_X0_take (some .int)) (hQ : QI X (wI E a) post) (x2 s1 : Int32) (σ : St) (h : wpI_X0_take_25  x2 s1 σ post) : G X (wI E a) σ 25 [some (.ref (a 500)), none, some (.int x2)] [.int s1, .ref (a 500)] := by
  unfold wpI_X0_take_25 at h
  refine fpI_X0_22 C dX0_take_25 ?_
  refine g_iload_2 C dX0_take_28 rfl ?_
  refine g_if_ne C 50 dX0_take_29 (by decide) (fun q => ?_) (fun q => ?_)
  · have h := h.1 q
    exact g_wk (kI_X0_take_50 C hQ _ _ h) (And.intro rfl (trivial))
  · have h := h.2 q
    refine g_aload_0 C dX0_take_32 rfl ?_
    refine fgI_X0_12 C dX0_take_33 ?_
    refine fgI_X0_42 C dX0_take_36 ?_
    refine g_iconst_0 C dX0_take_39 ?_
    refine g_aload_0 C dX0_take_40 rfl ?_
    refine fgI_X0_18 C dX0_take_41 ?_
    refine g_iconst_0 C dX0_take_44 ?_
    refine g_bipush C (v := 6) (by decide) dX0_take_45 ?_
    obtain ⟨q, h⟩ := h
    refine cpI_600_501 C ac_X0_29 acw.1 acw.2.1 acw.2.2 q ⟨Nat.le_of_ble_eq_true rfl, Nat.le_of_ble_eq_true rfl⟩ dX0_take_47 ?_
    exact g_wk (kI_X0_take_50 C hQ _ _ h) (And.intro rfl (trivial))
def wpI_X0_take (σ : St) (post : Int32 → St → Prop) : Prop := wpI_X1_read  σ (fun r2 σ1 => ((¬ r2 = 0 → wpI_X0_take_25 r2 (σ1.1 602) σ1 post) ∧ (r2 = 0 → wpI_X0_take_25 r2 (-1) σ1 post)))
theorem kI_X0_take {X : Kx} {l : Launch} {E : Ev} {a : Nat → Nat} {post : Int32 → St → Prop} (C : Cx X l E RX0 cX0_take rmI_X0_take (some .int)) (hQ : QI X (wI E a) post) (σ : St) (h : wpI_X0_take  σ post) : G X (wI E a) σ 0 [some (.ref (a 500)), some (.ref (a 400)), none] [] := by
  unfold wpI_X0_take at h
  refine g_aload_0 C dX0_take_0 rfl ?_
  refine fgI_X0_12 C dX0_take_1 ?_
  refine g_aload_1 C dX0_take_4 rfl ?_
  refine csI_X0_35 C h ⟨Nat.le_of_ble_eq_true rfl, Nat.le_of_ble_eq_true rfl⟩ (Nat.le_of_ble_eq_true rfl) dX0_take_5 (fun _ _ h => ?_)
  refine g_istore_2 C dX0_take_8 (Nat.le_of_ble_eq_true rfl) ?_
  refine g_aload_0 C dX0_take_9 rfl ?_
  refine g_iload_2 C dX0_take_10 rfl ?_
  refine g_if_ne C 18 dX0_take_11 (by decide) (fun q => ?_) (fun q => ?_)
  · have h := h.1 q
    refine g_aload_0 C dX0_take_18 rfl ?_
    refine fgI_X0_12 C dX0_take_19 ?_
    refine fgI_X0_39 C dX0_take_22 ?_
    exact g_wk (kI_X0_take_25 C hQ _ _ _ h) (And.intro rfl (And.intro rfl (trivial)))
  · have h := h.2 q
    refine g_iconst_m1 C dX0_take_14 ?_
    refine g_goto C 25 dX0_take_15 (by decide) ?_
    exact g_wk (kI_X0_take_25 C hQ _ _ _ h) (And.intro rfl (And.intro rfl (trivial)))
theorem cI_X0_take {l : Launch} {E : Ev} {a : Nat → Nat} {σ : St} {post : Int32 → St → Prop} (h : wpI_X0_take  σ post) : CI l E (wI E a) yX0_take cX0_take 3 .int rmI_X0_take [.ref (a 500), .ref (a 400)] σ post := met_i (by decide) rfl (Nat.le_of_ble_eq_true rfl) rfl (fun X C hQ => kI_X0_take C hQ _ h)
theorem csI_X10_150 {X : Kx} {l : Launch} {E : Ev} {a : Nat → Nat} {σ : St} {cc : ByteArray} {rm : Room} {ret : Option FieldType} {pc : Nat} {lv : List (Option Value)} {rest : List Value} {post : Int32 → St → Prop} (C : Cx X l E RX10 cc rm ret) (h : wpI_X0_take  σ post) (hR : 8 + 1 ≤ rm.frames ∧ 8 + (3 + 11) + 175 ≤ rm.locals) (hW : (rest.map fun v => v.category).sum ≤ 8) (d : decode cc pc = .ok (.invokevirtual 150, 3)) (k : ∀ (r : Int32) (u : St), post r u → G X (wI E a) u (pc + 3) lv (.int r :: rest)) : G X (wI E a) σ pc lv (.ref (a 400) :: .ref (a 500) :: rest) := g_callVi C 1 (As := [.ref (a 400)]) (rest := rest) (Cn := RX0) (T := TX0) (N := 3) (q0 := 25) (ci := 0) (by decide +kernel) (by decide +kernel) (by decide +kernel) (by decide +kernel) (by decide +kernel) (by decide +kernel) rfl rfl (cI_X0_take h) ⟨rfl, rfl⟩ hR rfl rfl hW d k
/-! IceRun.laws()I -/
abbrev rmI_X10_laws : Room := { frames := 9, cells := 0, slots := 0, locals := 197 }
def wpI_X10_laws (σ : St) (post : Int32 → St → Prop) : Prop := (((σ.1 702) = (-1) → wpI_X0_take  σ (fun r2 σ1 => let σ3 : St := pI σ1 400 0; post r2 σ3)) ∧ (¬ (σ.1 702) = (-1) → post (-1) σ))
theorem kI_X10_laws {X : Kx} {l : Launch} {E : Ev} {a : Nat → Nat} {post : Int32 → St → Prop} (C : Cx X l E RX10 cX10_laws rmI_X10_laws (some .int)) (hQ : QI X (wI E a) post) (σ : St) (h : wpI_X10_laws  σ post) : G X (wI E a) σ 0 [some (.ref (a 0)), none] [] := by
  unfold wpI_X10_laws at h
  refine g_aload_0 C dX10_laws_0 rfl ?_
  refine fgI_X10_47 C dX10_laws_1 ?_
  refine fgI_X10_78 C dX10_laws_4 ?_
  refine g_iconst_m1 C dX10_laws_7 ?_
  refine g_icmp_eq C 13 dX10_laws_8 (by decide) (fun q => ?_) (fun q => ?_)
  · have h := h.1 q
    refine g_aload_0 C dX10_laws_13 rfl ?_
    refine fgI_X10_40 C dX10_laws_14 ?_
    refine g_aload_0 C dX10_laws_17 rfl ?_
    refine fgI_X10_33 C dX10_laws_18 ?_
    refine csI_X10_150 C h ⟨Nat.le_of_ble_eq_true rfl, Nat.le_of_ble_eq_true rfl⟩ (Nat.le_of_ble_eq_true rfl) dX10_laws_21 (fun _ _ h => ?_)
    refine g_istore_1 C dX10_laws_24 (Nat.le_of_ble_eq_true rfl) ?_
    refine g_aload_0 C dX10_laws_25 rfl ?_
    refine fgI_X10_33 C dX10_laws_26 ?_
    refine g_iconst_0 C dX10_laws_29 ?_
    refine fpI_X10_143 C dX10_laws_30 ?_
    refine g_iload_1 C dX10_laws_33 rfl ?_
    exact g_ireturn C hQ dX10_laws_34 h
  · have h := h.2 q
    refine g_iconst_m1 C dX10_laws_11 ?_
    exact g_ireturn C hQ dX10_laws_12 h
theorem cI_X10_laws {l : Launch} {E : Ev} {a : Nat → Nat} {σ : St} {post : Int32 → St → Prop} (h : wpI_X10_laws  σ post) : CI l E (wI E a) yX10_laws cX10_laws 2 .int rmI_X10_laws [.ref (a 0)] σ post := met_i (by decide) rfl (Nat.le_of_ble_eq_true rfl) rfl (fun X C hQ => kI_X10_laws C hQ _ h)

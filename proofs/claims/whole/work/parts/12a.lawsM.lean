theorem csSM_X11_165 {X : Kx} {l : Launch} {E : Ev} {a : Nat → Nat} {σ : St} {cc : ByteArray} {rm : Room} {ret : Option FieldType} {pc : Nat} {lv : List (Option Value)} {rest : List Value} {i : Nat} {post : Int32 → St → Prop} (C : Cx X l E RX11 cc rm ret) (h : wpS_length i  σ post) (hR : 1 + 1 ≤ rm.frames ∧ 8 + (1 + 11) + 20 ≤ rm.locals) (hW : (rest.map fun v => v.category).sum ≤ 8) (d : decode cc pc = .ok (.invokevirtual 165, 3)) (k : ∀ (r : Int32) (u : St), post r u → G X (wM E a) u (pc + 3) lv (.int r :: rest)) : G X (wM E a) σ pc lv (.ref (E.2.2 (20 + i)) :: rest) := g_callT C 0 (As := []) (rest := rest) h.1 (by decide +kernel) (by decide +kernel) (by decide +kernel) (by decide +kernel) (by decide +kernel) (by decide +kernel) (cS_length h) ⟨rfl, rfl⟩ hR rfl rfl hW d k
theorem csSM_X11_171 {X : Kx} {l : Launch} {E : Ev} {a : Nat → Nat} {σ : St} {cc : ByteArray} {rm : Room} {ret : Option FieldType} {pc : Nat} {lv : List (Option Value)} {rest : List Value} {i : Nat} {x0 : Int32} {post : Int32 → St → Prop} (C : Cx X l E RX11 cc rm ret) (h : wpS_charAt i x0 σ post) (hR : 3 + 1 ≤ rm.frames ∧ 8 + (2 + 11) + 64 ≤ rm.locals) (hW : (rest.map fun v => v.category).sum ≤ 8) (d : decode cc pc = .ok (.invokevirtual 171, 3)) (k : ∀ (r : Int32) (u : St), post r u → G X (wM E a) u (pc + 3) lv (.int r :: rest)) : G X (wM E a) σ pc lv (.int x0 :: .ref (E.2.2 (20 + i)) :: rest) := g_callT C 1 (As := [.int x0]) (rest := rest) h.1 (by decide +kernel) (by decide +kernel) (by decide +kernel) (by decide +kernel) (by decide +kernel) (by decide +kernel) (cS_charAt h) ⟨rfl, rfl⟩ hR rfl rfl hW d k
/-! IceRunModel.is(Ljava/lang/String;)Z -/
abbrev rmM_is : Room := { frames := 4, cells := 0, slots := 0, locals := 85 }
def wpM_is_66 (x2 : Int32) (σ : St) (post : Int32 → St → Prop) : Prop := (x2 = 0 ∨ x2 = 1) ∧ post x2 σ
theorem kM_is_66 {X : Kx} {l : Launch} {E : Ev} {a : Nat → Nat} {post : Int32 → St → Prop} (C : Cx X l E RX11 cX11_is rmM_is (some .boolean)) (hQ : QI X (wM E a) post) (x2 : Int32) (σ : St) (h : wpM_is_66  x2 σ post) : G X (wM E a) σ 66 [none, none, some (.int x2), none] [] := by
  unfold wpM_is_66 at h
  refine g_iload_2 C dX11_is_66 rfl ?_
  exact g_zreturn C hQ dX11_is_67 h.1 h.2
def wpM_is_59 (k_24 : Nat → Int32 → Int32 → St → Prop) (n1 : Nat) (x3 s0 : Int32) (σ : St) (post : Int32 → St → Prop) : Prop := let y1 : Int32 := x3 + 1; k_24 n1 s0 y1 σ
theorem kM_is_59 {X : Kx} {l : Launch} {E : Ev} {a : Nat → Nat} {post : Int32 → St → Prop} (C : Cx X l E RX11 cX11_is rmM_is (some .boolean)) (hQ : QI X (wM E a) post) (k_24 : Nat → Int32 → Int32 → St → Prop) (hk_24 : ∀ (n1 : Nat) (x2 x3 : Int32) (σ : St), k_24 n1 x2 x3 σ → G X (wM E a) σ 24 [some (.ref (a 0)), some (.ref (E.2.2 (20 + n1))), some (.int x2), some (.int x3)] []) (n1 : Nat) (x3 s0 : Int32) (σ : St) (h : wpM_is_59 k_24 n1 x3 s0 σ post) : G X (wM E a) σ 59 [some (.ref (a 0)), some (.ref (E.2.2 (20 + n1))), none, some (.int x3)] [.int s0] := by
  unfold wpM_is_59 at h
  refine g_istore_2 C dX11_is_59 (Nat.le_of_ble_eq_true rfl) ?_
  refine g_iinc C (v := 1) (by decide) dX11_is_60 rfl ?_
  refine g_goto C 24 dX11_is_63 (by decide) ?_
  exact g_wk (hk_24 _ _ _ _ h) (And.intro rfl (And.intro rfl (And.intro rfl (And.intro rfl (trivial)))))
def wpBM_is_24 (k_24 : Nat → Int32 → Int32 → St → Prop) (n1 : Nat) (x2 x3 : Int32) (σ : St) (post : Int32 → St → Prop) : Prop := wpS_length n1 σ (fun r2 σ1 => ((r2 ≤ x3 → wpM_is_66 x2 σ1 post) ∧ (¬ r2 ≤ x3 → ((x2 = 0 → wpM_is_66 x2 σ1 post) ∧ (¬ x2 = 0 → wpM_byteAt ((σ1.1 24) + x3) σ1 (fun r4 σ3 => wpS_charAt n1 x3 σ3 (fun r6 σ5 => ((¬ r4 = r6 → wpM_is_59 k_24 n1 x3 0 σ5 post) ∧ (r4 = r6 → wpM_is_59 k_24 n1 x3 1 σ5 post)))))))))
def wpM_is_24 (n1 : Nat) (x2 x3 : Int32) (σ : St) (post : Int32 → St → Prop) : Prop := ∃ n : Nat, lpN (α := Nat × Int32 × Int32 × St) (fun kb t => wpBM_is_24 (fun n1 x2 x3 σ => kb (n1, x2, x3, σ)) t.1 t.2.1 t.2.2.1 t.2.2.2 post) n (n1, x2, x3, σ)
theorem kBM_is_24 {X : Kx} {l : Launch} {E : Ev} {a : Nat → Nat} {post : Int32 → St → Prop} (C : Cx X l E RX11 cX11_is rmM_is (some .boolean)) (hQ : QI X (wM E a) post) (k_24 : Nat → Int32 → Int32 → St → Prop) (hk_24 : ∀ (n1 : Nat) (x2 x3 : Int32) (σ : St), k_24 n1 x2 x3 σ → G X (wM E a) σ 24 [some (.ref (a 0)), some (.ref (E.2.2 (20 + n1))), some (.int x2), some (.int x3)] []) (n1 : Nat) (x2 x3 : Int32) (σ : St) (h : wpBM_is_24 k_24 n1 x2 x3 σ post) : G X (wM E a) σ 24 [some (.ref (a 0)), some (.ref (E.2.2 (20 + n1))), some (.int x2), some (.int x3)] [] := by
  unfold wpBM_is_24 at h
  refine g_iload_3 C dX11_is_24 rfl ?_
  refine g_aload_1 C dX11_is_25 rfl ?_
  refine csSM_X11_165 C h ⟨Nat.le_of_ble_eq_true rfl, Nat.le_of_ble_eq_true rfl⟩ (Nat.le_of_ble_eq_true rfl) dX11_is_26 (fun _ _ h => ?_)
  refine g_icmp_ge C 66 dX11_is_29 (by decide) (fun q => ?_) (fun q => ?_)
  · have h := h.1 q
    exact g_wk (kM_is_66 C hQ _ _ h) (And.intro rfl (trivial))
  · have h := h.2 q
    refine g_iload_2 C dX11_is_32 rfl ?_
    refine g_if_eq C 66 dX11_is_33 (by decide) (fun q => ?_) (fun q => ?_)
    · have h := h.1 q
      exact g_wk (kM_is_66 C hQ _ _ h) (And.intro rfl (trivial))
    · have h := h.2 q
      refine g_aload_0 C dX11_is_36 rfl ?_
      refine g_aload_0 C dX11_is_37 rfl ?_
      refine fgM_X11_152 C dX11_is_38 ?_
      refine g_iload_3 C dX11_is_41 rfl ?_
      refine g_iadd C dX11_is_42 ?_
      refine csM_X11_155 C h ⟨Nat.le_of_ble_eq_true rfl, Nat.le_of_ble_eq_true rfl⟩ (Nat.le_of_ble_eq_true rfl) dX11_is_43 (fun _ _ h => ?_)
      refine g_aload_1 C dX11_is_46 rfl ?_
      refine g_iload_3 C dX11_is_47 rfl ?_
      refine csSM_X11_171 C h ⟨Nat.le_of_ble_eq_true rfl, Nat.le_of_ble_eq_true rfl⟩ (Nat.le_of_ble_eq_true rfl) dX11_is_48 (fun _ _ h => ?_)
      refine g_icmp_ne C 58 dX11_is_51 (by decide) (fun q => ?_) (fun q => ?_)
      · have h := h.1 q
        refine g_iconst_0 C dX11_is_58 ?_
        exact g_wk (kM_is_59 C hQ _ hk_24 _ _ _ _ h) (And.intro rfl (And.intro rfl (And.intro rfl (trivial))))
      · have h := h.2 q
        refine g_iconst_1 C dX11_is_54 ?_
        refine g_goto C 59 dX11_is_55 (by decide) ?_
        exact g_wk (kM_is_59 C hQ _ hk_24 _ _ _ _ h) (And.intro rfl (And.intro rfl (And.intro rfl (trivial))))
theorem kM_is_24 {X : Kx} {l : Launch} {E : Ev} {a : Nat → Nat} {post : Int32 → St → Prop} (C : Cx X l E RX11 cX11_is rmM_is (some .boolean)) (hQ : QI X (wM E a) post) (n1 : Nat) (x2 x3 : Int32) (σ : St) (h : wpM_is_24  n1 x2 x3 σ post) : G X (wM E a) σ 24 [some (.ref (a 0)), some (.ref (E.2.2 (20 + n1))), some (.int x2), some (.int x3)] [] := by
  obtain ⟨n, h⟩ := h
  exact g_loop (J := fun t : Nat × Int32 × Int32 × St => G X (wM E a) t.2.2.2 24 [some (.ref (a 0)), some (.ref (E.2.2 (20 + t.1))), some (.int t.2.1), some (.int t.2.2.1)] []) (fun kb hkb t ht => kBM_is_24 C hQ  (fun n1 x2 x3 σ => kb (n1, x2, x3, σ)) (fun n1 x2 x3 σ hh => hkb (n1, x2, x3, σ) hh) t.1 t.2.1 t.2.2.1 t.2.2.2 ht) n (n1, x2, x3, σ) h
def wpM_is_21 (n1 : Nat) (s0 : Int32) (σ : St) (post : Int32 → St → Prop) : Prop := wpM_is_24 n1 s0 0 σ post
theorem kM_is_21 {X : Kx} {l : Launch} {E : Ev} {a : Nat → Nat} {post : Int32 → St → Prop} (C : Cx X l E RX11 cX11_is rmM_is (some .boolean)) (hQ : QI X (wM E a) post) (n1 : Nat) (s0 : Int32) (σ : St) (h : wpM_is_21  n1 s0 σ post) : G X (wM E a) σ 21 [some (.ref (a 0)), some (.ref (E.2.2 (20 + n1))), none, none] [.int s0] := by
  unfold wpM_is_21 at h
  refine g_istore_2 C dX11_is_21 (Nat.le_of_ble_eq_true rfl) ?_
  refine g_iconst_0 C dX11_is_22 ?_
  refine g_istore_3 C dX11_is_23 (Nat.le_of_ble_eq_true rfl) ?_
  exact g_wk (kM_is_24 C hQ _ _ _ _ h) (And.intro rfl (And.intro rfl (And.intro rfl (And.intro rfl (trivial)))))
def wpM_is (n1 : Nat) (σ : St) (post : Int32 → St → Prop) : Prop := wpS_length n1 σ (fun r2 σ1 => ((¬ ((σ.1 25) - (σ.1 24)) = r2 → wpM_is_21 n1 0 σ1 post) ∧ (((σ.1 25) - (σ.1 24)) = r2 → wpM_is_21 n1 1 σ1 post)))
theorem kM_is {X : Kx} {l : Launch} {E : Ev} {a : Nat → Nat} {post : Int32 → St → Prop} (C : Cx X l E RX11 cX11_is rmM_is (some .boolean)) (hQ : QI X (wM E a) post) (n1 : Nat) (σ : St) (h : wpM_is n1 σ post) : G X (wM E a) σ 0 [some (.ref (a 0)), some (.ref (E.2.2 (20 + n1))), none, none] [] := by
  unfold wpM_is at h
  refine g_aload_0 C dX11_is_0 rfl ?_
  refine fgM_X11_149 C dX11_is_1 ?_
  refine g_aload_0 C dX11_is_4 rfl ?_
  refine fgM_X11_152 C dX11_is_5 ?_
  refine g_isub C dX11_is_8 ?_
  refine g_aload_1 C dX11_is_9 rfl ?_
  refine csSM_X11_165 C h ⟨Nat.le_of_ble_eq_true rfl, Nat.le_of_ble_eq_true rfl⟩ (Nat.le_of_ble_eq_true rfl) dX11_is_10 (fun _ _ h => ?_)
  refine g_icmp_ne C 20 dX11_is_13 (by decide) (fun q => ?_) (fun q => ?_)
  · have h := h.1 q
    refine g_iconst_0 C dX11_is_20 ?_
    exact g_wk (kM_is_21 C hQ _ _ _ h) (And.intro rfl (And.intro rfl (trivial)))
  · have h := h.2 q
    refine g_iconst_1 C dX11_is_16 ?_
    refine g_goto C 21 dX11_is_17 (by decide) ?_
    exact g_wk (kM_is_21 C hQ _ _ _ h) (And.intro rfl (And.intro rfl (trivial)))
theorem cM_is {l : Launch} {E : Ev} {a : Nat → Nat} {n1 : Nat} {σ : St} {post : Int32 → St → Prop} (h : wpM_is n1 σ post) : CI l E (wM E a) yX11_is cX11_is 4 .boolean rmM_is [.ref (a 0), .ref (E.2.2 (20 + n1))] σ post := met_i (by decide) rfl (Nat.le_of_ble_eq_true rfl) rfl (fun X C hQ => kM_is C hQ _ _ h)
theorem csM_X11_176 {X : Kx} {l : Launch} {E : Ev} {a : Nat → Nat} {σ : St} {cc : ByteArray} {rm : Room} {ret : Option FieldType} {pc : Nat} {lv : List (Option Value)} {rest : List Value} {n0 : Nat} {post : Int32 → St → Prop} (C : Cx X l E RX11 cc rm ret) (h : wpM_is n0 σ post) (hR : 4 + 1 ≤ rm.frames ∧ 8 + (4 + 11) + 85 ≤ rm.locals) (hW : (rest.map fun v => v.category).sum ≤ 8) (d : decode cc pc = .ok (.invokevirtual 176, 3)) (k : ∀ (r : Int32) (u : St), post r u → G X (wM E a) u (pc + 3) lv (.int r :: rest)) : G X (wM E a) σ pc lv (.ref (E.2.2 (20 + n0)) :: .ref (a 0) :: rest) := g_callVi C 1 (As := [.ref (E.2.2 (20 + n0))]) (rest := rest) (Cn := RX11) (T := TX11) (N := 42) (q0 := 0) (ci := 10) (by decide +kernel) (by decide +kernel) (by decide +kernel) (by decide +kernel) (by decide +kernel) (by decide +kernel) rfl rfl (cM_is h) ⟨rfl, rfl⟩ hR rfl rfl hW d k
/-! IceRunModel.lawAtHand()I -/
abbrev rmM_lawAtHand : Room := { frames := 5, cells := 0, slots := 0, locals := 108 }
def wpM_lawAtHand_93 (s0 : Int32) (σ : St) (post : Int32 → St → Prop) : Prop := post s0 σ
theorem kM_lawAtHand_93 {X : Kx} {l : Launch} {E : Ev} {a : Nat → Nat} {post : Int32 → St → Prop} (C : Cx X l E RX11 cX11_lawAtHand rmM_lawAtHand (some .int)) (hQ : QI X (wM E a) post) (s0 : Int32) (σ : St) (h : wpM_lawAtHand_93  s0 σ post) : G X (wM E a) σ 93 [none] [.int s0] := by
  unfold wpM_lawAtHand_93 at h
  exact g_ireturn C hQ dX11_lawAtHand_93 h
def wpM_lawAtHand (σ : St) (post : Int32 → St → Prop) : Prop := wpM_is 0 σ (fun r2 σ1 => ((r2 = 0 → wpM_is 1 σ1 (fun r4 σ3 => ((r4 = 0 → wpM_is 2 σ3 (fun r6 σ5 => ((r6 = 0 → wpM_is 3 σ5 (fun r8 σ7 => ((r8 = 0 → wpM_is 4 σ7 (fun r10 σ9 => ((r10 = 0 → wpM_is 5 σ9 (fun r12 σ11 => ((r12 = 0 → wpM_is 6 σ11 (fun r14 σ13 => ((r14 = 0 → wpM_lawAtHand_93 (-1) σ13 post) ∧ (¬ r14 = 0 → wpM_lawAtHand_93 6 σ13 post)))) ∧ (¬ r12 = 0 → wpM_lawAtHand_93 5 σ11 post)))) ∧ (¬ r10 = 0 → wpM_lawAtHand_93 4 σ9 post)))) ∧ (¬ r8 = 0 → wpM_lawAtHand_93 3 σ7 post)))) ∧ (¬ r6 = 0 → wpM_lawAtHand_93 2 σ5 post)))) ∧ (¬ r4 = 0 → wpM_lawAtHand_93 1 σ3 post)))) ∧ (¬ r2 = 0 → wpM_lawAtHand_93 0 σ1 post)))
theorem kM_lawAtHand {X : Kx} {l : Launch} {E : Ev} {a : Nat → Nat} {post : Int32 → St → Prop} (C : Cx X l E RX11 cX11_lawAtHand rmM_lawAtHand (some .int)) (hQ : QI X (wM E a) post) (σ : St) (h : wpM_lawAtHand  σ post) : G X (wM E a) σ 0 [some (.ref (a 0))] [] := by
  unfold wpM_lawAtHand at h
  refine g_aload_0 C dX11_lawAtHand_0 rfl ?_
  refine g_ldcS C (i := 0) (by decide) rfl dX11_lawAtHand_1 ?_
  refine csM_X11_176 C h ⟨Nat.le_of_ble_eq_true rfl, Nat.le_of_ble_eq_true rfl⟩ (Nat.le_of_ble_eq_true rfl) dX11_lawAtHand_3 (fun _ _ h => ?_)
  refine g_if_eq C 13 dX11_lawAtHand_6 (by decide) (fun q => ?_) (fun q => ?_)
  · have h := h.1 q
    refine g_aload_0 C dX11_lawAtHand_13 rfl ?_
    refine g_ldcS C (i := 1) (by decide) rfl dX11_lawAtHand_14 ?_
    refine csM_X11_176 C h ⟨Nat.le_of_ble_eq_true rfl, Nat.le_of_ble_eq_true rfl⟩ (Nat.le_of_ble_eq_true rfl) dX11_lawAtHand_16 (fun _ _ h => ?_)
    refine g_if_eq C 26 dX11_lawAtHand_19 (by decide) (fun q => ?_) (fun q => ?_)
    · have h := h.1 q
      refine g_aload_0 C dX11_lawAtHand_26 rfl ?_
      refine g_ldcS C (i := 2) (by decide) rfl dX11_lawAtHand_27 ?_
      refine csM_X11_176 C h ⟨Nat.le_of_ble_eq_true rfl, Nat.le_of_ble_eq_true rfl⟩ (Nat.le_of_ble_eq_true rfl) dX11_lawAtHand_29 (fun _ _ h => ?_)
      refine g_if_eq C 39 dX11_lawAtHand_32 (by decide) (fun q => ?_) (fun q => ?_)
      · have h := h.1 q
        refine g_aload_0 C dX11_lawAtHand_39 rfl ?_
        refine g_ldcS C (i := 3) (by decide) rfl dX11_lawAtHand_40 ?_
        refine csM_X11_176 C h ⟨Nat.le_of_ble_eq_true rfl, Nat.le_of_ble_eq_true rfl⟩ (Nat.le_of_ble_eq_true rfl) dX11_lawAtHand_42 (fun _ _ h => ?_)
        refine g_if_eq C 52 dX11_lawAtHand_45 (by decide) (fun q => ?_) (fun q => ?_)
        · have h := h.1 q
          refine g_aload_0 C dX11_lawAtHand_52 rfl ?_
          refine g_ldcS C (i := 4) (by decide) rfl dX11_lawAtHand_53 ?_
          refine csM_X11_176 C h ⟨Nat.le_of_ble_eq_true rfl, Nat.le_of_ble_eq_true rfl⟩ (Nat.le_of_ble_eq_true rfl) dX11_lawAtHand_55 (fun _ _ h => ?_)
          refine g_if_eq C 65 dX11_lawAtHand_58 (by decide) (fun q => ?_) (fun q => ?_)
          · have h := h.1 q
            refine g_aload_0 C dX11_lawAtHand_65 rfl ?_
            refine g_ldcS C (i := 5) (by decide) rfl dX11_lawAtHand_66 ?_
            refine csM_X11_176 C h ⟨Nat.le_of_ble_eq_true rfl, Nat.le_of_ble_eq_true rfl⟩ (Nat.le_of_ble_eq_true rfl) dX11_lawAtHand_68 (fun _ _ h => ?_)
            refine g_if_eq C 78 dX11_lawAtHand_71 (by decide) (fun q => ?_) (fun q => ?_)
            · have h := h.1 q
              refine g_aload_0 C dX11_lawAtHand_78 rfl ?_
              refine g_ldcS C (i := 6) (by decide) rfl dX11_lawAtHand_79 ?_
              refine csM_X11_176 C h ⟨Nat.le_of_ble_eq_true rfl, Nat.le_of_ble_eq_true rfl⟩ (Nat.le_of_ble_eq_true rfl) dX11_lawAtHand_81 (fun _ _ h => ?_)
              refine g_if_eq C 92 dX11_lawAtHand_84 (by decide) (fun q => ?_) (fun q => ?_)
              · have h := h.1 q
                refine g_iconst_m1 C dX11_lawAtHand_92 ?_
                exact g_wk (kM_lawAtHand_93 C hQ _ _ h) (trivial)
              · have h := h.2 q
                refine g_bipush C (v := 6) (by decide) dX11_lawAtHand_87 ?_
                refine g_goto C 93 dX11_lawAtHand_89 (by decide) ?_
                exact g_wk (kM_lawAtHand_93 C hQ _ _ h) (trivial)
            · have h := h.2 q
              refine g_iconst_5 C dX11_lawAtHand_74 ?_
              refine g_goto C 93 dX11_lawAtHand_75 (by decide) ?_
              exact g_wk (kM_lawAtHand_93 C hQ _ _ h) (trivial)
          · have h := h.2 q
            refine g_iconst_4 C dX11_lawAtHand_61 ?_
            refine g_goto C 93 dX11_lawAtHand_62 (by decide) ?_
            exact g_wk (kM_lawAtHand_93 C hQ _ _ h) (trivial)
        · have h := h.2 q
          refine g_iconst_3 C dX11_lawAtHand_48 ?_
          refine g_goto C 93 dX11_lawAtHand_49 (by decide) ?_
          exact g_wk (kM_lawAtHand_93 C hQ _ _ h) (trivial)
      · have h := h.2 q
        refine g_iconst_2 C dX11_lawAtHand_35 ?_
        refine g_goto C 93 dX11_lawAtHand_36 (by decide) ?_
        exact g_wk (kM_lawAtHand_93 C hQ _ _ h) (trivial)
    · have h := h.2 q
      refine g_iconst_1 C dX11_lawAtHand_22 ?_
      refine g_goto C 93 dX11_lawAtHand_23 (by decide) ?_
      exact g_wk (kM_lawAtHand_93 C hQ _ _ h) (trivial)
  · have h := h.2 q
    refine g_iconst_0 C dX11_lawAtHand_9 ?_
    refine g_goto C 93 dX11_lawAtHand_10 (by decide) ?_
    exact g_wk (kM_lawAtHand_93 C hQ _ _ h) (trivial)
theorem cM_lawAtHand {l : Launch} {E : Ev} {a : Nat → Nat} {σ : St} {post : Int32 → St → Prop} (h : wpM_lawAtHand  σ post) : CI l E (wM E a) yX11_lawAtHand cX11_lawAtHand 1 .int rmM_lawAtHand [.ref (a 0)] σ post := met_i (by decide) rfl (Nat.le_of_ble_eq_true rfl) rfl (fun X C hQ => kM_lawAtHand C hQ _ h)
theorem csM_X11_195 {X : Kx} {l : Launch} {E : Ev} {a : Nat → Nat} {σ : St} {cc : ByteArray} {rm : Room} {ret : Option FieldType} {pc : Nat} {lv : List (Option Value)} {rest : List Value} {x0 : Int32} {post : Int32 → St → Prop} (C : Cx X l E RX11 cc rm ret) (h : wpM_fault x0 σ post) (hR : 0 + 1 ≤ rm.frames ∧ 8 + (2 + 11) + 0 ≤ rm.locals) (hW : (rest.map fun v => v.category).sum ≤ 8) (d : decode cc pc = .ok (.invokevirtual 195, 3)) (k : ∀ (r : Int32) (u : St), post r u → G X (wM E a) u (pc + 3) lv (.int r :: rest)) : G X (wM E a) σ pc lv (.int x0 :: .ref (a 0) :: rest) := g_callVi C 1 (As := [.int x0]) (rest := rest) (Cn := RX11) (T := TX11) (N := 42) (q0 := 0) (ci := 10) (by decide +kernel) (by decide +kernel) (by decide +kernel) (by decide +kernel) (by decide +kernel) (by decide +kernel) rfl rfl (cM_fault h) ⟨rfl, rfl⟩ hR rfl rfl hW d k
theorem csM_X11_198 {X : Kx} {l : Launch} {E : Ev} {a : Nat → Nat} {σ : St} {cc : ByteArray} {rm : Room} {ret : Option FieldType} {pc : Nat} {lv : List (Option Value)} {rest : List Value} {post : St → Prop} (C : Cx X l E RX11 cc rm ret) (h : wpM_token  σ post) (hR : 1 + 1 ≤ rm.frames ∧ 8 + (1 + 11) + 21 ≤ rm.locals) (hW : (rest.map fun v => v.category).sum ≤ 8) (d : decode cc pc = .ok (.invokevirtual 198, 3)) (k : ∀ u : St, post u → G X (wM E a) u (pc + 3) lv rest) : G X (wM E a) σ pc lv (.ref (a 0) :: rest) := g_callVv C 0 (As := []) (rest := rest) (Cn := RX11) (T := TX11) (N := 42) (q0 := 0) (ci := 10) (by decide +kernel) (by decide +kernel) (by decide +kernel) (by decide +kernel) (by decide +kernel) (by decide +kernel) rfl rfl (cM_token h) ⟨rfl, rfl⟩ hR rfl rfl hW d k
theorem csM_X11_201 {X : Kx} {l : Launch} {E : Ev} {a : Nat → Nat} {σ : St} {cc : ByteArray} {rm : Room} {ret : Option FieldType} {pc : Nat} {lv : List (Option Value)} {rest : List Value} {x0 : Int32} {post : Int32 → St → Prop} (C : Cx X l E RX11 cc rm ret) (h : wpM_least x0 σ post) (hR : 0 + 1 ≤ rm.frames ∧ 8 + (1 + 11) + 0 ≤ rm.locals) (hW : (rest.map fun v => v.category).sum ≤ 8) (d : decode cc pc = .ok (.invokestatic 201, 3)) (k : ∀ (r : Int32) (u : St), post r u → G X (wM E a) u (pc + 3) lv (.int r :: rest)) : G X (wM E a) σ pc lv (.int x0 :: rest) := g_callSi C 1 (As := [.int x0]) (rest := rest) (by decide +kernel) (by decide +kernel) (by decide +kernel) (by decide +kernel) (by decide +kernel) (cM_least h) ⟨rfl, rfl⟩ hR rfl rfl hW d k
theorem csM_X11_204 {X : Kx} {l : Launch} {E : Ev} {a : Nat → Nat} {σ : St} {cc : ByteArray} {rm : Room} {ret : Option FieldType} {pc : Nat} {lv : List (Option Value)} {rest : List Value} {x0 : Int32} {post : Int32 → St → Prop} (C : Cx X l E RX11 cc rm ret) (h : wpM_most x0 σ post) (hR : 0 + 1 ≤ rm.frames ∧ 8 + (1 + 11) + 0 ≤ rm.locals) (hW : (rest.map fun v => v.category).sum ≤ 8) (d : decode cc pc = .ok (.invokestatic 204, 3)) (k : ∀ (r : Int32) (u : St), post r u → G X (wM E a) u (pc + 3) lv (.int r :: rest)) : G X (wM E a) σ pc lv (.int x0 :: rest) := g_callSi C 1 (As := [.int x0]) (rest := rest) (by decide +kernel) (by decide +kernel) (by decide +kernel) (by decide +kernel) (by decide +kernel) (cM_most h) ⟨rfl, rfl⟩ hR rfl rfl hW d k
theorem csM_X11_192 {X : Kx} {l : Launch} {E : Ev} {a : Nat → Nat} {σ : St} {cc : ByteArray} {rm : Room} {ret : Option FieldType} {pc : Nat} {lv : List (Option Value)} {rest : List Value} {post : Int32 → St → Prop} (C : Cx X l E RX11 cc rm ret) (h : wpM_lawAtHand  σ post) (hR : 5 + 1 ≤ rm.frames ∧ 8 + (1 + 11) + 108 ≤ rm.locals) (hW : (rest.map fun v => v.category).sum ≤ 8) (d : decode cc pc = .ok (.invokevirtual 192, 3)) (k : ∀ (r : Int32) (u : St), post r u → G X (wM E a) u (pc + 3) lv (.int r :: rest)) : G X (wM E a) σ pc lv (.ref (a 0) :: rest) := g_callVi C 0 (As := []) (rest := rest) (Cn := RX11) (T := TX11) (N := 42) (q0 := 0) (ci := 10) (by decide +kernel) (by decide +kernel) (by decide +kernel) (by decide +kernel) (by decide +kernel) (by decide +kernel) rfl rfl (cM_lawAtHand h) ⟨rfl, rfl⟩ hR rfl rfl hW d k
/-! IceRunModel.one()I -/
abbrev rmM_one : Room := { frames := 6, cells := 0, slots := 0, locals := 128 }
def wpM_one_65 (σ : St) (post : Int32 → St → Prop) : Prop := wpM_fault 1 σ (fun r2 σ1 => post r2 σ1)
theorem kM_one_65 {X : Kx} {l : Launch} {E : Ev} {a : Nat → Nat} {post : Int32 → St → Prop} (C : Cx X l E RX11 cX11_one rmM_one (some .int)) (hQ : QI X (wM E a) post) (σ : St) (h : wpM_one_65   σ post) : G X (wM E a) σ 65 [some (.ref (a 0)), none, none, none] [] := by
  unfold wpM_one_65 at h
  refine g_aload_0 C dX11_one_65 rfl ?_
  refine g_iconst_1 C dX11_one_66 ?_
  refine csM_X11_195 C h ⟨Nat.le_of_ble_eq_true rfl, Nat.le_of_ble_eq_true rfl⟩ (Nat.le_of_ble_eq_true rfl) dX11_one_67 (fun _ _ h => ?_)
  exact g_ireturn C hQ dX11_one_70 h
def wpM_one_138 (σ : St) (post : Int32 → St → Prop) : Prop := wpM_is 7 σ (fun r2 σ1 => ((¬ r2 = 0 → wpM_token σ1 (fun σ3 => post 0 σ3)) ∧ (r2 = 0 → wpM_fault 1 σ1 (fun r5 σ4 => post r5 σ4))))
theorem kM_one_138 {X : Kx} {l : Launch} {E : Ev} {a : Nat → Nat} {post : Int32 → St → Prop} (C : Cx X l E RX11 cX11_one rmM_one (some .int)) (hQ : QI X (wM E a) post) (σ : St) (h : wpM_one_138   σ post) : G X (wM E a) σ 138 [some (.ref (a 0)), none, none, none] [] := by
  unfold wpM_one_138 at h
  refine g_aload_0 C dX11_one_138 rfl ?_
  refine g_ldcS C (i := 7) (by decide) rfl dX11_one_139 ?_
  refine csM_X11_176 C h ⟨Nat.le_of_ble_eq_true rfl, Nat.le_of_ble_eq_true rfl⟩ (Nat.le_of_ble_eq_true rfl) dX11_one_141 (fun _ _ h => ?_)
  refine g_if_ne C 153 dX11_one_144 (by decide) (fun q => ?_) (fun q => ?_)
  · have h := h.1 q
    refine g_aload_0 C dX11_one_153 rfl ?_
    refine csM_X11_198 C h ⟨Nat.le_of_ble_eq_true rfl, Nat.le_of_ble_eq_true rfl⟩ (Nat.le_of_ble_eq_true rfl) dX11_one_154 (fun _ h => ?_)
    refine g_iconst_0 C dX11_one_157 ?_
    exact g_ireturn C hQ dX11_one_158 h
  · have h := h.2 q
    refine g_aload_0 C dX11_one_147 rfl ?_
    refine g_iconst_1 C dX11_one_148 ?_
    refine csM_X11_195 C h ⟨Nat.le_of_ble_eq_true rfl, Nat.le_of_ble_eq_true rfl⟩ (Nat.le_of_ble_eq_true rfl) dX11_one_149 (fun _ _ h => ?_)
    exact g_ireturn C hQ dX11_one_152 h
def wpBM_one_78 (k_78 : Int32 → Int32 → Int32 → St → Prop) (x1 x2 x3 : Int32) (σ : St) (post : Int32 → St → Prop) : Prop := (((σ.1 25) ≤ x3 → wpM_least x1 σ (fun r2 σ1 => wpM_most x1 σ1 (fun r4 σ3 => wpM_within x2 r2 r4 σ3 (fun r6 σ5 => ((¬ r6 = 0 → vp_in x1 6 ∧ (let σ7 : St := pA σ5 20 (Int32.toNatClampNeg x1) x2; wpM_token σ7 (fun σ8 => wpM_one_138 σ8 post))) ∧ (r6 = 0 → wpM_fault 2 σ5 (fun r10 σ9 => post r10 σ9))))))) ∧ (¬ (σ.1 25) ≤ x3 → wpM_byteAt x3 σ (fun r12 σ11 => let y13 : Int32 := (((10 * x2) + r12) - 48); let y14 : Int32 := x3 + 1; k_78 x1 y13 y14 σ11)))
def wpM_one_78 (x1 x2 x3 : Int32) (σ : St) (post : Int32 → St → Prop) : Prop := ∃ n : Nat, lpN (α := Int32 × Int32 × Int32 × St) (fun kb t => wpBM_one_78 (fun x1 x2 x3 σ => kb (x1, x2, x3, σ)) t.1 t.2.1 t.2.2.1 t.2.2.2 post) n (x1, x2, x3, σ)
theorem kBM_one_78 {X : Kx} {l : Launch} {E : Ev} {a : Nat → Nat} {post : Int32 → St → Prop} (C : Cx X l E RX11 cX11_one rmM_one (some .int)) (hQ : QI X (wM E a) post) (k_78 : Int32 → Int32 → Int32 → St → Prop) (hk_78 : ∀ (x1 x2 x3 : Int32) (σ : St), k_78 x1 x2 x3 σ → G X (wM E a) σ 78 [some (.ref (a 0)), some (.int x1), some (.int x2), some (.int x3)] []) (x1 x2 x3 : Int32) (σ : St) (h : wpBM_one_78 k_78 x1 x2 x3 σ post) : G X (wM E a) σ 78 [some (.ref (a 0)), some (.int x1), some (.int x2), some (.int x3)] [] := by
  unfold wpBM_one_78 at h
  refine g_iload_3 C dX11_one_78 rfl ?_
  refine g_aload_0 C dX11_one_79 rfl ?_
  refine fgM_X11_149 C dX11_one_80 ?_
  refine g_icmp_ge C 106 dX11_one_83 (by decide) (fun q => ?_) (fun q => ?_)
  · have h := h.1 q
    refine g_iload_2 C dX11_one_106 rfl ?_
    refine g_iload_1 C dX11_one_107 rfl ?_
    refine csM_X11_201 C h ⟨Nat.le_of_ble_eq_true rfl, Nat.le_of_ble_eq_true rfl⟩ (Nat.le_of_ble_eq_true rfl) dX11_one_108 (fun _ _ h => ?_)
    refine g_iload_1 C dX11_one_111 rfl ?_
    refine csM_X11_204 C h ⟨Nat.le_of_ble_eq_true rfl, Nat.le_of_ble_eq_true rfl⟩ (Nat.le_of_ble_eq_true rfl) dX11_one_112 (fun _ _ h => ?_)
    refine csM_X11_109 C h ⟨Nat.le_of_ble_eq_true rfl, Nat.le_of_ble_eq_true rfl⟩ (Nat.le_of_ble_eq_true rfl) dX11_one_115 (fun _ _ h => ?_)
    refine g_if_ne C 127 dX11_one_118 (by decide) (fun q => ?_) (fun q => ?_)
    · have h := h.1 q
      refine g_aload_0 C dX11_one_127 rfl ?_
      refine fgM_X11_58 C dX11_one_128 ?_
      refine g_iload_1 C dX11_one_131 rfl ?_
      refine g_iload_2 C dX11_one_132 rfl ?_
      obtain ⟨q, h⟩ := h
      refine asM_20 C q dX11_one_133 ?_
      refine g_aload_0 C dX11_one_134 rfl ?_
      refine csM_X11_198 C h ⟨Nat.le_of_ble_eq_true rfl, Nat.le_of_ble_eq_true rfl⟩ (Nat.le_of_ble_eq_true rfl) dX11_one_135 (fun _ h => ?_)
      exact g_wk (kM_one_138 C hQ _ h) (And.intro rfl (trivial))
    · have h := h.2 q
      refine g_aload_0 C dX11_one_121 rfl ?_
      refine g_iconst_2 C dX11_one_122 ?_
      refine csM_X11_195 C h ⟨Nat.le_of_ble_eq_true rfl, Nat.le_of_ble_eq_true rfl⟩ (Nat.le_of_ble_eq_true rfl) dX11_one_123 (fun _ _ h => ?_)
      exact g_ireturn C hQ dX11_one_126 h
  · have h := h.2 q
    refine g_bipush C (v := 10) (by decide) dX11_one_86 ?_
    refine g_iload_2 C dX11_one_88 rfl ?_
    refine g_imul C dX11_one_89 ?_
    refine g_aload_0 C dX11_one_90 rfl ?_
    refine g_iload_3 C dX11_one_91 rfl ?_
    refine csM_X11_155 C h ⟨Nat.le_of_ble_eq_true rfl, Nat.le_of_ble_eq_true rfl⟩ (Nat.le_of_ble_eq_true rfl) dX11_one_92 (fun _ _ h => ?_)
    refine g_iadd C dX11_one_95 ?_
    refine g_bipush C (v := 48) (by decide) dX11_one_96 ?_
    refine g_isub C dX11_one_98 ?_
    refine g_istore_2 C dX11_one_99 (Nat.le_of_ble_eq_true rfl) ?_
    refine g_iinc C (v := 1) (by decide) dX11_one_100 rfl ?_
    refine g_goto C 78 dX11_one_103 (by decide) ?_
    exact g_wk (hk_78 _ _ _ _ h) (And.intro rfl (And.intro rfl (And.intro rfl (And.intro rfl (trivial)))))
theorem kM_one_78 {X : Kx} {l : Launch} {E : Ev} {a : Nat → Nat} {post : Int32 → St → Prop} (C : Cx X l E RX11 cX11_one rmM_one (some .int)) (hQ : QI X (wM E a) post) (x1 x2 x3 : Int32) (σ : St) (h : wpM_one_78  x1 x2 x3 σ post) : G X (wM E a) σ 78 [some (.ref (a 0)), some (.int x1), some (.int x2), some (.int x3)] [] := by
  obtain ⟨n, h⟩ := h
  exact g_loop (J := fun t : Int32 × Int32 × Int32 × St => G X (wM E a) t.2.2.2 78 [some (.ref (a 0)), some (.int t.1), some (.int t.2.1), some (.int t.2.2.1)] []) (fun kb hkb t ht => kBM_one_78 C hQ  (fun x1 x2 x3 σ => kb (x1, x2, x3, σ)) (fun x1 x2 x3 σ hh => hkb (x1, x2, x3, σ) hh) t.1 t.2.1 t.2.2.1 t.2.2.2 ht) n (x1, x2, x3, σ) h
def wpM_one (σ : St) (post : Int32 → St → Prop) : Prop := wpM_lawAtHand  σ (fun r2 σ1 => ((¬ r2 = (-1) → wpM_token  σ1 (fun σ3 => ((r2 ≤ 4 → wpM_byteAt (σ3.1 24) σ3 (fun r5 σ4 => wpM_isDigit r5 σ4 (fun r7 σ6 => ((r7 = 0 → wpM_one_65 σ6 post) ∧ (¬ r7 = 0 → ((((σ6.1 25) - (σ6.1 24)) ≤ 4 → let y8 : Int32 := (σ6.1 24); wpM_one_78 r2 0 y8 σ6 post) ∧ (¬ ((σ6.1 25) - (σ6.1 24)) ≤ 4 → wpM_one_65 σ6 post))))))) ∧ (¬ r2 ≤ 4 → vp_in 5 6 ∧ (let σ9 : St := pA σ3 20 (Int32.toNatClampNeg 5) (6 - r2); wpM_one_138 σ9 post))))) ∧ (r2 = (-1) → wpM_fault 1 σ1 (fun r11 σ10 => post r11 σ10))))
theorem kM_one {X : Kx} {l : Launch} {E : Ev} {a : Nat → Nat} {post : Int32 → St → Prop} (C : Cx X l E RX11 cX11_one rmM_one (some .int)) (hQ : QI X (wM E a) post) (σ : St) (h : wpM_one  σ post) : G X (wM E a) σ 0 [some (.ref (a 0)), none, none, none] [] := by
  unfold wpM_one at h
  refine g_aload_0 C dX11_one_0 rfl ?_
  refine csM_X11_192 C h ⟨Nat.le_of_ble_eq_true rfl, Nat.le_of_ble_eq_true rfl⟩ (Nat.le_of_ble_eq_true rfl) dX11_one_1 (fun _ _ h => ?_)
  refine g_istore_1 C dX11_one_4 (Nat.le_of_ble_eq_true rfl) ?_
  refine g_iload_1 C dX11_one_5 rfl ?_
  refine g_iconst_m1 C dX11_one_6 ?_
  refine g_icmp_ne C 16 dX11_one_7 (by decide) (fun q => ?_) (fun q => ?_)
  · have h := h.1 q
    refine g_aload_0 C dX11_one_16 rfl ?_
    refine csM_X11_198 C h ⟨Nat.le_of_ble_eq_true rfl, Nat.le_of_ble_eq_true rfl⟩ (Nat.le_of_ble_eq_true rfl) dX11_one_17 (fun _ h => ?_)
    refine g_iload_1 C dX11_one_20 rfl ?_
    refine g_iconst_4 C dX11_one_21 ?_
    refine g_icmp_le C 38 dX11_one_22 (by decide) (fun q => ?_) (fun q => ?_)
    · have h := h.1 q
      refine g_aload_0 C dX11_one_38 rfl ?_
      refine g_aload_0 C dX11_one_39 rfl ?_
      refine fgM_X11_152 C dX11_one_40 ?_
      refine csM_X11_155 C h ⟨Nat.le_of_ble_eq_true rfl, Nat.le_of_ble_eq_true rfl⟩ (Nat.le_of_ble_eq_true rfl) dX11_one_43 (fun _ _ h => ?_)
      refine csM_X11_162 C h ⟨Nat.le_of_ble_eq_true rfl, Nat.le_of_ble_eq_true rfl⟩ (Nat.le_of_ble_eq_true rfl) dX11_one_46 (fun _ _ h => ?_)
      refine g_if_eq C 65 dX11_one_49 (by decide) (fun q => ?_) (fun q => ?_)
      · have h := h.1 q
        exact g_wk (kM_one_65 C hQ _ h) (And.intro rfl (trivial))
      · have h := h.2 q
        refine g_aload_0 C dX11_one_52 rfl ?_
        refine fgM_X11_149 C dX11_one_53 ?_
        refine g_aload_0 C dX11_one_56 rfl ?_
        refine fgM_X11_152 C dX11_one_57 ?_
        refine g_isub C dX11_one_60 ?_
        refine g_iconst_4 C dX11_one_61 ?_
        refine g_icmp_le C 71 dX11_one_62 (by decide) (fun q => ?_) (fun q => ?_)
        · have h := h.1 q
          refine g_iconst_0 C dX11_one_71 ?_
          refine g_istore_2 C dX11_one_72 (Nat.le_of_ble_eq_true rfl) ?_
          refine g_aload_0 C dX11_one_73 rfl ?_
          refine fgM_X11_152 C dX11_one_74 ?_
          refine g_istore_3 C dX11_one_77 (Nat.le_of_ble_eq_true rfl) ?_
          exact g_wk (kM_one_78 C hQ _ _ _ _ h) (And.intro rfl (And.intro rfl (And.intro rfl (And.intro rfl (trivial)))))
        · have h := h.2 q
          exact g_wk (kM_one_65 C hQ _ h) (And.intro rfl (trivial))
    · have h := h.2 q
      refine g_aload_0 C dX11_one_25 rfl ?_
      refine fgM_X11_58 C dX11_one_26 ?_
      refine g_iconst_5 C dX11_one_29 ?_
      refine g_bipush C (v := 6) (by decide) dX11_one_30 ?_
      refine g_iload_1 C dX11_one_32 rfl ?_
      refine g_isub C dX11_one_33 ?_
      obtain ⟨q, h⟩ := h
      refine asM_20 C q dX11_one_34 ?_
      refine g_goto C 138 dX11_one_35 (by decide) ?_
      exact g_wk (kM_one_138 C hQ _ h) (And.intro rfl (trivial))
  · have h := h.2 q
    refine g_aload_0 C dX11_one_10 rfl ?_
    refine g_iconst_1 C dX11_one_11 ?_
    refine csM_X11_195 C h ⟨Nat.le_of_ble_eq_true rfl, Nat.le_of_ble_eq_true rfl⟩ (Nat.le_of_ble_eq_true rfl) dX11_one_12 (fun _ _ h => ?_)
    exact g_ireturn C hQ dX11_one_15 h
theorem cM_one {l : Launch} {E : Ev} {a : Nat → Nat} {σ : St} {post : Int32 → St → Prop} (h : wpM_one  σ post) : CI l E (wM E a) yX11_one cX11_one 4 .int rmM_one [.ref (a 0)] σ post := met_i (by decide) rfl (Nat.le_of_ble_eq_true rfl) rfl (fun X C hQ => kM_one C hQ _ h)
theorem csM_X11_103 {X : Kx} {l : Launch} {E : Ev} {a : Nat → Nat} {σ : St} {cc : ByteArray} {rm : Room} {ret : Option FieldType} {pc : Nat} {lv : List (Option Value)} {rest : List Value} {post : St → Prop} (C : Cx X l E RX11 cc rm ret) (h : wpM_takes  σ post) (hR : 0 + 1 ≤ rm.frames ∧ 8 + (2 + 11) + 0 ≤ rm.locals) (hW : (rest.map fun v => v.category).sum ≤ 8) (d : decode cc pc = .ok (.invokevirtual 103, 3)) (k : ∀ u : St, post u → G X (wM E a) u (pc + 3) lv rest) : G X (wM E a) σ pc lv (.ref (a 0) :: rest) := g_callVv C 0 (As := []) (rest := rest) (Cn := RX11) (T := TX11) (N := 42) (q0 := 0) (ci := 10) (by decide +kernel) (by decide +kernel) (by decide +kernel) (by decide +kernel) (by decide +kernel) (by decide +kernel) rfl rfl (cM_takes h) ⟨rfl, rfl⟩ hR rfl rfl hW d k
theorem csM_X11_209 {X : Kx} {l : Launch} {E : Ev} {a : Nat → Nat} {σ : St} {cc : ByteArray} {rm : Room} {ret : Option FieldType} {pc : Nat} {lv : List (Option Value)} {rest : List Value} {post : Int32 → St → Prop} (C : Cx X l E RX11 cc rm ret) (h : wpM_one  σ post) (hR : 6 + 1 ≤ rm.frames ∧ 8 + (4 + 11) + 128 ≤ rm.locals) (hW : (rest.map fun v => v.category).sum ≤ 8) (d : decode cc pc = .ok (.invokevirtual 209, 3)) (k : ∀ (r : Int32) (u : St), post r u → G X (wM E a) u (pc + 3) lv (.int r :: rest)) : G X (wM E a) σ pc lv (.ref (a 0) :: rest) := g_callVi C 0 (As := []) (rest := rest) (Cn := RX11) (T := TX11) (N := 42) (q0 := 0) (ci := 10) (by decide +kernel) (by decide +kernel) (by decide +kernel) (by decide +kernel) (by decide +kernel) (by decide +kernel) rfl rfl (cM_one h) ⟨rfl, rfl⟩ hR rfl rfl hW d k
theorem csM_X11_100 {X : Kx} {l : Launch} {E : Ev} {a : Nat → Nat} {σ : St} {cc : ByteArray} {rm : Room} {ret : Option FieldType} {pc : Nat} {lv : List (Option Value)} {rest : List Value} {post : St → Prop} (C : Cx X l E RX11 cc rm ret) (h : wpM_normal  σ post) (hR : 0 + 1 ≤ rm.frames ∧ 8 + (1 + 11) + 0 ≤ rm.locals) (hW : (rest.map fun v => v.category).sum ≤ 8) (d : decode cc pc = .ok (.invokevirtual 100, 3)) (k : ∀ u : St, post u → G X (wM E a) u (pc + 3) lv rest) : G X (wM E a) σ pc lv (.ref (a 0) :: rest) := g_callVv C 0 (As := []) (rest := rest) (Cn := RX11) (T := TX11) (N := 42) (q0 := 0) (ci := 10) (by decide +kernel) (by decide +kernel) (by decide +kernel) (by decide +kernel) (by decide +kernel) (by decide +kernel) rfl rfl (cM_normal h) ⟨rfl, rfl⟩ hR rfl rfl hW d k
/-! IceRunModel.laws()I -/
abbrev rmM_laws : Room := { frames := 7, cells := 0, slots := 0, locals := 151 }
def wpM_laws_70 (x1 : Int32) (σ : St) (post : Int32 → St → Prop) : Prop := post x1 σ
theorem kM_laws_70 {X : Kx} {l : Launch} {E : Ev} {a : Nat → Nat} {post : Int32 → St → Prop} (C : Cx X l E RX11 cX11_laws rmM_laws (some .int)) (hQ : QI X (wM E a) post) (x1 : Int32) (σ : St) (h : wpM_laws_70  x1 σ post) : G X (wM E a) σ 70 [none, some (.int x1)] [] := by
  unfold wpM_laws_70 at h
  refine g_iload_1 C dX11_laws_70 rfl ?_
  exact g_ireturn C hQ dX11_laws_71 h
def wpM_laws_57 (x1 : Int32) (σ : St) (post : Int32 → St → Prop) : Prop := let σ1 : St := pI σ 22 0; ((¬ x1 = 0 → wpM_laws_70 x1 σ1 post) ∧ (x1 = 0 → wpM_takes σ1 (fun σ2 => wpM_laws_70 x1 σ2 post)))
theorem kM_laws_57 {X : Kx} {l : Launch} {E : Ev} {a : Nat → Nat} {post : Int32 → St → Prop} (C : Cx X l E RX11 cX11_laws rmM_laws (some .int)) (hQ : QI X (wM E a) post) (x1 : Int32) (σ : St) (h : wpM_laws_57  x1 σ post) : G X (wM E a) σ 57 [some (.ref (a 0)), some (.int x1)] [] := by
  unfold wpM_laws_57 at h
  refine g_aload_0 C dX11_laws_57 rfl ?_
  refine g_iconst_0 C dX11_laws_58 ?_
  refine fpM_X11_146 C dX11_laws_59 ?_
  refine g_iload_1 C dX11_laws_62 rfl ?_
  refine g_if_ne C 70 dX11_laws_63 (by decide) (fun q => ?_) (fun q => ?_)
  · have h := h.1 q
    exact g_wk (kM_laws_70 C hQ _ _ h) (And.intro rfl (trivial))
  · have h := h.2 q
    refine g_aload_0 C dX11_laws_66 rfl ?_
    refine csM_X11_103 C h ⟨Nat.le_of_ble_eq_true rfl, Nat.le_of_ble_eq_true rfl⟩ (Nat.le_of_ble_eq_true rfl) dX11_laws_67 (fun _ h => ?_)
    exact g_wk (kM_laws_70 C hQ _ _ h) (And.intro rfl (trivial))
def wpBM_laws_34 (k_34 : Int32 → St → Prop) (x1 : Int32) (σ : St) (post : Int32 → St → Prop) : Prop := ((¬ x1 = 0 → wpM_laws_57 x1 σ post) ∧ (x1 = 0 → (((σ.1 22) ≤ (σ.1 24) → wpM_laws_57 x1 σ post) ∧ (¬ (σ.1 22) ≤ (σ.1 24) → wpM_one σ (fun r2 σ1 => k_34 r2 σ1)))))
def wpM_laws_34 (x1 : Int32) (σ : St) (post : Int32 → St → Prop) : Prop := ∃ n : Nat, lpN (α := Int32 × St) (fun kb t => wpBM_laws_34 (fun x1 σ => kb (x1, σ)) t.1 t.2 post) n (x1, σ)
theorem kBM_laws_34 {X : Kx} {l : Launch} {E : Ev} {a : Nat → Nat} {post : Int32 → St → Prop} (C : Cx X l E RX11 cX11_laws rmM_laws (some .int)) (hQ : QI X (wM E a) post) (k_34 : Int32 → St → Prop) (hk_34 : ∀ (x1 : Int32) (σ : St), k_34 x1 σ → G X (wM E a) σ 34 [some (.ref (a 0)), some (.int x1)] []) (x1 : Int32) (σ : St) (h : wpBM_laws_34 k_34 x1 σ post) : G X (wM E a) σ 34 [some (.ref (a 0)), some (.int x1)] [] := by
  unfold wpBM_laws_34 at h
  refine g_iload_1 C dX11_laws_34 rfl ?_
  refine g_if_ne C 57 dX11_laws_35 (by decide) (fun q => ?_) (fun q => ?_)
  · have h := h.1 q
    exact g_wk (kM_laws_57 C hQ _ _ h) (And.intro rfl (And.intro rfl (trivial)))
  · have h := h.2 q
    refine g_aload_0 C dX11_laws_38 rfl ?_
    refine fgM_X11_152 C dX11_laws_39 ?_
    refine g_aload_0 C dX11_laws_42 rfl ?_
    refine fgM_X11_146 C dX11_laws_43 ?_
    refine g_icmp_ge C 57 dX11_laws_46 (by decide) (fun q => ?_) (fun q => ?_)
    · have h := h.1 q
      exact g_wk (kM_laws_57 C hQ _ _ h) (And.intro rfl (And.intro rfl (trivial)))
    · have h := h.2 q
      refine g_aload_0 C dX11_laws_49 rfl ?_
      refine csM_X11_209 C h ⟨Nat.le_of_ble_eq_true rfl, Nat.le_of_ble_eq_true rfl⟩ (Nat.le_of_ble_eq_true rfl) dX11_laws_50 (fun _ _ h => ?_)
      refine g_istore_1 C dX11_laws_53 (Nat.le_of_ble_eq_true rfl) ?_
      refine g_goto C 34 dX11_laws_54 (by decide) ?_
      exact g_wk (hk_34 _ _ h) (And.intro rfl (And.intro rfl (trivial)))
theorem kM_laws_34 {X : Kx} {l : Launch} {E : Ev} {a : Nat → Nat} {post : Int32 → St → Prop} (C : Cx X l E RX11 cX11_laws rmM_laws (some .int)) (hQ : QI X (wM E a) post) (x1 : Int32) (σ : St) (h : wpM_laws_34  x1 σ post) : G X (wM E a) σ 34 [some (.ref (a 0)), some (.int x1)] [] := by
  obtain ⟨n, h⟩ := h
  exact g_loop (J := fun t : Int32 × St => G X (wM E a) t.2 34 [some (.ref (a 0)), some (.int t.1)] []) (fun kb hkb t ht => kBM_laws_34 C hQ  (fun x1 σ => kb (x1, σ)) (fun x1 σ hh => hkb (x1, σ) hh) t.1 t.2 ht) n (x1, σ) h
def wpM_laws (σ : St) (post : Int32 → St → Prop) : Prop := let σ1 : St := pI σ 0 0; wpM_isOn  σ1 (fun r3 σ2 => ((r3 = 0 → wpM_normal  σ2 (fun σ4 => let σ5 : St := pI σ4 23 (-1); let σ6 : St := pI σ5 25 0; wpM_token  σ6 (fun σ7 => wpM_laws_34 0 σ7 post))) ∧ (¬ r3 = 0 → post (-1) σ2)))
theorem kM_laws {X : Kx} {l : Launch} {E : Ev} {a : Nat → Nat} {post : Int32 → St → Prop} (C : Cx X l E RX11 cX11_laws rmM_laws (some .int)) (hQ : QI X (wM E a) post) (σ : St) (h : wpM_laws  σ post) : G X (wM E a) σ 0 [some (.ref (a 0)), none] [] := by
  unfold wpM_laws at h
  refine g_aload_0 C dX11_laws_0 rfl ?_
  refine g_iconst_0 C dX11_laws_1 ?_
  refine fpM_X11_106 C dX11_laws_2 ?_
  refine g_aload_0 C dX11_laws_5 rfl ?_
  refine csM_X11_127 C h ⟨Nat.le_of_ble_eq_true rfl, Nat.le_of_ble_eq_true rfl⟩ (Nat.le_of_ble_eq_true rfl) dX11_laws_6 (fun _ _ h => ?_)
  refine g_if_eq C 14 dX11_laws_9 (by decide) (fun q => ?_) (fun q => ?_)
  · have h := h.1 q
    refine g_aload_0 C dX11_laws_14 rfl ?_
    refine csM_X11_100 C h ⟨Nat.le_of_ble_eq_true rfl, Nat.le_of_ble_eq_true rfl⟩ (Nat.le_of_ble_eq_true rfl) dX11_laws_15 (fun _ h => ?_)
    refine g_aload_0 C dX11_laws_18 rfl ?_
    refine g_iconst_m1 C dX11_laws_19 ?_
    refine fpM_X11_65 C dX11_laws_20 ?_
    refine g_aload_0 C dX11_laws_23 rfl ?_
    refine g_iconst_0 C dX11_laws_24 ?_
    refine fpM_X11_149 C dX11_laws_25 ?_
    refine g_aload_0 C dX11_laws_28 rfl ?_
    refine csM_X11_198 C h ⟨Nat.le_of_ble_eq_true rfl, Nat.le_of_ble_eq_true rfl⟩ (Nat.le_of_ble_eq_true rfl) dX11_laws_29 (fun _ h => ?_)
    refine g_iconst_0 C dX11_laws_32 ?_
    refine g_istore_1 C dX11_laws_33 (Nat.le_of_ble_eq_true rfl) ?_
    exact g_wk (kM_laws_34 C hQ _ _ h) (And.intro rfl (And.intro rfl (trivial)))
  · have h := h.2 q
    refine g_iconst_m1 C dX11_laws_12 ?_
    exact g_ireturn C hQ dX11_laws_13 h
theorem cM_laws {l : Launch} {E : Ev} {a : Nat → Nat} {σ : St} {post : Int32 → St → Prop} (h : wpM_laws  σ post) : CI l E (wM E a) yX11_laws cX11_laws 2 .int rmM_laws [.ref (a 0)] σ post := met_i (by decide) rfl (Nat.le_of_ble_eq_true rfl) rfl (fun X C hQ => kM_laws C hQ _ h)

abbrev rmC_X3 : Room := { frames := 1, cells := 7, slots := 48, locals := 12 }
set_option maxRecDepth 20000 in
set_option maxHeartbeats 2000000 in
theorem cC_X3 {l : Launch} {E : Ev} {h0 : Nat} : CC l E yX3_init cX3_init 1 rmC_X3 [.ref h0] [(h0, .inr (3, [.null, .null, .null]))] (fun u => ∃ q1 q2 q3 q4 q5 q6 q7 : Nat, u = [(h0, .inr (3, [.ref q1, .ref q2, .ref q3])), (q1, .inl (E.2.1 0, 4, .inl (upd (upd (upd (upd (fun _ => 0) (Int32.toNatClampNeg 0) 3) (Int32.toNatClampNeg 1) 3) (Int32.toNatClampNeg 2) 3) (Int32.toNatClampNeg 3) 3))), (q2, .inl (E.2.1 0, 4, .inl (fun _ => 0))), (q3, .inl (E.2.1 4, 4, .inr (.inr (.inr (.inr (rw4 q4 q5 q6 q7)))))), (q4, .inl (E.2.1 0, 9, .inl (fun _ => 0))), (q5, .inl (E.2.1 0, 9, .inl (fun _ => 0))), (q6, .inl (E.2.1 0, 9, .inl (fun _ => 0))), (q7, .inl (E.2.1 0, 9, .inl (fun _ => 0)))]) := met_c (by decide) rfl rfl (Nat.le_of_ble_eq_true rfl) rfl (fun X C hI hQ => by
  have C1 := cxk C (a := 0) (b := 0) (Nat.le_of_ble_eq_true rfl) (Nat.le_of_ble_eq_true rfl)
  refine g_aload_0 C1 dX3_init_0 rfl ?_
  refine g_objInit C1 (by decide +kernel) (Nat.le_of_ble_eq_true rfl) (Nat.le_of_ble_eq_true rfl) dX3_init_1 ?_
  refine g_aload_0 C1 dX3_init_4 rfl ?_
  refine g_iconst_4 C1 dX3_init_5 ?_
  refine g_newi C (a := 0) (b := 0) 4 (by decide) (by decide) (by decide) (Nat.le_of_ble_eq_true rfl) (Nat.le_of_ble_eq_true rfl) dX3_init_6 (fun q1 => ?_)
  have C2 := cxk C (a := 1) (b := 4) (Nat.le_of_ble_eq_true rfl) (Nat.le_of_ble_eq_true rfl)
  show G (XK X 1 4) wid [(h0, .inr (3, [.null, .null, .null])), (q1, .inl (E.2.1 0, 4, .inl (fun _ => 0)))] 8 [some (.ref h0)] [.ref q1, .ref h0]
  refine g_dup C2 dX3_init_8 rfl ?_
  refine g_iconst_0 C2 dX3_init_9 ?_
  refine g_iconst_3 C2 dX3_init_10 ?_
  refine g_iast C2 (q0 := 1) (σ' := [(h0, .inr (3, [.null, .null, .null])), (q1, .inl (E.2.1 0, 4, .inl (upd (fun _ => 0) (Int32.toNatClampNeg 0) 3)))]) rfl rfl (by unfold vp_in; decide) dX3_init_11 ?_
  refine g_dup C2 dX3_init_12 rfl ?_
  refine g_iconst_1 C2 dX3_init_13 ?_
  refine g_iconst_3 C2 dX3_init_14 ?_
  refine g_iast C2 (q0 := 1) (σ' := [(h0, .inr (3, [.null, .null, .null])), (q1, .inl (E.2.1 0, 4, .inl (upd (upd (fun _ => 0) (Int32.toNatClampNeg 0) 3) (Int32.toNatClampNeg 1) 3)))]) rfl rfl (by unfold vp_in; decide) dX3_init_15 ?_
  refine g_dup C2 dX3_init_16 rfl ?_
  refine g_iconst_2 C2 dX3_init_17 ?_
  refine g_iconst_3 C2 dX3_init_18 ?_
  refine g_iast C2 (q0 := 1) (σ' := [(h0, .inr (3, [.null, .null, .null])), (q1, .inl (E.2.1 0, 4, .inl (upd (upd (upd (fun _ => 0) (Int32.toNatClampNeg 0) 3) (Int32.toNatClampNeg 1) 3) (Int32.toNatClampNeg 2) 3)))]) rfl rfl (by unfold vp_in; decide) dX3_init_19 ?_
  refine g_dup C2 dX3_init_20 rfl ?_
  refine g_iconst_3 C2 dX3_init_21 ?_
  refine g_iconst_3 C2 dX3_init_22 ?_
  refine g_iast C2 (q0 := 1) (σ' := [(h0, .inr (3, [.null, .null, .null])), (q1, .inl (E.2.1 0, 4, .inl (upd (upd (upd (upd (fun _ => 0) (Int32.toNatClampNeg 0) 3) (Int32.toNatClampNeg 1) 3) (Int32.toNatClampNeg 2) 3) (Int32.toNatClampNeg 3) 3)))]) rfl rfl (by unfold vp_in; decide) dX3_init_23 ?_
  refine g_putF C hI (a := 1) (b := 4) (q0 := 0) (ci := 3) (k := 0) (ty0 := tyX3) (σ' := [(h0, .inr (3, [.ref q1, .null, .null])), (q1, .inl (E.2.1 0, 4, .inl (upd (upd (upd (upd (fun _ => 0) (Int32.toNatClampNeg 0) 3) (Int32.toNatClampNeg 1) 3) (Int32.toNatClampNeg 2) 3) (Int32.toNatClampNeg 3) 3)))]) rfl rfl inU_X3 (by decide) tyX3_ok nmX3 (by decide +kernel) rfl rfl rfl rfl (Nat.le_of_ble_eq_true rfl) rfl dX3_init_24 ?_
  refine g_aload_0 C2 dX3_init_27 rfl ?_
  refine g_iconst_4 C2 dX3_init_28 ?_
  refine g_newi C (a := 1) (b := 4) 4 (by decide) (by decide) (by decide) (Nat.le_of_ble_eq_true rfl) (Nat.le_of_ble_eq_true rfl) dX3_init_29 (fun q2 => ?_)
  have C3 := cxk C (a := 2) (b := 8) (Nat.le_of_ble_eq_true rfl) (Nat.le_of_ble_eq_true rfl)
  show G (XK X 2 8) wid [(h0, .inr (3, [.ref q1, .null, .null])), (q1, .inl (E.2.1 0, 4, .inl (upd (upd (upd (upd (fun _ => 0) (Int32.toNatClampNeg 0) 3) (Int32.toNatClampNeg 1) 3) (Int32.toNatClampNeg 2) 3) (Int32.toNatClampNeg 3) 3))), (q2, .inl (E.2.1 0, 4, .inl (fun _ => 0)))] 31 [some (.ref h0)] [.ref q2, .ref h0]
  refine g_putF C hI (a := 2) (b := 8) (q0 := 0) (ci := 3) (k := 1) (ty0 := tyX3) (σ' := [(h0, .inr (3, [.ref q1, .ref q2, .null])), (q1, .inl (E.2.1 0, 4, .inl (upd (upd (upd (upd (fun _ => 0) (Int32.toNatClampNeg 0) 3) (Int32.toNatClampNeg 1) 3) (Int32.toNatClampNeg 2) 3) (Int32.toNatClampNeg 3) 3))), (q2, .inl (E.2.1 0, 4, .inl (fun _ => 0)))]) rfl rfl inU_X3 (by decide) tyX3_ok nmX3 (by decide +kernel) rfl rfl rfl rfl (Nat.le_of_ble_eq_true rfl) rfl dX3_init_31 ?_
  refine g_aload_0 C3 dX3_init_34 rfl ?_
  refine g_iconst_4 C3 dX3_init_35 ?_
  refine g_bipush C3 (v := 9) (by decide) dX3_init_36 ?_
  refine g_mna C hI (a := 2) (b := 8) (ws := [(h0, .inr (3, [.ref q1, .ref q2, .null])), (q1, .inl (E.2.1 0, 4, .inl (upd (upd (upd (upd (fun _ => 0) (Int32.toNatClampNeg 0) 3) (Int32.toNatClampNeg 1) 3) (Int32.toNatClampNeg 2) 3) (Int32.toNatClampNeg 3) 3))), (q2, .inl (E.2.1 0, 4, .inl (fun _ => 0)))]) (by decide +kernel) (Nat.le_of_ble_eq_true rfl) (Nat.le_of_ble_eq_true rfl) dX3_init_38 (fun q3 q4 q5 q6 q7 => ?_)
  have C4 := cxk C (a := 7) (b := 48) (Nat.le_of_ble_eq_true rfl) (Nat.le_of_ble_eq_true rfl)
  show G (XK X 7 48) wid [(h0, .inr (3, [.ref q1, .ref q2, .null])), (q1, .inl (E.2.1 0, 4, .inl (upd (upd (upd (upd (fun _ => 0) (Int32.toNatClampNeg 0) 3) (Int32.toNatClampNeg 1) 3) (Int32.toNatClampNeg 2) 3) (Int32.toNatClampNeg 3) 3))), (q2, .inl (E.2.1 0, 4, .inl (fun _ => 0))), (q3, .inl (E.2.1 4, 4, .inr (.inr (.inr (.inr (rw4 q4 q5 q6 q7)))))), (q4, .inl (E.2.1 0, 9, .inl (fun _ => 0))), (q5, .inl (E.2.1 0, 9, .inl (fun _ => 0))), (q6, .inl (E.2.1 0, 9, .inl (fun _ => 0))), (q7, .inl (E.2.1 0, 9, .inl (fun _ => 0)))] 42 [some (.ref h0)] [.ref q3, .ref h0]
  refine g_putF C hI (a := 7) (b := 48) (q0 := 0) (ci := 3) (k := 2) (ty0 := tyX3) (σ' := [(h0, .inr (3, [.ref q1, .ref q2, .ref q3])), (q1, .inl (E.2.1 0, 4, .inl (upd (upd (upd (upd (fun _ => 0) (Int32.toNatClampNeg 0) 3) (Int32.toNatClampNeg 1) 3) (Int32.toNatClampNeg 2) 3) (Int32.toNatClampNeg 3) 3))), (q2, .inl (E.2.1 0, 4, .inl (fun _ => 0))), (q3, .inl (E.2.1 4, 4, .inr (.inr (.inr (.inr (rw4 q4 q5 q6 q7)))))), (q4, .inl (E.2.1 0, 9, .inl (fun _ => 0))), (q5, .inl (E.2.1 0, 9, .inl (fun _ => 0))), (q6, .inl (E.2.1 0, 9, .inl (fun _ => 0))), (q7, .inl (E.2.1 0, 9, .inl (fun _ => 0)))]) rfl rfl inU_X3 (by decide) tyX3_ok nmX3 (by decide +kernel) rfl rfl rfl rfl (Nat.le_of_ble_eq_true rfl) rfl dX3_init_42 ?_
  exact g_returnC C hQ dX3_init_45 (Nat.le_of_ble_eq_true rfl) (Nat.le_of_ble_eq_true rfl) ⟨q1, q2, q3, q4, q5, q6, q7, rfl⟩)
abbrev rmC_X0 : Room := { frames := 2, cells := 3, slots := 17, locals := 32 }
set_option maxRecDepth 20000 in
set_option maxHeartbeats 2000000 in
theorem cC_X0 {l : Launch} {E : Ev} {h0 : Nat} : CC l E yX0_init cX0_init 1 rmC_X0 [.ref h0] [(h0, .inr (0, [.null, .null, .int 0]))] (fun u => ∃ q1 q2 q3 : Nat, u = [(h0, .inr (0, [.ref q1, .ref q3, .int (-1)])), (q3, .inl (E.2.1 0, 6, .inl (va_cpy usualF (fun _ => 0) (Int32.toNatClampNeg 0) (Int32.toNatClampNeg 0) (Int32.toNatClampNeg 6)))), (q1, .inr (1, [.ref q2, .int 0, .int 0, .int 0, .int 0])), (q2, .inl (E.2.1 0, 6, .inl (fun _ => 0)))]) := met_c (by decide) rfl rfl (Nat.le_of_ble_eq_true rfl) rfl (fun X C hI hQ => by
  have C1 := cxk C (a := 0) (b := 0) (Nat.le_of_ble_eq_true rfl) (Nat.le_of_ble_eq_true rfl)
  refine g_aload_0 C1 dX0_init_0 rfl ?_
  refine g_objInit C1 (by decide +kernel) (Nat.le_of_ble_eq_true rfl) (Nat.le_of_ble_eq_true rfl) dX0_init_1 ?_
  refine g_aload_0 C1 dX0_init_4 rfl ?_
  refine g_new C (a := 0) (b := 0) (ci := 1) [.null, .int 0, .int 0, .int 0, .int 0] rfl inU_X1 tyX1_ok (by decide +kernel) (by decide +kernel) (by decide +kernel) (by decide) (Nat.le_of_ble_eq_true rfl) (Nat.le_of_ble_eq_true rfl) dX0_init_5 (fun q1 => ?_)
  have C2 := cxk C (a := 1) (b := 5) (Nat.le_of_ble_eq_true rfl) (Nat.le_of_ble_eq_true rfl)
  show G (XK X 1 5) wid ([(h0, .inr (0, [.null, .null, .int 0]))] ++ [(q1, .inr (1, [.null, .int 0, .int 0, .int 0, .int 0]))]) 8 [some (.ref h0)] [.ref q1, .ref h0]
  refine g_dup C2 dX0_init_8 rfl ?_
  refine g_ctorN C hI (a := 1) (b := 5) (ws := [(h0, .inr (0, [.null, .null, .int 0]))]) (q := q1) (e0 := .inr (1, [.null, .int 0, .int 0, .int 0, .int 0])) (rest := [.ref q1, .ref h0]) (y := yX1_init) (bytes := cX1_init) (nL' := 1) (host := "IceRun") (by decide +kernel) (by decide +kernel) (by decide +kernel) (by decide +kernel) rfl (by decide +kernel) cC_X1 ⟨(Nat.le_of_ble_eq_true rfl), (Nat.le_of_ble_eq_true rfl)⟩ ⟨(Nat.le_of_ble_eq_true rfl), (Nat.le_of_ble_eq_true rfl)⟩ (Nat.le_of_ble_eq_true rfl) dX0_init_9 (fun u hu => ?_)
  obtain ⟨q2, rfl⟩ := hu
  have C3 := cxk C (a := 2) (b := 11) (Nat.le_of_ble_eq_true rfl) (Nat.le_of_ble_eq_true rfl)
  show G (XK X 2 11) wid [(h0, .inr (0, [.null, .null, .int 0])), (q1, .inr (1, [.ref q2, .int 0, .int 0, .int 0, .int 0])), (q2, .inl (E.2.1 0, 6, .inl (fun _ => 0)))] 12 [some (.ref h0)] [.ref q1, .ref h0]
  refine g_putF C hI (a := 2) (b := 11) (q0 := 0) (ci := 0) (k := 0) (ty0 := tyX0) (σ' := [(h0, .inr (0, [.ref q1, .null, .int 0])), (q1, .inr (1, [.ref q2, .int 0, .int 0, .int 0, .int 0])), (q2, .inl (E.2.1 0, 6, .inl (fun _ => 0)))]) rfl rfl inU_X0 (by decide) tyX0_ok nmX0 (by decide +kernel) rfl rfl rfl rfl (Nat.le_of_ble_eq_true rfl) rfl dX0_init_12 ?_
  refine g_aload_0 C3 dX0_init_15 rfl ?_
  refine g_bipush C3 (v := 6) (by decide) dX0_init_16 ?_
  refine g_newi C (a := 2) (b := 11) 6 (by decide) (by decide) (by decide) (Nat.le_of_ble_eq_true rfl) (Nat.le_of_ble_eq_true rfl) dX0_init_18 (fun q3 => ?_)
  have C4 := cxk C (a := 3) (b := 17) (Nat.le_of_ble_eq_true rfl) (Nat.le_of_ble_eq_true rfl)
  show G (XK X 3 17) wid [(h0, .inr (0, [.ref q1, .null, .int 0])), (q1, .inr (1, [.ref q2, .int 0, .int 0, .int 0, .int 0])), (q2, .inl (E.2.1 0, 6, .inl (fun _ => 0))), (q3, .inl (E.2.1 0, 6, .inl (fun _ => 0)))] 20 [some (.ref h0)] [.ref q3, .ref h0]
  refine g_putF C hI (a := 3) (b := 17) (q0 := 0) (ci := 0) (k := 1) (ty0 := tyX0) (σ' := [(h0, .inr (0, [.ref q1, .ref q3, .int 0])), (q1, .inr (1, [.ref q2, .int 0, .int 0, .int 0, .int 0])), (q2, .inl (E.2.1 0, 6, .inl (fun _ => 0))), (q3, .inl (E.2.1 0, 6, .inl (fun _ => 0)))]) rfl rfl inU_X0 (by decide) tyX0_ok nmX0 (by decide +kernel) rfl rfl rfl rfl (Nat.le_of_ble_eq_true rfl) rfl dX0_init_20 ?_
  refine g_aload_0 C4 dX0_init_23 rfl ?_
  refine g_iconst_m1 C4 dX0_init_24 ?_
  refine g_put C4 (q0 := 0) (ci := 0) (k := 2) (ty0 := tyX0) (σ' := [(h0, .inr (0, [.ref q1, .ref q3, .int (-1)])), (q1, .inr (1, [.ref q2, .int 0, .int 0, .int 0, .int 0])), (q2, .inl (E.2.1 0, 6, .inl (fun _ => 0))), (q3, .inl (E.2.1 0, 6, .inl (fun _ => 0)))]) rfl rfl inU_X0 (by decide) tyX0_ok nmX0 (by decide +kernel) rfl rfl rfl (Nat.le_of_ble_eq_true rfl) rfl dX0_init_25 ?_
  refine g_usual C4 (host := "IceRun") (by decide +kernel) dX0_init_28 ?_
  refine g_iconst_0 C4 dX0_init_31 ?_
  refine g_aload_0 C4 dX0_init_32 rfl ?_
  refine g_get C4 (q0 := 0) (ci := 0) (k := 1) rfl rfl inU_X0 (by decide) (by decide +kernel) rfl dX0_init_33 ?_
  refine g_iconst_0 C4 dX0_init_36 ?_
  refine g_bipush C4 (v := 6) (by decide) dX0_init_37 ?_
  refine g_copyU C4 (by decide +kernel) (by decide +kernel) (by decide +kernel) (by decide +kernel) (q1 := 3) (σ' := [(h0, .inr (0, [.ref q1, .ref q3, .int (-1)])), (q1, .inr (1, [.ref q2, .int 0, .int 0, .int 0, .int 0])), (q2, .inl (E.2.1 0, 6, .inl (fun _ => 0))), (q3, .inl (E.2.1 0, 6, .inl (va_cpy usualF (fun _ => 0) (Int32.toNatClampNeg 0) (Int32.toNatClampNeg 0) (Int32.toNatClampNeg 6))))]) rfl rfl (by decide) ⟨(Nat.le_of_ble_eq_true rfl), (Nat.le_of_ble_eq_true rfl)⟩ dX0_init_39 ?_
  refine g_perm (ws' := [(h0, .inr (0, [.ref q1, .ref q3, .int (-1)])), (q3, .inl (E.2.1 0, 6, .inl (va_cpy usualF (fun _ => 0) (Int32.toNatClampNeg 0) (Int32.toNatClampNeg 0) (Int32.toNatClampNeg 6)))), (q1, .inr (1, [.ref q2, .int 0, .int 0, .int 0, .int 0])), (q2, .inl (E.2.1 0, 6, .inl (fun _ => 0)))]) [0, 3, 1, 2] (by decide) rfl ?_
  exact g_returnC C hQ dX0_init_42 (Nat.le_of_ble_eq_true rfl) (Nat.le_of_ble_eq_true rfl) ⟨q1, q2, q3, rfl⟩)

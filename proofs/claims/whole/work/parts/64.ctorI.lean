abbrev rmC_X8 : Room := { frames := 1, cells := 7, slots := 218, locals := 12 }
set_option maxRecDepth 20000 in
set_option maxHeartbeats 2000000 in
theorem cC_X8 {l : Launch} {E : Ev} {h0 : Nat} : CC l E yX8_init cX8_init 1 rmC_X8 [.ref h0] [(h0, .inr (8, [.int 0, .int 0, .null, .null, .null, .null, .null, .null, .null]))] (fun u => ∃ q1 q2 q3 q4 q5 q6 q7 : Nat, u = [(h0, .inr (8, [.int 0, .int 0, .ref q1, .ref q2, .ref q3, .ref q4, .ref q5, .ref q6, .ref q7])), (q1, .inl (E.2.1 0, 40, .inl (fun _ => 0))), (q2, .inl (E.2.1 0, 40, .inl (fun _ => 0))), (q3, .inl (E.2.1 0, 40, .inl (fun _ => 0))), (q4, .inl (E.2.1 0, 40, .inl (fun _ => 0))), (q5, .inl (E.2.1 0, 40, .inl (fun _ => 0))), (q6, .inl (E.2.1 0, 6, .inl (fun _ => 0))), (q7, .inl (E.2.1 0, 12, .inl (fun _ => 0)))]) := met_c (by decide) rfl rfl (Nat.le_of_ble_eq_true rfl) rfl (fun X C hI hQ => by
  have C1 := cxk C (a := 0) (b := 0) (Nat.le_of_ble_eq_true rfl) (Nat.le_of_ble_eq_true rfl)
  refine g_aload_0 C1 dX8_init_0 rfl ?_
  refine g_objInit C1 (by decide +kernel) (Nat.le_of_ble_eq_true rfl) (Nat.le_of_ble_eq_true rfl) dX8_init_1 ?_
  refine g_aload_0 C1 dX8_init_4 rfl ?_
  refine g_iconst_0 C1 dX8_init_5 ?_
  refine g_put C1 (q0 := 0) (ci := 8) (k := 0) (ty0 := tyX8) (σ' := [(h0, .inr (8, [.int 0, .int 0, .null, .null, .null, .null, .null, .null, .null]))]) rfl rfl inU_X8 (by decide) tyX8_ok nmX8 (by decide +kernel) rfl rfl rfl (Nat.le_of_ble_eq_true rfl) rfl dX8_init_6 ?_
  refine g_aload_0 C1 dX8_init_9 rfl ?_
  refine g_iconst_0 C1 dX8_init_10 ?_
  refine g_put C1 (q0 := 0) (ci := 8) (k := 1) (ty0 := tyX8) (σ' := [(h0, .inr (8, [.int 0, .int 0, .null, .null, .null, .null, .null, .null, .null]))]) rfl rfl inU_X8 (by decide) tyX8_ok nmX8 (by decide +kernel) rfl rfl rfl (Nat.le_of_ble_eq_true rfl) rfl dX8_init_11 ?_
  refine g_aload_0 C1 dX8_init_14 rfl ?_
  refine g_bipush C1 (v := 40) (by decide) dX8_init_15 ?_
  refine g_newi C (a := 0) (b := 0) 40 (by decide) (by decide) (by decide) (Nat.le_of_ble_eq_true rfl) (Nat.le_of_ble_eq_true rfl) dX8_init_17 (fun q1 => ?_)
  have C2 := cxk C (a := 1) (b := 40) (Nat.le_of_ble_eq_true rfl) (Nat.le_of_ble_eq_true rfl)
  show G (XK X 1 40) wid [(h0, .inr (8, [.int 0, .int 0, .null, .null, .null, .null, .null, .null, .null])), (q1, .inl (E.2.1 0, 40, .inl (fun _ => 0)))] 19 [some (.ref h0)] [.ref q1, .ref h0]
  refine g_putF C hI (a := 1) (b := 40) (q0 := 0) (ci := 8) (k := 2) (ty0 := tyX8) (σ' := [(h0, .inr (8, [.int 0, .int 0, .ref q1, .null, .null, .null, .null, .null, .null])), (q1, .inl (E.2.1 0, 40, .inl (fun _ => 0)))]) rfl rfl inU_X8 (by decide) tyX8_ok nmX8 (by decide +kernel) rfl rfl rfl rfl (Nat.le_of_ble_eq_true rfl) rfl dX8_init_19 ?_
  refine g_aload_0 C2 dX8_init_22 rfl ?_
  refine g_bipush C2 (v := 40) (by decide) dX8_init_23 ?_
  refine g_newi C (a := 1) (b := 40) 40 (by decide) (by decide) (by decide) (Nat.le_of_ble_eq_true rfl) (Nat.le_of_ble_eq_true rfl) dX8_init_25 (fun q2 => ?_)
  have C3 := cxk C (a := 2) (b := 80) (Nat.le_of_ble_eq_true rfl) (Nat.le_of_ble_eq_true rfl)
  show G (XK X 2 80) wid [(h0, .inr (8, [.int 0, .int 0, .ref q1, .null, .null, .null, .null, .null, .null])), (q1, .inl (E.2.1 0, 40, .inl (fun _ => 0))), (q2, .inl (E.2.1 0, 40, .inl (fun _ => 0)))] 27 [some (.ref h0)] [.ref q2, .ref h0]
  refine g_putF C hI (a := 2) (b := 80) (q0 := 0) (ci := 8) (k := 3) (ty0 := tyX8) (σ' := [(h0, .inr (8, [.int 0, .int 0, .ref q1, .ref q2, .null, .null, .null, .null, .null])), (q1, .inl (E.2.1 0, 40, .inl (fun _ => 0))), (q2, .inl (E.2.1 0, 40, .inl (fun _ => 0)))]) rfl rfl inU_X8 (by decide) tyX8_ok nmX8 (by decide +kernel) rfl rfl rfl rfl (Nat.le_of_ble_eq_true rfl) rfl dX8_init_27 ?_
  refine g_aload_0 C3 dX8_init_30 rfl ?_
  refine g_bipush C3 (v := 40) (by decide) dX8_init_31 ?_
  refine g_newi C (a := 2) (b := 80) 40 (by decide) (by decide) (by decide) (Nat.le_of_ble_eq_true rfl) (Nat.le_of_ble_eq_true rfl) dX8_init_33 (fun q3 => ?_)
  have C4 := cxk C (a := 3) (b := 120) (Nat.le_of_ble_eq_true rfl) (Nat.le_of_ble_eq_true rfl)
  show G (XK X 3 120) wid [(h0, .inr (8, [.int 0, .int 0, .ref q1, .ref q2, .null, .null, .null, .null, .null])), (q1, .inl (E.2.1 0, 40, .inl (fun _ => 0))), (q2, .inl (E.2.1 0, 40, .inl (fun _ => 0))), (q3, .inl (E.2.1 0, 40, .inl (fun _ => 0)))] 35 [some (.ref h0)] [.ref q3, .ref h0]
  refine g_putF C hI (a := 3) (b := 120) (q0 := 0) (ci := 8) (k := 4) (ty0 := tyX8) (σ' := [(h0, .inr (8, [.int 0, .int 0, .ref q1, .ref q2, .ref q3, .null, .null, .null, .null])), (q1, .inl (E.2.1 0, 40, .inl (fun _ => 0))), (q2, .inl (E.2.1 0, 40, .inl (fun _ => 0))), (q3, .inl (E.2.1 0, 40, .inl (fun _ => 0)))]) rfl rfl inU_X8 (by decide) tyX8_ok nmX8 (by decide +kernel) rfl rfl rfl rfl (Nat.le_of_ble_eq_true rfl) rfl dX8_init_35 ?_
  refine g_aload_0 C4 dX8_init_38 rfl ?_
  refine g_bipush C4 (v := 40) (by decide) dX8_init_39 ?_
  refine g_newi C (a := 3) (b := 120) 40 (by decide) (by decide) (by decide) (Nat.le_of_ble_eq_true rfl) (Nat.le_of_ble_eq_true rfl) dX8_init_41 (fun q4 => ?_)
  have C5 := cxk C (a := 4) (b := 160) (Nat.le_of_ble_eq_true rfl) (Nat.le_of_ble_eq_true rfl)
  show G (XK X 4 160) wid [(h0, .inr (8, [.int 0, .int 0, .ref q1, .ref q2, .ref q3, .null, .null, .null, .null])), (q1, .inl (E.2.1 0, 40, .inl (fun _ => 0))), (q2, .inl (E.2.1 0, 40, .inl (fun _ => 0))), (q3, .inl (E.2.1 0, 40, .inl (fun _ => 0))), (q4, .inl (E.2.1 0, 40, .inl (fun _ => 0)))] 43 [some (.ref h0)] [.ref q4, .ref h0]
  refine g_putF C hI (a := 4) (b := 160) (q0 := 0) (ci := 8) (k := 5) (ty0 := tyX8) (σ' := [(h0, .inr (8, [.int 0, .int 0, .ref q1, .ref q2, .ref q3, .ref q4, .null, .null, .null])), (q1, .inl (E.2.1 0, 40, .inl (fun _ => 0))), (q2, .inl (E.2.1 0, 40, .inl (fun _ => 0))), (q3, .inl (E.2.1 0, 40, .inl (fun _ => 0))), (q4, .inl (E.2.1 0, 40, .inl (fun _ => 0)))]) rfl rfl inU_X8 (by decide) tyX8_ok nmX8 (by decide +kernel) rfl rfl rfl rfl (Nat.le_of_ble_eq_true rfl) rfl dX8_init_43 ?_
  refine g_aload_0 C5 dX8_init_46 rfl ?_
  refine g_bipush C5 (v := 40) (by decide) dX8_init_47 ?_
  refine g_newi C (a := 4) (b := 160) 40 (by decide) (by decide) (by decide) (Nat.le_of_ble_eq_true rfl) (Nat.le_of_ble_eq_true rfl) dX8_init_49 (fun q5 => ?_)
  have C6 := cxk C (a := 5) (b := 200) (Nat.le_of_ble_eq_true rfl) (Nat.le_of_ble_eq_true rfl)
  show G (XK X 5 200) wid [(h0, .inr (8, [.int 0, .int 0, .ref q1, .ref q2, .ref q3, .ref q4, .null, .null, .null])), (q1, .inl (E.2.1 0, 40, .inl (fun _ => 0))), (q2, .inl (E.2.1 0, 40, .inl (fun _ => 0))), (q3, .inl (E.2.1 0, 40, .inl (fun _ => 0))), (q4, .inl (E.2.1 0, 40, .inl (fun _ => 0))), (q5, .inl (E.2.1 0, 40, .inl (fun _ => 0)))] 51 [some (.ref h0)] [.ref q5, .ref h0]
  refine g_putF C hI (a := 5) (b := 200) (q0 := 0) (ci := 8) (k := 6) (ty0 := tyX8) (σ' := [(h0, .inr (8, [.int 0, .int 0, .ref q1, .ref q2, .ref q3, .ref q4, .ref q5, .null, .null])), (q1, .inl (E.2.1 0, 40, .inl (fun _ => 0))), (q2, .inl (E.2.1 0, 40, .inl (fun _ => 0))), (q3, .inl (E.2.1 0, 40, .inl (fun _ => 0))), (q4, .inl (E.2.1 0, 40, .inl (fun _ => 0))), (q5, .inl (E.2.1 0, 40, .inl (fun _ => 0)))]) rfl rfl inU_X8 (by decide) tyX8_ok nmX8 (by decide +kernel) rfl rfl rfl rfl (Nat.le_of_ble_eq_true rfl) rfl dX8_init_51 ?_
  refine g_aload_0 C6 dX8_init_54 rfl ?_
  refine g_bipush C6 (v := 6) (by decide) dX8_init_55 ?_
  refine g_newi C (a := 5) (b := 200) 6 (by decide) (by decide) (by decide) (Nat.le_of_ble_eq_true rfl) (Nat.le_of_ble_eq_true rfl) dX8_init_57 (fun q6 => ?_)
  have C7 := cxk C (a := 6) (b := 206) (Nat.le_of_ble_eq_true rfl) (Nat.le_of_ble_eq_true rfl)
  show G (XK X 6 206) wid [(h0, .inr (8, [.int 0, .int 0, .ref q1, .ref q2, .ref q3, .ref q4, .ref q5, .null, .null])), (q1, .inl (E.2.1 0, 40, .inl (fun _ => 0))), (q2, .inl (E.2.1 0, 40, .inl (fun _ => 0))), (q3, .inl (E.2.1 0, 40, .inl (fun _ => 0))), (q4, .inl (E.2.1 0, 40, .inl (fun _ => 0))), (q5, .inl (E.2.1 0, 40, .inl (fun _ => 0))), (q6, .inl (E.2.1 0, 6, .inl (fun _ => 0)))] 59 [some (.ref h0)] [.ref q6, .ref h0]
  refine g_putF C hI (a := 6) (b := 206) (q0 := 0) (ci := 8) (k := 7) (ty0 := tyX8) (σ' := [(h0, .inr (8, [.int 0, .int 0, .ref q1, .ref q2, .ref q3, .ref q4, .ref q5, .ref q6, .null])), (q1, .inl (E.2.1 0, 40, .inl (fun _ => 0))), (q2, .inl (E.2.1 0, 40, .inl (fun _ => 0))), (q3, .inl (E.2.1 0, 40, .inl (fun _ => 0))), (q4, .inl (E.2.1 0, 40, .inl (fun _ => 0))), (q5, .inl (E.2.1 0, 40, .inl (fun _ => 0))), (q6, .inl (E.2.1 0, 6, .inl (fun _ => 0)))]) rfl rfl inU_X8 (by decide) tyX8_ok nmX8 (by decide +kernel) rfl rfl rfl rfl (Nat.le_of_ble_eq_true rfl) rfl dX8_init_59 ?_
  refine g_aload_0 C7 dX8_init_62 rfl ?_
  refine g_bipush C7 (v := 12) (by decide) dX8_init_63 ?_
  refine g_newi C (a := 6) (b := 206) 12 (by decide) (by decide) (by decide) (Nat.le_of_ble_eq_true rfl) (Nat.le_of_ble_eq_true rfl) dX8_init_65 (fun q7 => ?_)
  have C8 := cxk C (a := 7) (b := 218) (Nat.le_of_ble_eq_true rfl) (Nat.le_of_ble_eq_true rfl)
  show G (XK X 7 218) wid [(h0, .inr (8, [.int 0, .int 0, .ref q1, .ref q2, .ref q3, .ref q4, .ref q5, .ref q6, .null])), (q1, .inl (E.2.1 0, 40, .inl (fun _ => 0))), (q2, .inl (E.2.1 0, 40, .inl (fun _ => 0))), (q3, .inl (E.2.1 0, 40, .inl (fun _ => 0))), (q4, .inl (E.2.1 0, 40, .inl (fun _ => 0))), (q5, .inl (E.2.1 0, 40, .inl (fun _ => 0))), (q6, .inl (E.2.1 0, 6, .inl (fun _ => 0))), (q7, .inl (E.2.1 0, 12, .inl (fun _ => 0)))] 67 [some (.ref h0)] [.ref q7, .ref h0]
  refine g_putF C hI (a := 7) (b := 218) (q0 := 0) (ci := 8) (k := 8) (ty0 := tyX8) (σ' := [(h0, .inr (8, [.int 0, .int 0, .ref q1, .ref q2, .ref q3, .ref q4, .ref q5, .ref q6, .ref q7])), (q1, .inl (E.2.1 0, 40, .inl (fun _ => 0))), (q2, .inl (E.2.1 0, 40, .inl (fun _ => 0))), (q3, .inl (E.2.1 0, 40, .inl (fun _ => 0))), (q4, .inl (E.2.1 0, 40, .inl (fun _ => 0))), (q5, .inl (E.2.1 0, 40, .inl (fun _ => 0))), (q6, .inl (E.2.1 0, 6, .inl (fun _ => 0))), (q7, .inl (E.2.1 0, 12, .inl (fun _ => 0)))]) rfl rfl inU_X8 (by decide) tyX8_ok nmX8 (by decide +kernel) rfl rfl rfl rfl (Nat.le_of_ble_eq_true rfl) rfl dX8_init_67 ?_
  exact g_returnC C hQ dX8_init_70 (Nat.le_of_ble_eq_true rfl) (Nat.le_of_ble_eq_true rfl) ⟨q1, q2, q3, q4, q5, q6, q7, rfl⟩)
abbrev rmC_X5 : Room := { frames := 1, cells := 5, slots := 80, locals := 12 }
set_option maxRecDepth 20000 in
set_option maxHeartbeats 2000000 in
theorem cC_X5 {l : Launch} {E : Ev} {h0 : Nat} : CC l E yX5_init cX5_init 1 rmC_X5 [.ref h0] [(h0, .inr (5, [.int 0, .null, .null, .null, .null, .null]))] (fun u => ∃ q1 q2 q3 q4 q5 : Nat, u = [(h0, .inr (5, [.int 0, .ref q1, .ref q2, .ref q3, .ref q4, .ref q5])), (q1, .inl (E.2.1 0, 16, .inl (fun _ => 0))), (q2, .inl (E.2.1 0, 16, .inl (fun _ => 0))), (q3, .inl (E.2.1 0, 16, .inl (fun _ => 0))), (q4, .inl (E.2.1 0, 16, .inl (fun _ => 0))), (q5, .inl (E.2.1 0, 16, .inl (fun _ => 0)))]) := met_c (by decide) rfl rfl (Nat.le_of_ble_eq_true rfl) rfl (fun X C hI hQ => by
  have C1 := cxk C (a := 0) (b := 0) (Nat.le_of_ble_eq_true rfl) (Nat.le_of_ble_eq_true rfl)
  refine g_aload_0 C1 dX5_init_0 rfl ?_
  refine g_objInit C1 (by decide +kernel) (Nat.le_of_ble_eq_true rfl) (Nat.le_of_ble_eq_true rfl) dX5_init_1 ?_
  refine g_aload_0 C1 dX5_init_4 rfl ?_
  refine g_iconst_0 C1 dX5_init_5 ?_
  refine g_put C1 (q0 := 0) (ci := 5) (k := 0) (ty0 := tyX5) (σ' := [(h0, .inr (5, [.int 0, .null, .null, .null, .null, .null]))]) rfl rfl inU_X5 (by decide) tyX5_ok nmX5 (by decide +kernel) rfl rfl rfl (Nat.le_of_ble_eq_true rfl) rfl dX5_init_6 ?_
  refine g_aload_0 C1 dX5_init_9 rfl ?_
  refine g_bipush C1 (v := 16) (by decide) dX5_init_10 ?_
  refine g_newi C (a := 0) (b := 0) 16 (by decide) (by decide) (by decide) (Nat.le_of_ble_eq_true rfl) (Nat.le_of_ble_eq_true rfl) dX5_init_12 (fun q1 => ?_)
  have C2 := cxk C (a := 1) (b := 16) (Nat.le_of_ble_eq_true rfl) (Nat.le_of_ble_eq_true rfl)
  show G (XK X 1 16) wid [(h0, .inr (5, [.int 0, .null, .null, .null, .null, .null])), (q1, .inl (E.2.1 0, 16, .inl (fun _ => 0)))] 14 [some (.ref h0)] [.ref q1, .ref h0]
  refine g_putF C hI (a := 1) (b := 16) (q0 := 0) (ci := 5) (k := 1) (ty0 := tyX5) (σ' := [(h0, .inr (5, [.int 0, .ref q1, .null, .null, .null, .null])), (q1, .inl (E.2.1 0, 16, .inl (fun _ => 0)))]) rfl rfl inU_X5 (by decide) tyX5_ok nmX5 (by decide +kernel) rfl rfl rfl rfl (Nat.le_of_ble_eq_true rfl) rfl dX5_init_14 ?_
  refine g_aload_0 C2 dX5_init_17 rfl ?_
  refine g_bipush C2 (v := 16) (by decide) dX5_init_18 ?_
  refine g_newi C (a := 1) (b := 16) 16 (by decide) (by decide) (by decide) (Nat.le_of_ble_eq_true rfl) (Nat.le_of_ble_eq_true rfl) dX5_init_20 (fun q2 => ?_)
  have C3 := cxk C (a := 2) (b := 32) (Nat.le_of_ble_eq_true rfl) (Nat.le_of_ble_eq_true rfl)
  show G (XK X 2 32) wid [(h0, .inr (5, [.int 0, .ref q1, .null, .null, .null, .null])), (q1, .inl (E.2.1 0, 16, .inl (fun _ => 0))), (q2, .inl (E.2.1 0, 16, .inl (fun _ => 0)))] 22 [some (.ref h0)] [.ref q2, .ref h0]
  refine g_putF C hI (a := 2) (b := 32) (q0 := 0) (ci := 5) (k := 2) (ty0 := tyX5) (σ' := [(h0, .inr (5, [.int 0, .ref q1, .ref q2, .null, .null, .null])), (q1, .inl (E.2.1 0, 16, .inl (fun _ => 0))), (q2, .inl (E.2.1 0, 16, .inl (fun _ => 0)))]) rfl rfl inU_X5 (by decide) tyX5_ok nmX5 (by decide +kernel) rfl rfl rfl rfl (Nat.le_of_ble_eq_true rfl) rfl dX5_init_22 ?_
  refine g_aload_0 C3 dX5_init_25 rfl ?_
  refine g_bipush C3 (v := 16) (by decide) dX5_init_26 ?_
  refine g_newi C (a := 2) (b := 32) 16 (by decide) (by decide) (by decide) (Nat.le_of_ble_eq_true rfl) (Nat.le_of_ble_eq_true rfl) dX5_init_28 (fun q3 => ?_)
  have C4 := cxk C (a := 3) (b := 48) (Nat.le_of_ble_eq_true rfl) (Nat.le_of_ble_eq_true rfl)
  show G (XK X 3 48) wid [(h0, .inr (5, [.int 0, .ref q1, .ref q2, .null, .null, .null])), (q1, .inl (E.2.1 0, 16, .inl (fun _ => 0))), (q2, .inl (E.2.1 0, 16, .inl (fun _ => 0))), (q3, .inl (E.2.1 0, 16, .inl (fun _ => 0)))] 30 [some (.ref h0)] [.ref q3, .ref h0]
  refine g_putF C hI (a := 3) (b := 48) (q0 := 0) (ci := 5) (k := 3) (ty0 := tyX5) (σ' := [(h0, .inr (5, [.int 0, .ref q1, .ref q2, .ref q3, .null, .null])), (q1, .inl (E.2.1 0, 16, .inl (fun _ => 0))), (q2, .inl (E.2.1 0, 16, .inl (fun _ => 0))), (q3, .inl (E.2.1 0, 16, .inl (fun _ => 0)))]) rfl rfl inU_X5 (by decide) tyX5_ok nmX5 (by decide +kernel) rfl rfl rfl rfl (Nat.le_of_ble_eq_true rfl) rfl dX5_init_30 ?_
  refine g_aload_0 C4 dX5_init_33 rfl ?_
  refine g_bipush C4 (v := 16) (by decide) dX5_init_34 ?_
  refine g_newi C (a := 3) (b := 48) 16 (by decide) (by decide) (by decide) (Nat.le_of_ble_eq_true rfl) (Nat.le_of_ble_eq_true rfl) dX5_init_36 (fun q4 => ?_)
  have C5 := cxk C (a := 4) (b := 64) (Nat.le_of_ble_eq_true rfl) (Nat.le_of_ble_eq_true rfl)
  show G (XK X 4 64) wid [(h0, .inr (5, [.int 0, .ref q1, .ref q2, .ref q3, .null, .null])), (q1, .inl (E.2.1 0, 16, .inl (fun _ => 0))), (q2, .inl (E.2.1 0, 16, .inl (fun _ => 0))), (q3, .inl (E.2.1 0, 16, .inl (fun _ => 0))), (q4, .inl (E.2.1 0, 16, .inl (fun _ => 0)))] 38 [some (.ref h0)] [.ref q4, .ref h0]
  refine g_putF C hI (a := 4) (b := 64) (q0 := 0) (ci := 5) (k := 4) (ty0 := tyX5) (σ' := [(h0, .inr (5, [.int 0, .ref q1, .ref q2, .ref q3, .ref q4, .null])), (q1, .inl (E.2.1 0, 16, .inl (fun _ => 0))), (q2, .inl (E.2.1 0, 16, .inl (fun _ => 0))), (q3, .inl (E.2.1 0, 16, .inl (fun _ => 0))), (q4, .inl (E.2.1 0, 16, .inl (fun _ => 0)))]) rfl rfl inU_X5 (by decide) tyX5_ok nmX5 (by decide +kernel) rfl rfl rfl rfl (Nat.le_of_ble_eq_true rfl) rfl dX5_init_38 ?_
  refine g_aload_0 C5 dX5_init_41 rfl ?_
  refine g_bipush C5 (v := 16) (by decide) dX5_init_42 ?_
  refine g_newi C (a := 4) (b := 64) 16 (by decide) (by decide) (by decide) (Nat.le_of_ble_eq_true rfl) (Nat.le_of_ble_eq_true rfl) dX5_init_44 (fun q5 => ?_)
  have C6 := cxk C (a := 5) (b := 80) (Nat.le_of_ble_eq_true rfl) (Nat.le_of_ble_eq_true rfl)
  show G (XK X 5 80) wid [(h0, .inr (5, [.int 0, .ref q1, .ref q2, .ref q3, .ref q4, .null])), (q1, .inl (E.2.1 0, 16, .inl (fun _ => 0))), (q2, .inl (E.2.1 0, 16, .inl (fun _ => 0))), (q3, .inl (E.2.1 0, 16, .inl (fun _ => 0))), (q4, .inl (E.2.1 0, 16, .inl (fun _ => 0))), (q5, .inl (E.2.1 0, 16, .inl (fun _ => 0)))] 46 [some (.ref h0)] [.ref q5, .ref h0]
  refine g_putF C hI (a := 5) (b := 80) (q0 := 0) (ci := 5) (k := 5) (ty0 := tyX5) (σ' := [(h0, .inr (5, [.int 0, .ref q1, .ref q2, .ref q3, .ref q4, .ref q5])), (q1, .inl (E.2.1 0, 16, .inl (fun _ => 0))), (q2, .inl (E.2.1 0, 16, .inl (fun _ => 0))), (q3, .inl (E.2.1 0, 16, .inl (fun _ => 0))), (q4, .inl (E.2.1 0, 16, .inl (fun _ => 0))), (q5, .inl (E.2.1 0, 16, .inl (fun _ => 0)))]) rfl rfl inU_X5 (by decide) tyX5_ok nmX5 (by decide +kernel) rfl rfl rfl rfl (Nat.le_of_ble_eq_true rfl) rfl dX5_init_46 ?_
  exact g_returnC C hQ dX5_init_49 (Nat.le_of_ble_eq_true rfl) (Nat.le_of_ble_eq_true rfl) ⟨q1, q2, q3, q4, q5, rfl⟩)
abbrev rmC_X7 : Room := { frames := 1, cells := 1, slots := 300, locals := 12 }
set_option maxRecDepth 20000 in
set_option maxHeartbeats 2000000 in
theorem cC_X7 {l : Launch} {E : Ev} {h0 : Nat} : CC l E yX7_init cX7_init 1 rmC_X7 [.ref h0] [(h0, .inr (7, [.int 0, .null]))] (fun u => ∃ q1 : Nat, u = [(h0, .inr (7, [.int 0, .ref q1])), (q1, .inl (E.2.1 1, 300, .inl (fun _ => 0)))]) := met_c (by decide) rfl rfl (Nat.le_of_ble_eq_true rfl) rfl (fun X C hI hQ => by
  have C1 := cxk C (a := 0) (b := 0) (Nat.le_of_ble_eq_true rfl) (Nat.le_of_ble_eq_true rfl)
  refine g_aload_0 C1 dX7_init_0 rfl ?_
  refine g_objInit C1 (by decide +kernel) (Nat.le_of_ble_eq_true rfl) (Nat.le_of_ble_eq_true rfl) dX7_init_1 ?_
  refine g_aload_0 C1 dX7_init_4 rfl ?_
  refine g_iconst_0 C1 dX7_init_5 ?_
  refine g_put C1 (q0 := 0) (ci := 7) (k := 0) (ty0 := tyX7) (σ' := [(h0, .inr (7, [.int 0, .null]))]) rfl rfl inU_X7 (by decide) tyX7_ok nmX7 (by decide +kernel) rfl rfl rfl (Nat.le_of_ble_eq_true rfl) rfl dX7_init_6 ?_
  refine g_aload_0 C1 dX7_init_9 rfl ?_
  refine g_sipush C1 (v := 300) (by decide) dX7_init_10 ?_
  refine g_newb C (a := 0) (b := 0) 300 (by decide) (by decide) (by decide) (Nat.le_of_ble_eq_true rfl) (Nat.le_of_ble_eq_true rfl) dX7_init_13 (fun q1 => ?_)
  have C2 := cxk C (a := 1) (b := 300) (Nat.le_of_ble_eq_true rfl) (Nat.le_of_ble_eq_true rfl)
  show G (XK X 1 300) wid [(h0, .inr (7, [.int 0, .null])), (q1, .inl (E.2.1 1, 300, .inl (fun _ => 0)))] 15 [some (.ref h0)] [.ref q1, .ref h0]
  refine g_putF C hI (a := 1) (b := 300) (q0 := 0) (ci := 7) (k := 1) (ty0 := tyX7) (σ' := [(h0, .inr (7, [.int 0, .ref q1])), (q1, .inl (E.2.1 1, 300, .inl (fun _ => 0)))]) rfl rfl inU_X7 (by decide) tyX7_ok nmX7 (by decide +kernel) rfl rfl rfl rfl (Nat.le_of_ble_eq_true rfl) rfl dX7_init_15 ?_
  exact g_returnC C hQ dX7_init_18 (Nat.le_of_ble_eq_true rfl) (Nat.le_of_ble_eq_true rfl) ⟨q1, rfl⟩)
abbrev rmC_X1 : Room := { frames := 1, cells := 1, slots := 6, locals := 12 }
set_option maxRecDepth 20000 in
set_option maxHeartbeats 2000000 in
theorem cC_X1 {l : Launch} {E : Ev} {h0 : Nat} : CC l E yX1_init cX1_init 1 rmC_X1 [.ref h0] [(h0, .inr (1, [.null, .int 0, .int 0, .int 0, .int 0]))] (fun u => ∃ q1 : Nat, u = [(h0, .inr (1, [.ref q1, .int 0, .int 0, .int 0, .int 0])), (q1, .inl (E.2.1 0, 6, .inl (fun _ => 0)))]) := met_c (by decide) rfl rfl (Nat.le_of_ble_eq_true rfl) rfl (fun X C hI hQ => by
  have C1 := cxk C (a := 0) (b := 0) (Nat.le_of_ble_eq_true rfl) (Nat.le_of_ble_eq_true rfl)
  refine g_aload_0 C1 dX1_init_0 rfl ?_
  refine g_objInit C1 (by decide +kernel) (Nat.le_of_ble_eq_true rfl) (Nat.le_of_ble_eq_true rfl) dX1_init_1 ?_
  refine g_aload_0 C1 dX1_init_4 rfl ?_
  refine g_bipush C1 (v := 6) (by decide) dX1_init_5 ?_
  refine g_newi C (a := 0) (b := 0) 6 (by decide) (by decide) (by decide) (Nat.le_of_ble_eq_true rfl) (Nat.le_of_ble_eq_true rfl) dX1_init_7 (fun q1 => ?_)
  have C2 := cxk C (a := 1) (b := 6) (Nat.le_of_ble_eq_true rfl) (Nat.le_of_ble_eq_true rfl)
  show G (XK X 1 6) wid [(h0, .inr (1, [.null, .int 0, .int 0, .int 0, .int 0])), (q1, .inl (E.2.1 0, 6, .inl (fun _ => 0)))] 9 [some (.ref h0)] [.ref q1, .ref h0]
  refine g_putF C hI (a := 1) (b := 6) (q0 := 0) (ci := 1) (k := 0) (ty0 := tyX1) (σ' := [(h0, .inr (1, [.ref q1, .int 0, .int 0, .int 0, .int 0])), (q1, .inl (E.2.1 0, 6, .inl (fun _ => 0)))]) rfl rfl inU_X1 (by decide) tyX1_ok nmX1 (by decide +kernel) rfl rfl rfl rfl (Nat.le_of_ble_eq_true rfl) rfl dX1_init_9 ?_
  refine g_aload_0 C2 dX1_init_12 rfl ?_
  refine g_iconst_0 C2 dX1_init_13 ?_
  refine g_put C2 (q0 := 0) (ci := 1) (k := 1) (ty0 := tyX1) (σ' := [(h0, .inr (1, [.ref q1, .int 0, .int 0, .int 0, .int 0])), (q1, .inl (E.2.1 0, 6, .inl (fun _ => 0)))]) rfl rfl inU_X1 (by decide) tyX1_ok nmX1 (by decide +kernel) rfl rfl rfl (Nat.le_of_ble_eq_true rfl) rfl dX1_init_14 ?_
  refine g_aload_0 C2 dX1_init_17 rfl ?_
  refine g_iconst_0 C2 dX1_init_18 ?_
  refine g_put C2 (q0 := 0) (ci := 1) (k := 2) (ty0 := tyX1) (σ' := [(h0, .inr (1, [.ref q1, .int 0, .int 0, .int 0, .int 0])), (q1, .inl (E.2.1 0, 6, .inl (fun _ => 0)))]) rfl rfl inU_X1 (by decide) tyX1_ok nmX1 (by decide +kernel) rfl rfl rfl (Nat.le_of_ble_eq_true rfl) rfl dX1_init_19 ?_
  refine g_aload_0 C2 dX1_init_22 rfl ?_
  refine g_iconst_0 C2 dX1_init_23 ?_
  refine g_put C2 (q0 := 0) (ci := 1) (k := 3) (ty0 := tyX1) (σ' := [(h0, .inr (1, [.ref q1, .int 0, .int 0, .int 0, .int 0])), (q1, .inl (E.2.1 0, 6, .inl (fun _ => 0)))]) rfl rfl inU_X1 (by decide) tyX1_ok nmX1 (by decide +kernel) rfl rfl rfl (Nat.le_of_ble_eq_true rfl) rfl dX1_init_24 ?_
  refine g_aload_0 C2 dX1_init_27 rfl ?_
  refine g_iconst_0 C2 dX1_init_28 ?_
  refine g_put C2 (q0 := 0) (ci := 1) (k := 4) (ty0 := tyX1) (σ' := [(h0, .inr (1, [.ref q1, .int 0, .int 0, .int 0, .int 0])), (q1, .inl (E.2.1 0, 6, .inl (fun _ => 0)))]) rfl rfl inU_X1 (by decide) tyX1_ok nmX1 (by decide +kernel) rfl rfl rfl (Nat.le_of_ble_eq_true rfl) rfl dX1_init_29 ?_
  exact g_returnC C hQ dX1_init_32 (Nat.le_of_ble_eq_true rfl) (Nat.le_of_ble_eq_true rfl) ⟨q1, rfl⟩)
abbrev rmC_X4 : Room := { frames := 1, cells := 5, slots := 960, locals := 12 }
set_option maxRecDepth 20000 in
set_option maxHeartbeats 2000000 in
theorem cC_X4 {l : Launch} {E : Ev} {h0 : Nat} : CC l E yX4_init cX4_init 1 rmC_X4 [.ref h0] [(h0, .inr (4, [.null, .null, .null, .null, .null]))] (fun u => ∃ q1 q2 q3 q4 q5 : Nat, u = [(h0, .inr (4, [.ref q1, .ref q2, .ref q3, .ref q4, .ref q5])), (q1, .inl (E.2.1 2, 64, .inl (fun _ => 0))), (q2, .inl (E.2.1 0, 64, .inl (fun _ => 0))), (q3, .inl (E.2.1 0, 64, .inl (fun _ => 0))), (q4, .inl (E.2.1 0, 384, .inl (fun _ => 0))), (q5, .inl (E.2.1 0, 384, .inl (fun _ => 0)))]) := met_c (by decide) rfl rfl (Nat.le_of_ble_eq_true rfl) rfl (fun X C hI hQ => by
  have C1 := cxk C (a := 0) (b := 0) (Nat.le_of_ble_eq_true rfl) (Nat.le_of_ble_eq_true rfl)
  refine g_aload_0 C1 dX4_init_0 rfl ?_
  refine g_objInit C1 (by decide +kernel) (Nat.le_of_ble_eq_true rfl) (Nat.le_of_ble_eq_true rfl) dX4_init_1 ?_
  refine g_aload_0 C1 dX4_init_4 rfl ?_
  refine g_bipush C1 (v := 64) (by decide) dX4_init_5 ?_
  refine g_newz C (a := 0) (b := 0) 64 (by decide) (by decide) (by decide) (Nat.le_of_ble_eq_true rfl) (Nat.le_of_ble_eq_true rfl) dX4_init_7 (fun q1 => ?_)
  have C2 := cxk C (a := 1) (b := 64) (Nat.le_of_ble_eq_true rfl) (Nat.le_of_ble_eq_true rfl)
  show G (XK X 1 64) wid [(h0, .inr (4, [.null, .null, .null, .null, .null])), (q1, .inl (E.2.1 2, 64, .inl (fun _ => 0)))] 9 [some (.ref h0)] [.ref q1, .ref h0]
  refine g_putF C hI (a := 1) (b := 64) (q0 := 0) (ci := 4) (k := 0) (ty0 := tyX4) (σ' := [(h0, .inr (4, [.ref q1, .null, .null, .null, .null])), (q1, .inl (E.2.1 2, 64, .inl (fun _ => 0)))]) rfl rfl inU_X4 (by decide) tyX4_ok nmX4 (by decide +kernel) rfl rfl rfl rfl (Nat.le_of_ble_eq_true rfl) rfl dX4_init_9 ?_
  refine g_aload_0 C2 dX4_init_12 rfl ?_
  refine g_bipush C2 (v := 64) (by decide) dX4_init_13 ?_
  refine g_newi C (a := 1) (b := 64) 64 (by decide) (by decide) (by decide) (Nat.le_of_ble_eq_true rfl) (Nat.le_of_ble_eq_true rfl) dX4_init_15 (fun q2 => ?_)
  have C3 := cxk C (a := 2) (b := 128) (Nat.le_of_ble_eq_true rfl) (Nat.le_of_ble_eq_true rfl)
  show G (XK X 2 128) wid [(h0, .inr (4, [.ref q1, .null, .null, .null, .null])), (q1, .inl (E.2.1 2, 64, .inl (fun _ => 0))), (q2, .inl (E.2.1 0, 64, .inl (fun _ => 0)))] 17 [some (.ref h0)] [.ref q2, .ref h0]
  refine g_putF C hI (a := 2) (b := 128) (q0 := 0) (ci := 4) (k := 1) (ty0 := tyX4) (σ' := [(h0, .inr (4, [.ref q1, .ref q2, .null, .null, .null])), (q1, .inl (E.2.1 2, 64, .inl (fun _ => 0))), (q2, .inl (E.2.1 0, 64, .inl (fun _ => 0)))]) rfl rfl inU_X4 (by decide) tyX4_ok nmX4 (by decide +kernel) rfl rfl rfl rfl (Nat.le_of_ble_eq_true rfl) rfl dX4_init_17 ?_
  refine g_aload_0 C3 dX4_init_20 rfl ?_
  refine g_bipush C3 (v := 64) (by decide) dX4_init_21 ?_
  refine g_newi C (a := 2) (b := 128) 64 (by decide) (by decide) (by decide) (Nat.le_of_ble_eq_true rfl) (Nat.le_of_ble_eq_true rfl) dX4_init_23 (fun q3 => ?_)
  have C4 := cxk C (a := 3) (b := 192) (Nat.le_of_ble_eq_true rfl) (Nat.le_of_ble_eq_true rfl)
  show G (XK X 3 192) wid [(h0, .inr (4, [.ref q1, .ref q2, .null, .null, .null])), (q1, .inl (E.2.1 2, 64, .inl (fun _ => 0))), (q2, .inl (E.2.1 0, 64, .inl (fun _ => 0))), (q3, .inl (E.2.1 0, 64, .inl (fun _ => 0)))] 25 [some (.ref h0)] [.ref q3, .ref h0]
  refine g_putF C hI (a := 3) (b := 192) (q0 := 0) (ci := 4) (k := 2) (ty0 := tyX4) (σ' := [(h0, .inr (4, [.ref q1, .ref q2, .ref q3, .null, .null])), (q1, .inl (E.2.1 2, 64, .inl (fun _ => 0))), (q2, .inl (E.2.1 0, 64, .inl (fun _ => 0))), (q3, .inl (E.2.1 0, 64, .inl (fun _ => 0)))]) rfl rfl inU_X4 (by decide) tyX4_ok nmX4 (by decide +kernel) rfl rfl rfl rfl (Nat.le_of_ble_eq_true rfl) rfl dX4_init_25 ?_
  refine g_aload_0 C4 dX4_init_28 rfl ?_
  refine g_sipush C4 (v := 384) (by decide) dX4_init_29 ?_
  refine g_newi C (a := 3) (b := 192) 384 (by decide) (by decide) (by decide) (Nat.le_of_ble_eq_true rfl) (Nat.le_of_ble_eq_true rfl) dX4_init_32 (fun q4 => ?_)
  have C5 := cxk C (a := 4) (b := 576) (Nat.le_of_ble_eq_true rfl) (Nat.le_of_ble_eq_true rfl)
  show G (XK X 4 576) wid [(h0, .inr (4, [.ref q1, .ref q2, .ref q3, .null, .null])), (q1, .inl (E.2.1 2, 64, .inl (fun _ => 0))), (q2, .inl (E.2.1 0, 64, .inl (fun _ => 0))), (q3, .inl (E.2.1 0, 64, .inl (fun _ => 0))), (q4, .inl (E.2.1 0, 384, .inl (fun _ => 0)))] 34 [some (.ref h0)] [.ref q4, .ref h0]
  refine g_putF C hI (a := 4) (b := 576) (q0 := 0) (ci := 4) (k := 3) (ty0 := tyX4) (σ' := [(h0, .inr (4, [.ref q1, .ref q2, .ref q3, .ref q4, .null])), (q1, .inl (E.2.1 2, 64, .inl (fun _ => 0))), (q2, .inl (E.2.1 0, 64, .inl (fun _ => 0))), (q3, .inl (E.2.1 0, 64, .inl (fun _ => 0))), (q4, .inl (E.2.1 0, 384, .inl (fun _ => 0)))]) rfl rfl inU_X4 (by decide) tyX4_ok nmX4 (by decide +kernel) rfl rfl rfl rfl (Nat.le_of_ble_eq_true rfl) rfl dX4_init_34 ?_
  refine g_aload_0 C5 dX4_init_37 rfl ?_
  refine g_sipush C5 (v := 384) (by decide) dX4_init_38 ?_
  refine g_newi C (a := 4) (b := 576) 384 (by decide) (by decide) (by decide) (Nat.le_of_ble_eq_true rfl) (Nat.le_of_ble_eq_true rfl) dX4_init_41 (fun q5 => ?_)
  have C6 := cxk C (a := 5) (b := 960) (Nat.le_of_ble_eq_true rfl) (Nat.le_of_ble_eq_true rfl)
  show G (XK X 5 960) wid [(h0, .inr (4, [.ref q1, .ref q2, .ref q3, .ref q4, .null])), (q1, .inl (E.2.1 2, 64, .inl (fun _ => 0))), (q2, .inl (E.2.1 0, 64, .inl (fun _ => 0))), (q3, .inl (E.2.1 0, 64, .inl (fun _ => 0))), (q4, .inl (E.2.1 0, 384, .inl (fun _ => 0))), (q5, .inl (E.2.1 0, 384, .inl (fun _ => 0)))] 43 [some (.ref h0)] [.ref q5, .ref h0]
  refine g_putF C hI (a := 5) (b := 960) (q0 := 0) (ci := 4) (k := 4) (ty0 := tyX4) (σ' := [(h0, .inr (4, [.ref q1, .ref q2, .ref q3, .ref q4, .ref q5])), (q1, .inl (E.2.1 2, 64, .inl (fun _ => 0))), (q2, .inl (E.2.1 0, 64, .inl (fun _ => 0))), (q3, .inl (E.2.1 0, 64, .inl (fun _ => 0))), (q4, .inl (E.2.1 0, 384, .inl (fun _ => 0))), (q5, .inl (E.2.1 0, 384, .inl (fun _ => 0)))]) rfl rfl inU_X4 (by decide) tyX4_ok nmX4 (by decide +kernel) rfl rfl rfl rfl (Nat.le_of_ble_eq_true rfl) rfl dX4_init_43 ?_
  exact g_returnC C hQ dX4_init_46 (Nat.le_of_ble_eq_true rfl) (Nat.le_of_ble_eq_true rfl) ⟨q1, q2, q3, q4, q5, rfl⟩)
abbrev rmC_X6 : Room := { frames := 1, cells := 3, slots := 48, locals := 12 }
set_option maxRecDepth 20000 in
set_option maxHeartbeats 2000000 in
theorem cC_X6 {l : Launch} {E : Ev} {h0 : Nat} : CC l E yX6_init cX6_init 1 rmC_X6 [.ref h0] [(h0, .inr (6, [.null, .null, .null]))] (fun u => ∃ q1 q2 q3 : Nat, u = [(h0, .inr (6, [.ref q1, .ref q2, .ref q3])), (q1, .inl (E.2.1 2, 16, .inl (fun _ => 0))), (q2, .inl (E.2.1 0, 16, .inl (fun _ => 0))), (q3, .inl (E.2.1 0, 16, .inl (fun _ => 0)))]) := met_c (by decide) rfl rfl (Nat.le_of_ble_eq_true rfl) rfl (fun X C hI hQ => by
  have C1 := cxk C (a := 0) (b := 0) (Nat.le_of_ble_eq_true rfl) (Nat.le_of_ble_eq_true rfl)
  refine g_aload_0 C1 dX6_init_0 rfl ?_
  refine g_objInit C1 (by decide +kernel) (Nat.le_of_ble_eq_true rfl) (Nat.le_of_ble_eq_true rfl) dX6_init_1 ?_
  refine g_aload_0 C1 dX6_init_4 rfl ?_
  refine g_bipush C1 (v := 16) (by decide) dX6_init_5 ?_
  refine g_newz C (a := 0) (b := 0) 16 (by decide) (by decide) (by decide) (Nat.le_of_ble_eq_true rfl) (Nat.le_of_ble_eq_true rfl) dX6_init_7 (fun q1 => ?_)
  have C2 := cxk C (a := 1) (b := 16) (Nat.le_of_ble_eq_true rfl) (Nat.le_of_ble_eq_true rfl)
  show G (XK X 1 16) wid [(h0, .inr (6, [.null, .null, .null])), (q1, .inl (E.2.1 2, 16, .inl (fun _ => 0)))] 9 [some (.ref h0)] [.ref q1, .ref h0]
  refine g_putF C hI (a := 1) (b := 16) (q0 := 0) (ci := 6) (k := 0) (ty0 := tyX6) (σ' := [(h0, .inr (6, [.ref q1, .null, .null])), (q1, .inl (E.2.1 2, 16, .inl (fun _ => 0)))]) rfl rfl inU_X6 (by decide) tyX6_ok nmX6 (by decide +kernel) rfl rfl rfl rfl (Nat.le_of_ble_eq_true rfl) rfl dX6_init_9 ?_
  refine g_aload_0 C2 dX6_init_12 rfl ?_
  refine g_bipush C2 (v := 16) (by decide) dX6_init_13 ?_
  refine g_newi C (a := 1) (b := 16) 16 (by decide) (by decide) (by decide) (Nat.le_of_ble_eq_true rfl) (Nat.le_of_ble_eq_true rfl) dX6_init_15 (fun q2 => ?_)
  have C3 := cxk C (a := 2) (b := 32) (Nat.le_of_ble_eq_true rfl) (Nat.le_of_ble_eq_true rfl)
  show G (XK X 2 32) wid [(h0, .inr (6, [.ref q1, .null, .null])), (q1, .inl (E.2.1 2, 16, .inl (fun _ => 0))), (q2, .inl (E.2.1 0, 16, .inl (fun _ => 0)))] 17 [some (.ref h0)] [.ref q2, .ref h0]
  refine g_putF C hI (a := 2) (b := 32) (q0 := 0) (ci := 6) (k := 1) (ty0 := tyX6) (σ' := [(h0, .inr (6, [.ref q1, .ref q2, .null])), (q1, .inl (E.2.1 2, 16, .inl (fun _ => 0))), (q2, .inl (E.2.1 0, 16, .inl (fun _ => 0)))]) rfl rfl inU_X6 (by decide) tyX6_ok nmX6 (by decide +kernel) rfl rfl rfl rfl (Nat.le_of_ble_eq_true rfl) rfl dX6_init_17 ?_
  refine g_aload_0 C3 dX6_init_20 rfl ?_
  refine g_bipush C3 (v := 16) (by decide) dX6_init_21 ?_
  refine g_newi C (a := 2) (b := 32) 16 (by decide) (by decide) (by decide) (Nat.le_of_ble_eq_true rfl) (Nat.le_of_ble_eq_true rfl) dX6_init_23 (fun q3 => ?_)
  have C4 := cxk C (a := 3) (b := 48) (Nat.le_of_ble_eq_true rfl) (Nat.le_of_ble_eq_true rfl)
  show G (XK X 3 48) wid [(h0, .inr (6, [.ref q1, .ref q2, .null])), (q1, .inl (E.2.1 2, 16, .inl (fun _ => 0))), (q2, .inl (E.2.1 0, 16, .inl (fun _ => 0))), (q3, .inl (E.2.1 0, 16, .inl (fun _ => 0)))] 25 [some (.ref h0)] [.ref q3, .ref h0]
  refine g_putF C hI (a := 3) (b := 48) (q0 := 0) (ci := 6) (k := 2) (ty0 := tyX6) (σ' := [(h0, .inr (6, [.ref q1, .ref q2, .ref q3])), (q1, .inl (E.2.1 2, 16, .inl (fun _ => 0))), (q2, .inl (E.2.1 0, 16, .inl (fun _ => 0))), (q3, .inl (E.2.1 0, 16, .inl (fun _ => 0)))]) rfl rfl inU_X6 (by decide) tyX6_ok nmX6 (by decide +kernel) rfl rfl rfl rfl (Nat.le_of_ble_eq_true rfl) rfl dX6_init_25 ?_
  exact g_returnC C hQ dX6_init_28 (Nat.le_of_ble_eq_true rfl) (Nat.le_of_ble_eq_true rfl) ⟨q1, q2, q3, rfl⟩)

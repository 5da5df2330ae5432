/-! ===== the law's cases glide, ice ===== -/
theorem sxk {X : Kx} {b L : Nat} {xs : Nat → Int32} (h : SX X b L xs) (n s : Nat) : SX (XK X n s) b L xs := h
theorem cmp_eq (x : Int64) : lg_cmp x x = 0 := by
  unfold lg_cmp
  rw [if_neg (by rw [gt_iff_lt, Int64.lt_iff_toInt_lt]; omega), if_pos rfl]
set_option maxHeartbeats 1000000 in
theorem lc_glide {X : Kx} {l : Launch} {E : Ev} {a a' : Nat → Nat} {σ τ : St} {o b L n s : Nat} {f : Nat → Int64} {xs : Nat → Int32} {i : Int32} {p q : Option Value} (hl0 : l.stackTraces = false) (C : Cx X l E RL cL_law room_1 (some .boolean)) (hX : SX X b L xs) (hf : n + 1 ≤ 601024 ∧ s + 6 ≤ 7293034) (hi : (vp_in (i + 1) L ∧ vp_in (i + 2) L ∧ vp_in (i + 3) L ∧ vp_in (i + 4) L ∧ vp_in (i + 5) L)) (h : Rel σ τ) (k : ∀ (σ' τ' : St) (f' : Nat → Int64) (p' q' : Option Value), Rel σ' τ' → G (XK X (n + 1) (s + 6)) wid (wI E a σ' ++ (wM E a' τ' ++ oL E o f')) 1377 (lvL b a a' o i p' q') []) : G (XK X n s) wid (wI E a σ ++ (wM E a' τ ++ oL E o f)) 424 (lvL b a a' o i p q) [] := by
  have C0 := cxk C (a := n) (b := s) (Nat.le_trans (Nat.le_add_right n 1) hf.1) (Nat.le_trans (Nat.le_add_right s 6) hf.2)
  have C1 := cxk C (a := n + 1) (b := s + 6) hf.1 hf.2
  have hX0 := sxk hX n s
  have hX1 := sxk hX (n + 1) (s + 6)
  refine g_aload_1 C0 dL_law_424 rfl ?_
  refine g_aload_0 C0 dL_law_425 rfl ?_
  refine g_iload C0 dL_law_426 rfl ?_
  refine g_iconst_1 C0 dL_law_428 ?_
  refine g_iadd C0 dL_law_429 ?_
  refine g_sld C0 hX0 hi.1 dL_law_430 ?_
  refine g_aload_0 C0 dL_law_431 rfl ?_
  refine g_iload C0 dL_law_432 rfl ?_
  refine g_iconst_2 C0 dL_law_434 ?_
  refine g_iadd C0 dL_law_435 ?_
  refine g_sld C0 hX0 hi.2.1 dL_law_436 ?_
  refine g_aload_3 C0 dL_law_437 rfl ?_
  refine g_csa (g_rot (g_csa ?_))
  refine g_callH (x := oL E o f ++ wI E a σ) (r := wM E a' τ) C 4 (As := [.ref (a 0), .int (xs (Int32.toNatClampNeg (i + 1))), .int (xs (Int32.toNatClampNeg (i + 2))), .ref o]) (rest := []) (by decide +kernel) (by decide +kernel) (by decide +kernel) (by decide +kernel) (by decide +kernel) (cL_glideH hl0 (T_glide h)) ⟨rfl, rfl⟩ ⟨(Nat.le_of_ble_eq_true rfl), (Nat.le_of_ble_eq_true rfl)⟩ hf rfl rfl (Nat.le_of_ble_eq_true rfl) dL_law_438 (fun v u hu => ?_)
  rcases hu with ⟨rfl, r, σ', hp, rfl⟩ | ⟨rfl, σ', hp, rfl⟩
  · have hp : wpM_glide (xs (Int32.toNatClampNeg (i + 1))) (xs (Int32.toNatClampNeg (i + 2))) τ (fun r' τ' => τ'.1 0 = 0 ∧ r = r' ∧ Rel σ' τ') := hp
    refine g_rot ?_
    refine g_istore C1 dL_law_441 (Nat.le_of_ble_eq_true rfl) ?_
    refine g_aload_2 C1 dL_law_443 rfl ?_
    refine g_aload_0 C1 dL_law_444 rfl ?_
    refine g_iload C1 dL_law_445 rfl ?_
    refine g_iconst_1 C1 dL_law_447 ?_
    refine g_iadd C1 dL_law_448 ?_
    refine g_sld C1 hX1 hi.1 dL_law_449 ?_
    refine g_aload_0 C1 dL_law_450 rfl ?_
    refine g_iload C1 dL_law_451 rfl ?_
    refine g_iconst_2 C1 dL_law_453 ?_
    refine g_iadd C1 dL_law_454 ?_
    refine g_sld C1 hX1 hi.2.1 dL_law_455 ?_
    refine g_callF (w := wM E a') (σ := τ) (r := (oL E o (vp_updL f 0 r.toInt64) ++ wI E a σ')) C1 2 (As := [.int (xs (Int32.toNatClampNeg (i + 1))), .int (xs (Int32.toNatClampNeg (i + 2)))]) (rest := []) (Cn := RX11) (T := TX11) (N := 42) (q0 := 0) (ci := 10) (by decide +kernel) (by decide +kernel) (by decide +kernel) (by decide +kernel) (by decide +kernel) (by decide +kernel) rfl rfl (cM_glide hp) ⟨rfl, rfl⟩ ⟨(Nat.le_of_ble_eq_true rfl), (Nat.le_of_ble_eq_true rfl)⟩ rfl rfl (Nat.le_of_ble_eq_true rfl) dL_law_456 (fun v' τ' hu' => ?_)
    refine g_istore C1 dL_law_459 (Nat.le_of_ble_eq_true rfl) ?_
    refine g_aload_2 C1 dL_law_461 rfl ?_
    refine g_callF (w := wM E a') (σ := τ') (r := (oL E o (vp_updL f 0 r.toInt64) ++ wI E a σ')) C1 0 (As := []) (rest := []) (Cn := RX11) (T := TX11) (N := 42) (q0 := 0) (ci := 10) (by decide +kernel) (by decide +kernel) (by decide +kernel) (by decide +kernel) (by decide +kernel) (by decide +kernel) rfl rfl (cM_thrown (post := fun v t => v = τ'.1 0 ∧ t = τ') ⟨rfl, rfl⟩) ⟨rfl, rfl⟩ ⟨(Nat.le_of_ble_eq_true rfl), (Nat.le_of_ble_eq_true rfl)⟩ rfl rfl (Nat.le_of_ble_eq_true rfl) dL_law_462 (fun v9 t9 h9 => ?_)
    obtain ⟨rfl, rfl⟩ := h9
    refine g_iload C1 (x := 0) dL_law_465 rfl ?_
    refine g_icmp_eq C1 472 dL_law_467 (by decide) (fun _ => ?_) (fun q9 => absurd hu'.1 q9)
    refine g_iload C1 (x := 0) dL_law_472 rfl ?_
    refine g_if_ne C1 489 dL_law_474 (by decide) (fun q9 => absurd rfl q9) (fun _ => ?_)
    refine g_rot ?_
    refine g_aload_3 C1 dL_law_477 rfl ?_
    refine g_iconst_0 C1 dL_law_478 ?_
    refine g_lald (q0 := 0) (n := 1) (f := vp_updL f 0 r.toInt64) (i := 0) C1 rfl (by unfold vp_in; decide) dL_law_479 ?_
    refine g_iload C1 (x := v') dL_law_480 rfl ?_
    refine g_i2l C1 dL_law_482 ?_
    refine g_lcmp C1 dL_law_483 ?_
    have e9 : lg_cmp (vp_updL f 0 r.toInt64 (Int32.toNatClampNeg 0)) v'.toInt64 = 0 := by
      rw [hu'.2.1]
      exact cmp_eq _
    refine g_if_eq C1 489 dL_law_484 (by decide) (fun _ => ?_) (fun q9 => absurd e9 q9)
    refine g_goto C1 1377 dL_law_489 (by decide) ?_
    refine g_asc (g_rot (g_asc ?_))
    exact k σ' _ _ _ _ hu'.2.2
  · have hp : wpM_glide (xs (Int32.toNatClampNeg (i + 1))) (xs (Int32.toNatClampNeg (i + 2))) τ (fun _ τ' => τ'.1 0 = 1 ∧ Rel σ' τ') := hp
    refine g_rot ?_
    refine g_istore C1 dL_law_441 (Nat.le_of_ble_eq_true rfl) ?_
    refine g_aload_2 C1 dL_law_443 rfl ?_
    refine g_aload_0 C1 dL_law_444 rfl ?_
    refine g_iload C1 dL_law_445 rfl ?_
    refine g_iconst_1 C1 dL_law_447 ?_
    refine g_iadd C1 dL_law_448 ?_
    refine g_sld C1 hX1 hi.1 dL_law_449 ?_
    refine g_aload_0 C1 dL_law_450 rfl ?_
    refine g_iload C1 dL_law_451 rfl ?_
    refine g_iconst_2 C1 dL_law_453 ?_
    refine g_iadd C1 dL_law_454 ?_
    refine g_sld C1 hX1 hi.2.1 dL_law_455 ?_
    refine g_callF (w := wM E a') (σ := τ) (r := (oL E o f ++ wI E a σ')) C1 2 (As := [.int (xs (Int32.toNatClampNeg (i + 1))), .int (xs (Int32.toNatClampNeg (i + 2)))]) (rest := []) (Cn := RX11) (T := TX11) (N := 42) (q0 := 0) (ci := 10) (by decide +kernel) (by decide +kernel) (by decide +kernel) (by decide +kernel) (by decide +kernel) (by decide +kernel) rfl rfl (cM_glide hp) ⟨rfl, rfl⟩ ⟨(Nat.le_of_ble_eq_true rfl), (Nat.le_of_ble_eq_true rfl)⟩ rfl rfl (Nat.le_of_ble_eq_true rfl) dL_law_456 (fun v' τ' hu' => ?_)
    refine g_istore C1 dL_law_459 (Nat.le_of_ble_eq_true rfl) ?_
    refine g_aload_2 C1 dL_law_461 rfl ?_
    refine g_callF (w := wM E a') (σ := τ') (r := (oL E o f ++ wI E a σ')) C1 0 (As := []) (rest := []) (Cn := RX11) (T := TX11) (N := 42) (q0 := 0) (ci := 10) (by decide +kernel) (by decide +kernel) (by decide +kernel) (by decide +kernel) (by decide +kernel) (by decide +kernel) rfl rfl (cM_thrown (post := fun v t => v = τ'.1 0 ∧ t = τ') ⟨rfl, rfl⟩) ⟨rfl, rfl⟩ ⟨(Nat.le_of_ble_eq_true rfl), (Nat.le_of_ble_eq_true rfl)⟩ rfl rfl (Nat.le_of_ble_eq_true rfl) dL_law_462 (fun v9 t9 h9 => ?_)
    obtain ⟨rfl, rfl⟩ := h9
    refine g_iload C1 (x := 1) dL_law_465 rfl ?_
    refine g_icmp_eq C1 472 dL_law_467 (by decide) (fun _ => ?_) (fun q9 => absurd hu'.1 q9)
    refine g_iload C1 (x := 1) dL_law_472 rfl ?_
    refine g_if_ne C1 489 dL_law_474 (by decide) (fun _ => ?_) (fun q9 => absurd q9 (by decide))
    refine g_rot ?_
    refine g_goto C1 1377 dL_law_489 (by decide) ?_
    refine g_asc (g_rot (g_asc ?_))
    exact k σ' _ _ _ _ hu'.2
set_option maxHeartbeats 1000000 in
theorem lc_ice {X : Kx} {l : Launch} {E : Ev} {a a' : Nat → Nat} {σ τ : St} {o b L n s : Nat} {f : Nat → Int64} {xs : Nat → Int32} {i : Int32} {p q : Option Value} (hl0 : l.stackTraces = false) (C : Cx X l E RL cL_law room_1 (some .boolean)) (hX : SX X b L xs) (hf : n + 1 ≤ 601024 ∧ s + 6 ≤ 7293034) (hi : (vp_in (i + 1) L ∧ vp_in (i + 2) L ∧ vp_in (i + 3) L ∧ vp_in (i + 4) L ∧ vp_in (i + 5) L)) (h : Rel σ τ) (k : ∀ (σ' τ' : St) (f' : Nat → Int64) (p' q' : Option Value), Rel σ' τ' → G (XK X (n + 1) (s + 6)) wid (wI E a σ' ++ (wM E a' τ' ++ oL E o f')) 1377 (lvL b a a' o i p' q') []) : G (XK X n s) wid (wI E a σ ++ (wM E a' τ ++ oL E o f)) 1185 (lvL b a a' o i p q) [] := by
  have C0 := cxk C (a := n) (b := s) (Nat.le_trans (Nat.le_add_right n 1) hf.1) (Nat.le_trans (Nat.le_add_right s 6) hf.2)
  have C1 := cxk C (a := n + 1) (b := s + 6) hf.1 hf.2
  have hX0 := sxk hX n s
  have hX1 := sxk hX (n + 1) (s + 6)
  refine g_aload_1 C0 dL_law_1185 rfl ?_
  refine g_aload_0 C0 dL_law_1186 rfl ?_
  refine g_iload C0 dL_law_1187 rfl ?_
  refine g_iconst_1 C0 dL_law_1189 ?_
  refine g_iadd C0 dL_law_1190 ?_
  refine g_sld C0 hX0 hi.1 dL_law_1191 ?_
  refine g_aload_0 C0 dL_law_1192 rfl ?_
  refine g_iload C0 dL_law_1193 rfl ?_
  refine g_iconst_2 C0 dL_law_1195 ?_
  refine g_iadd C0 dL_law_1196 ?_
  refine g_sld C0 hX0 hi.2.1 dL_law_1197 ?_
  refine g_aload_3 C0 dL_law_1198 rfl ?_
  refine g_csa (g_rot (g_csa ?_))
  refine g_callH (x := oL E o f ++ wI E a σ) (r := wM E a' τ) C 4 (As := [.ref (a 0), .int (xs (Int32.toNatClampNeg (i + 1))), .int (xs (Int32.toNatClampNeg (i + 2))), .ref o]) (rest := []) (by decide +kernel) (by decide +kernel) (by decide +kernel) (by decide +kernel) (by decide +kernel) (cL_iceH hl0 (T_ice h)) ⟨rfl, rfl⟩ ⟨(Nat.le_of_ble_eq_true rfl), (Nat.le_of_ble_eq_true rfl)⟩ hf rfl rfl (Nat.le_of_ble_eq_true rfl) dL_law_1199 (fun v u hu => ?_)
  rcases hu with ⟨rfl, r, σ', hp, rfl⟩ | ⟨rfl, σ', hp, rfl⟩
  · have hp : wpM_ice (xs (Int32.toNatClampNeg (i + 1))) (xs (Int32.toNatClampNeg (i + 2))) τ (fun r' τ' => τ'.1 0 = 0 ∧ r = r' ∧ Rel σ' τ') := hp
    refine g_rot ?_
    refine g_istore C1 dL_law_1202 (Nat.le_of_ble_eq_true rfl) ?_
    refine g_aload_2 C1 dL_law_1204 rfl ?_
    refine g_aload_0 C1 dL_law_1205 rfl ?_
    refine g_iload C1 dL_law_1206 rfl ?_
    refine g_iconst_1 C1 dL_law_1208 ?_
    refine g_iadd C1 dL_law_1209 ?_
    refine g_sld C1 hX1 hi.1 dL_law_1210 ?_
    refine g_aload_0 C1 dL_law_1211 rfl ?_
    refine g_iload C1 dL_law_1212 rfl ?_
    refine g_iconst_2 C1 dL_law_1214 ?_
    refine g_iadd C1 dL_law_1215 ?_
    refine g_sld C1 hX1 hi.2.1 dL_law_1216 ?_
    refine g_callF (w := wM E a') (σ := τ) (r := (oL E o (vp_updL f 0 r.toInt64) ++ wI E a σ')) C1 2 (As := [.int (xs (Int32.toNatClampNeg (i + 1))), .int (xs (Int32.toNatClampNeg (i + 2)))]) (rest := []) (Cn := RX11) (T := TX11) (N := 42) (q0 := 0) (ci := 10) (by decide +kernel) (by decide +kernel) (by decide +kernel) (by decide +kernel) (by decide +kernel) (by decide +kernel) rfl rfl (cM_ice hp) ⟨rfl, rfl⟩ ⟨(Nat.le_of_ble_eq_true rfl), (Nat.le_of_ble_eq_true rfl)⟩ rfl rfl (Nat.le_of_ble_eq_true rfl) dL_law_1217 (fun v' τ' hu' => ?_)
    refine g_istore C1 dL_law_1220 (Nat.le_of_ble_eq_true rfl) ?_
    refine g_aload_2 C1 dL_law_1222 rfl ?_
    refine g_callF (w := wM E a') (σ := τ') (r := (oL E o (vp_updL f 0 r.toInt64) ++ wI E a σ')) C1 0 (As := []) (rest := []) (Cn := RX11) (T := TX11) (N := 42) (q0 := 0) (ci := 10) (by decide +kernel) (by decide +kernel) (by decide +kernel) (by decide +kernel) (by decide +kernel) (by decide +kernel) rfl rfl (cM_thrown (post := fun v t => v = τ'.1 0 ∧ t = τ') ⟨rfl, rfl⟩) ⟨rfl, rfl⟩ ⟨(Nat.le_of_ble_eq_true rfl), (Nat.le_of_ble_eq_true rfl)⟩ rfl rfl (Nat.le_of_ble_eq_true rfl) dL_law_1223 (fun v9 t9 h9 => ?_)
    obtain ⟨rfl, rfl⟩ := h9
    refine g_iload C1 (x := 0) dL_law_1226 rfl ?_
    refine g_icmp_eq C1 1233 dL_law_1228 (by decide) (fun _ => ?_) (fun q9 => absurd hu'.1 q9)
    refine g_iload C1 (x := 0) dL_law_1233 rfl ?_
    refine g_if_ne C1 1250 dL_law_1235 (by decide) (fun q9 => absurd rfl q9) (fun _ => ?_)
    refine g_rot ?_
    refine g_aload_3 C1 dL_law_1238 rfl ?_
    refine g_iconst_0 C1 dL_law_1239 ?_
    refine g_lald (q0 := 0) (n := 1) (f := vp_updL f 0 r.toInt64) (i := 0) C1 rfl (by unfold vp_in; decide) dL_law_1240 ?_
    refine g_iload C1 (x := v') dL_law_1241 rfl ?_
    refine g_i2l C1 dL_law_1243 ?_
    refine g_lcmp C1 dL_law_1244 ?_
    have e9 : lg_cmp (vp_updL f 0 r.toInt64 (Int32.toNatClampNeg 0)) v'.toInt64 = 0 := by
      rw [hu'.2.1]
      exact cmp_eq _
    refine g_if_eq C1 1250 dL_law_1245 (by decide) (fun _ => ?_) (fun q9 => absurd e9 q9)
    refine g_goto C1 1377 dL_law_1250 (by decide) ?_
    refine g_asc (g_rot (g_asc ?_))
    exact k σ' _ _ _ _ hu'.2.2
  · have hp : wpM_ice (xs (Int32.toNatClampNeg (i + 1))) (xs (Int32.toNatClampNeg (i + 2))) τ (fun _ τ' => τ'.1 0 = 1 ∧ Rel σ' τ') := hp
    refine g_rot ?_
    refine g_istore C1 dL_law_1202 (Nat.le_of_ble_eq_true rfl) ?_
    refine g_aload_2 C1 dL_law_1204 rfl ?_
    refine g_aload_0 C1 dL_law_1205 rfl ?_
    refine g_iload C1 dL_law_1206 rfl ?_
    refine g_iconst_1 C1 dL_law_1208 ?_
    refine g_iadd C1 dL_law_1209 ?_
    refine g_sld C1 hX1 hi.1 dL_law_1210 ?_
    refine g_aload_0 C1 dL_law_1211 rfl ?_
    refine g_iload C1 dL_law_1212 rfl ?_
    refine g_iconst_2 C1 dL_law_1214 ?_
    refine g_iadd C1 dL_law_1215 ?_
    refine g_sld C1 hX1 hi.2.1 dL_law_1216 ?_
    refine g_callF (w := wM E a') (σ := τ) (r := (oL E o f ++ wI E a σ')) C1 2 (As := [.int (xs (Int32.toNatClampNeg (i + 1))), .int (xs (Int32.toNatClampNeg (i + 2)))]) (rest := []) (Cn := RX11) (T := TX11) (N := 42) (q0 := 0) (ci := 10) (by decide +kernel) (by decide +kernel) (by decide +kernel) (by decide +kernel) (by decide +kernel) (by decide +kernel) rfl rfl (cM_ice hp) ⟨rfl, rfl⟩ ⟨(Nat.le_of_ble_eq_true rfl), (Nat.le_of_ble_eq_true rfl)⟩ rfl rfl (Nat.le_of_ble_eq_true rfl) dL_law_1217 (fun v' τ' hu' => ?_)
    refine g_istore C1 dL_law_1220 (Nat.le_of_ble_eq_true rfl) ?_
    refine g_aload_2 C1 dL_law_1222 rfl ?_
    refine g_callF (w := wM E a') (σ := τ') (r := (oL E o f ++ wI E a σ')) C1 0 (As := []) (rest := []) (Cn := RX11) (T := TX11) (N := 42) (q0 := 0) (ci := 10) (by decide +kernel) (by decide +kernel) (by decide +kernel) (by decide +kernel) (by decide +kernel) (by decide +kernel) rfl rfl (cM_thrown (post := fun v t => v = τ'.1 0 ∧ t = τ') ⟨rfl, rfl⟩) ⟨rfl, rfl⟩ ⟨(Nat.le_of_ble_eq_true rfl), (Nat.le_of_ble_eq_true rfl)⟩ rfl rfl (Nat.le_of_ble_eq_true rfl) dL_law_1223 (fun v9 t9 h9 => ?_)
    obtain ⟨rfl, rfl⟩ := h9
    refine g_iload C1 (x := 1) dL_law_1226 rfl ?_
    refine g_icmp_eq C1 1233 dL_law_1228 (by decide) (fun _ => ?_) (fun q9 => absurd hu'.1 q9)
    refine g_iload C1 (x := 1) dL_law_1233 rfl ?_
    refine g_if_ne C1 1250 dL_law_1235 (by decide) (fun _ => ?_) (fun q9 => absurd q9 (by decide))
    refine g_rot ?_
    refine g_goto C1 1377 dL_law_1250 (by decide) ?_
    refine g_asc (g_rot (g_asc ?_))
    exact k σ' _ _ _ _ hu'.2

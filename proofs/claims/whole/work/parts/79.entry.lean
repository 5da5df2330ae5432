/-! ===== the law from its entry ===== -/
set_option maxRecDepth 20000 in
set_option maxHeartbeats 2000000 in
theorem law_all {X : Kx} {l : Launch} {E : Ev} {b L : Nat} {xs : Nat → Int32} (hl0 : l.stackTraces = false) (C : Cx X l E RL cL_law room_1 (some .boolean)) (hX : SX X b L xs) (hZ : AOx X) (hL : L ≤ 3072) (kE : ∀ (n s : Nat) (ws : va_W) (lv : List (Option Value)), n ≤ 601024 → s ≤ 7293034 → G (XK X n s) wid ws 1383 lv []) : G (XK X 0 0) wid [] 0 [some (.ref b), none, none, none, none, none, none] [] := by
  refine g_new C (a := 0) (b := 0) (ci := 9) [.null, .null, .null, .null, .null, .null, .null, .int 0] rfl inU_X10 tyX10_ok (by decide +kernel) (by decide +kernel) (by decide +kernel) (by decide +kernel) (Nat.le_of_ble_eq_true rfl) (Nat.le_of_ble_eq_true rfl) dL_law_0 (fun q1 => ?_)
  have C1 := cxk C (a := 1) (b := 8) (Nat.le_of_ble_eq_true rfl) (Nat.le_of_ble_eq_true rfl)
  show G (XK X 1 8) wid ([] ++ [(q1, .inr (9, [.null, .null, .null, .null, .null, .null, .null, .int 0]))]) 3 [some (.ref b), none, none, none, none, none, none] [.ref q1]
  refine g_dup C1 dL_law_3 rfl ?_
  refine g_ctorL C hZ (a := 1) (b := 8) (ws := []) (q := q1) (e0 := .inr (9, [.null, .null, .null, .null, .null, .null, .null, .int 0])) (rest := [.ref q1]) (y := yX10_init) (bytes := cX10_init) (nL' := 1) (by decide +kernel) (by decide +kernel) (by decide +kernel) (by decide +kernel) rfl (by decide +kernel) cC_X10 ⟨(Nat.le_of_ble_eq_true rfl), (Nat.le_of_ble_eq_true rfl)⟩ ⟨(Nat.le_of_ble_eq_true rfl), (Nat.le_of_ble_eq_true rfl)⟩ (Nat.le_of_ble_eq_true rfl) dL_law_4 (fun u hu => ?_)
  obtain ⟨a, rfl, rfl⟩ := hu
  have C2 := cxk C (a := 45) (b := 1792) (Nat.le_of_ble_eq_true rfl) (Nat.le_of_ble_eq_true rfl)
  show G (XK X 45 1792) wid (wI E a zI) 7 [some (.ref b), none, none, none, none, none, none] [.ref (a 0)]
  refine g_astore_1 C2 dL_law_7 (Nat.le_of_ble_eq_true rfl) ?_
  refine g_new C (a := 45) (b := 1792) (ci := 10) (ws := wI E a zI) [.int 0, .int 0, .int 0, .null, .null, .null, .null, .null, .null, .null, .null, .null, .null, .int 0, .null, .null, .null, .null, .null, .null, .null, .null, .int 0, .int 0, .int 0, .int 0, .int 0, .int 0, .null, .null, .int 0, .int 0, .null, .null, .null, .null, .null, .null, .null, .int 0, .int 0, .null] rfl inU_X11 tyX11_ok (by decide +kernel) (by decide +kernel) (by decide +kernel) (by decide +kernel) (Nat.le_of_ble_eq_true rfl) (Nat.le_of_ble_eq_true rfl) dL_law_8 (fun q2 => ?_)
  have C3 := cxk C (a := 46) (b := 1834) (Nat.le_of_ble_eq_true rfl) (Nat.le_of_ble_eq_true rfl)
  show G (XK X 46 1834) wid (wI E a zI ++ [(q2, .inr (10, [.int 0, .int 0, .int 0, .null, .null, .null, .null, .null, .null, .null, .null, .null, .null, .int 0, .null, .null, .null, .null, .null, .null, .null, .null, .int 0, .int 0, .int 0, .int 0, .int 0, .int 0, .null, .null, .int 0, .int 0, .null, .null, .null, .null, .null, .null, .null, .int 0, .int 0, .null]))]) 11 [some (.ref b), some (.ref (a 0)), none, none, none, none, none] [.ref q2]
  refine g_dup C3 dL_law_11 rfl ?_
  refine g_ctorL C hZ (a := 46) (b := 1834) (ws := wI E a zI) (q := q2) (e0 := .inr (10, [.int 0, .int 0, .int 0, .null, .null, .null, .null, .null, .null, .null, .null, .null, .null, .int 0, .null, .null, .null, .null, .null, .null, .null, .null, .int 0, .int 0, .int 0, .int 0, .int 0, .int 0, .null, .null, .int 0, .int 0, .null, .null, .null, .null, .null, .null, .null, .int 0, .int 0, .null])) (rest := [.ref q2]) (y := yX11_init) (bytes := cX11_init) (nL' := 2) (by decide +kernel) (by decide +kernel) (by decide +kernel) (by decide +kernel) rfl (by decide +kernel) cC_X11 ⟨(Nat.le_of_ble_eq_true rfl), (Nat.le_of_ble_eq_true rfl)⟩ ⟨(Nat.le_of_ble_eq_true rfl), (Nat.le_of_ble_eq_true rfl)⟩ (Nat.le_of_ble_eq_true rfl) dL_law_12 (fun u hu => ?_)
  obtain ⟨a', rfl, rfl⟩ := hu
  have C4 := cxk C (a := 74) (b := 3520) (Nat.le_of_ble_eq_true rfl) (Nat.le_of_ble_eq_true rfl)
  show G (XK X 74 3520) wid (wI E a zI ++ wM E a' zM) 15 [some (.ref b), some (.ref (a 0)), none, none, none, none, none] [.ref (a' 0)]
  refine g_astore_2 C4 dL_law_15 (Nat.le_of_ble_eq_true rfl) ?_
  refine g_iconst_1 C4 dL_law_16 ?_
  refine g_newl C (a := 74) (b := 3520) (ws := wI E a zI ++ wM E a' zM) (n := 1) 1 (by decide) (by decide) (Nat.le_of_ble_eq_true rfl) (Nat.le_of_ble_eq_true rfl) (Nat.le_of_ble_eq_true rfl) dL_law_17 (fun o => ?_)
  have C5 := cxk C (a := 75) (b := 3521) (Nat.le_of_ble_eq_true rfl) (Nat.le_of_ble_eq_true rfl)
  show G (XK X 75 3521) wid ((wI E a zI ++ wM E a' zM) ++ oL E o (fun _ => 0)) 19 [some (.ref b), some (.ref (a 0)), some (.ref (a' 0)), none, none, none, none] [.ref o]
  refine g_astore_3 C5 dL_law_19 (Nat.le_of_ble_eq_true rfl) ?_
  refine g_iconst_0 C5 dL_law_20 ?_
  refine g_istore C5 dL_law_21 (Nat.le_of_ble_eq_true rfl) ?_
  refine g_asc ?_
  show G (XK X (75 + 0) (3521 + 6 * 0)) wid (wI E a zI ++ (wM E a' zM ++ oL E o (fun _ => 0))) 23 (lvL b a a' o (nI (6 * 0)) none none) []
  exact law_loop hl0 C hX hL ⟨by decide, by decide⟩ kE 512 0 rfl Rel_0

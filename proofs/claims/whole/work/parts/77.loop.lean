/-! ===== the law's loop ===== -/
theorem sw_out {x : Int32} (h : ∀ v : Nat, v < 31 → x ≠ nI v) : x.toInt < 0 ∨ 30 < x.toInt := by
  rcases Int.lt_or_le x.toInt 0 with q | q
  · exact Or.inl q
  · refine Or.inr (Int.not_le.mp (fun q2 => ?_))
    obtain ⟨v, hv⟩ := Int.eq_ofNat_of_zero_le q
    exact h v (by omega) (Int32.toInt_inj.mp (by rw [nI_toInt (by omega)]; exact hv))
set_option maxHeartbeats 2000000 in
theorem law_case {X : Kx} {l : Launch} {E : Ev} {a a' : Nat → Nat} {o b L j c0 s0 : Nat} {xs : Nat → Int32} (hl0 : l.stackTraces = false) (C : Cx X l E RL cL_law room_1 (some .boolean)) (hX : SX X b L xs) (hr : c0 + 512 ≤ 601024 ∧ s0 + 3072 ≤ 7293034) (hj : j < 512) {i : Int32} (hi : (vp_in (i + 1) L ∧ vp_in (i + 2) L ∧ vp_in (i + 3) L ∧ vp_in (i + 4) L ∧ vp_in (i + 5) L)) (x : Int32) {σ τ : St} {f : Nat → Int64} {p q : Option Value} (h : Rel σ τ)
    (k : ∀ (σ' τ' : St) (f' : Nat → Int64) (p' q' : Option Value), Rel σ' τ' → G (XK X (c0 + (j + 1)) (s0 + 6 * (j + 1))) wid (wI E a σ' ++ (wM E a' τ' ++ oL E o f')) 1377 (lvL b a a' o i p' q') []) : G (XK X (c0 + j) (s0 + 6 * j)) wid (wI E a σ ++ (wM E a' τ ++ oL E o f)) 40 (lvL b a a' o i p q) [.int x] := by
  have hr1 : c0 + j ≤ 601024 ∧ s0 + 6 * j ≤ 7293034 := ⟨by omega, by omega⟩
  have hr2 : c0 + j + 1 ≤ 601024 ∧ s0 + 6 * j + 6 ≤ 7293034 := ⟨by omega, by omega⟩
  have C0 := cxk C (a := c0 + j) (b := s0 + 6 * j) hr1.1 hr1.2
  have hX0 := sxk hX (c0 + j) (s0 + 6 * j)
  have k0 : ∀ (σ' τ' : St), Rel σ' τ' → G (XK X (c0 + j) (s0 + 6 * j)) wid (wI E a σ' ++ (wM E a' τ' ++ oL E o f)) 1377 (lvL b a a' o i p q) [] := fun σ' τ' h' => g_widen (by omega) (by omega) (k σ' τ' f p q h')
  have k1 : ∀ (σ' τ' : St) (f' : Nat → Int64) (p' q' : Option Value), Rel σ' τ' → G (XK X (c0 + j + 1) (s0 + 6 * j + 6)) wid (wI E a σ' ++ (wM E a' τ' ++ oL E o f')) 1377 (lvL b a a' o i p' q') [] := fun σ' τ' f' p' q' h' => g_widen (by omega) (by omega) (k σ' τ' f' p' q' h')
  by_cases e0 : x = nI 0
  · exact g_tabIn C0 (off := 140) 180 (nI 0) e0 dL_law_40 (by decide +kernel) (by decide +kernel) (by decide +kernel) (by decide) (lc_track C0 hX0 hi h k0)
  by_cases e1 : x = nI 1
  · exact g_tabIn C0 (off := 177) 217 (nI 1) e1 dL_law_40 (by decide +kernel) (by decide +kernel) (by decide +kernel) (by decide) (lc_bend C0 hX0 hi h k0)
  by_cases e2 : x = nI 2
  · exact g_tabIn C0 (off := 238) 278 (nI 2) e2 dL_law_40 (by decide +kernel) (by decide +kernel) (by decide +kernel) (by decide) (lc_runners C0 hX0 hi h k0)
  by_cases e3 : x = nI 3
  · exact g_tabIn C0 (off := 311) 351 (nI 3) e3 dL_law_40 (by decide +kernel) (by decide +kernel) (by decide +kernel) (by decide) (lc_copy C0 hX0 hi h k0)
  by_cases e4 : x = nI 4
  · exact g_tabIn C0 (off := 384) 424 (nI 4) e4 dL_law_40 (by decide +kernel) (by decide +kernel) (by decide +kernel) (by decide) (lc_glide hl0 C hX hr2 hi h k1)
  by_cases e5 : x = nI 5
  · exact g_tabIn C0 (off := 452) 492 (nI 5) e5 dL_law_40 (by decide +kernel) (by decide +kernel) (by decide +kernel) (by decide) (lc_weather C0 hX0 hi h k0)
  by_cases e6 : x = nI 6
  · exact g_tabIn C0 (off := 501) 541 (nI 6) e6 dL_law_40 (by decide +kernel) (by decide +kernel) (by decide +kernel) (by decide) (lc_water C0 hX0 hi h k0)
  by_cases e7 : x = nI 7
  · exact g_tabIn C0 (off := 538) 578 (nI 7) e7 dL_law_40 (by decide +kernel) (by decide +kernel) (by decide +kernel) (by decide) (lc_cell C0 hX0 hi h k0)
  by_cases e8 : x = nI 8
  · exact g_tabIn C0 (off := 575) 615 (nI 8) e8 dL_law_40 (by decide +kernel) (by decide +kernel) (by decide +kernel) (by decide) (lc_standard C0 hX0 hi h k0)
  by_cases e9 : x = nI 9
  · exact g_tabIn C0 (off := 588) 628 (nI 9) e9 dL_law_40 (by decide +kernel) (by decide +kernel) (by decide +kernel) (by decide) (lc_eye C0 hX0 hi h k0)
  by_cases e10 : x = nI 10
  · exact g_tabIn C0 (off := 637) 677 (nI 10) e10 dL_law_40 (by decide +kernel) (by decide +kernel) (by decide +kernel) (by decide) (lc_sled C0 hX0 hi h k0)
  by_cases e11 : x = nI 11
  · exact g_tabIn C0 (off := 698) 738 (nI 11) e11 dL_law_40 (by decide +kernel) (by decide +kernel) (by decide +kernel) (by decide) (lc_feed C0 hX0 hi h k0)
  by_cases e12 : x = nI 12
  · exact g_tabIn C0 (off := 771) 811 (nI 12) e12 dL_law_40 (by decide +kernel) (by decide +kernel) (by decide +kernel) (by decide) (lc_end C0 hX0 hi h k0)
  by_cases e13 : x = nI 13
  · exact g_tabIn C0 (off := 796) 836 (nI 13) e13 dL_law_40 (by decide +kernel) (by decide +kernel) (by decide +kernel) (by decide) (lc_laws C0 hX0 hi h k0)
  by_cases e14 : x = nI 14
  · exact g_tabIn C0 (off := 809) 849 (nI 14) e14 dL_law_40 (by decide +kernel) (by decide +kernel) (by decide +kernel) (by decide) (lc_place C0 hX0 hi h k0)
  by_cases e15 : x = nI 15
  · exact g_tabIn C0 (off := 822) 862 (nI 15) e15 dL_law_40 (by decide +kernel) (by decide +kernel) (by decide +kernel) (by decide) (lc_law C0 hX0 hi h k0)
  by_cases e16 : x = nI 16
  · exact g_tabIn C0 (off := 847) 887 (nI 16) e16 dL_law_40 (by decide +kernel) (by decide +kernel) (by decide +kernel) (by decide) (lc_race C0 hX0 hi h k0)
  by_cases e17 : x = nI 17
  · exact g_tabIn C0 (off := 860) 900 (nI 17) e17 dL_law_40 (by decide +kernel) (by decide +kernel) (by decide +kernel) (by decide) (lc_begin C0 hX0 hi h k0)
  by_cases e18 : x = nI 18
  · exact g_tabIn C0 (off := 885) 925 (nI 18) e18 dL_law_40 (by decide +kernel) (by decide +kernel) (by decide +kernel) (by decide) (lc_order C0 hX0 hi h k0)
  by_cases e19 : x = nI 19
  · exact g_tabIn C0 (off := 910) 950 (nI 19) e19 dL_law_40 (by decide +kernel) (by decide +kernel) (by decide +kernel) (by decide) (lc_start C0 hX0 hi h k0)
  by_cases e20 : x = nI 20
  · exact g_tabIn C0 (off := 923) 963 (nI 20) e20 dL_law_40 (by decide +kernel) (by decide +kernel) (by decide +kernel) (by decide) (lc_shut C0 hX0 hi h k0)
  by_cases e21 : x = nI 21
  · exact g_tabIn C0 (off := 936) 976 (nI 21) e21 dL_law_40 (by decide +kernel) (by decide +kernel) (by decide +kernel) (by decide) (lc_touch C0 hX0 hi h k0)
  by_cases e22 : x = nI 22
  · exact g_tabIn C0 (off := 973) 1013 (nI 22) e22 dL_law_40 (by decide +kernel) (by decide +kernel) (by decide +kernel) (by decide) (lc_time C0 hX0 hi h k0)
  by_cases e23 : x = nI 23
  · exact g_tabIn C0 (off := 1022) 1062 (nI 23) e23 dL_law_40 (by decide +kernel) (by decide +kernel) (by decide +kernel) (by decide) (lc_twice C0 hX0 hi h k0)
  by_cases e24 : x = nI 24
  · exact g_tabIn C0 (off := 1071) 1111 (nI 24) e24 dL_law_40 (by decide +kernel) (by decide +kernel) (by decide +kernel) (by decide) (lc_sum C0 hX0 hi h k0)
  by_cases e25 : x = nI 25
  · exact g_tabIn C0 (off := 1108) 1148 (nI 25) e25 dL_law_40 (by decide +kernel) (by decide +kernel) (by decide +kernel) (by decide) (lc_rank C0 hX0 hi h k0)
  by_cases e26 : x = nI 26
  · exact g_tabIn C0 (off := 1145) 1185 (nI 26) e26 dL_law_40 (by decide +kernel) (by decide +kernel) (by decide +kernel) (by decide) (lc_ice hl0 C hX hr2 hi h k1)
  by_cases e27 : x = nI 27
  · exact g_tabIn C0 (off := 1213) 1253 (nI 27) e27 dL_law_40 (by decide +kernel) (by decide +kernel) (by decide +kernel) (by decide) (lc_lost C0 hX0 hi h k0)
  by_cases e28 : x = nI 28
  · exact g_tabIn C0 (off := 1262) 1302 (nI 28) e28 dL_law_40 (by decide +kernel) (by decide +kernel) (by decide +kernel) (by decide) (lc_close C0 hX0 hi h k0)
  by_cases e29 : x = nI 29
  · exact g_tabIn C0 (off := 1275) 1315 (nI 29) e29 dL_law_40 (by decide +kernel) (by decide +kernel) (by decide +kernel) (by decide) (lc_points C0 hX0 hi h k0)
  by_cases e30 : x = nI 30
  · exact g_tabIn C0 (off := 1312) 1352 (nI 30) e30 dL_law_40 (by decide +kernel) (by decide +kernel) (by decide +kernel) (by decide) (lc_count C0 hX0 hi h k0)
  refine g_tabOut C0 1377 (sw_out (fun v hv => ?_)) dL_law_40 (by decide) (k0 σ τ h)
  match v, hv with
  | 0, _ => exact e0
  | 1, _ => exact e1
  | 2, _ => exact e2
  | 3, _ => exact e3
  | 4, _ => exact e4
  | 5, _ => exact e5
  | 6, _ => exact e6
  | 7, _ => exact e7
  | 8, _ => exact e8
  | 9, _ => exact e9
  | 10, _ => exact e10
  | 11, _ => exact e11
  | 12, _ => exact e12
  | 13, _ => exact e13
  | 14, _ => exact e14
  | 15, _ => exact e15
  | 16, _ => exact e16
  | 17, _ => exact e17
  | 18, _ => exact e18
  | 19, _ => exact e19
  | 20, _ => exact e20
  | 21, _ => exact e21
  | 22, _ => exact e22
  | 23, _ => exact e23
  | 24, _ => exact e24
  | 25, _ => exact e25
  | 26, _ => exact e26
  | 27, _ => exact e27
  | 28, _ => exact e28
  | 29, _ => exact e29
  | 30, _ => exact e30
  | v + 31, hv => exact absurd hv (by omega)
/-- one turn of the loop: to its end, or to the next turn -/
theorem law_turn {X : Kx} {l : Launch} {E : Ev} {a a' : Nat → Nat} {o b L j c0 s0 : Nat} {xs : Nat → Int32} (hl0 : l.stackTraces = false) (C : Cx X l E RL cL_law room_1 (some .boolean)) (hX : SX X b L xs) (hL : L ≤ 3072) (hr : c0 + 512 ≤ 601024 ∧ s0 + 3072 ≤ 7293034) {σ τ : St} {f : Nat → Int64} {p q : Option Value} (hj : j ≤ 512) (h : Rel σ τ) (kE : G (XK X (c0 + j) (s0 + 6 * j)) wid (wI E a σ ++ (wM E a' τ ++ oL E o f)) 1383 (lvL b a a' o (nI (6 * j)) p q) [])
    (k : ∀ (σ' τ' : St) (f' : Nat → Int64) (p' q' : Option Value), j < 512 → Rel σ' τ' → G (XK X (c0 + (j + 1)) (s0 + 6 * (j + 1))) wid (wI E a σ' ++ (wM E a' τ' ++ oL E o f')) 23 (lvL b a a' o (nI (6 * (j + 1))) p' q') []) : G (XK X (c0 + j) (s0 + 6 * j)) wid (wI E a σ ++ (wM E a' τ ++ oL E o f)) 23 (lvL b a a' o (nI (6 * j)) p q) [] := by
  have hr1 : c0 + j ≤ 601024 ∧ s0 + 6 * j ≤ 7293034 := ⟨by omega, by omega⟩
  have C0 := cxk C (a := c0 + j) (b := s0 + 6 * j) hr1.1 hr1.2
  have hX0 := sxk hX (c0 + j) (s0 + 6 * j)
  refine g_iload C0 dL_law_23 rfl ?_
  refine g_aload_0 C0 dL_law_25 rfl ?_
  refine g_slenX C0 hX0 dL_law_26 ?_
  refine g_bipush C0 (v := 6) (by decide) dL_law_27 ?_
  refine g_isub C0 dL_law_29 ?_
  refine g_icmp_gt C0 1383 dL_law_30 (by decide) (fun _ => kE) (fun hn => ?_)
  have hlt : 6 * j + 6 ≤ L := by
    rcases Nat.lt_or_ge L (6 * j + 6) with q9 | q9
    · exfalso
      apply hn
      have e1 : (nI L - nI 6).toInt = (L : Int) - 6 := pk_sub_toInt (by omega) (by omega)
      rw [Int32.lt_iff_toInt_lt, nI_toInt (by omega)]
      have e2 : (Int32.ofNat L - 6).toInt = (L : Int) - 6 := e1
      rw [e2]
      omega
    · exact q9
  have hj2 : j < 512 := by omega
  have hv : ∀ z : Nat, z < 6 → vp_in (nI (6 * j) + nI z) L := fun z hz => by
    rw [nI_add]
    exact vp_in_nI (by omega) (by omega)
  have h0 : vp_in (nI (6 * j)) L := vp_in_nI (by omega) (by omega)
  refine g_aload_0 C0 dL_law_33 rfl ?_
  refine g_iload C0 dL_law_34 rfl ?_
  refine g_sld C0 hX0 h0 dL_law_36 ?_
  refine g_bipush C0 (v := 31) (by decide) dL_law_37 ?_
  refine g_iand C0 dL_law_39 ?_
  refine law_case hl0 C hX hr hj2 ⟨hv 1 (by decide), hv 2 (by decide), hv 3 (by decide), hv 4 (by decide), hv 5 (by decide)⟩ _ h (fun σ' τ' f' p' q' h' => ?_)
  have C1 := cxk C (a := c0 + (j + 1)) (b := s0 + 6 * (j + 1)) (show c0 + (j + 1) ≤ 601024 by omega) (show s0 + 6 * (j + 1) ≤ 7293034 by omega)
  refine g_iinc C1 (x := nI (6 * j)) (v := 6) (by decide) dL_law_1377 rfl ?_
  refine g_goto C1 23 dL_law_1380 (by decide) ?_
  have e : nI (6 * j) + 6 = nI (6 * (j + 1)) := nI_add (6 * j) 6
  show G _ _ _ _ (lvL b a a' o (nI (6 * j) + 6) p' q') []
  rw [e]
  exact k σ' τ' f' p' q' hj2 h'
theorem law_loop {X : Kx} {l : Launch} {E : Ev} {a a' : Nat → Nat} {o b L c0 s0 : Nat} {xs : Nat → Int32} (hl0 : l.stackTraces = false) (C : Cx X l E RL cL_law room_1 (some .boolean)) (hX : SX X b L xs) (hL : L ≤ 3072) (hr : c0 + 512 ≤ 601024 ∧ s0 + 3072 ≤ 7293034) (kE : ∀ (n s : Nat) (ws : va_W) (lv : List (Option Value)), n ≤ 601024 → s ≤ 7293034 → G (XK X n s) wid ws 1383 lv []) :
    ∀ (z j : Nat), z + j = 512 → ∀ {σ τ : St} {f : Nat → Int64} {p q : Option Value}, Rel σ τ → G (XK X (c0 + j) (s0 + 6 * j)) wid (wI E a σ ++ (wM E a' τ ++ oL E o f)) 23 (lvL b a a' o (nI (6 * j)) p q) []
  | 0, j, hz, _, _, _, _, _, h => law_turn hl0 C hX hL hr (by omega) h (kE _ _ _ _ (by omega) (by omega)) (fun _ _ _ _ _ hj _ => absurd hj (by omega))
  | z + 1, j, hz, _, _, _, _, _, h => law_turn hl0 C hX hL hr (by omega) h (kE _ _ _ _ (by omega) (by omega)) (fun _ _ _ _ _ _ h' => law_loop hl0 C hX hL hr kE z (j + 1) (by omega) h')

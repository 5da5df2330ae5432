set_option maxHeartbeats 1000000 in
theorem lc_water {X : Kx} {l : Launch} {E : Ev} {a a' : Nat → Nat} {σ τ : St} {o b L : Nat} {f : Nat → Int64} {xs : Nat → Int32} {i : Int32} {p q : Option Value} (C : Cx X l E RL cL_law room_1 (some .boolean)) (hX : SX X b L xs) (hi : vp_in (i + 1) L ∧ vp_in (i + 2) L ∧ vp_in (i + 3) L ∧ vp_in (i + 4) L ∧ vp_in (i + 5) L) (h : Rel σ τ) (k : ∀ σ' τ' : St, Rel σ' τ' → G X wid (wI E a σ' ++ (wM E a' τ' ++ oL E o f)) 1377 (lvL b a a' o i p q) []) : G X wid (wI E a σ ++ (wM E a' τ ++ oL E o f)) 541 (lvL b a a' o i p q) [] := by
  refine g_aload_1 C dL_law_541 rfl ?_
  refine g_aload_0 C dL_law_542 rfl ?_
  refine g_iload C dL_law_543 rfl ?_
  refine g_iconst_1 C dL_law_545 ?_
  refine g_iadd C dL_law_546 ?_
  refine g_sld C hX hi.1 dL_law_547 ?_
  refine g_aload_0 C dL_law_548 rfl ?_
  refine g_iload C dL_law_549 rfl ?_
  refine g_iconst_2 C dL_law_551 ?_
  refine g_iadd C dL_law_552 ?_
  refine g_sld C hX hi.2.1 dL_law_553 ?_
  refine g_callF (w := wI E a) (σ := σ) (r := wM E a' τ ++ oL E o f) C 2 (As := [.int (xs (Int32.toNatClampNeg (i + 1))), .int (xs (Int32.toNatClampNeg (i + 2)))]) (rest := []) (Cn := RX10) (T := TX10) (N := 8) (q0 := 0) (ci := 9) (by decide +kernel) (by decide +kernel) (by decide +kernel) (by decide +kernel) (by decide +kernel) (by decide +kernel) rfl rfl (cI_X10_water (T_water h)) ⟨rfl, rfl⟩ ⟨(Nat.le_of_ble_eq_true rfl), (Nat.le_of_ble_eq_true rfl)⟩ rfl rfl (Nat.le_of_ble_eq_true rfl) dL_law_554 (fun v u hu => ?_)
  refine g_rot (g_asc ?_)
  refine g_aload_2 C dL_law_557 rfl ?_
  refine g_aload_0 C dL_law_558 rfl ?_
  refine g_iload C dL_law_559 rfl ?_
  refine g_iconst_1 C dL_law_561 ?_
  refine g_iadd C dL_law_562 ?_
  refine g_sld C hX hi.1 dL_law_563 ?_
  refine g_aload_0 C dL_law_564 rfl ?_
  refine g_iload C dL_law_565 rfl ?_
  refine g_iconst_2 C dL_law_567 ?_
  refine g_iadd C dL_law_568 ?_
  refine g_sld C hX hi.2.1 dL_law_569 ?_
  refine g_callF (w := wM E a') (σ := τ) (r := oL E o f ++ wI E a u) C 2 (As := [.int (xs (Int32.toNatClampNeg (i + 1))), .int (xs (Int32.toNatClampNeg (i + 2)))]) (rest := [.int v]) (Cn := RX11) (T := TX11) (N := 42) (q0 := 0) (ci := 10) (by decide +kernel) (by decide +kernel) (by decide +kernel) (by decide +kernel) (by decide +kernel) (by decide +kernel) rfl rfl (cM_water hu) ⟨rfl, rfl⟩ ⟨(Nat.le_of_ble_eq_true rfl), (Nat.le_of_ble_eq_true rfl)⟩ rfl rfl (Nat.le_of_ble_eq_true rfl) dL_law_570 (fun v' u' hu' => ?_)
  obtain ⟨rfl, hr⟩ := hu'
  refine g_csa (g_rot ?_)
  exact g_icmp_eq C 1377 dL_law_573 (by decide) (fun _ => k u u' hr) (fun q => absurd rfl q)
set_option maxHeartbeats 1000000 in
theorem lc_cell {X : Kx} {l : Launch} {E : Ev} {a a' : Nat → Nat} {σ τ : St} {o b L : Nat} {f : Nat → Int64} {xs : Nat → Int32} {i : Int32} {p q : Option Value} (C : Cx X l E RL cL_law room_1 (some .boolean)) (hX : SX X b L xs) (hi : vp_in (i + 1) L ∧ vp_in (i + 2) L ∧ vp_in (i + 3) L ∧ vp_in (i + 4) L ∧ vp_in (i + 5) L) (h : Rel σ τ) (k : ∀ σ' τ' : St, Rel σ' τ' → G X wid (wI E a σ' ++ (wM E a' τ' ++ oL E o f)) 1377 (lvL b a a' o i p q) []) : G X wid (wI E a σ ++ (wM E a' τ ++ oL E o f)) 578 (lvL b a a' o i p q) [] := by
  refine g_aload_1 C dL_law_578 rfl ?_
  refine g_aload_0 C dL_law_579 rfl ?_
  refine g_iload C dL_law_580 rfl ?_
  refine g_iconst_1 C dL_law_582 ?_
  refine g_iadd C dL_law_583 ?_
  refine g_sld C hX hi.1 dL_law_584 ?_
  refine g_aload_0 C dL_law_585 rfl ?_
  refine g_iload C dL_law_586 rfl ?_
  refine g_iconst_2 C dL_law_588 ?_
  refine g_iadd C dL_law_589 ?_
  refine g_sld C hX hi.2.1 dL_law_590 ?_
  refine g_callF (w := wI E a) (σ := σ) (r := wM E a' τ ++ oL E o f) C 2 (As := [.int (xs (Int32.toNatClampNeg (i + 1))), .int (xs (Int32.toNatClampNeg (i + 2)))]) (rest := []) (Cn := RX10) (T := TX10) (N := 8) (q0 := 0) (ci := 9) (by decide +kernel) (by decide +kernel) (by decide +kernel) (by decide +kernel) (by decide +kernel) (by decide +kernel) rfl rfl (cI_X10_cell (T_cell h)) ⟨rfl, rfl⟩ ⟨(Nat.le_of_ble_eq_true rfl), (Nat.le_of_ble_eq_true rfl)⟩ rfl rfl (Nat.le_of_ble_eq_true rfl) dL_law_591 (fun v u hu => ?_)
  refine g_rot (g_asc ?_)
  refine g_aload_2 C dL_law_594 rfl ?_
  refine g_aload_0 C dL_law_595 rfl ?_
  refine g_iload C dL_law_596 rfl ?_
  refine g_iconst_1 C dL_law_598 ?_
  refine g_iadd C dL_law_599 ?_
  refine g_sld C hX hi.1 dL_law_600 ?_
  refine g_aload_0 C dL_law_601 rfl ?_
  refine g_iload C dL_law_602 rfl ?_
  refine g_iconst_2 C dL_law_604 ?_
  refine g_iadd C dL_law_605 ?_
  refine g_sld C hX hi.2.1 dL_law_606 ?_
  refine g_callF (w := wM E a') (σ := τ) (r := oL E o f ++ wI E a u) C 2 (As := [.int (xs (Int32.toNatClampNeg (i + 1))), .int (xs (Int32.toNatClampNeg (i + 2)))]) (rest := [.int v]) (Cn := RX11) (T := TX11) (N := 42) (q0 := 0) (ci := 10) (by decide +kernel) (by decide +kernel) (by decide +kernel) (by decide +kernel) (by decide +kernel) (by decide +kernel) rfl rfl (cM_cell hu) ⟨rfl, rfl⟩ ⟨(Nat.le_of_ble_eq_true rfl), (Nat.le_of_ble_eq_true rfl)⟩ rfl rfl (Nat.le_of_ble_eq_true rfl) dL_law_607 (fun v' u' hu' => ?_)
  obtain ⟨rfl, hr⟩ := hu'
  refine g_csa (g_rot ?_)
  exact g_icmp_eq C 1377 dL_law_610 (by decide) (fun _ => k u u' hr) (fun q => absurd rfl q)
set_option maxHeartbeats 1000000 in
theorem lc_standard {X : Kx} {l : Launch} {E : Ev} {a a' : Nat → Nat} {σ τ : St} {o b L : Nat} {f : Nat → Int64} {xs : Nat → Int32} {i : Int32} {p q : Option Value} (C : Cx X l E RL cL_law room_1 (some .boolean)) (hX : SX X b L xs) (hi : vp_in (i + 1) L ∧ vp_in (i + 2) L ∧ vp_in (i + 3) L ∧ vp_in (i + 4) L ∧ vp_in (i + 5) L) (h : Rel σ τ) (k : ∀ σ' τ' : St, Rel σ' τ' → G X wid (wI E a σ' ++ (wM E a' τ' ++ oL E o f)) 1377 (lvL b a a' o i p q) []) : G X wid (wI E a σ ++ (wM E a' τ ++ oL E o f)) 615 (lvL b a a' o i p q) [] := by
  refine g_aload_1 C dL_law_615 rfl ?_
  refine g_callF (w := wI E a) (σ := σ) (r := wM E a' τ ++ oL E o f) C 0 (As := []) (rest := []) (Cn := RX10) (T := TX10) (N := 8) (q0 := 0) (ci := 9) (by decide +kernel) (by decide +kernel) (by decide +kernel) (by decide +kernel) (by decide +kernel) (by decide +kernel) rfl rfl (cI_X10_standard (T_standard h)) ⟨rfl, rfl⟩ ⟨(Nat.le_of_ble_eq_true rfl), (Nat.le_of_ble_eq_true rfl)⟩ rfl rfl (Nat.le_of_ble_eq_true rfl) dL_law_616 (fun v u hu => ?_)
  refine g_rot (g_asc ?_)
  refine g_aload_2 C dL_law_619 rfl ?_
  refine g_callF (w := wM E a') (σ := τ) (r := oL E o f ++ wI E a u) C 0 (As := []) (rest := [.int v]) (Cn := RX11) (T := TX11) (N := 42) (q0 := 0) (ci := 10) (by decide +kernel) (by decide +kernel) (by decide +kernel) (by decide +kernel) (by decide +kernel) (by decide +kernel) rfl rfl (cM_standard hu) ⟨rfl, rfl⟩ ⟨(Nat.le_of_ble_eq_true rfl), (Nat.le_of_ble_eq_true rfl)⟩ rfl rfl (Nat.le_of_ble_eq_true rfl) dL_law_620 (fun v' u' hu' => ?_)
  obtain ⟨rfl, hr⟩ := hu'
  refine g_csa (g_rot ?_)
  exact g_icmp_eq C 1377 dL_law_623 (by decide) (fun _ => k u u' hr) (fun q => absurd rfl q)
set_option maxHeartbeats 1000000 in
theorem lc_eye {X : Kx} {l : Launch} {E : Ev} {a a' : Nat → Nat} {σ τ : St} {o b L : Nat} {f : Nat → Int64} {xs : Nat → Int32} {i : Int32} {p q : Option Value} (C : Cx X l E RL cL_law room_1 (some .boolean)) (hX : SX X b L xs) (hi : vp_in (i + 1) L ∧ vp_in (i + 2) L ∧ vp_in (i + 3) L ∧ vp_in (i + 4) L ∧ vp_in (i + 5) L) (h : Rel σ τ) (k : ∀ σ' τ' : St, Rel σ' τ' → G X wid (wI E a σ' ++ (wM E a' τ' ++ oL E o f)) 1377 (lvL b a a' o i p q) []) : G X wid (wI E a σ ++ (wM E a' τ ++ oL E o f)) 628 (lvL b a a' o i p q) [] := by
  refine g_aload_1 C dL_law_628 rfl ?_
  refine g_aload_0 C dL_law_629 rfl ?_
  refine g_iload C dL_law_630 rfl ?_
  refine g_iconst_1 C dL_law_632 ?_
  refine g_iadd C dL_law_633 ?_
  refine g_sld C hX hi.1 dL_law_634 ?_
  refine g_aload_0 C dL_law_635 rfl ?_
  refine g_iload C dL_law_636 rfl ?_
  refine g_iconst_2 C dL_law_638 ?_
  refine g_iadd C dL_law_639 ?_
  refine g_sld C hX hi.2.1 dL_law_640 ?_
  refine g_aload_0 C dL_law_641 rfl ?_
  refine g_iload C dL_law_642 rfl ?_
  refine g_iconst_3 C dL_law_644 ?_
  refine g_iadd C dL_law_645 ?_
  refine g_sld C hX hi.2.2.1 dL_law_646 ?_
  refine g_callF (w := wI E a) (σ := σ) (r := wM E a' τ ++ oL E o f) C 3 (As := [.int (xs (Int32.toNatClampNeg (i + 1))), .int (xs (Int32.toNatClampNeg (i + 2))), .int (xs (Int32.toNatClampNeg (i + 3)))]) (rest := []) (Cn := RX10) (T := TX10) (N := 8) (q0 := 0) (ci := 9) (by decide +kernel) (by decide +kernel) (by decide +kernel) (by decide +kernel) (by decide +kernel) (by decide +kernel) rfl rfl (cI_X10_eye (T_eye h)) ⟨rfl, rfl⟩ ⟨(Nat.le_of_ble_eq_true rfl), (Nat.le_of_ble_eq_true rfl)⟩ rfl rfl (Nat.le_of_ble_eq_true rfl) dL_law_647 (fun v u hu => ?_)
  refine g_rot (g_asc ?_)
  refine g_aload_2 C dL_law_650 rfl ?_
  refine g_aload_0 C dL_law_651 rfl ?_
  refine g_iload C dL_law_652 rfl ?_
  refine g_iconst_1 C dL_law_654 ?_
  refine g_iadd C dL_law_655 ?_
  refine g_sld C hX hi.1 dL_law_656 ?_
  refine g_aload_0 C dL_law_657 rfl ?_
  refine g_iload C dL_law_658 rfl ?_
  refine g_iconst_2 C dL_law_660 ?_
  refine g_iadd C dL_law_661 ?_
  refine g_sld C hX hi.2.1 dL_law_662 ?_
  refine g_aload_0 C dL_law_663 rfl ?_
  refine g_iload C dL_law_664 rfl ?_
  refine g_iconst_3 C dL_law_666 ?_
  refine g_iadd C dL_law_667 ?_
  refine g_sld C hX hi.2.2.1 dL_law_668 ?_
  refine g_callF (w := wM E a') (σ := τ) (r := oL E o f ++ wI E a u) C 3 (As := [.int (xs (Int32.toNatClampNeg (i + 1))), .int (xs (Int32.toNatClampNeg (i + 2))), .int (xs (Int32.toNatClampNeg (i + 3)))]) (rest := [.int v]) (Cn := RX11) (T := TX11) (N := 42) (q0 := 0) (ci := 10) (by decide +kernel) (by decide +kernel) (by decide +kernel) (by decide +kernel) (by decide +kernel) (by decide +kernel) rfl rfl (cM_eye hu) ⟨rfl, rfl⟩ ⟨(Nat.le_of_ble_eq_true rfl), (Nat.le_of_ble_eq_true rfl)⟩ rfl rfl (Nat.le_of_ble_eq_true rfl) dL_law_669 (fun v' u' hu' => ?_)
  obtain ⟨rfl, hr⟩ := hu'
  refine g_csa (g_rot ?_)
  exact g_icmp_eq C 1377 dL_law_672 (by decide) (fun _ => k u u' hr) (fun q => absurd rfl q)
set_option maxHeartbeats 1000000 in
theorem lc_sled {X : Kx} {l : Launch} {E : Ev} {a a' : Nat → Nat} {σ τ : St} {o b L : Nat} {f : Nat → Int64} {xs : Nat → Int32} {i : Int32} {p q : Option Value} (C : Cx X l E RL cL_law room_1 (some .boolean)) (hX : SX X b L xs) (hi : vp_in (i + 1) L ∧ vp_in (i + 2) L ∧ vp_in (i + 3) L ∧ vp_in (i + 4) L ∧ vp_in (i + 5) L) (h : Rel σ τ) (k : ∀ σ' τ' : St, Rel σ' τ' → G X wid (wI E a σ' ++ (wM E a' τ' ++ oL E o f)) 1377 (lvL b a a' o i p q) []) : G X wid (wI E a σ ++ (wM E a' τ ++ oL E o f)) 677 (lvL b a a' o i p q) [] := by
  refine g_aload_1 C dL_law_677 rfl ?_
  refine g_aload_0 C dL_law_678 rfl ?_
  refine g_iload C dL_law_679 rfl ?_
  refine g_iconst_1 C dL_law_681 ?_
  refine g_iadd C dL_law_682 ?_
  refine g_sld C hX hi.1 dL_law_683 ?_
  refine g_aload_0 C dL_law_684 rfl ?_
  refine g_iload C dL_law_685 rfl ?_
  refine g_iconst_2 C dL_law_687 ?_
  refine g_iadd C dL_law_688 ?_
  refine g_sld C hX hi.2.1 dL_law_689 ?_
  refine g_aload_0 C dL_law_690 rfl ?_
  refine g_iload C dL_law_691 rfl ?_
  refine g_iconst_3 C dL_law_693 ?_
  refine g_iadd C dL_law_694 ?_
  refine g_sld C hX hi.2.2.1 dL_law_695 ?_
  refine g_aload_0 C dL_law_696 rfl ?_
  refine g_iload C dL_law_697 rfl ?_
  refine g_iconst_4 C dL_law_699 ?_
  refine g_iadd C dL_law_700 ?_
  refine g_sld C hX hi.2.2.2.1 dL_law_701 ?_
  refine g_callF (w := wI E a) (σ := σ) (r := wM E a' τ ++ oL E o f) C 4 (As := [.int (xs (Int32.toNatClampNeg (i + 1))), .int (xs (Int32.toNatClampNeg (i + 2))), .int (xs (Int32.toNatClampNeg (i + 3))), .int (xs (Int32.toNatClampNeg (i + 4)))]) (rest := []) (Cn := RX10) (T := TX10) (N := 8) (q0 := 0) (ci := 9) (by decide +kernel) (by decide +kernel) (by decide +kernel) (by decide +kernel) (by decide +kernel) (by decide +kernel) rfl rfl (cI_X10_sled (T_sled h)) ⟨rfl, rfl⟩ ⟨(Nat.le_of_ble_eq_true rfl), (Nat.le_of_ble_eq_true rfl)⟩ rfl rfl (Nat.le_of_ble_eq_true rfl) dL_law_702 (fun v u hu => ?_)
  refine g_rot (g_asc ?_)
  refine g_aload_2 C dL_law_705 rfl ?_
  refine g_aload_0 C dL_law_706 rfl ?_
  refine g_iload C dL_law_707 rfl ?_
  refine g_iconst_1 C dL_law_709 ?_
  refine g_iadd C dL_law_710 ?_
  refine g_sld C hX hi.1 dL_law_711 ?_
  refine g_aload_0 C dL_law_712 rfl ?_
  refine g_iload C dL_law_713 rfl ?_
  refine g_iconst_2 C dL_law_715 ?_
  refine g_iadd C dL_law_716 ?_
  refine g_sld C hX hi.2.1 dL_law_717 ?_
  refine g_aload_0 C dL_law_718 rfl ?_
  refine g_iload C dL_law_719 rfl ?_
  refine g_iconst_3 C dL_law_721 ?_
  refine g_iadd C dL_law_722 ?_
  refine g_sld C hX hi.2.2.1 dL_law_723 ?_
  refine g_aload_0 C dL_law_724 rfl ?_
  refine g_iload C dL_law_725 rfl ?_
  refine g_iconst_4 C dL_law_727 ?_
  refine g_iadd C dL_law_728 ?_
  refine g_sld C hX hi.2.2.2.1 dL_law_729 ?_
  refine g_callF (w := wM E a') (σ := τ) (r := oL E o f ++ wI E a u) C 4 (As := [.int (xs (Int32.toNatClampNeg (i + 1))), .int (xs (Int32.toNatClampNeg (i + 2))), .int (xs (Int32.toNatClampNeg (i + 3))), .int (xs (Int32.toNatClampNeg (i + 4)))]) (rest := [.int v]) (Cn := RX11) (T := TX11) (N := 42) (q0 := 0) (ci := 10) (by decide +kernel) (by decide +kernel) (by decide +kernel) (by decide +kernel) (by decide +kernel) (by decide +kernel) rfl rfl (cM_sled hu) ⟨rfl, rfl⟩ ⟨(Nat.le_of_ble_eq_true rfl), (Nat.le_of_ble_eq_true rfl)⟩ rfl rfl (Nat.le_of_ble_eq_true rfl) dL_law_730 (fun v' u' hu' => ?_)
  obtain ⟨rfl, hr⟩ := hu'
  refine g_csa (g_rot ?_)
  exact g_icmp_eq C 1377 dL_law_733 (by decide) (fun _ => k u u' hr) (fun q => absurd rfl q)

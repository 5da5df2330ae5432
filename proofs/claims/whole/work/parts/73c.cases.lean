set_option maxHeartbeats 1000000 in
theorem lc_feed {X : Kx} {l : Launch} {E : Ev} {a a' : Nat → Nat} {σ τ : St} {o b L : Nat} {f : Nat → Int64} {xs : Nat → Int32} {i : Int32} {p q : Option Value} (C : Cx X l E RL cL_law room_1 (some .boolean)) (hX : SX X b L xs) (hi : vp_in (i + 1) L ∧ vp_in (i + 2) L ∧ vp_in (i + 3) L ∧ vp_in (i + 4) L ∧ vp_in (i + 5) L) (h : Rel σ τ) (k : ∀ σ' τ' : St, Rel σ' τ' → G X wid (wI E a σ' ++ (wM E a' τ' ++ oL E o f)) 1377 (lvL b a a' o i p q) []) : G X wid (wI E a σ ++ (wM E a' τ ++ oL E o f)) 738 (lvL b a a' o i p q) [] := by
  refine g_aload_1 C dL_law_738 rfl ?_
  refine g_aload_0 C dL_law_739 rfl ?_
  refine g_iload C dL_law_740 rfl ?_
  refine g_iconst_1 C dL_law_742 ?_
  refine g_iadd C dL_law_743 ?_
  refine g_sld C hX hi.1 dL_law_744 ?_
  refine g_aload_0 C dL_law_745 rfl ?_
  refine g_iload C dL_law_746 rfl ?_
  refine g_iconst_2 C dL_law_748 ?_
  refine g_iadd C dL_law_749 ?_
  refine g_sld C hX hi.2.1 dL_law_750 ?_
  refine g_aload_0 C dL_law_751 rfl ?_
  refine g_iload C dL_law_752 rfl ?_
  refine g_iconst_3 C dL_law_754 ?_
  refine g_iadd C dL_law_755 ?_
  refine g_sld C hX hi.2.2.1 dL_law_756 ?_
  refine g_aload_0 C dL_law_757 rfl ?_
  refine g_iload C dL_law_758 rfl ?_
  refine g_iconst_4 C dL_law_760 ?_
  refine g_iadd C dL_law_761 ?_
  refine g_sld C hX hi.2.2.2.1 dL_law_762 ?_
  refine g_aload_0 C dL_law_763 rfl ?_
  refine g_iload C dL_law_764 rfl ?_
  refine g_iconst_5 C dL_law_766 ?_
  refine g_iadd C dL_law_767 ?_
  refine g_sld C hX hi.2.2.2.2 dL_law_768 ?_
  refine g_callF (w := wI E a) (σ := σ) (r := wM E a' τ ++ oL E o f) C 5 (As := [.int (xs (Int32.toNatClampNeg (i + 1))), .int (xs (Int32.toNatClampNeg (i + 2))), .int (xs (Int32.toNatClampNeg (i + 3))), .int (xs (Int32.toNatClampNeg (i + 4))), .int (xs (Int32.toNatClampNeg (i + 5)))]) (rest := []) (Cn := RX10) (T := TX10) (N := 8) (q0 := 0) (ci := 9) (by decide +kernel) (by decide +kernel) (by decide +kernel) (by decide +kernel) (by decide +kernel) (by decide +kernel) rfl rfl (cI_X10_feed (T_feed h)) ⟨rfl, rfl⟩ ⟨(Nat.le_of_ble_eq_true rfl), (Nat.le_of_ble_eq_true rfl)⟩ rfl rfl (Nat.le_of_ble_eq_true rfl) dL_law_769 (fun v u hu => ?_)
  refine g_rot (g_asc ?_)
  refine g_aload_2 C dL_law_772 rfl ?_
  refine g_aload_0 C dL_law_773 rfl ?_
  refine g_iload C dL_law_774 rfl ?_
  refine g_iconst_1 C dL_law_776 ?_
  refine g_iadd C dL_law_777 ?_
  refine g_sld C hX hi.1 dL_law_778 ?_
  refine g_aload_0 C dL_law_779 rfl ?_
  refine g_iload C dL_law_780 rfl ?_
  refine g_iconst_2 C dL_law_782 ?_
  refine g_iadd C dL_law_783 ?_
  refine g_sld C hX hi.2.1 dL_law_784 ?_
  refine g_aload_0 C dL_law_785 rfl ?_
  refine g_iload C dL_law_786 rfl ?_
  refine g_iconst_3 C dL_law_788 ?_
  refine g_iadd C dL_law_789 ?_
  refine g_sld C hX hi.2.2.1 dL_law_790 ?_
  refine g_aload_0 C dL_law_791 rfl ?_
  refine g_iload C dL_law_792 rfl ?_
  refine g_iconst_4 C dL_law_794 ?_
  refine g_iadd C dL_law_795 ?_
  refine g_sld C hX hi.2.2.2.1 dL_law_796 ?_
  refine g_aload_0 C dL_law_797 rfl ?_
  refine g_iload C dL_law_798 rfl ?_
  refine g_iconst_5 C dL_law_800 ?_
  refine g_iadd C dL_law_801 ?_
  refine g_sld C hX hi.2.2.2.2 dL_law_802 ?_
  refine g_callF (w := wM E a') (σ := τ) (r := oL E o f ++ wI E a u) C 5 (As := [.int (xs (Int32.toNatClampNeg (i + 1))), .int (xs (Int32.toNatClampNeg (i + 2))), .int (xs (Int32.toNatClampNeg (i + 3))), .int (xs (Int32.toNatClampNeg (i + 4))), .int (xs (Int32.toNatClampNeg (i + 5)))]) (rest := [.int v]) (Cn := RX11) (T := TX11) (N := 42) (q0 := 0) (ci := 10) (by decide +kernel) (by decide +kernel) (by decide +kernel) (by decide +kernel) (by decide +kernel) (by decide +kernel) rfl rfl (cM_feed hu) ⟨rfl, rfl⟩ ⟨(Nat.le_of_ble_eq_true rfl), (Nat.le_of_ble_eq_true rfl)⟩ rfl rfl (Nat.le_of_ble_eq_true rfl) dL_law_803 (fun v' u' hu' => ?_)
  obtain ⟨rfl, hr⟩ := hu'
  refine g_csa (g_rot ?_)
  exact g_icmp_eq C 1377 dL_law_806 (by decide) (fun _ => k u u' hr) (fun q => absurd rfl q)
set_option maxHeartbeats 1000000 in
theorem lc_end {X : Kx} {l : Launch} {E : Ev} {a a' : Nat → Nat} {σ τ : St} {o b L : Nat} {f : Nat → Int64} {xs : Nat → Int32} {i : Int32} {p q : Option Value} (C : Cx X l E RL cL_law room_1 (some .boolean)) (hX : SX X b L xs) (hi : vp_in (i + 1) L ∧ vp_in (i + 2) L ∧ vp_in (i + 3) L ∧ vp_in (i + 4) L ∧ vp_in (i + 5) L) (h : Rel σ τ) (k : ∀ σ' τ' : St, Rel σ' τ' → G X wid (wI E a σ' ++ (wM E a' τ' ++ oL E o f)) 1377 (lvL b a a' o i p q) []) : G X wid (wI E a σ ++ (wM E a' τ ++ oL E o f)) 811 (lvL b a a' o i p q) [] := by
  refine g_aload_1 C dL_law_811 rfl ?_
  refine g_aload_0 C dL_law_812 rfl ?_
  refine g_iload C dL_law_813 rfl ?_
  refine g_iconst_1 C dL_law_815 ?_
  refine g_iadd C dL_law_816 ?_
  refine g_sld C hX hi.1 dL_law_817 ?_
  refine g_callF (w := wI E a) (σ := σ) (r := wM E a' τ ++ oL E o f) C 1 (As := [.int (xs (Int32.toNatClampNeg (i + 1)))]) (rest := []) (Cn := RX10) (T := TX10) (N := 8) (q0 := 0) (ci := 9) (by decide +kernel) (by decide +kernel) (by decide +kernel) (by decide +kernel) (by decide +kernel) (by decide +kernel) rfl rfl (cI_X10_end (T_endR h)) ⟨rfl, rfl⟩ ⟨(Nat.le_of_ble_eq_true rfl), (Nat.le_of_ble_eq_true rfl)⟩ rfl rfl (Nat.le_of_ble_eq_true rfl) dL_law_818 (fun v u hu => ?_)
  refine g_rot (g_asc ?_)
  refine g_aload_2 C dL_law_821 rfl ?_
  refine g_aload_0 C dL_law_822 rfl ?_
  refine g_iload C dL_law_823 rfl ?_
  refine g_iconst_1 C dL_law_825 ?_
  refine g_iadd C dL_law_826 ?_
  refine g_sld C hX hi.1 dL_law_827 ?_
  refine g_callF (w := wM E a') (σ := τ) (r := oL E o f ++ wI E a u) C 1 (As := [.int (xs (Int32.toNatClampNeg (i + 1)))]) (rest := [.int v]) (Cn := RX11) (T := TX11) (N := 42) (q0 := 0) (ci := 10) (by decide +kernel) (by decide +kernel) (by decide +kernel) (by decide +kernel) (by decide +kernel) (by decide +kernel) rfl rfl (cM_end hu) ⟨rfl, rfl⟩ ⟨(Nat.le_of_ble_eq_true rfl), (Nat.le_of_ble_eq_true rfl)⟩ rfl rfl (Nat.le_of_ble_eq_true rfl) dL_law_828 (fun v' u' hu' => ?_)
  obtain ⟨rfl, hr⟩ := hu'
  refine g_csa (g_rot ?_)
  exact g_icmp_eq C 1377 dL_law_831 (by decide) (fun _ => k u u' hr) (fun q => absurd rfl q)
set_option maxHeartbeats 1000000 in
theorem lc_laws {X : Kx} {l : Launch} {E : Ev} {a a' : Nat → Nat} {σ τ : St} {o b L : Nat} {f : Nat → Int64} {xs : Nat → Int32} {i : Int32} {p q : Option Value} (C : Cx X l E RL cL_law room_1 (some .boolean)) (hX : SX X b L xs) (hi : vp_in (i + 1) L ∧ vp_in (i + 2) L ∧ vp_in (i + 3) L ∧ vp_in (i + 4) L ∧ vp_in (i + 5) L) (h : Rel σ τ) (k : ∀ σ' τ' : St, Rel σ' τ' → G X wid (wI E a σ' ++ (wM E a' τ' ++ oL E o f)) 1377 (lvL b a a' o i p q) []) : G X wid (wI E a σ ++ (wM E a' τ ++ oL E o f)) 836 (lvL b a a' o i p q) [] := by
  refine g_aload_1 C dL_law_836 rfl ?_
  refine g_callF (w := wI E a) (σ := σ) (r := wM E a' τ ++ oL E o f) C 0 (As := []) (rest := []) (Cn := RX10) (T := TX10) (N := 8) (q0 := 0) (ci := 9) (by decide +kernel) (by decide +kernel) (by decide +kernel) (by decide +kernel) (by decide +kernel) (by decide +kernel) rfl rfl (cI_X10_laws (T_laws h)) ⟨rfl, rfl⟩ ⟨(Nat.le_of_ble_eq_true rfl), (Nat.le_of_ble_eq_true rfl)⟩ rfl rfl (Nat.le_of_ble_eq_true rfl) dL_law_837 (fun v u hu => ?_)
  refine g_rot (g_asc ?_)
  refine g_aload_2 C dL_law_840 rfl ?_
  refine g_callF (w := wM E a') (σ := τ) (r := oL E o f ++ wI E a u) C 0 (As := []) (rest := [.int v]) (Cn := RX11) (T := TX11) (N := 42) (q0 := 0) (ci := 10) (by decide +kernel) (by decide +kernel) (by decide +kernel) (by decide +kernel) (by decide +kernel) (by decide +kernel) rfl rfl (cM_laws hu) ⟨rfl, rfl⟩ ⟨(Nat.le_of_ble_eq_true rfl), (Nat.le_of_ble_eq_true rfl)⟩ rfl rfl (Nat.le_of_ble_eq_true rfl) dL_law_841 (fun v' u' hu' => ?_)
  obtain ⟨rfl, hr⟩ := hu'
  refine g_csa (g_rot ?_)
  exact g_icmp_eq C 1377 dL_law_844 (by decide) (fun _ => k u u' hr) (fun q => absurd rfl q)
set_option maxHeartbeats 1000000 in
theorem lc_place {X : Kx} {l : Launch} {E : Ev} {a a' : Nat → Nat} {σ τ : St} {o b L : Nat} {f : Nat → Int64} {xs : Nat → Int32} {i : Int32} {p q : Option Value} (C : Cx X l E RL cL_law room_1 (some .boolean)) (hX : SX X b L xs) (hi : vp_in (i + 1) L ∧ vp_in (i + 2) L ∧ vp_in (i + 3) L ∧ vp_in (i + 4) L ∧ vp_in (i + 5) L) (h : Rel σ τ) (k : ∀ σ' τ' : St, Rel σ' τ' → G X wid (wI E a σ' ++ (wM E a' τ' ++ oL E o f)) 1377 (lvL b a a' o i p q) []) : G X wid (wI E a σ ++ (wM E a' τ ++ oL E o f)) 849 (lvL b a a' o i p q) [] := by
  refine g_aload_1 C dL_law_849 rfl ?_
  refine g_callF (w := wI E a) (σ := σ) (r := wM E a' τ ++ oL E o f) C 0 (As := []) (rest := []) (Cn := RX10) (T := TX10) (N := 8) (q0 := 0) (ci := 9) (by decide +kernel) (by decide +kernel) (by decide +kernel) (by decide +kernel) (by decide +kernel) (by decide +kernel) rfl rfl (cI_X10_place (T_placeR h)) ⟨rfl, rfl⟩ ⟨(Nat.le_of_ble_eq_true rfl), (Nat.le_of_ble_eq_true rfl)⟩ rfl rfl (Nat.le_of_ble_eq_true rfl) dL_law_850 (fun v u hu => ?_)
  refine g_rot (g_asc ?_)
  refine g_aload_2 C dL_law_853 rfl ?_
  refine g_callF (w := wM E a') (σ := τ) (r := oL E o f ++ wI E a u) C 0 (As := []) (rest := [.int v]) (Cn := RX11) (T := TX11) (N := 42) (q0 := 0) (ci := 10) (by decide +kernel) (by decide +kernel) (by decide +kernel) (by decide +kernel) (by decide +kernel) (by decide +kernel) rfl rfl (cM_place hu) ⟨rfl, rfl⟩ ⟨(Nat.le_of_ble_eq_true rfl), (Nat.le_of_ble_eq_true rfl)⟩ rfl rfl (Nat.le_of_ble_eq_true rfl) dL_law_854 (fun v' u' hu' => ?_)
  obtain ⟨rfl, hr⟩ := hu'
  refine g_csa (g_rot ?_)
  exact g_icmp_eq C 1377 dL_law_857 (by decide) (fun _ => k u u' hr) (fun q => absurd rfl q)
set_option maxHeartbeats 1000000 in
theorem lc_law {X : Kx} {l : Launch} {E : Ev} {a a' : Nat → Nat} {σ τ : St} {o b L : Nat} {f : Nat → Int64} {xs : Nat → Int32} {i : Int32} {p q : Option Value} (C : Cx X l E RL cL_law room_1 (some .boolean)) (hX : SX X b L xs) (hi : vp_in (i + 1) L ∧ vp_in (i + 2) L ∧ vp_in (i + 3) L ∧ vp_in (i + 4) L ∧ vp_in (i + 5) L) (h : Rel σ τ) (k : ∀ σ' τ' : St, Rel σ' τ' → G X wid (wI E a σ' ++ (wM E a' τ' ++ oL E o f)) 1377 (lvL b a a' o i p q) []) : G X wid (wI E a σ ++ (wM E a' τ ++ oL E o f)) 862 (lvL b a a' o i p q) [] := by
  refine g_aload_1 C dL_law_862 rfl ?_
  refine g_aload_0 C dL_law_863 rfl ?_
  refine g_iload C dL_law_864 rfl ?_
  refine g_iconst_1 C dL_law_866 ?_
  refine g_iadd C dL_law_867 ?_
  refine g_sld C hX hi.1 dL_law_868 ?_
  refine g_callF (w := wI E a) (σ := σ) (r := wM E a' τ ++ oL E o f) C 1 (As := [.int (xs (Int32.toNatClampNeg (i + 1)))]) (rest := []) (Cn := RX10) (T := TX10) (N := 8) (q0 := 0) (ci := 9) (by decide +kernel) (by decide +kernel) (by decide +kernel) (by decide +kernel) (by decide +kernel) (by decide +kernel) rfl rfl (cI_X10_law (T_lawR h)) ⟨rfl, rfl⟩ ⟨(Nat.le_of_ble_eq_true rfl), (Nat.le_of_ble_eq_true rfl)⟩ rfl rfl (Nat.le_of_ble_eq_true rfl) dL_law_869 (fun v u hu => ?_)
  refine g_rot (g_asc ?_)
  refine g_aload_2 C dL_law_872 rfl ?_
  refine g_aload_0 C dL_law_873 rfl ?_
  refine g_iload C dL_law_874 rfl ?_
  refine g_iconst_1 C dL_law_876 ?_
  refine g_iadd C dL_law_877 ?_
  refine g_sld C hX hi.1 dL_law_878 ?_
  refine g_callF (w := wM E a') (σ := τ) (r := oL E o f ++ wI E a u) C 1 (As := [.int (xs (Int32.toNatClampNeg (i + 1)))]) (rest := [.int v]) (Cn := RX11) (T := TX11) (N := 42) (q0 := 0) (ci := 10) (by decide +kernel) (by decide +kernel) (by decide +kernel) (by decide +kernel) (by decide +kernel) (by decide +kernel) rfl rfl (cM_law hu) ⟨rfl, rfl⟩ ⟨(Nat.le_of_ble_eq_true rfl), (Nat.le_of_ble_eq_true rfl)⟩ rfl rfl (Nat.le_of_ble_eq_true rfl) dL_law_879 (fun v' u' hu' => ?_)
  obtain ⟨rfl, hr⟩ := hu'
  refine g_csa (g_rot ?_)
  exact g_icmp_eq C 1377 dL_law_882 (by decide) (fun _ => k u u' hr) (fun q => absurd rfl q)

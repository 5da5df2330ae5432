set_option maxHeartbeats 1000000 in
theorem lc_race {X : Kx} {l : Launch} {E : Ev} {a a' : Nat → Nat} {σ τ : St} {o b L : Nat} {f : Nat → Int64} {xs : Nat → Int32} {i : Int32} {p q : Option Value} (C : Cx X l E RL cL_law room_1 (some .boolean)) (hX : SX X b L xs) (hi : vp_in (i + 1) L ∧ vp_in (i + 2) L ∧ vp_in (i + 3) L ∧ vp_in (i + 4) L ∧ vp_in (i + 5) L) (h : Rel σ τ) (k : ∀ σ' τ' : St, Rel σ' τ' → G X wid (wI E a σ' ++ (wM E a' τ' ++ oL E o f)) 1377 (lvL b a a' o i p q) []) : G X wid (wI E a σ ++ (wM E a' τ ++ oL E o f)) 887 (lvL b a a' o i p q) [] := by
  refine g_aload_1 C dL_law_887 rfl ?_
  refine g_callF (w := wI E a) (σ := σ) (r := wM E a' τ ++ oL E o f) C 0 (As := []) (rest := []) (Cn := RX10) (T := TX10) (N := 8) (q0 := 0) (ci := 9) (by decide +kernel) (by decide +kernel) (by decide +kernel) (by decide +kernel) (by decide +kernel) (by decide +kernel) rfl rfl (cI_X10_race (T_race h)) ⟨rfl, rfl⟩ ⟨(Nat.le_of_ble_eq_true rfl), (Nat.le_of_ble_eq_true rfl)⟩ rfl rfl (Nat.le_of_ble_eq_true rfl) dL_law_888 (fun v u hu => ?_)
  refine g_rot (g_asc ?_)
  refine g_aload_2 C dL_law_891 rfl ?_
  refine g_callF (w := wM E a') (σ := τ) (r := oL E o f ++ wI E a u) C 0 (As := []) (rest := [.int v]) (Cn := RX11) (T := TX11) (N := 42) (q0 := 0) (ci := 10) (by decide +kernel) (by decide +kernel) (by decide +kernel) (by decide +kernel) (by decide +kernel) (by decide +kernel) rfl rfl (cM_race hu) ⟨rfl, rfl⟩ ⟨(Nat.le_of_ble_eq_true rfl), (Nat.le_of_ble_eq_true rfl)⟩ rfl rfl (Nat.le_of_ble_eq_true rfl) dL_law_892 (fun v' u' hu' => ?_)
  obtain ⟨rfl, hr⟩ := hu'
  refine g_csa (g_rot ?_)
  exact g_icmp_eq C 1377 dL_law_895 (by decide) (fun _ => k u u' hr) (fun q => absurd rfl q)
set_option maxHeartbeats 1000000 in
theorem lc_begin {X : Kx} {l : Launch} {E : Ev} {a a' : Nat → Nat} {σ τ : St} {o b L : Nat} {f : Nat → Int64} {xs : Nat → Int32} {i : Int32} {p q : Option Value} (C : Cx X l E RL cL_law room_1 (some .boolean)) (hX : SX X b L xs) (hi : vp_in (i + 1) L ∧ vp_in (i + 2) L ∧ vp_in (i + 3) L ∧ vp_in (i + 4) L ∧ vp_in (i + 5) L) (h : Rel σ τ) (k : ∀ σ' τ' : St, Rel σ' τ' → G X wid (wI E a σ' ++ (wM E a' τ' ++ oL E o f)) 1377 (lvL b a a' o i p q) []) : G X wid (wI E a σ ++ (wM E a' τ ++ oL E o f)) 900 (lvL b a a' o i p q) [] := by
  refine g_aload_1 C dL_law_900 rfl ?_
  refine g_aload_0 C dL_law_901 rfl ?_
  refine g_iload C dL_law_902 rfl ?_
  refine g_iconst_1 C dL_law_904 ?_
  refine g_iadd C dL_law_905 ?_
  refine g_sld C hX hi.1 dL_law_906 ?_
  refine g_callF (w := wI E a) (σ := σ) (r := wM E a' τ ++ oL E o f) C 1 (As := [.int (xs (Int32.toNatClampNeg (i + 1)))]) (rest := []) (Cn := RX10) (T := TX10) (N := 8) (q0 := 0) (ci := 9) (by decide +kernel) (by decide +kernel) (by decide +kernel) (by decide +kernel) (by decide +kernel) (by decide +kernel) rfl rfl (cI_X10_begin (T_begin h)) ⟨rfl, rfl⟩ ⟨(Nat.le_of_ble_eq_true rfl), (Nat.le_of_ble_eq_true rfl)⟩ rfl rfl (Nat.le_of_ble_eq_true rfl) dL_law_907 (fun v u hu => ?_)
  refine g_rot (g_asc ?_)
  refine g_aload_2 C dL_law_910 rfl ?_
  refine g_aload_0 C dL_law_911 rfl ?_
  refine g_iload C dL_law_912 rfl ?_
  refine g_iconst_1 C dL_law_914 ?_
  refine g_iadd C dL_law_915 ?_
  refine g_sld C hX hi.1 dL_law_916 ?_
  refine g_callF (w := wM E a') (σ := τ) (r := oL E o f ++ wI E a u) C 1 (As := [.int (xs (Int32.toNatClampNeg (i + 1)))]) (rest := [.int v]) (Cn := RX11) (T := TX11) (N := 42) (q0 := 0) (ci := 10) (by decide +kernel) (by decide +kernel) (by decide +kernel) (by decide +kernel) (by decide +kernel) (by decide +kernel) rfl rfl (cM_begin hu) ⟨rfl, rfl⟩ ⟨(Nat.le_of_ble_eq_true rfl), (Nat.le_of_ble_eq_true rfl)⟩ rfl rfl (Nat.le_of_ble_eq_true rfl) dL_law_917 (fun v' u' hu' => ?_)
  obtain ⟨rfl, hr⟩ := hu'
  refine g_csa (g_rot ?_)
  exact g_icmp_eq C 1377 dL_law_920 (by decide) (fun _ => k u u' hr) (fun q => absurd rfl q)
set_option maxHeartbeats 1000000 in
theorem lc_order {X : Kx} {l : Launch} {E : Ev} {a a' : Nat → Nat} {σ τ : St} {o b L : Nat} {f : Nat → Int64} {xs : Nat → Int32} {i : Int32} {p q : Option Value} (C : Cx X l E RL cL_law room_1 (some .boolean)) (hX : SX X b L xs) (hi : vp_in (i + 1) L ∧ vp_in (i + 2) L ∧ vp_in (i + 3) L ∧ vp_in (i + 4) L ∧ vp_in (i + 5) L) (h : Rel σ τ) (k : ∀ σ' τ' : St, Rel σ' τ' → G X wid (wI E a σ' ++ (wM E a' τ' ++ oL E o f)) 1377 (lvL b a a' o i p q) []) : G X wid (wI E a σ ++ (wM E a' τ ++ oL E o f)) 925 (lvL b a a' o i p q) [] := by
  refine g_aload_1 C dL_law_925 rfl ?_
  refine g_aload_0 C dL_law_926 rfl ?_
  refine g_iload C dL_law_927 rfl ?_
  refine g_iconst_1 C dL_law_929 ?_
  refine g_iadd C dL_law_930 ?_
  refine g_sld C hX hi.1 dL_law_931 ?_
  refine g_callF (w := wI E a) (σ := σ) (r := wM E a' τ ++ oL E o f) C 1 (As := [.int (xs (Int32.toNatClampNeg (i + 1)))]) (rest := []) (Cn := RX10) (T := TX10) (N := 8) (q0 := 0) (ci := 9) (by decide +kernel) (by decide +kernel) (by decide +kernel) (by decide +kernel) (by decide +kernel) (by decide +kernel) rfl rfl (cI_X10_order (T_order h)) ⟨rfl, rfl⟩ ⟨(Nat.le_of_ble_eq_true rfl), (Nat.le_of_ble_eq_true rfl)⟩ rfl rfl (Nat.le_of_ble_eq_true rfl) dL_law_932 (fun v u hu => ?_)
  refine g_rot (g_asc ?_)
  refine g_aload_2 C dL_law_935 rfl ?_
  refine g_aload_0 C dL_law_936 rfl ?_
  refine g_iload C dL_law_937 rfl ?_
  refine g_iconst_1 C dL_law_939 ?_
  refine g_iadd C dL_law_940 ?_
  refine g_sld C hX hi.1 dL_law_941 ?_
  refine g_callF (w := wM E a') (σ := τ) (r := oL E o f ++ wI E a u) C 1 (As := [.int (xs (Int32.toNatClampNeg (i + 1)))]) (rest := [.int v]) (Cn := RX11) (T := TX11) (N := 42) (q0 := 0) (ci := 10) (by decide +kernel) (by decide +kernel) (by decide +kernel) (by decide +kernel) (by decide +kernel) (by decide +kernel) rfl rfl (cM_order hu) ⟨rfl, rfl⟩ ⟨(Nat.le_of_ble_eq_true rfl), (Nat.le_of_ble_eq_true rfl)⟩ rfl rfl (Nat.le_of_ble_eq_true rfl) dL_law_942 (fun v' u' hu' => ?_)
  obtain ⟨rfl, hr⟩ := hu'
  refine g_csa (g_rot ?_)
  exact g_icmp_eq C 1377 dL_law_945 (by decide) (fun _ => k u u' hr) (fun q => absurd rfl q)
set_option maxHeartbeats 1000000 in
theorem lc_start {X : Kx} {l : Launch} {E : Ev} {a a' : Nat → Nat} {σ τ : St} {o b L : Nat} {f : Nat → Int64} {xs : Nat → Int32} {i : Int32} {p q : Option Value} (C : Cx X l E RL cL_law room_1 (some .boolean)) (hX : SX X b L xs) (hi : vp_in (i + 1) L ∧ vp_in (i + 2) L ∧ vp_in (i + 3) L ∧ vp_in (i + 4) L ∧ vp_in (i + 5) L) (h : Rel σ τ) (k : ∀ σ' τ' : St, Rel σ' τ' → G X wid (wI E a σ' ++ (wM E a' τ' ++ oL E o f)) 1377 (lvL b a a' o i p q) []) : G X wid (wI E a σ ++ (wM E a' τ ++ oL E o f)) 950 (lvL b a a' o i p q) [] := by
  refine g_aload_1 C dL_law_950 rfl ?_
  refine g_callF (w := wI E a) (σ := σ) (r := wM E a' τ ++ oL E o f) C 0 (As := []) (rest := []) (Cn := RX10) (T := TX10) (N := 8) (q0 := 0) (ci := 9) (by decide +kernel) (by decide +kernel) (by decide +kernel) (by decide +kernel) (by decide +kernel) (by decide +kernel) rfl rfl (cI_X10_start (T_start h)) ⟨rfl, rfl⟩ ⟨(Nat.le_of_ble_eq_true rfl), (Nat.le_of_ble_eq_true rfl)⟩ rfl rfl (Nat.le_of_ble_eq_true rfl) dL_law_951 (fun v u hu => ?_)
  refine g_rot (g_asc ?_)
  refine g_aload_2 C dL_law_954 rfl ?_
  refine g_callF (w := wM E a') (σ := τ) (r := oL E o f ++ wI E a u) C 0 (As := []) (rest := [.int v]) (Cn := RX11) (T := TX11) (N := 42) (q0 := 0) (ci := 10) (by decide +kernel) (by decide +kernel) (by decide +kernel) (by decide +kernel) (by decide +kernel) (by decide +kernel) rfl rfl (cM_start hu) ⟨rfl, rfl⟩ ⟨(Nat.le_of_ble_eq_true rfl), (Nat.le_of_ble_eq_true rfl)⟩ rfl rfl (Nat.le_of_ble_eq_true rfl) dL_law_955 (fun v' u' hu' => ?_)
  obtain ⟨rfl, hr⟩ := hu'
  refine g_csa (g_rot ?_)
  exact g_icmp_eq C 1377 dL_law_958 (by decide) (fun _ => k u u' hr) (fun q => absurd rfl q)
set_option maxHeartbeats 1000000 in
theorem lc_shut {X : Kx} {l : Launch} {E : Ev} {a a' : Nat → Nat} {σ τ : St} {o b L : Nat} {f : Nat → Int64} {xs : Nat → Int32} {i : Int32} {p q : Option Value} (C : Cx X l E RL cL_law room_1 (some .boolean)) (hX : SX X b L xs) (hi : vp_in (i + 1) L ∧ vp_in (i + 2) L ∧ vp_in (i + 3) L ∧ vp_in (i + 4) L ∧ vp_in (i + 5) L) (h : Rel σ τ) (k : ∀ σ' τ' : St, Rel σ' τ' → G X wid (wI E a σ' ++ (wM E a' τ' ++ oL E o f)) 1377 (lvL b a a' o i p q) []) : G X wid (wI E a σ ++ (wM E a' τ ++ oL E o f)) 963 (lvL b a a' o i p q) [] := by
  refine g_aload_1 C dL_law_963 rfl ?_
  refine g_callF (w := wI E a) (σ := σ) (r := wM E a' τ ++ oL E o f) C 0 (As := []) (rest := []) (Cn := RX10) (T := TX10) (N := 8) (q0 := 0) (ci := 9) (by decide +kernel) (by decide +kernel) (by decide +kernel) (by decide +kernel) (by decide +kernel) (by decide +kernel) rfl rfl (cI_X10_shut (T_shut h)) ⟨rfl, rfl⟩ ⟨(Nat.le_of_ble_eq_true rfl), (Nat.le_of_ble_eq_true rfl)⟩ rfl rfl (Nat.le_of_ble_eq_true rfl) dL_law_964 (fun v u hu => ?_)
  refine g_rot (g_asc ?_)
  refine g_aload_2 C dL_law_967 rfl ?_
  refine g_callF (w := wM E a') (σ := τ) (r := oL E o f ++ wI E a u) C 0 (As := []) (rest := [.int v]) (Cn := RX11) (T := TX11) (N := 42) (q0 := 0) (ci := 10) (by decide +kernel) (by decide +kernel) (by decide +kernel) (by decide +kernel) (by decide +kernel) (by decide +kernel) rfl rfl (cM_shut hu) ⟨rfl, rfl⟩ ⟨(Nat.le_of_ble_eq_true rfl), (Nat.le_of_ble_eq_true rfl)⟩ rfl rfl (Nat.le_of_ble_eq_true rfl) dL_law_968 (fun v' u' hu' => ?_)
  obtain ⟨rfl, hr⟩ := hu'
  refine g_csa (g_rot ?_)
  exact g_icmp_eq C 1377 dL_law_971 (by decide) (fun _ => k u u' hr) (fun q => absurd rfl q)

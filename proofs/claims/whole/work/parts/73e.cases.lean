set_option maxHeartbeats 1000000 in
theorem lc_touch {X : Kx} {l : Launch} {E : Ev} {a a' : Nat → Nat} {σ τ : St} {o b L : Nat} {f : Nat → Int64} {xs : Nat → Int32} {i : Int32} {p q : Option Value} (C : Cx X l E RL cL_law room_1 (some .boolean)) (hX : SX X b L xs) (hi : vp_in (i + 1) L ∧ vp_in (i + 2) L ∧ vp_in (i + 3) L ∧ vp_in (i + 4) L ∧ vp_in (i + 5) L) (h : Rel σ τ) (k : ∀ σ' τ' : St, Rel σ' τ' → G X wid (wI E a σ' ++ (wM E a' τ' ++ oL E o f)) 1377 (lvL b a a' o i p q) []) : G X wid (wI E a σ ++ (wM E a' τ ++ oL E o f)) 976 (lvL b a a' o i p q) [] := by
  refine g_aload_1 C dL_law_976 rfl ?_
  refine g_aload_0 C dL_law_977 rfl ?_
  refine g_iload C dL_law_978 rfl ?_
  refine g_iconst_1 C dL_law_980 ?_
  refine g_iadd C dL_law_981 ?_
  refine g_sld C hX hi.1 dL_law_982 ?_
  refine g_aload_0 C dL_law_983 rfl ?_
  refine g_iload C dL_law_984 rfl ?_
  refine g_iconst_2 C dL_law_986 ?_
  refine g_iadd C dL_law_987 ?_
  refine g_sld C hX hi.2.1 dL_law_988 ?_
  refine g_callF (w := wI E a) (σ := σ) (r := wM E a' τ ++ oL E o f) C 2 (As := [.int (xs (Int32.toNatClampNeg (i + 1))), .int (xs (Int32.toNatClampNeg (i + 2)))]) (rest := []) (Cn := RX10) (T := TX10) (N := 8) (q0 := 0) (ci := 9) (by decide +kernel) (by decide +kernel) (by decide +kernel) (by decide +kernel) (by decide +kernel) (by decide +kernel) rfl rfl (cI_X10_touch (T_touch h)) ⟨rfl, rfl⟩ ⟨(Nat.le_of_ble_eq_true rfl), (Nat.le_of_ble_eq_true rfl)⟩ rfl rfl (Nat.le_of_ble_eq_true rfl) dL_law_989 (fun v u hu => ?_)
  refine g_rot (g_asc ?_)
  refine g_aload_2 C dL_law_992 rfl ?_
  refine g_aload_0 C dL_law_993 rfl ?_
  refine g_iload C dL_law_994 rfl ?_
  refine g_iconst_1 C dL_law_996 ?_
  refine g_iadd C dL_law_997 ?_
  refine g_sld C hX hi.1 dL_law_998 ?_
  refine g_aload_0 C dL_law_999 rfl ?_
  refine g_iload C dL_law_1000 rfl ?_
  refine g_iconst_2 C dL_law_1002 ?_
  refine g_iadd C dL_law_1003 ?_
  refine g_sld C hX hi.2.1 dL_law_1004 ?_
  refine g_callF (w := wM E a') (σ := τ) (r := oL E o f ++ wI E a u) C 2 (As := [.int (xs (Int32.toNatClampNeg (i + 1))), .int (xs (Int32.toNatClampNeg (i + 2)))]) (rest := [.int v]) (Cn := RX11) (T := TX11) (N := 42) (q0 := 0) (ci := 10) (by decide +kernel) (by decide +kernel) (by decide +kernel) (by decide +kernel) (by decide +kernel) (by decide +kernel) rfl rfl (cM_touch hu) ⟨rfl, rfl⟩ ⟨(Nat.le_of_ble_eq_true rfl), (Nat.le_of_ble_eq_true rfl)⟩ rfl rfl (Nat.le_of_ble_eq_true rfl) dL_law_1005 (fun v' u' hu' => ?_)
  obtain ⟨rfl, hr⟩ := hu'
  refine g_csa (g_rot ?_)
  exact g_icmp_eq C 1377 dL_law_1008 (by decide) (fun _ => k u u' hr) (fun q => absurd rfl q)
set_option maxHeartbeats 1000000 in
theorem lc_time {X : Kx} {l : Launch} {E : Ev} {a a' : Nat → Nat} {σ τ : St} {o b L : Nat} {f : Nat → Int64} {xs : Nat → Int32} {i : Int32} {p q : Option Value} (C : Cx X l E RL cL_law room_1 (some .boolean)) (hX : SX X b L xs) (hi : vp_in (i + 1) L ∧ vp_in (i + 2) L ∧ vp_in (i + 3) L ∧ vp_in (i + 4) L ∧ vp_in (i + 5) L) (h : Rel σ τ) (k : ∀ σ' τ' : St, Rel σ' τ' → G X wid (wI E a σ' ++ (wM E a' τ' ++ oL E o f)) 1377 (lvL b a a' o i p q) []) : G X wid (wI E a σ ++ (wM E a' τ ++ oL E o f)) 1013 (lvL b a a' o i p q) [] := by
  refine g_aload_1 C dL_law_1013 rfl ?_
  refine g_aload_0 C dL_law_1014 rfl ?_
  refine g_iload C dL_law_1015 rfl ?_
  refine g_iconst_1 C dL_law_1017 ?_
  refine g_iadd C dL_law_1018 ?_
  refine g_sld C hX hi.1 dL_law_1019 ?_
  refine g_aload_0 C dL_law_1020 rfl ?_
  refine g_iload C dL_law_1021 rfl ?_
  refine g_iconst_2 C dL_law_1023 ?_
  refine g_iadd C dL_law_1024 ?_
  refine g_sld C hX hi.2.1 dL_law_1025 ?_
  refine g_aload_0 C dL_law_1026 rfl ?_
  refine g_iload C dL_law_1027 rfl ?_
  refine g_iconst_3 C dL_law_1029 ?_
  refine g_iadd C dL_law_1030 ?_
  refine g_sld C hX hi.2.2.1 dL_law_1031 ?_
  refine g_callF (w := wI E a) (σ := σ) (r := wM E a' τ ++ oL E o f) C 3 (As := [.int (xs (Int32.toNatClampNeg (i + 1))), .int (xs (Int32.toNatClampNeg (i + 2))), .int (xs (Int32.toNatClampNeg (i + 3)))]) (rest := []) (Cn := RX10) (T := TX10) (N := 8) (q0 := 0) (ci := 9) (by decide +kernel) (by decide +kernel) (by decide +kernel) (by decide +kernel) (by decide +kernel) (by decide +kernel) rfl rfl (cI_X10_time (T_time h)) ⟨rfl, rfl⟩ ⟨(Nat.le_of_ble_eq_true rfl), (Nat.le_of_ble_eq_true rfl)⟩ rfl rfl (Nat.le_of_ble_eq_true rfl) dL_law_1032 (fun v u hu => ?_)
  refine g_rot (g_asc ?_)
  refine g_aload_2 C dL_law_1035 rfl ?_
  refine g_aload_0 C dL_law_1036 rfl ?_
  refine g_iload C dL_law_1037 rfl ?_
  refine g_iconst_1 C dL_law_1039 ?_
  refine g_iadd C dL_law_1040 ?_
  refine g_sld C hX hi.1 dL_law_1041 ?_
  refine g_aload_0 C dL_law_1042 rfl ?_
  refine g_iload C dL_law_1043 rfl ?_
  refine g_iconst_2 C dL_law_1045 ?_
  refine g_iadd C dL_law_1046 ?_
  refine g_sld C hX hi.2.1 dL_law_1047 ?_
  refine g_aload_0 C dL_law_1048 rfl ?_
  refine g_iload C dL_law_1049 rfl ?_
  refine g_iconst_3 C dL_law_1051 ?_
  refine g_iadd C dL_law_1052 ?_
  refine g_sld C hX hi.2.2.1 dL_law_1053 ?_
  refine g_callF (w := wM E a') (σ := τ) (r := oL E o f ++ wI E a u) C 3 (As := [.int (xs (Int32.toNatClampNeg (i + 1))), .int (xs (Int32.toNatClampNeg (i + 2))), .int (xs (Int32.toNatClampNeg (i + 3)))]) (rest := [.int v]) (Cn := RX11) (T := TX11) (N := 42) (q0 := 0) (ci := 10) (by decide +kernel) (by decide +kernel) (by decide +kernel) (by decide +kernel) (by decide +kernel) (by decide +kernel) rfl rfl (cM_time hu) ⟨rfl, rfl⟩ ⟨(Nat.le_of_ble_eq_true rfl), (Nat.le_of_ble_eq_true rfl)⟩ rfl rfl (Nat.le_of_ble_eq_true rfl) dL_law_1054 (fun v' u' hu' => ?_)
  obtain ⟨rfl, hr⟩ := hu'
  refine g_csa (g_rot ?_)
  exact g_icmp_eq C 1377 dL_law_1057 (by decide) (fun _ => k u u' hr) (fun q => absurd rfl q)
set_option maxHeartbeats 1000000 in
theorem lc_twice {X : Kx} {l : Launch} {E : Ev} {a a' : Nat → Nat} {σ τ : St} {o b L : Nat} {f : Nat → Int64} {xs : Nat → Int32} {i : Int32} {p q : Option Value} (C : Cx X l E RL cL_law room_1 (some .boolean)) (hX : SX X b L xs) (hi : vp_in (i + 1) L ∧ vp_in (i + 2) L ∧ vp_in (i + 3) L ∧ vp_in (i + 4) L ∧ vp_in (i + 5) L) (h : Rel σ τ) (k : ∀ σ' τ' : St, Rel σ' τ' → G X wid (wI E a σ' ++ (wM E a' τ' ++ oL E o f)) 1377 (lvL b a a' o i p q) []) : G X wid (wI E a σ ++ (wM E a' τ ++ oL E o f)) 1062 (lvL b a a' o i p q) [] := by
  refine g_aload_1 C dL_law_1062 rfl ?_
  refine g_aload_0 C dL_law_1063 rfl ?_
  refine g_iload C dL_law_1064 rfl ?_
  refine g_iconst_1 C dL_law_1066 ?_
  refine g_iadd C dL_law_1067 ?_
  refine g_sld C hX hi.1 dL_law_1068 ?_
  refine g_aload_0 C dL_law_1069 rfl ?_
  refine g_iload C dL_law_1070 rfl ?_
  refine g_iconst_2 C dL_law_1072 ?_
  refine g_iadd C dL_law_1073 ?_
  refine g_sld C hX hi.2.1 dL_law_1074 ?_
  refine g_aload_0 C dL_law_1075 rfl ?_
  refine g_iload C dL_law_1076 rfl ?_
  refine g_iconst_3 C dL_law_1078 ?_
  refine g_iadd C dL_law_1079 ?_
  refine g_sld C hX hi.2.2.1 dL_law_1080 ?_
  refine g_callF (w := wI E a) (σ := σ) (r := wM E a' τ ++ oL E o f) C 3 (As := [.int (xs (Int32.toNatClampNeg (i + 1))), .int (xs (Int32.toNatClampNeg (i + 2))), .int (xs (Int32.toNatClampNeg (i + 3)))]) (rest := []) (Cn := RX10) (T := TX10) (N := 8) (q0 := 0) (ci := 9) (by decide +kernel) (by decide +kernel) (by decide +kernel) (by decide +kernel) (by decide +kernel) (by decide +kernel) rfl rfl (cI_X10_twice (T_twice h)) ⟨rfl, rfl⟩ ⟨(Nat.le_of_ble_eq_true rfl), (Nat.le_of_ble_eq_true rfl)⟩ rfl rfl (Nat.le_of_ble_eq_true rfl) dL_law_1081 (fun v u hu => ?_)
  refine g_rot (g_asc ?_)
  refine g_aload_2 C dL_law_1084 rfl ?_
  refine g_aload_0 C dL_law_1085 rfl ?_
  refine g_iload C dL_law_1086 rfl ?_
  refine g_iconst_1 C dL_law_1088 ?_
  refine g_iadd C dL_law_1089 ?_
  refine g_sld C hX hi.1 dL_law_1090 ?_
  refine g_aload_0 C dL_law_1091 rfl ?_
  refine g_iload C dL_law_1092 rfl ?_
  refine g_iconst_2 C dL_law_1094 ?_
  refine g_iadd C dL_law_1095 ?_
  refine g_sld C hX hi.2.1 dL_law_1096 ?_
  refine g_aload_0 C dL_law_1097 rfl ?_
  refine g_iload C dL_law_1098 rfl ?_
  refine g_iconst_3 C dL_law_1100 ?_
  refine g_iadd C dL_law_1101 ?_
  refine g_sld C hX hi.2.2.1 dL_law_1102 ?_
  refine g_callF (w := wM E a') (σ := τ) (r := oL E o f ++ wI E a u) C 3 (As := [.int (xs (Int32.toNatClampNeg (i + 1))), .int (xs (Int32.toNatClampNeg (i + 2))), .int (xs (Int32.toNatClampNeg (i + 3)))]) (rest := [.int v]) (Cn := RX11) (T := TX11) (N := 42) (q0 := 0) (ci := 10) (by decide +kernel) (by decide +kernel) (by decide +kernel) (by decide +kernel) (by decide +kernel) (by decide +kernel) rfl rfl (cM_twice hu) ⟨rfl, rfl⟩ ⟨(Nat.le_of_ble_eq_true rfl), (Nat.le_of_ble_eq_true rfl)⟩ rfl rfl (Nat.le_of_ble_eq_true rfl) dL_law_1103 (fun v' u' hu' => ?_)
  obtain ⟨rfl, hr⟩ := hu'
  refine g_csa (g_rot ?_)
  exact g_icmp_eq C 1377 dL_law_1106 (by decide) (fun _ => k u u' hr) (fun q => absurd rfl q)
set_option maxHeartbeats 1000000 in
theorem lc_sum {X : Kx} {l : Launch} {E : Ev} {a a' : Nat → Nat} {σ τ : St} {o b L : Nat} {f : Nat → Int64} {xs : Nat → Int32} {i : Int32} {p q : Option Value} (C : Cx X l E RL cL_law room_1 (some .boolean)) (hX : SX X b L xs) (hi : vp_in (i + 1) L ∧ vp_in (i + 2) L ∧ vp_in (i + 3) L ∧ vp_in (i + 4) L ∧ vp_in (i + 5) L) (h : Rel σ τ) (k : ∀ σ' τ' : St, Rel σ' τ' → G X wid (wI E a σ' ++ (wM E a' τ' ++ oL E o f)) 1377 (lvL b a a' o i p q) []) : G X wid (wI E a σ ++ (wM E a' τ ++ oL E o f)) 1111 (lvL b a a' o i p q) [] := by
  refine g_aload_1 C dL_law_1111 rfl ?_
  refine g_aload_0 C dL_law_1112 rfl ?_
  refine g_iload C dL_law_1113 rfl ?_
  refine g_iconst_1 C dL_law_1115 ?_
  refine g_iadd C dL_law_1116 ?_
  refine g_sld C hX hi.1 dL_law_1117 ?_
  refine g_aload_0 C dL_law_1118 rfl ?_
  refine g_iload C dL_law_1119 rfl ?_
  refine g_iconst_2 C dL_law_1121 ?_
  refine g_iadd C dL_law_1122 ?_
  refine g_sld C hX hi.2.1 dL_law_1123 ?_
  refine g_callF (w := wI E a) (σ := σ) (r := wM E a' τ ++ oL E o f) C 2 (As := [.int (xs (Int32.toNatClampNeg (i + 1))), .int (xs (Int32.toNatClampNeg (i + 2)))]) (rest := []) (Cn := RX10) (T := TX10) (N := 8) (q0 := 0) (ci := 9) (by decide +kernel) (by decide +kernel) (by decide +kernel) (by decide +kernel) (by decide +kernel) (by decide +kernel) rfl rfl (cI_X10_sum (T_sum h)) ⟨rfl, rfl⟩ ⟨(Nat.le_of_ble_eq_true rfl), (Nat.le_of_ble_eq_true rfl)⟩ rfl rfl (Nat.le_of_ble_eq_true rfl) dL_law_1124 (fun v u hu => ?_)
  refine g_rot (g_asc ?_)
  refine g_aload_2 C dL_law_1127 rfl ?_
  refine g_aload_0 C dL_law_1128 rfl ?_
  refine g_iload C dL_law_1129 rfl ?_
  refine g_iconst_1 C dL_law_1131 ?_
  refine g_iadd C dL_law_1132 ?_
  refine g_sld C hX hi.1 dL_law_1133 ?_
  refine g_aload_0 C dL_law_1134 rfl ?_
  refine g_iload C dL_law_1135 rfl ?_
  refine g_iconst_2 C dL_law_1137 ?_
  refine g_iadd C dL_law_1138 ?_
  refine g_sld C hX hi.2.1 dL_law_1139 ?_
  refine g_callF (w := wM E a') (σ := τ) (r := oL E o f ++ wI E a u) C 2 (As := [.int (xs (Int32.toNatClampNeg (i + 1))), .int (xs (Int32.toNatClampNeg (i + 2)))]) (rest := [.int v]) (Cn := RX11) (T := TX11) (N := 42) (q0 := 0) (ci := 10) (by decide +kernel) (by decide +kernel) (by decide +kernel) (by decide +kernel) (by decide +kernel) (by decide +kernel) rfl rfl (cM_sum hu) ⟨rfl, rfl⟩ ⟨(Nat.le_of_ble_eq_true rfl), (Nat.le_of_ble_eq_true rfl)⟩ rfl rfl (Nat.le_of_ble_eq_true rfl) dL_law_1140 (fun v' u' hu' => ?_)
  obtain ⟨rfl, hr⟩ := hu'
  refine g_csa (g_rot ?_)
  exact g_icmp_eq C 1377 dL_law_1143 (by decide) (fun _ => k u u' hr) (fun q => absurd rfl q)
set_option maxHeartbeats 1000000 in
theorem lc_rank {X : Kx} {l : Launch} {E : Ev} {a a' : Nat → Nat} {σ τ : St} {o b L : Nat} {f : Nat → Int64} {xs : Nat → Int32} {i : Int32} {p q : Option Value} (C : Cx X l E RL cL_law room_1 (some .boolean)) (hX : SX X b L xs) (hi : vp_in (i + 1) L ∧ vp_in (i + 2) L ∧ vp_in (i + 3) L ∧ vp_in (i + 4) L ∧ vp_in (i + 5) L) (h : Rel σ τ) (k : ∀ σ' τ' : St, Rel σ' τ' → G X wid (wI E a σ' ++ (wM E a' τ' ++ oL E o f)) 1377 (lvL b a a' o i p q) []) : G X wid (wI E a σ ++ (wM E a' τ ++ oL E o f)) 1148 (lvL b a a' o i p q) [] := by
  refine g_aload_1 C dL_law_1148 rfl ?_
  refine g_aload_0 C dL_law_1149 rfl ?_
  refine g_iload C dL_law_1150 rfl ?_
  refine g_iconst_1 C dL_law_1152 ?_
  refine g_iadd C dL_law_1153 ?_
  refine g_sld C hX hi.1 dL_law_1154 ?_
  refine g_aload_0 C dL_law_1155 rfl ?_
  refine g_iload C dL_law_1156 rfl ?_
  refine g_iconst_2 C dL_law_1158 ?_
  refine g_iadd C dL_law_1159 ?_
  refine g_sld C hX hi.2.1 dL_law_1160 ?_
  refine g_callF (w := wI E a) (σ := σ) (r := wM E a' τ ++ oL E o f) C 2 (As := [.int (xs (Int32.toNatClampNeg (i + 1))), .int (xs (Int32.toNatClampNeg (i + 2)))]) (rest := []) (Cn := RX10) (T := TX10) (N := 8) (q0 := 0) (ci := 9) (by decide +kernel) (by decide +kernel) (by decide +kernel) (by decide +kernel) (by decide +kernel) (by decide +kernel) rfl rfl (cI_X10_rank (T_rank h)) ⟨rfl, rfl⟩ ⟨(Nat.le_of_ble_eq_true rfl), (Nat.le_of_ble_eq_true rfl)⟩ rfl rfl (Nat.le_of_ble_eq_true rfl) dL_law_1161 (fun v u hu => ?_)
  refine g_rot (g_asc ?_)
  refine g_aload_2 C dL_law_1164 rfl ?_
  refine g_aload_0 C dL_law_1165 rfl ?_
  refine g_iload C dL_law_1166 rfl ?_
  refine g_iconst_1 C dL_law_1168 ?_
  refine g_iadd C dL_law_1169 ?_
  refine g_sld C hX hi.1 dL_law_1170 ?_
  refine g_aload_0 C dL_law_1171 rfl ?_
  refine g_iload C dL_law_1172 rfl ?_
  refine g_iconst_2 C dL_law_1174 ?_
  refine g_iadd C dL_law_1175 ?_
  refine g_sld C hX hi.2.1 dL_law_1176 ?_
  refine g_callF (w := wM E a') (σ := τ) (r := oL E o f ++ wI E a u) C 2 (As := [.int (xs (Int32.toNatClampNeg (i + 1))), .int (xs (Int32.toNatClampNeg (i + 2)))]) (rest := [.int v]) (Cn := RX11) (T := TX11) (N := 42) (q0 := 0) (ci := 10) (by decide +kernel) (by decide +kernel) (by decide +kernel) (by decide +kernel) (by decide +kernel) (by decide +kernel) rfl rfl (cM_rank hu) ⟨rfl, rfl⟩ ⟨(Nat.le_of_ble_eq_true rfl), (Nat.le_of_ble_eq_true rfl)⟩ rfl rfl (Nat.le_of_ble_eq_true rfl) dL_law_1177 (fun v' u' hu' => ?_)
  obtain ⟨rfl, hr⟩ := hu'
  refine g_csa (g_rot ?_)
  exact g_icmp_eq C 1377 dL_law_1180 (by decide) (fun _ => k u u' hr) (fun q => absurd rfl q)

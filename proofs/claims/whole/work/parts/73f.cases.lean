set_option maxHeartbeats 1000000 in
theorem lc_lost {X : Kx} {l : Launch} {E : Ev} {a a' : Nat → Nat} {σ τ : St} {o b L : Nat} {f : Nat → Int64} {xs : Nat → Int32} {i : Int32} {p q : Option Value} (C : Cx X l E RL cL_law room_1 (some .boolean)) (hX : SX X b L xs) (hi : vp_in (i + 1) L ∧ vp_in (i + 2) L ∧ vp_in (i + 3) L ∧ vp_in (i + 4) L ∧ vp_in (i + 5) L) (h : Rel σ τ) (k : ∀ σ' τ' : St, Rel σ' τ' → G X wid (wI E a σ' ++ (wM E a' τ' ++ oL E o f)) 1377 (lvL b a a' o i p q) []) : G X wid (wI E a σ ++ (wM E a' τ ++ oL E o f)) 1253 (lvL b a a' o i p q) [] := by
  refine g_aload_1 C dL_law_1253 rfl ?_
  refine g_aload_0 C dL_law_1254 rfl ?_
  refine g_iload C dL_law_1255 rfl ?_
  refine g_iconst_1 C dL_law_1257 ?_
  refine g_iadd C dL_law_1258 ?_
  refine g_sld C hX hi.1 dL_law_1259 ?_
  refine g_aload_0 C dL_law_1260 rfl ?_
  refine g_iload C dL_law_1261 rfl ?_
  refine g_iconst_2 C dL_law_1263 ?_
  refine g_iadd C dL_law_1264 ?_
  refine g_sld C hX hi.2.1 dL_law_1265 ?_
  refine g_aload_0 C dL_law_1266 rfl ?_
  refine g_iload C dL_law_1267 rfl ?_
  refine g_iconst_3 C dL_law_1269 ?_
  refine g_iadd C dL_law_1270 ?_
  refine g_sld C hX hi.2.2.1 dL_law_1271 ?_
  refine g_callF (w := wI E a) (σ := σ) (r := wM E a' τ ++ oL E o f) C 3 (As := [.int (xs (Int32.toNatClampNeg (i + 1))), .int (xs (Int32.toNatClampNeg (i + 2))), .int (xs (Int32.toNatClampNeg (i + 3)))]) (rest := []) (Cn := RX10) (T := TX10) (N := 8) (q0 := 0) (ci := 9) (by decide +kernel) (by decide +kernel) (by decide +kernel) (by decide +kernel) (by decide +kernel) (by decide +kernel) rfl rfl (cI_X10_lost (T_lost h)) ⟨rfl, rfl⟩ ⟨(Nat.le_of_ble_eq_true rfl), (Nat.le_of_ble_eq_true rfl)⟩ rfl rfl (Nat.le_of_ble_eq_true rfl) dL_law_1272 (fun v u hu => ?_)
  refine g_rot (g_asc ?_)
  refine g_aload_2 C dL_law_1275 rfl ?_
  refine g_aload_0 C dL_law_1276 rfl ?_
  refine g_iload C dL_law_1277 rfl ?_
  refine g_iconst_1 C dL_law_1279 ?_
  refine g_iadd C dL_law_1280 ?_
  refine g_sld C hX hi.1 dL_law_1281 ?_
  refine g_aload_0 C dL_law_1282 rfl ?_
  refine g_iload C dL_law_1283 rfl ?_
  refine g_iconst_2 C dL_law_1285 ?_
  refine g_iadd C dL_law_1286 ?_
  refine g_sld C hX hi.2.1 dL_law_1287 ?_
  refine g_aload_0 C dL_law_1288 rfl ?_
  refine g_iload C dL_law_1289 rfl ?_
  refine g_iconst_3 C dL_law_1291 ?_
  refine g_iadd C dL_law_1292 ?_
  refine g_sld C hX hi.2.2.1 dL_law_1293 ?_
  refine g_callF (w := wM E a') (σ := τ) (r := oL E o f ++ wI E a u) C 3 (As := [.int (xs (Int32.toNatClampNeg (i + 1))), .int (xs (Int32.toNatClampNeg (i + 2))), .int (xs (Int32.toNatClampNeg (i + 3)))]) (rest := [.int v]) (Cn := RX11) (T := TX11) (N := 42) (q0 := 0) (ci := 10) (by decide +kernel) (by decide +kernel) (by decide +kernel) (by decide +kernel) (by decide +kernel) (by decide +kernel) rfl rfl (cM_lost hu) ⟨rfl, rfl⟩ ⟨(Nat.le_of_ble_eq_true rfl), (Nat.le_of_ble_eq_true rfl)⟩ rfl rfl (Nat.le_of_ble_eq_true rfl) dL_law_1294 (fun v' u' hu' => ?_)
  obtain ⟨rfl, hr⟩ := hu'
  refine g_csa (g_rot ?_)
  exact g_icmp_eq C 1377 dL_law_1297 (by decide) (fun _ => k u u' hr) (fun q => absurd rfl q)
set_option maxHeartbeats 1000000 in
theorem lc_close {X : Kx} {l : Launch} {E : Ev} {a a' : Nat → Nat} {σ τ : St} {o b L : Nat} {f : Nat → Int64} {xs : Nat → Int32} {i : Int32} {p q : Option Value} (C : Cx X l E RL cL_law room_1 (some .boolean)) (hX : SX X b L xs) (hi : vp_in (i + 1) L ∧ vp_in (i + 2) L ∧ vp_in (i + 3) L ∧ vp_in (i + 4) L ∧ vp_in (i + 5) L) (h : Rel σ τ) (k : ∀ σ' τ' : St, Rel σ' τ' → G X wid (wI E a σ' ++ (wM E a' τ' ++ oL E o f)) 1377 (lvL b a a' o i p q) []) : G X wid (wI E a σ ++ (wM E a' τ ++ oL E o f)) 1302 (lvL b a a' o i p q) [] := by
  refine g_aload_1 C dL_law_1302 rfl ?_
  refine g_callF (w := wI E a) (σ := σ) (r := wM E a' τ ++ oL E o f) C 0 (As := []) (rest := []) (Cn := RX10) (T := TX10) (N := 8) (q0 := 0) (ci := 9) (by decide +kernel) (by decide +kernel) (by decide +kernel) (by decide +kernel) (by decide +kernel) (by decide +kernel) rfl rfl (cI_X10_close (T_close h)) ⟨rfl, rfl⟩ ⟨(Nat.le_of_ble_eq_true rfl), (Nat.le_of_ble_eq_true rfl)⟩ rfl rfl (Nat.le_of_ble_eq_true rfl) dL_law_1303 (fun v u hu => ?_)
  refine g_rot (g_asc ?_)
  refine g_aload_2 C dL_law_1306 rfl ?_
  refine g_callF (w := wM E a') (σ := τ) (r := oL E o f ++ wI E a u) C 0 (As := []) (rest := [.int v]) (Cn := RX11) (T := TX11) (N := 42) (q0 := 0) (ci := 10) (by decide +kernel) (by decide +kernel) (by decide +kernel) (by decide +kernel) (by decide +kernel) (by decide +kernel) rfl rfl (cM_close hu) ⟨rfl, rfl⟩ ⟨(Nat.le_of_ble_eq_true rfl), (Nat.le_of_ble_eq_true rfl)⟩ rfl rfl (Nat.le_of_ble_eq_true rfl) dL_law_1307 (fun v' u' hu' => ?_)
  obtain ⟨rfl, hr⟩ := hu'
  refine g_csa (g_rot ?_)
  exact g_icmp_eq C 1377 dL_law_1310 (by decide) (fun _ => k u u' hr) (fun q => absurd rfl q)
set_option maxHeartbeats 1000000 in
theorem lc_points {X : Kx} {l : Launch} {E : Ev} {a a' : Nat → Nat} {σ τ : St} {o b L : Nat} {f : Nat → Int64} {xs : Nat → Int32} {i : Int32} {p q : Option Value} (C : Cx X l E RL cL_law room_1 (some .boolean)) (hX : SX X b L xs) (hi : vp_in (i + 1) L ∧ vp_in (i + 2) L ∧ vp_in (i + 3) L ∧ vp_in (i + 4) L ∧ vp_in (i + 5) L) (h : Rel σ τ) (k : ∀ σ' τ' : St, Rel σ' τ' → G X wid (wI E a σ' ++ (wM E a' τ' ++ oL E o f)) 1377 (lvL b a a' o i p q) []) : G X wid (wI E a σ ++ (wM E a' τ ++ oL E o f)) 1315 (lvL b a a' o i p q) [] := by
  refine g_aload_1 C dL_law_1315 rfl ?_
  refine g_aload_0 C dL_law_1316 rfl ?_
  refine g_iload C dL_law_1317 rfl ?_
  refine g_iconst_1 C dL_law_1319 ?_
  refine g_iadd C dL_law_1320 ?_
  refine g_sld C hX hi.1 dL_law_1321 ?_
  refine g_aload_0 C dL_law_1322 rfl ?_
  refine g_iload C dL_law_1323 rfl ?_
  refine g_iconst_2 C dL_law_1325 ?_
  refine g_iadd C dL_law_1326 ?_
  refine g_sld C hX hi.2.1 dL_law_1327 ?_
  refine g_callF (w := wI E a) (σ := σ) (r := wM E a' τ ++ oL E o f) C 2 (As := [.int (xs (Int32.toNatClampNeg (i + 1))), .int (xs (Int32.toNatClampNeg (i + 2)))]) (rest := []) (Cn := RX10) (T := TX10) (N := 8) (q0 := 0) (ci := 9) (by decide +kernel) (by decide +kernel) (by decide +kernel) (by decide +kernel) (by decide +kernel) (by decide +kernel) rfl rfl (cI_X10_points (T_points h)) ⟨rfl, rfl⟩ ⟨(Nat.le_of_ble_eq_true rfl), (Nat.le_of_ble_eq_true rfl)⟩ rfl rfl (Nat.le_of_ble_eq_true rfl) dL_law_1328 (fun v u hu => ?_)
  refine g_rot (g_asc ?_)
  refine g_aload_2 C dL_law_1331 rfl ?_
  refine g_aload_0 C dL_law_1332 rfl ?_
  refine g_iload C dL_law_1333 rfl ?_
  refine g_iconst_1 C dL_law_1335 ?_
  refine g_iadd C dL_law_1336 ?_
  refine g_sld C hX hi.1 dL_law_1337 ?_
  refine g_aload_0 C dL_law_1338 rfl ?_
  refine g_iload C dL_law_1339 rfl ?_
  refine g_iconst_2 C dL_law_1341 ?_
  refine g_iadd C dL_law_1342 ?_
  refine g_sld C hX hi.2.1 dL_law_1343 ?_
  refine g_callF (w := wM E a') (σ := τ) (r := oL E o f ++ wI E a u) C 2 (As := [.int (xs (Int32.toNatClampNeg (i + 1))), .int (xs (Int32.toNatClampNeg (i + 2)))]) (rest := [.int v]) (Cn := RX11) (T := TX11) (N := 42) (q0 := 0) (ci := 10) (by decide +kernel) (by decide +kernel) (by decide +kernel) (by decide +kernel) (by decide +kernel) (by decide +kernel) rfl rfl (cM_points hu) ⟨rfl, rfl⟩ ⟨(Nat.le_of_ble_eq_true rfl), (Nat.le_of_ble_eq_true rfl)⟩ rfl rfl (Nat.le_of_ble_eq_true rfl) dL_law_1344 (fun v' u' hu' => ?_)
  obtain ⟨rfl, hr⟩ := hu'
  refine g_csa (g_rot ?_)
  exact g_icmp_eq C 1377 dL_law_1347 (by decide) (fun _ => k u u' hr) (fun q => absurd rfl q)
set_option maxHeartbeats 1000000 in
theorem lc_count {X : Kx} {l : Launch} {E : Ev} {a a' : Nat → Nat} {σ τ : St} {o b L : Nat} {f : Nat → Int64} {xs : Nat → Int32} {i : Int32} {p q : Option Value} (C : Cx X l E RL cL_law room_1 (some .boolean)) (hX : SX X b L xs) (hi : vp_in (i + 1) L ∧ vp_in (i + 2) L ∧ vp_in (i + 3) L ∧ vp_in (i + 4) L ∧ vp_in (i + 5) L) (h : Rel σ τ) (k : ∀ σ' τ' : St, Rel σ' τ' → G X wid (wI E a σ' ++ (wM E a' τ' ++ oL E o f)) 1377 (lvL b a a' o i p q) []) : G X wid (wI E a σ ++ (wM E a' τ ++ oL E o f)) 1352 (lvL b a a' o i p q) [] := by
  refine g_aload_1 C dL_law_1352 rfl ?_
  refine g_aload_0 C dL_law_1353 rfl ?_
  refine g_iload C dL_law_1354 rfl ?_
  refine g_iconst_1 C dL_law_1356 ?_
  refine g_iadd C dL_law_1357 ?_
  refine g_sld C hX hi.1 dL_law_1358 ?_
  refine g_callF (w := wI E a) (σ := σ) (r := wM E a' τ ++ oL E o f) C 1 (As := [.int (xs (Int32.toNatClampNeg (i + 1)))]) (rest := []) (Cn := RX10) (T := TX10) (N := 8) (q0 := 0) (ci := 9) (by decide +kernel) (by decide +kernel) (by decide +kernel) (by decide +kernel) (by decide +kernel) (by decide +kernel) rfl rfl (cI_X10_count (T_count h)) ⟨rfl, rfl⟩ ⟨(Nat.le_of_ble_eq_true rfl), (Nat.le_of_ble_eq_true rfl)⟩ rfl rfl (Nat.le_of_ble_eq_true rfl) dL_law_1359 (fun v u hu => ?_)
  refine g_rot (g_asc ?_)
  refine g_aload_2 C dL_law_1362 rfl ?_
  refine g_aload_0 C dL_law_1363 rfl ?_
  refine g_iload C dL_law_1364 rfl ?_
  refine g_iconst_1 C dL_law_1366 ?_
  refine g_iadd C dL_law_1367 ?_
  refine g_sld C hX hi.1 dL_law_1368 ?_
  refine g_callF (w := wM E a') (σ := τ) (r := oL E o f ++ wI E a u) C 1 (As := [.int (xs (Int32.toNatClampNeg (i + 1)))]) (rest := [.int v]) (Cn := RX11) (T := TX11) (N := 42) (q0 := 0) (ci := 10) (by decide +kernel) (by decide +kernel) (by decide +kernel) (by decide +kernel) (by decide +kernel) (by decide +kernel) rfl rfl (cM_count hu) ⟨rfl, rfl⟩ ⟨(Nat.le_of_ble_eq_true rfl), (Nat.le_of_ble_eq_true rfl)⟩ rfl rfl (Nat.le_of_ble_eq_true rfl) dL_law_1369 (fun v' u' hu' => ?_)
  obtain ⟨rfl, hr⟩ := hu'
  refine g_csa (g_rot ?_)
  exact g_icmp_eq C 1377 dL_law_1372 (by decide) (fun _ => k u u' hr) (fun q => absurd rfl q)

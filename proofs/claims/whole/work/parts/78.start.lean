/-! ===== the start: what the statement says of it ===== -/
def flatA : Cond → List Cond → List Cond
  | .and a b, acc => flatA a (flatA b acc)
  | c, acc => c :: acc
theorem flatA_eq (T : Cond) : ∀ acc : List Cond, flatA T acc = flatC T ++ acc := by
  induction T with
  | and a b iha ihb =>
    intro acc
    simp only [flatA, flatC, iha, ihb, List.append_assoc]
  | _ =>
    intro acc
    first | rfl | simp [flatA, flatC]
def FL : List Cond := flatA (Jvm.Cond.and given_1 narrow_1) []
theorem FL_of {args : Array Value} {s : State} (h : (Jvm.Cond.and given_1 narrow_1).before args s = true) : ∀ c ∈ FL, c.before args s = true := fun c hc => flat_of_before _ h c (by
  unfold FL at hc
  rw [flatA_eq, List.append_nil] at hc
  exact hc)
theorem fl {args : Array Value} {s : State} (hs : ∀ c ∈ FL, c.before args s = true) (k : Nat) {w : Cond} (h : FL[k]? = some w) : w.before args s = true := hs _ (List.mem_of_getElem? h)
def wdN : List String := ["WEIGHT_WORD", "WARM_WORD", "REVERSE_WORD", "CUT_WORD", "RUNS_WORD", "SHARE_WORD", "KEEP_WORD"]
def exL : List Nat := [51, 58, 66, 75, 85, 96, 108]
def sxL : List Nat := [193, 205, 216, 231, 243, 257, 273, 289]
def smL : List Nat := [315, 334, 357, 377, 399, 423, 447]
def neL : List Nat := [0, 215, 229, 240, 253, 268, 283, 296, 0, 0, 230, 241, 254, 269, 284, 297, 0, 0, 0, 242, 255, 270, 285, 298, 0, 0, 0, 0, 256, 271, 286, 299, 0, 0, 0, 0, 0, 272, 287, 300, 0, 0, 0, 0, 0, 0, 288, 301, 0, 0, 0, 0, 0, 0, 0, 302, 0, 0, 0, 0, 0, 0, 0, 0]
theorem fl_usual : ∀ j, j < 6 → FL[7 + j]? = some (.eq (.elem (.static "IceRun" "USUAL" "[I") (.int (Int32.ofNat j))) (.int (usualF j))) := by decide +kernel
theorem fl_points : ∀ j, j < 16 → FL[33 + j]? = some (.eq (.elem (.static "IceRun" "POINTS" "[I") (.int (Int32.ofNat j))) (.int (pointsF j))) := by decide +kernel
theorem fl_all : ∀ j, j < 7 → FL[18 + j]? = some (.eq (.elem (.static "IceRun$Word" "ALL" "[LIceRun$Word;") (.int (Int32.ofNat j))) (.static "IceRun$Word" (wdN.getD j "") "LIceRun$Word;")) := by decide +kernel
theorem fl_word : ∀ j, j < 7 → FL[exL.getD j 0]? = some (.exactly (.static "IceRun$Word" (wdN.getD j "") "LIceRun$Word;") "IceRun$Word") := by decide +kernel
theorem fl_text : ∀ j, j < 7 → FL[exL.getD j 0 + 2]? = some (.eq (.field (.static "IceRun$Word" (wdN.getD j "") "LIceRun$Word;") "IceRun$Word" "text" "Ljava/lang/String;") (.string "IceRun$Word" ([65, 71, 74, 77, 80, 83, 86].getD j 0))) := by decide +kernel
theorem fl_slot : ∀ j, j < 7 → FL[exL.getD j 0 + 3]? = some (.eq (.field (.static "IceRun$Word" (wdN.getD j "") "LIceRun$Word;") "IceRun$Word" "slot" "I") (.int (wdSlot j))) := by decide +kernel
theorem fl_num : ∀ j, j < 7 → FL[exL.getD j 0 + 4]? = some (.eq (.field (.static "IceRun$Word" (wdN.getD j "") "LIceRun$Word;") "IceRun$Word" "numbered" "Z") (.int (wdNum j))) := by decide +kernel
theorem fl_low : ∀ j, j < 7 → FL[exL.getD j 0 + 5]? = some (.eq (.field (.static "IceRun$Word" (wdN.getD j "") "LIceRun$Word;") "IceRun$Word" "low" "I") (.int (wdLow j))) := by decide +kernel
theorem fl_high : ∀ j, j < 7 → FL[exL.getD j 0 + 6]? = some (.eq (.field (.static "IceRun$Word" (wdN.getD j "") "LIceRun$Word;") "IceRun$Word" "high" "I") (.int (wdHigh j))) := by decide +kernel
theorem fl_same : ∀ i, i < 7 → FL[smL.getD i 0]? = some (.eq (.string "IceRunModel" (sixL.getD i 0)) (.string "IceRun$Word" ([65, 71, 74, 77, 80, 83, 86].getD i 0))) := by decide +kernel
theorem fl_sx : ∀ i, i < 8 → FL[sxL.getD i 0]? = some (.exactly (.string "IceRunModel" (sixL.getD i 0)) "java/lang/String") := by decide +kernel
theorem fl_co : ∀ i, i < 8 → FL[sxL.getD i 0 + 1]? = some (.eq (.field (.string "IceRunModel" (sixL.getD i 0)) "java/lang/String" "coder" "B") (.int 0)) := by decide +kernel
theorem fl_ar : ∀ i, i < 8 → FL[sxL.getD i 0 + 2]? = some (.arrayOf (.field (.string "IceRunModel" (sixL.getD i 0)) "java/lang/String" "value" "[B") .byte) := by decide +kernel
theorem fl_le : ∀ i, i < 8 → FL[sxL.getD i 0 + 3]? = some (.eq (.length (.field (.string "IceRunModel" (sixL.getD i 0)) "java/lang/String" "value" "[B")) (.int (Int32.ofNat (slenL.getD i 0)))) := by decide +kernel
theorem fl_el : ∀ i, i < 8 → ∀ j, j < slenL.getD i 0 → FL[sxL.getD i 0 + 4 + j]? = some (.eq (.elem (.field (.string "IceRunModel" (sixL.getD i 0)) "java/lang/String" "value" "[B") (.int (Int32.ofNat j))) (.int ((sbytL.getD i []).getD j 0))) := by decide +kernel
theorem fl_ne : ∀ j, j < 8 → ∀ i, i < j → FL[neL.getD (8 * i + j) 0]? = some (.not (.eq (.string "IceRunModel" (sixL.getD i 0)) (.string "IceRunModel" (sixL.getD j 0)))) := by decide +kernel
theorem fl_str : ∀ i, i < 8 → Cond.stringRef "IceRunModel" (sixL.getD i 0) (stxL.getD i "") ∈ lw_tbl := by decide +kernel
theorem kx_cls : ∀ q ∈ vwCl, (∀ w ∈ u_ws q.1 q.2.1 q.2.2, w ∈ UW) ∧ Cond.instantiable q.1 q.2.2 ∈ UW := List.forall_mem_cons.mpr ⟨⟨inU_X0, by decide +kernel⟩, List.forall_mem_cons.mpr ⟨⟨inU_X1, by decide +kernel⟩, List.forall_mem_cons.mpr ⟨⟨inU_X2, by decide +kernel⟩, List.forall_mem_cons.mpr ⟨⟨inU_X3, by decide +kernel⟩, List.forall_mem_cons.mpr ⟨⟨inU_X4, by decide +kernel⟩, List.forall_mem_cons.mpr ⟨⟨inU_X5, by decide +kernel⟩, List.forall_mem_cons.mpr ⟨⟨inU_X6, by decide +kernel⟩, List.forall_mem_cons.mpr ⟨⟨inU_X7, by decide +kernel⟩, List.forall_mem_cons.mpr ⟨⟨inU_X8, by decide +kernel⟩, List.forall_mem_cons.mpr ⟨⟨inU_X10, by decide +kernel⟩, List.forall_mem_cons.mpr ⟨⟨inU_X11, by decide +kernel⟩, fun _ h => absurd h List.not_mem_nil⟩⟩⟩⟩⟩⟩⟩⟩⟩⟩⟩
theorem ar_of {s : State} {args : Array Value} {ty : FieldType} (h : (Cond.arrayClass ty).before args s = true) (hn : ∀ C, ty ≠ .object C) : ∃ c : ClassId, ArrOfT s c ty ∧ va_RA s c ty := by
  obtain ⟨c, k, comp, h1, h2, h3⟩ := Cond.arrayClass_spec h
  refine ⟨c, fun n z => ⟨fun k h => (by cases h), k, h2, comp, h3⟩, ?_⟩
  cases ty with
  | object C => exact absurd rfl (hn C)
  | _ => exact h1
theorem ar_over {s : State} (h : va_AOA .int s) : ∃ c : ClassId, ArrOfT s c (.array .int) ∧ va_RA s c (.array .int) := by
  obtain ⟨comp, c, k, h1, h2, h3, h4⟩ := Cond.arrayOver_specA h
  exact ⟨c, fun n z => ⟨fun k h => (by cases h), k, h2, comp, h3⟩, h4⟩
theorem k_start {s : State} {args : Array Value} (hts : ∀ w ∈ UW, w.before args s = true) (hZ : va_AOA .int s) : ∃ (D : va_G) (cA : Nat → ClassId), ∀ ad : Nat → Nat, va_K D vwCl (tysE (D, cA, ad)) s := by
  have h0 : ∀ k : Nat, ∃ z : ClassId × (Nat → Nat), ∀ q : vw_C, vwCl[k]? = some q → u_Kn s q.1 q.2.1 q.2.2 z.1 z.2 := by
    intro k
    cases hk : vwCl[k]? with
    | none => exact ⟨(0, fun _ => 0), fun q h => nomatch h⟩
    | some q =>
      obtain ⟨h1, h2⟩ := kx_cls q (List.mem_of_getElem? hk)
      obtain ⟨c, i, h⟩ := u_known (C := q.1) (T := q.2.1) (N := q.2.2) hts h1 (hts _ h2)
      exact ⟨(c, i), fun q' e => by
        cases e
        exact h⟩
  obtain ⟨z, hz⟩ := Classical.axiomOfChoice h0
  obtain ⟨c0, g0⟩ := ar_of (hts _ ua_int) (fun _ h => by cases h)
  obtain ⟨c1, g1⟩ := ar_of (hts _ ua_byte) (fun _ h => by cases h)
  obtain ⟨c2, g2⟩ := ar_of (hts _ ua_boolean) (fun _ h => by cases h)
  obtain ⟨c3, g3⟩ := ar_of (hts _ ua_long) (fun _ h => by cases h)
  obtain ⟨c4, g4⟩ := ar_over hZ
  refine ⟨(fun k => (z k).1, fun k => (z k).2), fun k => if k = 0 then c0 else if k = 1 then c1 else if k = 2 then c2 else if k = 3 then c3 else c4, fun ad => ⟨fun k q h => hz k q h, fun k q h => ?_⟩⟩
  match k, h with
  | 0, h => cases h; exact g0
  | 1, h => cases h; exact g1
  | 2, h => cases h; exact g2
  | 3, h => cases h; exact g3
  | 4, h => cases h; exact g4
  | k + 5, h => simp [tysE] at h
set_option maxHeartbeats 2000000 in
theorem start_S {s : State} {b : Nat} {D : va_G} {cA : Nat → ClassId} (hts : ∀ w ∈ lw_tbl, w.before #[Value.ref b] s = true) (hs : ∀ c ∈ FL, c.before #[Value.ref b] s = true) : ∃ ad : Nat → Nat, Sx (D, cA, ad) (fun q => s.heap.size ≤ q) s s.heap ∧ Rx (D, cA, ad) s := by
  have hA : ∀ a : Nat, a < s.heap.size → ¬ (fun q : Nat => s.heap.size ≤ q) a := fun a h => Nat.not_le.mpr h
  obtain ⟨tU, eU, hU⟩ := va_Tof (tm := .static "IceRun" "USUAL" "[I") (ty := .int) (N := 6) (f := fun j => .int (usualF j)) (by decide) (fl hs 5 (by decide +kernel)) (va_eqt (fl hs 6 (by decide +kernel))) (fun j hj => va_eqt (fl hs _ (fl_usual j hj))) hA
  have zU := va_Zref (hts (.laysStatic "IceRun" "USUAL" "[I") (by decide +kernel)) (hts (.initialized "IceRun") (by decide +kernel)) eU hA
  obtain ⟨tP, eP, hP⟩ := va_Tof (tm := .static "IceRun" "POINTS" "[I") (ty := .int) (N := 16) (f := fun j => .int (pointsF j)) (by decide) (fl hs 31 (by decide +kernel)) (va_eqt (fl hs 32 (by decide +kernel))) (fun j hj => va_eqt (fl hs _ (fl_points j hj))) hA
  have zP := va_Zref (hts (.laysStatic "IceRun" "POINTS" "[I") (by decide +kernel)) (hts (.initialized "IceRun") (by decide +kernel)) eP hA
  obtain ⟨adK, adV, hS, eS⟩ := vk_Sof (N := 8) (tm := fun i => .string "IceRunModel" (sixL.getD i 0)) (len := slenL) (byt := sbytL) (by decide) (fun i hi => fl hs _ (fl_sx i hi)) (fun i hi => fl hs _ (fl_co i hi)) (fun i hi => fl hs _ (fl_ar i hi)) (fun i hi => fl hs _ (fl_le i hi)) (fun i hi j hj => fl hs _ (fl_el i hi j hj)) (fun i j hi hj hn => by
    rcases Nat.lt_or_ge i j with q | q
    · exact Or.inl (fl hs _ (fl_ne j hj i q))
    · exact Or.inr (fl hs _ (fl_ne i hi j (by omega)))) hA
  have h0 : ∀ j : Nat, ∃ t : Nat, j < 7 → (Term.static "IceRun$Word" (wdN.getD j "") "LIceRun$Word;").eval #[Value.ref b] s none [] s = some (.ref t) := by
    intro j
    by_cases hj : j < 7
    · obtain ⟨a, c, cell, k, q1, -⟩ := Cond.exactly_spec (fl hs _ (fl_word j hj))
      exact ⟨a, fun _ => q1⟩
    · exact ⟨0, fun h => absurd h hj⟩
  obtain ⟨wd, hwd⟩ := Classical.axiomOfChoice h0
  obtain ⟨tA, eA, hT⟩ := va_Tof (tm := .static "IceRun$Word" "ALL" "[LIceRun$Word;") (ty := .object "IceRun$Word") (N := 7) (f := fun j => .ref (wd j)) (by decide) (fl hs 15 (by decide +kernel)) (va_eqt (fl hs 16 (by decide +kernel))) (fun j hj => va_eqv (fl hs _ (fl_all j hj)) (hwd j hj)) hA
  have zA := va_Zref (hts (.laysStatic "IceRun$Word" "ALL" "[LIceRun$Word;") (by decide +kernel)) (hts (.initialized "IceRun$Word") (by decide +kernel)) eA hA
  obtain ⟨m1, -, -, -, e1, -⟩ := Cond.exactly_spec (fl hs 133 (w := .exactly (.string "IceRun" 104) "java/lang/String") (by decide +kernel))
  obtain ⟨m2, -, -, -, e2, -⟩ := Cond.exactly_spec (fl hs 161 (w := .exactly (.string "IceRun" 233) "java/lang/String") (by decide +kernel))
  obtain ⟨ad, rfl, rfl, rfl, rfl, rfl, a10, a20, a30⟩ : ∃ ad : Nat → Nat, ad 0 = tU ∧ ad 1 = tP ∧ ad 2 = tA ∧ ad 40 = m1 ∧ ad 41 = m2 ∧ (∀ j, j < 7 → ad (10 + j) = wd j) ∧ (∀ i, i < 8 → ad (20 + i) = adK i) ∧ (∀ i, i < 8 → ad (30 + i) = adV i) := by
    refine ⟨fun k => if k = 0 then tU else if k = 1 then tP else if k = 2 then tA else if k = 40 then m1 else if k = 41 then m2 else if k < 20 then wd (k - 10) else if k < 30 then adK (k - 20) else adV (k - 30), rfl, rfl, rfl, rfl, rfl, fun j hj => ?_, fun j hj => ?_, fun j hj => ?_⟩
    · dsimp only
      rw [if_neg (by omega), if_neg (by omega), if_neg (by omega), if_neg (by omega), if_neg (by omega), if_pos (by omega), Nat.add_sub_cancel_left]
    · dsimp only
      rw [if_neg (by omega), if_neg (by omega), if_neg (by omega), if_neg (by omega), if_neg (by omega), if_neg (by omega), if_pos (by omega), Nat.add_sub_cancel_left]
    · dsimp only
      rw [if_neg (by omega), if_neg (by omega), if_neg (by omega), if_neg (by omega), if_neg (by omega), if_neg (by omega), if_neg (by omega), Nat.add_sub_cancel_left]
  have hwd' : ∀ j : Nat, j < 7 → (Term.static "IceRun$Word" (wdN.getD j "") "LIceRun$Word;").eval #[Value.ref b] s none [] s = some (.ref (ad (10 + j))) := fun j hj => by rw [a10 j hj]; exact hwd j hj
  have eS' : ∀ i : Nat, i < 8 → (Term.string "IceRunModel" (sixL.getD i 0)).eval #[Value.ref b] s none [] s = some (.ref (ad (20 + i))) := fun i hi => by rw [a20 i hi]; exact eS i hi
  have hS' : vk_S 8 slenL sbytL (fun i => ad (20 + i)) (fun i => ad (30 + i)) (fun q => s.heap.size ≤ q) s s.heap := ⟨fun i hi => by
    have h := hS.1 i hi
    rw [← a20 i hi, ← a30 i hi] at h
    exact h, fun i j hi hj e => hS.2 i j hi hj (by rw [← a20 i hi, ← a20 j hj]; exact e)⟩
  have hT' : va_T (.object "IceRun$Word") (ad 2) 7 (fun j => .ref (ad (10 + j))) (fun q => s.heap.size ≤ q) s s.heap := by
    obtain ⟨cell, h1, h2, h3, h4, h5, h6, h7⟩ := hT
    exact ⟨cell, h1, h2, h3, h4, h5, fun j hj => by
      show cell.slots[j]? = some (.ref (ad (10 + j)))
      rw [a10 j hj]
      exact h6 j hj, h7⟩
  refine ⟨ad, ⟨⟨zU, hU⟩, ⟨zP, hP⟩, hS', va_Zof (hts (.laysStatic "java/lang/String" "COMPACT_STRINGS" "Z") (by decide +kernel)) (hts (.initialized "java/lang/String") (by decide +kernel)) (va_eqt (fl hs 25 (by decide +kernel))) hA, va_Zqof (hts (.laysStatic "jdk/internal/util/Preconditions" "SIOOBE_FORMATTER" "Ljava/util/function/BiFunction;") (by decide +kernel)) (hts (.initialized "jdk/internal/util/Preconditions") (by decide +kernel)) (fl hs 26 (by decide +kernel)) hA, ⟨zA, hT'⟩, fun j hj => ?_, vx_Zqof (hts (.laysStatic "java/lang/Throwable" "UNASSIGNED_STACK" "[Ljava/lang/StackTraceElement;") (by decide +kernel)) (hts (.initialized "java/lang/Throwable") (by decide +kernel)) (fl hs 49 (by decide +kernel)) hA, vx_Zqof (hts (.laysStatic "java/lang/Throwable" "SUPPRESSED_SENTINEL" "Ljava/util/List;") (by decide +kernel)) (hts (.initialized "java/lang/Throwable") (by decide +kernel)) (fl hs 50 (by decide +kernel)) hA⟩, fun i hi => vk_R.of (hts _ (fl_str i hi)) (eS' i hi), vk_R.of (hts (.stringRef "IceRun" 104 "no such kind or hardness") (by decide +kernel)) e1, vk_R.of (hts (.stringRef "IceRun" 233 "no whole run with that sled") (by decide +kernel)) e2⟩
  exact ⟨vk_OFof (hwd' j hj) (va_eqv (fl hs _ (fl_text j hj)) (va_eqR (fl hs _ (fl_same j hj)) (eS' j (by omega)))) hA, vk_OFof (hwd' j hj) (va_eqt (fl hs _ (fl_slot j hj))) hA, vk_OFof (hwd' j hj) (va_eqt (fl hs _ (fl_num j hj))) hA, vk_OFof (hwd' j hj) (va_eqt (fl hs _ (fl_low j hj))) hA, vk_OFof (hwd' j hj) (va_eqt (fl hs _ (fl_high j hj))) hA⟩

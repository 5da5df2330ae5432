/-! ===== the two start states stand in Rel ===== -/
theorem v00 {n : Nat} (h : (vp_in 0 n)) : vp_in (0 : Int32) n := h
theorem fil00 {n : Nat} : fil (fun _ => 0) n 0 = fun _ => (0 : Int32) := by
  funext j
  unfold fil
  by_cases h : j < n
  · rw [if_pos h]
  · rw [if_neg h]
theorem law0 : zI.2 501 = zM.2 19 := by
  show va_cpy usualF (fun _ => 0) 0 0 6 = mp (fun _ => 0) 0 6 (fun k _ => nrm (fun _ => 0) k)
  funext j
  by_cases h : j < 6
  · have h6 : j = 0 ∨ j = 1 ∨ j = 2 ∨ j = 3 ∨ j = 4 ∨ j = 5 := by omega
    rcases h6 with rfl | rfl | rfl | rfl | rfl | rfl <;> decide +kernel
  · rw [mp_out (by omega)]
    unfold va_cpy
    rw [if_neg (by omega)]
theorem R0_0 : R0 zI zM := by
  refine ⟨by decide +kernel, fun p hp => ?_⟩
  simp only [AP, List.mem_cons, List.not_mem_nil, or_false] at hp
  rcases hp with rfl | rfl | rfl | rfl | rfl | rfl | rfl | rfl | rfl | rfl | rfl | rfl | rfl | rfl | rfl | rfl | rfl | rfl | rfl | rfl | rfl | rfl | rfl | rfl
  all_goals first | exact law0 | rfl | exact fil00
theorem Rel_0 : Rel zI zM := by
  refine ⟨R0_0, Or.inl ⟨rfl, rfl⟩, ⟨fun c _ => ?_, fun c _ => ?_, fun c _ => ?_⟩, fun k _ => ?_, fun i _ => ⟨rfl, rfl, rfl, rfl⟩, ⟨?_, fun s _ => ?_, fun s _ => ?_⟩, ⟨vp_in_iff.mpr (by decide +kernel), vp_in_iff.mpr (by decide +kernel), by decide +kernel, vp_in_iff.mpr (by decide +kernel), by decide +kernel⟩, ⟨?_, fun i _ => ?_⟩, ?_⟩
  · show vp_in 0 10
    exact vp_in_iff.mpr (by decide)
  · show vp_in 0 1001
    exact vp_in_iff.mpr (by decide)
  · show vp_in 0 101
    exact vp_in_iff.mpr (by decide)
  · show vp_in 0 10
    exact vp_in_iff.mpr (by decide)
  · show vp_in 0 17
    exact vp_in_iff.mpr (by decide)
  · show vp_in 0 201
    exact vp_in_iff.mpr (by decide)
  · show vp_in 0 4
    exact vp_in_iff.mpr (by decide)
  · show vp_in 0 301
    exact vp_in_iff.mpr (by decide)
  · show -50 ≤ (0 : Int32).toInt ∧ (0 : Int32).toInt ≤ 100
    decide
  · exact RQ_clear (fun h => absurd rfl h) rfl rfl rfl rfl rfl rfl (fun _ _ => rfl) (fun r hr => (fil_in hr : fil (fun _ => 0) 4 (-1) r = -1)) (fun r hr => (fil_in hr : fil (fun _ => 0) 16 (-1) r = -1)) (fun _ _ => rfl) (fun _ _ => rfl)

/-! ===== public methods, both sides ===== -/
theorem T_place {σ τ : St} (h : R0 σ τ) : wpI_X10_place σ (fun r σ' => wpM_place τ (fun r' τ' => r = r' ∧ R0 σ' τ')) := by
  have e : σ.1 502 = τ.1 23 := h.i (by decide)
  exact ⟨e, h.uIr (by decide) 0⟩
theorem vp_of {x m : Int32} {n : Nat} (hm : m.toInt + 1 = n) (h0 : 0 ≤ x) (h1 : x ≤ m) : vp_in x n := by
  have a := Int32.le_iff_toInt_le.mp h0
  have b := Int32.le_iff_toInt_le.mp h1
  rw [Int32.toInt_zero] at a
  exact vp_in_iff.mpr ⟨a, by omega⟩
theorem T_law {σ τ : St} {x : Int32} (h : R0 σ τ) : wpI_X10_law x σ (fun r σ' => wpM_law x τ (fun r' τ' => r = r' ∧ R0 σ' τ')) := by
  have e : σ.2 501 = τ.2 19 := h.a (by decide)
  have h' : R0 σ (pI τ 0 0) := h.uIr (by decide) 0
  unfold wpI_X10_law wpI_X0_inForce
  refine wI_within ?_
  by_cases c : 0 ≤ x ∧ x ≤ 5
  · rw [if_pos c]
    refine ⟨fun q => absurd q (by decide), fun _ => ⟨vp_of (m := 5) (by decide) c.1 c.2, ?_⟩⟩
    refine wM_within ?_
    rw [if_pos c]
    exact ⟨fun q => absurd q (by decide), fun _ => ⟨vp_of (m := 5) (by decide) c.1 c.2, by rw [e]; rfl, h'⟩⟩
  · rw [if_neg c]
    refine ⟨fun _ => ?_, fun q => absurd rfl q⟩
    refine wM_within ?_
    rw [if_neg c]
    exact ⟨fun _ => ⟨rfl, h'⟩, fun q => absurd rfl q⟩
theorem T_end {σ τ : St} {x : Int32} (h : R0 σ τ) : wpI_X10_end x σ (fun r σ' => wpM_end x τ (fun r' τ' => r = r' ∧ R0 σ' τ')) := by
  have e : σ.1 400 = τ.1 22 := h.i (by decide)
  have h' : R0 σ (pI τ 0 0) := h.uIr (by decide) 0
  unfold wpI_X10_end
  refine wI_within ?_
  by_cases c : 0 ≤ x ∧ x ≤ σ.1 400
  · have c' : 0 ≤ x ∧ x ≤ (pI τ 0 0).1 22 := ⟨c.1, e ▸ c.2⟩
    rw [if_pos c]
    refine ⟨fun _ => ?_, fun q => absurd q (by decide)⟩
    refine wM_within ?_
    rw [if_pos c']
    exact ⟨fun _ => ⟨rfl, h'.uI (k := 400) (k' := 22) (by decide) x⟩, fun q => absurd q (by decide)⟩
  · have c' : ¬ (0 ≤ x ∧ x ≤ (pI τ 0 0).1 22) := fun q => c ⟨q.1, e.symm ▸ q.2⟩
    rw [if_neg c]
    refine ⟨fun q => absurd rfl q, fun _ => ?_⟩
    refine wM_within ?_
    rw [if_neg c']
    exact ⟨fun q => absurd rfl q, fun _ => ⟨rfl, h'⟩⟩

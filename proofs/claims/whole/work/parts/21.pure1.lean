/-! ===== public methods, both sides ===== -/
theorem T_place {σ τ : St} (h : R0 σ τ) : wpI_X10_place σ (fun r σ' => wpM_place τ (fun r' τ' => r = r' ∧ R0 σ' τ')) := by
  have e : σ.1 502 = τ.1 23 := h.i (by decide)
  exact ⟨e, h.uIr (by decide) 0⟩

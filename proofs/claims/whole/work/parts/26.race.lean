/-! ===== race: a race begins ===== -/
theorem nb0 : vp_nar .boolean 0 = 0 := by decide
theorem nb1 : vp_nar .boolean 1 = 1 := by decide
def fgI (σ : St) : St := pI (pI (pI (pI (pI (pI (pI (pI σ 700 0) 701 0) 702 (-1)) 703 0) 704 0) 705 0) 706 0) 707 0
def frI (σ : St) : St := pC (pC (pC (pC (fgI σ) 710 (fil (σ.2 710) 16 0)) 711 (fil (σ.2 711) 16 (-1))) 712 (fil (σ.2 712) 4 (-1))) 800 (fil (σ.2 800) 64 0)
theorem I_forget {σ : St} {post : St → Prop} (h : post (frI σ)) : wpI_X2_forget σ post := by
  show wpI_X2_forget_42 0 (fgI σ) post
  refine lp_c0 (fun i => (nI i, pC (pC (fgI σ) 710 (fil (σ.2 710) i 0)) 711 (fil (σ.2 711) i (-1)))) 16 ?_ ?_ ?_
  · try dsimp only
    rw [fil_0, fil_0, nI_0]
    rw [show pC (fgI σ) 710 (σ.2 710) = fgI σ from pC_self (σ := fgI σ)]
    rw [show pC (fgI σ) 711 (σ.2 711) = fgI σ from pC_self (σ := fgI σ)]
  · intro kb
    try dsimp only
    unfold wpBI_X2_forget_42
    refine pk_le 16 16 (fun _ => ?_) (fun z => absurd z (Nat.lt_irrefl 16))
    refine lp_c0 (fun i => (nI i, pC (pC (pC (fgI σ) 710 (fil (σ.2 710) 16 0)) 711 (fil (σ.2 711) 16 (-1))) 712 (fil (σ.2 712) i (-1)))) 4 ?_ ?_ ?_
    · try dsimp only
      rw [fil_0 (f := σ.2 712), nI_0]
      rw [show pC (pC (pC (fgI σ) 710 (fil (σ.2 710) 16 0)) 711 (fil (σ.2 711) 16 (-1))) 712 (σ.2 712) = pC (pC (fgI σ) 710 (fil (σ.2 710) 16 0)) 711 (fil (σ.2 711) 16 (-1)) from pC_self (σ := pC (pC (fgI σ) 710 (fil (σ.2 710) 16 0)) 711 (fil (σ.2 711) 16 (-1)))]
    · intro kb
      try dsimp only
      unfold wpBI_X2_forget_70
      refine pk_le 4 4 (fun _ => ?_) (fun z => absurd z (Nat.lt_irrefl 4))
      refine lp_c0 (fun i => (nI i, pC (pC (pC (pC (fgI σ) 710 (fil (σ.2 710) 16 0)) 711 (fil (σ.2 711) 16 (-1))) 712 (fil (σ.2 712) 4 (-1))) 800 (fil (σ.2 800) i 0))) 64 ?_ ?_ ?_
      · try dsimp only
        rw [fil_0 (f := σ.2 800), nI_0]
        rw [show pC (pC (pC (pC (fgI σ) 710 (fil (σ.2 710) 16 0)) 711 (fil (σ.2 711) 16 (-1))) 712 (fil (σ.2 712) 4 (-1))) 800 (σ.2 800) = pC (pC (pC (fgI σ) 710 (fil (σ.2 710) 16 0)) 711 (fil (σ.2 711) 16 (-1))) 712 (fil (σ.2 712) 4 (-1)) from pC_self (σ := pC (pC (pC (fgI σ) 710 (fil (σ.2 710) 16 0)) 711 (fil (σ.2 711) 16 (-1))) 712 (fil (σ.2 712) 4 (-1)))]
      · intro kb
        try dsimp only
        unfold wpBI_X4_forgetAll_2
        exact pk_le 64 64 (fun _ => h) (fun z => absurd z (Nat.lt_irrefl 64))
      · intro i kb hi hk
        try dsimp only
        unfold wpBI_X4_forgetAll_2
        refine pk_le 64 i (fun z => absurd z (by omega)) (fun _ => ⟨vp_in_nI hi (by omega), kb_eq hk ?_⟩)
        rw [nI_1, nI_clamp (by omega), nb0, pA_same, fil_s]
    · intro i kb hi hk
      try dsimp only
      unfold wpBI_X2_forget_70
      refine pk_le 4 i (fun z => absurd z (by omega)) (fun _ => ⟨vp_in_nI hi (by omega), kb_eq hk ?_⟩)
      rw [nI_1, nI_clamp (by omega), pA_same, fil_s]
  · intro i kb hi hk
    try dsimp only
    unfold wpBI_X2_forget_42
    have v : vp_in (nI i) 16 := vp_in_nI hi (by omega)
    refine pk_le 16 i (fun z => absurd z (by omega)) (fun _ => ⟨v, v, kb_eq hk ?_⟩)
    rw [nI_1, nI_clamp (by omega), nb0, pA_ne (by decide), pA_same, pA_same, fil_s, fil_s]
def cgM (σ : St) : St := pI (pI (pI (pI σ 27 0) 30 0) 31 0) 39 0
def crM (σ : St) : St := pC (pC (pC (cgM σ) 32 (fil (σ.2 32) 16 0)) 33 (fil (σ.2 33) 64 0)) 28 (fil (σ.2 28) 4 0)
theorem M_clears {σ : St} {post : St → Prop} (h : post (crM σ)) : wpM_clears σ post := by
  show wpM_clears_22 0 (cgM σ) post
  refine lp_c0 (fun i => (nI i, pC (cgM σ) 32 (fil (σ.2 32) i 0))) 16 ?_ ?_ ?_
  · try dsimp only
    rw [fil_0, nI_0]
    rw [show pC (cgM σ) 32 (σ.2 32) = cgM σ from pC_self (σ := cgM σ)]
  · intro kb
    try dsimp only
    unfold wpBM_clears_22
    refine pk_le 16 16 (fun _ => ?_) (fun z => absurd z (Nat.lt_irrefl 16))
    refine lp_c0 (fun i => (nI i, pC (pC (cgM σ) 32 (fil (σ.2 32) 16 0)) 33 (fil (σ.2 33) i 0))) 64 ?_ ?_ ?_
    · try dsimp only
      rw [fil_0 (f := σ.2 33), nI_0]
      rw [show pC (pC (cgM σ) 32 (fil (σ.2 32) 16 0)) 33 (σ.2 33) = pC (cgM σ) 32 (fil (σ.2 32) 16 0) from pC_self (σ := pC (cgM σ) 32 (fil (σ.2 32) 16 0))]
    · intro kb
      try dsimp only
      unfold wpBM_clears_43
      refine pk_le 64 64 (fun _ => ?_) (fun z => absurd z (Nat.lt_irrefl 64))
      refine lp_c0 (fun i => (nI i, pC (pC (pC (cgM σ) 32 (fil (σ.2 32) 16 0)) 33 (fil (σ.2 33) 64 0)) 28 (fil (σ.2 28) i 0))) 4 ?_ ?_ ?_
      · try dsimp only
        rw [fil_0 (f := σ.2 28), nI_0]
        rw [show pC (pC (pC (cgM σ) 32 (fil (σ.2 32) 16 0)) 33 (fil (σ.2 33) 64 0)) 28 (σ.2 28) = pC (pC (cgM σ) 32 (fil (σ.2 32) 16 0)) 33 (fil (σ.2 33) 64 0) from pC_self (σ := pC (pC (cgM σ) 32 (fil (σ.2 32) 16 0)) 33 (fil (σ.2 33) 64 0))]
      · intro kb
        try dsimp only
        unfold wpBM_clears_64
        exact pk_le 4 4 (fun _ => h) (fun z => absurd z (Nat.lt_irrefl 4))
      · intro i kb hi hk
        try dsimp only
        unfold wpBM_clears_64
        refine pk_le 4 i (fun z => absurd z (by omega)) (fun _ => ⟨vp_in_nI hi (by omega), kb_eq hk ?_⟩)
        rw [nI_1, nI_clamp (by omega), pA_same, fil_s]
    · intro i kb hi hk
      try dsimp only
      unfold wpBM_clears_43
      refine pk_le 64 i (fun z => absurd z (by omega)) (fun _ => ⟨vp_in_nI hi (by omega), kb_eq hk ?_⟩)
      rw [nI_1, nI_clamp (by omega), nb0, pA_same, fil_s]
  · intro i kb hi hk
    try dsimp only
    unfold wpBM_clears_22
    refine pk_le 16 i (fun z => absurd z (by omega)) (fun _ => ⟨vp_in_nI hi (by omega), kb_eq hk ?_⟩)
    rw [nI_1, nI_clamp (by omega), nb0, pA_same, fil_s]
theorem RQ_clear {σ τ : St} (hon : ¬ τ.1 26 = 0 → ¬ τ.1 1 = 0) (h27 : τ.1 27 = 0) (h30 : τ.1 30 = 0) (h39 : τ.1 39 = 0) (g : σ.1 702 = -1) (w : σ.1 706 = 0) (n : σ.1 707 = 0) (hst : ∀ r, r < 4 → τ.2 28 r = 0) (hwa : ∀ r, r < 4 → σ.2 712 r = -1) (hsa : ∀ s, s < 16 → σ.2 711 s = -1) (het : ∀ s, s < 16 → τ.2 32 s = 0) (hdn : ∀ k, k < 64 → τ.2 33 k = 0) : RQ σ τ := by
  refine ⟨⟨hon, fun _ => ⟨h27, h30⟩⟩, ⟨0, h27, by omega, fun r hr => ⟨fun z => absurd z (by omega), fun _ => hst r hr, fun z => ?_⟩⟩, Or.inl ⟨g, fun r hr z => ?_⟩, fun r hr => ⟨fun _ z => ?_, fun _ => hwa r hr⟩, ⟨0, h39, ?_, fun k hk => absurd hk (by omega), fun r hr => Or.inl (hwa r hr), fun s hs => Or.inl (hsa s hs)⟩, ⟨?_, ?_⟩, fun s hs z => absurd (het s hs) z, fun r hr s hs z => absurd (hdn (16 * r + s) (by omega)) z, ⟨0, h30, by omega, fun i hi => absurd hi (by omega), fun z => absurd g z⟩⟩
  · rw [hst r hr] at z
    exact absurd z (by decide)
  · rw [hst r hr] at z
    exact absurd z (by decide)
  · rw [hst r hr] at z
    exact absurd z (by decide)
  · rw [cnt_0 (fun r hr z => z (hwa r hr)), cnt_0 (fun s hs z => z (hsa s hs))]
  · rw [w, cnt_0 (fun r hr z => ?_)]
    · rfl
    · rw [hst r hr] at z
      exact absurd z (by decide)
  · rw [n, cnt_0 (fun s hs z => z (het s hs))]
    rfl
/-- both sides cleared -/
theorem Rel_clear {σ τ : St} (h : Rel σ τ) (v : Int32) (hv : ¬ v = 0 → ¬ τ.1 1 = 0) : Rel (pI (frI σ) 700 v) (crM (pI τ 26 v)) := by
  have f32 : σ.2 710 = τ.2 32 := h.a0.a (by decide)
  have f33 : σ.2 800 = τ.2 33 := h.a0.a (by decide)
  refine ⟨⟨fun p hp => ?_, fun p hp => ?_⟩, h.a1, h.a2, h.a3, h.a4, h.a5, h.a6, h.a7, RQ_clear hv rfl rfl rfl rfl rfl rfl (fun r hr => fil_in hr) (fun r hr => fil_in hr) (fun r hr => fil_in hr) (fun r hr => fil_in hr) (fun r hr => fil_in hr)⟩
  · simp only [IP, List.mem_cons, List.not_mem_nil, or_false] at hp
    rcases hp with rfl | rfl | rfl | rfl | rfl | rfl | rfl | rfl | rfl | rfl | rfl
    all_goals first | exact h.a0.i (by decide) | rfl
  · simp only [AP, List.mem_cons, List.not_mem_nil, or_false] at hp
    rcases hp with rfl | rfl | rfl | rfl | rfl | rfl | rfl | rfl | rfl | rfl | rfl | rfl | rfl | rfl | rfl | rfl | rfl | rfl | rfl | rfl | rfl | rfl | rfl | rfl
    all_goals first | exact h.a0.a (by decide) | exact congrArg (fun f => fil f 16 0) f32 | exact congrArg (fun f => fil f 64 0) f33
theorem T_race {σ τ : St} (h : Rel σ τ) : wpI_X10_race σ (fun r σ' => wpM_race τ (fun r' τ' => r = r' ∧ Rel σ' τ')) := by
  have e : σ.1 100 = τ.1 1 := h.a0.i (by decide)
  refine ⟨fun z => ⟨fun _ => ⟨rfl, h.th 0⟩, fun q => absurd (e.symm.trans z) q⟩, fun q => ⟨fun g => I_forget ?_, fun g => ⟨fun z => absurd (e.trans z) q, fun _ => M_isOn (h.th 0) (bz_br (fun z => absurd g z) (fun _ => ⟨rfl, h.th 0⟩))⟩⟩⟩
  refine ⟨fun z => absurd (e.trans z) q, fun _ => M_isOn (h.th 0) (bz_br (fun _ => M_clears ⟨rfl, ?_⟩) (fun z => absurd g z))⟩
  exact Rel_clear (h.th 0) 1 (fun _ z => q (e.trans z))
/-! ===== what is shown ===== -/
theorem in_vp {x m : Int32} {n : Nat} (hm : m.toInt + 1 = n) : (0 ≤ x ∧ x ≤ m) ↔ vp_in x n := by
  rw [vp_in_iff, Int32.le_iff_toInt_le, Int32.le_iff_toInt_le, Int32.toInt_zero]
  omega
def DNp (dn : Nat → Int32) (x s : Int32) : Prop := vp_in x 4 ∧ vp_in s 16 ∧ ¬ dn (16 * x.toNatClampNeg + s.toNatClampNeg) = 0
theorem DN_n {dn : Nat → Int32} {r j : Nat} (hr : r < 4) (hj : j < 16) : DNp dn (nI r) (nI j) ↔ ¬ dn (16 * r + j) = 0 := by
  unfold DNp
  rw [nI_clamp (by omega), nI_clamp (by omega)]
  exact ⟨fun h => h.2.2, fun h => ⟨vp_in_nI hr (by omega), vp_in_nI hj (by omega), h⟩⟩
theorem ln_eq {r j : Nat} : nI r * 16 + nI j = nI (16 * r + j) := by rw [show (16 : Int32) = nI 16 from rfl, pk_mul, nI_add, Nat.mul_comm]
theorem ln_eqM {r j : Nat} : 16 * nI r + nI j = nI (16 * r + j) := by rw [show (16 : Int32) = nI 16 from rfl, pk_mul, nI_add]
theorem sp_eq {r j g : Nat} : (nI r * 16 + nI j) * 6 + nI g = nI (6 * (16 * r + j) + g) := by rw [ln_eq, show (6 : Int32) = nI 6 from rfl, pk_mul, nI_add, Nat.mul_comm]
theorem sp_eqM {r j g : Nat} : 6 * (16 * nI r + nI j) + nI g = nI (6 * (16 * r + j) + g) := by rw [ln_eqM, show (6 : Int32) = nI 6 from rfl, pk_mul, nI_add]
theorem I_line {σ : St} {r j : Nat} {post : Int32 → St → Prop} (h : post (nI (16 * r + j)) σ) : wpI_X4_line (nI r) (nI j) σ post := by
  unfold wpI_X4_line
  rw [ln_eq]
  exact h
theorem I_spot {σ : St} {r j g : Nat} {post : Int32 → St → Prop} (h : post (nI (6 * (16 * r + j) + g)) σ) : wpI_X4_spot (nI r) (nI j) (nI g) σ post := by
  show post ((nI r * 16 + nI j) * 6 + nI g) σ
  rw [sp_eq]
  exact h
theorem I_timeAt {σ : St} {r j g : Nat} {post : Int32 → St → Prop} (hr : r < 4) (hj : j < 16) (hg : g < 6) (h : post (σ.2 803 (6 * (16 * r + j) + g)) σ) : wpI_X4_timeAt (nI r) (nI j) (nI g) σ post := by
  refine I_spot ⟨vp_in_nI (by omega) (by omega), ?_⟩
  rw [nI_clamp (by omega)]
  exact h
theorem I_doubleAt {σ : St} {r j g : Nat} {post : Int32 → St → Prop} (hr : r < 4) (hj : j < 16) (hg : g < 6) (h : post (σ.2 804 (6 * (16 * r + j) + g)) σ) : wpI_X4_doubleAt (nI r) (nI j) (nI g) σ post := by
  refine I_spot ⟨vp_in_nI (by omega) (by omega), ?_⟩
  rw [nI_clamp (by omega)]
  exact h
theorem I_totalOf {σ : St} {r j : Nat} {post : Int32 → St → Prop} (hr : r < 4) (hj : j < 16) (h : post (σ.2 801 (16 * r + j)) σ) : wpI_X4_totalOf (nI r) (nI j) σ post := by
  refine I_line ⟨vp_in_nI (by omega) (by omega), ?_⟩
  rw [nI_clamp (by omega)]
  exact h
theorem I_isTimed {σ : St} {r j g : Nat} {post : Int32 → St → Prop} (hr : r < 4) (hj : j < 16) (hg : g < 6) (h : post (bz (¬ σ.2 803 (6 * (16 * r + j) + g) = -1000000)) σ) : wpI_X4_isTimed (nI r) (nI j) (nI g) σ post := by
  refine I_timeAt hr hj hg ⟨fun z => ⟨.inl rfl, ?_⟩, fun z => ⟨.inr rfl, ?_⟩⟩
  · rw [bz_f (fun c => c z)] at h
    exact h
  · rw [bz_t z] at h
    exact h
theorem I_hasDown {σ : St} {x s : Int32} {post : Int32 → St → Prop} (h : post (bz (DNp (σ.2 800) x s)) σ) : wpI_X4_hasDown x s σ post := by
  refine I_in (bz_br (fun q => ⟨.inl rfl, ?_⟩) (fun q => I_in (bz_br (fun q2 => ⟨.inl rfl, ?_⟩) (fun q2 => ?_))))
  · rw [bz_f (fun c => q ((in_vp (by decide)).mpr c.1))] at h
    exact h
  · rw [bz_f (fun c => q2 ((in_vp (by decide)).mpr c.2.1))] at h
    exact h
  · obtain ⟨r, -, hr, rfl⟩ := rng (l := 0) (h := 3) rfl rfl (by omega) (by omega) q
    obtain ⟨j, -, hj, rfl⟩ := rng (l := 0) (h := 15) rfl rfl (by omega) (by omega) q2
    rw [bz_c (DN_n (by omega) (by omega))] at h
    refine I_line ?_
    rw [nI_clamp (by omega)]
    refine ⟨vp_in_nI (by omega) (by omega), fun z => ⟨.inl rfl, ?_⟩, fun z => ⟨.inr rfl, ?_⟩⟩
    · rw [bz_f (fun c => c z)] at h
      exact h
    · rw [bz_t z] at h
      exact h
def WHp (wa : Nat → Int32) (n x : Int32) : Prop := vp_in x 4 ∧ ¬ wa x.toNatClampNeg = -1 ∧ ¬ n ≤ wa x.toNatClampNeg
theorem I_isWholeBy {σ : St} {x n : Int32} {post : Int32 → St → Prop} (h : post (bz (WHp (σ.2 712) n x)) σ) : wpI_X2_isWholeBy x n σ post := by
  refine I_in (bz_br (fun q => ⟨.inl rfl, ?_⟩) (fun q => ?_))
  · rw [bz_f (fun c => q ((in_vp (by decide)).mpr c.1))] at h
    exact h
  · have v := (in_vp (n := 4) (by decide)).mp q
    refine ⟨v, fun z => ⟨.inl rfl, ?_⟩, fun z => ⟨v, fun z2 => ⟨.inl rfl, ?_⟩, fun z2 => ⟨.inr rfl, ?_⟩⟩⟩
    · rw [bz_f (fun c => c.2.1 z)] at h
      exact h
    · rw [bz_f (fun c => c.2.2 z2)] at h
      exact h
    · rw [bz_t ⟨v, z, z2⟩] at h
      exact h
theorem Rel.whole {σ τ : St} (h : Rel σ τ) {x : Int32} : WHp (σ.2 712) (σ.1 705) x ↔ vp_in x 4 ∧ τ.2 28 x.toNatClampNeg = 2 := by
  have ev : σ.1 705 = τ.1 39 := h.a0.i (by decide)
  constructor
  · rintro ⟨v, h1, -⟩
    obtain ⟨r, hr, rfl⟩ := vp_x v (by omega)
    rw [nI_clamp (by omega)] at h1 ⊢
    exact ⟨v, Classical.not_not.mp (fun z => h1 ((h.a8.b3 r hr).mpr z))⟩
  · rintro ⟨v, h1⟩
    obtain ⟨r, hr, rfl⟩ := vp_x v (by omega)
    rw [nI_clamp (by omega)] at h1
    have h2 : ¬ σ.2 712 r = -1 := fun z => (h.a8.b3 r hr).mp z h1
    refine ⟨v, by rw [nI_clamp (by omega)]; exact h2, ?_⟩
    obtain ⟨n, en, ec, -, hw, -⟩ := h.a8.b4
    have hn : n ≤ 20 := by
      have a := cnt_le (fun r => ¬ σ.2 712 r = -1) 4
      have b := cnt_le (fun s => ¬ σ.2 711 s = -1) 16
      omega
    rcases hw r hr with z | ⟨k, hk, e1, -⟩
    · exact absurd z h2
    · rw [nI_clamp (by omega), e1, ev, en]
      exact nI_ge (by omega) (by omega)
theorem I_isWhole {σ τ : St} {x : Int32} {post : Int32 → St → Prop} (hr : Rel σ τ) (h : post (bz (vp_in x 4 ∧ τ.2 28 x.toNatClampNeg = 2)) σ) : wpI_X2_isWhole x σ post := by
  refine I_isWholeBy ⟨bz_o, ?_⟩
  rw [bz_c hr.whole]
  exact h
/-- a sled came down in a run that goes on or is whole -/
def HC (τ : St) (x s : Int32) : Prop := DNp (τ.2 33) x s ∧ (τ.2 28 x.toNatClampNeg = 1 ∨ τ.2 28 x.toNatClampNeg = 2)
theorem M_hasCome {σ τ : St} {x s : Int32} {post : Int32 → St → Prop} (h : Rel σ τ) (hp : post (bz (HC τ x s)) τ) : wpM_hasCome x s τ post := by
  obtain ⟨n, hru, hn, hst⟩ := h.a8.b1
  obtain ⟨m, hm16, hm⟩ := h.sleds
  have f0 : ¬ HC τ x s → wpM_hasCome_73 τ post := fun z => ⟨.inl rfl, by rw [bz_f z] at hp; exact hp⟩
  have lt : HC τ x s → ∃ r, r < n ∧ r < 4 ∧ x = nI r ∧ ∃ j, j < m ∧ j < 16 ∧ s = nI j := by
    rintro ⟨c, -⟩
    obtain ⟨r, hr, rfl⟩ := vp_x c.1 (by omega)
    obtain ⟨j, hj, rfl⟩ := vp_x c.2.1 (by omega)
    have d := h.a8.b7 r hr j hj ((DN_n hr hj).mp c)
    rw [hru, hm, nI_ltI (by omega) (by omega), nI_ltI (by omega) (by omega)] at d
    exact ⟨r, d.1, hr, rfl, j, d.2.1, hj, rfl⟩
  refine ⟨fun z => f0 (fun c => ?_), fun _ => M_in (bz_br (fun q => f0 (fun c => q ?_)) (fun q => ?_))⟩
  · obtain ⟨r, hr, -⟩ := lt c
    have := (h.a8.b0.2 z).1
    rw [hru] at this
    have := (nI_eq (b := 0) (by omega) (by omega)).mp this
    omega
  · obtain ⟨r, hr, -, rfl, -⟩ := lt c
    rw [hru, nI_s1 (by omega)]
    exact ⟨nI_pos' (by omega), nI_le (by omega) (by omega)⟩
  · rw [hru] at q
    obtain ⟨r, hr, rfl⟩ := in_of (by omega) q
    have v4 : vp_in (nI r) 4 := vp_in_nI (by omega) (by omega)
    have k41 : τ.2 28 r = 1 ∨ τ.2 28 r = 2 → wpM_hasCome_41 (nI r) s τ post := by
      intro k
      refine M_in (bz_br (fun q => f0 (fun c => q ?_)) (fun q => ?_))
      · obtain ⟨-, -, -, -, j, hj, -, rfl⟩ := lt c
        rw [hm, nI_s1 (by omega)]
        exact ⟨nI_pos' (by omega), nI_le (by omega) (by omega)⟩
      · rw [hm] at q
        obtain ⟨j, hj, rfl⟩ := in_of (by omega) q
        rw [ln_eqM, nI_clamp (by omega)]
        refine ⟨vp_in_nI (by omega) (by omega), fun z => f0 (fun c => (DN_n (by omega) (by omega)).mp c.1 z), fun z => ⟨.inr rfl, ?_⟩⟩
        rw [bz_t ⟨(DN_n (by omega) (by omega)).mpr z, by rw [nI_clamp (by omega)]; exact k⟩] at hp
        exact hp
    rw [nI_clamp (by omega)]
    refine ⟨v4, fun z => k41 (Or.inl z), fun z => ⟨v4, fun z2 => f0 (fun c => ?_), fun z2 => k41 (Or.inr z2)⟩⟩
    have := c.2
    rw [nI_clamp (by omega)] at this
    exact this.elim z z2
theorem I_isShown {σ τ : St} {x s g : Int32} {post : Int32 → St → Prop} (h : Rel σ τ) (hp : post (bz (HC τ x s ∧ (0 ≤ g ∧ g ≤ τ.1 2 - 1))) σ) : wpI_X10_isShown x s g σ post := by
  have eg : σ.1 101 = τ.1 2 := h.a0.i (by decide)
  have ed : σ.2 800 = τ.2 33 := h.a0.a (by decide)
  have no : ¬ (HC τ x s ∧ (0 ≤ g ∧ g ≤ τ.1 2 - 1)) → wpI_X10_isShown_75 σ post := fun z => ⟨.inl rfl, by rw [bz_f z] at hp; exact hp⟩
  have n0 : ¬ HC τ x s → wpI_X10_isShown_31 x s g σ post := fun z => ⟨fun _ => no (fun c => z c.1), fun q => absurd rfl q⟩
  have n1 : vp_in x 4 → (τ.2 28 x.toNatClampNeg = 1 ∨ τ.2 28 x.toNatClampNeg = 2) → wpI_X10_isShown_27 x s g σ post := by
    intro v k
    refine ⟨fun q => absurd q (by decide), fun _ => I_hasDown ?_⟩
    rw [ed]
    refine bz_br (fun q => no (fun c => q c.1.1)) (fun q => I_in ?_)
    rw [eg]
    refine bz_br (fun q2 => no (fun c => q2 c.2)) (fun q2 => ⟨.inr rfl, ?_⟩)
    rw [bz_t ⟨⟨q, k⟩, q2⟩] at hp
    exact hp
  refine I_isWhole h (bz_rb (fun q => n1 q.1 (Or.inr q.2)) (fun q => ⟨fun z => n0 (fun c => ?_), fun z => ⟨fun z2 => n0 (fun c => ?_), fun z2 => ?_⟩⟩))
  · subst z
    obtain ⟨j, hj, e⟩ := vp_x c.1.1 (by omega)
    exact nI_m1 (by omega) e.symm
  · obtain ⟨r, hr, rfl⟩ := vp_x c.1.1 (by omega)
    have c2 := c.2
    rw [nI_clamp (by omega)] at c2
    rcases c2 with c2 | c2
    · rcases h.a8.b2 with ⟨-, g1⟩ | ⟨r', hr', hg, -, hs⟩
      · exact g1 r hr c2
      · obtain ⟨n, -, -, hst⟩ := h.a8.b1
        have a := (hst r hr).2.2 c2
        have b := (hst r' hr').2.2 hs
        exact z2 (by rw [hg, show r = r' by omega])
    · exact q ⟨c.1.1, by rw [nI_clamp (by omega)]; exact c2⟩
  · obtain ⟨r, hr, hg, -, hs⟩ := h.go (fun k => z (z2.trans k))
    have ex : x = nI r := z2.trans hg
    subst ex
    exact n1 (vp_in_nI hr (by omega)) (Or.inl (by rw [nI_clamp (by omega)]; exact hs))
theorem HC.nat {σ τ : St} {x s : Int32} (c : HC τ x s) : ∃ r j : Nat, r < 4 ∧ j < 16 ∧ x = nI r ∧ s = nI j := by
  obtain ⟨r, hr, rfl⟩ := vp_x c.1.1 (by omega)
  obtain ⟨j, hj, rfl⟩ := vp_x c.1.2.1 (by omega)
  exact ⟨r, j, hr, hj, rfl, rfl⟩
theorem T_time {σ τ : St} {x s g : Int32} (h : Rel σ τ) : wpI_X10_time x s g σ (fun r σ' => wpM_time x s g τ (fun r' τ' => r = r' ∧ Rel σ' τ')) := by
  have f : σ.2 803 = τ.2 34 := h.a0.a (by decide)
  refine I_isShown h (bz_rb (fun q => ?_) (fun q => ?_))
  · obtain ⟨r, j, hr, hj, rfl, rfl⟩ := q.1.nat (σ := σ)
    obtain ⟨m, hm6, hm⟩ := h.gates
    have q2 := q.2
    rw [hm] at q2
    obtain ⟨k, hk, rfl⟩ := in_of (by omega) q2
    refine I_timeAt hr hj (by omega) ?_
    rw [f]
    have v : vp_in (nI (6 * (16 * r + j) + k)) 384 := vp_in_nI (by omega) (by omega)
    have hM : ∀ post : Int32 → St → Prop, ((¬ τ.2 34 (6 * (16 * r + j) + k) = -1000000 → post (τ.2 34 (6 * (16 * r + j) + k)) (pI τ 0 0)) ∧ (τ.2 34 (6 * (16 * r + j) + k) = -1000000 → post (-1) (pI τ 0 0))) → wpM_time (nI r) (nI j) (nI k) τ post := by
      intro post hp
      refine M_hasCome (h.th 0) (bz_br (fun z => absurd q.1 z) (fun _ => M_in (bz_rb (fun _ => ?_) (fun z => absurd q.2 z))))
      rw [sp_eqM, nI_clamp (by omega)]
      exact ⟨v, hp⟩
    exact ⟨fun z => hM _ ⟨fun _ => ⟨rfl, h.th 0⟩, fun z2 => absurd z2 z⟩, fun z => hM _ ⟨fun z2 => absurd z z2, fun _ => ⟨rfl, h.th 0⟩⟩⟩
  · exact M_hasCome (h.th 0) (bz_br (fun _ => ⟨rfl, h.th 0⟩) (fun q1 => M_in (bz_rb (fun q2 => absurd ⟨q1, q2⟩ q) (fun _ => ⟨rfl, h.th 0⟩))))
theorem T_twice {σ τ : St} {x s g : Int32} (h : Rel σ τ) : wpI_X10_twice x s g σ (fun r σ' => wpM_twice x s g τ (fun r' τ' => r = r' ∧ Rel σ' τ')) := by
  have f : σ.2 804 = τ.2 35 := h.a0.a (by decide)
  refine I_isShown h (bz_br (fun q => ?_) (fun q => ?_))
  · exact M_hasCome (h.th 0) (bz_br (fun _ => ⟨rfl, h.th 0⟩) (fun q1 => M_in (bz_br (fun _ => ⟨rfl, h.th 0⟩) (fun q2 => absurd ⟨q1, q2⟩ q))))
  · obtain ⟨r, j, hr, hj, rfl, rfl⟩ := q.1.nat (σ := σ)
    obtain ⟨m, hm6, hm⟩ := h.gates
    have q2 := q.2
    rw [hm] at q2
    obtain ⟨k, hk, rfl⟩ := in_of (by omega) q2
    refine I_doubleAt hr hj (by omega) ?_
    rw [f]
    have v : vp_in (nI (6 * (16 * r + j) + k)) 384 := vp_in_nI (by omega) (by omega)
    refine M_hasCome (h.th 0) (bz_br (fun z => absurd q.1 z) (fun _ => M_in (bz_br (fun z => absurd q.2 z) (fun _ => ?_))))
    rw [sp_eqM, nI_clamp (by omega)]
    exact ⟨v, rfl, h.th 0⟩

/-! order -/
theorem T_order {σ τ : St} {x : Int32} (h : Rel σ τ) : wpI_X10_order x σ (fun r σ' => wpM_order x τ (fun r' τ' => r = r' ∧ Rel σ' τ')) := by
  have e : σ.1 703 = τ.1 30 := h.a0.i (by decide)
  have f : σ.2 708 = τ.2 29 := h.a0.a (by decide)
  obtain ⟨m, hm, hm16, -⟩ := h.a8.b8
  refine I_in (bz_br (fun q => ?_) (fun q => ?_))
  · rw [e] at q
    exact ⟨fun _ => ⟨rfl, h.th 0⟩, fun _ => M_in (bz_br (fun _ => ⟨rfl, h.th 0⟩) (fun q' => absurd q' q))⟩
  · rw [e] at q
    have q' := q
    rw [hm] at q'
    obtain ⟨j, hj, rfl⟩ := in_of (by omega) q'
    have v : vp_in (nI j) 16 := vp_in_nI (by omega) (by omega)
    refine ⟨v, fun z => ?_, fun _ => M_in (bz_br (fun q2 => absurd q q2) (fun _ => ⟨v, congrFun f _, h.th 0⟩))⟩
    have := (h.a8.b0.2 z).2
    rw [hm] at this
    have := (nI_eq (b := 0) (by omega) (by omega)).mp this
    omega
/-! shut -/
theorem T_shut {σ τ : St} (h : Rel σ τ) : wpI_X10_shut σ (fun r σ' => wpM_shut τ (fun r' τ' => r = r' ∧ Rel σ' τ')) := by
  refine ⟨fun q => ?_, fun q => M_isOn (h.th 0) (bz_rb (fun q' => absurd q q') (fun _ => ⟨rfl, h.th 0⟩))⟩
  refine M_isOn (h.th 0) (bz_rb (fun _ => ?_) (fun q' => absurd q q'))
  obtain ⟨r, hr, hg, hru, hs⟩ := h.go q
  obtain ⟨n, hn, hn4, hst⟩ := h.a8.b1
  have en : n = r + 1 := (nI_eq (by omega) (by omega)).mp (hn.symm.trans hru)
  have hix : (τ.1 27 - 1).toNatClampNeg = r := by rw [hru, nI_pred]; exact nI_clamp (by omega)
  refine ⟨by show vp_in (τ.1 27 - 1) 4; rw [hru, nI_pred]; exact vp_in_nI hr (by omega), ?_⟩
  show σ.1 704 = τ.1 31 ∧ Rel (pI σ 702 (-1)) (pA (pI τ 0 0) 28 (τ.1 27 - 1).toNatClampNeg 3)
  rw [hix]
  refine ⟨h.a0.i (by decide), ((h.th 0).a0.uIl (k := 702) (by decide) _).uAr (k := 28) (by decide) _ _, h.a1, h.a2, h.a3, h.a4, h.a5, h.a6, h.a7, h.a8.b0, ⟨n, hn, hn4, fun r' hr' => ?_⟩, Or.inl ⟨rfl, fun r' hr' => ?_⟩, fun r' hr' => ?_, h.a8.b4, ⟨?_, h.a8.b5.2⟩, h.a8.b6, h.a8.b7, ?_⟩
  · show (r' < n → upd (τ.2 28) r 3 r' = 1 ∨ upd (τ.2 28) r 3 r' = 2 ∨ upd (τ.2 28) r 3 r' = 3) ∧ (n ≤ r' → upd (τ.2 28) r 3 r' = 0) ∧ (upd (τ.2 28) r 3 r' = 1 → r' + 1 = n)
    by_cases k : r' = r
    · rw [k, pk_us]
      exact ⟨fun _ => Or.inr (Or.inr rfl), fun z => by omega, fun z => absurd z (by decide)⟩
    · rw [pk_un k]
      exact hst r' hr'
  · show ¬ upd (τ.2 28) r 3 r' = 1
    by_cases k : r' = r
    · rw [k, pk_us]
      decide
    · rw [pk_un k]
      intro z
      have := (hst r' hr').2.2 z
      omega
  · show σ.2 712 r' = -1 ↔ ¬ upd (τ.2 28) r 3 r' = 2
    by_cases k : r' = r
    · rw [k, pk_us]
      exact ⟨fun _ => by decide, fun _ => (h.a8.b3 r hr).mpr (by rw [hs]; decide)⟩
    · rw [pk_un k]
      exact h.a8.b3 r' hr'
  · show σ.1 706 = nI (cnt (fun r' => upd (τ.2 28) r 3 r' = 2) 4)
    rw [h.a8.b5.1]
    refine congrArg nI (cnt_c (fun r' hr' => ?_))
    by_cases k : r' = r
    · rw [k, pk_us, hs]
      exact ⟨fun z => absurd z (by decide), fun z => absurd z (by decide)⟩
    · rw [pk_un k]
  · obtain ⟨m, h1, h2, h3, -⟩ := h.a8.b8
    exact ⟨m, h1, h2, h3, fun z => absurd rfl z⟩
/-! sums, counts in loops -/
def sm (f : Nat → Int32) : Nat → Int32
  | 0 => 0
  | n + 1 => sm f n + f n
theorem sm_c {f g : Nat → Int32} : ∀ {n : Nat}, (∀ i, i < n → f i = g i) → sm f n = sm g n
  | 0, _ => rfl
  | n + 1, h => by
    show sm f n + f n = sm g n + g n
    rw [sm_c (n := n) (fun i hi => h i (by omega)), h n (by omega)]
theorem i_add0 (x : Int32) : x + 0 = x := Int32.add_zero x
/-! points -/
theorem T_points {σ τ : St} {x y : Int32} (h : Rel σ τ) : wpI_X10_points x y σ (fun r σ' => wpM_points x y τ (fun r' τ' => r = r' ∧ Rel σ' τ')) := by
  have e : σ.1 300 = τ.1 13 := h.a0.i (by decide)
  have f : σ.2 305 = τ.2 18 := h.a0.a (by decide)
  have f1 : σ.2 301 = τ.2 14 := h.a0.a (by decide)
  obtain ⟨n, hn16, hn⟩ := h.sleds
  refine ⟨fun x0 => ⟨fun x1 => ⟨fun _ => ⟨fun _ => ⟨rfl, h.th 0⟩, fun z => absurd z x1⟩, fun z => absurd z x0⟩, fun x1 => I_in (bz_br (fun q => ?_) (fun q => ?_))⟩, fun x0 => I_in ⟨bz_o, bz_br (fun q => ?_) (fun q => ?_)⟩⟩
  · exact ⟨fun _ => ⟨fun z => absurd x1 z, fun _ => M_in (bz_rb (fun q' => absurd q' q) (fun _ => ⟨rfl, h.th 0⟩))⟩, fun z => absurd z x0⟩
  · refine lp_c0 (fun i => (y, sm (fun s => if τ.2 14 s = y then τ.2 18 s else 0) i, nI i, σ)) n rfl ?_ ?_
    · intro kb
      try dsimp only
      unfold wpBI_X5_pointsOfTeam_4 wpI_X5_pointsOfTeam_31
      refine pk_le n n (fun _ => ?_) (fun z => absurd z (Nat.lt_irrefl n)) (e.trans hn)
      refine ⟨fun _ => ⟨fun z => absurd x1 z, fun _ => M_in (bz_rb (fun _ => ?_) (fun z => absurd q z))⟩, fun z => absurd z x0⟩
      refine lp_c0 (fun i => (y, sm (fun s => if τ.2 14 s = y then τ.2 18 s else 0) i, nI i, pI τ 0 0)) n rfl ?_ ?_
      · intro kb
        try dsimp only
        unfold wpBM_points_55 wpM_points_87
        exact pk_le n n (fun _ => ⟨rfl, h.th 0⟩) (fun z => absurd z (Nat.lt_irrefl n)) hn
      · intro i kb hi hk
        try dsimp only
        unfold wpBM_points_55 wpM_points_87
        have v : vp_in (nI i) 16 := vp_in_nI (by omega) (by omega)
        refine pk_le n i (fun z => absurd z (by omega)) (fun _ => ⟨v, fun z => kb_eq hk ?_, fun z => ⟨v, kb_eq hk ?_⟩⟩) hn
        · rw [nI_clamp (by omega)] at z
          show (y, sm (fun s => if τ.2 14 s = y then τ.2 18 s else 0) i + 0, nI i + 1, pI τ 0 0) = (y, sm (fun s => if τ.2 14 s = y then τ.2 18 s else 0) i + (if τ.2 14 i = y then τ.2 18 i else 0), nI (i + 1), pI τ 0 0)
          rw [if_neg (show ¬ τ.2 14 i = y from z), nI_1]
        · rw [nI_clamp (by omega)] at z ⊢
          show (y, sm (fun s => if τ.2 14 s = y then τ.2 18 s else 0) i + τ.2 18 i, nI i + 1, pI τ 0 0) = (y, sm (fun s => if τ.2 14 s = y then τ.2 18 s else 0) i + (if τ.2 14 i = y then τ.2 18 i else 0), nI (i + 1), pI τ 0 0)
          rw [if_pos (show τ.2 14 i = y from z), nI_1]
    · intro i kb hi hk
      try dsimp only
      unfold wpBI_X5_pointsOfTeam_4 wpI_X5_pointsOfTeam_31
      have v : vp_in (nI i) 16 := vp_in_nI (by omega) (by omega)
      refine pk_le n i (fun z => absurd z (by omega)) (fun _ => ⟨v, fun z => kb_eq hk ?_, fun z => ⟨v, kb_eq hk ?_⟩⟩) (e.trans hn)
      · rw [nI_clamp (by omega), f1] at z
        show (y, sm (fun s => if τ.2 14 s = y then τ.2 18 s else 0) i, nI i + 1, σ) = (y, sm (fun s => if τ.2 14 s = y then τ.2 18 s else 0) i + (if τ.2 14 i = y then τ.2 18 i else 0), nI (i + 1), σ)
        rw [if_neg z, nI_1, i_add0]
      · rw [nI_clamp (by omega), f1] at z
        rw [nI_clamp (by omega), f]
        show (y, sm (fun s => if τ.2 14 s = y then τ.2 18 s else 0) i + τ.2 18 i, nI i + 1, σ) = (y, sm (fun s => if τ.2 14 s = y then τ.2 18 s else 0) i + (if τ.2 14 i = y then τ.2 18 i else 0), nI (i + 1), σ)
        rw [if_pos z, nI_1]
  · rw [e] at q
    exact ⟨fun z => absurd x0 z, fun _ => M_in (bz_br (fun _ => ⟨rfl, h.th 0⟩) (fun z => absurd z q))⟩
  · rw [e] at q
    have q' := q
    rw [hn] at q'
    obtain ⟨j, hj, rfl⟩ := in_of (by omega) q'
    have v : vp_in (nI j) 16 := vp_in_nI (by omega) (by omega)
    exact ⟨v, fun z => absurd x0 z, fun _ => M_in (bz_br (fun z => absurd q z) (fun _ => ⟨v, congrFun f _, h.th 0⟩))⟩
/-! count -/
theorem M_cnt5 {τ : St} {n : Nat} {post : Int32 → St → Prop} (hn : n ≤ 4) (e : τ.1 27 = nI n) (h : post (nI (cnt (fun r => τ.2 28 r = 2) n)) τ) : wpM_count_103 0 0 τ post := by
  refine lp_c0 (fun i => (nI (cnt (fun r => τ.2 28 r = 2) i), nI i, τ)) n rfl ?_ ?_
  · intro kb
    try dsimp only
    unfold wpBM_count_103 wpM_count_127
    exact pk_le n n (fun _ => h) (fun z => absurd z (Nat.lt_irrefl n)) e
  · intro i kb hi hk
    try dsimp only
    unfold wpBM_count_103 wpM_count_127
    refine pk_le n i (fun z => absurd z (by omega)) (fun _ => ⟨vp_in_nI (by omega) (by omega), fun z => kb_eq hk ?_, fun z => kb_eq hk ?_⟩) e
    · rw [nI_clamp (by omega)] at z
      show (nI (cnt (fun r => τ.2 28 r = 2) i) + 0, nI i + 1, τ) = (nI (cnt (fun r => τ.2 28 r = 2) (i + 1)), nI (i + 1), τ)
      rw [cnt_f z, nI_1, i_add0]
    · rw [nI_clamp (by omega)] at z
      show (nI (cnt (fun r => τ.2 28 r = 2) i) + 1, nI i + 1, τ) = (nI (cnt (fun r => τ.2 28 r = 2) (i + 1)), nI (i + 1), τ)
      rw [cnt_t (p := fun r => τ.2 28 r = 2) z, nI_1, nI_1]
theorem M_cnt10 {τ : St} {n : Nat} {post : Int32 → St → Prop} (hn : n ≤ 16) (e : τ.1 13 = nI n) (h : post (nI (cnt (fun s => ¬ τ.2 32 s = 0) n)) τ) : wpM_count_183 0 0 τ post := by
  refine lp_c0 (fun i => (nI (cnt (fun s => ¬ τ.2 32 s = 0) i), nI i, τ)) n rfl ?_ ?_
  · intro kb
    try dsimp only
    unfold wpBM_count_183 wpM_count_206
    exact pk_le n n (fun _ => h) (fun z => absurd z (Nat.lt_irrefl n)) e
  · intro i kb hi hk
    try dsimp only
    unfold wpBM_count_183 wpM_count_206
    refine pk_le n i (fun z => absurd z (by omega)) (fun _ => ⟨vp_in_nI (by omega) (by omega), fun z => kb_eq hk ?_, fun z => kb_eq hk ?_⟩) e
    · rw [nI_clamp (by omega)] at z
      show (nI (cnt (fun s => ¬ τ.2 32 s = 0) i) + 0, nI i + 1, τ) = (nI (cnt (fun s => ¬ τ.2 32 s = 0) (i + 1)), nI (i + 1), τ)
      rw [cnt_f (p := fun s => ¬ τ.2 32 s = 0) (fun w => w z), nI_1, i_add0]
    · rw [nI_clamp (by omega)] at z
      show (nI (cnt (fun s => ¬ τ.2 32 s = 0) i) + 1, nI i + 1, τ) = (nI (cnt (fun s => ¬ τ.2 32 s = 0) (i + 1)), nI (i + 1), τ)
      rw [cnt_t (p := fun s => ¬ τ.2 32 s = 0) z, nI_1, nI_1]
theorem Rel.wholes {σ τ : St} (h : Rel σ τ) {n : Nat} (hn : τ.1 27 = nI n) (h4 : n ≤ 4) : cnt (fun r => τ.2 28 r = 2) n = cnt (fun r => τ.2 28 r = 2) 4 := by
  obtain ⟨n', e, h4', hst⟩ := h.a8.b1
  have en : n = n' := (nI_eq (by omega) (by omega)).mp (hn.symm.trans e)
  subst en
  have := cnt_grow (p := fun r => τ.2 28 r = 2) (n := n) (4 - n) (fun i h1 h2 z => by
    have := (hst i (by omega)).2.1 h1
    rw [this] at z
    exact absurd z (by decide))
  rw [show n + (4 - n) = 4 by omega] at this
  exact this.symm
theorem Rel.entries {σ τ : St} (h : Rel σ τ) {n : Nat} (hn : τ.1 13 = nI n) (h16 : n ≤ 16) : cnt (fun s => ¬ τ.2 32 s = 0) n = cnt (fun s => ¬ τ.2 32 s = 0) 16 := by
  have := cnt_grow (p := fun s => ¬ τ.2 32 s = 0) (n := n) (16 - n) (fun i h1 h2 z => by
    have := (h.a8.b6 i (by omega) z).1
    rw [hn, nI_ltI (by omega) (by omega)] at this
    omega)
  rw [show n + (16 - n) = 16 by omega] at this
  exact this.symm
theorem T_count {σ τ : St} {x : Int32} (h : Rel σ τ) : wpI_X10_count x σ (fun r σ' => wpM_count x τ (fun r' τ' => r = r' ∧ Rel σ' τ')) := by
  have e0 : σ.1 100 = τ.1 1 := h.a0.i (by decide)
  have e1 : σ.1 101 = τ.1 2 := h.a0.i (by decide)
  have e2 : σ.1 300 = τ.1 13 := h.a0.i (by decide)
  have e3 : σ.1 400 = τ.1 22 := h.a0.i (by decide)
  have e8 : σ.1 705 = τ.1 39 := h.a0.i (by decide)
  have e9 : σ.1 7 = τ.1 40 := h.a0.i (by decide)
  have e4 : σ.1 700 = τ.1 26 := h.a0.i (by decide)
  have e7 : σ.1 704 = τ.1 31 := h.a0.i (by decide)
  obtain ⟨n, hn16, hn⟩ := h.sleds
  obtain ⟨m, hm, hm4, hst⟩ := h.a8.b1
  have g6 : ¬ σ.1 702 = -1 → σ.1 702 = τ.1 27 - 1 := fun q => by
    obtain ⟨r, -, hg, hru, -⟩ := h.go q
    rw [hg, hru, nI_pred]
  refine ⟨fun k => ?_, fun k => ?_, fun k => ?_, fun k => ?_, fun k => ?_, fun k => ?_, fun k => ?_, fun k => ?_, fun k => ?_, fun k => ?_, fun k => ?_, fun k0 k1 k2 k3 k4 k5 k6 k7 k8 k9 k10 => ?_⟩
  · subst k
    exact ⟨fun _ => ⟨e0, h.th 0⟩, fun z => absurd z (by decide), fun z => absurd z (by decide), fun z => absurd z (by decide), fun z => absurd z (by decide), fun z => absurd z (by decide), fun z => absurd z (by decide), fun z => absurd z (by decide), fun z => absurd z (by decide), fun z => absurd z (by decide), fun z => absurd z (by decide), fun z0 => absurd rfl z0⟩
  · subst k
    exact ⟨fun z => absurd z (by decide), fun _ => ⟨e1, h.th 0⟩, fun z => absurd z (by decide), fun z => absurd z (by decide), fun z => absurd z (by decide), fun z => absurd z (by decide), fun z => absurd z (by decide), fun z => absurd z (by decide), fun z => absurd z (by decide), fun z => absurd z (by decide), fun z => absurd z (by decide), fun z0 z1 => absurd rfl z1⟩
  · subst k
    exact ⟨fun z => absurd z (by decide), fun z => absurd z (by decide), fun _ => ⟨e2, h.th 0⟩, fun z => absurd z (by decide), fun z => absurd z (by decide), fun z => absurd z (by decide), fun z => absurd z (by decide), fun z => absurd z (by decide), fun z => absurd z (by decide), fun z => absurd z (by decide), fun z => absurd z (by decide), fun z0 z1 z2 => absurd rfl z2⟩
  · subst k
    exact ⟨fun z => absurd z (by decide), fun z => absurd z (by decide), fun z => absurd z (by decide), fun _ => ⟨e3, h.th 0⟩, fun z => absurd z (by decide), fun z => absurd z (by decide), fun z => absurd z (by decide), fun z => absurd z (by decide), fun z => absurd z (by decide), fun z => absurd z (by decide), fun z => absurd z (by decide), fun z0 z1 z2 z3 => absurd rfl z3⟩
  · subst k
    refine ⟨fun q => ?_, fun q => ?_⟩
    · exact ⟨fun z => absurd z (by decide), fun z => absurd z (by decide), fun z => absurd z (by decide), fun z => absurd z (by decide), fun _ => ⟨fun _ => ⟨rfl, h.th 0⟩, fun z => absurd (e4.symm.trans q) z⟩, fun z => absurd z (by decide), fun z => absurd z (by decide), fun z => absurd z (by decide), fun z => absurd z (by decide), fun z => absurd z (by decide), fun z => absurd z (by decide), fun z0 z1 z2 z3 z4 => absurd rfl z4⟩
    · exact ⟨fun z => absurd z (by decide), fun z => absurd z (by decide), fun z => absurd z (by decide), fun z => absurd z (by decide), fun _ => ⟨fun z => absurd (e4.trans z) q, fun _ => ⟨rfl, h.th 0⟩⟩, fun z => absurd z (by decide), fun z => absurd z (by decide), fun z => absurd z (by decide), fun z => absurd z (by decide), fun z => absurd z (by decide), fun z => absurd z (by decide), fun z0 z1 z2 z3 z4 => absurd rfl z4⟩
  · subst k
    exact ⟨fun z => absurd z (by decide), fun z => absurd z (by decide), fun z => absurd z (by decide), fun z => absurd z (by decide), fun z => absurd z (by decide), fun _ => M_cnt5 (τ := pI τ 0 0) hm4 hm ⟨by rw [h.a8.b5.1]; exact congrArg nI (h.wholes hm hm4).symm, h.th 0⟩, fun z => absurd z (by decide), fun z => absurd z (by decide), fun z => absurd z (by decide), fun z => absurd z (by decide), fun z => absurd z (by decide), fun z0 z1 z2 z3 z4 z5 => absurd rfl z5⟩
  · subst k
    exact ⟨fun z => absurd z (by decide), fun z => absurd z (by decide), fun z => absurd z (by decide), fun z => absurd z (by decide), fun z => absurd z (by decide), fun z => absurd z (by decide), fun _ => M_isOn (h.th 0) (bz_br (fun q => ⟨Classical.not_not.mp q, h.th 0⟩) (fun q => ⟨g6 q, h.th 0⟩)), fun z => absurd z (by decide), fun z => absurd z (by decide), fun z => absurd z (by decide), fun z => absurd z (by decide), fun z0 z1 z2 z3 z4 z5 z6 => absurd rfl z6⟩
  · subst k
    refine ⟨fun q => ?_, fun q => ?_⟩
    · exact ⟨fun z => absurd z (by decide), fun z => absurd z (by decide), fun z => absurd z (by decide), fun z => absurd z (by decide), fun z => absurd z (by decide), fun z => absurd z (by decide), fun z => absurd z (by decide), fun _ => M_isOn (h.th 0) (bz_br (fun z => absurd q z) (fun _ => ⟨e7, h.th 0⟩)), fun z => absurd z (by decide), fun z => absurd z (by decide), fun z => absurd z (by decide), fun z0 z1 z2 z3 z4 z5 z6 z7 => absurd rfl z7⟩
    · exact ⟨fun z => absurd z (by decide), fun z => absurd z (by decide), fun z => absurd z (by decide), fun z => absurd z (by decide), fun z => absurd z (by decide), fun z => absurd z (by decide), fun z => absurd z (by decide), fun _ => M_isOn (h.th 0) (bz_br (fun _ => ⟨rfl, h.th 0⟩) (fun z => absurd q z)), fun z => absurd z (by decide), fun z => absurd z (by decide), fun z => absurd z (by decide), fun z0 z1 z2 z3 z4 z5 z6 z7 => absurd rfl z7⟩
  · subst k
    exact ⟨fun z => absurd z (by decide), fun z => absurd z (by decide), fun z => absurd z (by decide), fun z => absurd z (by decide), fun z => absurd z (by decide), fun z => absurd z (by decide), fun z => absurd z (by decide), fun z => absurd z (by decide), fun _ => ⟨e8, h.th 0⟩, fun z => absurd z (by decide), fun z => absurd z (by decide), fun z0 z1 z2 z3 z4 z5 z6 z7 z8 => absurd rfl z8⟩
  · subst k
    exact ⟨fun z => absurd z (by decide), fun z => absurd z (by decide), fun z => absurd z (by decide), fun z => absurd z (by decide), fun z => absurd z (by decide), fun z => absurd z (by decide), fun z => absurd z (by decide), fun z => absurd z (by decide), fun z => absurd z (by decide), fun _ => ⟨e9, h.th 0⟩, fun z => absurd z (by decide), fun z0 z1 z2 z3 z4 z5 z6 z7 z8 z9 => absurd rfl z9⟩
  · subst k
    exact ⟨fun z => absurd z (by decide), fun z => absurd z (by decide), fun z => absurd z (by decide), fun z => absurd z (by decide), fun z => absurd z (by decide), fun z => absurd z (by decide), fun z => absurd z (by decide), fun z => absurd z (by decide), fun z => absurd z (by decide), fun z => absurd z (by decide), fun _ => M_cnt10 (τ := pI τ 0 0) hn16 hn ⟨by rw [h.a8.b5.2]; exact congrArg nI (h.entries hn hn16).symm, h.th 0⟩, fun z0 z1 z2 z3 z4 z5 z6 z7 z8 z9 z10 => absurd rfl z10⟩
  · exact ⟨fun z => absurd z k0, fun z => absurd z k1, fun z => absurd z k2, fun z => absurd z k3, fun z => absurd z k4, fun z => absurd z k5, fun z => absurd z k6, fun z => absurd z k7, fun z => absurd z k8, fun z => absurd z k9, fun z => absurd z k10, fun _ _ _ _ _ _ _ _ _ _ _ => ⟨rfl, h.th 0⟩⟩
/-! cell -/
theorem T_cell {σ τ : St} {x y : Int32} (h : Rel σ τ) : wpI_X10_cell x y σ (fun r σ' => wpM_cell x y τ (fun r' τ' => r = r' ∧ Rel σ' τ')) := by
  have e : σ.1 100 = τ.1 1 := h.a0.i (by decide)
  refine I_hasCell (bz_br (fun q => ?_) (fun q => ?_))
  · rw [e] at q
    exact M_isCell (bz_rb (fun q' => absurd q' q) (fun _ => ⟨rfl, h.th 0⟩))
  · rw [e] at q
    obtain ⟨n, hn, hc⟩ := h.cells
    have q' := q
    rw [hc] at q'
    obtain ⟨j, hj, rfl⟩ := in_of (by omega) q'
    have v : vp_in (nI j) 40 := vp_in_nI (by omega) (by omega)
    have f3 : σ.2 102 = τ.2 3 := h.a0.a (by decide)
    have f4 : σ.2 103 = τ.2 4 := h.a0.a (by decide)
    have f5 : σ.2 104 = τ.2 5 := h.a0.a (by decide)
    have f6 : σ.2 105 = τ.2 6 := h.a0.a (by decide)
    have f7 : σ.2 106 = τ.2 7 := h.a0.a (by decide)
    refine ⟨fun k => ?_, fun k => ?_, fun k => ?_, fun k => ?_, fun k => ?_, fun k0 k1 k2 k3 k4 => ?_⟩
    · subst k
      exact ⟨v, M_isCell (bz_rb (fun _ => ⟨fun _ => ⟨v, congrFun f3 _, h.th 0⟩, fun z => absurd z (by decide), fun z => absurd z (by decide), fun z => absurd z (by decide), fun z => absurd z (by decide), fun z0 => absurd rfl z0⟩) (fun n => absurd q n))⟩
    · subst k
      exact ⟨v, M_isCell (bz_rb (fun _ => ⟨fun z => absurd z (by decide), fun _ => ⟨v, congrFun f4 _, h.th 0⟩, fun z => absurd z (by decide), fun z => absurd z (by decide), fun z => absurd z (by decide), fun z0 z1 => absurd rfl z1⟩) (fun n => absurd q n))⟩
    · subst k
      exact ⟨v, M_isCell (bz_rb (fun _ => ⟨fun z => absurd z (by decide), fun z => absurd z (by decide), fun _ => ⟨v, congrFun f5 _, h.th 0⟩, fun z => absurd z (by decide), fun z => absurd z (by decide), fun z0 z1 z2 => absurd rfl z2⟩) (fun n => absurd q n))⟩
    · subst k
      exact ⟨v, M_isCell (bz_rb (fun _ => ⟨fun z => absurd z (by decide), fun z => absurd z (by decide), fun z => absurd z (by decide), fun _ => ⟨v, congrFun f6 _, h.th 0⟩, fun z => absurd z (by decide), fun z0 z1 z2 z3 => absurd rfl z3⟩) (fun n => absurd q n))⟩
    · subst k
      exact ⟨v, M_isCell (bz_rb (fun _ => ⟨fun z => absurd z (by decide), fun z => absurd z (by decide), fun z => absurd z (by decide), fun z => absurd z (by decide), fun _ => ⟨v, congrFun f7 _, h.th 0⟩, fun z0 z1 z2 z3 z4 => absurd rfl z4⟩) (fun n => absurd q n))⟩
    · exact M_isCell (bz_rb (fun _ => ⟨fun z => absurd z k0, fun z => absurd z k1, fun z => absurd z k2, fun z => absurd z k3, fun z => absurd z k4, fun _ _ _ _ _ => ⟨rfl, h.th 0⟩⟩) (fun n => absurd q n))

/-! ===== public methods, both sides: those without the race's standings ===== -/
theorem kb_eq {α : Type} {kb : α → Prop} {a b : α} (h : kb b) (e : a = b) : kb a := e ▸ h
theorem fil_v {f : Nat → Int32} {n N b : Nat} {v : Int32} (h : ∀ j, j < N → vp_in (f j) b) (hv : vp_in v b) : ∀ j, j < N → vp_in (fil f n v j) b := fil_all (P := fun _ x => vp_in x b) h (fun _ _ => hv)
theorem upd_v {f : Nat → Int32} {i N b : Nat} {v : Int32} (h : ∀ j, j < N → vp_in (f j) b) (hv : vp_in v b) : ∀ j, j < N → vp_in (upd f i v j) b := upd_all (P := fun _ x => vp_in x b) h (fun _ => hv)
theorem mp_v {f : Nat → Int32} {a n N b : Nat} {F : Nat → Int32 → Int32} (h : ∀ j, j < N → vp_in (f j) b) (hF : ∀ j, j < N → vp_in (f j) b → vp_in (F j (f j)) b) : ∀ j, j < N → vp_in (mp f a n F j) b := mp_all (P := fun _ x => vp_in x b) h hF
theorem nI_s1 {m : Nat} (h : 1 ≤ m) : nI m - 1 = nI (m - 1) := pk_sub (b := 1) h
theorem rng {x lo hi : Int32} {l h : Nat} (hl : lo = nI l) (hh : hi = nI h) (hb : h < 2 ^ 31) (hlb : l < 2 ^ 31) (q : lo ≤ x ∧ x ≤ hi) : ∃ a : Nat, l ≤ a ∧ a ≤ h ∧ x = nI a := by
  subst hl
  subst hh
  have q0 : ¬ x < 0 := fun c => by
    have a := Int32.lt_iff_toInt_lt.mp c
    have b := Int32.le_iff_toInt_le.mp q.1
    rw [nI_toInt hlb] at b
    rw [Int32.toInt_zero] at a
    omega
  obtain ⟨j, hj, rfl⟩ := nI_of q0
  exact ⟨j, (nI_leI hlb hj).mp q.1, (nI_leI hj hb).mp q.2, rfl⟩
/-! track -/
def trI (σ : St) (i : Nat) : St := pC (pC (pC (pC (pC σ 102 (fil (σ.2 102) i 200)) 103 (fil (σ.2 103) i 0)) 104 (fil (σ.2 104) i 0)) 105 (fil (σ.2 105) i 500)) 106 (fil (σ.2 106) i 0)
theorem trI_0 {σ : St} : trI σ 0 = σ := by
  unfold trI
  simp only [fil_0, pC_self]
theorem trI_s {σ : St} {i : Nat} : pA (pA (pA (pA (pA (trI σ i) 102 i 200) 103 i 0) 104 i 0) 105 i 500) 106 i 0 = trI σ (i + 1) := by
  unfold trI
  simp only [pA_same, pA_ne, fil_s, ne_eq, Nat.reduceEqDiff, not_false_eq_true]
def trM (σ : St) (i : Nat) : St := pC (pC (pC (pC (pC σ 3 (fil (σ.2 3) i 200)) 4 (fil (σ.2 4) i 0)) 5 (fil (σ.2 5) i 0)) 6 (fil (σ.2 6) i 500)) 7 (fil (σ.2 7) i 0)
theorem trM_0 {σ : St} : trM σ 0 = σ := by
  unfold trM
  simp only [fil_0, pC_self]
theorem trM_s {σ : St} {i : Nat} : pA (pA (pA (pA (pA (trM σ i) 3 i 200) 4 i 0) 5 i 0) 6 i 500) 7 i 0 = trM σ (i + 1) := by
  unfold trM
  simp only [pA_same, pA_ne, fil_s, ne_eq, Nat.reduceEqDiff, not_false_eq_true]
theorem I_makeAnew {σ : St} {n m : Nat} {post : St → Prop} (hn : n ≤ 40) (hm : 2 ≤ m) (hm2 : m ≤ 6) (h : post (pC (pC (trI (pI (pI σ 100 (nI n)) 101 (nI m)) n) 107 (mp (σ.2 107) 0 m (fun k _ => nI (k * n / (m - 1))))) 108 (fil (σ.2 108) 12 0))) : wpI_X8_makeAnew (nI n) (nI m) σ post := by
  show wpI_X8_makeAnew_12 (nI n) (nI m) 0 (pI (pI σ 100 (nI n)) 101 (nI m)) post
  refine lp_c0 (fun i => (nI n, nI m, nI i, trI (pI (pI σ 100 (nI n)) 101 (nI m)) i)) n ?_ ?_ ?_
  · try dsimp only
    rw [trI_0, nI_0]
  · intro kb
    try dsimp only
    unfold wpBI_X8_makeAnew_12
    refine pk_le n n (fun _ => ?_) (fun q => absurd q (Nat.lt_irrefl n))
    refine lp_c0 (fun i => (nI n, nI m, nI i, pC (trI (pI (pI σ 100 (nI n)) 101 (nI m)) n) 107 (mp (σ.2 107) 0 i (fun k _ => nI (k * n / (m - 1)))))) m ?_ ?_ ?_
    · try dsimp only
      rw [mp_0, nI_0]
      rw [show pC (trI (pI (pI σ 100 (nI n)) 101 (nI m)) n) 107 (σ.2 107) = trI (pI (pI σ 100 (nI n)) 101 (nI m)) n from pC_self (σ := trI (pI (pI σ 100 (nI n)) 101 (nI m)) n) (k := 107)]
    · intro kb
      try dsimp only
      unfold wpBI_X8_makeAnew_64
      refine pk_le m m (fun _ => ?_) (fun q => absurd q (Nat.lt_irrefl m))
      refine lp_c0 (fun i => (nI i, pC (pC (trI (pI (pI σ 100 (nI n)) 101 (nI m)) n) 107 (mp (σ.2 107) 0 m (fun k _ => nI (k * n / (m - 1))))) 108 (fil (σ.2 108) i 0))) 12 ?_ ?_ ?_
      · try dsimp only
        rw [fil_0, nI_0]
        rw [show pC (pC (trI (pI (pI σ 100 (nI n)) 101 (nI m)) n) 107 (mp (σ.2 107) 0 m (fun k _ => nI (k * n / (m - 1))))) 108 (σ.2 108) = pC (trI (pI (pI σ 100 (nI n)) 101 (nI m)) n) 107 (mp (σ.2 107) 0 m (fun k _ => nI (k * n / (m - 1)))) from pC_self (σ := pC (trI (pI (pI σ 100 (nI n)) 101 (nI m)) n) 107 (mp (σ.2 107) 0 m (fun k _ => nI (k * n / (m - 1))))) (k := 108)]
      · intro kb
        try dsimp only
        unfold wpBI_X8_makeAnew_99
        exact pk_le 12 12 (fun _ => h) (fun q => absurd q (Nat.lt_irrefl 12))
      · intro i kb hi hk
        try dsimp only
        unfold wpBI_X8_makeAnew_99
        refine pk_le 12 i (fun q => absurd q (by omega)) (fun _ => ⟨vp_in_nI hi (by omega), kb_eq hk ?_⟩)
        rw [nI_1, nI_clamp (by omega), pA_same, fil_s]
    · intro i kb hi hk
      try dsimp only
      unfold wpBI_X8_makeAnew_64
      refine pk_le m i (fun q => absurd q (by omega)) (fun _ => pk_le m 1 (fun q => absurd q (by omega)) (fun _ => ⟨?_, vp_in_nI (by omega) (by omega), kb_eq hk ?_⟩))
      · rw [nI_s1 (by omega)]
        exact nI_ne0 (by omega) (by omega)
      · have hb : i * n ≤ 5 * 40 := Nat.mul_le_mul (by omega) hn
        rw [nI_1, nI_clamp (by omega), pA_same, nI_s1 (by omega), pk_mul, pk_div (by omega) (by omega) (by omega), mp_s (Nat.zero_le _) rfl]
  · intro i kb hi hk
    try dsimp only
    unfold wpBI_X8_makeAnew_12
    refine pk_le n i (fun q => absurd q (by omega)) (fun _ => ?_)
    have v : vp_in (nI i) 40 := vp_in_nI (by omega) (by omega)
    refine ⟨v, v, v, v, v, kb_eq hk ?_⟩
    rw [nI_1, nI_clamp (by omega), trI_s]
theorem M_makeAnew {σ : St} {n m : Nat} {post : Int32 → St → Prop} (hn : n ≤ 40) (hm : 2 ≤ m) (hm2 : m ≤ 6) (h : post 1 (pC (pC (trM (pI (pI σ 1 (nI n)) 2 (nI m)) n) 8 (mp (σ.2 8) 0 m (fun k _ => nI (k * n / (m - 1))))) 9 (fil (σ.2 9) 12 0))) : wpM_track_46 (nI n) (nI m) 0 (pI (pI σ 1 (nI n)) 2 (nI m)) post := by
  refine lp_c0 (fun i => (nI n, nI m, nI i, trM (pI (pI σ 1 (nI n)) 2 (nI m)) i)) n ?_ ?_ ?_
  · try dsimp only
    rw [trM_0, nI_0]
  · intro kb
    try dsimp only
    unfold wpBM_track_46
    refine pk_le n n (fun _ => ?_) (fun q => absurd q (Nat.lt_irrefl n))
    refine lp_c0 (fun i => (nI n, nI m, nI i, pC (trM (pI (pI σ 1 (nI n)) 2 (nI m)) n) 8 (mp (σ.2 8) 0 i (fun k _ => nI (k * n / (m - 1)))))) m ?_ ?_ ?_
    · try dsimp only
      rw [mp_0, nI_0]
      rw [show pC (trM (pI (pI σ 1 (nI n)) 2 (nI m)) n) 8 (σ.2 8) = trM (pI (pI σ 1 (nI n)) 2 (nI m)) n from pC_self (σ := trM (pI (pI σ 1 (nI n)) 2 (nI m)) n) (k := 8)]
    · intro kb
      try dsimp only
      unfold wpBM_track_98
      refine pk_le m m (fun _ => ?_) (fun q => absurd q (Nat.lt_irrefl m))
      refine lp_c0 (fun i => (nI i, pC (pC (trM (pI (pI σ 1 (nI n)) 2 (nI m)) n) 8 (mp (σ.2 8) 0 m (fun k _ => nI (k * n / (m - 1))))) 9 (fil (σ.2 9) i 0))) 12 ?_ ?_ ?_
      · try dsimp only
        rw [fil_0, nI_0]
        rw [show pC (pC (trM (pI (pI σ 1 (nI n)) 2 (nI m)) n) 8 (mp (σ.2 8) 0 m (fun k _ => nI (k * n / (m - 1))))) 9 (σ.2 9) = pC (trM (pI (pI σ 1 (nI n)) 2 (nI m)) n) 8 (mp (σ.2 8) 0 m (fun k _ => nI (k * n / (m - 1)))) from pC_self (σ := pC (trM (pI (pI σ 1 (nI n)) 2 (nI m)) n) 8 (mp (σ.2 8) 0 m (fun k _ => nI (k * n / (m - 1))))) (k := 9)]
      · intro kb
        try dsimp only
        unfold wpBM_track_124
        exact pk_le 12 12 (fun _ => h) (fun q => absurd q (Nat.lt_irrefl 12))
      · intro i kb hi hk
        try dsimp only
        unfold wpBM_track_124
        refine pk_le 12 i (fun q => absurd q (by omega)) (fun _ => ⟨vp_in_nI hi (by omega), kb_eq hk ?_⟩)
        rw [nI_1, nI_clamp (by omega), pA_same, fil_s]
    · intro i kb hi hk
      try dsimp only
      unfold wpBM_track_98
      refine pk_le m i (fun q => absurd q (by omega)) (fun _ => ⟨?_, vp_in_nI (by omega) (by omega), kb_eq hk ?_⟩)
      · rw [nI_s1 (by omega)]
        exact nI_ne0 (by omega) (by omega)
      · have hb : i * n ≤ 5 * 40 := Nat.mul_le_mul (by omega) hn
        rw [nI_1, nI_clamp (by omega), pA_same, nI_s1 (by omega), pk_mul, pk_div (by omega) (by omega) (by omega), mp_s (Nat.zero_le _) rfl]
  · intro i kb hi hk
    try dsimp only
    unfold wpBM_track_46
    refine pk_le n i (fun q => absurd q (by omega)) (fun _ => ?_)
    have v : vp_in (nI i) 40 := vp_in_nI (by omega) (by omega)
    refine ⟨v, v, v, v, v, kb_eq hk ?_⟩
    rw [nI_1, nI_clamp (by omega), trM_s]
theorem I_track {σ : St} {x g : Int32} {post : Int32 → St → Prop} (hy : (5 ≤ x ∧ x ≤ 40) ∧ (2 ≤ g ∧ g ≤ 6) ∧ σ.1 700 = 0 → wpI_X8_makeAnew x g σ (fun σ' => post 1 σ')) (hn : ¬ ((5 ≤ x ∧ x ≤ 40) ∧ (2 ≤ g ∧ g ≤ 6) ∧ σ.1 700 = 0) → post 0 σ) : wpI_X10_track x g σ post :=
  I_in (bz_br (fun q => hn (fun c => q c.1)) (fun q1 => I_in (bz_br (fun q => hn (fun c => q c.2.1)) (fun q2 => br_c (fun q3 => hy ⟨q1, q2, q3⟩) (fun q => hn (fun c => q c.2.2))))))
theorem M_track {σ : St} {x g : Int32} {post : Int32 → St → Prop} (hy : (5 ≤ x ∧ x ≤ 40) ∧ (2 ≤ g ∧ g ≤ 6) ∧ σ.1 26 = 0 → wpM_track_46 x g 0 (pI (pI (pI σ 0 0) 1 x) 2 g) post) (hn : ¬ ((5 ≤ x ∧ x ≤ 40) ∧ (2 ≤ g ∧ g ≤ 6) ∧ σ.1 26 = 0) → post 0 (pI σ 0 0)) : wpM_track x g σ post :=
  M_in (bz_br (fun q => hn (fun c => q c.1)) (fun q1 => M_in (bz_br (fun q => hn (fun c => q c.2.1)) (fun q2 => br_c (fun q3 => hy ⟨q1, q2, q3⟩) (fun q => hn (fun c => q c.2.2))))))
theorem T_track {σ τ : St} {x g : Int32} (h : Rel σ τ) : wpI_X10_track x g σ (fun r σ' => wpM_track x g τ (fun r' τ' => r = r' ∧ Rel σ' τ')) := by
  have e : σ.1 700 = τ.1 26 := h.a0.i (by decide)
  refine I_track (fun c => ?_) (fun c => ?_)
  · obtain ⟨n, hn1, hn2, rfl⟩ := rng (l := 5) (h := 40) rfl rfl (by omega) (by omega) c.1
    obtain ⟨m, hm1, hm2, rfl⟩ := rng (l := 2) (h := 6) rfl rfl (by omega) (by omega) c.2.1
    refine I_makeAnew hn2 hm1 hm2 (M_track (fun _ => M_makeAnew hn2 hm1 hm2 ⟨rfl, ?_⟩) (fun k => absurd ⟨c.1, c.2.1, e ▸ c.2.2⟩ k))
    have f1 : σ.2 102 = τ.2 3 := h.a0.a (by decide)
    have f2 : σ.2 103 = τ.2 4 := h.a0.a (by decide)
    have f3 : σ.2 104 = τ.2 5 := h.a0.a (by decide)
    have f4 : σ.2 105 = τ.2 6 := h.a0.a (by decide)
    have f5 : σ.2 106 = τ.2 7 := h.a0.a (by decide)
    have f6 : σ.2 107 = τ.2 8 := h.a0.a (by decide)
    have f7 : σ.2 108 = τ.2 9 := h.a0.a (by decide)
    have hz : τ.1 26 = 0 := e ▸ c.2.2
    refine ⟨?_, Or.inr ⟨n, m, rfl, rfl, hn1, hn2, hm1, hm2, fun k hk => mp_in (f := τ.2 8) (F := fun k _ => nI (k * n / (m - 1))) (Nat.zero_le _) hk⟩, ⟨show ∀ c, c < 40 → vp_in (fil (τ.2 5) n 0 c) 10 from fil_v h.a2.1 (vp_in_iff.mpr (by decide)), show ∀ c, c < 40 → vp_in (fil (τ.2 6) n 500 c) 1001 from fil_v h.a2.2.1 (vp_in_iff.mpr (by decide)), show ∀ c, c < 40 → vp_in (fil (τ.2 7) n 0 c) 101 from fil_v h.a2.2.2 (vp_in_iff.mpr (by decide))⟩, h.a3, h.a4, h.a5, h.a6, ⟨h.a7.1, show ∀ i, i < 12 → -50 ≤ (fil (τ.2 9) 12 0 i).toInt ∧ (fil (τ.2 9) 12 0 i).toInt ≤ 100 from fun i hi => by rw [fil_in hi]; decide⟩, ⟨⟨fun q => absurd hz q, h.a8.b0.2⟩, h.a8.2⟩⟩
    exact (((((((((h.th 0).a0.vI (k := 100) (k' := 1) (by decide) rfl).vI (k := 101) (k' := 2) (by decide) rfl).vC (k := 102) (k' := 3) (by decide) (congrArg (fun f => fil f n 200) f1)).vC (k := 103) (k' := 4) (by decide) (congrArg (fun f => fil f n 0) f2)).vC (k := 104) (k' := 5) (by decide) (congrArg (fun f => fil f n 0) f3)).vC (k := 105) (k' := 6) (by decide) (congrArg (fun f => fil f n 500) f4)).vC (k := 106) (k' := 7) (by decide) (congrArg (fun f => fil f n 0) f5)).vC (k := 107) (k' := 8) (by decide) (congrArg (fun f => mp f 0 m (fun k _ => nI (k * n / (m - 1)))) f6)).vC (k := 108) (k' := 9) (by decide) (congrArg (fun f => fil f 12 0) f7)
  · exact M_track (fun k => absurd ⟨k.1, k.2.1, e.symm ▸ k.2.2⟩ c) (fun _ => ⟨rfl, h.th 0⟩)
/-! bend -/
theorem I_hasCell {σ : St} {x : Int32} {post : Int32 → St → Prop} (h : post (bz (0 ≤ x ∧ x ≤ σ.1 100 - 1)) σ) : wpI_X8_hasCell x σ post := I_in ⟨bz_o, h⟩
theorem M_isCell {σ : St} {x : Int32} {post : Int32 → St → Prop} (h : post (bz (0 ≤ x ∧ x ≤ σ.1 1 - 1)) σ) : wpM_isCell x σ post := M_in ⟨bz_o, h⟩
theorem I_bend {σ : St} {c v s u : Int32} {post : Int32 → St → Prop} (hy : (50 ≤ v ∧ v ≤ 500) ∧ (0 ≤ s ∧ s ≤ 9) ∧ (0 ≤ u ∧ u ≤ 9) ∧ (0 ≤ c ∧ c ≤ σ.1 100 - 1) ∧ σ.1 702 = -1 → wpI_X8_shape c v s u σ (fun σ' => post 1 σ')) (hn : ¬ ((50 ≤ v ∧ v ≤ 500) ∧ (0 ≤ s ∧ s ≤ 9) ∧ (0 ≤ u ∧ u ≤ 9) ∧ (0 ≤ c ∧ c ≤ σ.1 100 - 1) ∧ σ.1 702 = -1) → post 0 σ) : wpI_X10_bend c v s u σ post := by
  have f0 : ¬ ((50 ≤ v ∧ v ≤ 500) ∧ (0 ≤ s ∧ s ≤ 9) ∧ (0 ≤ u ∧ u ≤ 9) ∧ (0 ≤ c ∧ c ≤ σ.1 100 - 1) ∧ σ.1 702 = -1) → wpI_X10_bend_37 c v s u σ post := fun n => ⟨fun _ => hn n, fun q => absurd rfl q⟩
  exact I_in (bz_br (fun q => f0 (fun k => q k.1)) (fun q1 => I_in (bz_br (fun q => f0 (fun k => q k.2.1)) (fun q2 => I_in (bz_br (fun q => f0 (fun k => q k.2.2.1)) (fun q3 => ⟨fun q => absurd q (by decide), fun _ => I_hasCell (bz_br (fun q => hn (fun k => q k.2.2.2.1)) (fun q4 => br_c (fun q5 => hy ⟨q1, q2, q3, q4, q5⟩) (fun q => hn (fun k => q k.2.2.2.2))))⟩))))))
theorem M_bend {σ τ : St} {c v s u : Int32} {post : Int32 → St → Prop} (h : Rel σ τ) (hy : (50 ≤ v ∧ v ≤ 500) ∧ (0 ≤ s ∧ s ≤ 9) ∧ (0 ≤ u ∧ u ≤ 9) ∧ (0 ≤ c ∧ c ≤ τ.1 1 - 1) ∧ σ.1 702 = -1 → vp_in c 40 ∧ post 1 (pA (pA (pA (pI τ 0 0) 3 c.toNatClampNeg v) 4 c.toNatClampNeg s) 5 c.toNatClampNeg u)) (hn : ¬ ((50 ≤ v ∧ v ≤ 500) ∧ (0 ≤ s ∧ s ≤ 9) ∧ (0 ≤ u ∧ u ≤ 9) ∧ (0 ≤ c ∧ c ≤ τ.1 1 - 1) ∧ σ.1 702 = -1) → post 0 (pI τ 0 0)) : wpM_bend c v s u τ post :=
  M_isCell (bz_br (fun q => hn (fun k => q k.2.2.2.1)) (fun q4 => M_in (bz_br (fun q => hn (fun k => q k.1)) (fun q1 => M_in (bz_br (fun q => hn (fun k => q k.2.1)) (fun q2 => M_in (bz_br (fun q => hn (fun k => q k.2.2.1)) (fun q3 => M_isOn (h.th 0) (bz_br (fun q => have k := hy ⟨q1, q2, q3, q4, Classical.not_not.mp q⟩; ⟨k.1, k.1, k.1, k.2⟩) (fun q => hn (fun k => q k.2.2.2.2)))))))))))
theorem T_bend {σ τ : St} {c v s u : Int32} (h : Rel σ τ) : wpI_X10_bend c v s u σ (fun r σ' => wpM_bend c v s u τ (fun r' τ' => r = r' ∧ Rel σ' τ')) := by
  have e : σ.1 100 = τ.1 1 := h.a0.i (by decide)
  refine I_bend (fun g => ?_) (fun g => ?_)
  · rw [e] at g
    obtain ⟨n, hn, hc⟩ := h.cells
    have g4 := g.2.2.2.1
    rw [hc] at g4
    obtain ⟨j, hj, rfl⟩ := in_of (by omega) g4
    have v40 : vp_in (nI j) 40 := vp_in_nI (by omega) (by omega)
    obtain ⟨w, -, hw, rfl⟩ := rng (l := 0) (h := 9) rfl rfl (by omega) (by omega) g.2.2.1
    refine ⟨v40, v40, v40, M_bend h (fun _ => ⟨v40, rfl, ?_⟩) (fun k => absurd g k)⟩
    refine ⟨(((h.th 0).a0.vA (k := 102) (k' := 3) (by decide) rfl rfl).vA (k := 103) (k' := 4) (by decide) rfl rfl).vA (k := 104) (k' := 5) (by decide) rfl rfl, h.a1, ⟨?_, h.a2.2⟩, h.2.2.2⟩
    exact upd_v (f := τ.2 5) (v := nI w) h.a2.1 (vp_in_nI (by omega) (by omega))
  · rw [e] at g
    exact M_bend h (fun k => absurd k g) (fun _ => ⟨rfl, h.th 0⟩)
/-! eye -/
theorem T_eye {σ τ : St} {x k e : Int32} (h : Rel σ τ) : wpI_X10_eye x k e σ (fun r σ' => wpM_eye x k e τ (fun r' τ' => r = r' ∧ Rel σ' τ')) := by
  have eg : σ.1 101 = τ.1 2 := h.a0.i (by decide)
  have hM : ∀ post : Int32 → St → Prop, ((1 ≤ x ∧ x ≤ τ.1 2 - 1) ∧ (0 ≤ k ∧ k ≤ 1) ∧ ((-50 ≤ e ∧ e ≤ 50) ∨ e = 100) → wpM_eye_47 x k e (pI τ 0 0) post) → (¬ ((1 ≤ x ∧ x ≤ τ.1 2 - 1) ∧ (0 ≤ k ∧ k ≤ 1) ∧ ((-50 ≤ e ∧ e ≤ 50) ∨ e = 100)) → post 0 (pI τ 0 0)) → wpM_eye x k e τ post := fun post hy hn =>
    M_in (bz_br (fun q => hn (fun c => q c.1)) (fun q1 => M_in (bz_br (fun q => hn (fun c => q c.2.1)) (fun q2 => M_in (bz_rb (fun q3 => hy ⟨q1, q2, Or.inl q3⟩) (fun q3 => br_c (fun q4 => hy ⟨q1, q2, Or.inr q4⟩) (fun q4 => hn (fun c => c.2.2.elim q3 q4))))))))
  have hn0 : ¬ ((1 ≤ x ∧ x ≤ τ.1 2 - 1) ∧ (0 ≤ k ∧ k ≤ 1) ∧ ((-50 ≤ e ∧ e ≤ 50) ∨ e = 100)) → wpM_eye x k e τ (fun r' τ' => (0 : Int32) = r' ∧ Rel σ τ') := fun n => hM _ (fun c => absurd c n) (fun _ => ⟨rfl, h.th 0⟩)
  have h1 : (-50 ≤ e ∧ e ≤ 50) ∨ e = 100 → wpI_X10_eye_22 x k e 1 σ (fun r σ' => wpM_eye x k e τ (fun r' τ' => r = r' ∧ Rel σ' τ')) := by
    intro ce
    refine ⟨fun q => absurd q (by decide), fun _ => I_in (bz_br (fun q => ?_) (fun q1 => I_in (bz_rb (fun q2 => ?_) (fun q => ?_))))⟩
    · exact hn0 (fun c => q (eg ▸ c.1))
    · rw [eg] at q1
      obtain ⟨m, hm, hg⟩ := h.gates
      rw [hg] at q1
      obtain ⟨j, hj, hx⟩ := in_of (c := x) (n := m) (by omega) ⟨Int32.le_trans (by decide) q1.1, q1.2⟩
      obtain ⟨i, -, hi, rfl⟩ := rng (l := 0) (h := 1) rfl rfl (by omega) (by omega) q2
      subst hx
      have a1 : nI j * 2 + nI i = nI (j * 2 + i) := by rw [show (2 : Int32) = nI 2 from rfl, pk_mul, nI_add]
      have a2 : 2 * nI j + nI i = nI (j * 2 + i) := by rw [show (2 : Int32) = nI 2 from rfl, pk_mul, nI_add, Nat.mul_comm]
      have v : vp_in (nI (j * 2 + i)) 12 := vp_in_nI (by omega) (by omega)
      refine ⟨a1 ▸ v, hM _ (fun _ => ⟨a2 ▸ v, rfl, ?_⟩) (fun n => absurd ⟨hg ▸ q1, q2, ce⟩ n)⟩
      refine ⟨(h.th 0).a0.vA (k := 108) (k' := 9) (by decide) rfl (by rw [a1, a2]), h.a1, h.a2, h.a3, h.a4, h.a5, h.a6, ⟨h.a7.1, ?_⟩, h.a8⟩
      refine upd_all (f := τ.2 9) (v := e) (P := fun _ x => -50 ≤ x.toInt ∧ x.toInt ≤ 100) h.a7.2 (fun _ => ?_)
      rcases ce with ⟨c1, c2⟩ | c
      · have c1 := Int32.le_iff_toInt_le.mp c1
        have c2 := Int32.le_iff_toInt_le.mp c2
        rw [show (-50 : Int32).toInt = -50 by decide] at c1
        rw [show (50 : Int32).toInt = 50 by decide] at c2
        omega
      · subst c
        decide
    · exact hn0 (fun c => q c.2.1)
  refine I_in (bz_rb (fun q => h1 (Or.inl q)) (fun q => ⟨fun q4 => ⟨fun _ => ?_, fun q9 => absurd rfl q9⟩, fun q4 => h1 (Or.inr q4)⟩))
  exact hn0 (fun c => c.2.2.elim q q4)
/-! sled -/
theorem T_sled {σ τ : St} {t w k s : Int32} (h : Rel σ τ) : wpI_X10_sled t w k s σ (fun r σ' => wpM_sled t w k s τ (fun r' τ' => r = r' ∧ Rel σ' τ')) := by
  have es : σ.1 300 = τ.1 13 := h.a0.i (by decide)
  obtain ⟨n, hn16, hn⟩ := h.sleds
  have hM : ∀ post : Int32 → St → Prop, (((0 ≤ t ∧ t ≤ 3) ∧ (50 ≤ w ∧ w ≤ 200) ∧ (0 ≤ k ∧ k ≤ 3) ∧ (0 ≤ s ∧ s ≤ 9)) ∧ n < 16 → post (nI n) (pI (pA (pA (pA (pA (pI τ 0 0) 14 n t) 15 n w) 16 n k) 17 n s) 13 (nI (n + 1)))) → (¬ (((0 ≤ t ∧ t ≤ 3) ∧ (50 ≤ w ∧ w ≤ 200) ∧ (0 ≤ k ∧ k ≤ 3) ∧ (0 ≤ s ∧ s ≤ 9)) ∧ n < 16) → post (-1) (pI τ 0 0)) → wpM_sled t w k s τ post := by
    intro post hy hno
    refine pk_eq n 16 (fun q => hno (fun c => by omega)) (fun q => M_in (bz_br (fun q1 => hno (fun c => q1 c.1.1)) (fun q1 => M_in (bz_br (fun q2 => hno (fun c => q2 c.1.2.1)) (fun q2 => M_in (bz_br (fun q3 => hno (fun c => q3 c.1.2.2.1)) (fun q3 => M_in (bz_rb (fun q4 => ?_) (fun q4 => hno (fun c => q4 c.1.2.2.2)))))))))) hn
    have v : vp_in (τ.1 13) 16 := by rw [hn]; exact vp_in_nI (by omega) (by omega)
    refine ⟨v, v, v, v, ?_⟩
    have k0 := hy ⟨⟨q1, q2, q3, q4⟩, by omega⟩
    have hc : (τ.1 13).toNatClampNeg = n := by rw [hn]; exact nI_clamp (by omega)
    show post ((τ.1 13 + 1) - 1) (pI (pA (pA (pA (pA (pI τ 0 0) 14 (τ.1 13).toNatClampNeg t) 15 (τ.1 13).toNatClampNeg w) 16 (τ.1 13).toNatClampNeg k) 17 (τ.1 13).toNatClampNeg s) 13 (τ.1 13 + 1))
    rw [hc, hn, nI_1, nI_pred]
    exact k0
  have f0 : ¬ (((0 ≤ t ∧ t ≤ 3) ∧ (50 ≤ w ∧ w ≤ 200) ∧ (0 ≤ k ∧ k ≤ 3) ∧ (0 ≤ s ∧ s ≤ 9)) ∧ n < 16) → wpM_sled t w k s τ (fun r' τ' => (-1 : Int32) = r' ∧ Rel σ τ') := fun m => hM _ (fun c => absurd c m) (fun _ => ⟨rfl, h.th 0⟩)
  have f1 : ¬ (((0 ≤ t ∧ t ≤ 3) ∧ (50 ≤ w ∧ w ≤ 200) ∧ (0 ≤ k ∧ k ≤ 3) ∧ (0 ≤ s ∧ s ≤ 9)) ∧ n < 16) → wpI_X10_sled_45 t w k s σ (fun r σ' => wpM_sled t w k s τ (fun r' τ' => r = r' ∧ Rel σ' τ')) := fun m => ⟨fun _ => f0 m, fun q => absurd rfl q⟩
  refine I_in (bz_br (fun q1 => f1 (fun c => q1 c.1.1)) (fun q1 => I_in (bz_br (fun q2 => f1 (fun c => q2 c.1.2.1)) (fun q2 => I_in (bz_br (fun q3 => f1 (fun c => q3 c.1.2.2.1)) (fun q3 => I_in (bz_br (fun q4 => f1 (fun c => q4 c.1.2.2.2)) (fun q4 => ⟨fun q => absurd q (by decide), fun _ => pk_lt n 16 (fun q5 => ?_) (fun q5 => f0 (fun c => by omega)) (es.trans hn)⟩))))))))
  have v : vp_in (σ.1 300) 16 := by rw [es, hn]; exact vp_in_nI (by omega) (by omega)
  refine ⟨v, v, v, v, ?_⟩
  have hc : (σ.1 300).toNatClampNeg = n := by rw [es, hn]; exact nI_clamp (by omega)
  show wpM_sled t w k s τ (fun r' τ' => σ.1 300 = r' ∧ Rel (pI (pA (pA (pA (pA σ 301 (σ.1 300).toNatClampNeg t) 302 (σ.1 300).toNatClampNeg w) 303 (σ.1 300).toNatClampNeg k) 304 (σ.1 300).toNatClampNeg s) 300 (σ.1 300 + 1)) τ')
  rw [hc, es, hn, nI_1]
  refine hM _ (fun _ => ⟨rfl, ?_⟩) (fun m => absurd ⟨⟨q1, q2, q3, q4⟩, q5⟩ m)
  obtain ⟨a, -, ha, rfl⟩ := rng (l := 50) (h := 200) rfl rfl (by omega) (by omega) q2
  obtain ⟨b, -, hb, rfl⟩ := rng (l := 0) (h := 3) rfl rfl (by omega) (by omega) q3
  have mono : ∀ i : Nat, i < 16 → nI i < τ.1 13 → nI i < nI (n + 1) := fun i hi q => by
    rw [hn, nI_ltI (by omega) (by omega)] at q
    exact nI_lt (by omega) (by omega)
  refine ⟨(((((h.th 0).a0.vA (k := 301) (k' := 14) (by decide) rfl rfl).vA (k := 302) (k' := 15) (by decide) rfl rfl).vA (k := 303) (k' := 16) (by decide) rfl rfl).vA (k := 304) (k' := 17) (by decide) rfl rfl).vI (k := 300) (k' := 13) (by decide) rfl, h.a1, h.a2, h.a3, h.a4, ⟨vp_in_nI (by omega) (by omega), upd_v (f := τ.2 15) (v := nI a) h.a5.2.1 (vp_in_nI (by omega) (by omega)), upd_v (f := τ.2 16) (v := nI b) h.a5.2.2 (vp_in_nI (by omega) (by omega))⟩, h.a6, h.a7, h.a8.b0, h.a8.b1, h.a8.b2, h.a8.b3, h.a8.b4, h.a8.b5, ?_, ?_, ?_⟩
  · exact fun i hi q => ⟨mono i hi (h.a8.b6 i hi q).1, (h.a8.b6 i hi q).2⟩
  · exact fun r hr i hi q => ⟨(h.a8.b7 r hr i hi q).1, mono i hi (h.a8.b7 r hr i hi q).2.1, (h.a8.b7 r hr i hi q).2.2⟩
  · obtain ⟨m, h1, h2, h3, h4⟩ := h.a8.b8
    exact ⟨m, h1, h2, fun i hi => (h3 i hi).imp (fun i' hq => ⟨hq.1, hq.2.1, mono i' hq.1 hq.2.2⟩), h4⟩

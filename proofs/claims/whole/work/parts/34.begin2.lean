/-! the lists by rank -/
noncomputable def ils (g : Nat → Int32) (R c0 : Nat) (f0 : Nat → Int32) : Nat → Nat × (Nat → Int32)
  | 0 => (c0, f0)
  | s + 1 => ci (g s = nI R) ((ils g R c0 f0 s).1 + 1, upd (ils g R c0 f0 s).2 (ils g R c0 f0 s).1 (nI s)) (ils g R c0 f0 s)
noncomputable def ols (g f0 : Nat → Int32) : Nat → Nat × (Nat → Int32)
  | 0 => (0, f0)
  | R + 1 => ils g (R + 1) (ols g f0 R).1 (ols g f0 R).2 16
theorem ils_1 {g : Nat → Int32} {R c0 : Nat} {f0 : Nat → Int32} : ∀ s : Nat, (ils g R c0 f0 s).1 = c0 + cnt (fun o => g o = nI R) s
  | 0 => rfl
  | s + 1 => by
    have e := ils_1 (g := g) (R := R) (c0 := c0) (f0 := f0) s
    by_cases q : g s = nI R
    · rw [ils, ci_t q, cnt_t (p := fun o => g o = nI R) q]
      show (ils g R c0 f0 s).1 + 1 = _
      omega
    · rw [ils, ci_f q, cnt_f (p := fun o => g o = nI R) q, e]
theorem cnt_or {p q : Nat → Prop} : ∀ {n : Nat}, (∀ i, i < n → p i → q i → False) → cnt (fun i => p i ∨ q i) n = cnt p n + cnt q n
  | 0, _ => rfl
  | n + 1, h => by
    have e := cnt_or (p := p) (q := q) (n := n) (fun i hi => h i (by omega))
    by_cases a : p n
    · have b : ¬ q n := fun b => h n (by omega) a b
      rw [cnt_t (p := fun i => p i ∨ q i) (Or.inl a), cnt_t a, cnt_f b, e]
      omega
    · by_cases b : q n
      · rw [cnt_t (p := fun i => p i ∨ q i) (Or.inr b), cnt_f a, cnt_t b, e]
        omega
      · rw [cnt_f (p := fun i => p i ∨ q i) (fun o => o.elim a b), cnt_f a, cnt_f b, e]
def VR (g : Nat → Int32) (R o : Nat) : Prop := ∃ R', 1 ≤ R' ∧ R' ≤ R ∧ g o = nI R'
theorem ols_1 {g f0 : Nat → Int32} : ∀ R : Nat, R ≤ 100 → (ols g f0 R).1 = cnt (VR g R) 16
  | 0, _ => (cnt_0 (fun _ _ ⟨R', h1, h2, _⟩ => by omega)).symm
  | R + 1, hR => by
    show (ils g (R + 1) (ols g f0 R).1 (ols g f0 R).2 16).1 = _
    rw [ils_1, ols_1 R (by omega), ← cnt_or (p := VR g R) (q := fun o => g o = nI (R + 1)) (fun i _ ⟨R', h1, h2, e⟩ e2 => by
      have := (nI_eq (by omega) (by omega)).mp (e.symm.trans e2)
      omega)]
    refine cnt_c (fun o _ => ⟨?_, ?_⟩)
    · rintro (⟨R', h1, h2, e⟩ | e)
      · exact ⟨R', h1, by omega, e⟩
      · exact ⟨R + 1, by omega, by omega, e⟩
    · rintro ⟨R', h1, h2, e⟩
      by_cases q : R' = R + 1
      · subst q
        exact Or.inr e
      · exact Or.inl ⟨R', h1, by omega, e⟩
/-- there is room for one more -/
theorem ils_lt {g f0 : Nat → Int32} {R s : Nat} (hR : R < 100) (hs : s < 16) (e : g s = nI (R + 1)) : (ils g (R + 1) (ols g f0 R).1 (ols g f0 R).2 s).1 < 16 := by
  have a : (ols g f0 (R + 1)).1 ≤ 16 := by
    rw [ols_1 (R + 1) (by omega)]
    exact cnt_le _ _
  have b : (ols g f0 (R + 1)).1 = (ols g f0 R).1 + cnt (fun o => g o = nI (R + 1)) 16 := ils_1 16
  have c := cnt_nm (c := fun o => g o = nI (R + 1)) (n := s + 1) (16 - (s + 1))
  rw [show s + 1 + (16 - (s + 1)) = 16 by omega, cnt_t (p := fun o => g o = nI (R + 1)) e] at c
  rw [ils_1]
  omega
theorem ils_le {g f0 : Nat → Int32} {R s : Nat} (hR : R < 100) (hs : s ≤ 16) : (ils g (R + 1) (ols g f0 R).1 (ols g f0 R).2 s).1 ≤ 16 := by
  have a : (ols g f0 (R + 1)).1 ≤ 16 := by
    rw [ols_1 (R + 1) (by omega)]
    exact cnt_le _ _
  have b : (ols g f0 (R + 1)).1 = (ols g f0 R).1 + cnt (fun o => g o = nI (R + 1)) 16 := ils_1 16
  have c := cnt_nm (c := fun o => g o = nI (R + 1)) (n := s) (16 - s)
  rw [show s + (16 - s) = 16 by omega] at c
  rw [ils_1]
  omega
theorem ils_ok {g : Nat → Int32} {R c0 : Nat} {f0 : Nat → Int32} {Q : Int32 → Prop} (h0 : ∀ k, k < c0 → Q (f0 k)) : ∀ n : Nat, (∀ s, s < n → g s = nI R → Q (nI s)) → ∀ k, k < (ils g R c0 f0 n).1 → Q ((ils g R c0 f0 n).2 k)
  | 0, _ => h0
  | n + 1, h => by
    have ih := ils_ok (g := g) (R := R) h0 n (fun s hs => h s (by omega))
    by_cases q : g n = nI R
    · rw [ils, ci_t q]
      intro k hk
      show Q (upd (ils g R c0 f0 n).2 (ils g R c0 f0 n).1 (nI n) k)
      unfold upd
      split
      · exact h n (by omega) q
      · exact ih k (by
          have : k < (ils g R c0 f0 n).1 + 1 := hk
          omega)
    · rw [ils, ci_f q]
      exact ih
theorem ols_ok {g f0 : Nat → Int32} {Q : Int32 → Prop} (h : ∀ s R, s < 16 → g s = nI R → R ≤ 100 → Q (nI s)) : ∀ R : Nat, R ≤ 100 → ∀ k, k < (ols g f0 R).1 → Q ((ols g f0 R).2 k)
  | 0, _ => fun k hk => absurd hk (Nat.not_lt_zero _)
  | R + 1, hR => ils_ok (ols_ok h R (by omega)) 16 (fun s hs e => h s (R + 1) hs e hR)
theorem ils_g {g : Nat → Int32} {R c0 n : Nat} {f0 : Nat → Int32} : ∀ d : Nat, (∀ s, n ≤ s → s < n + d → ¬ g s = nI R) → ils g R c0 f0 (n + d) = ils g R c0 f0 n
  | 0, _ => rfl
  | d + 1, h => by
    show ils g R c0 f0 (n + d + 1) = _
    rw [ils, ci_f (h (n + d) (by omega) (by omega)), ils_g d (fun s h1 h2 => h s h1 (by omega))]
theorem ols_g {g f0 : Nat → Int32} {n : Nat} : ∀ d : Nat, (∀ R s, n < R → R ≤ n + d → s < 16 → ¬ g s = nI R) → ols g f0 (n + d) = ols g f0 n
  | 0, _ => rfl
  | d + 1, h => by
    show ils g (n + d + 1) (ols g f0 (n + d)).1 (ols g f0 (n + d)).2 16 = _
    rw [show (16 : Nat) = 0 + 16 from rfl, ils_g 16 (fun s h1 h2 => h (n + d + 1) s (by omega) (by omega) (by omega))]
    show ((ols g f0 (n + d)).1, (ols g f0 (n + d)).2) = _
    rw [ols_g d (fun R s h1 h2 => h R s h1 (by omega))]
theorem RCp.f {σ T : St} {N : Nat} (h : RCp σ N T) (f : Nat → Int32) : RCp σ N (pC T 709 f) := h
theorem I_listByRank {σ T : St} {N : Nat} {post : Int32 → St → Prop} (hT : RCp σ N T) (h : post (nI (ols (rv σ N) (T.2 709) 16).1) (pC T 709 (ols (rv σ N) (T.2 709) 16).2)) : wpI_X6_listByRank T post := by
  show wpI_X6_listByRank_4 0 1 T post
  refine lp_c0 (fun i => (nI (ols (rv σ N) (T.2 709) i).1, nI (i + 1), pC T 709 (ols (rv σ N) (T.2 709) i).2)) 16 ?_ ?_ ?_
  · show _ = (nI 0, nI 1, pC T 709 (T.2 709))
    rw [pC_self]
    rfl
  · intro kb
    dsimp only
    unfold wpBI_X6_listByRank_4
    exact pk_lt 16 17 (fun _ => h) (fun z => absurd z (by omega))
  · intro i kb hi hk
    dsimp only
    unfold wpBI_X6_listByRank_4
    refine pk_lt 16 (i + 1) (fun z => absurd z (by omega)) (fun _ => ?_)
    refine lp_c0 (fun s => (nI (ils (rv σ N) (i + 1) (ols (rv σ N) (T.2 709) i).1 (ols (rv σ N) (T.2 709) i).2 s).1, nI (i + 1), nI s, pC T 709 (ils (rv σ N) (i + 1) (ols (rv σ N) (T.2 709) i).1 (ols (rv σ N) (T.2 709) i).2 s).2)) 16 rfl ?_ ?_
    · intro kb2
      dsimp only
      unfold wpBI_X6_listByRank_13
      refine pk_le 16 16 (fun _ => kb_eq hk ?_) (fun z => absurd z (Nat.lt_irrefl 16))
      rw [nI_1]
      rfl
    · intro s kb2 hs hk2
      dsimp only
      unfold wpBI_X6_listByRank_13 wpI_X6_listByRank_44
      dsimp only
      refine pk_le 16 s (fun z => absurd z (by omega)) (fun _ => I_rankG (hT.f _) hs ⟨fun z => kb_eq hk2 ?_, fun z => ?_⟩)
      · rw [nI_1, ils, ci_f z]
      · have lt := ils_lt (f0 := T.2 709) (by omega : i < 100) hs z
        refine pk_le 16 (ils (rv σ N) (i + 1) (ols (rv σ N) (T.2 709) i).1 (ols (rv σ N) (T.2 709) i).2 s).1 (fun z2 => absurd z2 (by omega)) (fun _ => ⟨vp_in_nI lt (by omega), kb_eq hk2 ?_⟩)
        rw [nI_clamp (by omega), pA_same, nI_1, nI_1, ils, ci_t z]
theorem rv_le {σ τ : St} (h : Rel σ τ) {N n o R : Nat} (hn : τ.1 13 = nI n) (hn16 : n ≤ 16) (ho : o < 16) (e : rv σ N o = nI R) (hR : R ≤ 1000) : R ≤ n := by
  by_cases k : rk σ N o
  · rw [rv_k k] at e
    have b := Rn_b (σ := σ) (N := N) (s := o)
    have := (nI_eq (by omega) (by omega)).mp e
    subst this
    have eg : cnt (fun o' => rk σ N o' ∧ su σ N o' < su σ N o) 16 = cnt (fun o' => rk σ N o' ∧ su σ N o' < su σ N o) n := by
      have := cnt_grow (p := fun o' => rk σ N o' ∧ su σ N o' < su σ N o) (n := n) (16 - n) (fun i h1 h2 z => by
        have := rk_lt h hn hn16 (by omega) z.1
        omega)
      rw [show n + (16 - n) = 16 by omega] at this
      exact this
    have lt := cnt_lt (p := fun o' => rk σ N o' ∧ su σ N o' < su σ N o) (rk_lt h hn hn16 ho k) (fun c => Int32.lt_irrefl c.2)
    unfold Rn
    omega
  · rw [rv_n k] at e
    exact absurd e.symm (nI_m1 (by omega))
theorem M_begin102 {σ τ : St} {N n ne : Nat} {x : Int32} {post : Int32 → St → Prop} (h : Rel σ τ) (h5 : RE5 ne (τ.2 38) (σ.2 712) (σ.2 711)) (hN : N ≤ ne) (hev : τ.1 39 = nI N) (hn16 : n ≤ 16) (hn : τ.1 13 = nI n) (hp : wpM_begin_162 x (nI (ols (rv σ N) (τ.2 41) 16).1) (pC τ 41 (ols (rv σ N) (τ.2 41) 16).2) post) : wpM_begin_102 x 0 1 τ post := by
  have f41 : σ.2 709 = τ.2 41 := h.a0.a (by decide)
  have eo : ols (rv σ N) (τ.2 41) 16 = ols (rv σ N) (τ.2 41) n := by
    have := ols_g (g := rv σ N) (f0 := τ.2 41) (n := n) (16 - n) (fun R s h1 h2 hs e => by
      have := rv_le h hn hn16 hs e (by omega)
      omega)
    rw [show n + (16 - n) = 16 by omega] at this
    exact this
  rw [eo] at hp
  refine lp_c0 (fun i => (x, nI (ols (rv σ N) (τ.2 41) i).1, nI (i + 1), pC τ 41 (ols (rv σ N) (τ.2 41) i).2)) n ?_ ?_ ?_
  · show _ = (x, nI 0, nI 1, pC τ 41 (τ.2 41))
    rw [pC_self]
    rfl
  · intro kb
    dsimp only
    unfold wpBM_begin_102
    exact pk_lt n (n + 1) (fun _ => hp) (fun z => absurd z (by omega)) hn
  · intro i kb hi hk
    dsimp only
    unfold wpBM_begin_102
    refine pk_lt n (i + 1) (fun z => absurd z (by omega)) (fun _ => ?_) hn
    have ei : ils (rv σ N) (i + 1) (ols (rv σ N) (τ.2 41) i).1 (ols (rv σ N) (τ.2 41) i).2 16 = ils (rv σ N) (i + 1) (ols (rv σ N) (τ.2 41) i).1 (ols (rv σ N) (τ.2 41) i).2 n := by
      have := ils_g (g := rv σ N) (R := i + 1) (c0 := (ols (rv σ N) (τ.2 41) i).1) (f0 := (ols (rv σ N) (τ.2 41) i).2) (n := n) (16 - n) (fun s h1 h2 e => by
        have := rv_lt h hn hn16 (by omega) e (by omega)
        omega)
      rw [show n + (16 - n) = 16 by omega] at this
      exact this
    refine lp_c0 (fun s => (x, nI (ils (rv σ N) (i + 1) (ols (rv σ N) (τ.2 41) i).1 (ols (rv σ N) (τ.2 41) i).2 s).1, nI (i + 1), nI s, pC τ 41 (ils (rv σ N) (i + 1) (ols (rv σ N) (τ.2 41) i).1 (ols (rv σ N) (τ.2 41) i).2 s).2)) n rfl ?_ ?_
    · intro kb2
      dsimp only
      unfold wpBM_begin_113
      refine pk_le n n (fun _ => kb_eq hk ?_) (fun z => absurd z (Nat.lt_irrefl n)) hn
      rw [nI_1, ← ei]
      rfl
    · intro s kb2 hs hk2
      dsimp only
      unfold wpBM_begin_113 wpM_begin_150
      dsimp only
      refine pk_le n s (fun z => absurd z (by omega)) (fun _ => ?_) hn
      have hR : Rel (pC σ 709 (ils (rv σ N) (i + 1) (ols (rv σ N) (τ.2 41) i).1 (ols (rv σ N) (τ.2 41) i).2 s).2) (pC τ 41 (ils (rv σ N) (i + 1) (ols (rv σ N) (τ.2 41) i).1 (ols (rv σ N) (τ.2 41) i).2 s).2) := ⟨h.a0.vC (k := 709) (k' := 41) (by decide) rfl, h.2⟩
      have rve : ∀ f o, rv (pC σ 709 f) N o = rv σ N o := fun _ _ => rfl
      rw [show (pC τ 41 (ils (rv σ N) (i + 1) (ols (rv σ N) (τ.2 41) i).1 (ols (rv σ N) (τ.2 41) i).2 s).2).1 39 = nI N from hev]
      refine M_rankOf hR h5 hN ?_
      rw [ci_t (vp_in_nI (by omega) (by omega)), nI_clamp (by omega), rve]
      refine ⟨fun z => ?_, fun z => kb_eq hk2 ?_⟩
      · have lt := ils_lt (f0 := τ.2 41) (by omega : i < 100) (by omega : s < 16) z
        refine ⟨vp_in_nI lt (by omega), kb_eq hk2 ?_⟩
        rw [nI_clamp (by omega), pA_same, nI_1, nI_1, ils, ci_t z]
      · rw [nI_1, ils, ci_f z]
/-! turned round -/
def tn (p : Nat → Int32) (B i : Nat) (_ : Int32) : Int32 := if i < B then p (B - 1 - i) else p i
theorem I_turn {σ : St} {M B : Nat} {post : St → Prop} (hM : M ≤ 16) (hB : B ≤ M) (h : post (pC σ 708 (mp (σ.2 708) 0 M (tn (σ.2 709) B)))) : wpI_X2_turnOrder_14 (nI M) (nI B) 0 σ post := by
  refine lp_c0 (fun i => (nI M, nI B, nI i, pC σ 708 (mp (σ.2 708) 0 i (tn (σ.2 709) B)))) M ?_ ?_ ?_
  · rw [mp_0, pC_self, nI_0]
  · intro kb
    dsimp only
    unfold wpBI_X2_turnOrder_14
    exact pk_le M M (fun _ => h) (fun z => absurd z (Nat.lt_irrefl M))
  · intro i kb hi hk
    dsimp only
    unfold wpBI_X2_turnOrder_14
    have v : vp_in (nI i) 16 := vp_in_nI (by omega) (by omega)
    have fin : ∀ y : Int32, y = tn (σ.2 709) B i (σ.2 708 i) → wpI_X2_turnOrder_53 (fun x1 x3 x4 σ => kb (x1, x3, x4, σ)) (nI M) (nI B) (nI i) (nI i) y (pC σ 708 (mp (σ.2 708) 0 i (tn (σ.2 709) B))) post := by
      intro y hy
      refine ⟨v, kb_eq hk ?_⟩
      rw [nI_1, nI_clamp (by omega), pA_same, mp_s (Nat.zero_le _) hy]
    refine pk_le M i (fun z => absurd z (by omega)) (fun _ => pk_le B i (fun z => ⟨v, ?_⟩) (fun z => ?_))
    · rw [nI_clamp (by omega)]
      exact fin _ (if_neg (by omega)).symm
    · rw [nI_s1 (by omega), pk_sub (by omega), nI_clamp (by omega)]
      exact ⟨vp_in_nI (by omega) (by omega), fin _ (if_pos z).symm⟩
theorem M_turn {τ : St} {M B : Nat} {post : St → Prop} (hM : M ≤ 16) (hB : B ≤ M) (h : post (pC τ 29 (mp (τ.2 29) 0 M (tn (τ.2 41) B)))) : wpM_turns_28 (nI M) (nI B) 0 τ post := by
  refine lp_c0 (fun i => (nI M, nI B, nI i, pC τ 29 (mp (τ.2 29) 0 i (tn (τ.2 41) B)))) M ?_ ?_ ?_
  · rw [mp_0, pC_self, nI_0]
  · intro kb
    dsimp only
    unfold wpBM_turns_28
    exact pk_le M M (fun _ => h) (fun z => absurd z (Nat.lt_irrefl M))
  · intro i kb hi hk
    dsimp only
    unfold wpBM_turns_28
    have v : vp_in (nI i) 16 := vp_in_nI (by omega) (by omega)
    have fin : ∀ y : Int32, y = tn (τ.2 41) B i (τ.2 29 i) → wpM_turns_62 (fun x1 x2 x3 σ => kb (x1, x2, x3, σ)) (nI M) (nI B) (nI i) (nI i) y (pC τ 29 (mp (τ.2 29) 0 i (tn (τ.2 41) B))) post := by
      intro y hy
      refine ⟨v, kb_eq hk ?_⟩
      rw [nI_1, nI_clamp (by omega), pA_same, mp_s (Nat.zero_le _) hy]
    refine pk_le M i (fun z => absurd z (by omega)) (fun _ => pk_le B i (fun z => ⟨v, ?_⟩) (fun z => ?_))
    · rw [nI_clamp (by omega)]
      exact fin _ (if_neg (by omega)).symm
    · rw [nI_s1 (by omega), pk_sub (by omega), nI_clamp (by omega)]
      exact ⟨vp_in_nI (by omega) (by omega), fin _ (if_pos z).symm⟩

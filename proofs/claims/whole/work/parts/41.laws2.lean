/-! ===== laws: words, one law ===== -/
def wln (j : Nat) : Nat := slenL.getD j 0
def wch (j i : Nat) : Int32 := (sbytL.getD j []).getD i 0
theorem wln_b : ∀ j, j < 8 → 1 ≤ wln j ∧ wln j ≤ 7 := by decide
def SPL (f : Nat → Int32) (a o j : Nat) : Prop := o - a = wln j ∧ ∀ i, i < wln j → bb f (a + i) = wch j i
theorem I_spells {S : St} {n a o j : Nat} {post : Int32 → St → Prop} (hn : n ≤ 300) (e : S.1 400 = nI n) (e2 : S.1 602 = nI a) (e3 : S.1 603 = nI o) (hao : a ≤ o) (hon : o ≤ n) (hj : j < 8) (h : post (bz (SPL (S.2 401) a o j)) S) : wpI_X1_spells j S post := by
  have wb := wln_b j hj
  refine ⟨hj, ?_⟩
  rw [e2, e3, pk_sub hao]
  refine pk_eq (o - a) (wln j) (fun q => ?_) (fun q => ?_) (by rfl) (by rfl)
  · refine lp_meas (fun t => ∃ i, i ≤ wln j ∧ t = (j, nI i, S) ∧ ∀ i', i' < i → bb (S.2 401) (a + i') = wch j i') (fun t => wln j - t.2.1.toNatClampNeg) ?_ _ ⟨0, by omega, by rw [nI_0], fun i' hi' => absurd hi' (by omega)⟩
    rintro kb t ⟨i, hi, rfl, hm⟩ hkb
    dsimp only at hkb ⊢
    rw [nI_clamp (by omega)] at hkb
    refine ⟨hj, pk_le (wln j) i (fun z => ?_) (fun z => ?_) (by rfl)⟩
    · have ei : i = wln j := by omega
      subst ei
      rw [bz_t ⟨q, hm⟩] at h
      exact h
    · rw [e2, nI_add]
      refine I_byteY hn e (by omega) ⟨hj, (show vp_in (nI i) (wln j) from vp_in_nI z (by omega)), ?_⟩
      show (bb (S.2 401) (a + i) = (sbytL.getD j []).getD (nI i).toNatClampNeg 0 → _) ∧ (¬ bb (S.2 401) (a + i) = (sbytL.getD j []).getD (nI i).toNatClampNeg 0 → _)
      rw [nI_clamp (by omega)]
      refine ⟨fun z2 => hkb _ ⟨i + 1, by omega, by rw [nI_1], fun i' hi' => ?_⟩ ?_, fun z2 => ?_⟩
      · by_cases c : i' = i
        · subst c
          exact z2
        · exact hm i' (by omega)
      · dsimp only
        rw [nI_1, nI_clamp (by omega)]
        omega
      · rw [bz_f (fun c => z2 (c.2 i z))] at h
        exact h
  · rw [bz_f (fun c => q c.1)] at h
    exact h
theorem M_is {S : St} {n a o j : Nat} {post : Int32 → St → Prop} (hn : n ≤ 300) (e : S.1 22 = nI n) (e2 : S.1 24 = nI a) (e3 : S.1 25 = nI o) (hao : a ≤ o) (hon : o ≤ n) (hj : j < 8) (h : post (bz (SPL (S.2 21) a o j)) S) : wpM_is j S post := by
  have wb := wln_b j hj
  have key : wpM_is_21 j (bz (o - a = wln j)) S post := by
    refine lp_meas (fun t => ∃ i, i ≤ wln j ∧ t = (j, bz (o - a = wln j ∧ ∀ i', i' < i → bb (S.2 21) (a + i') = wch j i'), nI i, S)) (fun t => wln j - t.2.2.1.toNatClampNeg) ?_ _ ⟨0, by omega, ?_⟩
    · rintro kb t ⟨i, hi, rfl⟩ hkb
      dsimp only at hkb ⊢
      rw [nI_clamp (by omega)] at hkb
      unfold wpBM_is_24
      refine ⟨hj, pk_le (wln j) i (fun z => ⟨bz_o, ?_⟩) (fun z => bz_br (fun c => ⟨bz_o, ?_⟩) (fun c => ?_)) (by rfl)⟩
      · have ei : i = wln j := by omega
        subst ei
        exact h
      · rw [bz_f c]
        rw [bz_f (fun d => c ⟨d.1, fun i' hi' => d.2 i' (by omega)⟩)] at h
        exact h
      · rw [e2, nI_add]
        refine M_byteY hn e (by omega) ⟨hj, (show vp_in (nI i) (wln j) from vp_in_nI z (by omega)), ?_⟩
        show (¬ bb (S.2 21) (a + i) = (sbytL.getD j []).getD (nI i).toNatClampNeg 0 → _) ∧ (bb (S.2 21) (a + i) = (sbytL.getD j []).getD (nI i).toNatClampNeg 0 → _)
        rw [nI_clamp (by omega)]
        unfold wpM_is_59
        dsimp only
        refine ⟨fun z2 => hkb _ ⟨i + 1, by omega, ?_⟩ ?_, fun z2 => hkb _ ⟨i + 1, by omega, ?_⟩ ?_⟩
        · rw [nI_1, bz_f (p := o - a = wln j ∧ ∀ i', i' < i + 1 → bb (S.2 21) (a + i') = wch j i') (fun d => z2 (d.2 i (by omega)))]
        · dsimp only
          rw [nI_1, nI_clamp (by omega)]
          omega
        · rw [nI_1, bz_t (p := o - a = wln j ∧ ∀ i', i' < i + 1 → bb (S.2 21) (a + i') = wch j i') ⟨c.1, fun i' hi' => ?_⟩]
          by_cases d : i' = i
          · subst d
            exact z2
          · exact c.2 i' (by omega)
        · dsimp only
          rw [nI_1, nI_clamp (by omega)]
          omega
    · rw [nI_0, bz_c (p := o - a = wln j ∧ ∀ i', i' < 0 → bb (S.2 21) (a + i') = wch j i') (q := o - a = wln j) ⟨fun d => d.1, fun d => ⟨d, fun i' hi' => absurd hi' (by omega)⟩⟩]
  refine ⟨hj, ?_⟩
  rw [e2, e3, pk_sub hao]
  refine And.symm (pk_eq (o - a) (wln j) (fun q => ?_) (fun q => ?_) (by rfl) (by rfl))
  · rw [bz_t q] at key
    exact key
  · rw [bz_f q] at key
    exact key
noncomputable def wdf (f : Nat → Int32) (a o : Nat) : Nat → Nat → Option Nat
  | 0, _ => none
  | d + 1, m => ci (SPL f a o m) (some m) (wdf f a o d (m + 1))
theorem wdf_b {f : Nat → Int32} {a o : Nat} : ∀ d m j : Nat, wdf f a o d m = some j → m ≤ j ∧ j < m + d ∧ SPL f a o j
  | 0, _, _, h => by cases h
  | d + 1, m, j, h => by
    unfold wdf at h
    by_cases q : SPL f a o m
    · rw [ci_t q] at h
      cases h
      exact ⟨Nat.le_refl _, by omega, q⟩
    · rw [ci_f q] at h
      have := wdf_b d (m + 1) j h
      exact ⟨by omega, by omega, this.2.2⟩
theorem wch_l : ∀ j, j < 7 → ¬ wch j 0 < 97 ∧ ¬ 122 < wch j 0 := by decide
theorem spl_l {f : Nat → Int32} {n a o j : Nat} (hj : j < 7) (ha : a ≤ o) (ho : o ≤ n) (h : SPL f a o j) : ltr f n a := by
  have b := wln_b j (by omega)
  have c := wch_l j hj
  have d := h.2 0 (by omega)
  rw [Nat.add_zero] at d
  have e := h.1
  exact ⟨by omega, by rw [d]; exact c.1, by rw [d]; exact c.2⟩
theorem wdf_n {f : Nat → Int32} {n a o : Nat} (ha : a ≤ o) (ho : o ≤ n) (h : ¬ ltr f n a) : wdf f a o 7 0 = none := by
  cases e : wdf f a o 7 0 with
  | none => rfl
  | some j =>
    have := wdf_b 7 0 j e
    exact absurd (spl_l (by omega) ha ho this.2.2) h
theorem I_wordAtHand {S : St} {n a o : Nat} {post : Option Nat → St → Prop} (hn : n ≤ 300) (e : S.1 400 = nI n) (e2 : S.1 602 = nI a) (e3 : S.1 603 = nI o) (e1 : S.1 601 = 1 ↔ ltr (S.2 401) n a) (hao : a ≤ o) (hon : o ≤ n) (h : post (wdf (S.2 401) a o 7 0) S) : wpI_X1_wordAtHand S post := by
  refine ⟨fun z => ?_, fun z => ?_⟩
  · rw [wdf_n (n := n) hao hon (fun c => z (e1.mpr c))] at h
    exact h
  · refine lp_meas (fun t => ∃ m, m ≤ 7 ∧ t = (nI m, S) ∧ wdf (S.2 401) a o (7 - m) m = wdf (S.2 401) a o 7 0) (fun t => 7 - t.1.toNatClampNeg) ?_ _ ⟨0, by omega, by rw [nI_0], rfl⟩
    rintro kb t ⟨m, hm, rfl, ew⟩ hkb
    dsimp only at hkb ⊢
    rw [nI_clamp (by omega)] at hkb
    unfold wpBI_X1_wordAtHand_10
    rw [nI_clamp (by omega)]
    have v : m < 7 → vp_in (nI m) 7 := fun c => vp_in_nI c (by omega)
    refine pk_le 7 m (fun z1 => ?_) (fun z1 => ⟨v z1, z1, I_spells hn e e2 e3 hao hon (by omega) (bz_br (fun z2 => ?_) (fun z2 => ⟨v z1, ?_⟩))⟩)
    · have em : m = 7 := by omega
      subst em
      rw [← ew] at h
      exact h
    · refine hkb _ ⟨m + 1, by omega, by rw [nI_1], ?_⟩ ?_
      · rw [← ew, show 7 - m = (7 - (m + 1)) + 1 by omega]
        exact (ci_f z2).symm
      · dsimp only
        rw [nI_1, nI_clamp (by omega)]
        omega
    · rw [← ew, show 7 - m = (7 - (m + 1)) + 1 by omega] at h
      rw [show wdf (S.2 401) a o (7 - (m + 1) + 1) m = some m from ci_t z2] at h
      exact h
def wdv : Option Nat → Int32
  | none => -1
  | some j => nI j
theorem M_lawAtHand {S : St} {n a o : Nat} {post : Int32 → St → Prop} (hn : n ≤ 300) (e : S.1 22 = nI n) (e2 : S.1 24 = nI a) (e3 : S.1 25 = nI o) (hao : a ≤ o) (hon : o ≤ n) (h : post (wdv (wdf (S.2 21) a o 7 0)) S) : wpM_lawAtHand S post := by
  have step : ∀ d m : Nat, (SPL (S.2 21) a o m → wdf (S.2 21) a o (d + 1) m = some m) ∧ (¬ SPL (S.2 21) a o m → wdf (S.2 21) a o (d + 1) m = wdf (S.2 21) a o d (m + 1)) := fun d m => ⟨fun q => ci_t q, fun q => ci_f q⟩
  refine M_is hn e e2 e3 hao hon (by omega) (bz_br (fun z0 => M_is hn e e2 e3 hao hon (by omega) (bz_br (fun z1 => M_is hn e e2 e3 hao hon (by omega) (bz_br (fun z2 => M_is hn e e2 e3 hao hon (by omega) (bz_br (fun z3 => M_is hn e e2 e3 hao hon (by omega) (bz_br (fun z4 => M_is hn e e2 e3 hao hon (by omega) (bz_br (fun z5 => M_is hn e e2 e3 hao hon (by omega) (bz_br (fun z6 => ?_) (fun z6 => ?_))) (fun z5 => ?_))) (fun z4 => ?_))) (fun z3 => ?_))) (fun z2 => ?_))) (fun z1 => ?_))) (fun z0 => ?_))
  · rw [(step _ _).2 z0, (step _ _).2 z1, (step _ _).2 z2, (step _ _).2 z3, (step _ _).2 z4, (step _ _).2 z5, (step _ _).2 z6] at h
    exact h
  · rw [(step _ _).2 z0, (step _ _).2 z1, (step _ _).2 z2, (step _ _).2 z3, (step _ _).2 z4, (step _ _).2 z5, (step _ _).1 z6] at h
    exact h
  · rw [(step _ _).2 z0, (step _ _).2 z1, (step _ _).2 z2, (step _ _).2 z3, (step _ _).2 z4, (step _ _).1 z5] at h
    exact h
  · rw [(step _ _).2 z0, (step _ _).2 z1, (step _ _).2 z2, (step _ _).2 z3, (step _ _).1 z4] at h
    exact h
  · rw [(step _ _).2 z0, (step _ _).2 z1, (step _ _).2 z2, (step _ _).1 z3] at h
    exact h
  · rw [(step _ _).2 z0, (step _ _).2 z1, (step _ _).1 z2] at h
    exact h
  · rw [(step _ _).2 z0, (step _ _).1 z1] at h
    exact h
  · rw [(step _ _).1 z0] at h
    exact h
/-! a token's kind -/
def sem (f : Nat → Int32) (n a : Nat) : Prop := a < n ∧ bb f a = 59
theorem tk_1 {f : Nat → Int32} {n a : Nat} : tk f n a = 1 ↔ ltr f n a := by
  unfold tk
  constructor
  · intro h
    by_cases q : a < n
    · rw [ci_t q] at h
      by_cases c : ltr f n a
      · exact c
      · rw [ci_f c] at h
        by_cases d : dgt f n a
        · rw [ci_t d] at h
          split at h <;> exact absurd h (by decide)
        · rw [ci_f d] at h
          split at h <;> exact absurd h (by decide)
    · rw [ci_f q] at h
      exact absurd h (by decide)
  · intro c
    rw [ci_t c.1, ci_t c]
theorem l_nd {f : Nat → Int32} {n a : Nat} (h : dgt f n a) : ¬ ltr f n a := fun c => by
  have c1 : ¬ (bb f a).toInt < 97 := fun z => c.2.1 (Int32.lt_iff_toInt_lt.mpr z)
  have c2 : ¬ 57 < (bb f a).toInt := fun z => h.2.2 (Int32.lt_iff_toInt_lt.mpr z)
  omega
theorem tk_2 {f : Nat → Int32} {n a : Nat} : tk f n a = 2 ↔ dgt f n a ∧ toF f n a - a ≤ 4 := by
  unfold tk
  constructor
  · intro h
    by_cases q : a < n
    · rw [ci_t q] at h
      by_cases c : ltr f n a
      · rw [ci_t c] at h
        exact absurd h (by decide)
      · rw [ci_f c] at h
        by_cases d : dgt f n a
        · rw [ci_t d] at h
          by_cases g : toF f n a - a ≤ 4
          · exact ⟨d, g⟩
          · rw [if_neg g] at h
            exact absurd h (by decide)
        · rw [ci_f d] at h
          split at h <;> exact absurd h (by decide)
    · rw [ci_f q] at h
      exact absurd h (by decide)
  · rintro ⟨d, g⟩
    rw [ci_t d.1, ci_f (l_nd d), ci_t d, if_pos g]
theorem sem_nd {f : Nat → Int32} {n a : Nat} (h : sem f n a) : ¬ ltr f n a ∧ ¬ dgt f n a := by
  refine ⟨fun c => ?_, fun c => ?_⟩
  · have := c.2.1
    rw [h.2] at this
    exact this (by decide)
  · have := c.2.2
    rw [h.2] at this
    exact this (by decide)
theorem tk_3 {f : Nat → Int32} {n a : Nat} : tk f n a = 3 ↔ sem f n a := by
  constructor
  · intro h
    unfold tk at h
    by_cases q : a < n
    · rw [ci_t q] at h
      by_cases c : ltr f n a
      · rw [ci_t c] at h
        exact absurd h (by decide)
      · rw [ci_f c] at h
        by_cases d : dgt f n a
        · rw [ci_t d] at h
          split at h <;> exact absurd h (by decide)
        · rw [ci_f d] at h
          by_cases g : bb f a = 59
          · exact ⟨q, g⟩
          · rw [if_neg g] at h
            exact absurd h (by decide)
    · rw [ci_f q] at h
      exact absurd h (by decide)
  · intro h
    unfold tk
    rw [ci_t h.1, ci_f (sem_nd h).1, ci_f (sem_nd h).2, if_pos h.2]
theorem tk_0 {f : Nat → Int32} {n a : Nat} : tk f n a = 0 ↔ ¬ a < n := by
  unfold tk
  constructor
  · intro h q
    rw [ci_t q] at h
    by_cases c : ltr f n a
    · rw [ci_t c] at h
      exact absurd h (by decide)
    · rw [ci_f c] at h
      by_cases d : dgt f n a
      · rw [ci_t d] at h
        split at h <;> exact absurd h (by decide)
      · rw [ci_f d] at h
        split at h <;> exact absurd h (by decide)
  · intro q
    exact ci_f q
theorem spl_7 {f : Nat → Int32} {n a : Nat} (ha : a ≤ n) : SPL f a (toF f n a) 7 ↔ sem f n a := by
  have b := to_b (f := f) ha
  constructor
  · intro h
    have e := h.1
    have d := h.2 0 (by decide)
    rw [Nat.add_zero] at d
    rw [show wln 7 = 1 from rfl] at e
    exact ⟨by omega, d⟩
  · intro h
    have e : toF f n a = a + 1 := by
      unfold toF
      rw [ci_t h.1, ci_f (sem_nd h).1, ci_f (sem_nd h).2]
    refine ⟨by rw [e, show wln 7 = 1 from rfl]; omega, fun i hi => ?_⟩
    have : i = 0 := by
      rw [show wln 7 = 1 from rfl] at hi
      omega
    subst this
    exact h.2

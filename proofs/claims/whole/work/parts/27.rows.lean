/-! ===== runners, copy ===== -/
def ct (s x : Int32) : Int32 := if s = 0 then (Int32.toInt8 x).toInt32 else if s = 1 then (Int32.toInt16 x).toInt32 else x
theorem I_cutTo {σ : St} {s x : Int32} {post : Int32 → St → Prop} (h : post (ct s x) σ) : wpI_X3_cutTo s x σ post := by
  unfold ct at h
  refine ⟨fun q => ⟨fun q2 => ?_, fun q2 => ?_⟩, fun q => ?_⟩
  · rw [if_neg q, if_neg q2] at h
    exact h
  · rw [if_neg q, if_pos q2] at h
    exact h
  · rw [if_pos q] at h
    exact h
theorem I_makeRow26 {σ : St} {k L : Nat} {s f st : Int32} {post : St → Prop} (hk : k < 4) (hL : L ≤ 9) (hl : σ.2 201 k = nI L) (h : post (pC σ (250 + k) (mp (σ.2 (250 + k)) 0 L (fun i _ => ct s (f + nI i * st))))) : wpI_X3_makeRow_26 (nI k) s f st 0 σ post := by
  have v4 : vp_in (nI k) 4 := vp_in_nI hk (by omega)
  have hl2 : ∀ i : Nat, (pC σ (250 + k) (mp (σ.2 (250 + k)) 0 i (fun i _ => ct s (f + nI i * st)))).2 201 k = nI L := by
    intro i
    rw [pC_2, if_neg (by omega)]
    exact hl
  refine lp_c0 (fun i => (nI k, s, f, st, nI i, pC σ (250 + k) (mp (σ.2 (250 + k)) 0 i (fun i _ => ct s (f + nI i * st))))) L ?_ ?_ ?_
  · try dsimp only
    rw [mp_0, pC_self, nI_0]
  · intro kb
    try dsimp only
    unfold wpBI_X3_makeRow_26
    rw [nI_clamp (by omega), hl2]
    exact ⟨v4, pk_le L L (fun _ => h) (fun z => absurd z (Nat.lt_irrefl L))⟩
  · intro i kb hi hk2
    try dsimp only
    unfold wpBI_X3_makeRow_26
    rw [nI_clamp (by omega), hl2]
    refine ⟨v4, pk_le L i (fun z => absurd z (by omega)) (fun _ => ⟨v4, I_cutTo ⟨vp_in_nI (by omega) (by omega), kb_eq hk2 ?_⟩⟩)⟩
    rw [nI_1, nI_clamp (by omega), pA_same, mp_s (Nat.zero_le _) rfl]
theorem M_row70 {τ : St} {k L : Nat} {s f st : Int32} {post : Int32 → St → Prop} (hk : k < 4) (hL : L ≤ 9) (hl : τ.2 11 k = nI L) (h : post 1 (pC τ 12 (mp (τ.2 12) (9 * k) (9 * k + L) (fun j _ => ct s (f + nI (j - 9 * k) * st))))) : wpM_runners_70 (nI k) s st f 0 τ post := by
  have v4 : vp_in (nI k) 4 := vp_in_nI hk (by omega)
  refine lp_c0 (fun i => (nI k, s, st, f + nI i * st, nI i, pC τ 12 (mp (τ.2 12) (9 * k) (9 * k + i) (fun j _ => ct s (f + nI (j - 9 * k) * st))))) L ?_ ?_ ?_
  · try dsimp only
    rw [Nat.add_zero, mp_0, pC_self, nI_0, Int32.zero_mul, Int32.add_zero]
  · intro kb
    try dsimp only
    unfold wpBM_runners_70
    rw [nI_clamp (by omega)]
    exact ⟨v4, pk_le L L (fun _ => h) (fun z => absurd z (Nat.lt_irrefl L)) hl⟩
  · intro i kb hi hk2
    try dsimp only
    unfold wpBM_runners_70
    rw [nI_clamp (by omega)]
    have e9 : 9 * nI k + nI i = nI (9 * k + i) := by rw [show (9 : Int32) = nI 9 from rfl, pk_mul, nI_add]
    have ev : f + nI i * st + st = f + nI (i + 1) * st := by
      rw [nI_succ, Int32.add_mul, Int32.one_mul, Int32.add_assoc]
    have fin : ∀ v : Int32, v = ct s (f + nI i * st) → wpM_runners_115 (fun x1 x2 x5 x6 x7 σ => kb (x1, x2, x5, x6, x7, σ)) (nI k) s st (f + nI i * st) (nI i) (9 * nI k + nI i) v (pC τ 12 (mp (τ.2 12) (9 * k) (9 * k + i) (fun j _ => ct s (f + nI (j - 9 * k) * st)))) post := by
      intro v hv
      rw [e9]
      refine ⟨vp_in_nI (by omega) (by omega), kb_eq hk2 ?_⟩
      rw [nI_1, nI_clamp (by omega), pA_same, ev, mp_s (by omega) (by rw [hv, show 9 * k + i - 9 * k = i by omega]), Nat.add_assoc]
    refine ⟨v4, pk_le L i (fun z => absurd z (by omega)) (fun _ => ⟨fun q => ⟨fun q2 => fin _ ?_, fun q2 => fin _ ?_⟩, fun q => fin _ ?_⟩) hl⟩
    · unfold ct
      rw [if_neg q, if_neg q2]
    · unfold ct
      rw [if_neg q, if_pos q2]
    · unfold ct
      rw [if_pos q]
theorem RW_set {σ τ : St} {k : Nat} {f row : Nat → Int32} (hk : k < 4) (h : RW (σ.2 250) (σ.2 251) (σ.2 252) (σ.2 253) (τ.2 12)) (h1 : ∀ i, i < 9 → f i = row (9 * k + i)) (h2 : ∀ k', k' < 4 → k' ≠ k → ∀ i, i < 9 → row (9 * k' + i) = τ.2 12 (9 * k' + i)) : RW ((pC σ (250 + k) f).2 250) ((pC σ (250 + k) f).2 251) ((pC σ (250 + k) f).2 252) ((pC σ (250 + k) f).2 253) row := by
  have hc : k = 0 ∨ k = 1 ∨ k = 2 ∨ k = 3 := by omega
  intro i hi
  have g := h i hi
  have a0 := fun z => h2 0 (by omega) z i hi
  have a1 := fun z => h2 1 (by omega) z i hi
  have a2 := fun z => h2 2 (by omega) z i hi
  have a3 := fun z => h2 3 (by omega) z i hi
  have b := h1 i hi
  rw [show 9 * 0 + i = i by omega] at a0
  rcases hc with rfl | rfl | rfl | rfl
  · rw [show 9 * 0 + i = i by omega] at b
    exact ⟨b, g.2.1.trans (a1 (by omega)).symm, g.2.2.1.trans (a2 (by omega)).symm, g.2.2.2.trans (a3 (by omega)).symm⟩
  · exact ⟨g.1.trans (a0 (by omega)).symm, b, g.2.2.1.trans (a2 (by omega)).symm, g.2.2.2.trans (a3 (by omega)).symm⟩
  · exact ⟨g.1.trans (a0 (by omega)).symm, g.2.1.trans (a1 (by omega)).symm, b, g.2.2.2.trans (a3 (by omega)).symm⟩
  · exact ⟨g.1.trans (a0 (by omega)).symm, g.2.1.trans (a1 (by omega)).symm, g.2.2.1.trans (a2 (by omega)).symm, b⟩
theorem AP_row {k : Nat} (hk : k < 4) : ∀ p ∈ AP, p.1 ≠ 250 + k := by
  have hc : k = 0 ∨ k = 1 ∨ k = 2 ∨ k = 3 := by omega
  rcases hc with rfl | rfl | rfl | rfl <;> decide
/-- a row is changed: all else of the relation stays -/
theorem Rel_row {σ τ : St} {k : Nat} {f row : Nat → Int32} (hk : k < 4) (h : Rel σ τ) (h1 : ∀ i, i < 9 → f i = row (9 * k + i)) (h2 : ∀ k', k' < 4 → k' ≠ k → ∀ i, i < 9 → row (9 * k' + i) = τ.2 12 (9 * k' + i)) : Rel (pC σ (250 + k) f) (pC τ 12 row) := by
  have q : ∀ j : Nat, j ≠ 250 + k → (pC σ (250 + k) f).2 j = σ.2 j := fun j hj => by rw [pC_2, if_neg hj]
  refine ⟨(h.a0.uCl (AP_row hk) f).uCr (by decide) row, h.a1, h.a2, h.a3, RW_set hk h.a4 h1 h2, h.a5, h.a6, h.a7, h.a8.b0, h.a8.b1, h.a8.b2, ?_, ?_, h.a8.b5, h.a8.b6, h.a8.b7, h.a8.b8⟩
  · rw [q 712 (by omega)]
    exact h.a8.b3
  · rw [q 712 (by omega), q 711 (by omega)]
    exact h.a8.b4
theorem T_runners {σ τ : St} {x s n f st : Int32} (h : Rel σ τ) : wpI_X10_runners x s n f st σ (fun r σ' => wpM_runners x s n f st τ (fun r' τ' => r = r' ∧ Rel σ' τ')) := by
  have hM : ∀ post : Int32 → St → Prop, ((0 ≤ x ∧ x ≤ 3) ∧ (0 ≤ s ∧ s ≤ 3) ∧ ¬ 9 < n ∧ (0 ≤ n ∨ s = 3) → wpM_runners_40 x s n f st (pI τ 0 0) post) → (¬ ((0 ≤ x ∧ x ≤ 3) ∧ (0 ≤ s ∧ s ≤ 3) ∧ ¬ 9 < n ∧ (0 ≤ n ∨ s = 3)) → post 0 (pI τ 0 0)) → wpM_runners x s n f st τ post := fun post hy hn =>
    M_in (bz_br (fun z => hn (fun c => z c.1)) (fun q1 => M_in (bz_br (fun z => hn (fun c => z c.2.1)) (fun q2 => ⟨fun z => hn (fun c => c.2.2.1 z), fun q3 => ⟨fun q4 => hy ⟨q1, q2, q3, Or.inl q4⟩, fun z => ⟨fun q4 => hy ⟨q1, q2, q3, Or.inr q4⟩, fun z2 => hn (fun c => c.2.2.2.elim z z2)⟩⟩⟩))))
  have hn : ¬ ((0 ≤ x ∧ x ≤ 3) ∧ (0 ≤ s ∧ s ≤ 3) ∧ ¬ 9 < n ∧ (0 ≤ n ∨ s = 3)) → wpM_runners x s n f st τ (fun r' τ' => (0 : Int32) = r' ∧ Rel σ τ') := fun m => hM _ (fun c => absurd c m) (fun _ => ⟨rfl, h.th 0⟩)
  have hy : (0 ≤ x ∧ x ≤ 3) ∧ (0 ≤ s ∧ s ≤ 3) ∧ ¬ 9 < n ∧ (0 ≤ n ∨ s = 3) → wpI_X10_runners_37 x s n f st σ (fun r σ' => wpM_runners x s n f st τ (fun r' τ' => r = r' ∧ Rel σ' τ')) := by
    intro g
    obtain ⟨k, -, hk, rfl⟩ := rng (l := 0) (h := 3) rfl rfl (by omega) (by omega) g.1
    have v4 : vp_in (nI k) 4 := vp_in_nI (by omega) (by omega)
    have fin : ∀ (L : Nat) (len : Int32), len = nI L → L ≤ 9 → (∀ post : Int32 → St → Prop, wpM_runners_62 (nI k) s f st (nI k) len (pA (pI τ 0 0) 10 (nI k).toNatClampNeg s) post → wpM_runners (nI k) s n f st τ post) → wpI_X3_makeRow_22 (nI k) s f st (nI k) len (pA σ 200 (nI k).toNatClampNeg s) (fun σ1 => wpM_runners (nI k) s n f st τ (fun r' τ' => (1 : Int32) = r' ∧ Rel σ1 τ')) := by
      intro L len hl hL hq
      subst hl
      rw [nI_clamp (by omega)] at hq ⊢
      refine ⟨v4, ?_⟩
      try dsimp only
      rw [nI_clamp (by omega)]
      have c1 : (pA (pA σ 200 k s) 201 k (nI L)).2 201 k = nI L := by
        rw [pA_2, if_pos rfl]
        exact pk_us
      have c2 : (pA (pA (pI τ 0 0) 10 k s) 11 k (nI L)).2 11 k = nI L := by
        rw [pA_2, if_pos rfl]
        exact pk_us
      refine I_makeRow26 (by omega) hL c1 (hq _ ⟨v4, ?_⟩)
      try dsimp only
      rw [nI_clamp (by omega)]
      refine M_row70 (by omega) hL c2 ⟨rfl, ?_⟩
      have hR : Rel (pA (pA σ 200 k s) 201 k (nI L)) (pA (pA (pI τ 0 0) 10 k s) 11 k (nI L)) := ⟨((h.th 0).a0.vA (k := 200) (k' := 10) (by decide) rfl rfl).vA (k := 201) (k' := 11) (by decide) rfl rfl, h.a1, h.a2, upd_v (f := τ.2 11) (v := nI L) h.a3 (vp_in_nI (by omega) (by omega)), h.2.2.2.2⟩
      refine Rel_row (by omega) hR (fun i hi => ?_) (fun k' hk' hne i hi => mp_out (by omega))
      by_cases q : i < L
      · rw [mp_in (Nat.zero_le _) q, mp_in (by omega) (by omega), show 9 * k + i - 9 * k = i by omega]
      · rw [mp_out (by omega), mp_out (by omega)]
        exact hR.a4.at k (by omega) i hi
    refine ⟨v4, fun q => ?_, fun q => ?_⟩
    · have g4 : 0 ≤ n := g.2.2.2.elim id (fun z => absurd z q)
      obtain ⟨L, hL, el⟩ := in_of2 (m := 9) (n := 9) rfl (by omega) ⟨g4, Int32.not_lt.mp g.2.2.1⟩
      exact fin L n el hL (fun post hp => hM post (fun _ => ⟨v4, fun _ => hp, fun z => absurd z q⟩) (fun m => absurd g m))
    · exact fin 0 0 rfl (by omega) (fun post hp => hM post (fun _ => ⟨v4, fun z => absurd q z, fun _ => hp⟩) (fun m => absurd g m))
  exact I_in (bz_br (fun z => hn (fun c => z c.1)) (fun q1 => I_in (bz_rb (fun q2 => ⟨fun z => hn (fun c => c.2.2.1 z), fun q3 => ⟨fun q4 => hy ⟨q1, q2, q3, Or.inr q4⟩, fun z => ⟨fun q4 => hy ⟨q1, q2, q3, Or.inl q4⟩, fun z2 => hn (fun c => c.2.2.2.elim z2 z)⟩⟩⟩) (fun z => hn (fun c => z c.2.1)))))
/-! copy -/
theorem i_subN {L N : Nat} (hL : L ≤ 9) (hN : N < 2 ^ 31) : (nI L - nI N).toInt = (L : Int) - N := by
  rw [i_sub (by rw [nI_toInt (by omega), nI_toInt hN]; omega) (by rw [nI_toInt (by omega), nI_toInt hN]; omega), nI_toInt (by omega), nI_toInt hN]
/-- so many entries from there lie in a row -/
def HD (L : Nat) (a n : Int32) : Prop := ¬ n < 0 ∧ ¬ a < 0 ∧ a.toInt + n.toInt ≤ L
theorem I_holds {σ : St} {k L : Nat} {a n : Int32} {post : Int32 → St → Prop} (hk : k < 4) (hL : L ≤ 9) (hl : σ.2 201 k = nI L) (h : post (bz (HD L a n)) σ) : wpI_X3_holds (nI k) a n σ post := by
  have v4 : vp_in (nI k) 4 := vp_in_nI hk (by omega)
  have no : ¬ HD L a n → wpI_X3_holds_34 σ post := fun z => ⟨.inl rfl, by rw [bz_f z] at h; exact h⟩
  refine ⟨fun z => no (fun c => c.1 z), fun q => ?_⟩
  obtain ⟨N, hN, rfl⟩ := nI_of q
  rw [nI_clamp (by omega), hl]
  refine ⟨v4, I_in (bz_br (fun z => no (fun c => z ?_)) (fun z => ⟨v4, fun z2 => no (fun c => ?_), fun z2 => ⟨.inr rfl, ?_⟩⟩))⟩
  · obtain ⟨A, hA, rfl⟩ := nI_of c.2.1
    have := c.2.2
    rw [nI_toInt hA, nI_toInt hN] at this
    exact ⟨nI_pos' hA, nI_le (by omega) (by omega)⟩
  · obtain ⟨A, hA, rfl⟩ := nI_of c.2.1
    have := c.2.2
    rw [nI_toInt hA, nI_toInt hN] at this
    have z3 := Int32.lt_iff_toInt_lt.mp z2
    rw [hl, i_subN hL hA, nI_toInt hN] at z3
    omega
  · obtain ⟨A, hA, rfl⟩ := in_of2 (n := L) rfl (by omega) z
    have z3 : ¬ (nI L - nI A).toInt < (nI N).toInt := fun c => z2 (Int32.lt_iff_toInt_lt.mpr (by rw [hl]; exact c))
    rw [i_subN hL (by omega), nI_toInt hN] at z3
    rw [bz_t ⟨q, i_nn z.1, by rw [nI_toInt (by omega), nI_toInt hN]; omega⟩] at h
    exact h
theorem cp_f {g : Nat → Int32} {sp dp i : Nat} {v : Int32} (hv : v = g (sp + i)) : upd (va_cpy g g sp dp i) (dp + i) v = va_cpy g g sp dp (i + 1) := by
  funext j
  unfold upd
  by_cases e : j = dp + i
  · subst e
    rw [if_pos rfl, pk_cpy_in (by omega) (by omega), hv, show dp + i - dp = i by omega]
  · rw [if_neg e]
    by_cases q : dp ≤ j ∧ j < dp + i
    · rw [pk_cpy_in q.1 q.2, pk_cpy_in q.1 (by omega)]
    · rw [pk_cpy_out (by omega), pk_cpy_out (by omega)]
/-- the last i of n copied -/
def cpb (g : Nat → Int32) (sp dp n i : Nat) : Nat → Int32 := fun j => if dp + (n - i) ≤ j ∧ j < dp + n then g (sp + (j - dp)) else g j
theorem cpb_s {g : Nat → Int32} {sp dp n i : Nat} {v : Int32} (hi : i < n) (hv : v = g (sp + (n - 1 - i))) : upd (cpb g sp dp n i) (dp + (n - 1 - i)) v = cpb g sp dp n (i + 1) := by
  funext j
  unfold upd cpb
  by_cases e : j = dp + (n - 1 - i)
  · subst e
    rw [if_pos rfl, if_pos (by omega), hv, show dp + (n - 1 - i) - dp = n - 1 - i by omega]
  · rw [if_neg e]
    by_cases q : dp + (n - i) ≤ j ∧ j < dp + n
    · rw [if_pos q, if_pos (by omega)]
    · rw [if_neg q, if_neg (by omega)]
theorem cpb_n {g : Nat → Int32} {sp dp n : Nat} : cpb g sp dp n n = va_cpy g g sp dp n := by
  funext j
  unfold cpb va_cpy
  rw [show dp + (n - n) = dp by omega]
theorem M_copy131 {τ : St} {f a t w n : Nat} {b : Int32} {post : Int32 → St → Prop} (hf : f < 4) (ht : t < 4) (ha : a + n ≤ 9) (hw : w + n ≤ 9) (hb : (b = 0 ∧ (f ≠ t ∨ w ≤ a)) ∨ (¬ b = 0 ∧ f = t ∧ a < w)) (h : post (nI n) (pC τ 12 (va_cpy (τ.2 12) (τ.2 12) (9 * f + a) (9 * t + w) n))) : wpM_copy_131 (nI f) (nI a) (nI t) (nI w) (nI n) b 0 τ post := by
  have ix : ∀ x y z : Nat, 9 * nI x + nI y + nI z = nI (9 * x + y + z) := fun x y z => by rw [show (9 : Int32) = nI 9 from rfl, pk_mul, nI_add, nI_add]
  rcases hb with ⟨b0, hb⟩ | ⟨b0, hb1, hb2⟩
  · refine lp_c0 (fun i => (nI f, nI a, nI t, nI w, nI n, b, nI i, pC τ 12 (va_cpy (τ.2 12) (τ.2 12) (9 * f + a) (9 * t + w) i))) n ?_ ?_ ?_
    · try dsimp only
      rw [nI_0, show va_cpy (τ.2 12) (τ.2 12) (9 * f + a) (9 * t + w) 0 = τ.2 12 from funext (fun j => pk_cpy_out (by omega)), pC_self]
    · intro kb
      try dsimp only
      unfold wpBM_copy_131
      exact pk_le n n (fun _ => h) (fun z => absurd z (Nat.lt_irrefl n))
    · intro i kb hi hk
      try dsimp only
      unfold wpBM_copy_131
      refine pk_le n i (fun z => absurd z (by omega)) (fun _ => ⟨fun _ => ?_, fun z => absurd b0 z⟩)
      unfold wpM_copy_155
      rw [ix, ix]
      refine ⟨vp_in_nI (by omega) (by omega), vp_in_nI (by omega) (by omega), kb_eq hk ?_⟩
      rw [nI_1, nI_clamp (by omega), nI_clamp (by omega), pA_same]
      show (nI f, nI a, nI t, nI w, nI n, b, nI (i + 1), pC τ 12 (upd (va_cpy (τ.2 12) (τ.2 12) (9 * f + a) (9 * t + w) i) (9 * t + w + i) (va_cpy (τ.2 12) (τ.2 12) (9 * f + a) (9 * t + w) i (9 * f + a + i)))) = _
      rw [pk_cpy_out (j := 9 * f + a + i) (by omega), cp_f rfl]
  · refine lp_c0 (fun i => (nI f, nI a, nI t, nI w, nI n, b, nI i, pC τ 12 (cpb (τ.2 12) (9 * f + a) (9 * t + w) n i))) n ?_ ?_ ?_
    · try dsimp only
      rw [nI_0, show cpb (τ.2 12) (9 * f + a) (9 * t + w) n 0 = τ.2 12 from funext (fun j => by unfold cpb; exact if_neg (by omega)), pC_self]
    · intro kb
      try dsimp only
      unfold wpBM_copy_131
      rw [cpb_n]
      exact pk_le n n (fun _ => h) (fun z => absurd z (Nat.lt_irrefl n))
    · intro i kb hi hk
      try dsimp only
      unfold wpBM_copy_131
      refine pk_le n i (fun z => absurd z (by omega)) (fun _ => ⟨fun z => absurd z b0, fun _ => ?_⟩)
      unfold wpM_copy_155
      rw [show nI n - 1 - nI i = nI (n - 1 - i) by rw [nI_s1 (by omega), pk_sub (by omega)], ix, ix]
      refine ⟨vp_in_nI (by omega) (by omega), vp_in_nI (by omega) (by omega), kb_eq hk ?_⟩
      rw [nI_1, nI_clamp (by omega), nI_clamp (by omega), pA_same]
      show (nI f, nI a, nI t, nI w, nI n, b, nI (i + 1), pC τ 12 (upd (cpb (τ.2 12) (9 * f + a) (9 * t + w) n i) (9 * t + w + (n - 1 - i)) (cpb (τ.2 12) (9 * f + a) (9 * t + w) n i (9 * f + a + (n - 1 - i))))) = _
      rw [show cpb (τ.2 12) (9 * f + a) (9 * t + w) n i (9 * f + a + (n - 1 - i)) = τ.2 12 (9 * f + a + (n - 1 - i)) by unfold cpb; exact if_neg (by omega), cpb_s hi rfl]
theorem I_isAbsent {σ : St} {k : Nat} {post : Int32 → St → Prop} (hk : k < 4) (h : post (bz (σ.2 200 k = 3)) σ) : wpI_X3_isAbsent (nI k) σ post := by
  unfold wpI_X3_isAbsent
  rw [nI_clamp (by omega)]
  refine ⟨vp_in_nI hk (by omega), fun z => ⟨.inl rfl, ?_⟩, fun z => ⟨.inr rfl, ?_⟩⟩
  · rw [bz_f z] at h
    exact h
  · rw [bz_t z] at h
    exact h
theorem I_alike {σ : St} {k t : Nat} {post : Int32 → St → Prop} (hk : k < 4) (ht : t < 4) (h : post (bz (σ.2 200 k = σ.2 200 t)) σ) : wpI_X3_alike (nI k) (nI t) σ post := by
  unfold wpI_X3_alike
  rw [nI_clamp (by omega), nI_clamp (by omega)]
  refine ⟨vp_in_nI hk (by omega), vp_in_nI ht (by omega), fun z => ⟨.inl rfl, ?_⟩, fun z => ⟨.inr rfl, ?_⟩⟩
  · rw [bz_f z] at h
    exact h
  · rw [bz_t z] at h
    exact h
theorem T_copy {σ τ : St} {x a y w n : Int32} (h : Rel σ τ) : wpI_X10_copy x a y w n σ (fun r σ' => wpM_copy x a y w n τ (fun r' τ' => r = r' ∧ Rel σ' τ')) := by
  have e10 : σ.2 200 = τ.2 10 := h.a0.a (by decide)
  have e11 : σ.2 201 = τ.2 11 := h.a0.a (by decide)
  by_cases hx : 0 ≤ x ∧ x ≤ 3
  · by_cases hy : 0 ≤ y ∧ y ≤ 3
    · obtain ⟨f, -, hf, rfl⟩ := rng (l := 0) (h := 3) rfl rfl (by omega) (by omega) hx
      obtain ⟨t, -, ht, rfl⟩ := rng (l := 0) (h := 3) rfl rfl (by omega) (by omega) hy
      have vf : vp_in (nI f) 4 := vp_in_nI (by omega) (by omega)
      have vt : vp_in (nI t) 4 := vp_in_nI (by omega) (by omega)
      have cf : (nI f).toNatClampNeg = f := nI_clamp (by omega)
      have ct' : (nI t).toNatClampNeg = t := nI_clamp (by omega)
      obtain ⟨F, hF, eF⟩ := vp_x (h.a3 f (by omega)) (by omega)
      obtain ⟨T, hT, eT⟩ := vp_x (h.a3 t (by omega)) (by omega)
      -- the reference's way to where the sorts are alike
      have m2 : τ.2 10 f = 3 ∨ τ.2 10 t = 3 → wpM_copy (nI f) a (nI t) w n τ (fun r' τ' => (-2 : Int32) = r' ∧ Rel σ τ') := fun q =>
        M_in (bz_br (fun z => absurd hx z) (fun _ => M_in (bz_rb (fun _ => ⟨vf, fun _ => ⟨rfl, h.th 0⟩, fun z => ⟨vt, fun z2 => absurd q (fun o => o.elim (fun u => z (cf.symm ▸ u)) (fun u => z2 (ct'.symm ▸ u))), fun _ => ⟨rfl, h.th 0⟩⟩⟩) (fun z => absurd hy z))))
      have m3 : ¬ τ.2 10 f = 3 → ¬ τ.2 10 t = 3 → ¬ τ.2 10 f = τ.2 10 t → wpM_copy (nI f) a (nI t) w n τ (fun r' τ' => (-3 : Int32) = r' ∧ Rel σ τ') := fun q1 q2 q3 =>
        M_in (bz_br (fun z => absurd hx z) (fun _ => M_in (bz_rb (fun _ => ⟨vf, fun z => absurd (cf ▸ z) q1, fun _ => ⟨vt, fun _ => ⟨vf, vt, fun z => absurd (by rw [cf, ct'] at z; exact z) q3, fun _ => ⟨rfl, h.th 0⟩⟩, fun z => absurd (ct' ▸ z) q2⟩⟩) (fun z => absurd hy z))))
      have m4 : ∀ post : Int32 → St → Prop, ¬ τ.2 10 f = 3 → ¬ τ.2 10 t = 3 → τ.2 10 f = τ.2 10 t → (¬ (HD F a n ∧ HD T w n) → post (-4) (pI τ 0 0)) → (HD F a n → HD T w n → ((¬ nI f = nI t → wpM_copy_125 (nI f) a (nI t) w n (pI τ 0 0) post) ∧ (nI f = nI t → ((w ≤ a → wpM_copy_125 (nI f) a (nI t) w n (pI τ 0 0) post) ∧ (¬ w ≤ a → wpM_copy_126 (nI f) a (nI t) w n 1 (pI τ 0 0) post))))) → wpM_copy (nI f) a (nI t) w n τ post := by
        intro post q1 q2 q3 no yes
        refine M_in (bz_br (fun z => absurd hx z) (fun _ => M_in (bz_rb (fun _ => ⟨vf, fun z => absurd (cf ▸ z) q1, fun _ => ⟨vt, fun _ => ⟨vf, vt, fun _ => ⟨fun z => no (fun c => c.1.1 z), fun n0 => ⟨fun z => no (fun c => c.1.2.1 z), fun a0 => ⟨fun z => no (fun c => c.2.2.1 z), fun w0 => ?_⟩⟩⟩, fun z => absurd (by rw [cf, ct']; exact q3) z⟩, fun z => absurd (ct' ▸ z) q2⟩⟩) (fun z => absurd hy z))))
        obtain ⟨N, hN, rfl⟩ := nI_of n0
        obtain ⟨A, hA, rfl⟩ := nI_of a0
        obtain ⟨W, hW, rfl⟩ := nI_of w0
        show vp_in (nI f) 4 ∧ ((τ.2 11 (nI f).toNatClampNeg - nI N < nI A → post (-4) (pI τ 0 0)) ∧ (¬ τ.2 11 (nI f).toNatClampNeg - nI N < nI A → vp_in (nI t) 4 ∧ ((nI W ≤ τ.2 11 (nI t).toNatClampNeg - nI N → _) ∧ (¬ nI W ≤ τ.2 11 (nI t).toNatClampNeg - nI N → post (-4) (pI τ 0 0)))))
        rw [cf, ct', eF, eT]
        refine ⟨vf, fun z => no (fun c => ?_), fun z => ⟨vt, fun z2 => yes ?_ ?_, fun z2 => no (fun c => z2 ?_)⟩⟩
        · have z3 := Int32.lt_iff_toInt_lt.mp z
          have := c.1.2.2
          rw [nI_toInt hA, nI_toInt hN] at this
          rw [i_subN (by omega) hN, nI_toInt hA] at z3
          omega
        · have z3 : ¬ (nI F - nI N).toInt < (nI A).toInt := fun c => z (Int32.lt_iff_toInt_lt.mpr c)
          rw [i_subN (by omega) hN, nI_toInt hA] at z3
          exact ⟨n0, a0, by rw [nI_toInt hA, nI_toInt hN]; omega⟩
        · have z3 := Int32.le_iff_toInt_le.mp z2
          rw [i_subN (by omega) hN, nI_toInt hW] at z3
          exact ⟨n0, w0, by rw [nI_toInt hW, nI_toInt hN]; omega⟩
        · refine Int32.le_iff_toInt_le.mpr ?_
          have := c.2.2.2
          rw [nI_toInt hW, nI_toInt hN] at this
          rw [i_subN (by omega) hN, nI_toInt hW]
          omega
      refine I_in (bz_br (fun z => absurd hx z) (fun _ => I_in (bz_rb (fun _ => I_isAbsent (by omega) (bz_rb (fun q1 => m2 (Or.inl (e10 ▸ q1))) (fun q1 => I_isAbsent (by omega) (bz_br (fun q2 => I_alike (by omega) (by omega) (bz_rb (fun q3 => I_holds (L := F) (by omega) (by omega) (e11 ▸ eF) (bz_br (fun q4 => ?_) (fun q4 => I_holds (L := T) (by omega) (by omega) (e11 ▸ eT) (bz_rb (fun q5 => ?_) (fun q5 => ?_))))) (fun q3 => ?_))) (fun q2 => m2 (Or.inr (e10 ▸ q2))))))) (fun z => absurd hy z))))
      · rw [e10] at q1 q2 q3
        exact m4 _ q1 q2 q3 (fun _ => ⟨rfl, h.th 0⟩) (fun c _ => absurd c q4)
      · rw [e10] at q1 q2 q3
        obtain ⟨N, hN, rfl⟩ := nI_of q4.1
        obtain ⟨A, hA, rfl⟩ := nI_of q4.2.1
        obtain ⟨W, hW, rfl⟩ := nI_of q5.2.1
        have l1 := q4.2.2
        have l2 := q5.2.2
        rw [nI_toInt hA, nI_toInt hN] at l1
        rw [nI_toInt hW, nI_toInt hN] at l2
        unfold wpI_X3_carry
        rw [cf, ct', nI_clamp hA, nI_clamp hW, nI_clamp hN]
        have fin : Rel (pC σ (250 + t) (va_cpy (σ.2 (250 + f)) (σ.2 (250 + t)) A W N)) (pC (pI τ 0 0) 12 (va_cpy (τ.2 12) (τ.2 12) (9 * f + A) (9 * t + W) N)) := by
          refine Rel_row (by omega) (h.th 0) (fun i hi => ?_) (fun k' hk' hne i hi => pk_cpy_out (by omega))
          by_cases q : W ≤ i ∧ i < W + N
          · rw [pk_cpy_in q.1 q.2, pk_cpy_in (by omega) (by omega), h.a4.at f (by omega) _ (by omega)]
            exact congrArg _ (by omega)
          · rw [pk_cpy_out (by omega), pk_cpy_out (by omega), h.a4.at t (by omega) _ hi]
        refine ⟨vf, vt, ⟨q4.2.1, q5.2.1, q4.1, by omega, by omega⟩, m4 _ q1 q2 q3 (fun m => absurd ⟨q4, q5⟩ m) (fun _ _ => ⟨fun z => ?_, fun z => ⟨fun z2 => ?_, fun z2 => ?_⟩⟩)⟩
        · exact M_copy131 (by omega) (by omega) (by omega) (by omega) (Or.inl ⟨rfl, Or.inl (fun e => z (e ▸ rfl))⟩) ⟨rfl, fin⟩
        · exact M_copy131 (by omega) (by omega) (by omega) (by omega) (Or.inl ⟨rfl, Or.inr ((nI_leI hW hA).mp z2)⟩) ⟨rfl, fin⟩
        · exact M_copy131 (by omega) (by omega) (by omega) (by omega) (Or.inr ⟨by decide, (nI_eq (by omega) (by omega)).mp z, Nat.lt_of_not_le (fun c => z2 (nI_le c (by omega)))⟩) ⟨rfl, fin⟩
      · rw [e10] at q1 q2 q3
        exact m4 _ q1 q2 q3 (fun _ => ⟨rfl, h.th 0⟩) (fun _ c => absurd c q5)
      · rw [e10] at q1 q2 q3
        exact m3 q1 q2 q3
    · exact I_in (bz_br (fun z => absurd hx z) (fun _ => I_in (bz_rb (fun z => absurd z hy) (fun _ => M_in (bz_br (fun _ => ⟨rfl, h.th 0⟩) (fun _ => M_in (bz_rb (fun z => absurd z hy) (fun _ => ⟨rfl, h.th 0⟩))))))))
  · exact I_in (bz_br (fun _ => M_in (bz_br (fun _ => ⟨rfl, h.th 0⟩) (fun z => absurd z hx))) (fun z => absurd z hx))

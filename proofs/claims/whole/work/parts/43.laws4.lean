/-! ===== laws: the whole tape, both sides ===== -/
theorem lst_b {f : Nat → Int32} {n a : Nat} {fd : Nat → Int32} (ha : a ≤ n) : a ≤ (lst f n a fd).2.1 ∧ (lst f n a fd).2.1 ≤ n ∧ (a < n → (lst f n a fd).1 = 0 → a < (lst f n a fd).2.1) := by
  have b1 := nxt_b (f := f) ha
  have b2 := nxt_b (f := f) b1.2.1
  have b3 := nxt_b (f := f) b2.2.1
  unfold lst
  cases wdf f a (toF f n a) 7 0 with
  | none => exact ⟨Nat.le_refl _, ha, fun _ z => absurd z (show ¬ (1 : Int32) = 0 by decide)⟩
  | some j =>
    dsimp only
    by_cases c : j < 5
    · rw [if_pos c]
      by_cases d : dgt f n (nxt f n a) ∧ toF f n (nxt f n a) - nxt f n a ≤ 4
      · rw [ci_t d]
        by_cases g : wdLow j ≤ nv f (nxt f n a) (toF f n (nxt f n a) - nxt f n a) ∧ nv f (nxt f n a) (toF f n (nxt f n a) - nxt f n a) ≤ wdHigh j
        · rw [if_pos g]
          by_cases s : sem f n (nxt f n (nxt f n a))
          · rw [ci_t s]
            exact ⟨by dsimp only; omega, by dsimp only; omega, fun z _ => by have := b1.2.2 z; dsimp only; omega⟩
          · rw [ci_f s]
            exact ⟨by dsimp only; omega, by dsimp only; omega, fun z _ => by have := b1.2.2 z; dsimp only; omega⟩
        · rw [if_neg g]
          exact ⟨b1.1, b1.2.1, fun z _ => b1.2.2 z⟩
      · rw [ci_f d]
        exact ⟨b1.1, b1.2.1, fun z _ => b1.2.2 z⟩
    · rw [if_neg c]
      by_cases s : sem f n (nxt f n a)
      · rw [ci_t s]
        exact ⟨by dsimp only; omega, by dsimp only; omega, fun z _ => by have := b1.2.2 z; dsimp only; omega⟩
      · rw [ci_f s]
        exact ⟨b1.1, b1.2.1, fun z _ => b1.2.2 z⟩
theorem upd_c {fd fd' : Nat → Int32} {i : Nat} {v : Int32} (h : ∀ k, k < 6 → fd k = fd' k) : ∀ k, k < 6 → upd fd i v k = upd fd' i v k := by
  intro k hk
  unfold upd
  rw [h k hk]
theorem lst_c {f : Nat → Int32} {n a : Nat} {fd fd' : Nat → Int32} (h : ∀ k, k < 6 → fd k = fd' k) : (lst f n a fd).1 = (lst f n a fd').1 ∧ (lst f n a fd).2.1 = (lst f n a fd').2.1 ∧ ∀ k, k < 6 → (lst f n a fd).2.2 k = (lst f n a fd').2.2 k := by
  unfold lst
  cases wdf f a (toF f n a) 7 0 with
  | none => exact ⟨rfl, rfl, h⟩
  | some j =>
    dsimp only
    by_cases c : j < 5
    · rw [if_pos c, if_pos c]
      by_cases d : dgt f n (nxt f n a) ∧ toF f n (nxt f n a) - nxt f n a ≤ 4
      · rw [ci_t d, ci_t d]
        by_cases g : wdLow j ≤ nv f (nxt f n a) (toF f n (nxt f n a) - nxt f n a) ∧ nv f (nxt f n a) (toF f n (nxt f n a) - nxt f n a) ≤ wdHigh j
        · rw [if_pos g, if_pos g]
          by_cases s : sem f n (nxt f n (nxt f n a))
          · rw [ci_t s, ci_t s]
            exact ⟨rfl, rfl, upd_c h⟩
          · rw [ci_f s, ci_f s]
            exact ⟨rfl, rfl, h⟩
        · rw [if_neg g, if_neg g]
          exact ⟨rfl, rfl, h⟩
      · rw [ci_f d, ci_f d]
        exact ⟨rfl, rfl, h⟩
    · rw [if_neg c, if_neg c]
      by_cases s : sem f n (nxt f n a)
      · rw [ci_t s, ci_t s]
        exact ⟨rfl, rfl, upd_c h⟩
      · rw [ci_f s, ci_f s]
        exact ⟨rfl, rfl, h⟩
theorem RLw_u {fd : Nat → Int32} {j : Nat} {v : Int32} (hj : j < 7) (h : RLw fd) (h1 : wdLow j ≤ v) (h2 : v ≤ wdHigh j) : RLw (upd fd (wdSlot j).toNatClampNeg v) := by
  have a1 := Int32.le_iff_toInt_le.mp h1
  have a2 := Int32.le_iff_toInt_le.mp h2
  obtain ⟨r1, r2, r3, r4, r5⟩ := h
  have nz : ∀ x : Int32, 1 ≤ x.toInt → ¬ x = 0 := fun x hx z => by rw [z, Int32.toInt_zero] at hx; omega
  rcases (by omega : j = 0 ∨ j = 1 ∨ j = 2 ∨ j = 3 ∨ j = 4 ∨ j = 5 ∨ j = 6) with rfl | rfl | rfl | rfl | rfl | rfl | rfl
  · exact ⟨r1, r2, r3, r4, r5⟩
  · exact ⟨r1, r2, r3, r4, r5⟩
  · rw [show (wdLow 2).toInt = 0 by decide] at a1
    rw [show (wdHigh 2).toInt = 16 by decide] at a2
    exact ⟨vp_in_iff.mpr (by show 0 ≤ v.toInt ∧ v.toInt < ((17 : Nat) : Int); omega), r2, r3, r4, r5⟩
  · rw [show (wdLow 3).toInt = 1 by decide] at a1
    rw [show (wdHigh 3).toInt = 16 by decide] at a2
    exact ⟨r1, vp_in_iff.mpr (by show 0 ≤ v.toInt ∧ v.toInt < ((17 : Nat) : Int); omega), nz v a1, r4, r5⟩
  · rw [show (wdLow 4).toInt = 1 by decide] at a1
    rw [show (wdHigh 4).toInt = 4 by decide] at a2
    exact ⟨r1, r2, r3, vp_in_iff.mpr (by show 0 ≤ v.toInt ∧ v.toInt < ((5 : Nat) : Int); omega), nz v a1⟩
  · exact ⟨r1, r2, r3, r4, r5⟩
  · exact ⟨r1, r2, r3, r4, r5⟩
theorem lst_r {f : Nat → Int32} {n a : Nat} {fd : Nat → Int32} (h : RLw fd) : RLw (lst f n a fd).2.2 := by
  unfold lst
  cases hw : wdf f a (toF f n a) 7 0 with
  | none => exact h
  | some j =>
    have hj := (wdf_b 7 0 j hw).2.1
    dsimp only
    by_cases c : j < 5
    · rw [if_pos c]
      by_cases d : dgt f n (nxt f n a) ∧ toF f n (nxt f n a) - nxt f n a ≤ 4
      · rw [ci_t d]
        by_cases g : wdLow j ≤ nv f (nxt f n a) (toF f n (nxt f n a) - nxt f n a) ∧ nv f (nxt f n a) (toF f n (nxt f n a) - nxt f n a) ≤ wdHigh j
        · rw [if_pos g]
          by_cases s : sem f n (nxt f n (nxt f n a))
          · rw [ci_t s]
            exact RLw_u (by omega) h g.1 g.2
          · rw [ci_f s]
            exact h
        · rw [if_neg g]
          exact h
      · rw [ci_f d]
        exact h
    · rw [if_neg c]
      by_cases s : sem f n (nxt f n a)
      · rw [ci_t s]
        exact h
      · rw [ci_f s]
        exact h
noncomputable def rdl (f : Nat → Int32) (n : Nat) : Nat → Nat → (Nat → Int32) → Int32 × Nat × (Nat → Int32)
  | 0, a, fd => (0, a, fd)
  | d + 1, a, fd => ci (a < n) (ci ((lst f n a fd).1 = 0) (rdl f n d (lst f n a fd).2.1 (lst f n a fd).2.2) (lst f n a fd)) (0, a, fd)
theorem rdl_c {f : Nat → Int32} {n : Nat} : ∀ (d a : Nat) (fd fd' : Nat → Int32), (∀ k, k < 6 → fd k = fd' k) → (rdl f n d a fd).1 = (rdl f n d a fd').1 ∧ (rdl f n d a fd).2.1 = (rdl f n d a fd').2.1 ∧ ∀ k, k < 6 → (rdl f n d a fd).2.2 k = (rdl f n d a fd').2.2 k
  | 0, _, _, _, h => ⟨rfl, rfl, h⟩
  | d + 1, a, fd, fd', h => by
    have l := lst_c (f := f) (n := n) (a := a) h
    unfold rdl
    by_cases q : a < n
    · rw [ci_t q, ci_t q]
      by_cases z : (lst f n a fd).1 = 0
      · rw [ci_t z, ci_t (l.1 ▸ z), l.2.1]
        exact rdl_c d _ _ _ l.2.2
      · rw [ci_f z, ci_f (l.1 ▸ z)]
        exact l
    · rw [ci_f q, ci_f q]
      exact ⟨rfl, rfl, h⟩
theorem rdl_r {f : Nat → Int32} {n : Nat} : ∀ (d a : Nat) (fd : Nat → Int32), RLw fd → RLw (rdl f n d a fd).2.2
  | 0, _, _, h => h
  | d + 1, a, fd, h => by
    unfold rdl
    by_cases q : a < n
    · rw [ci_t q]
      by_cases z : (lst f n a fd).1 = 0
      · rw [ci_t z]
        exact rdl_r d _ _ (lst_r h)
      · rw [ci_f z]
        exact lst_r h
    · rw [ci_f q]
      exact h
theorem I_read31 {σ : St} {n a : Nat} {fd : Nat → Int32} {post : Int32 → St → Prop} (hn : n ≤ 300) (e : σ.1 400 = nI n) (ha : a ≤ n) (h : post (rdl (σ.2 401) n 300 a fd).1 (LSt σ n (rdl (σ.2 401) n 300 a fd).2.2 (rdl (σ.2 401) n 300 a fd).1 (rdl (σ.2 401) n 300 a fd).2.1)) : wpI_X1_read_31 0 (LSt σ n fd 0 a) post := by
  generalize hr : rdl (σ.2 401) n 300 a fd = r0 at h
  refine lp_meas (fun t => ∃ i a fd ft, i ≤ 300 ∧ a ≤ n ∧ t = (nI i, LSt σ n fd ft a) ∧ ((¬ ft = 0 ∧ r0 = (ft, a, fd)) ∨ (ft = 0 ∧ rdl (σ.2 401) n (300 - i) a fd = r0))) (fun t => 300 - t.1.toNatClampNeg) ?_ _ ⟨0, a, fd, 0, by omega, ha, by rw [nI_0], Or.inr ⟨rfl, hr⟩⟩
  rintro kb t ⟨i, a, fd, ft, hi, ha, rfl, hs⟩ hkb
  dsimp only at hkb ⊢
  rw [nI_clamp (by omega)] at hkb
  unfold wpBI_X1_read_31
  have fin : r0 = (ft, a, fd) → wpI_X1_read_63 (LSt σ n fd ft a) post := by
    intro er
    rw [er] at h
    exact h
  refine pk_le 300 i (fun z => fin ?_) (fun z => ⟨fun z2 => fin ?_, fun z2 => ⟨fun z3 => fin ?_, fun z3 => ?_⟩⟩)
  · rcases hs with ⟨-, q⟩ | ⟨q1, q2⟩
    · exact q
    · rw [← q2, q1, show 300 - i = 0 by omega]
      rfl
  · rcases hs with ⟨-, q⟩ | ⟨q1, q2⟩
    · exact q
    · exact absurd q1 z2
  · have f0 : ft = 0 := z2
    rcases hs with ⟨q, -⟩ | ⟨q1, q2⟩
    · exact absurd f0 q
    · have nz : ¬ a < n := tk_0.mp z3
      rw [← q2, q1, show 300 - i = (300 - (i + 1)) + 1 by omega, rdl, ci_f nz]
  · have f0 : ft = 0 := z2
    subst f0
    rcases hs with ⟨q, -⟩ | ⟨-, q2⟩
    · exact absurd rfl q
    · have az : a < n := Classical.not_not.mp (fun c => z3 (tk_0.mpr c))
      have lb := lst_b (f := σ.2 401) (fd := fd) ha
      refine I_readLaw hn e ha (hkb _ ⟨i + 1, _, _, _, by omega, lb.2.1, by rw [nI_1], ?_⟩ ?_)
      · rw [show 300 - i = (300 - (i + 1)) + 1 by omega, rdl, ci_t az] at q2
        by_cases c : (lst (σ.2 401) n a fd).1 = 0
        · rw [ci_t c] at q2
          exact Or.inr ⟨c, q2⟩
        · rw [ci_f c] at q2
          exact Or.inl ⟨c, q2.symm⟩
      · dsimp only
        rw [nI_1, nI_clamp (by omega)]
        omega
theorem M_laws34 {τ : St} {n a : Nat} {td : Nat → Int32} {post : Int32 → St → Prop} (hn : n ≤ 300) (e : τ.1 22 = nI n) (ha : a ≤ n) (h0 : (rdl (τ.2 21) n 300 a td).1 = 0 → wpM_laws_57 0 (MSt τ n (rdl (τ.2 21) n 300 a td).2.2 (-1) (rdl (τ.2 21) n 300 a td).2.1) post) (h1 : ¬ (rdl (τ.2 21) n 300 a td).1 = 0 → ∀ td', wpM_laws_57 (rdl (τ.2 21) n 300 a td).1 (MSt τ n td' (nI (rdl (τ.2 21) n 300 a td).2.1) (rdl (τ.2 21) n 300 a td).2.1) post) : wpM_laws_34 0 (MSt τ n td (-1) a) post := by
  generalize hr : rdl (τ.2 21) n 300 a td = r0 at h0 h1
  refine lp_meas (fun t => ∃ d a td wr pl, a ≤ n ∧ t = (wr, MSt τ n td pl a) ∧ ((¬ wr = 0 ∧ pl = nI a ∧ r0.1 = wr ∧ r0.2.1 = a) ∨ (wr = 0 ∧ pl = -1 ∧ rdl (τ.2 21) n d a td = r0 ∧ 300 ≤ a + d))) (fun t => n - (t.2.1 24).toNatClampNeg + (if t.1 = 0 then 1 else 0)) ?_ _ ⟨300, a, td, 0, -1, ha, rfl, Or.inr ⟨rfl, rfl, hr, by omega⟩⟩
  rintro kb t ⟨d, a, td, wr, pl, ha, rfl, hs⟩ hkb
  dsimp only at hkb ⊢
  rw [show (MSt τ n td pl a).1 24 = nI a from rfl, nI_clamp (by omega)] at hkb
  unfold wpBM_laws_34
  refine ⟨fun z => ?_, fun z => ?_⟩
  · rcases hs with ⟨-, q2, q3, q4⟩ | ⟨q1, -⟩
    · subst q3
      subst q4
      rw [q2]
      exact h1 z td
    · exact absurd q1 z
  · subst z
    rcases hs with ⟨q, -⟩ | ⟨-, q2, q3, q4⟩
    · exact absurd rfl q
    · subst q2
      refine pk_le n a (fun c => ?_) (fun c => ?_) e (by rfl)
      · have er : r0 = (0, a, td) := by
          rw [← q3]
          cases d with
          | zero => rfl
          | succ d => rw [rdl, ci_f (by omega)]
        subst er
        exact h0 rfl
      · cases d with
        | zero => omega
        | succ d =>
          rw [rdl, ci_t c] at q3
          have lb := lst_b (f := τ.2 21) (fd := td) ha
          rw [if_pos rfl] at hkb
          refine M_one hn e ha (fun z => ?_) (fun z td' => ?_)
          · rw [ci_t z] at q3
            have l1 := lb.2.2 c z
            refine hkb _ ⟨d, _, _, 0, -1, lb.2.1, rfl, Or.inr ⟨rfl, rfl, q3, by omega⟩⟩ ?_
            show n - (nI (lst (τ.2 21) n a td).2.1).toNatClampNeg + (if (0 : Int32) = 0 then 1 else 0) < n - a + 1
            rw [nI_clamp (by omega), if_pos rfl]
            omega
          · rw [ci_f z] at q3
            refine hkb _ ⟨d, (lst (τ.2 21) n a td).2.1, td', _, _, lb.2.1, rfl, Or.inl ⟨z, rfl, by rw [← q3], by rw [← q3]⟩⟩ ?_
            show n - (nI (lst (τ.2 21) n a td).2.1).toNatClampNeg + (if (lst (τ.2 21) n a td).1 = 0 then 1 else 0) < n - a + 1
            rw [nI_clamp (by omega), if_neg z]
            omega
theorem M_takes {τ : St} {post : St → Prop} (h : post (pC τ 19 (mp (τ.2 19) 0 6 (fun k _ => τ.2 20 k)))) : wpM_takes τ post := by
  show wpM_takes_2 0 τ post
  refine lp_c0 (fun i => (nI i, pC τ 19 (mp (τ.2 19) 0 i (fun k _ => τ.2 20 k)))) 6 ?_ ?_ ?_
  · rw [mp_0, pC_self, nI_0]
  · intro kb
    dsimp only
    unfold wpBM_takes_2
    exact pk_le 6 6 (fun _ => h) (fun z => absurd z (Nat.lt_irrefl 6))
  · intro i kb hi hk
    dsimp only
    unfold wpBM_takes_2
    have v : vp_in (nI i) 6 := vp_in_nI hi (by omega)
    refine pk_le 6 i (fun z => absurd z (by omega)) (fun _ => ⟨v, v, kb_eq hk ?_⟩)
    rw [nI_1, nI_clamp (by omega), pA_same, mp_s (F := fun k _ => τ.2 20 k) (v := (pC τ 19 (mp (τ.2 19) 0 i (fun k _ => τ.2 20 k))).2 20 i) (Nat.zero_le _) rfl]
def nrm (td : Nat → Int32) : Nat → Int32 := upd (upd (upd (upd (upd (upd td 0 200) 1 100) 2 0) 3 16) 4 4) 5 0
theorem M_normal {τ : St} {post : St → Prop} (h : post (pC τ 20 (nrm (τ.2 20)))) : wpM_normal τ post := by
  refine ⟨vp_in_iff.mpr (by decide), vp_in_iff.mpr (by decide), vp_in_iff.mpr (by decide), vp_in_iff.mpr (by decide), vp_in_iff.mpr (by decide), vp_in_iff.mpr (by decide), ?_⟩
  have e : pA (pA (pA (pA (pA (pA τ 20 0 200) 20 1 100) 20 2 0) 20 3 16) 20 4 4) 20 5 0 = pC τ 20 (nrm (τ.2 20)) := by
    rw [show pA τ 20 0 200 = pC τ 20 (upd (τ.2 20) 0 200) from rfl]
    simp only [pA_same]
    rfl
  exact e ▸ h
theorem nrm_6 {td g : Nat → Int32} : ∀ k, k < 6 → va_cpy usualF g 0 0 6 k = nrm td k := by
  intro k hk
  rw [pk_cpy_in (by omega) (by omega)]
  rcases (by omega : k = 0 ∨ k = 1 ∨ k = 2 ∨ k = 3 ∨ k = 4 ∨ k = 5) with rfl | rfl | rfl | rfl | rfl | rfl <;> rfl
theorem T_laws {σ τ : St} (h : Rel σ τ) : wpI_X10_laws σ (fun r σ' => wpM_laws τ (fun r' τ' => r = r' ∧ Rel σ' τ')) := by
  have e22 : σ.1 400 = τ.1 22 := h.a0.i (by decide)
  have f21 : σ.2 401 = τ.2 21 := h.a0.a (by decide)
  have f19 : σ.2 501 = τ.2 19 := h.a0.a (by decide)
  obtain ⟨n, hn1, en⟩ := vp_x h.a7.1 (by omega)
  have hn : n ≤ 300 := by omega
  have eI : σ.1 400 = nI n := e22.trans en
  refine ⟨fun g => ?_, fun g => M_isOn (h.th 0) (bz_br (fun z => absurd g z) (fun _ => ⟨rfl, h.th 0⟩))⟩
  -- IceRun reads
  refine ⟨⟨by decide, by decide, by decide, by decide, by decide⟩, ?_⟩
  show wpI_X1_advance (pI (pI (pC σ 600 (va_cpy usualF (σ.2 600) 0 0 6)) 603 0) 604 0) _
  have b0 := ta_b (f := σ.2 401) (Nat.zero_le n)
  show wpI_X1_advance_8 (pI (pI (pI (pC σ 600 (va_cpy usualF (σ.2 600) 0 0 6)) 603 0) 604 0) 602 (nI 0)) _
  refine I_adv8 (σ := pI (pI (pC σ 600 (va_cpy usualF (σ.2 600) 0 0 6)) 603 0) 604 0) hn eI (Nat.zero_le _) (I_adv46 (σ := pI (pI (pC σ 600 (va_cpy usualF (σ.2 600) 0 0 6)) 603 0) 604 0) hn eI b0.2 ?_)
  have e1 : AV (pI (pI (pC σ 600 (va_cpy usualF (σ.2 600) 0 0 6)) 603 0) 604 0) (ta (σ.2 401) n 0) (toF (σ.2 401) n (ta (σ.2 401) n 0)) (tk (σ.2 401) n (ta (σ.2 401) n 0)) = LSt σ n (va_cpy usualF (σ.2 600) 0 0 6) 0 (ta (σ.2 401) n 0) := by
    unfold LSt AV
    rw [pI_cm (k := 603) (k' := 604) (by decide), pI_cm (k := 603) (k' := 602) (by decide), pI_cm (k := 603) (k' := 601) (by decide), pI_pI]
  show wpI_X1_read_31 0 (AV (pI (pI (pC σ 600 (va_cpy usualF (σ.2 600) 0 0 6)) 603 0) 604 0) (ta (σ.2 401) n 0) (toF (σ.2 401) n (ta (σ.2 401) n 0)) (tk (σ.2 401) n (ta (σ.2 401) n 0))) _
  rw [e1]
  refine I_read31 hn eI b0.2 ?_
  -- the reference reads
  have hM : ∀ post : Int32 → St → Prop, ((rdl (τ.2 21) n 300 (ta (τ.2 21) n 0) (nrm (τ.2 20))).1 = 0 → wpM_laws_57 0 (MSt (pI τ 0 0) n (rdl (τ.2 21) n 300 (ta (τ.2 21) n 0) (nrm (τ.2 20))).2.2 (-1) (rdl (τ.2 21) n 300 (ta (τ.2 21) n 0) (nrm (τ.2 20))).2.1) post) → (¬ (rdl (τ.2 21) n 300 (ta (τ.2 21) n 0) (nrm (τ.2 20))).1 = 0 → ∀ td', wpM_laws_57 (rdl (τ.2 21) n 300 (ta (τ.2 21) n 0) (nrm (τ.2 20))).1 (MSt (pI τ 0 0) n td' (nI (rdl (τ.2 21) n 300 (ta (τ.2 21) n 0) (nrm (τ.2 20))).2.1) (rdl (τ.2 21) n 300 (ta (τ.2 21) n 0) (nrm (τ.2 20))).2.1) post) → wpM_laws τ post := by
    intro post h0 h1
    refine M_isOn (h.th 0) (bz_br (fun _ => M_normal ?_) (fun z => absurd g z))
    show wpM_token (pI (pI (pC (pI τ 0 0) 20 (nrm (τ.2 20))) 23 (-1)) 25 0) (fun σ7 => wpM_laws_34 0 σ7 post)
    have b0' := ta_b (f := τ.2 21) (Nat.zero_le n)
    -- the first token, from wherever the last reading ended
    show wpM_token_8 (pI (pI (pI (pC (pI τ 0 0) 20 (nrm (τ.2 20))) 23 (-1)) 25 0) 24 0) _
    rw [pI_cm (k := 25) (k' := 24) (by decide)]
    have key := M_token (σ := pI (pC (pI τ 0 0) 20 (nrm (τ.2 20))) 23 (-1)) (n := n) (a := 0) (p := 0) (post := fun σ7 => wpM_laws_34 0 σ7 post) hn en (Nat.zero_le _) (M_laws34 (τ := pI τ 0 0) hn en b0'.2 h0 h1)
    have key2 : wpM_token_8 (pI (AM (pI (pC (pI τ 0 0) 20 (nrm (τ.2 20))) 23 (-1)) 0 0) 24 (nI 0)) (fun σ7 => wpM_laws_34 0 σ7 post) := key
    rw [AM_4] at key2
    exact key2
  have cc := rdl_c (f := τ.2 21) (n := n) 300 (ta (τ.2 21) n 0) (va_cpy usualF (σ.2 600) 0 0 6) (nrm (τ.2 20)) nrm_6
  have cr := rdl_r (f := τ.2 21) (n := n) 300 (ta (τ.2 21) n 0) (va_cpy usualF (σ.2 600) 0 0 6) (show RLw usualF from ⟨vp_in_iff.mpr (by decide), vp_in_iff.mpr (by decide), by decide, vp_in_iff.mpr (by decide), by decide⟩)
  rw [f21]
  generalize rdl (τ.2 21) n 300 (ta (τ.2 21) n 0) (va_cpy usualF (σ.2 600) 0 0 6) = r at cc cr ⊢
  generalize rdl (τ.2 21) n 300 (ta (τ.2 21) n 0) (nrm (τ.2 20)) = r' at cc hM
  refine ⟨fun z => ⟨fun _ => ?_, fun z2 => absurd z2 z⟩, fun z => ⟨fun z2 => absurd z z2, fun _ => ⟨⟨by decide, by decide, by decide, by decide, by decide⟩, ?_⟩⟩⟩
  · -- a fault
    refine hM _ (fun z2 => absurd (cc.1.trans z2) z) (fun z2 td' => ⟨fun _ => ⟨cc.1, ?_⟩, fun z3 => absurd z3 z2⟩)
    show Rel (pI (pI (LSt σ n r.2.2 r.1 r.2.1) 502 (nI r.2.1)) 400 0) (pI (MSt (pI τ 0 0) n td' (nI r'.2.1) r'.2.1) 22 0)
    rw [cc.2.1]
    refine ⟨⟨fun p hp => ?_, fun p hp => ?_⟩, h.a1, h.a2, h.a3, h.a4, h.a5, h.a6, ⟨(show vp_in (0 : Int32) 301 from vp_in_iff.mpr (by decide)), h.a7.2⟩, h.a8⟩
    · simp only [IP, List.mem_cons, List.not_mem_nil, or_false] at hp
      rcases hp with rfl | rfl | rfl | rfl | rfl | rfl | rfl | rfl | rfl | rfl | rfl
      all_goals first | exact h.a0.i (by decide) | rfl
    · simp only [AP, List.mem_cons, List.not_mem_nil, or_false] at hp
      rcases hp with rfl | rfl | rfl | rfl | rfl | rfl | rfl | rfl | rfl | rfl | rfl | rfl | rfl | rfl | rfl | rfl | rfl | rfl | rfl | rfl | rfl | rfl | rfl | rfl
      all_goals exact h.a0.a (by decide)
  · -- taken
    refine hM _ (fun z2 => ⟨fun z3 => absurd rfl z3, fun _ => M_takes ⟨z, ?_⟩⟩) (fun z2 => absurd (cc.1.symm.trans z) z2)
    show Rel (pI (pC (pI (LSt σ n r.2.2 r.1 r.2.1) 502 (-1)) 501 (va_cpy r.2.2 (σ.2 501) 0 0 6)) 400 0) (pC (pI (MSt (pI τ 0 0) n r'.2.2 (-1) r'.2.1) 22 0) 19 (mp (τ.2 19) 0 6 (fun k _ => r'.2.2 k)))
    have el : va_cpy r.2.2 (σ.2 501) 0 0 6 = mp (τ.2 19) 0 6 (fun k _ => r'.2.2 k) := by
      funext k
      by_cases hk : k < 6
      · rw [pk_cpy_in (by omega) (by omega), mp_in (Nat.zero_le _) hk, show 0 + (k - 0) = k by omega, cc.2.2 k hk]
      · rw [pk_cpy_out (by omega), mp_out (by omega), f19]
    have rl : RLw (va_cpy r.2.2 (σ.2 501) 0 0 6) := cr
    rw [el] at rl ⊢
    refine ⟨⟨fun p hp => ?_, fun p hp => ?_⟩, h.a1, h.a2, h.a3, h.a4, h.a5, rl, ⟨(show vp_in (0 : Int32) 301 from vp_in_iff.mpr (by decide)), h.a7.2⟩, h.a8⟩
    · simp only [IP, List.mem_cons, List.not_mem_nil, or_false] at hp
      rcases hp with rfl | rfl | rfl | rfl | rfl | rfl | rfl | rfl | rfl | rfl | rfl
      all_goals first | exact h.a0.i (by decide) | rfl
    · simp only [AP, List.mem_cons, List.not_mem_nil, or_false] at hp
      rcases hp with rfl | rfl | rfl | rfl | rfl | rfl | rfl | rfl | rfl | rfl | rfl | rfl | rfl | rfl | rfl | rfl | rfl | rfl | rfl | rfl | rfl | rfl | rfl | rfl
      all_goals first | exact h.a0.a (by decide) | rfl

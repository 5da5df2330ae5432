/-! ===== begin: both sides ===== -/
theorem RQ_begin {σ τ σ' τ' : St} (h : Rel σ τ) (hg : σ.1 702 = -1) {n m : Nat} (hn : τ.1 27 = nI n) (hn3 : n ≤ 3) (on : ¬ τ.1 26 = 0) (hm1 : 1 ≤ m) (hm : m ≤ 16) (k26 : τ'.1 26 = τ.1 26) (k1 : τ'.1 1 = τ.1 1) (k27 : τ'.1 27 = nI (n + 1)) (k28 : τ'.2 28 = upd (τ.2 28) n 1) (k702 : σ'.1 702 = nI n) (k712 : σ'.2 712 = σ.2 712) (k711 : σ'.2 711 = σ.2 711) (k39 : τ'.1 39 = τ.1 39) (k38 : τ'.2 38 = τ.2 38) (k706 : σ'.1 706 = σ.1 706) (k707 : σ'.1 707 = nI (cnt (fun s => ¬ τ'.2 32 s = 0) 16)) (k13 : τ'.1 13 = τ.1 13) (kA : ∀ s, s < 16 → ¬ τ'.2 32 s = 0 → nI s < τ.1 13) (k33 : τ'.2 33 = τ.2 33) (k34 : τ'.2 34 = τ.2 34) (k30 : τ'.1 30 = nI m) (k31 : τ'.1 31 = 0) (kO : ∀ i, i < m → ∃ s, s < 16 ∧ τ'.2 29 i = nI s ∧ nI s < τ.1 13) : RQ σ' τ' := by
  obtain ⟨n', hn', hn4, hst⟩ := h.a8.b1
  have en : n' = n := (nI_eq (by omega) (by omega)).mp (hn'.symm.trans hn)
  subst en
  have g1 : ∀ r, r < 4 → ¬ τ.2 28 r = 1 := by
    rcases h.a8.b2 with ⟨-, g⟩ | ⟨r, hr, e, -⟩
    · exact g
    · exact absurd (e.symm.trans hg) (nI_m1 (by omega))
  have u : ∀ r, r ≠ n' → τ'.2 28 r = τ.2 28 r := fun r hr => by rw [k28, pk_un hr]
  have u0 : τ'.2 28 n' = 1 := by rw [k28, pk_us]
  refine ⟨⟨fun _ => ?_, fun z => absurd (k26 ▸ z) on⟩, ⟨n' + 1, k27, by omega, fun r hr => ?_⟩, Or.inr ⟨n', by omega, k702, k27, u0⟩, fun r hr => ?_, ?_, ⟨?_, k707⟩, fun s hs z => ?_, fun r hr s hs z => ?_, ⟨m, k30, hm, fun i hi => ?_, fun _ => ⟨0, k31, by omega⟩⟩⟩
  · rw [k1]
    exact h.a8.b0.1 on
  · by_cases e : r = n'
    · subst e
      rw [u0]
      exact ⟨fun _ => Or.inl rfl, fun z => by omega, fun _ => rfl⟩
    · rw [u r e]
      exact ⟨fun z => (hst r hr).1 (by omega), fun z => (hst r hr).2.1 (by omega), fun z => absurd z (g1 r hr)⟩
  · rw [k712]
    by_cases e : r = n'
    · subst e
      rw [u0]
      refine ⟨fun _ => by decide, fun _ => (h.a8.b3 r hr).mpr ?_⟩
      rw [(hst r hr).2.1 (Nat.le_refl _)]
      decide
    · rw [u r e]
      exact h.a8.b3 r hr
  · rw [k39, k38, k712, k711]
    exact h.a8.b4
  · rw [k706, h.a8.b5.1]
    refine congrArg nI (cnt_c (fun r hr => ?_))
    by_cases e : r = n'
    · subst e
      rw [u0, (hst r hr).2.1 (Nat.le_refl _)]
      exact ⟨fun z => absurd z (by decide), fun z => absurd z (by decide)⟩
    · rw [u r e]
  · rw [k13, k26, k27]
    exact ⟨kA s hs z, on, nI_ne0 (by omega) (by omega)⟩
  · rw [k33] at z
    have := h.a8.b7 r hr s hs z
    rw [hn, nI_ltI (by omega) (by omega)] at this
    rw [k27, k13, k34]
    exact ⟨nI_lt (by omega) (by omega), this.2⟩
  · rw [k13]
    exact kO i hi
theorem en_ok {c : Nat → Prop} {p et : Nat → Int32} {n : Nat} (hn : n ≤ 16) (hp : ∀ k, k < cnt c n → ∃ s, s < n ∧ c s ∧ cnt c s = k ∧ p k = nI s) (h0 : ∀ s, s < 16 → et s = 0) : ∀ i : Nat, i ≤ cnt c n → ∀ s, s < 16 → (¬ en p et i s = 0 ↔ s < n ∧ c s ∧ cnt c s < i)
  | 0, _ => fun s hs => ⟨fun z => absurd (h0 s hs) z, fun z => absurd z.2.2 (Nat.not_lt_zero _)⟩
  | i + 1, hi => fun s hs => by
    have ih := en_ok hn hp h0 i (by omega) s hs
    obtain ⟨q, hq, cq, eq, pq⟩ := hp i (by omega)
    show ¬ upd (en p et i) (p i).toNatClampNeg 1 s = 0 ↔ _
    rw [pq, nI_clamp (by omega)]
    by_cases e : s = q
    · subst e
      rw [pk_us]
      exact ⟨fun _ => ⟨hq, cq, by omega⟩, fun _ => by decide⟩
    · rw [pk_un e, ih]
      constructor
      · rintro ⟨a, b, d⟩
        exact ⟨a, b, by omega⟩
      · rintro ⟨a, b, d⟩
        refine ⟨a, b, Nat.lt_of_le_of_ne (by omega) (fun e2 => ?_)⟩
        rcases Nat.lt_or_gt_of_ne e with l | l
        · have := cnt_inj b l
          omega
        · have := cnt_inj cq l
          omega
theorem T_begin {σ τ : St} {x : Int32} (h : Rel σ τ) : wpI_X10_begin x σ (fun r σ' => wpM_begin x τ (fun r' τ' => r = r' ∧ Rel σ' τ')) := by
  have e26 : σ.1 700 = τ.1 26 := h.a0.i (by decide)
  have e27 : σ.1 701 = τ.1 27 := h.a0.i (by decide)
  have e13 : σ.1 300 = τ.1 13 := h.a0.i (by decide)
  have f19 : σ.2 501 = τ.2 19 := h.a0.a (by decide)
  have f15 : σ.2 302 = τ.2 15 := h.a0.a (by decide)
  have f41 : σ.2 709 = τ.2 41 := h.a0.a (by decide)
  have f32 : σ.2 710 = τ.2 32 := h.a0.a (by decide)
  have f29 : σ.2 708 = τ.2 29 := h.a0.a (by decide)
  obtain ⟨n, hn16, hn⟩ := h.sleds
  obtain ⟨m, hm, hm4, hst⟩ := h.a8.b1
  obtain ⟨V4, hV4, eV4⟩ := vp_x h.a6.2.2.2.1 (by omega)
  have hM : ∀ post : Int32 → St → Prop, (¬ τ.1 26 = 0 ∧ σ.1 702 = -1 ∧ m < V4 ∧ m < 4 → ((¬ τ.1 27 = 0 → wpM_begin_102 x 0 1 (pI τ 0 0) post) ∧ (τ.1 27 = 0 → wpM_begin_55 x 0 0 (pI τ 0 0) post))) → (¬ (¬ τ.1 26 = 0 ∧ σ.1 702 = -1 ∧ m < V4 ∧ m < 4) → post (-1) (pI τ 0 0)) → wpM_begin x τ post := by
    intro post hy hno
    have v1 : 1 ≤ V4 := by
      refine Nat.one_le_iff_ne_zero.mpr (fun z => h.a6.2.2.2.2 ?_)
      rw [eV4, z]
      rfl
    refine ⟨fun z => hno (fun c => c.1 z), fun q1 => M_isOn (h.th 0) (bz_rb (fun z => hno (fun c => z c.2.1)) (fun q2 => ⟨vp_in_iff.mpr (by decide), ?_⟩))⟩
    show ((τ.2 19 4 - 1) < τ.1 27 → post (-1) (pI τ 0 0)) ∧ (¬ (τ.2 19 4 - 1) < τ.1 27 → ((τ.1 27 ≤ 3 → ((¬ τ.1 27 = 0 → wpM_begin_102 x 0 1 (pI τ 0 0) post) ∧ (τ.1 27 = 0 → wpM_begin_55 x 0 0 (pI τ 0 0) post))) ∧ (¬ τ.1 27 ≤ 3 → post (-1) (pI τ 0 0))))
    rw [eV4, nI_s1 v1]
    exact pk_lt (V4 - 1) m (fun z => hno (fun c => by omega)) (fun q3 => pk_le m 3 (fun q4 => hy ⟨q1, Classical.not_not.mp q2, by omega, by omega⟩) (fun z => hno (fun c => by omega)) hm) (by rfl) hm
  have hno : ¬ (¬ τ.1 26 = 0 ∧ σ.1 702 = -1 ∧ m < V4 ∧ m < 4) → wpM_begin x τ (fun r' τ' => (-1 : Int32) = r' ∧ Rel σ τ') := fun z => hM _ (fun c => absurd c z) (fun _ => ⟨rfl, h.th 0⟩)
  refine ⟨fun z => hno (fun c => c.1 (e26 ▸ z)), fun q1 => ⟨fun z => hno (fun c => z c.2.1), fun q2 => I_in (bz_br (fun z => absurd (by decide) z) (fun _ => ⟨vp_in_iff.mpr (by decide), ?_⟩))⟩⟩
  rw [e26] at q1
  show (σ.2 501 4 ≤ σ.1 701 → wpM_begin x τ (fun r' τ' => (-1 : Int32) = r' ∧ Rel σ τ')) ∧ (¬ σ.2 501 4 ≤ σ.1 701 → ((σ.1 701 < 4 → ((¬ σ.1 701 = 0 → wpI_X10_beginLater σ _) ∧ (σ.1 701 = 0 → wpI_X10_beginFirst x σ _))) ∧ (¬ σ.1 701 < 4 → wpM_begin x τ (fun r' τ' => (-1 : Int32) = r' ∧ Rel σ τ'))))
  rw [f19, eV4]
  refine pk_le V4 m (fun z => hno (fun c => by omega)) (fun q3 => pk_lt m 4 (fun q4 => ⟨fun q5 => ?_, fun q5 => ?_⟩) (fun z => hno (fun c => by omega)) (e27.trans hm)) (by rfl) (e27.trans hm)
  · -- a later run
    have g : ¬ τ.1 26 = 0 ∧ σ.1 702 = -1 ∧ m < V4 ∧ m < 4 := ⟨q1, q2, q3, q4⟩
    rw [e27] at q5
    obtain ⟨N, hN, hNI, h5⟩ := h.ev
    have hT : RCp σ N (rc3 σ N 16) := ⟨fun j hj => rc_900 hj, fun j hj => rc_902 hj⟩
    unfold wpI_X10_beginLater
    rw [hNI]
    refine I_recall h5 (Nat.le_refl _) (I_listByRank hT ?_)
    have e41 : (rc3 σ N 16).2 709 = τ.2 41 := f41
    rw [e41]
    have hc16 : (ols (rv σ N) (τ.2 41) 16).1 ≤ 16 := by
      rw [ols_1 16 (by omega)]
      exact cnt_le _ _
    have hval : ∀ k, k < (ols (rv σ N) (τ.2 41) 16).1 → ∃ s, s < 16 ∧ (ols (rv σ N) (τ.2 41) 16).2 k = nI s ∧ nI s < τ.1 13 := by
      refine ols_ok (Q := fun v => ∃ s, s < 16 ∧ v = nI s ∧ nI s < τ.1 13) (fun s R hs e hR => ⟨s, hs, rfl, ?_⟩) 16 (by omega)
      rw [hn]
      exact nI_lt (rv_lt h hn hn16 hs e (by omega)) (by omega)
    have hM2 : ∀ post : Int32 → St → Prop, wpM_begin_162 x (nI (ols (rv σ N) (τ.2 41) 16).1) (pC (pI τ 0 0) 41 (ols (rv σ N) (τ.2 41) 16).2) post → wpM_begin x τ post := fun post hp =>
      hM post (fun _ => ⟨fun _ => M_begin102 (h.th 0) h5 (Nat.le_refl _) hN hn16 hn hp, fun z => absurd z q5⟩) (fun z => absurd g z)
    generalize ols (rv σ N) (τ.2 41) 16 = W at hc16 hval hM2 ⊢
    obtain ⟨V3, hV3, eV3⟩ := vp_x h.a6.2.1 (by omega)
    obtain ⟨V2, hV2, eV2⟩ := vp_x h.a6.1 (by omega)
    have v3 : 1 ≤ V3 := by
      refine Nat.one_le_iff_ne_zero.mpr (fun z => h.a6.2.2.1 ?_)
      rw [eV3, z]
      rfl
    refine And.symm (pk_eq W.1 0 (fun z => ?_) (fun z => ?_))
    · refine hM2 _ ⟨fun z2 => absurd (by rw [z]; rfl) z2, fun _ => ⟨rfl, ?_⟩⟩
      exact ⟨((h.rc N).th 0).a0.vC (k := 709) (k' := 41) (by decide) rfl, h.2⟩
    · refine I_in (bz_br (fun z => absurd (by decide) z) (fun _ => ⟨vp_in_iff.mpr (by decide), ?_⟩))
      dsimp only
      refine I_in (bz_br (fun z => absurd (by decide) z) (fun _ => ⟨vp_in_iff.mpr (by decide), ?_⟩))
      show wpI_X2_turnOrder (if σ.2 501 3 < nI W.1 then σ.2 501 3 else nI W.1) (σ.2 501 2) (pC (rc3 σ N 16) 709 W.2) _
      rw [f19, eV3, eV2]
      -- so many start
      obtain ⟨M, hM1, hMW, hMV, eM⟩ : ∃ M : Nat, 1 ≤ M ∧ M ≤ W.1 ∧ (M = V3 ∨ M = W.1) ∧ (if nI V3 < nI W.1 then nI V3 else nI W.1) = nI M := by
        by_cases c : V3 < W.1
        · exact ⟨V3, v3, by omega, Or.inl rfl, if_pos (nI_lt c (by omega))⟩
        · exact ⟨W.1, by omega, Nat.le_refl _, Or.inr rfl, if_neg (nI_nlt (by omega) (by omega))⟩
      obtain ⟨B, hBM, eB⟩ : ∃ B : Nat, B ≤ M ∧ (if nI V2 < nI M then nI V2 else nI M) = nI B := by
        by_cases c : V2 < M
        · exact ⟨V2, by omega, if_pos (nI_lt c (by omega))⟩
        · exact ⟨M, Nat.le_refl _, if_neg (nI_nlt (by omega) (by omega))⟩
      rw [eM]
      show wpI_X2_turnOrder_14 (nI M) (if nI V2 < nI M then nI V2 else nI M) 0 (pI (pC (rc3 σ N 16) 709 W.2) 703 (nI M)) _
      rw [eB]
      refine I_turn (by omega) hBM ?_
      have hM3 : ∀ post : Int32 → St → Prop, wpM_begin_208 (pC (pI (pC (pI τ 0 0) 41 W.2) 30 (nI M)) 29 (mp (τ.2 29) 0 M (tn W.2 B))) post → wpM_begin x τ post := by
        intro post hp
        refine hM2 post ⟨fun _ => ⟨fun _ => ⟨vp_in_iff.mpr (by decide), ?_⟩, fun z => absurd z q5⟩, fun z2 => absurd z2 (nI_ne0 (by omega) (by omega))⟩
        have t : wpM_begin_205 (nI M) (pC (pI τ 0 0) 41 W.2) post := by
          refine ⟨vp_in_iff.mpr (by decide), ?_⟩
          show (nI M ≤ τ.2 19 2 → wpM_turns_28 (nI M) (nI M) 0 (pI (pC (pI τ 0 0) 41 W.2) 30 (nI M)) _) ∧ (¬ nI M ≤ τ.2 19 2 → vp_in 2 6 ∧ wpM_turns_28 (nI M) (τ.2 19 2) 0 (pI (pC (pI τ 0 0) 41 W.2) 30 (nI M)) _)
          rw [eV2]
          have t2 : wpM_turns_28 (nI M) (nI B) 0 (pI (pC (pI τ 0 0) 41 W.2) 30 (nI M)) (fun σ1 => wpM_begin_208 σ1 post) := M_turn (by omega) hBM hp
          rw [← eB] at t2
          refine pk_le M V2 (fun c => ?_) (fun c => ⟨vp_in_iff.mpr (by decide), ?_⟩)
          · rw [if_neg (nI_nlt c (by omega))] at t2
            exact t2
          · rw [if_pos (nI_lt c (by omega))] at t2
            exact t2
        show (τ.2 19 3 ≤ nI W.1 → vp_in 3 6 ∧ wpM_begin_205 (τ.2 19 3) (pC (pI τ 0 0) 41 W.2) post) ∧ (¬ τ.2 19 3 ≤ nI W.1 → wpM_begin_205 (nI W.1) (pC (pI τ 0 0) 41 W.2) post)
        rw [eV3]
        rw [← eM] at t
        refine pk_le V3 W.1 (fun c => ⟨vp_in_iff.mpr (by decide), ?_⟩) (fun c => ?_)
        · by_cases c2 : V3 = W.1
          · rw [if_neg (nI_nlt (by omega) (by omega)), ← c2] at t
            exact t
          · rw [if_pos (nI_lt (by omega) (by omega))] at t
            exact t
        · rw [if_neg (nI_nlt (by omega) (by omega))] at t
          exact t
      refine hM3 _ ⟨?_, ?_⟩
      · show vp_in (τ.1 27) 4
        rw [hm]
        exact vp_in_nI q4 (by omega)
      · show σ.1 701 = (τ.1 27 + 1) - 1 ∧ Rel (pI (pI (pI (pC (pI (pC (rc3 σ N 16) 709 W.2) 703 (nI M)) 708 (mp (σ.2 708) 0 M (tn W.2 B))) 702 (σ.1 701)) 701 (σ.1 701 + 1)) 704 0) (pI (pA (pI (pC (pI (pC (pI τ 0 0) 41 W.2) 30 (nI M)) 29 (mp (τ.2 29) 0 M (tn W.2 B))) 31 0) 28 (τ.1 27).toNatClampNeg 1) 27 (τ.1 27 + 1))
        rw [e27, hm, nI_1, nI_pred, nI_clamp (by omega)]
        refine ⟨rfl, ⟨?_, h.a1, h.a2, h.a3, h.a4, h.a5, h.a6, h.a7, RQ_begin (m := M) h q2 hm (by omega) q1 hM1 (by omega) rfl rfl rfl rfl rfl rfl rfl rfl rfl rfl h.a8.b5.2 rfl (fun s hs z => (h.a8.b6 s hs z).1) rfl rfl rfl rfl (fun i hi => ?_)⟩⟩
        · refine ⟨fun p hp => ?_, fun p hp => ?_⟩
          · simp only [IP, List.mem_cons, List.not_mem_nil, or_false] at hp
            rcases hp with rfl | rfl | rfl | rfl | rfl | rfl | rfl | rfl | rfl | rfl | rfl
            all_goals first | exact h.a0.i (by decide) | rfl
          · simp only [AP, List.mem_cons, List.not_mem_nil, or_false] at hp
            rcases hp with rfl | rfl | rfl | rfl | rfl | rfl | rfl | rfl | rfl | rfl | rfl | rfl | rfl | rfl | rfl | rfl | rfl | rfl | rfl | rfl | rfl | rfl | rfl | rfl
            all_goals first | exact h.a0.a (by decide) | rfl | exact congrArg (fun f => mp f 0 M (tn W.2 B)) f29
        · show ∃ s, s < 16 ∧ mp (τ.2 29) 0 M (tn W.2 B) i = nI s ∧ nI s < τ.1 13
          rw [mp_in (Nat.zero_le _) hi]
          unfold tn
          split
          · exact hval _ (by omega)
          · exact hval _ (by omega)
  · -- the first run
    have g : ¬ τ.1 26 = 0 ∧ σ.1 702 = -1 ∧ m < V4 ∧ m < 4 := ⟨q1, q2, q3, q4⟩
    rw [e27] at q5
    have m0 : m = 0 := (nI_eq (b := 0) (by omega) (by omega)).mp (hm.symm.trans q5)
    subst m0
    refine I_in (bz_br (fun z => absurd (by decide) z) (fun _ => ⟨vp_in_iff.mpr (by decide), ?_⟩))
    show wpI_X5_listUpTo (σ.2 501 0) σ _
    refine I_listUpTo hn16 (e13.trans hn) ?_
    rw [f15, f19, f41]
    have hM2 : ∀ post : Int32 → St → Prop, wpM_begin_162 x (nI (cnt (fun s => τ.2 15 s ≤ τ.2 19 0) n)) (pC (pI τ 0 0) 41 (pl (fun s => τ.2 15 s ≤ τ.2 19 0) (τ.2 41) n)) post → wpM_begin x τ post := fun post hp =>
      hM post (fun _ => ⟨fun z => absurd q5 z, fun _ => M_begin55 (τ := pI τ 0 0) hn16 hn hp⟩) (fun z => absurd g z)
    have hpl : ∀ k, k < cnt (fun s => τ.2 15 s ≤ τ.2 19 0) n → ∃ s, s < n ∧ τ.2 15 s ≤ τ.2 19 0 ∧ cnt (fun s => τ.2 15 s ≤ τ.2 19 0) s = k ∧ pl (fun s => τ.2 15 s ≤ τ.2 19 0) (τ.2 41) n k = nI s := by
      intro k hk
      obtain ⟨s, h1, h2, h3⟩ := pl_ex (c := fun s => τ.2 15 s ≤ τ.2 19 0) n k hk
      refine ⟨s, h1, h2, h3, ?_⟩
      rw [← h3]
      exact pl_at (c := fun s => τ.2 15 s ≤ τ.2 19 0) n s h1 h2
    have hcn := cnt_le (fun s => τ.2 15 s ≤ τ.2 19 0) n
    have het : ∀ s, s < 16 → τ.2 32 s = 0 := fun s hs => Classical.byContradiction (fun c => (h.a8.b6 s hs c).2.2 q5)
    have heo := en_ok (et := τ.2 32) hn16 hpl het (cnt (fun s => τ.2 15 s ≤ τ.2 19 0) n) (Nat.le_refl _)
    have hcE : cnt (fun s => ¬ en (pl (fun s => τ.2 15 s ≤ τ.2 19 0) (τ.2 41) n) (τ.2 32) (cnt (fun s => τ.2 15 s ≤ τ.2 19 0) n) s = 0) 16 = cnt (fun s => τ.2 15 s ≤ τ.2 19 0) n := by
      rw [cnt_c heo]
      have a := cnt_grow (p := fun s => s < n ∧ τ.2 15 s ≤ τ.2 19 0 ∧ cnt (fun s => τ.2 15 s ≤ τ.2 19 0) s < cnt (fun s => τ.2 15 s ≤ τ.2 19 0) n) (n := n) (16 - n) (fun i h1 h2 z => absurd z.1 (by omega))
      rw [show n + (16 - n) = 16 by omega] at a
      rw [a]
      exact cnt_c (fun s hs => ⟨fun z => z.2.1, fun z => ⟨hs, z, cnt_inj (c := fun s => τ.2 15 s ≤ τ.2 19 0) z hs⟩⟩)
    have hlt : ∀ s, s < 16 → ¬ en (pl (fun s => τ.2 15 s ≤ τ.2 19 0) (τ.2 41) n) (τ.2 32) (cnt (fun s => τ.2 15 s ≤ τ.2 19 0) n) s = 0 → nI s < τ.1 13 := fun s hs z => by
      rw [hn]
      exact nI_lt ((heo s hs).mp z).1 (by omega)
    have hQ : ∀ k, k < cnt (fun s => τ.2 15 s ≤ τ.2 19 0) n → ∃ s, s < 16 ∧ pl (fun s => τ.2 15 s ≤ τ.2 19 0) (τ.2 41) n k = nI s ∧ nI s < τ.1 13 := fun k hk => by
      obtain ⟨s, h1, -, -, h4⟩ := hpl k hk
      exact ⟨s, by omega, h4, by rw [hn]; exact nI_lt h1 (by omega)⟩
    clear heo hpl
    generalize hp0 : pl (fun s => τ.2 15 s ≤ τ.2 19 0) (τ.2 41) n = P at hM2 hcE hlt hQ ⊢
    generalize hc0 : cnt (fun s => τ.2 15 s ≤ τ.2 19 0) n = M at hM2 hcn hcE hlt hQ ⊢
    have hv : ∀ k, k < M → vp_in (P k) 16 := fun k hk => by
      obtain ⟨s, h1, h2, -⟩ := hQ k hk
      rw [h2]
      exact vp_in_nI h1 (by omega)
    have hdr := dr_ok (x := x) (od := τ.2 29) (p := P) (M := M) (Q := fun v => ∃ s, s < 16 ∧ v = nI s ∧ nI s < τ.1 13) hQ M (Nat.le_refl _)
    refine And.symm (pk_eq M 0 (fun z => ?_) (fun z => ?_))
    · refine hM2 _ ⟨fun z2 => absurd (by rw [z]; rfl) z2, fun _ => ⟨rfl, ?_⟩⟩
      exact ⟨(h.th 0).a0.vC (k := 709) (k' := 41) (by decide) rfl, h.2⟩
    · refine I_enter (σ := pC σ 709 P) (by omega) hv (I_drawOrder (by omega) ?_)
      have hM3 : ∀ post : Int32 → St → Prop, wpM_begin_208 (pC (pC (pC (pI (pC (pI τ 0 0) 41 P) 30 (nI M)) 32 (en P (τ.2 32) M)) 29 (dr x (τ.2 29) P M M).2.1) 41 (dr x (τ.2 29) P M M).2.2) post → wpM_begin x τ post := by
        intro post hp
        exact hM2 post ⟨fun _ => ⟨fun z2 => absurd q5 z2, fun _ => M_enter (τ := pC (pI τ 0 0) 41 P) (by omega) hv (M_draw (by omega) hp)⟩, fun z2 => absurd z2 (nI_ne0 (by omega) (by omega))⟩
      refine hM3 _ ⟨?_, ?_⟩
      · show vp_in (τ.1 27) 4
        rw [hm]
        exact vp_in_nI q4 (by omega)
      · show σ.1 701 = (τ.1 27 + 1) - 1 ∧ Rel (pI (pI (pI (pC (pC (pI (pC (pI (pC σ 709 P) 707 (nI M)) 710 (en P (σ.2 710) M)) 703 (nI M)) 708 (dr x (σ.2 708) P M M).2.1) 709 (dr x (σ.2 708) P M M).2.2) 702 (σ.1 701)) 701 (σ.1 701 + 1)) 704 0) (pI (pA (pI (pC (pC (pC (pI (pC (pI τ 0 0) 41 P) 30 (nI M)) 32 (en P (τ.2 32) M)) 29 (dr x (τ.2 29) P M M).2.1) 41 (dr x (τ.2 29) P M M).2.2) 31 0) 28 (τ.1 27).toNatClampNeg 1) 27 (τ.1 27 + 1))
        rw [e27, hm, nI_1, nI_pred, nI_clamp (by omega), f29, f32]
        refine ⟨rfl, ⟨?_, h.a1, h.a2, h.a3, h.a4, h.a5, h.a6, h.a7, RQ_begin (m := M) h q2 hm (by omega) q1 (by omega) (by omega) rfl rfl rfl rfl rfl rfl rfl rfl rfl rfl (congrArg nI hcE.symm) rfl hlt rfl rfl rfl rfl (fun i hi => hdr.2 i hi)⟩⟩
        refine ⟨fun p hp => ?_, fun p hp => ?_⟩
        · simp only [IP, List.mem_cons, List.not_mem_nil, or_false] at hp
          rcases hp with rfl | rfl | rfl | rfl | rfl | rfl | rfl | rfl | rfl | rfl | rfl
          all_goals first | exact h.a0.i (by decide) | rfl
        · simp only [AP, List.mem_cons, List.not_mem_nil, or_false] at hp
          rcases hp with rfl | rfl | rfl | rfl | rfl | rfl | rfl | rfl | rfl | rfl | rfl | rfl | rfl | rfl | rfl | rfl | rfl | rfl | rfl | rfl | rfl | rfl | rfl | rfl
          all_goals first | exact h.a0.a (by decide) | rfl

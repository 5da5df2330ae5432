/-! the loops of a start -/
def tA (T : Nat → Int32) (K : Nat) (f : Nat → Int32) (i : Nat) : Nat → Int32 := mp T (6 * K) (6 * K + i) (fun j _ => f (j - 6 * K))
theorem tA_0 {T : Nat → Int32} {K : Nat} {f : Nat → Int32} : tA T K f 0 = T := by
  unfold tA
  rw [Nat.add_zero, mp_0]
theorem tA_s {T : Nat → Int32} {K i : Nat} {f : Nat → Int32} {v : Int32} (hv : v = f i) : upd (tA T K f i) (6 * K + i) v = tA T K f (i + 1) := by
  unfold tA
  rw [mp_s (by omega) (by rw [hv, show 6 * K + i - 6 * K = i by omega]), Nat.add_assoc]
theorem tA_in {T : Nat → Int32} {K i g : Nat} {f : Nat → Int32} (h : g < i) : tA T K f i (6 * K + g) = f g := by
  unfold tA
  rw [mp_in (by omega) (by omega), show 6 * K + g - 6 * K = g by omega]
theorem I_write {σ : St} {r s g : Nat} {t d : Int32} {post : St → Prop} (hr : r < 4) (hs : s < 16) (hg : g < 6) (h : post (pA (pA σ 803 (6 * (16 * r + s) + g) t) 804 (6 * (16 * r + s) + g) d)) : wpI_X4_write (nI r) (nI s) (nI g) t d σ post := by
  refine I_spot ⟨vp_in_nI (by omega) (by omega), I_spot ⟨vp_in_nI (by omega) (by omega), ?_⟩⟩
  rw [nI_clamp (by omega)]
  exact h
/-- the total of a sheet's row -/
def totV (T : Nat → Int32) (B m : Nat) : Int32 := T (B + lo T B (m - 1)) + (if lo T B (m - 1) = m - 1 then 0 else 10000)
theorem I_addUp {σ : St} {r s m : Nat} {post : St → Prop} (hr : r < 4) (hs : s < 16) (hm : 2 ≤ m) (hm6 : m ≤ 6) (h : post (pA σ 801 (16 * r + s) (totV (σ.2 803) (6 * (16 * r + s)) m))) : wpI_X4_addUp (nI r) (nI s) (nI m) σ post := by
  show wpI_X4_addUp_6 (nI r) (nI s) (nI m) 0 1 σ post
  refine lp_ci (fun g => (nI r, nI s, nI m, nI (lo (σ.2 803) (6 * (16 * r + s)) (g - 1)), nI g, σ)) 1 m (by omega) rfl ?_ ?_
  · intro kb
    dsimp only
    unfold wpBI_X4_addUp_6
    have hlo := lo_le (T := σ.2 803) (B := 6 * (16 * r + s)) (m - 1)
    have fin : ∀ y : Int32, y = (if lo (σ.2 803) (6 * (16 * r + s)) (m - 1) = m - 1 then 0 else 10000) → wpI_X4_addUp_48 (nI r) (nI s) (nI (lo (σ.2 803) (6 * (16 * r + s)) (m - 1))) y σ post := by
      intro y hy
      refine I_line (I_timeAt hr hs (by omega) ⟨vp_in_nI (by omega) (by omega), ?_⟩)
      rw [nI_clamp (by omega), hy]
      exact h
    rw [nI_s1 (by omega)]
    exact pk_le m m (fun _ => And.symm (pk_eq _ (m - 1) (fun z => fin _ (if_pos z).symm) (fun z => fin _ (if_neg z).symm))) (fun z => absurd z (Nat.lt_irrefl m))
  · intro g kb h1 hg hk
    dsimp only
    unfold wpBI_X4_addUp_6 wpI_X4_addUp_27
    dsimp only
    have e0 : lo (σ.2 803) (6 * (16 * r + s)) (g + 1 - 1) = if σ.2 803 (6 * (16 * r + s) + g) = -1000000 then lo (σ.2 803) (6 * (16 * r + s)) (g - 1) else g := by
      rw [show g + 1 - 1 = (g - 1) + 1 by omega, lo, show g - 1 + 1 = g by omega]
    rw [e0] at hk
    refine pk_le m g (fun z => absurd z (by omega)) (fun _ => I_isTimed hr hs (by omega) (bz_br (fun z => kb_eq hk ?_) (fun z => kb_eq hk ?_)))
    · rw [if_pos (Classical.not_not.mp z), nI_1]
    · rw [if_neg z, nI_1]
theorem M_206 {τ : St} {r K m : Nat} {post : Int32 → St → Prop} (hK : K < 64) (hm : 2 ≤ m) (hm6 : m ≤ 6) (hg : τ.1 2 = nI m) (h0 : τ.2 34 (6 * K) = 0) (h : ∀ y z : Int32, y + z = totV (τ.2 34) (6 * K) m → wpM_start_264 (nI r) (nI K) (nI K) y z τ post) : wpM_start_206 (nI r) (nI K) (nI (m - 1)) τ post := by
  refine lp_meas (fun a => ∃ g, g ≤ m - 1 ∧ a = (nI r, nI K, nI g, τ) ∧ lo (τ.2 34) (6 * K) g = lo (τ.2 34) (6 * K) (m - 1)) (fun a => a.2.2.1.toNatClampNeg) ?_ _ ⟨m - 1, Nat.le_refl _, rfl, rfl⟩
  rintro kb a ⟨g, hg1, rfl, e⟩ hkb
  dsimp only at hkb ⊢
  unfold wpBM_start_206
  rw [nI_clamp (by omega)] at hkb
  have e6 : 6 * nI K + nI g = nI (6 * K + g) := by rw [show (6 : Int32) = nI 6 from rfl, pk_mul, nI_add]
  have v : vp_in (nI (6 * K + g)) 384 := vp_in_nI (by omega) (by omega)
  rw [e6, nI_clamp (by omega), hg, nI_s1 (by omega)]
  refine ⟨v, fun z => ⟨v, ?_⟩, fun z => ?_⟩
  · have e2 : lo (τ.2 34) (6 * K) g = g := by
      cases g with
      | zero => rfl
      | succ g =>
        unfold lo
        exact if_neg z
    have et : totV (τ.2 34) (6 * K) m = τ.2 34 (6 * K + g) + (if g = m - 1 then 0 else 10000) := by
      unfold totV
      rw [← e, e2]
    refine pk_le (m - 1) g (fun q => h _ _ ?_) (fun q => h _ _ ?_)
    · rw [et, if_pos (by omega)]
    · rw [et, if_neg (by omega)]
  · cases g with
    | zero =>
      rw [Nat.add_zero, h0] at z
      exact absurd z (by decide)
    | succ g =>
      have e2 : lo (τ.2 34) (6 * K) (g + 1) = lo (τ.2 34) (6 * K) g := by
        rw [lo]
        exact if_pos z
      refine hkb _ ⟨g, by omega, ?_, e2.symm.trans e⟩ ?_
      · rw [pk_m1]
      · dsimp only
        rw [pk_m1, nI_clamp (by omega)]
        omega
/-- IceRun's way down, gate by gate -/
theorem I_down {Z : St} {ha ru row er T D : Nat → Int32} {ga : Nat → Nat} {W k r s n m : Nat} {post : St → Prop} (hr : r < 4) (hs : s < 16) (hW : W ≤ 200) (hk : k < 4) (hn : n ≤ 40) (hm : 2 ≤ m) (hm6 : m ≤ 6) (ew : Z.2 302 s = nI W) (ek : Z.2 303 s = nI k) (hN : RN (Z.2 201)) (hR : RW (Z.2 250) (Z.2 251) (Z.2 252) (Z.2 253) row) (hha : ∀ c, c < 40 → vp_in (ha c) 1001) (hru : ∀ c, c < 40 → vp_in (ru c) 101) (eg : Z.1 101 = nI m) (ee : Z.2 108 = er) (he : ∀ i, i < 12 → -50 ≤ (er i).toInt ∧ (er i).toInt ≤ 100) (eG : ∀ g, g < m → Z.2 107 g = nI (ga g)) (g0 : ga 0 = 0) (gl : ga (m - 1) = n) (gs : ∀ g, g + 1 < m → ga g < ga (g + 1)) (gn : ∀ g, g < m → ga g ≤ n)
    (h : post (pA (icI (pC (pC Z 803 (tA T (16 * r + s) (fun g => tgv er g (sm (fun c => TM (Z.2 102) (Z.2 103) ha ru (Z.2 201) row c (nI W) k (Z.2 304 s)) (ga g))) m)) 804 (tA D (16 * r + s) (dgv er) m)) ha ru W n) 801 (16 * r + s) (totV (tA T (16 * r + s) (fun g => tgv er g (sm (fun c => TM (Z.2 102) (Z.2 103) ha ru (Z.2 201) row c (nI W) k (Z.2 304 s)) (ga g))) m) (6 * (16 * r + s)) m))) : wpI_X10_comeDown_21 (nI r) (nI s) 0 1 (icI (pC (pC Z 803 (tA T (16 * r + s) (fun g => tgv er g (sm (fun c => TM (Z.2 102) (Z.2 103) ha ru (Z.2 201) row c (nI W) k (Z.2 304 s)) (ga g))) 1)) 804 (tA D (16 * r + s) (dgv er) 1)) ha ru W 0) post := by
  generalize htv : (fun c => TM (Z.2 102) (Z.2 103) ha ru (Z.2 201) row c (nI W) k (Z.2 304 s)) = tv at h ⊢
  refine lp_ci (fun g => (nI r, nI s, sm tv (ga (g - 1)), nI g, icI (pC (pC Z 803 (tA T (16 * r + s) (fun g => tgv er g (sm tv (ga g))) g)) 804 (tA D (16 * r + s) (dgv er) g)) ha ru W (ga (g - 1)))) 1 m (by omega) ?_ ?_ ?_
  · rw [Nat.sub_self, g0]
    rfl
  · intro kb
    dsimp only
    unfold wpBI_X10_comeDown_21
    refine pk_le m m (fun _ => ?_) (fun z => absurd z (Nat.lt_irrefl m)) eg
    rw [gl]
    show wpI_X4_addUp (nI r) (nI s) (Z.1 101) _ _
    rw [eg]
    exact I_addUp hr hs hm hm6 h
  · intro g kb h1 hg hk2
    dsimp only
    unfold wpBI_X10_comeDown_21
    have l1 := gn (g - 1) (by omega)
    have l2 := gn g hg
    have l3 := gs (g - 1) (by omega)
    rw [show g - 1 + 1 = g by omega] at l3
    refine pk_le m g (fun z => absurd z (by omega)) (fun _ => ?_) eg
    rw [nI_s1 h1, nI_clamp (by omega), nI_clamp (by omega)]
    refine ⟨vp_in_nI (by omega) (by omega), vp_in_nI (by omega) (by omega), ?_⟩
    show wpI_X10_ride (nI s) (Z.2 107 (g - 1)) (Z.2 107 g) _ _
    rw [eG _ (by omega), eG _ hg]
    refine I_ride (row := row) (by omega) (by omega) hs hW hk ew ek hN hR hha hru ?_
    have es : sm tv (ga (g - 1)) + smf tv (ga (g - 1)) (ga g - ga (g - 1)) = sm tv (ga g) := by
      rw [sm_smf, show ga (g - 1) + (ga g - ga (g - 1)) = ga g by omega]
    have es' : sm tv (ga (g - 1)) + smf (fun c => TM (Z.2 102) (Z.2 103) ha ru (Z.2 201) row c (nI W) k (Z.2 304 s)) (ga (g - 1)) (ga g - ga (g - 1)) = sm tv (ga g) := by rw [htv]; exact es
    dsimp only
    refine I_timeAtGate h1 (by omega) (I_doubleAtGate h1 (by omega) ?_ (I_write hr hs (by omega) (kb_eq hk2 ?_)))
    · show ∀ i, i < 12 → -50 ≤ (Z.2 108 i).toInt ∧ (Z.2 108 i).toInt ≤ 100
      rw [ee]
      exact he
    · show (nI r, nI s, sm tv (ga (g - 1)) + smf (fun c => TM (Z.2 102) (Z.2 103) ha ru (Z.2 201) row c (nI W) k (Z.2 304 s)) (ga (g - 1)) (ga g - ga (g - 1)), nI g + 1, pA (pA (pC (pC (pC (pC Z 803 (tA T (16 * r + s) (fun g => tgv er g (sm tv (ga g))) g)) 804 (tA D (16 * r + s) (dgv er) g)) 106 (mp ru 0 (ga g) (wrW W))) 105 (mp ha 0 (ga g) dc2)) 803 (6 * (16 * r + s) + g) (tgv (Z.2 108) g (sm tv (ga (g - 1)) + smf (fun c => TM (Z.2 102) (Z.2 103) ha ru (Z.2 201) row c (nI W) k (Z.2 304 s)) (ga (g - 1)) (ga g - ga (g - 1))))) 804 (6 * (16 * r + s) + g) (dgv (Z.2 108) g)) = _
      rw [es', ee, nI_1]
      simp only [pA_same, pA_ne, ne_eq, Nat.reduceEqDiff, not_false_eq_true]
      rw [tA_s (f := fun g => tgv er g (sm tv (ga g))) rfl, tA_s rfl, Nat.add_sub_cancel]
      rfl
/-- the reference's, cell by cell -/
theorem M_down {Z : St} {ha ru er T D : Nat → Int32} {ga : Nat → Nat} {W k r s n m : Nat} {post : Int32 → St → Prop} (hr : r < 4) (hs : s < 16) (hW : W ≤ 200) (hk : k < 4) (hn : n ≤ 40) (hm : 2 ≤ m) (hm6 : m ≤ 6) (ew : Z.2 15 s = nI W) (ek : Z.2 16 s = nI k) (hN : RN (Z.2 11)) (hha : ∀ c, c < 40 → vp_in (ha c) 1001) (hru : ∀ c, c < 40 → vp_in (ru c) 101) (ec : Z.1 1 = nI n) (eg : Z.1 2 = nI m) (ee : Z.2 9 = er) (eG : ∀ g, g < m → Z.2 8 g = nI (ga g)) (gl : ga (m - 1) = n) (gs : ∀ g, g + 1 < m → ga g < ga (g + 1)) (gn : ∀ g, g < m → ga g ≤ n)
    (h : wpM_start_206 (nI r) (nI (16 * r + s)) (nI (m - 1)) (icM (pC (pC Z 34 (tA T (16 * r + s) (fun g => tgv er g (sm (fun c => TM (Z.2 3) (Z.2 4) ha ru (Z.2 11) (Z.2 12) c (nI W) k (Z.2 17 s)) (ga g))) m)) 35 (tA D (16 * r + s) (dgv er) m)) ha ru W n) post) : wpM_start_57 (nI r) (nI s) (nI (16 * r + s)) 0 0 0 (icM (pC (pC Z 34 (tA T (16 * r + s) (fun g => tgv er g (sm (fun c => TM (Z.2 3) (Z.2 4) ha ru (Z.2 11) (Z.2 12) c (nI W) k (Z.2 17 s)) (ga g))) 0)) 35 (tA D (16 * r + s) (dgv er) 0)) ha ru W 0) post := by
  generalize htv : (fun c => TM (Z.2 3) (Z.2 4) ha ru (Z.2 11) (Z.2 12) c (nI W) k (Z.2 17 s)) = tv at h ⊢
  have gm : ∀ d g, g + d < m → ga g ≤ ga (g + d) := by
    intro d
    induction d with
    | zero => intro g _; exact Nat.le_refl _
    | succ d ih =>
      intro g hg
      have a := ih g (by omega)
      have b := gs (g + d) (by omega)
      rw [Nat.add_assoc] at b
      omega
  refine lp_meas (fun a => ∃ c q, c ≤ n + 1 ∧ q ≤ m ∧ (∀ g, g < q → ga g < c) ∧ (q < m → c ≤ ga q) ∧ a = (nI r, nI s, nI (16 * r + s), sm tv (min c n), nI q, nI c, icM (pC (pC Z 34 (tA T (16 * r + s) (fun g => tgv er g (sm tv (ga g))) q)) 35 (tA D (16 * r + s) (dgv er) q)) ha ru W (min c n))) (fun a => n + 1 - a.2.2.2.2.2.1.toNatClampNeg) ?_ _ ⟨0, 0, by omega, by omega, fun g hg => absurd hg (by omega), fun _ => Nat.zero_le _, ?_⟩
  · rintro kb a ⟨c, q, hc, hq, hlt, hge, rfl⟩ hkb
    dsimp only at hkb ⊢
    unfold wpBM_start_57
    rw [nI_clamp (by omega)] at hkb
    have v16 : vp_in (nI s) 16 := vp_in_nI hs (by omega)
    -- a cell behind the gate
    have f99 : ∀ q', c ≤ n → q' ≤ m → (∀ g, g < q' → ga g < c + 1) → (q' < m → c + 1 ≤ ga q') → wpM_start_99 (fun x1 x2 x3 x4 x5 x6 σ => kb (x1, x2, x3, x4, x5, x6, σ)) (nI r) (nI s) (nI (16 * r + s)) (sm tv (min c n)) (nI q') (nI c) (icM (pC (pC Z 34 (tA T (16 * r + s) (fun g => tgv er g (sm tv (ga g))) q')) 35 (tA D (16 * r + s) (dgv er) q')) ha ru W (min c n)) post := by
      intro q' hcn hq' hlt' hge'
      refine pk_le n c (fun z => ?_) (fun z => ?_) ec
      · have e : c = n := by omega
        subst e
        refine hkb _ ⟨c + 1, q', by omega, hq', hlt', hge', ?_⟩ ?_
        · rw [nI_1, show min (c + 1) c = c by omega, show min c c = c by omega]
        · dsimp only
          rw [nI_1, nI_clamp (by omega)]
          omega
      · rw [show min c n = c by omega, nI_clamp (n := s) (by omega), show (icM (pC (pC Z 34 (tA T (16 * r + s) (fun g => tgv er g (sm tv (ga g))) q')) 35 (tA D (16 * r + s) (dgv er) q')) ha ru W c).2 15 s = nI W from ew, show (icM (pC (pC Z 34 (tA T (16 * r + s) (fun g => tgv er g (sm tv (ga g))) q')) 35 (tA D (16 * r + s) (dgv er) q')) ha ru W c).2 16 s = nI k from ek]
        have v40 : vp_in (nI c) 40 := vp_in_nI (by omega) (by omega)
        refine ⟨v16, v16, v16, M_timeOf (τ := icM (pC (pC Z 34 (tA T (16 * r + s) (fun g => tgv er g (sm tv (ga g))) q')) 35 (tA D (16 * r + s) (dgv er) q')) ha ru W c) (by omega) hk ?_ hN ⟨v40, v16, M_bd ⟨v40, v40, M_bd ⟨v40, ?_⟩⟩⟩⟩
        · show vp_in (mp ha 0 c dc2 c) 1001
          rw [mp_i]
          exact hha c (by omega)
        · obtain ⟨u, hu, eu⟩ := vp_x (hru c (by omega)) (by omega)
          obtain ⟨x, hx, ex⟩ := vp_x (hha c (by omega)) (by omega)
          unfold wpM_start_192
          dsimp only
          refine hkb _ ⟨c + 1, q', by omega, hq', hlt', hge', ?_⟩ ?_
          · rw [nI_clamp (by omega), show (icM (pC (pC Z 34 (tA T (16 * r + s) (fun g => tgv er g (sm tv (ga g))) q')) 35 (tA D (16 * r + s) (dgv er) q')) ha ru W c).2 15 s = nI W from ew]
            show (nI r, nI s, nI (16 * r + s), sm tv c + TM (Z.2 3) (Z.2 4) (mp ha 0 c dc2) (mp ru 0 c (wrW W)) (Z.2 11) (Z.2 12) c (nI W) k (Z.2 17 s), nI q', nI c + 1, pA (pA (pC (pC (pC (pC Z 34 (tA T (16 * r + s) (fun g => tgv er g (sm tv (ga g))) q')) 35 (tA D (16 * r + s) (dgv er) q')) 7 (mp ru 0 c (wrW W))) 6 (mp ha 0 c dc2)) 7 c (bd (mp ru 0 c (wrW W) c + 1 + nI W / 64) 0 100)) 6 c (bd (mp ha 0 c dc2 c - nI 2) 0 1000)) = _
            rw [TM_c (ha' := ha) (ru' := ru) mp_i mp_i, mp_i, mp_i, eu, ex, wr_M (by omega) hW, dec_bd (by omega) (by omega), nI_1, pA_ne (by decide), pA_same, pA_same, mp_s (Nat.zero_le _) (show nI (if u + 1 + W / 64 < 100 then u + 1 + W / 64 else 100) = wrW W c (ru c) by unfold wrW; rw [eu, nI_clamp (by omega)]), mp_s (Nat.zero_le _) (show nI (x - 2) = dc2 c (ha c) by unfold dc2; rw [ex, nI_clamp (by omega)]), show min (c + 1) n = c + 1 by omega]
            rw [← htv]
            rfl
          · dsimp only
            rw [nI_1, nI_clamp (by omega)]
            omega
    refine pk_lt n c (fun z => ?_) (fun z => ?_) ec
    · have e1 : c = n + 1 := by omega
      have e2 : q = m := by
        refine Nat.le_antisymm hq (Nat.le_of_not_lt (fun z2 => ?_))
        have a := hge z2
        have b := gn q z2
        omega
      subst e2
      show wpM_start_206 (nI r) (nI (16 * r + s)) (Z.1 2 - 1) _ post
      rw [eg, nI_s1 (by omega), show min c n = n by omega]
      exact h
    · refine pk_le m q (fun z2 => ?_) (fun z2 => ⟨vp_in_nI (by omega) (by omega), ?_⟩) eg
      · have e2 : q = m := by omega
        subst e2
        exact f99 q z hq (fun g hg => by have := hlt g hg; omega) (fun z3 => absurd z3 (Nat.lt_irrefl _))
      · rw [nI_clamp (by omega)]
        show (¬ Z.2 8 q = nI c → _) ∧ (Z.2 8 q = nI c → _)
        rw [eG q z2]
        have g1 := gn q z2
        refine And.symm (pk_eq (ga q) c (fun z3 => ?_) (fun z3 => ?_))
        · refine M_passes (by omega) (by omega) ?_
          show wpM_start_99 _ (nI r) (nI s) (nI (16 * r + s)) (sm tv (min c n)) (nI q + 1) (nI c) (pA (pA (pC (pC (pC (pC Z 34 (tA T (16 * r + s) (fun g => tgv er g (sm tv (ga g))) q)) 35 (tA D (16 * r + s) (dgv er) q)) 7 (mp ru 0 (min c n) (wrW W))) 6 (mp ha 0 (min c n) dc2)) 34 (6 * (16 * r + s) + q) (tgv (Z.2 9) q (sm tv (min c n)))) 35 (6 * (16 * r + s) + q) (dgv (Z.2 9) q)) post
          rw [ee, nI_1]
          simp only [pA_same, pA_ne, ne_eq, Nat.reduceEqDiff, not_false_eq_true]
          rw [tA_s (f := fun g => tgv er g (sm tv (ga g))) (by rw [z3, show min c n = c by omega]), tA_s rfl]
          refine f99 (q + 1) z (by omega) (fun g hg => ?_) (fun z4 => ?_)
          · by_cases e : g = q
            · subst e
              omega
            · have := hlt g (by omega)
              omega
          · have := gs q z4
            omega
        · exact f99 q z hq (fun g hg => by have := hlt g hg; omega) (fun z4 => by have := hge z4; omega)
  · rw [show min 0 n = 0 by omega, nI_0]
    rfl

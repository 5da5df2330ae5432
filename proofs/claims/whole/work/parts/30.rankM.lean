/-! ===== .. and in the reference, by its list of events ===== -/
theorem WB_sr {n : Nat} {el wa sa : Nat → Int32} (h : RE5 n el wa sa) {k r : Nat} (hk : k < n) (hr : r < 4) (e : wa r = nI k) : ¬ WB wa k r ∧ WB wa (k + 1) r ∧ ∀ r', r' < 4 → r' ≠ r → (WB wa k r' ↔ WB wa (k + 1) r') := by
  have n20 := h.le
  refine ⟨?_, ⟨k, by omega, e⟩, fun r' hr' hne => ⟨fun ⟨k', h1, h2⟩ => ⟨k', by omega, h2⟩, ?_⟩⟩
  · rintro ⟨k', h1, h2⟩
    have := (nI_eq (by omega) (by omega)).mp (e.symm.trans h2)
    omega
  · rintro ⟨k', h1, h2⟩
    by_cases q : k' = k
    · subst q
      have a := (h.r hk hr).mpr e
      have b := (h.r hk hr').mpr h2
      have := (nI_eq (by omega) (by omega)).mp (a.symm.trans b)
      omega
    · exact ⟨k', by omega, h2⟩
theorem WB_sn {n : Nat} {el wa sa : Nat → Int32} (h : RE5 n el wa sa) {k s : Nat} (hk : k < n) (hs : s < 16) (e : el k = nI (10 + s)) : ∀ r', r' < 4 → (WB wa k r' ↔ WB wa (k + 1) r') := by
  have n20 := h.le
  refine fun r' hr' => ⟨fun ⟨k', h1, h2⟩ => ⟨k', by omega, h2⟩, ?_⟩
  rintro ⟨k', h1, h2⟩
  by_cases q : k' = k
  · subst q
    have b := (h.r hk hr').mpr h2
    have := (nI_eq (by omega) (by omega)).mp (e.symm.trans b)
    omega
  · exact ⟨k', by omega, h2⟩
/-- the events up to k: every whole run has this sled -/
def AD (wa dn : Nat → Int32) (k j : Nat) : Prop := ∀ r, r < 4 → WB wa k r → ¬ dn (16 * r + j) = 0
theorem AD_0 {wa dn : Nat → Int32} {j : Nat} : AD wa dn 0 j := fun _ _ ⟨k, hk, _⟩ => absurd hk (by omega)
theorem M_ranked24 {σ τ : St} {n N j : Nat} {post : Int32 → St → Prop} (h5 : RE5 n (τ.2 38) (σ.2 712) (σ.2 711)) (hN : N ≤ n) (hj : j < 16) (hp : post (bz ((∃ r, r < 4 ∧ WB (σ.2 712) N r) ∧ AD (σ.2 712) (τ.2 33) N j)) τ) : wpM_isRanked_24 (nI j) (nI N) 0 0 τ post := by
  have n20 := h5.le
  refine lp_meas (fun a => ∃ k, k ≤ N ∧ a = (nI j, nI N, nI (cnt (fun r => WB (σ.2 712) k r) 4), nI k, τ) ∧ AD (σ.2 712) (τ.2 33) k j) (fun a => N - a.2.2.2.1.toNatClampNeg) ?_ _ ⟨0, by omega, ?_, AD_0⟩
  · rintro kb a ⟨k, hk, rfl, had⟩ hkb
    dsimp only at hkb ⊢
    unfold wpBM_isRanked_24 wpM_isRanked_70
    dsimp only
    have l4 := cnt_le (fun r => WB (σ.2 712) k r) 4
    have ck : (nI k).toNatClampNeg = k := nI_clamp (by omega)
    rw [ck] at hkb ⊢
    refine pk_le N k (fun q => ?_) (fun q => ⟨vp_in_nI (by omega) (by omega), ?_⟩)
    · have : k = N := by omega
      subst this
      refine pk_le _ 0 (fun q2 => ⟨.inl rfl, ?_⟩) (fun q2 => ⟨.inr rfl, ?_⟩)
      · rw [bz_f (fun c => ?_)] at hp
        · exact hp
        · obtain ⟨r, hr, c3⟩ := c.1
          exact cnt_z (p := fun r => WB (σ.2 712) k r) (n := 4) (by omega) r hr c3
      · have hq : ∃ r, r < 4 ∧ WB (σ.2 712) k r := Classical.byContradiction (fun c => by
          have := cnt_0 (p := fun r => WB (σ.2 712) k r) (n := 4) (fun r hr z => c ⟨r, hr, z⟩)
          omega)
        rw [bz_t ⟨hq, had⟩] at hp
        exact hp
    · rcases h5.2.1 k (by omega) with ⟨r, hr, e1, e2⟩ | ⟨s, hs, e1, e2⟩
      · obtain ⟨w1, w2, w3⟩ := WB_sr h5 (by omega : k < n) hr e2
        rw [e1, ln_eqM, nI_clamp (by omega)]
        refine ⟨fun _ => ⟨vp_in_nI (by omega) (by omega), vp_in_nI (by omega) (by omega), fun z => hkb _ ⟨k + 1, by omega, ?_, ?_⟩ ?_, fun z => ?_⟩, fun z => absurd (nI_lt (b := 10) (by omega) (by omega)) z⟩
        · rw [cnt_add (p := fun r => WB (σ.2 712) k r) (q := fun r => WB (σ.2 712) (k + 1) r) hr w1 w2 (fun i hi hne => w3 i hi hne), nI_1, nI_1]
        · intro r' hr' c
          by_cases e : r' = r
          · subst e
            exact z
          · exact had r' hr' ((w3 r' hr' e).mpr c)
        · dsimp only
          rw [nI_1, nI_clamp (by omega)]
          omega
        · rw [bz_f (fun c => c.2 r hr ⟨k, q, e2⟩ z)] at hp
          exact hp
      · have w := WB_sn h5 (by omega : k < n) hs e1
        rw [e1]
        refine ⟨fun z => absurd z (nI_nlt (b := 10) (by omega) (by omega)), fun _ => hkb _ ⟨k + 1, by omega, ?_, fun r hr c => had r hr ((w r hr).mpr c)⟩ ?_⟩
        · rw [cnt_c (p := fun r => WB (σ.2 712) k r) (q := fun r => WB (σ.2 712) (k + 1) r) w, nI_1]
        · dsimp only
          rw [nI_1, nI_clamp (by omega)]
          omega
  · rw [cnt_0 (p := fun r => WB (σ.2 712) 0 r) (fun r _ ⟨k, hk, _⟩ => absurd hk (by omega)), nI_0]
theorem M_isRanked {σ τ : St} {n N : Nat} {x : Int32} {post : Int32 → St → Prop} (h : Rel σ τ) (h5 : RE5 n (τ.2 38) (σ.2 712) (σ.2 711)) (hN : N ≤ n) (hp : post (bz (vp_in x 16 ∧ rk σ N x.toNatClampNeg)) τ) : wpM_isRanked x (nI N) τ post := by
  have f32 : σ.2 710 = τ.2 32 := h.a0.a (by decide)
  have f33 : σ.2 800 = τ.2 33 := h.a0.a (by decide)
  refine M_isEntered h (bz_br (fun q => ?_) (fun q => ?_))
  · rw [bz_f (fun c => q ⟨c.1, by rw [← f32]; exact c.2.1⟩)] at hp
    exact hp
  · obtain ⟨j, hj, rfl⟩ := vp_x q.1 (by omega)
    have cj : (nI j).toNatClampNeg = j := nI_clamp (by omega)
    rw [cj] at q hp
    refine M_isStruck (σ := σ) h5 hN hj (bz_br (fun q2 => M_ranked24 (σ := σ) h5 hN hj ?_) (fun q2 => ?_))
    · refine (bz_c ?_) ▸ hp
      unfold rk AD
      rw [f32, f33]
      exact ⟨fun c => c.2.2.2, fun c => ⟨q.1, q.2, q2, c⟩⟩
    · rw [bz_f (fun c => c.2.2.1 q2)] at hp
      exact hp
theorem M_sum27 {σ τ : St} {n N j : Nat} {post : Int32 → St → Prop} (h : Rel σ τ) (h5 : RE5 n (τ.2 38) (σ.2 712) (σ.2 711)) (hN : N ≤ n) (hj : j < 16) (hp : post (ci ((∃ r, r < 4 ∧ WB (σ.2 712) N r) ∧ AD (σ.2 712) (τ.2 33) N j) (su σ N j) (-1)) τ) : wpM_sumOf_27 (nI j) (nI N) 0 0 0 τ post := by
  have n20 := h5.le
  have f33 : σ.2 800 = τ.2 33 := h.a0.a (by decide)
  have f36 : σ.2 801 = τ.2 36 := h.a0.a (by decide)
  refine lp_meas (fun a => ∃ k, k ≤ N ∧ a = (nI j, nI N, nI (cnt (fun r => WB (σ.2 712) k r) 4), su σ k j, nI k, τ) ∧ AD (σ.2 712) (τ.2 33) k j) (fun a => N - a.2.2.2.2.1.toNatClampNeg) ?_ _ ⟨0, by omega, ?_, AD_0⟩
  · rintro kb a ⟨k, hk, rfl, had⟩ hkb
    dsimp only at hkb ⊢
    unfold wpBM_sumOf_27 wpM_sumOf_89
    dsimp only
    have l4 := cnt_le (fun r => WB (σ.2 712) k r) 4
    have ck : (nI k).toNatClampNeg = k := nI_clamp (by omega)
    rw [ck] at hkb ⊢
    refine pk_le N k (fun q => ?_) (fun q => ⟨vp_in_nI (by omega) (by omega), ?_⟩)
    · have : k = N := by omega
      subst this
      refine And.symm (pk_eq _ 0 (fun q2 => ?_) (fun q2 => ?_))
      · rw [ci_f (fun c => ?_)] at hp
        · exact hp
        · obtain ⟨r, hr, c3⟩ := c.1
          exact cnt_z (p := fun r => WB (σ.2 712) k r) (n := 4) (by omega) r hr c3
      · have hq : ∃ r, r < 4 ∧ WB (σ.2 712) k r := Classical.byContradiction (fun c => by
          have := cnt_0 (p := fun r => WB (σ.2 712) k r) (n := 4) (fun r hr z => c ⟨r, hr, z⟩)
          omega)
        rw [ci_t ⟨hq, had⟩] at hp
        exact hp
    · rcases h5.2.1 k (by omega) with ⟨r, hr, e1, e2⟩ | ⟨s, hs, e1, e2⟩
      · obtain ⟨w1, w2, w3⟩ := WB_sr h5 (by omega : k < n) hr e2
        rw [e1, ln_eqM, nI_clamp (by omega)]
        have v64 : vp_in (nI (16 * r + j)) 64 := vp_in_nI (by omega) (by omega)
        refine ⟨fun _ => ⟨v64, fun z => ⟨v64, hkb _ ⟨k + 1, by omega, ?_, ?_⟩ ?_⟩, fun z => ?_⟩, fun z => absurd (nI_lt (b := 10) (by omega) (by omega)) z⟩
        · have es : su σ (k + 1) j = su σ k j + τ.2 36 (16 * r + j) := by
            refine sm_add (f := suF σ k j) (g := suF σ (k + 1) j) hr (ci_f (fun c => w1 c.1)) ?_ (fun i hi hne => ci_c ?_)
            · rw [← f36]
              exact ci_t ⟨w2, by rw [f33]; exact z⟩
            · exact ⟨fun c => ⟨(w3 i hi hne).mp c.1, c.2⟩, fun c => ⟨(w3 i hi hne).mpr c.1, c.2⟩⟩
          rw [cnt_add (p := fun r => WB (σ.2 712) k r) (q := fun r => WB (σ.2 712) (k + 1) r) hr w1 w2 (fun i hi hne => w3 i hi hne), nI_1, nI_1, es]
        · intro r' hr' c
          by_cases e : r' = r
          · subst e
            exact z
          · exact had r' hr' ((w3 r' hr' e).mpr c)
        · dsimp only
          rw [nI_1, nI_clamp (by omega)]
          omega
        · rw [ci_f (fun c => c.2 r hr ⟨k, q, e2⟩ z)] at hp
          exact hp
      · have w := WB_sn h5 (by omega : k < n) hs e1
        rw [e1]
        refine ⟨fun z => absurd z (nI_nlt (b := 10) (by omega) (by omega)), fun _ => hkb _ ⟨k + 1, by omega, ?_, fun r hr c => had r hr ((w r hr).mpr c)⟩ ?_⟩
        · have es : su σ (k + 1) j = su σ k j := sm_c (fun i hi => ci_c ⟨fun c => ⟨(w i hi).mpr c.1, c.2⟩, fun c => ⟨(w i hi).mp c.1, c.2⟩⟩)
          rw [cnt_c (p := fun r => WB (σ.2 712) k r) (q := fun r => WB (σ.2 712) (k + 1) r) w, nI_1, es]
        · dsimp only
          rw [nI_1, nI_clamp (by omega)]
          omega
  · have es : su σ 0 j = 0 := by
      have e0 : ∀ i, suF σ 0 j i = 0 := fun i => ci_f (fun ⟨⟨k, hk, _⟩, _⟩ => absurd hk (by omega))
      show 0 + suF σ 0 j 0 + suF σ 0 j 1 + suF σ 0 j 2 + suF σ 0 j 3 = 0
      rw [e0, e0, e0, e0]
      decide
    rw [cnt_0 (p := fun r => WB (σ.2 712) 0 r) (fun r _ ⟨k, hk, _⟩ => absurd hk (by omega)), nI_0, es]
theorem M_sumOf {σ τ : St} {n N : Nat} {x : Int32} {post : Int32 → St → Prop} (h : Rel σ τ) (h5 : RE5 n (τ.2 38) (σ.2 712) (σ.2 711)) (hN : N ≤ n) (hp : post (ci (vp_in x 16 ∧ rk σ N x.toNatClampNeg) (su σ N x.toNatClampNeg) (-1)) τ) : wpM_sumOf x (nI N) τ post := by
  have f32 : σ.2 710 = τ.2 32 := h.a0.a (by decide)
  have f33 : σ.2 800 = τ.2 33 := h.a0.a (by decide)
  refine M_isEntered h (bz_br (fun q => ?_) (fun q => ?_))
  · rw [ci_f (fun c => q ⟨c.1, by rw [← f32]; exact c.2.1⟩)] at hp
    exact hp
  · obtain ⟨j, hj, rfl⟩ := vp_x q.1 (by omega)
    have cj : (nI j).toNatClampNeg = j := nI_clamp (by omega)
    rw [cj] at q hp
    refine M_isStruck (σ := σ) h5 hN hj (bz_br (fun q2 => M_sum27 h h5 hN hj ?_) (fun q2 => ?_))
    · refine (ci_c ?_) ▸ hp
      unfold rk AD
      rw [f32, f33]
      exact ⟨fun c => c.2.2.2, fun c => ⟨q.1, q.2, q2, c⟩⟩
    · rw [ci_f (fun c => c.2.2.1 q2)] at hp
      exact hp
theorem rk_lt {σ τ : St} (h : Rel σ τ) {N s n : Nat} (hn : τ.1 13 = nI n) (hn16 : n ≤ 16) (hs : s < 16) (k : rk σ N s) : s < n := by
  have f32 : σ.2 710 = τ.2 32 := h.a0.a (by decide)
  have := (h.a8.b6 s hs (by rw [← f32]; exact k.1)).1
  rw [hn, nI_ltI (by omega) (by omega)] at this
  exact this
theorem M_rankOf {σ τ : St} {n N : Nat} {x : Int32} {post : Int32 → St → Prop} (h : Rel σ τ) (h5 : RE5 n (τ.2 38) (σ.2 712) (σ.2 711)) (hN : N ≤ n) (hp : post (ci (vp_in x 16) (rv σ N x.toNatClampNeg) (-1)) τ) : wpM_rankOf x (nI N) τ post := by
  obtain ⟨m, hm16, hm⟩ := h.sleds
  refine M_isRanked h h5 hN (bz_rb (fun q => ?_) (fun q => ?_))
  · obtain ⟨j, hj, rfl⟩ := vp_x q.1 (by omega)
    have cj : (nI j).toNatClampNeg = j := nI_clamp (by omega)
    rw [cj] at q hp
    rw [ci_t q.1] at hp
    unfold rv at hp
    rw [ci_t q.2] at hp
    have eg : cnt (fun o => rk σ N o ∧ su σ N o < su σ N j) 16 = cnt (fun o => rk σ N o ∧ su σ N o < su σ N j) m := by
      have := cnt_grow (p := fun o => rk σ N o ∧ su σ N o < su σ N j) (n := m) (16 - m) (fun i h1 h2 z => by
        have := rk_lt h hm hm16 (by omega) z.1
        omega)
      rw [show m + (16 - m) = 16 by omega] at this
      exact this
    rw [eg] at hp
    refine lp_c0 (fun i => (nI j, nI N, nI (1 + cnt (fun o => rk σ N o ∧ su σ N o < su σ N j) i), nI i, τ)) m rfl ?_ ?_
    · intro kb
      dsimp only
      unfold wpBM_rankOf_16
      exact pk_le m m (fun _ => hp) (fun z => absurd z (Nat.lt_irrefl m)) hm
    · intro i kb hi hk
      dsimp only
      unfold wpBM_rankOf_16 wpM_rankOf_56 wpM_rankOf_57
      dsimp only
      have ci' : (nI i).toNatClampNeg = i := nI_clamp (by omega)
      have vi : vp_in (nI i) 16 := vp_in_nI (by omega) (by omega)
      refine pk_le m i (fun z => absurd z (by omega)) (fun _ => M_isRanked h h5 hN ?_) hm
      rw [ci']
      refine bz_br (fun z => kb_eq hk ?_) (fun z => M_sumOf h h5 hN (M_sumOf h h5 hN ?_))
      · rw [cnt_f (p := fun o => rk σ N o ∧ su σ N o < su σ N j) (fun c => z ⟨vi, c.1⟩), nI_1, Int32.add_zero]
      · rw [ci', cj, ci_t z, ci_t q]
        refine ⟨fun z2 => kb_eq hk ?_, fun z2 => kb_eq hk ?_⟩
        · rw [cnt_f (p := fun o => rk σ N o ∧ su σ N o < su σ N j) (fun c => absurd z2 (Int32.not_le.mpr c.2)), nI_1, Int32.add_zero]
        · rw [cnt_t (p := fun o => rk σ N o ∧ su σ N o < su σ N j) ⟨z.2, Int32.not_le.mp z2⟩, nI_1, nI_1, Nat.add_assoc]
  · by_cases v : vp_in x 16
    · rw [ci_t v] at hp
      unfold rv at hp
      rw [ci_f (fun c => q ⟨v, c⟩)] at hp
      exact hp
    · rw [ci_f v] at hp
      exact hp
theorem Rel.rc {σ τ : St} (h : Rel σ τ) (N : Nat) : Rel (rc3 σ N 16) τ := ⟨((h.a0.uCl (k := 901) (by decide) _).uCl (k := 900) (by decide) _).uCl (k := 902) (by decide) _, h.2⟩
theorem I_sumRC {σ : St} {N : Nat} {x : Int32} {post : Int32 → St → Prop} (h : post (ci (vp_in x 16 ∧ rk σ N x.toNatClampNeg) (su σ N x.toNatClampNeg) (-1)) (rc3 σ N 16)) : wpI_X6_sumOf x (rc3 σ N 16) post := by
  refine I_isRankedA (bz_br (fun q => ?_) (fun q => ⟨q.1, ?_⟩))
  · rw [ci_f (fun c => q ⟨c.1, ?_⟩)] at h
    · exact h
    · obtain ⟨j, hj, rfl⟩ := vp_x c.1 (by omega)
      rw [nI_clamp (by omega)] at c ⊢
      rw [rc_900 hj, bz_t c.2]
      decide
  · obtain ⟨j, hj, rfl⟩ := vp_x q.1 (by omega)
    rw [nI_clamp (by omega)] at h q ⊢
    rw [rc_900 hj] at q
    rw [ci_t ⟨q.1, bz_n q.2⟩] at h
    rw [rc_901 hj]
    exact h
theorem I_rankRC {σ : St} {N : Nat} {x : Int32} {post : Int32 → St → Prop} (h : post (ci (vp_in x 16) (rv σ N x.toNatClampNeg) (-1)) (rc3 σ N 16)) : wpI_X6_rankOf x (rc3 σ N 16) post := by
  refine I_isRankedA (bz_br (fun q => ?_) (fun q => ⟨q.1, ?_⟩))
  · by_cases v : vp_in x 16
    · obtain ⟨j, hj, rfl⟩ := vp_x v (by omega)
      rw [nI_clamp (by omega)] at h q
      rw [rc_900 hj] at q
      rw [ci_t v] at h
      unfold rv at h
      rw [ci_f (fun c => q ⟨v, by rw [bz_t c]; decide⟩)] at h
      exact h
    · rw [ci_f v] at h
      exact h
  · obtain ⟨j, hj, rfl⟩ := vp_x q.1 (by omega)
    rw [nI_clamp (by omega)] at h ⊢
    rw [ci_t q.1] at h
    rw [rc_902 hj]
    exact h
theorem rk_on {σ τ : St} (h : Rel σ τ) {N s : Nat} (hs : s < 16) (k : rk σ N s) : ¬ τ.1 26 = 0 := by
  have f32 : σ.2 710 = τ.2 32 := h.a0.a (by decide)
  exact (h.a8.b6 s hs (by rw [← f32]; exact k.1)).2.1
theorem T_sum {σ τ : St} {x y : Int32} (h : Rel σ τ) : wpI_X10_sum x y σ (fun r σ' => wpM_sum x y τ (fun r' τ' => r = r' ∧ Rel σ' τ')) := by
  obtain ⟨n, hn, hnI, h5⟩ := h.ev
  have n20 := h5.le
  refine I_in (bz_rb (fun q => ?_) (fun q => ?_))
  · have q' := q
    rw [hnI] at q'
    obtain ⟨N, hN, rfl⟩ := in_of2 rfl (by omega) q'
    refine I_recall h5 hN (I_sumRC ?_)
    refine ⟨fun z => ?_, fun z => M_in (bz_br (fun z2 => ?_) (fun _ => M_isRanked (h.th 0) h5 hN (bz_br (fun z2 => ?_) (fun z2 => M_sumOf (h.th 0) h5 hN ⟨rfl, (h.rc N).th 0⟩))))⟩
    · rw [ci_f (fun c => ?_)]
      · exact ⟨rfl, (h.rc N).th 0⟩
      · obtain ⟨j, hj, rfl⟩ := vp_x c.1 (by omega)
        rw [nI_clamp (by omega)] at c
        exact rk_on h hj c.2 z
    · rw [hnI] at q
      exact absurd (show 0 ≤ nI N ∧ nI N ≤ τ.1 39 by rw [hn]; exact q) z2
    · rw [ci_f z2]
      exact ⟨rfl, (h.rc N).th 0⟩
  · rw [hnI] at q
    exact ⟨fun _ => ⟨rfl, h.th 0⟩, fun _ => M_in (bz_br (fun _ => ⟨rfl, h.th 0⟩) (fun z => absurd (show 0 ≤ y ∧ y ≤ nI n by rw [← hn]; exact z) q))⟩
theorem T_rank {σ τ : St} {x y : Int32} (h : Rel σ τ) : wpI_X10_rank x y σ (fun r σ' => wpM_rank x y τ (fun r' τ' => r = r' ∧ Rel σ' τ')) := by
  obtain ⟨n, hn, hnI, h5⟩ := h.ev
  have n20 := h5.le
  refine I_in (bz_rb (fun q => ?_) (fun q => ?_))
  · have q' := q
    rw [hnI] at q'
    obtain ⟨N, hN, rfl⟩ := in_of2 rfl (by omega) q'
    refine I_recall h5 hN (I_rankRC ?_)
    refine ⟨fun z => ?_, fun z => M_in (bz_br (fun z2 => ?_) (fun _ => M_rankOf (h.th 0) h5 hN ⟨rfl, (h.rc N).th 0⟩))⟩
    · have e : ci (vp_in x 16) (rv σ N x.toNatClampNeg) (-1) = -1 := by
        by_cases v : vp_in x 16
        · obtain ⟨j, hj, rfl⟩ := vp_x v (by omega)
          rw [ci_t v, nI_clamp (by omega)]
          exact ci_f (fun c => rk_on h hj c z)
        · exact ci_f v
      rw [e]
      exact ⟨rfl, (h.rc N).th 0⟩
    · rw [hnI] at q
      exact absurd (show 0 ≤ nI N ∧ nI N ≤ τ.1 39 by rw [hn]; exact q) z2
  · rw [hnI] at q
    exact ⟨fun _ => ⟨rfl, h.th 0⟩, fun _ => M_in (bz_br (fun _ => ⟨rfl, h.th 0⟩) (fun z => absurd (show 0 ≤ y ∧ y ≤ nI n by rw [← hn]; exact z) q))⟩

/-! ===== events, who is struck, sums and ranks ===== -/
noncomputable def ci {α : Type} (p : Prop) (a b : α) : α := @ite α p (Classical.propDecidable p) a b
theorem ci_t {α : Type} {p : Prop} {a b : α} (h : p) : ci p a b = a := by unfold ci; exact if_pos h
theorem ci_f {α : Type} {p : Prop} {a b : α} (h : ¬ p) : ci p a b = b := by unfold ci; exact if_neg h
theorem ci_c {α : Type} {p q : Prop} {a b : α} (h : p ↔ q) : ci p a b = ci q a b := by rw [propext h]
def RE5 (n : Nat) (el wa sa : Nat → Int32) : Prop := n = cnt (fun r => ¬ wa r = -1) 4 + cnt (fun s => ¬ sa s = -1) 16 ∧ (∀ k, k < n → (∃ r, r < 4 ∧ el k = nI r ∧ wa r = nI k) ∨ ∃ s, s < 16 ∧ el k = nI (10 + s) ∧ sa s = nI k) ∧ (∀ r, r < 4 → wa r = -1 ∨ ∃ k, k < n ∧ wa r = nI k ∧ el k = nI r) ∧ ∀ s, s < 16 → sa s = -1 ∨ ∃ k, k < n ∧ sa s = nI k ∧ el k = nI (10 + s)
theorem RE5.le {n : Nat} {el wa sa : Nat → Int32} (h : RE5 n el wa sa) : n ≤ 20 := by
  have a := cnt_le (fun r => ¬ wa r = -1) 4
  have b := cnt_le (fun s => ¬ sa s = -1) 16
  have := h.1
  omega
theorem RE5.s {n : Nat} {el wa sa : Nat → Int32} (h : RE5 n el wa sa) {k j : Nat} (hk : k < n) (hj : j < 16) : el k = nI (10 + j) ↔ sa j = nI k := by
  have n20 := h.le
  constructor
  · intro e
    rcases h.2.1 k hk with ⟨r, hr, e1, -⟩ | ⟨s, hs, e1, e2⟩
    · have := (nI_eq (by omega) (by omega)).mp (e1.symm.trans e)
      omega
    · have := (nI_eq (by omega) (by omega)).mp (e1.symm.trans e)
      rw [show j = s by omega]
      exact e2
  · intro e
    rcases h.2.2.2 j hj with q | ⟨k', hk', e1, e2⟩
    · exact absurd (e.symm.trans q) (nI_m1 (by omega))
    · have := (nI_eq (by omega) (by omega)).mp (e1.symm.trans e)
      rw [← this]
      exact e2
theorem RE5.r {n : Nat} {el wa sa : Nat → Int32} (h : RE5 n el wa sa) {k r : Nat} (hk : k < n) (hr : r < 4) : el k = nI r ↔ wa r = nI k := by
  have n20 := h.le
  constructor
  · intro e
    rcases h.2.1 k hk with ⟨s, hs, e1, e2⟩ | ⟨s, hs, e1, -⟩
    · have := (nI_eq (by omega) (by omega)).mp (e1.symm.trans e)
      rw [← this]
      exact e2
    · have := (nI_eq (by omega) (by omega)).mp (e1.symm.trans e)
      omega
  · intro e
    rcases h.2.2.1 r hr with q | ⟨k', hk', e1, e2⟩
    · exact absurd (e.symm.trans q) (nI_m1 (by omega))
    · have := (nI_eq (by omega) (by omega)).mp (e1.symm.trans e)
      rw [← this]
      exact e2
theorem Rel.ev {σ τ : St} (h : Rel σ τ) : ∃ n : Nat, τ.1 39 = nI n ∧ σ.1 705 = nI n ∧ RE5 n (τ.2 38) (σ.2 712) (σ.2 711) := by
  obtain ⟨n, en, h5⟩ := h.a8.b4
  exact ⟨n, en, (show σ.1 705 = τ.1 39 from h.a0.i (by decide)).trans en, h5⟩
def WB (wa : Nat → Int32) (N r : Nat) : Prop := ∃ k, k < N ∧ wa r = nI k
def SB (sa : Nat → Int32) (N s : Nat) : Prop := ∃ k, k < N ∧ sa s = nI k
theorem WB_wh {n : Nat} {el wa sa : Nat → Int32} (h : RE5 n el wa sa) {N r : Nat} (hN : N ≤ n) (hr : r < 4) : WHp wa (nI N) (nI r) ↔ WB wa N r := by
  have n20 := h.le
  unfold WHp
  rw [nI_clamp (by omega)]
  constructor
  · rintro ⟨-, h1, h2⟩
    rcases h.2.2.1 r hr with q | ⟨k, hk, e1, -⟩
    · exact absurd q h1
    · rw [e1, nI_leI (by omega) (by omega)] at h2
      exact ⟨k, by omega, e1⟩
  · rintro ⟨k, hk, e⟩
    rw [e]
    exact ⟨vp_in_nI hr (by omega), nI_m1 (by omega), nI_ge hk (by omega)⟩
theorem I_hasEntered {σ : St} {x : Int32} {post : Int32 → St → Prop} (h : post (bz (vp_in x 16 ∧ ¬ σ.2 710 x.toNatClampNeg = 0)) σ) : wpI_X2_hasEntered x σ post := by
  refine I_in (bz_br (fun q => ⟨.inl rfl, ?_⟩) (fun q => ?_))
  · rw [bz_f (fun c => q ((in_vp (by decide)).mpr c.1))] at h
    exact h
  · have v := (in_vp (n := 16) (by decide)).mp q
    refine ⟨v, fun z => ⟨.inl rfl, ?_⟩, fun z => ⟨.inr rfl, ?_⟩⟩
    · rw [bz_f (fun c => c.2 z)] at h
      exact h
    · rw [bz_t ⟨v, z⟩] at h
      exact h
theorem M_isEntered {σ τ : St} {x : Int32} {post : Int32 → St → Prop} (h : Rel σ τ) (hp : post (bz (vp_in x 16 ∧ ¬ τ.2 32 x.toNatClampNeg = 0)) τ) : wpM_isEntered x τ post := by
  obtain ⟨n, hn16, hn⟩ := h.sleds
  have f0 : ¬ (vp_in x 16 ∧ ¬ τ.2 32 x.toNatClampNeg = 0) → wpM_isEntered_34 τ post := fun z => ⟨.inl rfl, by rw [bz_f z] at hp; exact hp⟩
  refine ⟨fun z => f0 (fun c => ?_), fun _ => M_in (bz_br (fun q => f0 (fun c => q ?_)) (fun q => ?_))⟩
  · obtain ⟨j, hj, rfl⟩ := vp_x c.1 (by omega)
    have c2 := c.2
    rw [nI_clamp (by omega)] at c2
    exact (h.a8.b6 j hj c2).2.1 z
  · obtain ⟨j, hj, rfl⟩ := vp_x c.1 (by omega)
    have c2 := c.2
    rw [nI_clamp (by omega)] at c2
    have := (h.a8.b6 j hj c2).1
    rw [hn, nI_ltI (by omega) (by omega)] at this
    rw [hn, nI_s1 (by omega)]
    exact ⟨nI_pos' (by omega), nI_le (by omega) (by omega)⟩
  · rw [hn] at q
    obtain ⟨j, hj, rfl⟩ := in_of (by omega) q
    have v : vp_in (nI j) 16 := vp_in_nI (by omega) (by omega)
    exact ⟨v, fun z => f0 (fun c => c.2 z), fun z => ⟨.inr rfl, by rw [bz_t ⟨v, z⟩] at hp; exact hp⟩⟩
theorem M_isStruck {σ τ : St} {n N j : Nat} {post : Int32 → St → Prop} (h : RE5 n (τ.2 38) (σ.2 712) (σ.2 711)) (hN : N ≤ n) (hj : j < 16) (hp : post (bz (SB (σ.2 711) N j)) τ) : wpM_isStruck (nI j) (nI N) τ post := by
  have n20 := h.le
  have e10 : 10 + nI j = nI (10 + j) := by rw [show (10 : Int32) = nI 10 from rfl, nI_add]
  refine lp_c0 (fun i => (nI j, nI N, bz (SB (σ.2 711) i j), nI i, τ)) N ?_ ?_ ?_
  · rw [bz_f (fun ⟨k, hk, _⟩ => absurd hk (by omega)), nI_0]
  · intro kb
    dsimp only
    unfold wpBM_isStruck_5
    exact pk_le N N (fun _ => ⟨bz_o, hp⟩) (fun z => absurd z (Nat.lt_irrefl N))
  · intro i kb hi hk
    dsimp only
    unfold wpBM_isStruck_5 wpM_isStruck_29 wpM_isStruck_34
    dsimp only
    rw [e10, nI_clamp (by omega)]
    refine pk_le N i (fun z => absurd z (by omega)) (fun _ => bz_rb (fun q => kb_eq hk ?_) (fun q => ⟨vp_in_nI (by omega) (by omega), fun z => kb_eq hk ?_, fun z => kb_eq hk ?_⟩))
    · rw [nI_1, bz_t (p := SB (σ.2 711) (i + 1) j) (q.imp (fun k hk => ⟨by omega, hk.2⟩))]
    · rw [nI_1, bz_f (p := SB (σ.2 711) (i + 1) j)]
      rintro ⟨k, hk1, hk2⟩
      by_cases e : k = i
      · subst e
        exact z ((h.s (by omega) hj).mpr hk2)
      · exact q ⟨k, by omega, hk2⟩
    · rw [nI_1, bz_t (p := SB (σ.2 711) (i + 1) j) ⟨i, by omega, (h.s (by omega) hj).mp z⟩]
/-! touch -/
theorem T_touch {σ τ : St} {x w : Int32} (h : Rel σ τ) : wpI_X10_touch x w σ (fun r σ' => wpM_touch x w τ (fun r' τ' => r = r' ∧ Rel σ' τ')) := by
  have f32 : σ.2 710 = τ.2 32 := h.a0.a (by decide)
  have f19 : σ.2 501 = τ.2 19 := h.a0.a (by decide)
  obtain ⟨n, hn, hnI, h5⟩ := h.ev
  have n20 := h5.le
  by_cases hw : 0 ≤ w ∧ w ≤ 200
  · by_cases he : vp_in x 16 ∧ ¬ τ.2 32 x.toNatClampNeg = 0
    · obtain ⟨j, hj, rfl⟩ := vp_x he.1 (by omega)
      have cj : (nI j).toNatClampNeg = j := nI_clamp (by omega)
      by_cases hl : w ≤ τ.2 19 1
      · have hM : wpM_touch (nI j) w τ (fun r' τ' => (0 : Int32) = r' ∧ Rel σ τ') := M_in (bz_br (fun z => absurd hw z) (fun _ => M_isEntered (h.th 0) (bz_br (fun z => absurd he z) (fun _ => ⟨vp_in_iff.mpr (by decide), fun _ => ⟨rfl, h.th 0⟩, fun z => absurd hl z⟩))))
        refine I_in (bz_br (fun z => absurd hw z) (fun _ => I_hasEntered ?_))
        rw [f32]
        refine bz_rb (fun _ => I_in (bz_br (fun z => absurd (by decide) z) (fun _ => ⟨vp_in_iff.mpr (by decide), fun _ => ⟨.inl rfl, hM⟩, fun z => ?_⟩))) (fun z => absurd he z)
        exact absurd (show w ≤ σ.2 501 1 by rw [f19]; exact hl) z
      · have hM : ∀ post : Int32 → St → Prop, (SB (σ.2 711) n j → post 0 (pI τ 0 0)) → (¬ SB (σ.2 711) n j → vp_in (nI n) 20 ∧ post 1 (pI (pA (pI τ 0 0) 38 n (nI (10 + j))) 39 (nI (n + 1)))) → wpM_touch (nI j) w τ post := by
          intro post hs hn'
          refine M_in (bz_br (fun z => absurd hw z) (fun _ => M_isEntered (h.th 0) (bz_br (fun z => absurd he z) (fun _ => ⟨vp_in_iff.mpr (by decide), fun z => absurd z hl, fun _ => ?_⟩))))
          show wpM_isStruck (nI j) (τ.1 39) (pI τ 0 0) _
          rw [hn]
          refine M_isStruck (σ := σ) (τ := pI τ 0 0) h5 (Nat.le_refl n) hj (bz_br (fun q => ?_) (fun q => hs q))
          have k := hn' q
          show vp_in (τ.1 39) 20 ∧ post 1 (pI (pA (pI τ 0 0) 38 (τ.1 39).toNatClampNeg (10 + nI j)) 39 (τ.1 39 + 1))
          rw [hn, nI_clamp (by omega), nI_1, show (10 : Int32) = nI 10 from rfl, nI_add]
          exact k
        have sb : SB (σ.2 711) n j ↔ ¬ σ.2 711 j = -1 := by
          constructor
          · rintro ⟨k, hk, e⟩ z
            exact nI_m1 (by omega) (e.symm.trans z)
          · intro z
            rcases h5.2.2.2 j hj with q | ⟨k, hk, e, -⟩
            · exact absurd q z
            · exact ⟨k, hk, e⟩
        refine I_in (bz_br (fun z => absurd hw z) (fun _ => I_hasEntered ?_))
        rw [f32]
        refine bz_rb (fun _ => I_in (bz_br (fun z => absurd (by decide) z) (fun _ => ⟨vp_in_iff.mpr (by decide), fun z => ?_, fun _ => I_hasEntered ?_⟩))) (fun z => absurd he z)
        · exact absurd (show w ≤ τ.2 19 1 by rw [← f19]; exact z) hl
        rw [f32]
        refine bz_br (fun z => absurd he z) (fun _ => ⟨he.1, fun z => ⟨he.1, fun q => absurd q (by decide), fun _ => ⟨.inr rfl, ?_⟩⟩, fun z => ⟨fun _ => ⟨.inl rfl, ?_⟩, fun q => absurd rfl q⟩⟩)
        · rw [cj] at z
          have nsb : ¬ SB (σ.2 711) n j := fun c => sb.mp c z
          have c16 := cnt_lt (p := fun s => ¬ σ.2 711 s = -1) hj (fun c => c z)
          have c4 := cnt_le (fun r => ¬ σ.2 712 r = -1) 4
          have h51 := h5.1
          refine hM _ (fun c => absurd c nsb) (fun _ => ⟨vp_in_nI (by omega) (by omega), rfl, ?_⟩)
          show Rel (pI (pA σ 711 (nI j).toNatClampNeg (σ.1 705)) 705 (σ.1 705 + 1)) (pI (pA (pI τ 0 0) 38 n (nI (10 + j))) 39 (nI (n + 1)))
          rw [cj, hnI, nI_1]
          refine ⟨(((h.th 0).a0.uAl (k := 711) (by decide) _ _).uAr (k := 38) (by decide) _ _).vI (k := 705) (k' := 39) (by decide) rfl, h.a1, h.a2, h.a3, h.a4, h.a5, h.a6, h.a7, h.a8.b0, h.a8.b1, h.a8.b2, h.a8.b3, ⟨n + 1, rfl, ?_, ?_, ?_, ?_⟩, h.a8.b5, h.a8.b6, h.a8.b7, h.a8.b8⟩
          · show n + 1 = cnt (fun r => ¬ σ.2 712 r = -1) 4 + cnt (fun s => ¬ upd (σ.2 711) j (nI n) s = -1) 16
            rw [cnt_add (p := fun s => ¬ σ.2 711 s = -1) (q := fun s => ¬ upd (σ.2 711) j (nI n) s = -1) hj (fun c => c z) (by rw [pk_us]; exact nI_m1 (by omega)) (fun i _ hne => by rw [pk_un hne])]
            omega
          · intro k hk
            show (∃ r, r < 4 ∧ upd (τ.2 38) n (nI (10 + j)) k = nI r ∧ σ.2 712 r = nI k) ∨ ∃ s, s < 16 ∧ upd (τ.2 38) n (nI (10 + j)) k = nI (10 + s) ∧ upd (σ.2 711) j (nI n) s = nI k
            by_cases e : k = n
            · subst e
              exact Or.inr ⟨j, hj, pk_us, pk_us⟩
            · rw [pk_un e]
              rcases h5.2.1 k (by omega) with q | ⟨s, hs, e1, e2⟩
              · exact Or.inl q
              · refine Or.inr ⟨s, hs, e1, ?_⟩
                rw [pk_un (fun c => ?_)]
                · exact e2
                · subst c
                  exact nI_m1 (by omega) (e2.symm.trans z)
          · intro r hr
            show σ.2 712 r = -1 ∨ ∃ k, k < n + 1 ∧ σ.2 712 r = nI k ∧ upd (τ.2 38) n (nI (10 + j)) k = nI r
            rcases h5.2.2.1 r hr with q | ⟨k, hk, e1, e2⟩
            · exact Or.inl q
            · exact Or.inr ⟨k, by omega, e1, by rw [pk_un (by omega)]; exact e2⟩
          · intro s hs
            show upd (σ.2 711) j (nI n) s = -1 ∨ ∃ k, k < n + 1 ∧ upd (σ.2 711) j (nI n) s = nI k ∧ upd (τ.2 38) n (nI (10 + j)) k = nI (10 + s)
            by_cases e : s = j
            · subst e
              exact Or.inr ⟨n, by omega, pk_us, pk_us⟩
            · rw [pk_un e]
              rcases h5.2.2.2 s hs with q | ⟨k, hk, e1, e2⟩
              · exact Or.inl q
              · exact Or.inr ⟨k, by omega, e1, by rw [pk_un (by omega)]; exact e2⟩
        · rw [cj] at z
          exact hM _ (fun _ => ⟨rfl, h.th 0⟩) (fun c => absurd (sb.mpr z) c)
    · have hM : wpM_touch x w τ (fun r' τ' => (0 : Int32) = r' ∧ Rel σ τ') := M_in (bz_br (fun z => absurd hw z) (fun _ => M_isEntered (h.th 0) (bz_br (fun _ => ⟨rfl, h.th 0⟩) (fun z => absurd z he))))
      refine I_in (bz_br (fun z => absurd hw z) (fun _ => I_hasEntered ?_))
      rw [f32]
      exact bz_rb (fun z => absurd z he) (fun _ => hM)
  · exact I_in (bz_br (fun _ => M_in (bz_br (fun _ => ⟨rfl, h.th 0⟩) (fun z => absurd z hw))) (fun z => absurd z hw))

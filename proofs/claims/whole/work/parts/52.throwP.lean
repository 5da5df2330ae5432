/-! ===== glide, ice: both sides ===== -/
theorem T_glide {σ τ : St} {x y : Int32} (h : Rel σ τ) : wpI_X10_glide x y σ (fun r σ' => wpM_glide x y τ (fun r' τ' => τ'.1 0 = 0 ∧ r = r' ∧ Rel σ' τ')) (fun σ' => wpM_glide x y τ (fun _ τ' => τ'.1 0 = 1 ∧ Rel σ' τ')) := by
  have f11 : σ.2 201 = τ.2 11 := h.a0.a (by decide)
  have no : ∀ post : Int32 → St → Prop, post 0 (pI τ 0 1) → wpM_glide_24 x y τ post := fun post hp => ⟨fun _ => ⟨fun _ => hp, fun z => absurd rfl z⟩, fun z => absurd rfl z⟩
  by_cases hx : 0 ≤ x ∧ x ≤ 3
  · by_cases hy : 0 ≤ y ∧ y ≤ 1000
    · obtain ⟨k, -, hk, rfl⟩ := rng (l := 0) (h := 3) rfl rfl (by omega) (by omega) hx
      obtain ⟨a, -, ha, rfl⟩ := rng (l := 0) (h := 1000) rfl rfl (by omega) (by omega) hy
      refine I_in (bz_br (fun z => absurd hx z) (fun _ => I_in (bz_rb (fun _ => I_glideOf (row := τ.2 12) (by omega) ha (f11 ▸ h.a3) h.a4 ?_) (fun z => absurd hy z))))
      refine M_in (bz_br (fun z => absurd hx z) (fun _ => M_in (bz_br (fun z => absurd hy z) (fun _ => ⟨fun z => absurd z (by decide), fun _ => ⟨fun z => absurd z (by decide), fun _ => M_glideOf (τ := pI τ 0 0) (by omega) ha h.a3 ⟨rfl, ?_, h.th 0⟩⟩⟩))))
      rw [f11]
      rfl
    · exact I_in (bz_br (fun z => absurd hx z) (fun _ => I_in (bz_rb (fun z => absurd z hy) (fun _ => M_in (bz_br (fun z => absurd hx z) (fun _ => M_in (bz_br (fun _ => no _ ⟨rfl, h.th 1⟩) (fun z => absurd z hy))))))))
  · exact I_in (bz_br (fun _ => M_in (bz_br (fun _ => no _ ⟨rfl, h.th 1⟩) (fun z => absurd z hx))) (fun z => absurd z hx))
def icV (dn sd : Nat → Int32) (r s : Nat) : Nat → Int32 := fun o => if dn (16 * r + o) = 0 then 0 else sd (16 * r + s) - sd (16 * r + o)
def icS (dn sd : Nat → Int32) (r : Nat) : Nat → Int32 := fun o => if dn (16 * r + o) = 0 then 0 else sd (16 * r + o)
theorem ic_eq {dn sd : Nat → Int32} {r s : Nat} : ∀ n : Nat, sm (icV dn sd r s) n = nI (cnt (fun o => ¬ dn (16 * r + o) = 0) n) * sd (16 * r + s) - sm (icS dn sd r) n
  | 0 => by
    show (0 : Int32) = nI 0 * sd (16 * r + s) - 0
    rw [nI_0, Int32.zero_mul]
    rfl
  | n + 1 => by
    show sm (icV dn sd r s) n + icV dn sd r s n = nI (cnt (fun o => ¬ dn (16 * r + o) = 0) (n + 1)) * sd (16 * r + s) - (sm (icS dn sd r) n + icS dn sd r n)
    rw [ic_eq n]
    by_cases q : dn (16 * r + n) = 0
    · rw [cnt_f (p := fun o => ¬ dn (16 * r + o) = 0) (fun c => c q), show icV dn sd r s n = 0 from if_pos q, show icS dn sd r n = 0 from if_pos q, Int32.add_zero, Int32.add_zero]
    · rw [cnt_t (p := fun o => ¬ dn (16 * r + o) = 0) q, nI_succ, show icV dn sd r s n = sd (16 * r + s) - sd (16 * r + n) from if_neg q, show icS dn sd r n = sd (16 * r + n) from if_neg q]
      generalize nI (cnt (fun o => ¬ dn (16 * r + o) = 0) n) = c
      generalize sm (icS dn sd r) n = b
      generalize sd (16 * r + s) = S
      generalize sd (16 * r + n) = d
      grind
theorem I_iceOf {σ : St} {r s : Nat} {post : Int32 → St → Prop} (hr : r < 4) (hs : s < 16) (h : post (sm (icV (σ.2 800) (σ.2 802) r s) 16) σ) : wpI_X4_iceOf (nI r) (nI s) σ post := by
  rw [ic_eq] at h
  show wpI_X4_iceOf_8 (nI r) (nI s) 0 0 0 σ post
  refine lp_c0 (fun i => (nI r, nI s, nI (cnt (fun o => ¬ σ.2 800 (16 * r + o) = 0) i), sm (icS (σ.2 800) (σ.2 802) r) i, nI i, σ)) 16 rfl ?_ ?_
  · intro kb
    dsimp only
    unfold wpBI_X4_iceOf_8
    refine pk_le 16 16 (fun _ => I_line ⟨vp_in_nI (by omega) (by omega), ?_⟩) (fun z => absurd z (Nat.lt_irrefl 16))
    rw [nI_clamp (by omega)]
    exact h
  · intro i kb hi hk
    dsimp only
    unfold wpBI_X4_iceOf_8 wpI_X4_iceOf_44
    dsimp only
    refine pk_le 16 i (fun z => absurd z (by omega)) (fun _ => I_hasDown ?_)
    rw [bz_c (DN_n hr hi)]
    refine bz_br (fun q => kb_eq hk ?_) (fun q => I_line ⟨vp_in_nI (by omega) (by omega), kb_eq hk ?_⟩)
    · rw [cnt_f (p := fun o => ¬ σ.2 800 (16 * r + o) = 0) q, nI_1]
      show _ = (_, _, _, sm (icS (σ.2 800) (σ.2 802) r) i + icS (σ.2 800) (σ.2 802) r i, _, _)
      rw [show icS (σ.2 800) (σ.2 802) r i = 0 from if_pos (Classical.not_not.mp q), Int32.add_zero]
    · rw [nI_clamp (by omega), cnt_t (p := fun o => ¬ σ.2 800 (16 * r + o) = 0) q, nI_1, nI_1]
      show _ = (_, _, _, sm (icS (σ.2 800) (σ.2 802) r) i + icS (σ.2 800) (σ.2 802) r i, _, _)
      rw [show icS (σ.2 800) (σ.2 802) r i = σ.2 802 (16 * r + i) from if_neg q]
theorem M_ice50 {τ : St} {r s : Nat} {post : Int32 → St → Prop} (hr : r < 4) (hs : s < 16) (h : post (sm (icV (τ.2 33) (τ.2 37) r s) 16) τ) : wpM_ice_50 (nI r) (nI s) 0 0 τ post := by
  refine lp_c0 (fun i => (nI r, nI s, sm (icV (τ.2 33) (τ.2 37) r s) i, nI i, τ)) 16 rfl ?_ ?_
  · intro kb
    dsimp only
    unfold wpBM_ice_50
    exact pk_le 16 16 (fun _ => h) (fun z => absurd z (Nat.lt_irrefl 16))
  · intro i kb hi hk
    dsimp only
    unfold wpBM_ice_50 wpM_ice_102
    dsimp only
    rw [ln_eqM, ln_eqM, nI_clamp (by omega), nI_clamp (by omega)]
    have v : vp_in (nI (16 * r + i)) 64 := vp_in_nI (by omega) (by omega)
    refine pk_le 16 i (fun z => absurd z (by omega)) (fun _ => ⟨v, fun q => kb_eq hk ?_, fun q => ⟨vp_in_nI (by omega) (by omega), v, kb_eq hk ?_⟩⟩)
    · rw [nI_1]
      show _ = (_, _, sm (icV (τ.2 33) (τ.2 37) r s) i + icV (τ.2 33) (τ.2 37) r s i, _, _)
      rw [show icV (τ.2 33) (τ.2 37) r s i = 0 from if_pos q]
    · rw [nI_1]
      show _ = (_, _, sm (icV (τ.2 33) (τ.2 37) r s) i + icV (τ.2 33) (τ.2 37) r s i, _, _)
      rw [show icV (τ.2 33) (τ.2 37) r s i = τ.2 37 (16 * r + s) - τ.2 37 (16 * r + i) from if_neg q]
theorem T_ice {σ τ : St} {x y : Int32} (h : Rel σ τ) : wpI_X10_ice x y σ (fun r σ' => wpM_ice x y τ (fun r' τ' => τ'.1 0 = 0 ∧ r = r' ∧ Rel σ' τ')) (fun σ' => wpM_ice x y τ (fun _ τ' => τ'.1 0 = 1 ∧ Rel σ' τ')) := by
  have f33 : σ.2 800 = τ.2 33 := h.a0.a (by decide)
  have f37 : σ.2 802 = τ.2 37 := h.a0.a (by decide)
  have no : ∀ post : Int32 → St → Prop, post 0 (pI τ 0 1) → wpM_ice_23 x y τ post := fun post hp => ⟨fun _ => ⟨fun z => absurd rfl z, fun _ => hp⟩, fun z => absurd rfl z⟩
  have hM : ∀ post : Int32 → St → Prop, ((vp_in x 4 ∧ τ.2 28 x.toNatClampNeg = 2) ∧ DNp (τ.2 33) x y → wpM_ice_24 x y 1 τ post) → (¬ ((vp_in x 4 ∧ τ.2 28 x.toNatClampNeg = 2) ∧ DNp (τ.2 33) x y) → wpM_ice_23 x y τ post) → wpM_ice x y τ post := fun post hy hn =>
    M_hasCome h (bz_br (fun z => hn (fun c => z ⟨c.2, Or.inr c.1.2⟩)) (fun q => ⟨q.1.1, fun z => hn (fun c => z c.1.2), fun z => hy ⟨⟨q.1.1, z⟩, q.1⟩⟩))
  refine I_isWhole h (bz_br (fun z => hM _ (fun c => absurd c.1 z) (fun _ => no _ ⟨rfl, h.th 1⟩)) (fun q1 => I_hasDown ?_))
  rw [f33]
  refine bz_rb (fun q2 => ?_) (fun z => hM _ (fun c => absurd c.2 z) (fun _ => no _ ⟨rfl, h.th 1⟩))
  have g := And.intro q1 q2
  obtain ⟨r, hr, rfl⟩ := vp_x q2.1 (by omega)
  obtain ⟨s, hs, rfl⟩ := vp_x q2.2.1 (by omega)
  refine I_iceOf hr hs (hM _ (fun _ => ⟨fun z => absurd z (by decide), fun _ => ⟨fun _ => M_ice50 (τ := pI τ 0 0) hr hs ⟨rfl, ?_, h.th 0⟩, fun z => absurd z (by decide)⟩⟩) (fun z => absurd g z))
  rw [f33, f37]
  rfl

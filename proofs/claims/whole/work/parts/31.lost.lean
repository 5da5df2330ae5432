/-! ===== lost ===== -/
def lo (T : Nat → Int32) (B : Nat) : Nat → Nat
  | 0 => 0
  | K + 1 => if T (B + (K + 1)) = -1000000 then lo T B K else K + 1
theorem lo_le {T : Nat → Int32} {B : Nat} : ∀ K : Nat, lo T B K ≤ K
  | 0 => Nat.le_refl _
  | K + 1 => by
    have := lo_le (T := T) (B := B) K
    unfold lo
    split <;> omega
/-- the first timed gate from g on, d gates left -/
def up (T : Nat → Int32) (B : Nat) : Nat → Nat → Nat
  | 0, g => g
  | d + 1, g => if T (B + g) = -1000000 then up T B d (g + 1) else g
theorem up_b {T : Nat → Int32} {B : Nat} : ∀ d g : Nat, g ≤ up T B d g ∧ up T B d g ≤ g + d
  | 0, g => ⟨Nat.le_refl _, Nat.le_refl _⟩
  | d + 1, g => by
    have := up_b (T := T) (B := B) d (g + 1)
    unfold up
    split <;> omega
theorem I_lost3 {σ : St} {r j K m : Nat} {post : Int32 → St → Prop} (hr : r < 4) (hj : j < 16) (hK : K < 6) (h : wpI_X4_lostIn_25 (nI r) (nI j) (nI K) (nI m) (nI (lo (σ.2 803) (6 * (16 * r + j)) K)) σ post) : wpI_X4_lostIn_3 (nI r) (nI j) (nI K) (nI m) (nI K) σ post := by
  refine lp_meas (fun a => ∃ g, g ≤ K ∧ a = (nI r, nI j, nI K, nI m, nI g, σ) ∧ lo (σ.2 803) (6 * (16 * r + j)) g = lo (σ.2 803) (6 * (16 * r + j)) K) (fun a => a.2.2.2.2.1.toNatClampNeg) ?_ _ ⟨K, Nat.le_refl _, rfl, rfl⟩
  rintro kb a ⟨g, hg, rfl, e⟩ hkb
  dsimp only at hkb ⊢
  unfold wpBI_X4_lostIn_3
  rw [nI_clamp (by omega)] at hkb
  refine pk_le g 0 (fun q => ?_) (fun q => I_isTimed hr hj (by omega) (bz_rb (fun z => ?_) (fun z => ?_)))
  · have : g = 0 := by omega
    subst this
    rw [← e] at h
    exact h
  · cases g with
    | zero => omega
    | succ g =>
      have e2 : lo (σ.2 803) (6 * (16 * r + j)) (g + 1) = g + 1 := by
        unfold lo
        exact if_neg z
      rw [← e, e2] at h
      exact h
  · cases g with
    | zero => omega
    | succ g =>
      have e2 : lo (σ.2 803) (6 * (16 * r + j)) (g + 1) = lo (σ.2 803) (6 * (16 * r + j)) g := by
        rw [lo]
        exact if_pos (Classical.not_not.mp z)
      refine hkb _ ⟨g, by omega, ?_, e2.symm.trans e⟩ ?_
      · rw [pk_m1]
      · dsimp only
        rw [pk_m1, nI_clamp (by omega)]
        omega
theorem M_timeAt {τ : St} {r j g : Nat} {post : Int32 → St → Prop} (hr : r < 4) (hj : j < 16) (hg : g < 6) (h : post (τ.2 34 (6 * (16 * r + j) + g)) τ) : wpM_timeAt (nI r) (nI j) (nI g) τ post := by
  unfold wpM_timeAt
  rw [sp_eqM, nI_clamp (by omega)]
  exact ⟨vp_in_nI (by omega) (by omega), h⟩
theorem M_lost43 {τ : St} {r j K : Nat} {post : Int32 → St → Prop} (hr : r < 4) (hj : j < 16) (hK : K < 6) (h0 : τ.2 34 (6 * (16 * r + j)) = 0) (h : wpM_lost_67 (nI r) (nI j) (nI K) (nI (lo (τ.2 34) (6 * (16 * r + j)) K)) (nI (K + 1)) τ post) : wpM_lost_43 (nI r) (nI j) (nI K) (nI K) τ post := by
  refine lp_meas (fun a => ∃ g, g ≤ K ∧ a = (nI r, nI j, nI K, nI g, τ) ∧ lo (τ.2 34) (6 * (16 * r + j)) g = lo (τ.2 34) (6 * (16 * r + j)) K) (fun a => a.2.2.2.1.toNatClampNeg) ?_ _ ⟨K, Nat.le_refl _, rfl, rfl⟩
  rintro kb a ⟨g, hg, rfl, e⟩ hkb
  dsimp only at hkb ⊢
  unfold wpBM_lost_43
  rw [nI_clamp (by omega)] at hkb
  refine M_timeAt hr hj (by omega) ⟨fun z => ?_, fun z => ?_⟩
  · have e2 : lo (τ.2 34) (6 * (16 * r + j)) g = g := by
      cases g with
      | zero => rfl
      | succ g =>
        unfold lo
        exact if_neg z
    rw [← e, e2] at h
    rw [nI_1]
    exact h
  · cases g with
    | zero =>
      rw [Nat.add_zero, h0] at z
      exact absurd z (by decide)
    | succ g =>
      have e2 : lo (τ.2 34) (6 * (16 * r + j)) (g + 1) = lo (τ.2 34) (6 * (16 * r + j)) g := by
        rw [lo]
        exact if_pos z
      refine hkb _ ⟨g, by omega, ?_, e2.symm.trans e⟩ ?_
      · rw [pk_m1]
      · dsimp only
        rw [pk_m1, nI_clamp (by omega)]
        omega
theorem I_lost30 {σ : St} {r j K m : Nat} {x : Int32} {post : Int32 → St → Prop} (hr : r < 4) (hj : j < 16) (hK : K + 1 ≤ m) (hm : m ≤ 6) (h : wpI_X4_lostIn_54 (nI r) (nI j) (nI K) (nI m) x (nI (up (σ.2 803) (6 * (16 * r + j)) (m - (K + 1)) (K + 1))) σ post) : wpI_X4_lostIn_30 (nI r) (nI j) (nI K) (nI m) x (nI (K + 1)) σ post := by
  refine lp_meas (fun a => ∃ g, K + 1 ≤ g ∧ g ≤ m ∧ a = (nI r, nI j, nI K, nI m, x, nI g, σ) ∧ up (σ.2 803) (6 * (16 * r + j)) (m - g) g = up (σ.2 803) (6 * (16 * r + j)) (m - (K + 1)) (K + 1)) (fun a => m - a.2.2.2.2.2.1.toNatClampNeg) ?_ _ ⟨K + 1, Nat.le_refl _, hK, rfl, rfl⟩
  rintro kb a ⟨g, hg1, hg, rfl, e⟩ hkb
  dsimp only at hkb ⊢
  unfold wpBI_X4_lostIn_30
  rw [nI_clamp (by omega)] at hkb
  refine pk_le m g (fun q => ?_) (fun q => I_isTimed hr hj (by omega) (bz_rb (fun z => ?_) (fun z => ?_)))
  · have e3 : g = m := by omega
    subst e3
    rw [← e, Nat.sub_self] at h
    exact h
  · have e2 : up (σ.2 803) (6 * (16 * r + j)) (m - g) g = g := by
      rw [show m - g = (m - g - 1) + 1 by omega]
      unfold up
      exact if_neg z
    rw [← e, e2] at h
    exact h
  · have e2 : up (σ.2 803) (6 * (16 * r + j)) (m - g) g = up (σ.2 803) (6 * (16 * r + j)) (m - (g + 1)) (g + 1) := by
      rw [show m - g = (m - (g + 1)) + 1 by omega, up]
      exact if_pos (Classical.not_not.mp z)
    refine hkb _ ⟨g + 1, by omega, by omega, ?_, e2.symm.trans e⟩ ?_
    · rw [nI_1]
    · dsimp only
      rw [nI_1, nI_clamp (by omega)]
      omega
theorem M_lost67 {τ : St} {r j K m : Nat} {x : Int32} {post : Int32 → St → Prop} (hr : r < 4) (hj : j < 16) (hK : K + 1 ≤ m) (hm : m ≤ 6) (hg : τ.1 2 = nI m) (h : wpM_lost_95 (nI r) (nI j) (nI K) x (nI (up (τ.2 34) (6 * (16 * r + j)) (m - (K + 1)) (K + 1))) τ post) : wpM_lost_67 (nI r) (nI j) (nI K) x (nI (K + 1)) τ post := by
  refine lp_meas (fun a => ∃ g, K + 1 ≤ g ∧ g ≤ m ∧ a = (nI r, nI j, nI K, x, nI g, τ) ∧ up (τ.2 34) (6 * (16 * r + j)) (m - g) g = up (τ.2 34) (6 * (16 * r + j)) (m - (K + 1)) (K + 1)) (fun a => m - a.2.2.2.2.1.toNatClampNeg) ?_ _ ⟨K + 1, Nat.le_refl _, hK, rfl, rfl⟩
  rintro kb a ⟨g, hg1, hg2, rfl, e⟩ hkb
  dsimp only at hkb ⊢
  unfold wpBM_lost_67
  rw [nI_clamp (by omega)] at hkb
  refine pk_le m g (fun q => ?_) (fun q => M_timeAt hr hj (by omega) ⟨fun z => ?_, fun z => ?_⟩) hg
  · have e3 : g = m := by omega
    subst e3
    rw [← e, Nat.sub_self] at h
    exact h
  · have e2 : up (τ.2 34) (6 * (16 * r + j)) (m - g) g = g := by
      rw [show m - g = (m - g - 1) + 1 by omega]
      unfold up
      exact if_neg z
    rw [← e, e2] at h
    exact h
  · have e2 : up (τ.2 34) (6 * (16 * r + j)) (m - g) g = up (τ.2 34) (6 * (16 * r + j)) (m - (g + 1)) (g + 1) := by
      rw [show m - g = (m - (g + 1)) + 1 by omega, up]
      exact if_pos z
    refine hkb _ ⟨g + 1, by omega, by omega, ?_, e2.symm.trans e⟩ ?_
    · rw [nI_1]
    · dsimp only
      rw [nI_1, nI_clamp (by omega)]
      omega
/-- the least of those that were timed at both -/
def lsF (T dn : Nat → Int32) (r A U : Nat) (own : Int32) : Nat → Int32
  | 0 => own
  | o + 1 => if ¬ dn (16 * r + o) = 0 ∧ ¬ T (6 * (16 * r + o) + A) = -1000000 ∧ ¬ T (6 * (16 * r + o) + U) = -1000000 then (if T (6 * (16 * r + o) + U) - T (6 * (16 * r + o) + A) < lsF T dn r A U own o then T (6 * (16 * r + o) + U) - T (6 * (16 * r + o) + A) else lsF T dn r A U own o) else lsF T dn r A U own o
theorem lsF_n {T dn : Nat → Int32} {r A U o : Nat} {own : Int32} (h : ¬ (¬ dn (16 * r + o) = 0 ∧ ¬ T (6 * (16 * r + o) + A) = -1000000 ∧ ¬ T (6 * (16 * r + o) + U) = -1000000)) : lsF T dn r A U own (o + 1) = lsF T dn r A U own o := by
  rw [lsF]
  exact if_neg h
theorem lsF_y {T dn : Nat → Int32} {r A U o : Nat} {own : Int32} (h : ¬ dn (16 * r + o) = 0 ∧ ¬ T (6 * (16 * r + o) + A) = -1000000 ∧ ¬ T (6 * (16 * r + o) + U) = -1000000) : lsF T dn r A U own (o + 1) = if T (6 * (16 * r + o) + U) - T (6 * (16 * r + o) + A) < lsF T dn r A U own o then T (6 * (16 * r + o) + U) - T (6 * (16 * r + o) + A) else lsF T dn r A U own o := by
  rw [lsF]
  exact if_pos h
theorem lsF_g {T dn : Nat → Int32} {r A U n : Nat} {own : Int32} : ∀ d : Nat, (∀ o, n ≤ o → o < n + d → dn (16 * r + o) = 0) → lsF T dn r A U own (n + d) = lsF T dn r A U own n
  | 0, _ => rfl
  | d + 1, h => by
    show lsF T dn r A U own (n + d + 1) = _
    rw [lsF_n (fun c => c.1 (h (n + d) (by omega) (by omega))), lsF_g d (fun o h1 h2 => h o h1 (by omega))]
theorem I_least {σ : St} {r A U : Nat} {own : Int32} {post : Int32 → St → Prop} (hr : r < 4) (hA : A < 6) (hU : U < 6) (h : post (lsF (σ.2 803) (σ.2 800) r A U own 16) σ) : wpI_X4_leastBetween_21 (nI r) (nI A) (nI U) own 0 σ post := by
  refine lp_c0 (fun i => (nI r, nI A, nI U, lsF (σ.2 803) (σ.2 800) r A U own i, nI i, σ)) 16 rfl ?_ ?_
  · intro kb
    dsimp only
    unfold wpBI_X4_leastBetween_21
    exact pk_le 16 16 (fun _ => h) (fun z => absurd z (Nat.lt_irrefl 16))
  · intro i kb hi hk
    dsimp only
    unfold wpBI_X4_leastBetween_21 wpI_X4_leastBetween_86
    dsimp only
    refine pk_le 16 i (fun z => absurd z (by omega)) (fun _ => I_hasDown ?_)
    rw [bz_c (DN_n hr hi)]
    refine bz_br (fun q1 => kb_eq hk ?_) (fun q1 => I_isTimed hr hi hA (bz_br (fun q2 => kb_eq hk ?_) (fun q2 => I_isTimed hr hi hU (bz_br (fun q3 => kb_eq hk ?_) (fun q3 => I_timeAt hr hi hU (I_timeAt hr hi hA (kb_eq hk ?_)))))))
    · rw [nI_1, lsF_n (fun c => q1 c.1)]
    · rw [nI_1, lsF_n (fun c => q2 c.2.1)]
    · rw [nI_1, lsF_n (fun c => q3 c.2.2)]
    · rw [nI_1, lsF_y ⟨q1, q2, q3⟩]
theorem M_least {τ : St} {r K A U n : Nat} {own : Int32} {post : Int32 → St → Prop} (hr : r < 4) (hA : A < 6) (hU : U < 6) (hn16 : n ≤ 16) (hn : τ.1 13 = nI n) (h : (¬ (nI U - nI A) = 0) ∧ ((¬ (nI U - nI A) = 0) ∧ (((((own - lsF (τ.2 34) (τ.2 33) r A U own n) - (own - lsF (τ.2 34) (τ.2 33) r A U own n) / (nI U - nI A) * (nI U - nI A)) ≤ (nI K - nI A) → post ((own - lsF (τ.2 34) (τ.2 33) r A U own n) / (nI U - nI A) + 0) τ) ∧ (¬ ((own - lsF (τ.2 34) (τ.2 33) r A U own n) - (own - lsF (τ.2 34) (τ.2 33) r A U own n) / (nI U - nI A) * (nI U - nI A)) ≤ (nI K - nI A) → post ((own - lsF (τ.2 34) (τ.2 33) r A U own n) / (nI U - nI A) + 1) τ))))) : wpM_lost_132 (nI r) (nI K) (nI A) (nI U) own own 0 τ post := by
  refine lp_c0 (fun i => (nI r, nI K, nI A, nI U, lsF (τ.2 34) (τ.2 33) r A U own i, own, nI i, τ)) n rfl ?_ ?_
  · intro kb
    dsimp only
    unfold wpBM_lost_132
    exact pk_le n n (fun _ => h) (fun z => absurd z (Nat.lt_irrefl n)) hn
  · intro i kb hi hk
    dsimp only
    unfold wpBM_lost_132 wpM_lost_213
    dsimp only
    rw [ln_eqM, nI_clamp (by omega)]
    have hi16 : i < 16 := by omega
    refine pk_le n i (fun z => absurd z (by omega)) (fun _ => ⟨vp_in_nI (by omega) (by omega), fun q1 => kb_eq hk ?_, fun q1 => M_timeAt hr hi16 hA ⟨fun q2 => kb_eq hk ?_, fun q2 => M_timeAt hr hi16 hU ⟨fun q3 => M_timeAt hr hi16 hU (M_timeAt hr hi16 hA (kb_eq hk ?_)), fun q3 => kb_eq hk ?_⟩⟩⟩) hn
    · rw [nI_1, lsF_n (fun c => c.1 q1)]
    · rw [nI_1, lsF_n (fun c => c.2.1 q2)]
    · rw [nI_1, lsF_y ⟨q1, q2, q3⟩]
    · rw [nI_1, lsF_n (fun c => c.2.2 q3)]
theorem in_of_m2 {c : Int32} {n : Nat} (hn : n ≤ 6) (h : 0 ≤ c ∧ c ≤ nI n - 2) : ∃ j : Nat, j + 2 ≤ n ∧ c = nI j := by
  obtain ⟨j, hj, rfl⟩ := i_of h.1
  have b := Int32.le_iff_toInt_le.mp h.2
  rw [show (2 : Int32) = nI 2 from rfl, i_subN (by omega) (by omega), nI_toInt hj] at b
  exact ⟨j, by omega, rfl⟩
theorem T_lost {σ τ : St} {x s k : Int32} (h : Rel σ τ) : wpI_X10_lost x s k σ (fun r σ' => wpM_lost x s k τ (fun r' τ' => r = r' ∧ Rel σ' τ')) := by
  have eg : σ.1 101 = τ.1 2 := h.a0.i (by decide)
  have f33 : σ.2 800 = τ.2 33 := h.a0.a (by decide)
  have f34 : σ.2 803 = τ.2 34 := h.a0.a (by decide)
  have hM : ∀ post : Int32 → St → Prop, ((vp_in x 4 ∧ τ.2 28 x.toNatClampNeg = 2) ∧ DNp (τ.2 33) x s ∧ (0 ≤ k ∧ k ≤ τ.1 2 - 2) → wpM_lost_43 x s k k (pI τ 0 0) post) → (¬ ((vp_in x 4 ∧ τ.2 28 x.toNatClampNeg = 2) ∧ DNp (τ.2 33) x s ∧ (0 ≤ k ∧ k ≤ τ.1 2 - 2)) → post (-1) (pI τ 0 0)) → wpM_lost x s k τ post := fun post hy hn =>
    M_hasCome (h.th 0) (bz_br (fun z => hn (fun c => z ⟨c.2.1, Or.inr c.1.2⟩)) (fun q => ⟨q.1.1, fun z => hn (fun c => z c.1.2), fun z => M_in (bz_rb (fun q3 => hy ⟨⟨q.1.1, z⟩, q.1, q3⟩) (fun z3 => hn (fun c => z3 c.2.2)))⟩))
  have hn : ¬ ((vp_in x 4 ∧ τ.2 28 x.toNatClampNeg = 2) ∧ DNp (τ.2 33) x s ∧ (0 ≤ k ∧ k ≤ τ.1 2 - 2)) → wpM_lost x s k τ (fun r' τ' => (-1 : Int32) = r' ∧ Rel σ τ') := fun m => hM _ (fun c => absurd c m) (fun _ => ⟨rfl, h.th 0⟩)
  refine I_isWhole h (bz_br (fun z => hn (fun c => z c.1)) (fun q1 => I_hasDown ?_))
  rw [f33]
  refine bz_br (fun z => hn (fun c => z c.2.1)) (fun q2 => I_in ?_)
  rw [eg]
  refine bz_rb (fun q3 => ?_) (fun z => hn (fun c => z c.2.2))
  have g := And.intro q1 (And.intro q2 q3)
  obtain ⟨r, hr, rfl⟩ := vp_x q2.1 (by omega)
  obtain ⟨j, hj, rfl⟩ := vp_x q2.2.1 (by omega)
  obtain ⟨m, hm6, hm⟩ := h.gates
  have q4 := q3
  rw [hm] at q4
  obtain ⟨K, hK, rfl⟩ := in_of_m2 hm6 q4
  have h0 : τ.2 34 (6 * (16 * r + j)) = 0 := (h.a8.b7 r hr j hj ((DN_n hr hj).mp q2)).2.2
  obtain ⟨n, hn16, hns⟩ := h.sleds
  rw [hm]
  refine I_lost3 hr hj (by omega) ?_
  show wpI_X4_lostIn_30 (nI r) (nI j) (nI K) (nI m) (nI (lo (σ.2 803) (6 * (16 * r + j)) K)) (nI K + 1) σ _
  rw [nI_1]
  refine I_lost30 hr hj (by omega) hm6 ?_
  rw [f34]
  have lA := lo_le (T := τ.2 34) (B := 6 * (16 * r + j)) K
  have lU := up_b (T := τ.2 34) (B := 6 * (16 * r + j)) (m - (K + 1)) (K + 1)
  have hM2 : ∀ post : Int32 → St → Prop, wpM_lost_95 (nI r) (nI j) (nI K) (nI (lo (τ.2 34) (6 * (16 * r + j)) K)) (nI (up (τ.2 34) (6 * (16 * r + j)) (m - (K + 1)) (K + 1))) (pI τ 0 0) post → wpM_lost (nI r) (nI j) (nI K) τ post := fun post hp =>
    hM post (fun _ => M_lost43 (τ := pI τ 0 0) hr hj (by omega) h0 (M_lost67 (τ := pI τ 0 0) hr hj (by omega) hm6 hm hp)) (fun z => absurd g z)
  generalize lo (τ.2 34) (6 * (16 * r + j)) K = A at lA hM2 ⊢
  generalize up (τ.2 34) (6 * (16 * r + j)) (m - (K + 1)) (K + 1) = U at lU hM2 ⊢
  refine pk_le m U (fun z => hM2 _ ?_) (fun z => ⟨fun _ => I_timeAt hr hj (by omega) (I_timeAt hr hj (by omega) (I_timeAt hr hj (by omega) (I_timeAt hr hj (by omega) (I_least hr (by omega) (by omega) ?_)))), fun z2 => ?_⟩)
  · have e : U = m := by omega
    subst e
    exact ⟨fun z2 => absurd hm.symm z2, fun _ => ⟨rfl, h.th 0⟩⟩
  · rw [f33, f34]
    have n0 : ¬ (nI U - nI A) = 0 := by
      rw [pk_sub (by omega)]
      exact nI_ne0 (by omega) (by omega)
    have el : lsF (τ.2 34) (τ.2 33) r A U (τ.2 34 (6 * (16 * r + j) + U) - τ.2 34 (6 * (16 * r + j) + A)) 16 = lsF (τ.2 34) (τ.2 33) r A U (τ.2 34 (6 * (16 * r + j) + U) - τ.2 34 (6 * (16 * r + j) + A)) n := by
      have := lsF_g (T := τ.2 34) (dn := τ.2 33) (r := r) (A := A) (U := U) (n := n) (own := τ.2 34 (6 * (16 * r + j) + U) - τ.2 34 (6 * (16 * r + j) + A)) (16 - n) (fun o h1 h2 => Classical.byContradiction (fun c => by
        have := (h.a8.b7 r hr o (by omega) c).2.1
        rw [hns, nI_ltI (by omega) (by omega)] at this
        omega))
      rw [show n + (16 - n) = 16 by omega] at this
      exact this
    rw [el]
    have hM3 : ∀ post : Int32 → St → Prop, _ → wpM_lost (nI r) (nI j) (nI K) τ post := fun post hp => hM2 post ⟨fun _ => M_timeAt (τ := pI τ 0 0) hr hj (by omega) (M_timeAt (τ := pI τ 0 0) hr hj (by omega) (M_least (τ := pI τ 0 0) hr (by omega) (by omega) hn16 hns hp)), fun z3 => absurd (show nI U = nI m from z3.trans hm) (fun e => by have := (nI_eq (by omega) (by omega)).mp e; omega)⟩
    exact ⟨n0, n0, fun z3 => hM3 _ ⟨n0, n0, fun _ => ⟨rfl, h.th 0⟩, fun z4 => absurd z3 z4⟩, fun z3 => hM3 _ ⟨n0, n0, fun z4 => absurd z4 z3, fun _ => ⟨rfl, h.th 0⟩⟩⟩
  · rw [pk_sub (by omega)] at z2
    exact absurd (nI_le (a := 1) (by omega) (by omega)) z2

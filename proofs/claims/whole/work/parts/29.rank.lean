/-! ===== how the sleds stand behind N events ===== -/
theorem cnt_mono {p q : Nat → Prop} : ∀ {n : Nat}, (∀ i, i < n → p i → q i) → cnt p n ≤ cnt q n
  | 0, _ => Nat.le_refl _
  | n + 1, h => by
    have e := cnt_mono (n := n) (fun i hi => h i (by omega))
    by_cases a : p n
    · rw [cnt_t a, cnt_t (h n (by omega) a)]; omega
    · rw [cnt_f a]
      by_cases b : q n
      · rw [cnt_t b]; omega
      · rw [cnt_f b]; exact e
theorem cnt_eqi {p q : Nat → Prop} : ∀ {n : Nat}, (∀ i, i < n → p i → q i) → cnt p n = cnt q n → ∀ i, i < n → q i → p i
  | 0, _, _, _, hi, _ => absurd hi (Nat.not_lt_zero _)
  | n + 1, h, e, i, hi, hq => by
    have m := cnt_mono (n := n) (fun i hi => h i (by omega))
    by_cases a : p n
    · rw [cnt_t a, cnt_t (h n (by omega) a)] at e
      by_cases k : i = n
      · rw [k]; exact a
      · exact cnt_eqi (n := n) (fun i hi => h i (by omega)) (by omega) i (by omega) hq
    · by_cases b : q n
      · rw [cnt_f a, cnt_t b] at e
        omega
      · rw [cnt_f a, cnt_f b] at e
        by_cases k : i = n
        · rw [k] at hq; exact absurd hq b
        · exact cnt_eqi (n := n) (fun i hi => h i (by omega)) e i (by omega) hq
theorem sm_add {f g : Nat → Int32} {r : Nat} {v : Int32} : ∀ {n : Nat}, r < n → f r = 0 → g r = v → (∀ i, i < n → i ≠ r → f i = g i) → sm g n = sm f n + v
  | 0, hr, _, _, _ => absurd hr (Nat.not_lt_zero _)
  | n + 1, hr, h1, h2, h => by
    show sm g n + g n = sm f n + f n + v
    by_cases e : r = n
    · subst e
      rw [h1, h2, sm_c (f := f) (g := g) (fun i hi => h i (by omega) (by omega)), Int32.add_zero]
    · rw [sm_add (n := n) (by omega) h1 h2 (fun i hi => h i (by omega)), h n (by omega) (fun c => e c.symm), Int32.add_assoc, Int32.add_comm v, ← Int32.add_assoc]
def rk (σ : St) (N s : Nat) : Prop := ¬ σ.2 710 s = 0 ∧ ¬ SB (σ.2 711) N s ∧ (∃ r, r < 4 ∧ WB (σ.2 712) N r) ∧ ∀ r, r < 4 → WB (σ.2 712) N r → ¬ σ.2 800 (16 * r + s) = 0
noncomputable def suF (σ : St) (N s r : Nat) : Int32 := ci (WB (σ.2 712) N r ∧ ¬ σ.2 800 (16 * r + s) = 0) (σ.2 801 (16 * r + s)) 0
noncomputable def su (σ : St) (N s : Nat) : Int32 := sm (suF σ N s) 4
noncomputable def rv (σ : St) (N s : Nat) : Int32 := ci (rk σ N s) (nI (1 + cnt (fun o => rk σ N o ∧ su σ N o < su σ N s) 16)) (-1)
theorem I_isInBy {σ : St} {n N j : Nat} {el : Nat → Int32} {post : Int32 → St → Prop} (h5 : RE5 n el (σ.2 712) (σ.2 711)) (hN : N ≤ n) (hj : j < 16) (h : post (bz (¬ σ.2 710 j = 0 ∧ ¬ SB (σ.2 711) N j)) σ) : wpI_X2_isInBy (nI j) (nI N) σ post := by
  have n20 := h5.le
  have v : vp_in (nI j) 16 := vp_in_nI hj (by omega)
  have no : ¬ (¬ σ.2 710 j = 0 ∧ ¬ SB (σ.2 711) N j) → wpI_X2_isInBy_32 σ post := fun z => ⟨.inl rfl, by rw [bz_f z] at h; exact h⟩
  have yes : (¬ σ.2 710 j = 0 ∧ ¬ SB (σ.2 711) N j) → wpI_X2_isInBy_28 σ post := fun z => ⟨.inr rfl, by rw [bz_t z] at h; exact h⟩
  refine I_hasEntered ?_
  rw [nI_clamp (by omega)]
  refine bz_br (fun q => no (fun c => q ⟨v, c.1⟩)) (fun q => ⟨v, fun z => yes ⟨q.2, ?_⟩, fun z => ⟨v, fun z2 => no (fun c => c.2 ?_), fun z2 => yes ⟨q.2, ?_⟩⟩⟩)
  · rintro ⟨k, hk, e⟩
    exact nI_m1 (by omega) (e.symm.trans z)
  · rcases h5.2.2.2 j hj with q1 | ⟨k, hk, e, -⟩
    · exact absurd q1 z
    · rw [e, nI_ltI (by omega) (by omega)] at z2
      exact ⟨k, z2, e⟩
  · rintro ⟨k, hk, e⟩
    rw [e] at z2
    exact z2 (nI_lt hk (by omega))
theorem I_recallSum {σ : St} {n N s : Nat} {el : Nat → Int32} {post : St → Prop} (h5 : RE5 n el (σ.2 712) (σ.2 711)) (hN : N ≤ n) (hs : s < 16) (h : post (pA (pA σ 901 s (su σ N s)) 900 s (bz (rk σ N s)))) : wpI_X6_recallSum (nI s) (nI N) σ post := by
  have n20 := h5.le
  have v : vp_in (nI s) 16 := vp_in_nI hs (by omega)
  show wpI_X6_recallSum_12 (nI s) (nI N) 0 0 0 0 σ post
  refine lp_c0 (fun i => (nI s, nI N, nI (cnt (fun r => WB (σ.2 712) N r) i), nI (cnt (fun r => WB (σ.2 712) N r ∧ ¬ σ.2 800 (16 * r + s) = 0) i), sm (suF σ N s) i, nI i, σ)) 4 rfl ?_ ?_
  · intro kb
    dsimp only
    unfold wpBI_X6_recallSum_12
    refine pk_le 4 4 (fun _ => ⟨v, ?_⟩) (fun z => absurd z (Nat.lt_irrefl 4))
    dsimp only
    rw [nI_clamp (by omega)]
    have l1 := cnt_le (fun r => WB (σ.2 712) N r) 4
    have l2 := cnt_le (fun r => WB (σ.2 712) N r ∧ ¬ σ.2 800 (16 * r + s) = 0) 4
    have no : ¬ rk σ N s → wpI_X6_recallSum_106 (nI s) (pA σ 901 s (su σ N s)) post := by
      intro z
      rw [bz_f z] at h
      refine ⟨v, ?_⟩
      rw [nI_clamp (by omega), nb0]
      exact h
    have yes : rk σ N s → wpI_X6_recallSum_107 (nI s) 1 (pA σ 901 s (su σ N s)) post := by
      intro z
      rw [bz_t z] at h
      refine ⟨v, ?_⟩
      rw [nI_clamp (by omega), nb1]
      exact h
    refine I_isInBy (σ := pA σ 901 s (su σ N s)) h5 hN hs (bz_br (fun q => no (fun c => q ⟨c.1, c.2.1⟩)) (fun q => pk_le _ 0 (fun q2 => no (fun c => ?_)) (fun q2 => ⟨fun q3 => no (fun c => q3 ?_), fun q3 => yes ⟨q.1, q.2, ?_, ?_⟩⟩)))
    · obtain ⟨r, hr, c3⟩ := c.2.2.1
      exact cnt_z (p := fun r => WB (σ.2 712) N r) (n := 4) (by omega) r hr c3
    · exact congrArg nI (cnt_c (fun r hr => ⟨fun z => z.1, fun z => ⟨z, c.2.2.2 r hr z⟩⟩))
    · refine Classical.byContradiction (fun c => ?_)
      have := cnt_0 (p := fun r => WB (σ.2 712) N r) (n := 4) (fun r hr z => c ⟨r, hr, z⟩)
      omega
    · have q4 := (nI_eq (by omega) (by omega)).mp q3
      exact fun r hr z => (cnt_eqi (p := fun r => WB (σ.2 712) N r ∧ ¬ σ.2 800 (16 * r + s) = 0) (q := fun r => WB (σ.2 712) N r) (fun i _ z => z.1) q4 r hr z).2
  · intro i kb hi hk
    dsimp only
    unfold wpBI_X6_recallSum_12 wpI_X6_recallSum_62
    dsimp only
    refine pk_le 4 i (fun z => absurd z (by omega)) (fun _ => I_isWholeBy ?_)
    rw [bz_c (WB_wh h5 hN hi)]
    refine bz_br (fun q => kb_eq hk ?_) (fun q => I_hasDown ?_)
    · rw [cnt_f (p := fun r => WB (σ.2 712) N r) q, cnt_f (p := fun r => WB (σ.2 712) N r ∧ ¬ σ.2 800 (16 * r + s) = 0) (fun c => q c.1), nI_1]
      show _ = (nI s, nI N, _, _, sm (suF σ N s) i + suF σ N s i, _, _)
      rw [show suF σ N s i = 0 from ci_f (fun c => q c.1), Int32.add_zero]
    · rw [bz_c (DN_n hi hs)]
      refine bz_br (fun q2 => kb_eq hk ?_) (fun q2 => I_totalOf hi hs (kb_eq hk ?_))
      · rw [cnt_t (p := fun r => WB (σ.2 712) N r) q, cnt_f (p := fun r => WB (σ.2 712) N r ∧ ¬ σ.2 800 (16 * r + s) = 0) (fun c => q2 c.2), nI_1, nI_1]
        show _ = (nI s, nI N, _, _, sm (suF σ N s) i + suF σ N s i, _, _)
        rw [show suF σ N s i = 0 from ci_f (fun c => q2 c.2), Int32.add_zero]
      · rw [cnt_t (p := fun r => WB (σ.2 712) N r) q, cnt_t (p := fun r => WB (σ.2 712) N r ∧ ¬ σ.2 800 (16 * r + s) = 0) ⟨q, q2⟩, nI_1, nI_1, nI_1]
        show _ = (nI s, nI N, _, _, sm (suF σ N s) i + suF σ N s i, _, _)
        rw [show suF σ N s i = σ.2 801 (16 * i + s) from ci_t ⟨q, q2⟩]
theorem I_manyBelow {σ : St} {x : Int32} {post : Int32 → St → Prop} (h : post (nI (cnt (fun o => ¬ σ.2 900 o = 0 ∧ σ.2 901 o < x) 16)) σ) : wpI_X6_manyBelow x σ post := by
  show wpI_X6_manyBelow_4 x 0 0 σ post
  refine lp_c0 (fun i => (x, nI (cnt (fun o => ¬ σ.2 900 o = 0 ∧ σ.2 901 o < x) i), nI i, σ)) 16 rfl ?_ ?_
  · intro kb
    dsimp only
    unfold wpBI_X6_manyBelow_4
    exact pk_le 16 16 (fun _ => h) (fun z => absurd z (Nat.lt_irrefl 16))
  · intro i kb hi hk
    dsimp only
    unfold wpBI_X6_manyBelow_4 wpI_X6_manyBelow_32
    dsimp only
    have v : vp_in (nI i) 16 := vp_in_nI hi (by omega)
    rw [nI_clamp (by omega)]
    refine pk_le 16 i (fun z => absurd z (by omega)) (fun _ => ⟨v, fun z => kb_eq hk ?_, fun z => ⟨v, fun z2 => kb_eq hk ?_, fun z2 => kb_eq hk ?_⟩⟩)
    · rw [cnt_f (p := fun o => ¬ σ.2 900 o = 0 ∧ σ.2 901 o < x) (fun c => c.1 z), nI_1]
    · rw [cnt_f (p := fun o => ¬ σ.2 900 o = 0 ∧ σ.2 901 o < x) (fun c => absurd z2 (Int32.not_le.mpr c.2)), nI_1]
    · rw [cnt_t (p := fun o => ¬ σ.2 900 o = 0 ∧ σ.2 901 o < x) ⟨z, Int32.not_le.mp z2⟩, nI_1, nI_1]
noncomputable def rc2 (σ : St) (N i : Nat) : St := pC (pC σ 901 (mp (σ.2 901) 0 i (fun s _ => su σ N s))) 900 (mp (σ.2 900) 0 i (fun s _ => bz (rk σ N s)))
noncomputable def rc3 (σ : St) (N i : Nat) : St := pC (rc2 σ N 16) 902 (mp (σ.2 902) 0 i (fun s _ => rv σ N s))
theorem I_recall {σ : St} {n N : Nat} {el : Nat → Int32} {post : St → Prop} (h5 : RE5 n el (σ.2 712) (σ.2 711)) (hN : N ≤ n) (h : post (rc3 σ N 16)) : wpI_X6_recall (nI N) σ post := by
  have n20 := h5.le
  show wpI_X6_recall_2 (nI N) 0 σ post
  refine lp_c0 (fun i => (nI N, nI i, rc2 σ N i)) 16 ?_ ?_ ?_
  · unfold rc2
    rw [mp_0, mp_0, nI_0, show pC σ 901 (σ.2 901) = σ from pC_self, show pC σ 900 (σ.2 900) = σ from pC_self]
  · intro kb
    dsimp only
    unfold wpBI_X6_recall_2
    refine pk_le 16 16 (fun _ => ?_) (fun z => absurd z (Nat.lt_irrefl 16))
    refine lp_c0 (fun i => (nI i, rc3 σ N i)) 16 ?_ ?_ ?_
    · unfold rc3
      rw [mp_0, nI_0, show pC (rc2 σ N 16) 902 (σ.2 902) = rc2 σ N 16 from pC_self (σ := rc2 σ N 16)]
    · intro kb
      dsimp only
      unfold wpBI_X6_recall_23
      exact pk_le 16 16 (fun _ => h) (fun z => absurd z (Nat.lt_irrefl 16))
    · intro i kb hi hk
      dsimp only
      unfold wpBI_X6_recall_23
      have v : vp_in (nI i) 16 := vp_in_nI hi (by omega)
      have e0 : ∀ o, o < 16 → (rc3 σ N i).2 900 o = bz (rk σ N o) := fun o ho => mp_in (f := σ.2 900) (F := fun s _ => bz (rk σ N s)) (Nat.zero_le _) ho
      have e1 : ∀ o, o < 16 → (rc3 σ N i).2 901 o = su σ N o := fun o ho => mp_in (f := σ.2 901) (F := fun s _ => su σ N s) (Nat.zero_le _) ho
      have fin : ∀ x : Int32, x = rv σ N i → wpI_X6_recall_59 (fun x3 σ => kb (x3, σ)) (nI i) (nI i) x (rc3 σ N i) post := by
        intro x hx
        refine ⟨v, kb_eq hk ?_⟩
        rw [nI_1, nI_clamp (by omega), hx]
        show (nI (i + 1), pA (pC (rc2 σ N 16) 902 (mp (σ.2 902) 0 i (fun s _ => rv σ N s))) 902 i (rv σ N i)) = _
        rw [pA_same, mp_s (Nat.zero_le _) rfl]
        rfl
      rw [nI_clamp (by omega), e0 i hi, e1 i hi]
      refine pk_le 16 i (fun z => absurd z (by omega)) (fun _ => ⟨v, bz_br (fun q => fin _ (ci_f q).symm) (fun q => ⟨v, I_manyBelow (fin _ ?_)⟩)⟩)
      have ec : cnt (fun o => ¬ (rc3 σ N i).2 900 o = 0 ∧ (rc3 σ N i).2 901 o < su σ N i) 16 = cnt (fun o => rk σ N o ∧ su σ N o < su σ N i) 16 := by
        refine cnt_c (fun o ho => ?_)
        rw [e0 o ho, e1 o ho]
        exact ⟨fun z => ⟨bz_n z.1, z.2⟩, fun z => ⟨by rw [bz_t z.1]; decide, z.2⟩⟩
      rw [ec]
      unfold rv
      rw [ci_t q, show (1 : Int32) = nI 1 from rfl, nI_add]
  · intro i kb hi hk
    dsimp only
    unfold wpBI_X6_recall_2
    refine pk_le 16 i (fun z => absurd z (by omega)) (fun _ => I_recallSum (σ := rc2 σ N i) h5 hN hi (kb_eq hk ?_))
    rw [nI_1]
    show (nI N, nI (i + 1), pA (pA (pC (pC σ 901 (mp (σ.2 901) 0 i (fun s _ => su σ N s))) 900 (mp (σ.2 900) 0 i (fun s _ => bz (rk σ N s)))) 901 i (su σ N i)) 900 i (bz (rk σ N i))) = _
    rw [pA_ne (by decide), pA_same, pA_same, mp_s (Nat.zero_le _) rfl, mp_s (Nat.zero_le _) rfl]
    rfl
theorem I_isRankedA {σ : St} {x : Int32} {post : Int32 → St → Prop} (h : post (bz (vp_in x 16 ∧ ¬ σ.2 900 x.toNatClampNeg = 0)) σ) : wpI_X6_isRanked x σ post := by
  refine I_in (bz_br (fun q => ⟨.inl rfl, ?_⟩) (fun q => ?_))
  · rw [bz_f (fun c => q ((in_vp (by decide)).mpr c.1))] at h
    exact h
  · have v := (in_vp (n := 16) (by decide)).mp q
    refine ⟨v, fun z => ⟨.inl rfl, ?_⟩, fun z => ⟨.inr rfl, ?_⟩⟩
    · rw [bz_f (fun c => c.2 z)] at h
      exact h
    · rw [bz_t ⟨v, z⟩] at h
      exact h
theorem rc_900 {σ : St} {N j : Nat} (hj : j < 16) : (rc3 σ N 16).2 900 j = bz (rk σ N j) := mp_in (f := σ.2 900) (F := fun s _ => bz (rk σ N s)) (Nat.zero_le _) hj
theorem rc_901 {σ : St} {N j : Nat} (hj : j < 16) : (rc3 σ N 16).2 901 j = su σ N j := mp_in (f := σ.2 901) (F := fun s _ => su σ N s) (Nat.zero_le _) hj
theorem rc_902 {σ : St} {N j : Nat} (hj : j < 16) : (rc3 σ N 16).2 902 j = rv σ N j := mp_in (f := σ.2 902) (F := fun s _ => rv σ N s) (Nat.zero_le _) hj

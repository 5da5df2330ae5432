/-! ===== close: the points ===== -/
def ptV (P : Nat) : Int32 := if P ≤ 16 then pointsF (P - 1) else 0
theorem I_pointsOfPlace {σ : St} {P : Nat} {post : Int32 → St → Prop} (h1 : 1 ≤ P) (h2 : P ≤ 1000) (h : post (ptV P) σ) : wpI_X10_pointsOfPlace (nI P) σ post := by
  unfold ptV at h
  refine I_in (bz_br (fun q => ?_) (fun q => ?_))
  · rw [if_neg (fun c => q ⟨nI_le (a := 1) h1 (by omega), nI_le (b := 16) c (by omega)⟩)] at h
    exact h
  · obtain ⟨a, ha1, ha2, e⟩ := rng (l := 1) (h := 16) rfl rfl (by omega) (by omega) q
    have := (nI_eq (by omega) (by omega)).mp e
    rw [nI_s1 h1, nI_clamp (by omega)]
    rw [if_pos (by omega)] at h
    exact ⟨vp_in_nI (by omega) (by omega), h⟩
theorem M_pointsOf {τ : St} {P : Nat} {post : Int32 → St → Prop} (h1 : 1 ≤ P) (h2 : P ≤ 1000) (h : post (ptV P) τ) : wpM_pointsOf (nI P) τ post := by
  refine And.symm (pk_eq P 1 (fun e => ?_) (fun n1 => And.symm (pk_eq P 2 (fun e => ?_) (fun n2 => And.symm (pk_eq P 3 (fun e => ?_) (fun n3 => And.symm (pk_eq P 4 (fun e => ?_) (fun n4 => And.symm (pk_eq P 5 (fun e => ?_) (fun n5 => pk_le P 15 (fun q => ?_) (fun q => ?_)))))))))))
  · subst e; exact h
  · subst e; exact h
  · subst e; exact h
  · subst e; exact h
  · subst e; exact h
  · rcases (by omega : P = 6 ∨ P = 7 ∨ P = 8 ∨ P = 9 ∨ P = 10 ∨ P = 11 ∨ P = 12 ∨ P = 13 ∨ P = 14 ∨ P = 15) with rfl | rfl | rfl | rfl | rfl | rfl | rfl | rfl | rfl | rfl <;> exact h
  · have e : ptV P = 0 := by
      unfold ptV
      by_cases c : P ≤ 16
      · rw [show P = 16 by omega]
        rfl
      · exact if_neg c
    rw [e] at h
    exact h
theorem I_sharedPoints {σ : St} {R L : Nat} {post : Int32 → St → Prop} (hR1 : 1 ≤ R) (hR : R ≤ 20) (hL1 : 1 ≤ L) (hL : L ≤ 20) (h : post (sm (fun i => ptV (R + i)) L / nI L) σ) : wpI_X10_sharedPoints (nI R) (nI L) σ post := by
  show wpI_X10_sharedPoints_4 (nI R) (nI L) 0 0 σ post
  refine lp_c0 (fun i => (nI R, nI L, sm (fun i => ptV (R + i)) i, nI i, σ)) L rfl ?_ ?_
  · intro kb
    dsimp only
    unfold wpBI_X10_sharedPoints_4
    exact pk_le L L (fun _ => pk_le L 0 (fun z => absurd z (by omega)) (fun _ => ⟨nI_ne0 (by omega) (by omega), h⟩)) (fun z => absurd z (Nat.lt_irrefl L))
  · intro i kb hi hk
    dsimp only
    unfold wpBI_X10_sharedPoints_4
    rw [nI_add]
    refine pk_le L i (fun z => absurd z (by omega)) (fun _ => I_pointsOfPlace (by omega) (by omega) (kb_eq hk ?_))
    rw [nI_1]
    rfl
def RCp (σ : St) (N : Nat) (T : St) : Prop := (∀ j, j < 16 → T.2 900 j = bz (rk σ N j)) ∧ ∀ j, j < 16 → T.2 902 j = rv σ N j
theorem I_rankG {σ T : St} {N j : Nat} {post : Int32 → St → Prop} (hT : RCp σ N T) (hj : j < 16) (h : post (rv σ N j) T) : wpI_X6_rankOf (nI j) T post := by
  have v : vp_in (nI j) 16 := vp_in_nI hj (by omega)
  refine I_isRankedA ?_
  rw [nI_clamp (by omega), hT.1 j hj]
  refine bz_br (fun q => ?_) (fun q => ⟨v, ?_⟩)
  · unfold rv at h
    rw [ci_f (fun c => q ⟨v, by rw [bz_t c]; decide⟩)] at h
    exact h
  · rw [hT.2 j hj]
    exact h
theorem I_manyAt {σ T : St} {N : Nat} {x : Int32} {post : Int32 → St → Prop} (hT : RCp σ N T) (h : post (nI (cnt (fun o => rv σ N o = x) 16)) T) : wpI_X6_manyAt x T post := by
  show wpI_X6_manyAt_4 x 0 0 T post
  refine lp_c0 (fun i => (x, nI (cnt (fun o => rv σ N o = x) i), nI i, T)) 16 rfl ?_ ?_
  · intro kb
    dsimp only
    unfold wpBI_X6_manyAt_4
    exact pk_le 16 16 (fun _ => h) (fun z => absurd z (Nat.lt_irrefl 16))
  · intro i kb hi hk
    dsimp only
    unfold wpBI_X6_manyAt_4 wpI_X6_manyAt_22
    dsimp only
    refine pk_le 16 i (fun z => absurd z (by omega)) (fun _ => I_rankG hT hi ⟨fun z => kb_eq hk ?_, fun z => kb_eq hk ?_⟩)
    · rw [cnt_f (p := fun o => rv σ N o = x) z, nI_1]
    · rw [cnt_t (p := fun o => rv σ N o = x) z, nI_1, nI_1]
noncomputable def Rn (σ : St) (N s : Nat) : Nat := 1 + cnt (fun o => rk σ N o ∧ su σ N o < su σ N s) 16
noncomputable def Ln (σ : St) (N s : Nat) : Nat := cnt (fun o => rv σ N o = nI (Rn σ N s)) 16
noncomputable def gv (σ : St) (N : Nat) (l5 : Int32) (s : Nat) : Int32 := if l5 = 1 then sm (fun i => ptV (Rn σ N s + i)) (Ln σ N s) / nI (Ln σ N s) else ptV (Rn σ N s)
noncomputable def pf (σ : St) (N : Nat) (l5 : Int32) (s : Nat) (v : Int32) : Int32 := ci (rk σ N s) (v + gv σ N l5 s) v
theorem rv_k {σ : St} {N s : Nat} (k : rk σ N s) : rv σ N s = nI (Rn σ N s) := ci_t k
theorem rv_n {σ : St} {N s : Nat} (k : ¬ rk σ N s) : rv σ N s = -1 := ci_f k
theorem Rn_b {σ : St} {N s : Nat} : 1 ≤ Rn σ N s ∧ Rn σ N s ≤ 17 := by
  have := cnt_le (fun o => rk σ N o ∧ su σ N o < su σ N s) 16
  unfold Rn
  omega
theorem Ln_b {σ : St} {N s : Nat} (hs : s < 16) (k : rk σ N s) : 1 ≤ Ln σ N s ∧ Ln σ N s ≤ 16 := by
  have a := cnt_le (fun o => rv σ N o = nI (Rn σ N s)) 16
  refine ⟨Nat.one_le_iff_ne_zero.mpr (fun z => ?_), a⟩
  exact cnt_z (p := fun o => rv σ N o = nI (Rn σ N s)) (n := 16) z s hs (rv_k k)
theorem I_givePoints {σ T : St} {N n : Nat} {post : Int32 → St → Prop} (hT : RCp σ N T) (hn16 : n ≤ 16) (hn : T.1 300 = nI n) (h : post (nI (cnt (fun s => rk σ N s) n)) (pC T 305 (mp (T.2 305) 0 n (pf σ N (T.2 501 5))))) : wpI_X10_givePoints T post := by
  have key : ∀ sh : Int32, (sh = 0 ∧ ¬ T.2 501 5 = 1) ∨ (¬ sh = 0 ∧ T.2 501 5 = 1) → wpI_X10_givePoints_22 sh 0 0 T post := by
    intro sh hsh
    refine lp_c0 (fun i => (sh, nI (cnt (fun s => rk σ N s) i), nI i, pC T 305 (mp (T.2 305) 0 i (pf σ N (T.2 501 5))))) n ?_ ?_ ?_
    · rw [mp_0, pC_self, nI_0]
      rfl
    · intro kb
      dsimp only
      unfold wpBI_X10_givePoints_22
      exact pk_le n n (fun _ => h) (fun z => absurd z (Nat.lt_irrefl n)) hn
    · intro i kb hi hk
      dsimp only
      unfold wpBI_X10_givePoints_22 wpI_X10_givePoints_95
      dsimp only
      have hi16 : i < 16 := by omega
      have v : vp_in (nI i) 16 := vp_in_nI hi16 (by omega)
      have hT' : RCp σ N (pC T 305 (mp (T.2 305) 0 i (pf σ N (T.2 501 5)))) := hT
      refine pk_le n i (fun z => absurd z (by omega)) (fun _ => I_isRankedA ?_) hn
      rw [nI_clamp (by omega), show (pC T 305 (mp (T.2 305) 0 i (pf σ N (T.2 501 5)))).2 900 i = bz (rk σ N i) from hT.1 i hi16]
      have e5 : (pC T 305 (mp (T.2 305) 0 i (pf σ N (T.2 501 5)))).2 305 i = T.2 305 i := mp_i
      refine bz_br (fun q => kb_eq hk ?_) (fun q => I_rankG hT' hi16 ⟨v, ?_⟩)
      · have nk : ¬ rk σ N i := fun c => q ⟨v, by rw [bz_t c]; decide⟩
        rw [cnt_f (p := fun s => rk σ N s) nk, nI_1, ← mp_s (Nat.zero_le _) (show T.2 305 i = pf σ N (T.2 501 5) i (T.2 305 i) from (ci_f nk).symm)]
        have : upd (mp (T.2 305) 0 i (pf σ N (T.2 501 5))) i (T.2 305 i) = mp (T.2 305) 0 i (pf σ N (T.2 501 5)) := by
          funext j
          unfold upd
          by_cases e : j = i
          · subst e
            rw [if_pos rfl, mp_i]
          · rw [if_neg e]
        rw [this]
      · have kk : rk σ N i := bz_n q.2
        have hR := Rn_b (σ := σ) (N := N) (s := i)
        have hL := Ln_b hi16 kk
        have fin : ∀ x : Int32, x = gv σ N (T.2 501 5) i → wpI_X10_givePoints_90 (fun x1 x2 x3 σ => kb (x1, x2, x3, σ)) sh (nI (cnt (fun s => rk σ N s) i)) (nI i) (nI i) (T.2 305 i) x (pC T 305 (mp (T.2 305) 0 i (pf σ N (T.2 501 5)))) post := by
          intro x hx
          refine ⟨v, ?_⟩
          unfold wpI_X10_givePoints_95
          dsimp only
          refine kb_eq hk ?_
          rw [nI_clamp (by omega), pA_same, nI_1, nI_1, cnt_t (p := fun s => rk σ N s) kk, mp_s (Nat.zero_le _) (show T.2 305 i + x = pf σ N (T.2 501 5) i (T.2 305 i) by rw [hx]; exact (ci_t kk).symm)]
        rw [rv_k kk, e5]
        rcases hsh with ⟨s0, l5⟩ | ⟨s0, l5⟩
        · refine ⟨fun _ => I_pointsOfPlace hR.1 (by omega) (fin _ ?_), fun z => absurd s0 z⟩
          exact (if_neg l5).symm
        · refine ⟨fun z => absurd z s0, fun _ => I_manyAt hT' (I_sharedPoints (L := Ln σ N i) hR.1 (by omega) hL.1 (by omega) (fin _ ?_))⟩
          exact (if_pos l5).symm
  refine I_in (bz_br (fun z => absurd (by decide) z) (fun _ => ⟨vp_in_iff.mpr (by decide), fun z => key 0 (Or.inl ⟨rfl, z⟩), fun z => key 1 (Or.inr ⟨by decide, z⟩)⟩))
theorem rv_lt {σ τ : St} (h : Rel σ τ) {N n o R : Nat} (hn : τ.1 13 = nI n) (hn16 : n ≤ 16) (ho : o < 16) (e : rv σ N o = nI R) (hR : R ≤ 1000) : o < n := by
  by_cases k : rk σ N o
  · exact rk_lt h hn hn16 ho k
  · rw [rv_n k] at e
    exact absurd e.symm (nI_m1 (by omega))
theorem M_close67 {σ τ : St} {N n ne : Nat} {post : Int32 → St → Prop} (h : Rel σ τ) (h5 : RE5 ne (τ.2 38) (σ.2 712) (σ.2 711)) (hN : N ≤ ne) (hev : τ.1 39 = nI N) (hn16 : n ≤ 16) (hn : τ.1 13 = nI n) (hp : wpM_clears (pI (pC τ 18 (mp (τ.2 18) 0 n (pf σ N (τ.2 19 5)))) 26 0) (fun σ2 => post (nI (cnt (fun s => rk σ N s) n)) (pI σ2 40 (σ2.1 40 + 1)))) : wpM_close_67 0 0 τ post := by
  have f18 : σ.2 305 = τ.2 18 := h.a0.a (by decide)
  refine lp_c0 (fun i => (nI (cnt (fun s => rk σ N s) i), nI i, pC τ 18 (mp (τ.2 18) 0 i (pf σ N (τ.2 19 5))))) n ?_ ?_ ?_
  · rw [mp_0, pC_self, nI_0]
    rfl
  · intro kb
    dsimp only
    unfold wpBM_close_67
    exact pk_le n n (fun _ => hp) (fun z => absurd z (Nat.lt_irrefl n)) hn
  · intro i kb hi hk
    dsimp only
    unfold wpBM_close_67 wpM_close_209
    dsimp only
    have hi16 : i < 16 := by omega
    have v : vp_in (nI i) 16 := vp_in_nI hi16 (by omega)
    have hR : Rel (pC σ 305 (mp (σ.2 305) 0 i (pf σ N (τ.2 19 5)))) (pC τ 18 (mp (τ.2 18) 0 i (pf σ N (τ.2 19 5)))) := ⟨h.a0.vC (k := 305) (k' := 18) (by decide) (by rw [f18]), h.2⟩
    have rve : ∀ o, rv (pC σ 305 (mp (σ.2 305) 0 i (pf σ N (τ.2 19 5)))) N o = rv σ N o := fun _ => rfl
    refine pk_le n i (fun z => absurd z (by omega)) (fun _ => ?_) hn
    rw [show (pC τ 18 (mp (τ.2 18) 0 i (pf σ N (τ.2 19 5)))).1 39 = nI N from hev]
    refine M_rankOf hR h5 hN ?_
    rw [ci_t v, nI_clamp (by omega), rve]
    by_cases kk : rk σ N i
    · rw [rv_k kk]
      have hRb := Rn_b (σ := σ) (N := N) (s := i)
      have hL := Ln_b hi16 kk
      refine ⟨fun _ => ?_, fun z => absurd z (nI_m1 (by omega))⟩
      -- how many are alike
      have eL : Ln σ N i = cnt (fun o => rv σ N o = nI (Rn σ N i)) n := by
        have := cnt_grow (p := fun o => rv σ N o = nI (Rn σ N i)) (n := n) (16 - n) (fun o h1 h2 z => by
          have := rv_lt h hn hn16 (by omega) z (by omega)
          omega)
        rw [show n + (16 - n) = 16 by omega] at this
        exact this
      refine lp_c0 (fun o => (nI (cnt (fun s => rk σ N s) i) + 1, nI i, nI (Rn σ N i), nI (cnt (fun o => rv σ N o = nI (Rn σ N i)) o), nI o, pC τ 18 (mp (τ.2 18) 0 i (pf σ N (τ.2 19 5))))) n rfl ?_ ?_
      · intro kb2
        dsimp only
        unfold wpBM_close_104
        refine pk_le n n (fun _ => ?_) (fun z => absurd z (Nat.lt_irrefl n)) hn
        rw [← eL]
        -- their places' points
        refine lp_c0 (fun p => (nI (cnt (fun s => rk σ N s) i) + 1, nI i, nI (Rn σ N i), nI (Ln σ N i), sm (fun i' => ptV (Rn σ N i + i')) p, nI (Rn σ N i + p), pC τ 18 (mp (τ.2 18) 0 i (pf σ N (τ.2 19 5))))) (Ln σ N i) rfl ?_ ?_
        · intro kb3
          dsimp only
          unfold wpBM_close_151
          rw [nI_add, nI_clamp (by omega), show (pC τ 18 (mp (τ.2 18) 0 i (pf σ N (τ.2 19 5)))).2 18 i = τ.2 18 i from mp_i]
          have fin : ∀ x : Int32, x = gv σ N (τ.2 19 5) i → wpM_close_207 (fun x2 x3 σ => kb (x2, x3, σ)) (nI (cnt (fun s => rk σ N s) i) + 1) (nI i) (nI i) (τ.2 18 i) x (pC τ 18 (mp (τ.2 18) 0 i (pf σ N (τ.2 19 5)))) post := by
            intro x hx
            refine ⟨v, ?_⟩
            unfold wpM_close_209
            dsimp only
            refine kb_eq hk ?_
            rw [nI_clamp (by omega), pA_same, nI_1, nI_1, cnt_t (p := fun s => rk σ N s) kk, mp_s (Nat.zero_le _) (show τ.2 18 i + x = pf σ N (τ.2 19 5) i (τ.2 18 i) by rw [hx]; exact (ci_t kk).symm)]
          refine pk_le (Rn σ N i + Ln σ N i) (Rn σ N i + Ln σ N i) (fun _ => ⟨v, vp_in_iff.mpr (by decide), fun z => M_pointsOf hRb.1 (by omega) (fin _ (if_neg z).symm), fun z => ⟨nI_ne0 (by omega) (by omega), fin _ (if_pos z).symm⟩⟩) (fun z => absurd z (Nat.lt_irrefl _))
        · intro p kb3 hp3 hk3
          dsimp only
          unfold wpBM_close_151
          rw [nI_add]
          refine pk_le (Rn σ N i + Ln σ N i) (Rn σ N i + p) (fun z => absurd z (by omega)) (fun _ => M_pointsOf (by omega) (by omega) (kb_eq hk3 ?_))
          rw [nI_1 (Rn σ N i + p)]
          rfl
      · intro o kb2 ho hk2
        dsimp only
        unfold wpBM_close_104 wpM_close_135
        dsimp only
        refine pk_le n o (fun z => absurd z (by omega)) (fun _ => ?_) hn
        rw [show (pC τ 18 (mp (τ.2 18) 0 i (pf σ N (τ.2 19 5)))).1 39 = nI N from hev]
        refine M_rankOf hR h5 hN ?_
        rw [ci_t (vp_in_nI (by omega) (by omega)), nI_clamp (by omega), rve]
        refine ⟨fun z => kb_eq hk2 ?_, fun z => kb_eq hk2 ?_⟩
        · rw [cnt_f (p := fun o => rv σ N o = nI (Rn σ N i)) z, nI_1 o, Int32.add_zero]
        · rw [cnt_t (p := fun o => rv σ N o = nI (Rn σ N i)) z, nI_1 o, nI_1 (cnt (fun o => rv σ N o = nI (Rn σ N i)) o)]
    · rw [rv_n kk]
      refine ⟨fun z => absurd rfl z, fun _ => kb_eq hk ?_⟩
      rw [cnt_f (p := fun s => rk σ N s) kk, nI_1, ← mp_s (Nat.zero_le _) (show τ.2 18 i = pf σ N (τ.2 19 5) i (τ.2 18 i) from (ci_f kk).symm)]
      have : upd (mp (τ.2 18) 0 i (pf σ N (τ.2 19 5))) i (τ.2 18 i) = mp (τ.2 18) 0 i (pf σ N (τ.2 19 5)) := by
        funext j
        unfold upd
        by_cases e : j = i
        · subst e
          rw [if_pos rfl, mp_i]
        · rw [if_neg e]
      rw [this]
theorem pI_self {σ : St} {k : Nat} : pI σ k (σ.1 k) = σ := by
  refine Prod.ext (funext fun j => ?_) rfl
  show (pI σ k (σ.1 k)).1 j = σ.1 j
  rw [pI_1]
  by_cases e : j = k
  · rw [if_pos e, e]
  · rw [if_neg e]
theorem T_close {σ τ : St} (h : Rel σ τ) : wpI_X10_close σ (fun r σ' => wpM_close τ (fun r' τ' => r = r' ∧ Rel σ' τ')) := by
  have e26 : σ.1 700 = τ.1 26 := h.a0.i (by decide)
  have e13 : σ.1 300 = τ.1 13 := h.a0.i (by decide)
  have e40 : σ.1 7 = τ.1 40 := h.a0.i (by decide)
  have f18 : σ.2 305 = τ.2 18 := h.a0.a (by decide)
  have f19 : σ.2 501 = τ.2 19 := h.a0.a (by decide)
  obtain ⟨n, hn16, hn⟩ := h.sleds
  obtain ⟨N, hN, hNI, h5⟩ := h.ev
  obtain ⟨m, hm, hm4, hst⟩ := h.a8.b1
  have ew : σ.1 706 = 0 ↔ ¬ ∃ r, r < m ∧ τ.2 28 r = 2 := by
    rw [h.a8.b5.1]
    have l := cnt_le (fun r => τ.2 28 r = 2) 4
    constructor
    · rintro z ⟨r, hr, hr2⟩
      have := (nI_eq (b := 0) (by omega) (by omega)).mp z
      exact cnt_z (p := fun r => τ.2 28 r = 2) (n := 4) this r (by omega) hr2
    · intro z
      rw [cnt_0 (p := fun r => τ.2 28 r = 2) (fun r hr hr2 => z ⟨r, Nat.lt_of_not_le (fun c => ?_), hr2⟩)]
      · rfl
      · rw [(hst r hr).2.1 c] at hr2
        exact absurd hr2 (by decide)
  have hM : ∀ post : Int32 → St → Prop, (¬ τ.1 26 = 0 ∧ σ.1 702 = -1 ∧ (∃ r, r < m ∧ τ.2 28 r = 2) → wpM_close_67 0 0 (pI τ 0 0) post) → (¬ (¬ τ.1 26 = 0 ∧ σ.1 702 = -1 ∧ ∃ r, r < m ∧ τ.2 28 r = 2) → post (-1) (pI τ 0 0)) → wpM_close τ post := by
    intro post hy hno
    show wpM_close_9 0 0 (pI τ 0 0) post
    refine lp_c0 (fun i => (bz (∃ r, r < i ∧ τ.2 28 r = 2), nI i, pI τ 0 0)) m ?_ ?_ ?_
    · rw [bz_f (fun ⟨r, hr, _⟩ => absurd hr (by omega)), nI_0]
    · intro kb
      dsimp only
      unfold wpBM_close_9
      refine pk_le m m (fun _ => ⟨fun z => hno (fun c => c.1 z), fun q1 => M_isOn (h.th 0) (bz_rb (fun z => hno (fun c => z c.2.1)) (fun q2 => bz_rb (fun q3 => hy ⟨q1, Classical.not_not.mp q2, q3⟩) (fun z => hno (fun c => z c.2.2))))⟩) (fun z => absurd z (Nat.lt_irrefl m)) hm
    · intro i kb hi hk
      dsimp only
      unfold wpBM_close_9 wpM_close_31 wpM_close_36
      dsimp only
      rw [nI_clamp (by omega)]
      refine pk_le m i (fun z => absurd z (by omega)) (fun _ => bz_rb (fun q => kb_eq hk ?_) (fun q => ⟨vp_in_nI (by omega) (by omega), fun z => kb_eq hk ?_, fun z => kb_eq hk ?_⟩)) hm
      · rw [nI_1, bz_t (p := ∃ r, r < i + 1 ∧ τ.2 28 r = 2) (q.imp (fun r hr => ⟨by omega, hr.2⟩))]
      · rw [nI_1, bz_f (p := ∃ r, r < i + 1 ∧ τ.2 28 r = 2)]
        rintro ⟨r, hr, hr2⟩
        by_cases e : r = i
        · subst e
          exact z hr2
        · exact q ⟨r, by omega, hr2⟩
      · rw [nI_1, bz_t (p := ∃ r, r < i + 1 ∧ τ.2 28 r = 2) ⟨i, by omega, z⟩]
  have hno : ¬ (¬ τ.1 26 = 0 ∧ σ.1 702 = -1 ∧ ∃ r, r < m ∧ τ.2 28 r = 2) → wpM_close τ (fun r' τ' => (-1 : Int32) = r' ∧ Rel σ τ') := fun z => hM _ (fun c => absurd c z) (fun _ => ⟨rfl, h.th 0⟩)
  refine ⟨fun z => hno (fun c => c.1 (e26 ▸ z)), fun q1 => ⟨fun z => hno (fun c => z c.2.1), fun q2 => ⟨fun q3 => ?_, fun z => hno (fun c => ew.mp z c.2.2)⟩⟩⟩
  rw [e26] at q1
  have g : ¬ τ.1 26 = 0 ∧ σ.1 702 = -1 ∧ ∃ r, r < m ∧ τ.2 28 r = 2 := ⟨q1, q2, Classical.not_not.mp (fun c => q3 (ew.mpr c))⟩
  rw [hNI]
  have hT : RCp σ N (rc3 σ N 16) := ⟨fun j hj => rc_900 hj, fun j hj => rc_902 hj⟩
  refine I_recall h5 (Nat.le_refl _) (I_givePoints (n := n) hT hn16 (e13.trans hn) (I_forget ?_))
  refine hM _ (fun _ => M_close67 (h.th 0) h5 (Nat.le_refl _) hN hn16 hn (M_clears ⟨rfl, ?_⟩)) (fun z => absurd g z)
  have hR : Rel (pC (rc3 σ N 16) 305 (mp (σ.2 305) 0 n (pf σ N (σ.2 501 5)))) (pC (pI τ 0 0) 18 (mp (τ.2 18) 0 n (pf σ N (τ.2 19 5)))) := ⟨((h.rc N).th 0).a0.vC (k := 305) (k' := 18) (by decide) (by rw [f18, f19]), h.2⟩
  have hC := Rel_clear hR 0 (fun z => absurd rfl z)
  rw [show pI (frI (pC (rc3 σ N 16) 305 (mp (σ.2 305) 0 n (pf σ N (σ.2 501 5))))) 700 0 = frI (pC (rc3 σ N 16) 305 (mp (σ.2 305) 0 n (pf σ N (σ.2 501 5)))) from pI_self (σ := frI (pC (rc3 σ N 16) 305 (mp (σ.2 305) 0 n (pf σ N (σ.2 501 5))))) (k := 700)] at hC
  exact ⟨hC.a0.vI (k := 7) (k' := 40) (by decide) (congrArg (· + 1) e40), hC.2⟩

/-! ===== begin ===== -/
theorem cnt_inj {c : Nat → Prop} {s s' : Nat} (h : c s) (hs : s < s') : cnt c s < cnt c s' := by
  have key : ∀ d : Nat, cnt c (s + 1) ≤ cnt c (s + 1 + d) := by
    intro d
    induction d with
    | zero => exact Nat.le_refl _
    | succ d ih =>
      by_cases q : c (s + 1 + d)
      · rw [← Nat.add_assoc, cnt_t q]; omega
      · rw [← Nat.add_assoc, cnt_f q]; exact ih
  have a := key (s' - (s + 1))
  rw [show s + 1 + (s' - (s + 1)) = s' by omega, cnt_t h] at a
  omega
theorem cnt_nm {c : Nat → Prop} {n : Nat} : ∀ d : Nat, cnt c n ≤ cnt c (n + d)
  | 0 => Nat.le_refl _
  | d + 1 => by
    have := cnt_nm (c := c) (n := n) d
    by_cases q : c (n + d)
    · rw [← Nat.add_assoc, cnt_t q]; omega
    · rw [← Nat.add_assoc, cnt_f q]; exact this
noncomputable def pl (c : Nat → Prop) (f : Nat → Int32) : Nat → Nat → Int32
  | 0 => f
  | i + 1 => ci (c i) (upd (pl c f i) (cnt c i) (nI i)) (pl c f i)
theorem pl_at {c : Nat → Prop} {f : Nat → Int32} : ∀ n s : Nat, s < n → c s → pl c f n (cnt c s) = nI s
  | 0, _, hs, _ => absurd hs (Nat.not_lt_zero _)
  | n + 1, s, hs, h => by
    show ci (c n) (upd (pl c f n) (cnt c n) (nI n)) (pl c f n) (cnt c s) = nI s
    by_cases e : s = n
    · subst e
      rw [ci_t h, pk_us]
    · by_cases q : c n
      · rw [ci_t q, pk_un (by have := cnt_inj h (by omega : s < n); omega)]
        exact pl_at n s (by omega) h
      · rw [ci_f q]
        exact pl_at n s (by omega) h
theorem pl_ex {c : Nat → Prop} : ∀ n k : Nat, k < cnt c n → ∃ s, s < n ∧ c s ∧ cnt c s = k
  | 0, _, hk => absurd hk (Nat.not_lt_zero _)
  | n + 1, k, hk => by
    by_cases q : c n
    · rw [cnt_t q] at hk
      by_cases e : k = cnt c n
      · exact ⟨n, by omega, q, e.symm⟩
      · obtain ⟨s, h1, h2⟩ := pl_ex (c := c) n k (by omega)
        exact ⟨s, by omega, h2⟩
    · rw [cnt_f q] at hk
      obtain ⟨s, h1, h2⟩ := pl_ex (c := c) n k hk
      exact ⟨s, by omega, h2⟩
theorem I_listUpTo {σ : St} {n : Nat} {l : Int32} {post : Int32 → St → Prop} (hn16 : n ≤ 16) (hn : σ.1 300 = nI n) (h : post (nI (cnt (fun s => σ.2 302 s ≤ l) n)) (pC σ 709 (pl (fun s => σ.2 302 s ≤ l) (σ.2 709) n))) : wpI_X5_listUpTo l σ post := by
  show wpI_X5_listUpTo_5 l 0 0 σ post
  refine lp_c0 (fun i => (l, nI (cnt (fun s => σ.2 302 s ≤ l) i), nI i, pC σ 709 (pl (fun s => σ.2 302 s ≤ l) (σ.2 709) i))) n ?_ ?_ ?_
  · show _ = (l, nI 0, nI 0, pC σ 709 (σ.2 709))
    rw [pC_self, nI_0]
  · intro kb
    dsimp only
    unfold wpBI_X5_listUpTo_5
    exact pk_le n n (fun _ => h) (fun z => absurd z (Nat.lt_irrefl n)) hn
  · intro i kb hi hk
    dsimp only
    unfold wpBI_X5_listUpTo_5 wpI_X5_listUpTo_33
    dsimp only
    have l1 := cnt_le (fun s => σ.2 302 s ≤ l) i
    rw [nI_clamp (by omega), nI_clamp (by omega)]
    refine pk_le n i (fun z => absurd z (by omega)) (fun _ => ⟨vp_in_nI (by omega) (by omega), fun z => kb_eq hk ?_, fun z => ⟨vp_in_nI (by omega) (by omega), kb_eq hk ?_⟩⟩) hn
    · have nc : ¬ σ.2 302 i ≤ l := Int32.not_le.mpr z
      rw [cnt_f (p := fun s => σ.2 302 s ≤ l) nc, nI_1]
      show _ = (l, _, _, pC σ 709 (ci (σ.2 302 i ≤ l) _ _))
      rw [ci_f nc]
    · have nc : σ.2 302 i ≤ l := Int32.not_lt.mp z
      rw [cnt_t (p := fun s => σ.2 302 s ≤ l) nc, nI_1, nI_1, pA_same]
      show _ = (l, _, _, pC σ 709 (ci (σ.2 302 i ≤ l) _ _))
      rw [ci_t nc]
theorem M_begin55 {τ : St} {n : Nat} {x : Int32} {post : Int32 → St → Prop} (hn16 : n ≤ 16) (hn : τ.1 13 = nI n) (h : wpM_begin_162 x (nI (cnt (fun s => τ.2 15 s ≤ τ.2 19 0) n)) (pC τ 41 (pl (fun s => τ.2 15 s ≤ τ.2 19 0) (τ.2 41) n)) post) : wpM_begin_55 x 0 0 τ post := by
  refine lp_c0 (fun i => (x, nI (cnt (fun s => τ.2 15 s ≤ τ.2 19 0) i), nI i, pC τ 41 (pl (fun s => τ.2 15 s ≤ τ.2 19 0) (τ.2 41) i))) n ?_ ?_ ?_
  · show _ = (x, nI 0, nI 0, pC τ 41 (τ.2 41))
    rw [pC_self, nI_0]
  · intro kb
    dsimp only
    unfold wpBM_begin_55
    exact pk_le n n (fun _ => h) (fun z => absurd z (Nat.lt_irrefl n)) hn
  · intro i kb hi hk
    dsimp only
    unfold wpBM_begin_55 wpM_begin_91
    dsimp only
    have l1 := cnt_le (fun s => τ.2 15 s ≤ τ.2 19 0) i
    rw [nI_clamp (by omega), nI_clamp (by omega)]
    refine pk_le n i (fun z => absurd z (by omega)) (fun _ => ⟨vp_in_nI (by omega) (by omega), vp_in_iff.mpr (by decide), fun z => ⟨vp_in_nI (by omega) (by omega), kb_eq hk ?_⟩, fun z => kb_eq hk ?_⟩) hn
    · have nc : τ.2 15 i ≤ τ.2 19 0 := z
      rw [cnt_t (p := fun s => τ.2 15 s ≤ τ.2 19 0) nc, nI_1, nI_1, pA_same]
      show _ = (x, _, _, pC τ 41 (ci (τ.2 15 i ≤ τ.2 19 0) _ _))
      rw [ci_t nc]
    · have nc : ¬ τ.2 15 i ≤ τ.2 19 0 := z
      rw [cnt_f (p := fun s => τ.2 15 s ≤ τ.2 19 0) nc, nI_1]
      show _ = (x, _, _, pC τ 41 (ci (τ.2 15 i ≤ τ.2 19 0) _ _))
      rw [ci_f nc]
/-- entered: those of the pool -/
def en (p et : Nat → Int32) : Nat → Nat → Int32
  | 0 => et
  | i + 1 => upd (en p et i) (p i).toNatClampNeg 1
theorem I_enter {σ : St} {M : Nat} {post : St → Prop} (hM : M ≤ 16) (hp : ∀ k, k < M → vp_in (σ.2 709 k) 16) (h : post (pC (pI σ 707 (nI M)) 710 (en (σ.2 709) (σ.2 710) M))) : wpI_X2_enter (nI M) σ post := by
  show wpI_X2_enter_7 (nI M) 0 (pI σ 707 (nI M)) post
  refine lp_c0 (fun i => (nI M, nI i, pC (pI σ 707 (nI M)) 710 (en (σ.2 709) (σ.2 710) i))) M ?_ ?_ ?_
  · show _ = (nI M, nI 0, pC (pI σ 707 (nI M)) 710 (σ.2 710))
    rw [nI_0, show pC (pI σ 707 (nI M)) 710 (σ.2 710) = pI σ 707 (nI M) from pC_self (σ := pI σ 707 (nI M))]
  · intro kb
    dsimp only
    unfold wpBI_X2_enter_7
    exact pk_le M M (fun _ => h) (fun z => absurd z (Nat.lt_irrefl M))
  · intro i kb hi hk
    dsimp only
    unfold wpBI_X2_enter_7
    rw [nI_clamp (by omega)]
    refine pk_le M i (fun z => absurd z (by omega)) (fun _ => ⟨vp_in_nI (by omega) (by omega), hp i hi, kb_eq hk ?_⟩)
    rw [nI_1, nb1, pA_same]
    rfl
theorem M_enter {τ : St} {M : Nat} {x : Int32} {post : St → Prop} (hM : M ≤ 16) (hp : ∀ k, k < M → vp_in (τ.2 41 k) 16) (h : wpM_draws_41 (nI M) x (nI M) 0 (pC (pI τ 30 (nI M)) 32 (en (τ.2 41) (τ.2 32) M)) post) : wpM_draws x (nI M) τ post := by
  show wpM_draws_13 (nI M) x (nI M) 0 (pI τ 30 (nI M)) post
  refine lp_c0 (fun i => (nI M, x, nI M, nI i, pC (pI τ 30 (nI M)) 32 (en (τ.2 41) (τ.2 32) i))) M ?_ ?_ ?_
  · show _ = (nI M, x, nI M, nI 0, pC (pI τ 30 (nI M)) 32 (τ.2 32))
    rw [nI_0, show pC (pI τ 30 (nI M)) 32 (τ.2 32) = pI τ 30 (nI M) from pC_self (σ := pI τ 30 (nI M))]
  · intro kb
    dsimp only
    unfold wpBM_draws_13
    exact pk_le M M (fun _ => h) (fun z => absurd z (Nat.lt_irrefl M))
  · intro i kb hi hk
    dsimp only
    unfold wpBM_draws_13
    rw [nI_clamp (by omega)]
    refine pk_le M i (fun z => absurd z (by omega)) (fun _ => ⟨vp_in_nI (by omega) (by omega), hp i hi, kb_eq hk ?_⟩)
    rw [nI_1, nb1, pA_same]
    rfl
/-! the draw -/
theorem nI_mm {m : Nat} (h : 1 ≤ m) : nI m + (-1) = nI (m - 1) := by
  cases m with
  | zero => omega
  | succ k => rw [pk_m1, Nat.add_sub_cancel]
def nx (x : Int32) : Int32 := x * 1103515245 + 12345
theorem ush_eq (x : Int32) : (Int32.toUInt32 x >>> (Int32.toUInt32 16 &&& Int32.toUInt32 31)).toInt32 = nI (x.toBitVec.toNat / 65536) := by
  have a := pk_ushr x 16 16 (by decide)
  have b : x.toBitVec.toNat / 65536 < 2 ^ 32 := by
    have := x.toBitVec.isLt
    omega
  exact Int32.toBitVec_inj.mp (BitVec.eq_of_toNat_eq (a.trans (pk_tn b).symm))
def kd (x : Int32) (L : Nat) : Nat := (x.toBitVec.toNat / 65536) % L
theorem rem_eq (x : Int32) {L : Nat} (h0 : 0 < L) (hL : L ≤ 16) : (Int32.toUInt32 x >>> (Int32.toUInt32 16 &&& Int32.toUInt32 31)).toInt32 - (Int32.toUInt32 x >>> (Int32.toUInt32 16 &&& Int32.toUInt32 31)).toInt32 / nI L * nI L = nI (kd x L) := by
  have b : x.toBitVec.toNat / 65536 < 65536 := by
    have := x.toBitVec.isLt
    omega
  rw [ush_eq, pk_rem (by omega) h0 (by omega)]
  rfl
def shf (p : Nat → Int32) (k L : Nat) : Nat → Int32 := fun j => if k ≤ j ∧ j < L then p (j + 1) else p j
theorem shf_s {p : Nat → Int32} {k j : Nat} (h : k ≤ j) : upd (shf p k j) j (shf p k j (j + 1)) = shf p k (j + 1) := by
  funext i
  have e : shf p k j (j + 1) = p (j + 1) := by
    unfold shf
    exact if_neg (by omega)
  rw [e]
  unfold upd shf
  by_cases q : i = j
  · subst q
    rw [if_pos rfl, if_pos (by omega)]
  · rw [if_neg q]
    by_cases r : k ≤ i ∧ i < j
    · rw [if_pos r, if_pos (by omega)]
    · rw [if_neg r, if_neg (by omega)]
theorem shf_0 {p : Nat → Int32} {k : Nat} : shf p k k = p := by
  funext i
  unfold shf
  exact if_neg (by omega)
theorem shf_cpy {p : Nat → Int32} {k L : Nat} (h : k ≤ L) : va_cpy p p (k + 1) k (L - k) = shf p k L := by
  funext j
  unfold shf
  by_cases q : k ≤ j ∧ j < L
  · rw [if_pos q, pk_cpy_in q.1 (by omega), show k + 1 + (j - k) = j + 1 by omega]
  · rw [if_neg q, pk_cpy_out (by omega)]
def dr (x : Int32) (od p : Nat → Int32) (M : Nat) : Nat → Int32 × (Nat → Int32) × (Nat → Int32)
  | 0 => (x, od, p)
  | i + 1 => (nx (dr x od p M i).1, upd (dr x od p M i).2.1 i ((dr x od p M i).2.2 (kd (nx (dr x od p M i).1) (M - i))), shf (dr x od p M i).2.2 (kd (nx (dr x od p M i).1) (M - i)) (M - i - 1))
theorem pC_pC {σ : St} {k : Nat} {f g : Nat → Int32} : pC (pC σ k f) k g = pC σ k g := by
  refine Prod.ext rfl (funext fun j => ?_)
  show (pC (pC σ k f) k g).2 j = (pC σ k g).2 j
  rw [pC_2, pC_2, pC_2]
  by_cases e : j = k
  · rw [if_pos e, if_pos e]
  · rw [if_neg e, if_neg e, if_neg e]
theorem pI_pI {σ : St} {k : Nat} {v w : Int32} : pI (pI σ k v) k w = pI σ k w := by
  refine Prod.ext (funext fun j => ?_) rfl
  show (pI (pI σ k v) k w).1 j = (pI σ k w).1 j
  rw [pI_1, pI_1, pI_1]
  by_cases e : j = k
  · rw [if_pos e, if_pos e]
  · rw [if_neg e, if_neg e, if_neg e]
theorem I_drawOrder {σ : St} {M : Nat} {x : Int32} {post : St → Prop} (hM : M ≤ 16) (h : post (pC (pC (pI σ 703 (nI M)) 708 (dr x (σ.2 708) (σ.2 709) M M).2.1) 709 (dr x (σ.2 708) (σ.2 709) M M).2.2)) : wpI_X2_drawOrder x (nI M) σ post := by
  show wpI_X2_drawOrder_10 x (nI M) (pI σ 703 0) post
  refine lp_c0 (fun i => ((dr x (σ.2 708) (σ.2 709) M i).1, nI (M - i), pC (pC (pI σ 703 (nI i)) 708 (dr x (σ.2 708) (σ.2 709) M i).2.1) 709 (dr x (σ.2 708) (σ.2 709) M i).2.2)) M ?_ ?_ ?_
  · show _ = (x, nI M, pC (pC (pI σ 703 (nI 0)) 708 (σ.2 708)) 709 (σ.2 709))
    rw [nI_0, show pC (pI σ 703 0) 708 (σ.2 708) = pI σ 703 0 from pC_self (σ := pI σ 703 0), show pC (pI σ 703 0) 709 (σ.2 709) = pI σ 703 0 from pC_self (σ := pI σ 703 0)]
  · intro kb
    dsimp only
    unfold wpBI_X2_drawOrder_10
    exact pk_le (M - M) 0 (fun _ => h) (fun z => absurd z (by omega))
  · intro i kb hi hk
    dsimp only
    unfold wpBI_X2_drawOrder_10
    dsimp only
    have hk' := hk
    generalize hd : dr x (σ.2 708) (σ.2 709) M i = d at hk ⊢
    have hd1 : dr x (σ.2 708) (σ.2 709) M (i + 1) = (nx d.1, upd d.2.1 i (d.2.2 (kd (nx d.1) (M - i))), shf d.2.2 (kd (nx d.1) (M - i)) (M - i - 1)) := by rw [← hd]; rfl
    rw [hd1] at hk'
    have ek : kd (nx d.1) (M - i) < M - i := Nat.mod_lt _ (by omega)
    have e3 : (pC (pC (pI σ 703 (nI i)) 708 d.2.1) 709 d.2.2).1 703 = nI i := rfl
    rw [e3, show d.1 * 1103515245 + 12345 = nx d.1 from rfl, rem_eq (nx d.1) (by omega : 0 < M - i) (by omega)]
    generalize kd (nx d.1) (M - i) = k at ek hk' ⊢
    rw [pk_sub (by omega : k ≤ M - i), nI_s1 (by omega), nI_1 k, nI_mm (by omega : 1 ≤ M - i), nI_clamp (by omega), nI_clamp (by omega), nI_clamp (by omega), nI_clamp (by omega)]
    refine pk_le (M - i) 0 (fun z => absurd z (by omega)) (fun _ => pk_le 16 i (fun z => absurd z (by omega)) (fun _ => ⟨nI_ne0 (by omega) (by omega), vp_in_nI (by omega) (by omega), vp_in_nI (by omega) (by omega), ⟨nI_pos (by omega), nI_pos (by omega), nI_pos (by omega), by omega, by omega⟩, kb_eq hk' ?_⟩))
    show (nx d.1, nI (M - i - 1), pC (pI (pA (pC (pC (pI σ 703 (nI i)) 708 d.2.1) 709 d.2.2) 708 i (d.2.2 k)) 703 (nI i + 1)) 709 (va_cpy d.2.2 d.2.2 (k + 1) k (M - i - k - 1))) = (nx d.1, nI (M - (i + 1)), pC (pC (pI σ 703 (nI (i + 1))) 708 (upd d.2.1 i (d.2.2 k))) 709 (shf d.2.2 k (M - i - 1)))
    rw [nI_1 i, pA_ne (by decide), pA_same, show M - i - k - 1 = (M - i - 1) - k by omega, shf_cpy (by omega), show M - (i + 1) = M - i - 1 by omega]
    show (nx d.1, nI (M - i - 1), pC (pC (pC (pI (pI σ 703 (nI i)) 703 (nI (i + 1))) 708 (upd d.2.1 i (d.2.2 k))) 709 d.2.2) 709 (shf d.2.2 k (M - i - 1))) = _
    rw [pI_pI, pC_pC]
theorem M_draw86 {τ : St} {M N i k : Nat} {y : Int32} {p : Nat → Int32} {kk : Int32 → Int32 → Int32 → Int32 → St → Prop} {post : St → Prop} (hM : M ≤ 16) (hN : N < 16) (hk : k ≤ N) (h : kk (nI M) y (nI N) (nI i + 1) (pC τ 41 (shf p k N))) : wpM_draws_86 kk (nI M) y (nI N) (nI i) (nI k) (pC τ 41 p) post := by
  refine lp_ci (fun j => (nI M, y, nI N, nI i, nI j, pC τ 41 (shf p k j))) k N hk ?_ ?_ ?_
  · rw [shf_0]
  · intro kb2
    dsimp only
    unfold wpBM_draws_86
    exact pk_le N N (fun _ => h) (fun z => absurd z (Nat.lt_irrefl _))
  · intro j kb2 hj1 hj hk2
    dsimp only
    unfold wpBM_draws_86
    rw [nI_1 j, nI_clamp (by omega), nI_clamp (by omega)]
    refine pk_le N j (fun z => absurd z (by omega)) (fun _ => ⟨vp_in_nI (by omega) (by omega), vp_in_nI (by omega) (by omega), kb_eq hk2 ?_⟩)
    show (nI M, y, nI N, nI i, nI (j + 1), pA (pC τ 41 (shf p k j)) 41 j (shf p k j (j + 1))) = _
    rw [pA_same, shf_s hj1]
theorem M_draw41 {τ : St} {M L i k : Nat} {x y : Int32} {od p : Nat → Int32} {kk : Int32 → Int32 → Int32 → Int32 → St → Prop} {post : St → Prop} (hM : M ≤ 16) (hi : i < M) (hL : L + 1 + i = M) (hy : y = nx x) (hkd : k = kd y (L + 1)) (h : kk (nI M) y (nI L) (nI (i + 1)) (pC (pC τ 29 (upd od i (p k))) 41 (shf p k L))) : wpBM_draws_41 kk (nI M) x (nI (L + 1)) (nI i) (pC (pC τ 29 od) 41 p) post := by
  unfold wpBM_draws_41
  have ek : k < L + 1 := by rw [hkd]; exact Nat.mod_lt _ (by omega)
  have e1 : x * 1103515245 + 12345 = y := hy.symm
  rw [e1]
  have e2 := rem_eq y (L := L + 1) (by omega) (by omega)
  rw [← hkd] at e2
  clear hkd hy e1
  dsimp only
  rw [e2, nI_clamp (by omega), nI_clamp (by omega), pk_m1]
  refine pk_le M i (fun z => absurd z (by omega)) (fun _ => ⟨nI_ne0 (by omega) (by omega), vp_in_nI (by omega) (by omega), vp_in_nI (by omega) (by omega), ?_⟩)
  show wpM_draws_86 kk (nI M) y (nI L) (nI i) (nI k) (pA (pC (pC τ 29 od) 41 p) 29 i (p k)) post
  rw [pA_ne (by decide), pA_same]
  refine M_draw86 hM (by omega) (by omega) ?_
  rw [nI_1]
  exact h
theorem M_draw {τ : St} {M : Nat} {x : Int32} {post : St → Prop} (hM : M ≤ 16) (h : post (pC (pC τ 29 (dr x (τ.2 29) (τ.2 41) M M).2.1) 41 (dr x (τ.2 29) (τ.2 41) M M).2.2)) : wpM_draws_41 (nI M) x (nI M) 0 τ post := by
  refine lp_c0 (fun i => (nI M, (dr x (τ.2 29) (τ.2 41) M i).1, nI (M - i), nI i, pC (pC τ 29 (dr x (τ.2 29) (τ.2 41) M i).2.1) 41 (dr x (τ.2 29) (τ.2 41) M i).2.2)) M ?_ ?_ ?_
  · have e : pC (pC τ 29 (τ.2 29)) 41 (τ.2 41) = τ := by rw [show pC τ 29 (τ.2 29) = τ from pC_self, show pC τ 41 (τ.2 41) = τ from pC_self]
    rw [Nat.sub_zero, nI_0]
    exact congrArg (fun z => (nI M, x, nI M, (0 : Int32), z)) e.symm
  · intro kb
    dsimp only
    unfold wpBM_draws_41
    exact pk_le M M (fun _ => h) (fun z => absurd z (Nat.lt_irrefl M))
  · intro i kb hi hk
    dsimp only
    have e : M - i = (M - (i + 1)) + 1 := by omega
    have hk' : kb (nI M, nx (dr x (τ.2 29) (τ.2 41) M i).1, nI (M - (i + 1)), nI (i + 1), pC (pC τ 29 (upd (dr x (τ.2 29) (τ.2 41) M i).2.1 i ((dr x (τ.2 29) (τ.2 41) M i).2.2 (kd (nx (dr x (τ.2 29) (τ.2 41) M i).1) (M - i))))) 41 (shf (dr x (τ.2 29) (τ.2 41) M i).2.2 (kd (nx (dr x (τ.2 29) (τ.2 41) M i).1) (M - i)) (M - i - 1))) := hk
    rw [show M - i - 1 = M - (i + 1) by omega, e] at hk'
    rw [e]
    exact M_draw41 hM hi (by omega) rfl rfl hk'
theorem dr_ok {x : Int32} {od p : Nat → Int32} {M : Nat} {Q : Int32 → Prop} (h : ∀ k, k < M → Q (p k)) : ∀ i : Nat, i ≤ M → (∀ k, k < M - i → Q ((dr x od p M i).2.2 k)) ∧ ∀ k, k < i → Q ((dr x od p M i).2.1 k)
  | 0, _ => ⟨h, fun k hk => absurd hk (by omega)⟩
  | i + 1, hi => by
    obtain ⟨h1, h2⟩ := dr_ok (x := x) (od := od) h i (by omega)
    have ek : kd (nx (dr x od p M i).1) (M - i) < M - i := Nat.mod_lt _ (by omega)
    refine ⟨fun k hk => ?_, fun k hk => ?_⟩
    · show Q (shf (dr x od p M i).2.2 (kd (nx (dr x od p M i).1) (M - i)) (M - i - 1) k)
      unfold shf
      split
      · exact h1 _ (by omega)
      · exact h1 _ (by omega)
    · show Q (upd (dr x od p M i).2.1 i ((dr x od p M i).2.2 (kd (nx (dr x od p M i).1) (M - i))) k)
      unfold upd
      split
      · exact h1 _ ek
      · exact h2 _ (by omega)

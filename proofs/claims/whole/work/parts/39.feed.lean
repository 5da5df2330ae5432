/-! ===== feed ===== -/
theorem t8_eq {A B : Int32} (h : A.toBitVec.toNat % 256 = B.toBitVec.toNat % 256) : A.toInt8 = B.toInt8 := by
  refine Int8.toBitVec_inj.mp (BitVec.eq_of_toNat_eq ?_)
  rw [Int32.toBitVec_toInt8, Int32.toBitVec_toInt8, BitVec.signExtend_eq_setWidth_of_le _ (by decide), BitVec.signExtend_eq_setWidth_of_le _ (by decide), BitVec.toNat_setWidth, BitVec.toNat_setWidth]
  exact h
theorem i_nat (x : Int32) : (x.toBitVec.toNat : Int) = if 0 ≤ x.toInt then x.toInt else x.toInt + 4294967296 := by
  have a := BitVec.toInt_eq_toNat_cond x.toBitVec
  have b := x.toBitVec.isLt
  rw [Int32.toInt_toBitVec] at a
  split at a <;> split <;> omega
/-- the byte number i of a word -/
def by1 (x : Int32) (i : Nat) : Int32 := (Int32.toInt8 ((Int32.toUInt32 x >>> (Int32.toUInt32 (24 - 8 * nI i) &&& Int32.toUInt32 31)).toInt32)).toInt32
theorem by1_s (x : Int32) {s : Int32} {k : Nat} (i : Nat) (hi : ((24 - 8 * nI i : Int32).toUInt32 &&& Int32.toUInt32 31).toBitVec % 32 = BitVec.ofNat 32 k) (hs : s.toBitVec.smod 32 = BitVec.ofNat 32 k) (hk : k = 24 ∨ k = 16 ∨ k = 8 ∨ k = 0) : (Int32.toInt8 (x >>> s)).toInt32 = by1 x i := by
  unfold by1
  refine congrArg Int8.toInt32 (t8_eq ?_)
  have k32 : (BitVec.ofNat 32 k).toNat = k := by rcases hk with rfl | rfl | rfl | rfl <;> rfl
  have a := pk_ushr x (24 - 8 * nI i) k (by rw [hi]; exact k32)
  have b := pk_shr x s k (by rw [hs]; exact k32)
  rw [a]
  have c := i_nat (x >>> s)
  rw [b] at c
  have d := i_nat x
  have e := x.toInt_lt
  have f := x.le_toInt
  rw [Int.shiftRight_eq_div_pow] at c
  generalize (x >>> s).toBitVec.toNat = N at c ⊢
  generalize x.toBitVec.toNat = M at d ⊢
  generalize x.toInt = t at c d e f
  rcases hk with rfl | rfl | rfl | rfl
  all_goals
    split at c <;> split at d <;> omega
theorem bys (x : Int32) : ∀ i : Nat, i < 4 → (Int32.toInt8 (x >>> ((24 - 8 * nI i) &&& 31))).toInt32 = by1 x i
  | 0, _ => by1_s x (k := 24) 0 (by decide) (by decide) (Or.inl rfl)
  | 1, _ => by1_s x (k := 16) 1 (by decide) (by decide) (Or.inr (Or.inl rfl))
  | 2, _ => by1_s x (k := 8) 2 (by decide) (by decide) (Or.inr (Or.inr (Or.inl rfl)))
  | 3, _ => by1_s x (k := 0) 3 (by decide) (by decide) (Or.inr (Or.inr (Or.inr rfl)))
  | i + 4, h => absurd h (by omega)
theorem i4 {P : Nat → Prop} (h0 : P 0) (h1 : P 1) (h2 : P 2) (h3 : P 3) {i : Nat} (hi : i < 4) : P i := by
  rcases (by omega : i = 0 ∨ i = 1 ∨ i = 2 ∨ i = 3) with rfl | rfl | rfl | rfl
  · exact h0
  · exact h1
  · exact h2
  · exact h3
/-- so many bytes taped behind n -/
def tpI (σ : St) (n : Nat) (f : Nat → Int32) (i : Nat) : St := pI (pC σ 401 (mp (σ.2 401) n (n + i) (fun j _ => f (j - n)))) 400 (nI (n + i))
def tpM (σ : St) (n : Nat) (f : Nat → Int32) (i : Nat) : St := pI (pC σ 21 (mp (σ.2 21) n (n + i) (fun j _ => f (j - n)))) 22 (nI (n + i))
theorem tpI_0 {σ : St} {n : Nat} {f : Nat → Int32} (h : σ.1 400 = nI n) : tpI σ n f 0 = σ := by
  unfold tpI
  rw [Nat.add_zero, mp_0, pC_self, ← h, pI_self]
theorem tpM_0 {σ : St} {n : Nat} {f : Nat → Int32} (h : σ.1 22 = nI n) : tpM σ n f 0 = σ := by
  unfold tpM
  rw [Nat.add_zero, mp_0, pC_self, ← h, pI_self]
theorem tpI_s {σ : St} {n i : Nat} {f : Nat → Int32} {v : Int32} (hv : v = f i) : pI (pA (tpI σ n f i) 401 (n + i) v) 400 (nI (n + i) + 1) = tpI σ n f (i + 1) := by
  unfold tpI
  show pI (pI (pA (pC σ 401 (mp (σ.2 401) n (n + i) (fun j _ => f (j - n)))) 401 (n + i) v) 400 (nI (n + i))) 400 (nI (n + i) + 1) = _
  rw [pI_pI, pA_same, mp_s (by omega) (by rw [hv, show n + i - n = i by omega]), nI_1, Nat.add_assoc]
theorem tpM_s {σ : St} {n i : Nat} {f : Nat → Int32} {v : Int32} (hv : v = f i) : pI (pA (tpM σ n f i) 21 (n + i) v) 22 (nI (n + i) + 1) = tpM σ n f (i + 1) := by
  unfold tpM
  show pI (pI (pA (pC σ 21 (mp (σ.2 21) n (n + i) (fun j _ => f (j - n)))) 21 (n + i) v) 22 (nI (n + i))) 22 (nI (n + i) + 1) = _
  rw [pI_pI, pA_same, mp_s (by omega) (by rw [hv, show n + i - n = i by omega]), nI_1, Nat.add_assoc]
theorem I_append {σ : St} {n i : Nat} {x : Int32} {f : Nat → Int32} {post : St → Prop} (hn : n + i + 4 ≤ 300) (hf : ∀ j, j < 4 → f (i + j) = by1 x j) (h : post (tpI σ n f (i + 4))) : wpI_X7_append x (tpI σ n f i) post := by
  show wpI_X7_append_3 x 24 (tpI σ n f i) post
  refine lp_c0 (fun j => (x, 24 - 8 * nI j, tpI σ n f (i + j))) 4 rfl ?_ ?_
  · intro kb
    dsimp only
    unfold wpBI_X7_append_3
    exact ⟨fun _ => h, fun z => absurd (by decide) z⟩
  · intro j kb hj hk
    dsimp only
    unfold wpBI_X7_append_3
    have e0 : ¬ (24 - 8 * nI j : Int32) < 0 := i4 (P := fun j => ¬ (24 - 8 * nI j : Int32) < 0) (by decide) (by decide) (by decide) (by decide) hj
    have e1 : (24 - 8 * nI j : Int32) + (-8) = 24 - 8 * nI (j + 1) := i4 (P := fun j => (24 - 8 * nI j : Int32) + (-8) = 24 - 8 * nI (j + 1)) (by decide) (by decide) (by decide) (by decide) hj
    have e4 : (tpI σ n f (i + j)).1 400 = nI (n + (i + j)) := rfl
    refine ⟨fun z => absurd z e0, fun _ => ?_⟩
    rw [e4]
    refine pk_le 300 (n + (i + j)) (fun z => absurd z (by omega)) (fun _ => ⟨vp_in_nI (by omega) (by omega), kb_eq hk ?_⟩)
    rw [nI_clamp (by omega), pk_vb, e1, show (pA (tpI σ n f (i + j)) 401 (n + (i + j)) (Int32.toInt8 ((Int32.toUInt32 x >>> (Int32.toUInt32 (24 - 8 * nI j) &&& Int32.toUInt32 31)).toInt32)).toInt32).1 400 = nI (n + (i + j)) from rfl]
    exact congrArg (fun z => (x, (24 - 8 * nI (j + 1) : Int32), z)) (tpI_s (f := f) (i := i + j) (hf j hj).symm)
theorem T_feed {σ τ : St} {a b c d e : Int32} (h : Rel σ τ) : wpI_X10_feed a b c d e σ (fun r σ' => wpM_feed a b c d e τ (fun r' τ' => r = r' ∧ Rel σ' τ')) := by
  have e22 : σ.1 400 = τ.1 22 := h.a0.i (by decide)
  have f21 : σ.2 401 = τ.2 21 := h.a0.a (by decide)
  obtain ⟨n, hn, en⟩ := vp_x h.a7.1 (by omega)
  refine pk_le n 280 (fun q => ?_) (fun q => ?_) (e22.trans en)
  · -- the twenty bytes
    generalize hf : (fun k => by1 (if k < 4 then a else if k < 8 then b else if k < 12 then c else if k < 16 then d else e) (k % 4)) = f
    have f0 : ∀ j, j < 4 → f (0 + j) = by1 a j := fun j hj => by
      rw [← hf]
      show by1 (if 0 + j < 4 then a else _) ((0 + j) % 4) = _
      rw [if_pos (by omega), show (0 + j) % 4 = j by omega]
    have f1 : ∀ j, j < 4 → f (4 + j) = by1 b j := fun j hj => by
      rw [← hf]
      show by1 (if 4 + j < 4 then a else if 4 + j < 8 then b else _) ((4 + j) % 4) = _
      rw [if_neg (by omega), if_pos (by omega), show (4 + j) % 4 = j by omega]
    have f2 : ∀ j, j < 4 → f (8 + j) = by1 c j := fun j hj => by
      rw [← hf]
      show by1 (if 8 + j < 4 then a else if 8 + j < 8 then b else if 8 + j < 12 then c else _) ((8 + j) % 4) = _
      rw [if_neg (by omega), if_neg (by omega), if_pos (by omega), show (8 + j) % 4 = j by omega]
    have f3 : ∀ j, j < 4 → f (12 + j) = by1 d j := fun j hj => by
      rw [← hf]
      show by1 (if 12 + j < 4 then a else if 12 + j < 8 then b else if 12 + j < 12 then c else if 12 + j < 16 then d else _) ((12 + j) % 4) = _
      rw [if_neg (by omega), if_neg (by omega), if_neg (by omega), if_pos (by omega), show (12 + j) % 4 = j by omega]
    have f4 : ∀ j, j < 4 → f (16 + j) = by1 e j := fun j hj => by
      rw [← hf]
      show by1 (if 16 + j < 4 then a else if 16 + j < 8 then b else if 16 + j < 12 then c else if 16 + j < 16 then d else e) ((16 + j) % 4) = _
      rw [if_neg (by omega), if_neg (by omega), if_neg (by omega), if_neg (by omega), show (16 + j) % 4 = j by omega]
    rw [show σ = tpI σ n f 0 from (tpI_0 (e22.trans en)).symm]
    refine I_append (i := 0) (by omega) f0 (I_append (i := 4) (by omega) f1 (I_append (i := 8) (by omega) f2 (I_append (i := 12) (by omega) f3 (I_append (i := 16) (by omega) f4 ?_))))
    show wpM_feed a b c d e τ (fun r' τ' => nI (n + 20) = r' ∧ Rel (tpI σ n f 20) τ')
    refine pk_le n 280 (fun _ => ?_) (fun z => absurd q (by omega)) en
    refine lp_c0 (fun i => (a, b, c, d, e, nI i, tpM (pI τ 0 0) n f i)) 20 ?_ ?_ ?_
    · rw [tpM_0 (σ := pI τ 0 0) en, nI_0]
    · intro kb
      dsimp only
      unfold wpBM_feed_20
      refine pk_le 20 20 (fun _ => ⟨rfl, ?_⟩) (fun z => absurd z (Nat.lt_irrefl 20))
      refine ⟨((h.th 0).a0.vC (k := 401) (k' := 21) (by decide) (by rw [f21]; rfl)).vI (k := 400) (k' := 22) (by decide) rfl, h.a1, h.a2, h.a3, h.a4, h.a5, h.a6, ⟨vp_in_nI (by omega) (by omega), h.a7.2⟩, h.a8⟩
    · intro i kb hi hk
      dsimp only
      unfold wpBM_feed_20
      have fin : ∀ s0 : Int32, s0 = (if i < 4 then a else if i < 8 then b else if i < 12 then c else if i < 16 then d else e) → wpM_feed_73 (fun x1 x2 x3 x4 x5 x6 σ => kb (x1, x2, x3, x4, x5, x6, σ)) a b c d e (nI i) s0 (tpM (pI τ 0 0) n f i) (fun r' τ' => nI (n + 20) = r' ∧ Rel (tpI σ n f 20) τ') := by
        intro s0 hs
        unfold wpM_feed_73
        dsimp only
        rw [show (tpM (pI τ 0 0) n f i).1 22 = nI (n + i) from rfl, show nI i - nI i / 4 * 4 = nI (i % 4) from pk_rem (d := 4) (by omega) (by omega) (by omega), nI_clamp (by omega), pk_vb, bys s0 (i % 4) (Nat.mod_lt _ (by omega))]
        refine ⟨vp_in_nI (by omega) (by omega), kb_eq hk ?_⟩
        rw [show (pA (tpM (pI τ 0 0) n f i) 21 (n + i) (by1 s0 (i % 4))).1 22 = nI (n + i) from rfl, tpM_s (f := f) (show by1 s0 (i % 4) = f i by rw [← hf, hs]), nI_1]
      refine pk_le 20 i (fun z => absurd z (by omega)) (fun _ => pk_le 4 i (fun z1 => pk_le 8 i (fun z2 => pk_le 12 i (fun z3 => pk_le 16 i (fun z4 => fin _ ?_) (fun z4 => fin _ ?_)) (fun z3 => fin _ ?_)) (fun z2 => fin _ ?_)) (fun z1 => fin _ ?_))
      · rw [if_neg (by omega), if_neg (by omega), if_neg (by omega), if_neg (by omega)]
      · rw [if_neg (by omega), if_neg (by omega), if_neg (by omega), if_pos (by omega)]
      · rw [if_neg (by omega), if_neg (by omega), if_pos (by omega)]
      · rw [if_neg (by omega), if_pos (by omega)]
      · rw [if_pos (by omega)]
  · exact pk_le n 280 (fun z => absurd z (by omega)) (fun _ => ⟨rfl, h.th 0⟩) en
/-! place, law, end: with the whole relation -/
theorem T_placeR {σ τ : St} (h : Rel σ τ) : wpI_X10_place σ (fun r σ' => wpM_place τ (fun r' τ' => r = r' ∧ Rel σ' τ')) := ⟨h.a0.i (by decide), h.th 0⟩
theorem T_lawR {σ τ : St} {x : Int32} (h : Rel σ τ) : wpI_X10_law x σ (fun r σ' => wpM_law x τ (fun r' τ' => r = r' ∧ Rel σ' τ')) := by
  have f : σ.2 501 = τ.2 19 := h.a0.a (by decide)
  refine I_in (bz_br (fun q => M_in (bz_br (fun _ => ⟨rfl, h.th 0⟩) (fun z => absurd z q))) (fun q => ?_))
  have v := (in_vp (n := 6) (by decide)).mp q
  exact ⟨v, M_in (bz_br (fun z => absurd q z) (fun _ => ⟨v, congrFun f _, h.th 0⟩))⟩
theorem T_endR {σ τ : St} {x : Int32} (h : Rel σ τ) : wpI_X10_end x σ (fun r σ' => wpM_end x τ (fun r' τ' => r = r' ∧ Rel σ' τ')) := by
  have e22 : σ.1 400 = τ.1 22 := h.a0.i (by decide)
  refine I_in (bz_rb (fun q => ?_) (fun q => ?_))
  · rw [e22] at q
    refine M_in (bz_rb (fun _ => ⟨rfl, ?_⟩) (fun z => absurd q z))
    obtain ⟨n, hn, en⟩ := vp_x h.a7.1 (by omega)
    have q' := q
    rw [en] at q'
    obtain ⟨j, hj, rfl⟩ := in_of2 rfl (by omega) q'
    exact ⟨(h.th 0).a0.vI (k := 400) (k' := 22) (by decide) rfl, h.a1, h.a2, h.a3, h.a4, h.a5, h.a6, ⟨vp_in_nI (by omega) (by omega), h.a7.2⟩, h.a8⟩
  · rw [e22] at q
    exact M_in (bz_rb (fun z => absurd z q) (fun _ => ⟨rfl, h.th 0⟩))

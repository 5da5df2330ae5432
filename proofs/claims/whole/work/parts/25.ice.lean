/-! ===== the ice: water, weather, the time in a cell ===== -/
theorem i_sub {x y : Int32} (h1 : -2147483648 ≤ x.toInt - y.toInt) (h2 : x.toInt - y.toInt < 2147483648) : (x - y).toInt = x.toInt - y.toInt := by
  rw [Int32.toInt_sub]
  exact Int.bmod_eq_of_le (by omega) (by omega)
theorem i_add {x y : Int32} (h1 : -2147483648 ≤ x.toInt + y.toInt) (h2 : x.toInt + y.toInt < 2147483648) : (x + y).toInt = x.toInt + y.toInt := by
  rw [Int32.toInt_add]
  exact Int.bmod_eq_of_le (by omega) (by omega)
theorem i_mul {x y : Int32} (h1 : -2147483648 ≤ x.toInt * y.toInt) (h2 : x.toInt * y.toInt < 2147483648) : (x * y).toInt = x.toInt * y.toInt := by
  rw [Int32.toInt_mul]
  exact Int.bmod_eq_of_le (by omega) (by omega)
theorem i_eqN {x : Int32} {n : Nat} (hn : n < 2 ^ 31) (h : x.toInt = n) : x = nI n := Int32.toInt_inj.mp (h.trans (nI_toInt hn).symm)
def bd (x lo hi : Int32) : Int32 := if lo ≤ x then (if x ≤ hi then x else hi) else lo
theorem M_bd {x lo hi : Int32} {σ : St} {post : Int32 → St → Prop} (h : post (bd x lo hi) σ) : wpM_bounded x lo hi σ post := by
  unfold wpM_bounded wpM_bounded_19
  unfold bd at h
  refine ⟨fun q => ⟨fun q2 => ?_, fun q2 => ?_⟩, fun q => ?_⟩
  · rw [if_pos q, if_pos q2] at h
    exact h
  · rw [if_pos q, if_neg q2] at h
    exact h
  · rw [if_neg q] at h
    exact h
theorem dec_bd {a b : Nat} (ha : a ≤ 1000) (hb : b ≤ 1000) : bd (nI a - nI b) 0 1000 = nI (a - b) := by
  unfold bd
  by_cases q : b ≤ a
  · rw [pk_sub q, if_pos (nI_pos' (by omega)), if_pos (show nI (a - b) ≤ 1000 from nI_le (b := 1000) (by omega) (by omega))]
  · rw [if_neg (fun c => absurd (pk_sneg (by omega) (by omega : a < b)) (Int32.not_lt.mpr c)), show a - b = 0 by omega]
    rfl
theorem dec_mx {a b : Nat} (ha : a ≤ 1000) (hb : b ≤ 1000) : (if 0 < nI a - nI b then nI a - nI b else 0) = nI (a - b) := by
  by_cases q : b < a
  · rw [pk_sub (by omega), if_pos (show 0 < nI (a - b) from nI_lt (a := 0) (by omega) (by omega))]
  · rw [show a - b = 0 by omega, if_neg (fun c => ?_)]
    · rfl
    · by_cases e : b = a
      · subst e
        rw [pk_sub (Nat.le_refl _), Nat.sub_self] at c
        exact absurd c (by decide)
      · exact absurd (Int32.lt_trans c (pk_sneg (by omega) (by omega : a < b))) (by decide)
theorem mp_id {f : Nat → Int32} {a n : Nat} {F : Nat → Int32 → Int32} (h : ∀ j, a ≤ j → j < n → F j (f j) = f j) : mp f a n F = f := by
  funext j
  by_cases q : a ≤ j ∧ j < n
  · rw [mp_in q.1 q.2, h j q.1 q.2]
  · rw [mp_out q]
theorem mp_c {f : Nat → Int32} {a n : Nat} {F G : Nat → Int32 → Int32} (h : ∀ j, a ≤ j → j < n → F j (f j) = G j (f j)) : mp f a n F = mp f a n G := by
  funext j
  by_cases q : a ≤ j ∧ j < n
  · rw [mp_in q.1 q.2, mp_in q.1 q.2, h j q.1 q.2]
  · rw [mp_out q, mp_out q]
theorem mp_mp {f : Nat → Int32} {a n : Nat} {F G : Nat → Int32 → Int32} : mp (mp f a n F) a n G = mp f a n (fun j v => G j (F j v)) := by
  funext j
  by_cases q : a ≤ j ∧ j < n
  · rw [mp_in q.1 q.2, mp_in q.1 q.2, mp_in q.1 q.2]
  · rw [mp_out q, mp_out q, mp_out q]
/-! water -/
def w100 (_ : Nat) (v : Int32) : Int32 := nI (v.toNatClampNeg - 100)
theorem w100_eq {f : Nat → Int32} {i : Nat} (h : vp_in (f i) 1001) : ∃ c : Nat, c ≤ 1000 ∧ f i = nI c ∧ w100 i (f i) = nI (c - 100) := by
  obtain ⟨c, hc, e⟩ := vp_x h (by omega)
  refine ⟨c, by omega, e, ?_⟩
  unfold w100
  rw [e, nI_clamp (by omega)]
theorem I_pour {σ : St} {a b : Nat} {post : St → Prop} (hab : a ≤ b) (hb : b ≤ 40) (hv : ∀ c, c < 40 → vp_in (σ.2 105 c) 1001) (h : post (pC (pC σ 106 (mp (σ.2 106) a b (fun _ _ => 0))) 105 (mp (σ.2 105) a b w100))) : wpI_X8_pour (nI a) (nI b) σ post := by
  show wpI_X8_pour_2 (nI b) (nI a) σ post
  refine lp_ci (fun i => (nI b, nI i, pC (pC σ 106 (mp (σ.2 106) a i (fun _ _ => 0))) 105 (mp (σ.2 105) a i w100))) a b hab ?_ ?_ ?_
  · try dsimp only
    rw [mp_0, mp_0, pC_self]
    rw [show pC σ 105 (σ.2 105) = σ from pC_self]
  · intro kb
    try dsimp only
    unfold wpBI_X8_pour_2
    exact pk_le b b (fun _ => h) (fun z => absurd z (Nat.lt_irrefl b))
  · intro i kb h1 hi hk
    try dsimp only
    unfold wpBI_X8_pour_2
    have v : vp_in (nI i) 40 := vp_in_nI (by omega) (by omega)
    refine pk_le b i (fun z => absurd z (by omega)) (fun _ => ⟨v, v, v, kb_eq hk ?_⟩)
    obtain ⟨c, hc, e, e2⟩ := w100_eq (hv i (by omega))
    rw [nI_1, nI_clamp (by omega)]
    show (nI b, nI (i + 1), pA (pA (pC (pC σ 106 (mp (σ.2 106) a i (fun _ _ => 0))) 105 (mp (σ.2 105) a i w100)) 106 i 0) 105 i (if 0 < mp (σ.2 105) a i w100 i - nI 100 then mp (σ.2 105) a i w100 i - nI 100 else 0)) = _
    rw [mp_i, e, dec_mx hc (by omega), pA_ne (by decide), pA_same, pA_same, mp_s h1 rfl, mp_s h1 e2.symm]
theorem M_pour {σ : St} {a b : Nat} {post : Int32 → St → Prop} (hab : a ≤ b) (hb : b ≤ 40) (hv : ∀ c, c < 40 → vp_in (σ.2 6 c) 1001) (h : post 1 (pC (pC σ 7 (mp (σ.2 7) a b (fun _ _ => 0))) 6 (mp (σ.2 6) a b w100))) : wpM_water_33 (nI b) (nI a) σ post := by
  refine lp_ci (fun i => (nI b, nI i, pC (pC σ 7 (mp (σ.2 7) a i (fun _ _ => 0))) 6 (mp (σ.2 6) a i w100))) a b hab ?_ ?_ ?_
  · try dsimp only
    rw [mp_0, mp_0, pC_self]
    rw [show pC σ 6 (σ.2 6) = σ from pC_self]
  · intro kb
    try dsimp only
    unfold wpBM_water_33
    exact pk_le b b (fun _ => h) (fun z => absurd z (Nat.lt_irrefl b))
  · intro i kb h1 hi hk
    try dsimp only
    unfold wpBM_water_33
    have v : vp_in (nI i) 40 := vp_in_nI (by omega) (by omega)
    refine pk_le b i (fun z => absurd z (by omega)) (fun _ => ⟨v, v, M_bd ⟨v, kb_eq hk ?_⟩⟩)
    obtain ⟨c, hc, e, e2⟩ := w100_eq (hv i (by omega))
    rw [nI_1, nI_clamp (by omega)]
    show (nI b, nI (i + 1), pA (pA (pC (pC σ 7 (mp (σ.2 7) a i (fun _ _ => 0))) 6 (mp (σ.2 6) a i w100)) 7 i 0) 6 i (bd (mp (σ.2 6) a i w100 i - nI 100) 0 1000)) = _
    rw [mp_i, e, dec_bd hc (by omega), pA_ne (by decide), pA_same, pA_same, mp_s h1 rfl, mp_s h1 e2.symm]
theorem T_water {σ τ : St} {x y : Int32} (h : Rel σ τ) : wpI_X10_water x y σ (fun r σ' => wpM_water x y τ (fun r' τ' => r = r' ∧ Rel σ' τ')) := by
  have e : σ.1 100 = τ.1 1 := h.a0.i (by decide)
  have f5 : σ.2 105 = τ.2 6 := h.a0.a (by decide)
  have f6 : σ.2 106 = τ.2 7 := h.a0.a (by decide)
  have hM : ∀ post : Int32 → St → Prop, (¬ x < 0 ∧ x < y ∧ y ≤ τ.1 1 → wpM_water_33 y x (pI τ 0 0) post) → (¬ (¬ x < 0 ∧ x < y ∧ y ≤ τ.1 1) → post 0 (pI τ 0 0)) → wpM_water x y τ post := by
    intro post hy hn
    refine ⟨fun z => hn (fun c => ?_), fun _ => ⟨fun z => hn (fun c => c.1 z), fun q1 => ⟨fun z => hn (fun c => absurd z (Int32.not_lt.mpr c.2.2)), fun q3 => ⟨fun q2 => hy ⟨q1, q2, Int32.not_lt.mp q3⟩, fun z => hn (fun c => z c.2.1)⟩⟩⟩⟩
    exact c.1 (Int32.lt_of_lt_of_le c.2.1 ((show τ.1 1 = 0 from z) ▸ c.2.2))
  have hn : ¬ (¬ x < 0 ∧ x < y ∧ y ≤ τ.1 1) → wpM_water x y τ (fun r' τ' => (0 : Int32) = r' ∧ Rel σ τ') := fun m => hM _ (fun c => absurd c m) (fun _ => ⟨rfl, h.th 0⟩)
  refine ⟨fun z => hn (fun c => c.1 z), fun q1 => ⟨fun z => hn (fun c => absurd z (Int32.not_le.mpr c.2.1)), fun q2 => ⟨fun q3 => ?_, fun z => hn (fun c => z (e ▸ c.2.2))⟩⟩⟩
  rw [e] at q3
  have g : ¬ x < 0 ∧ x < y ∧ y ≤ τ.1 1 := ⟨q1, Int32.not_le.mp q2, q3⟩
  obtain ⟨n, hn40, hc⟩ := h.cells
  obtain ⟨a, ha, rfl⟩ := nI_of q1
  obtain ⟨b, hb, rfl⟩ := nI_of (x := y) (fun z => q1 (Int32.lt_trans g.2.1 z))
  have g2 := (nI_ltI ha hb).mp g.2.1
  have g3 := g.2.2
  rw [hc, nI_leI hb (by omega)] at g3
  refine I_pour (by omega) (by omega) (f5 ▸ h.a2.2.1) (hM _ (fun _ => M_pour (by omega) (by omega) h.a2.2.1 ⟨rfl, ?_⟩) (fun m => absurd g m))
  refine ⟨((h.th 0).a0.vC (k := 106) (k' := 7) (by decide) (congrArg (fun f => mp f a b (fun _ _ => 0)) f6)).vC (k := 105) (k' := 6) (by decide) (congrArg (fun f => mp f a b w100) f5), h.a1, ⟨h.a2.1, mp_v (f := τ.2 6) (F := w100) h.a2.2.1 (fun j _ q => ?_), mp_v (f := τ.2 7) (F := fun _ _ => 0) h.a2.2.2 (fun j _ _ => vp_in_iff.mpr (by decide))⟩, h.2.2.2⟩
  obtain ⟨c, hc, -, e2⟩ := w100_eq q
  show vp_in (w100 j (τ.2 6 j)) 1001
  rw [e2]
  exact vp_in_nI (by omega) (by omega)
/-! weather -/
def wv (a : Nat) (d : Int) : Nat := if (a : Int) - d < 0 then 0 else if 1000 < (a : Int) - d then 1000 else ((a : Int) - d).toNat
theorem wv_le (a : Nat) (d : Int) : wv a d ≤ 1000 := by
  unfold wv
  split
  · omega
  · split <;> omega
theorem wv_z {a : Nat} (h : a ≤ 1000) : wv a 0 = a := by
  unfold wv
  rw [if_neg (by omega), if_neg (by omega)]
  omega
theorem wv_s {a : Nat} (h : a ≤ 1000) (k : Nat) (d : Int) : wv (wv a (k * d)) d = wv a ((k + 1 : Nat) * d) := by
  have e : ((k + 1 : Nat) : Int) * d = (k : Int) * d + d := by rw [Int.natCast_add, Int.add_mul]; simp
  rw [e]
  by_cases hd : 0 ≤ d
  · have p : 0 ≤ (k : Int) * d := Int.mul_nonneg (by omega) hd
    generalize (k : Int) * d = z at p ⊢
    unfold wv
    repeat' split
    all_goals omega
  · have p : (k : Int) * d ≤ 0 := Int.mul_nonpos_of_nonneg_of_nonpos (by omega) (by omega)
    generalize (k : Int) * d = z at p ⊢
    unfold wv
    repeat' split
    all_goals omega
theorem wv_bd {x : Int32} {a : Nat} {d : Int} (h : x.toInt = (a : Int) - d) : bd x 0 1000 = nI (wv a d) := by
  unfold bd wv
  have k0 : (0 ≤ x) ↔ 0 ≤ x.toInt := by rw [Int32.le_iff_toInt_le, Int32.toInt_zero]
  have k1 : (x ≤ 1000) ↔ x.toInt ≤ 1000 := by rw [Int32.le_iff_toInt_le]; rfl
  by_cases q : 0 ≤ x
  · have q' := k0.mp q
    rw [if_pos q, if_neg (show ¬ (a : Int) - d < 0 by omega)]
    by_cases r : x ≤ 1000
    · have r' := k1.mp r
      rw [if_pos r, if_neg (show ¬ 1000 < (a : Int) - d by omega)]
      exact i_eqN (by omega) (by omega)
    · have r' : ¬ x.toInt ≤ 1000 := fun c => r (k1.mpr c)
      rw [if_neg r, if_pos (show 1000 < (a : Int) - d by omega)]
      rfl
  · have q' : ¬ 0 ≤ x.toInt := fun c => q (k0.mpr c)
    rw [if_neg q, if_pos (show (a : Int) - d < 0 by omega)]
    rfl
theorem wv_mx {x : Int32} {a : Nat} {d : Int} (h : x.toInt = (a : Int) - d) : (if 0 < (if x < 1000 then x else 1000) then (if x < 1000 then x else 1000) else 0) = nI (wv a d) := by
  rw [← wv_bd h]
  unfold bd
  have k0 : (0 ≤ x) ↔ 0 ≤ x.toInt := by rw [Int32.le_iff_toInt_le, Int32.toInt_zero]
  have k1 : (x ≤ 1000) ↔ x.toInt ≤ 1000 := by rw [Int32.le_iff_toInt_le]; rfl
  have k2 : (x < 1000) ↔ x.toInt < 1000 := by rw [Int32.lt_iff_toInt_lt]; rfl
  have k3 : (0 < x) ↔ 0 < x.toInt := by rw [Int32.lt_iff_toInt_lt, Int32.toInt_zero]
  by_cases q : x < 1000
  · rw [if_pos q]
    have q1 : x ≤ 1000 := k1.mpr (by have := k2.mp q; omega)
    by_cases r : 0 < x
    · rw [if_pos r, if_pos (k0.mpr (by have := k3.mp r; omega)), if_pos q1]
    · rw [if_neg r]
      by_cases s : 0 ≤ x
      · rw [if_pos s, if_pos q1]
        refine Int32.toInt_inj.mp ?_
        have := k0.mp s
        have : ¬ 0 < x.toInt := fun c => r (k3.mpr c)
        rw [Int32.toInt_zero]
        omega
      · rw [if_neg s]
  · rw [if_neg q, if_pos (by decide)]
    have q' : ¬ x.toInt < 1000 := fun c => q (k2.mpr c)
    rw [if_pos (k0.mpr (by omega))]
    by_cases r : x ≤ 1000
    · rw [if_pos r]
      refine Int32.toInt_inj.mp ?_
      have := k1.mp r
      rw [show (1000 : Int32).toInt = 1000 by decide]
      omega
    · rw [if_neg r]
def dd (w : Int32) (L : Nat) (su : Nat → Int32) (c : Nat) : Int := w.toInt + (su c).toInt * L
def wF (m : Nat) (w : Int32) (L : Nat) (su : Nat → Int32) (c : Nat) (v : Int32) : Int32 := nI (wv v.toNatClampNeg ((m : Int) * dd w L su c))
theorem dmul {m : Nat} {d : Int} (h1 : -30 ≤ d) (h2 : d ≤ 57) : (m : Int) * (-30) ≤ m * d ∧ m * d ≤ m * 57 := ⟨Int.mul_le_mul_of_nonneg_left h1 (Int.natCast_nonneg m), Int.mul_le_mul_of_nonneg_left h2 (Int.natCast_nonneg m)⟩
theorem dd_eq {w : Int32} {L s : Nat} {su : Nat → Int32} {c : Nat} (e : su c = nI s) (hs : s ≤ 9) : dd w L su c = w.toInt + ((s * L : Nat) : Int) := by
  unfold dd
  rw [e, nI_toInt (by omega), Int.natCast_mul]
theorem I_soften {σ : St} {n m L : Nat} {w : Int32} {post : St → Prop} (hc : σ.1 100 = nI n) (hn : n ≤ 40) (hm : m ≤ 600) (hw1 : -30 ≤ w.toInt) (hw2 : w.toInt ≤ 30) (hL : L ≤ 3) (hs : ∀ c, c < 40 → vp_in (σ.2 104 c) 10) (hv : ∀ c, c < 40 → vp_in (σ.2 105 c) 1001) (h : post (pC σ 105 (mp (σ.2 105) 0 n (wF m w L (σ.2 104))))) : wpI_X8_soften (nI m) w (nI L) σ post := by
  show wpI_X8_soften_3 (nI m) w (nI L) 0 σ post
  refine lp_c0 (fun i => (nI m, w, nI L, nI i, pC σ 105 (mp (σ.2 105) 0 i (wF m w L (σ.2 104))))) n ?_ ?_ ?_
  · try dsimp only
    rw [mp_0, pC_self, nI_0]
  · intro kb
    try dsimp only
    unfold wpBI_X8_soften_3
    exact pk_le n n (fun _ => h) (fun z => absurd z (Nat.lt_irrefl n)) hc
  · intro i kb hi hk
    try dsimp only
    unfold wpBI_X8_soften_3
    have v : vp_in (nI i) 40 := vp_in_nI (by omega) (by omega)
    refine pk_le n i (fun z => absurd z (by omega)) (fun _ => ⟨v, v, v, kb_eq hk ?_⟩) hc
    obtain ⟨a, ha, ea⟩ := vp_x (hv i (by omega)) (by omega)
    obtain ⟨s, hs9, es⟩ := vp_x (hs i (by omega)) (by omega)
    have hsl : s * L ≤ 9 * 3 := Nat.mul_le_mul (by omega) hL
    have ed := dd_eq (w := w) (L := L) es (by omega)
    have d1 : -30 ≤ dd w L (σ.2 104) i := by rw [ed]; omega
    have d2 : dd w L (σ.2 104) i ≤ 57 := by rw [ed]; omega
    have t1 : (w + nI s * nI L).toInt = dd w L (σ.2 104) i := by
      rw [pk_mul, i_add (by rw [nI_toInt (by omega)]; omega) (by rw [nI_toInt (by omega)]; omega), nI_toInt (by omega), ed]
    have dm := dmul (m := m) d1 d2
    have t2 : (nI m * (w + nI s * nI L)).toInt = m * dd w L (σ.2 104) i := by
      rw [i_mul (by rw [nI_toInt (by omega), t1]; omega) (by rw [nI_toInt (by omega), t1]; omega), nI_toInt (by omega), t1]
    have t3 : (nI a - nI m * (w + nI s * nI L)).toInt = (a : Int) - m * dd w L (σ.2 104) i := by
      rw [i_sub (by rw [nI_toInt (by omega), t2]; omega) (by rw [nI_toInt (by omega), t2]; omega), nI_toInt (by omega), t2]
    rw [nI_1, nI_clamp (by omega)]
    show (nI m, w, nI L, nI (i + 1), pA (pC σ 105 (mp (σ.2 105) 0 i (wF m w L (σ.2 104)))) 105 i (if 0 < (if mp (σ.2 105) 0 i (wF m w L (σ.2 104)) i - nI m * (w + σ.2 104 i * nI L) < 1000 then mp (σ.2 105) 0 i (wF m w L (σ.2 104)) i - nI m * (w + σ.2 104 i * nI L) else 1000) then (if mp (σ.2 105) 0 i (wF m w L (σ.2 104)) i - nI m * (w + σ.2 104 i * nI L) < 1000 then mp (σ.2 105) 0 i (wF m w L (σ.2 104)) i - nI m * (w + σ.2 104 i * nI L) else 1000) else 0)) = _
    rw [mp_i, ea, es, wv_mx t3, pA_same, mp_s (Nat.zero_le _)]
    unfold wF
    rw [ea, nI_clamp (by omega)]
theorem M_soften {σ : St} {n m L : Nat} {w : Int32} {post : Int32 → St → Prop} (hc : σ.1 1 = nI n) (hn : n ≤ 40) (hm : m ≤ 600) (hw1 : -30 ≤ w.toInt) (hw2 : w.toInt ≤ 30) (hL : L ≤ 3) (hs : ∀ c, c < 40 → vp_in (σ.2 5 c) 10) (hv : ∀ c, c < 40 → vp_in (σ.2 6 c) 1001) (h : post 1 (pC σ 6 (mp (σ.2 6) 0 n (wF m w L (σ.2 5))))) : wpM_weather_48 (nI m) w (nI L) 0 σ post := by
  refine lp_c0 (fun k => (nI m, w, nI L, nI k, pC σ 6 (mp (σ.2 6) 0 n (wF k w L (σ.2 5))))) m ?_ ?_ ?_
  · try dsimp only
    rw [nI_0, mp_id (fun j _ hj => ?_), pC_self]
    obtain ⟨a, ha, ea⟩ := vp_x (hv j (by omega)) (by omega)
    unfold wF
    rw [ea, nI_clamp (by omega), show ((0 : Nat) : Int) * dd w L (σ.2 5) j = 0 by simp, wv_z (by omega)]
  · intro kb
    try dsimp only
    unfold wpBM_weather_48
    exact pk_le m m (fun _ => h) (fun z => absurd z (Nat.lt_irrefl m))
  · intro k kb hk1 hk
    try dsimp only
    unfold wpBM_weather_48
    refine pk_le m k (fun z => absurd z (by omega)) (fun _ => ?_)
    refine lp_c0 (fun i => (nI m, w, nI L, nI k, nI i, pC σ 6 (mp (mp (σ.2 6) 0 n (wF k w L (σ.2 5))) 0 i (wF 1 w L (σ.2 5))))) n ?_ ?_ ?_
    · try dsimp only
      rw [nI_0, mp_0]
    · intro kb2
      try dsimp only
      unfold wpBM_weather_57
      refine pk_le n n (fun _ => kb_eq hk ?_) (fun z => absurd z (Nat.lt_irrefl n)) hc
      show (nI m, w, nI L, nI k + 1, pC σ 6 (mp (mp (σ.2 6) 0 n (wF k w L (σ.2 5))) 0 n (wF 1 w L (σ.2 5)))) = (nI m, w, nI L, nI (k + 1), pC σ 6 (mp (σ.2 6) 0 n (wF (k + 1) w L (σ.2 5))))
      rw [nI_1, mp_mp, mp_c (G := wF (k + 1) w L (σ.2 5)) (fun j _ hj => ?_)]
      obtain ⟨a, ha, ea⟩ := vp_x (hv j (by omega)) (by omega)
      unfold wF
      have := wv_le a ((k : Int) * dd w L (σ.2 5) j)
      rw [ea, nI_clamp (n := a) (by omega), nI_clamp (by omega), show ((1 : Nat) : Int) * dd w L (σ.2 5) j = dd w L (σ.2 5) j by simp, wv_s (by omega)]
    · intro i kb2 hi hk2
      try dsimp only
      unfold wpBM_weather_57
      have v : vp_in (nI i) 40 := vp_in_nI (by omega) (by omega)
      refine pk_le n i (fun z => absurd z (by omega)) (fun _ => ⟨v, v, M_bd ⟨v, kb_eq hk2 ?_⟩⟩) hc
      obtain ⟨a, ha, ea⟩ := vp_x (hv i (by omega)) (by omega)
      obtain ⟨s, hs9, es⟩ := vp_x (hs i (by omega)) (by omega)
      have hsl : s * L ≤ 9 * 3 := Nat.mul_le_mul (by omega) hL
      have ed := dd_eq (w := w) (L := L) es (by omega)
      have eb : mp (σ.2 6) 0 n (wF k w L (σ.2 5)) i = nI (wv a ((k : Int) * dd w L (σ.2 5) i)) := by
        rw [mp_in (Nat.zero_le _) hi]
        unfold wF
        rw [ea, nI_clamp (by omega)]
      have hb := wv_le a ((k : Int) * dd w L (σ.2 5) i)
      generalize wv a ((k : Int) * dd w L (σ.2 5) i) = b at eb hb
      have t1 : (nI b - w).toInt = (b : Int) - w.toInt := by
        rw [i_sub (by rw [nI_toInt (by omega)]; omega) (by rw [nI_toInt (by omega)]; omega), nI_toInt (by omega)]
      have t2 : (nI b - w - nI s * nI L).toInt = (b : Int) - dd w L (σ.2 5) i := by
        rw [pk_mul, i_sub (by rw [t1, nI_toInt (by omega)]; omega) (by rw [t1, nI_toInt (by omega)]; omega), nI_toInt (by omega), t1, ed]
        omega
      rw [nI_1, nI_clamp (by omega)]
      show (nI m, w, nI L, nI k, nI (i + 1), pA (pC σ 6 (mp (mp (σ.2 6) 0 n (wF k w L (σ.2 5))) 0 i (wF 1 w L (σ.2 5)))) 6 i (bd (mp (mp (σ.2 6) 0 n (wF k w L (σ.2 5))) 0 i (wF 1 w L (σ.2 5)) i - w - σ.2 5 i * nI L) 0 1000)) = _
      rw [mp_i, eb, es, wv_bd t2, pA_same, mp_s (Nat.zero_le _)]
      unfold wF
      rw [show mp (σ.2 6) 0 n (fun c v => nI (wv v.toNatClampNeg ((k : Int) * dd w L (σ.2 5) c))) i = nI b from eb, nI_clamp (by omega), show ((1 : Nat) : Int) * dd w L (σ.2 5) i = dd w L (σ.2 5) i by simp]
theorem T_weather {σ τ : St} {x w l : Int32} (h : Rel σ τ) : wpI_X10_weather x w l σ (fun r σ' => wpM_weather x w l τ (fun r' τ' => r = r' ∧ Rel σ' τ')) := by
  have e : σ.1 100 = τ.1 1 := h.a0.i (by decide)
  have f4 : σ.2 104 = τ.2 5 := h.a0.a (by decide)
  have f5 : σ.2 105 = τ.2 6 := h.a0.a (by decide)
  have hM : ∀ post : Int32 → St → Prop, ((1 ≤ x ∧ x ≤ 600) ∧ (-30 ≤ w ∧ w ≤ 30) ∧ (0 ≤ l ∧ l ≤ 3) ∧ ¬ τ.1 1 = 0 → wpM_weather_48 x w l 0 (pI τ 0 0) post) → (¬ ((1 ≤ x ∧ x ≤ 600) ∧ (-30 ≤ w ∧ w ≤ 30) ∧ (0 ≤ l ∧ l ≤ 3) ∧ ¬ τ.1 1 = 0) → post 0 (pI τ 0 0)) → wpM_weather x w l τ post := fun post hy hn =>
    ⟨fun z => hn (fun c => c.2.2.2 z), fun q4 => M_in (bz_br (fun z => hn (fun c => z c.1)) (fun q1 => M_in (bz_br (fun z => hn (fun c => z c.2.1)) (fun q2 => M_in (bz_rb (fun q3 => hy ⟨q1, q2, q3, q4⟩) (fun z => hn (fun c => z c.2.2.1)))))))⟩
  have hn : ¬ ((1 ≤ x ∧ x ≤ 600) ∧ (-30 ≤ w ∧ w ≤ 30) ∧ (0 ≤ l ∧ l ≤ 3) ∧ ¬ τ.1 1 = 0) → wpM_weather x w l τ (fun r' τ' => (0 : Int32) = r' ∧ Rel σ τ') := fun m => hM _ (fun c => absurd c m) (fun _ => ⟨rfl, h.th 0⟩)
  have f0 : ¬ ((1 ≤ x ∧ x ≤ 600) ∧ (-30 ≤ w ∧ w ≤ 30) ∧ (0 ≤ l ∧ l ≤ 3) ∧ ¬ τ.1 1 = 0) → wpI_X10_weather_35 x w l σ (fun r σ' => wpM_weather x w l τ (fun r' τ' => r = r' ∧ Rel σ' τ')) := fun m => ⟨fun _ => hn m, fun q => absurd rfl q⟩
  refine I_in (bz_br (fun z => f0 (fun c => z c.1)) (fun q1 => I_in (bz_br (fun z => f0 (fun c => z c.2.1)) (fun q2 => I_in (bz_br (fun z => f0 (fun c => z c.2.2.1)) (fun q3 => ⟨fun q => absurd q (by decide), fun _ => ⟨fun q4 => ?_, fun z => hn (fun c => c.2.2.2 (e ▸ z))⟩⟩))))))
  rw [e] at q4
  have g := And.intro q1 (And.intro q2 (And.intro q3 q4))
  obtain ⟨n, hn40, hc⟩ := h.cells
  obtain ⟨m, -, hm, rfl⟩ := rng (l := 1) (h := 600) rfl rfl (by omega) (by omega) q1
  obtain ⟨L, -, hL, rfl⟩ := rng (l := 0) (h := 3) rfl rfl (by omega) (by omega) q3
  have w1 := Int32.le_iff_toInt_le.mp q2.1
  have w2 := Int32.le_iff_toInt_le.mp q2.2
  rw [show (-30 : Int32).toInt = -30 by decide] at w1
  rw [show (30 : Int32).toInt = 30 by decide] at w2
  refine I_soften (e.trans hc) hn40 hm w1 w2 hL (f4 ▸ h.a2.1) (f5 ▸ h.a2.2.1) (hM _ (fun _ => M_soften hc hn40 hm w1 w2 hL h.a2.1 h.a2.2.1 ⟨rfl, ?_⟩) (fun k => absurd g k))
  refine ⟨(h.th 0).a0.vC (k := 105) (k' := 6) (by decide) (by rw [f4, f5]; rfl), h.a1, ⟨h.a2.1, mp_v (f := τ.2 6) (F := wF m w L (τ.2 5)) h.a2.2.1 (fun j _ q => ?_), h.a2.2.2⟩, h.2.2.2⟩
  exact vp_in_nI (by have := wv_le (τ.2 6 j).toNatClampNeg ((m : Int) * dd w L (τ.2 5) j); show wv _ _ < 1001; omega) (by omega)
/-! ===== glide, the time in a cell ===== -/
theorem cl_eq (v : Int32) : (if -200 < (if v < 200 then v else 200) then (if v < 200 then v else 200) else -200) = bd v (-200) 200 := by
  unfold bd
  have k0 : (-200 ≤ v) ↔ -200 ≤ v.toInt := by rw [Int32.le_iff_toInt_le]; rfl
  have k1 : (v ≤ 200) ↔ v.toInt ≤ 200 := by rw [Int32.le_iff_toInt_le]; rfl
  have k2 : (v < 200) ↔ v.toInt < 200 := by rw [Int32.lt_iff_toInt_lt]; rfl
  have k3 : (-200 < v) ↔ -200 < v.toInt := by rw [Int32.lt_iff_toInt_lt]; rfl
  by_cases q : v < 200
  · rw [if_pos q]
    have q1 : v ≤ 200 := k1.mpr (by have := k2.mp q; omega)
    by_cases r : -200 < v
    · rw [if_pos r, if_pos (k0.mpr (by have := k3.mp r; omega)), if_pos q1]
    · rw [if_neg r]
      by_cases s : -200 ≤ v
      · rw [if_pos s, if_pos q1]
        refine Int32.toInt_inj.mp ?_
        have := k0.mp s
        have : ¬ -200 < v.toInt := fun c => r (k3.mpr c)
        rw [show (-200 : Int32).toInt = -200 by decide]
        omega
      · rw [if_neg s]
  · rw [if_neg q, if_pos (by decide)]
    have q' : ¬ v.toInt < 200 := fun c => q (k2.mpr c)
    rw [if_pos (k0.mpr (by omega))]
    by_cases r : v ≤ 200
    · rw [if_pos r]
      refine Int32.toInt_inj.mp ?_
      have := k1.mp r
      rw [show (200 : Int32).toInt = 200 by decide]
      omega
    · rw [if_neg r]
def gl (le row : Nat → Int32) (k a : Nat) : Int32 := if a / 125 < (le k).toNatClampNeg then bd (row (9 * k + a / 125)) (-200) 200 else 0
theorem M_glideOf {τ : St} {k a : Nat} {post : Int32 → St → Prop} (hk : k < 4) (ha : a ≤ 1000) (hN : RN (τ.2 11)) (h : post (gl (τ.2 11) (τ.2 12) k a) τ) : wpM_glideOf (nI k) (nI a) τ post := by
  obtain ⟨L, hL, e⟩ := vp_x (hN k hk) (by omega)
  have ed : nI a / 125 = nI (a / 125) := pk_div (d := 125) (by omega) (by omega) (by omega)
  have e9 : 9 * nI k + nI (a / 125) = nI (9 * k + a / 125) := by rw [show (9 : Int32) = nI 9 from rfl, pk_mul, nI_add]
  unfold gl at h
  rw [e, nI_clamp (by omega)] at h
  unfold wpM_glideOf
  try dsimp only
  rw [ed, nI_clamp (by omega), e, e9, nI_clamp (by omega)]
  refine ⟨vp_in_nI hk (by omega), pk_lt (a / 125) L (fun q => ?_) (fun q => ?_)⟩
  · rw [if_pos q] at h
    exact ⟨vp_in_nI (by omega) (by omega), M_bd h⟩
  · rw [if_neg (by omega)] at h
    exact h
theorem RW.at {σ : St} {row : Nat → Int32} (h : RW (σ.2 250) (σ.2 251) (σ.2 252) (σ.2 253) row) : ∀ k, k < 4 → ∀ i, i < 9 → σ.2 (250 + k) i = row (9 * k + i)
  | 0, _, i, hi => by rw [show 9 * 0 + i = i by omega]; exact (h i hi).1
  | 1, _, i, hi => (h i hi).2.1
  | 2, _, i, hi => (h i hi).2.2.1
  | 3, _, i, hi => (h i hi).2.2.2
  | k + 4, hk, _, _ => absurd hk (by omega)
theorem I_glideOf {σ : St} {row : Nat → Int32} {k a : Nat} {post : Int32 → St → Prop} (hk : k < 4) (ha : a ≤ 1000) (hN : RN (σ.2 201)) (hW : RW (σ.2 250) (σ.2 251) (σ.2 252) (σ.2 253) row) (h : post (gl (σ.2 201) row k a) σ) : wpI_X3_glideOf (nI k) (nI a) σ post := by
  obtain ⟨L, hL, e⟩ := vp_x (hN k hk) (by omega)
  have ed : nI a / 125 = nI (a / 125) := pk_div (d := 125) (by omega) (by omega) (by omega)
  have v4 : vp_in (nI k) 4 := vp_in_nI hk (by omega)
  unfold gl at h
  rw [e, nI_clamp (by omega)] at h
  unfold wpI_X3_glideOf
  try dsimp only
  rw [ed, nI_clamp (by omega), e]
  refine ⟨v4, I_in (bz_rb (fun q => ?_) (fun q => ?_))⟩
  · obtain ⟨j, hj, ej⟩ := in_of (by omega) q
    have ej' := (nI_eq (by omega) (by omega)).mp ej
    rw [if_pos (by omega), ← hW.at k hk (a / 125) (by omega), ← cl_eq] at h
    refine ⟨v4, vp_in_nI (by omega) (by omega), ?_⟩
    rw [nI_clamp (by omega)]
    exact h
  · rw [if_neg (fun c => q ⟨nI_pos' (by omega), ?_⟩)] at h
    · exact h
    · rw [nI_s1 (by omega)]
      exact nI_le (by omega) (by omega)
theorem mx1 (v : Int32) : (if 1 < v then v else 1) = if 1 ≤ v then v else 1 := by
  have k0 : (1 ≤ v) ↔ 1 ≤ v.toInt := by rw [Int32.le_iff_toInt_le]; rfl
  have k1 : (1 < v) ↔ 1 < v.toInt := by rw [Int32.lt_iff_toInt_lt]; rfl
  by_cases q : 1 < v
  · rw [if_pos q, if_pos (k0.mpr (by have := k1.mp q; omega))]
  · rw [if_neg q]
    by_cases r : 1 ≤ v
    · rw [if_pos r]
      refine Int32.toInt_inj.mp ?_
      have := k0.mp r
      have : ¬ 1 < v.toInt := fun c => q (k1.mpr c)
      rw [show (1 : Int32).toInt = 1 by decide]
      omega
    · rw [if_neg r]
def TM (be sh ha ru le row : Nat → Int32) (c : Nat) (w : Int32) (k : Nat) (s : Int32) : Int32 := if 1 ≤ ((((be c + (1000 - ha c) / 8) + 2 * ru c) + gl le row k (ha c).toNatClampNeg) + (9 - s) * sh c) - w / 8 then ((((be c + (1000 - ha c) / 8) + 2 * ru c) + gl le row k (ha c).toNatClampNeg) + (9 - s) * sh c) - w / 8 else 1
theorem I_timeInCell {σ : St} {row : Nat → Int32} {c k : Nat} {w s : Int32} {post : Int32 → St → Prop} (hc : c < 40) (hk : k < 4) (hh : vp_in (σ.2 105 c) 1001) (hN : RN (σ.2 201)) (hW : RW (σ.2 250) (σ.2 251) (σ.2 252) (σ.2 253) row) (h : post (TM (σ.2 102) (σ.2 103) (σ.2 105) (σ.2 106) (σ.2 201) row c w k s) σ) : wpI_X10_timeInCell (nI c) w (nI k) s σ post := by
  obtain ⟨a, ha, e⟩ := vp_x hh (by omega)
  have v : vp_in (nI c) 40 := vp_in_nI hc (by omega)
  unfold wpI_X10_timeInCell
  refine ⟨v, ?_⟩
  rw [nI_clamp (by omega), e]
  refine I_glideOf hk (by omega) hN hW ?_
  unfold wpI_X8_timeOf
  try dsimp only
  rw [nI_clamp (by omega)]
  refine ⟨v, v, v, v, ?_⟩
  unfold TM at h
  rw [mx1]
  rw [e, nI_clamp (by omega)] at h
  rw [e]
  exact h
theorem M_timeOf {τ : St} {c k : Nat} {w s : Int32} {post : Int32 → St → Prop} (hc : c < 40) (hk : k < 4) (hh : vp_in (τ.2 6 c) 1001) (hN : RN (τ.2 11)) (h : post (TM (τ.2 3) (τ.2 4) (τ.2 6) (τ.2 7) (τ.2 11) (τ.2 12) c w k s) τ) : wpM_timeOf (nI c) w (nI k) s τ post := by
  obtain ⟨a, ha, e⟩ := vp_x hh (by omega)
  have v : vp_in (nI c) 40 := vp_in_nI hc (by omega)
  unfold wpM_timeOf
  rw [nI_clamp (by omega), e]
  refine ⟨v, v, v, v, M_glideOf hk (by omega) hN ⟨v, ?_⟩⟩
  unfold TM at h
  rw [e, nI_clamp (by omega)] at h
  refine ⟨fun q => ?_, fun q => ?_⟩
  · rw [if_pos q] at h
    exact h
  · rw [if_neg q] at h
    exact h
/-- what of the ice both sides must hold while a sled comes down -/
def RX (σ τ : St) : Prop := RN (τ.2 11) ∧ RW (σ.2 250) (σ.2 251) (σ.2 252) (σ.2 253) (τ.2 12) ∧ σ.2 102 = τ.2 3 ∧ σ.2 103 = τ.2 4 ∧ σ.2 201 = τ.2 11
theorem Rel.rx {σ τ : St} (h : Rel σ τ) : RX σ τ := ⟨h.a3, h.a4, h.a0.a (by decide), h.a0.a (by decide), h.a0.a (by decide)⟩
def stdV (τ : St) (n : Nat) : Int32 := sm (fun c => TM (τ.2 3) (τ.2 4) (τ.2 6) (τ.2 7) (τ.2 11) (τ.2 12) c 100 0 5) n
theorem I_standardNow {σ τ : St} {n : Nat} {post : Int32 → St → Prop} (hn : n ≤ 40) (hc : σ.1 100 = nI n) (hx : RX σ τ) (h5 : σ.2 105 = τ.2 6) (h6 : σ.2 106 = τ.2 7) (hv : ∀ c, c < 40 → vp_in (τ.2 6 c) 1001) (h : post (stdV τ n) σ) : wpI_X10_standardNow σ post := by
  refine lp_c0 (fun i => (stdV τ i, nI i, σ)) n rfl ?_ ?_
  · intro kb
    try dsimp only
    unfold wpBI_X10_standardNow_4
    exact pk_le n n (fun _ => h) (fun z => absurd z (Nat.lt_irrefl n)) hc
  · intro i kb hi hk
    try dsimp only
    unfold wpBI_X10_standardNow_4
    refine pk_le n i (fun z => absurd z (by omega)) (fun _ => ?_) hc
    refine I_timeInCell (k := 0) (row := τ.2 12) (by omega) (by omega) (h5 ▸ hv i (by omega)) (hx.2.2.2.2 ▸ hx.1) hx.2.1 (kb_eq hk ?_)
    rw [nI_1, hx.2.2.1, hx.2.2.2.1, h5, h6, hx.2.2.2.2]
    rfl
theorem M_standard9 {τ : St} {n : Nat} {post : Int32 → St → Prop} (hn : n ≤ 40) (hc : τ.1 1 = nI n) (hN : RN (τ.2 11)) (hv : ∀ c, c < 40 → vp_in (τ.2 6 c) 1001) (h : post (stdV τ n) τ) : wpM_standard_9 0 0 τ post := by
  refine lp_c0 (fun i => (stdV τ i, nI i, τ)) n rfl ?_ ?_
  · intro kb
    try dsimp only
    unfold wpBM_standard_9
    exact pk_le n n (fun _ => h) (fun z => absurd z (Nat.lt_irrefl n)) hc
  · intro i kb hi hk
    try dsimp only
    unfold wpBM_standard_9
    refine pk_le n i (fun z => absurd z (by omega)) (fun _ => ?_) hc
    refine M_timeOf (k := 0) (by omega) (by omega) (hv i (by omega)) hN (kb_eq hk ?_)
    rw [nI_1]
    rfl
theorem T_standard {σ τ : St} (h : Rel σ τ) : wpI_X10_standard σ (fun r σ' => wpM_standard τ (fun r' τ' => r = r' ∧ Rel σ' τ')) := by
  have e : σ.1 100 = τ.1 1 := h.a0.i (by decide)
  obtain ⟨n, hn40, hc⟩ := h.cells
  exact I_standardNow hn40 (e.trans hc) h.rx (h.a0.a (by decide)) (h.a0.a (by decide)) h.a2.2.1 (M_standard9 (τ := pI τ 0 0) hn40 hc h.a3 h.a2.2.1 ⟨rfl, h.th 0⟩)

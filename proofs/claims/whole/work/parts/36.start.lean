/-! ===== start: a sled comes down ===== -/
theorem TM_c {be sh ha ha' ru ru' le row : Nat → Int32} {c k : Nat} {w s : Int32} (h1 : ha c = ha' c) (h2 : ru c = ru' c) : TM be sh ha ru le row c w k s = TM be sh ha' ru' le row c w k s := by
  unfold TM
  rw [h1, h2]
def smf (f : Nat → Int32) (a : Nat) : Nat → Int32
  | 0 => 0
  | d + 1 => smf f a d + f (a + d)
theorem sm_smf {f : Nat → Int32} {a : Nat} : ∀ d : Nat, sm f a + smf f a d = sm f (a + d)
  | 0 => Int32.add_zero _
  | d + 1 => by
    show sm f a + (smf f a d + f (a + d)) = sm f (a + d) + f (a + d)
    rw [← sm_smf d, Int32.add_assoc]
def dc2 (_ : Nat) (v : Int32) : Int32 := nI (v.toNatClampNeg - 2)
def wrW (W _ : Nat) (v : Int32) : Int32 := nI (if v.toNatClampNeg + 1 + W / 64 < 100 then v.toNatClampNeg + 1 + W / 64 else 100)
theorem wr_I {u W : Nat} (hu : u ≤ 100) (hW : W ≤ 200) : (if nI u + 1 + nI W / 64 < 100 then nI u + 1 + nI W / 64 else 100) = nI (if u + 1 + W / 64 < 100 then u + 1 + W / 64 else 100) := by
  have e : nI u + 1 + nI W / 64 = nI (u + 1 + W / 64) := by
    rw [nI_1, show nI W / 64 = nI (W / 64) from pk_div (d := 64) (by omega) (by omega) (by omega), nI_add]
  rw [e]
  by_cases c : u + 1 + W / 64 < 100
  · rw [if_pos c, if_pos (show nI (u + 1 + W / 64) < 100 from nI_lt (b := 100) c (by omega))]
  · rw [if_neg c, if_neg (show ¬ nI (u + 1 + W / 64) < 100 from nI_nlt (b := 100) (by omega) (by omega))]
    rfl
theorem wr_M {u W : Nat} (hu : u ≤ 100) (hW : W ≤ 200) : bd (nI u + 1 + nI W / 64) 0 100 = nI (if u + 1 + W / 64 < 100 then u + 1 + W / 64 else 100) := by
  have e : nI u + 1 + nI W / 64 = nI (u + 1 + W / 64) := by
    rw [nI_1, show nI W / 64 = nI (W / 64) from pk_div (d := 64) (by omega) (by omega) (by omega), nI_add]
  rw [e]
  unfold bd
  rw [if_pos (nI_pos' (by omega))]
  by_cases c : u + 1 + W / 64 < 100
  · rw [if_pos c, if_pos (show nI (u + 1 + W / 64) ≤ 100 from nI_le (b := 100) (by omega) (by omega))]
  · rw [if_neg c]
    by_cases c2 : u + 1 + W / 64 = 100
    · rw [c2, if_pos (by decide)]
    · rw [if_neg (show ¬ nI (u + 1 + W / 64) ≤ 100 from nI_ge (a := 100) (by omega) (by omega))]
      rfl
theorem dc2_v {ha : Nat → Int32} {n : Nat} (h : ∀ c, c < 40 → vp_in (ha c) 1001) : ∀ c, c < 40 → vp_in (mp ha 0 n dc2 c) 1001 := mp_v h (fun j hj q => by
  obtain ⟨a, ha, e⟩ := vp_x q (by omega)
  unfold dc2
  rw [e, nI_clamp (by omega)]
  exact vp_in_nI (by omega) (by omega))
theorem wr_v {ru : Nat → Int32} {n W : Nat} (h : ∀ c, c < 40 → vp_in (ru c) 101) : ∀ c, c < 40 → vp_in (mp ru 0 n (wrW W) c) 101 := mp_v h (fun j hj q => by
  unfold wrW
  split <;> exact vp_in_nI (by omega) (by omega))
/-- the ice behind a sled that came through the first i cells -/
def icI (Z : St) (ha ru : Nat → Int32) (W i : Nat) : St := pC (pC Z 106 (mp ru 0 i (wrW W))) 105 (mp ha 0 i dc2)
def icM (Z : St) (ha ru : Nat → Int32) (W i : Nat) : St := pC (pC Z 7 (mp ru 0 i (wrW W))) 6 (mp ha 0 i dc2)
theorem I_ride {Z : St} {ha ru row : Nat → Int32} {W k s a b : Nat} {post : Int32 → St → Prop} (hab : a ≤ b) (hb : b ≤ 40) (hs : s < 16) (hW : W ≤ 200) (hk : k < 4) (ew : Z.2 302 s = nI W) (ek : Z.2 303 s = nI k) (hN : RN (Z.2 201)) (hR : RW (Z.2 250) (Z.2 251) (Z.2 252) (Z.2 253) row) (hha : ∀ c, c < 40 → vp_in (ha c) 1001) (hru : ∀ c, c < 40 → vp_in (ru c) 101) (h : post (smf (fun c => TM (Z.2 102) (Z.2 103) ha ru (Z.2 201) row c (nI W) k (Z.2 304 s)) a (b - a)) (icI Z ha ru W b)) : wpI_X10_ride (nI s) (nI a) (nI b) (icI Z ha ru W a) post := by
  show wpI_X10_ride_6 (nI s) (nI b) 0 (nI a) (icI Z ha ru W a) post
  refine lp_ci (fun i => (nI s, nI b, smf (fun c => TM (Z.2 102) (Z.2 103) ha ru (Z.2 201) row c (nI W) k (Z.2 304 s)) a (i - a), nI i, icI Z ha ru W i)) a b hab ?_ ?_ ?_
  · rw [Nat.sub_self]
    rfl
  · intro kb
    dsimp only
    unfold wpBI_X10_ride_6
    exact pk_le b b (fun _ => h) (fun z => absurd z (Nat.lt_irrefl b))
  · intro i kb h1 hi hk2
    dsimp only
    unfold wpBI_X10_ride_6
    have v16 : vp_in (nI s) 16 := vp_in_nI hs (by omega)
    have v40 : vp_in (nI i) 40 := vp_in_nI (by omega) (by omega)
    rw [nI_clamp (n := s) (by omega), show (icI Z ha ru W i).2 302 s = nI W from ew, show (icI Z ha ru W i).2 303 s = nI k from ek]
    refine pk_le b i (fun z => absurd z (by omega)) (fun _ => ⟨v16, v16, v16, I_timeInCell (σ := icI Z ha ru W i) (row := row) (by omega) hk ?_ hN hR ⟨v16, ?_⟩⟩)
    · show vp_in (mp ha 0 i dc2 i) 1001
      rw [mp_i]
      exact hha i (by omega)
    · unfold wpI_X8_wear
      rw [nI_clamp (by omega)]
      refine ⟨v40, v40, v40, v40, ?_⟩
      obtain ⟨u, hu, eu⟩ := vp_x (hru i (by omega)) (by omega)
      obtain ⟨x, hx, ex⟩ := vp_x (hha i (by omega)) (by omega)
      refine kb_eq hk2 ?_
      rw [show (icI Z ha ru W i).2 302 s = nI W from ew]
      show (nI s, nI b, smf (fun c => TM (Z.2 102) (Z.2 103) ha ru (Z.2 201) row c (nI W) k (Z.2 304 s)) a (i - a) + TM (Z.2 102) (Z.2 103) (mp ha 0 i dc2) (mp ru 0 i (wrW W)) (Z.2 201) row i (nI W) k (Z.2 304 s), nI i + 1, pA (pA (pC (pC Z 106 (mp ru 0 i (wrW W))) 105 (mp ha 0 i dc2)) 106 i (if mp ru 0 i (wrW W) i + 1 + nI W / 64 < 100 then mp ru 0 i (wrW W) i + 1 + nI W / 64 else 100)) 105 i (if 0 < mp ha 0 i dc2 i - nI 2 then mp ha 0 i dc2 i - nI 2 else 0)) = _
      rw [TM_c (ha' := ha) (ru' := ru) mp_i mp_i, mp_i, mp_i, eu, ex, wr_I (by omega) hW, dec_mx (by omega) (by omega), nI_1, pA_ne (by decide), pA_same, pA_same, mp_s (Nat.zero_le _) (show nI (if u + 1 + W / 64 < 100 then u + 1 + W / 64 else 100) = wrW W i (ru i) by unfold wrW; rw [eu, nI_clamp (by omega)]), mp_s (Nat.zero_le _) (show nI (x - 2) = dc2 i (ha i) by unfold dc2; rw [ex, nI_clamp (by omega)])]
      show (nI s, nI b, smf (fun c => TM (Z.2 102) (Z.2 103) ha ru (Z.2 201) row c (nI W) k (Z.2 304 s)) a (i - a) + TM (Z.2 102) (Z.2 103) ha ru (Z.2 201) row i (nI W) k (Z.2 304 s), _, _) = (_, _, smf (fun c => TM (Z.2 102) (Z.2 103) ha ru (Z.2 201) row c (nI W) k (Z.2 304 s)) a (i + 1 - a), _, _)
      rw [show i + 1 - a = (i - a) + 1 by omega]
      show _ = (_, _, smf (fun c => TM (Z.2 102) (Z.2 103) ha ru (Z.2 201) row c (nI W) k (Z.2 304 s)) a (i - a) + TM (Z.2 102) (Z.2 103) ha ru (Z.2 201) row (a + (i - a)) (nI W) k (Z.2 304 s), _, _)
      rw [show a + (i - a) = i by omega]
      rfl
/-! the gates -/
def tgv (er : Nat → Int32) (g : Nat) (t : Int32) : Int32 := if g = 0 then 0 else if ¬ er (2 * g) = 100 then t + er (2 * g) else if ¬ er (2 * g + 1) = 100 then t + er (2 * g + 1) else -1000000
def dgv (er : Nat → Int32) (g : Nat) : Int32 := if g = 0 then 0 else if er (2 * g) = 100 ∨ er (2 * g + 1) = 100 then 0 else if er (2 * g) ≤ er (2 * g + 1) then er (2 * g + 1) - er (2 * g) else er (2 * g) - er (2 * g + 1)
theorem I_timeAtGate {σ : St} {g : Nat} {t : Int32} {post : Int32 → St → Prop} (h1 : 1 ≤ g) (hg : g < 6) (h : post (tgv (σ.2 108) g t) σ) : wpI_X8_timeAtGate (nI g) t σ post := by
  have e1 : nI g * 2 = nI (2 * g) := by rw [show (2 : Int32) = nI 2 from rfl, pk_mul, Nat.mul_comm]
  unfold wpI_X8_timeAtGate
  dsimp only
  rw [e1, nI_1, nI_clamp (by omega), nI_clamp (by omega)]
  unfold tgv at h
  rw [if_neg (show ¬ g = 0 by omega)] at h
  refine ⟨vp_in_nI (by omega) (by omega), vp_in_nI (by omega) (by omega), fun z => ⟨fun z2 => ?_, fun z2 => ?_⟩, fun z => ?_⟩
  · rw [if_neg (fun c => c z), if_neg (fun c => c z2)] at h
    exact h
  · rw [if_neg (fun c => c z), if_pos z2] at h
    exact h
  · rw [if_pos z] at h
    exact h
theorem ab_eq {a b : Int32} (ha : -50 ≤ a.toInt ∧ a.toInt ≤ 100) (hb : -50 ≤ b.toInt ∧ b.toInt ≤ 100) : (if 0 ≤ a - b then a - b else 0 - (a - b)) = if a ≤ b then b - a else a - b := by
  have e := i_sub (x := a) (y := b) (by omega) (by omega)
  have k0 : (0 ≤ a - b) ↔ 0 ≤ a.toInt - b.toInt := by rw [Int32.le_iff_toInt_le, Int32.toInt_zero, e]
  have k1 : (a ≤ b) ↔ a.toInt ≤ b.toInt := Int32.le_iff_toInt_le
  by_cases q : a ≤ b
  · rw [if_pos q]
    by_cases r : 0 ≤ a - b
    · rw [if_pos r]
      have := k0.mp r
      have := k1.mp q
      have e3 : a = b := Int32.toInt_inj.mp (by omega)
      rw [e3]
    · rw [if_neg r, Int32.zero_sub, Int32.neg_sub]
  · rw [if_neg q]
    rw [if_pos (k0.mpr (by have : ¬ a.toInt ≤ b.toInt := fun c => q (k1.mpr c); omega))]
theorem I_doubleAtGate {σ : St} {g : Nat} {post : Int32 → St → Prop} (h1 : 1 ≤ g) (hg : g < 6) (he : ∀ i, i < 12 → -50 ≤ (σ.2 108 i).toInt ∧ (σ.2 108 i).toInt ≤ 100) (h : post (dgv (σ.2 108) g) σ) : wpI_X8_doubleAtGate (nI g) σ post := by
  have e1 : nI g * 2 = nI (2 * g) := by rw [show (2 : Int32) = nI 2 from rfl, pk_mul, Nat.mul_comm]
  unfold wpI_X8_doubleAtGate
  dsimp only
  rw [e1, nI_1, nI_clamp (by omega), nI_clamp (by omega)]
  unfold dgv at h
  rw [if_neg (show ¬ g = 0 by omega)] at h
  refine ⟨vp_in_nI (by omega) (by omega), vp_in_nI (by omega) (by omega), fun z => ?_, fun z => ⟨fun z2 => ?_, fun z2 => ?_⟩⟩
  · rw [if_pos (Or.inl z)] at h
    exact h
  · rw [if_neg (fun c => c.elim z z2), ← ab_eq (he _ (by omega)) (he _ (by omega))] at h
    exact h
  · rw [if_pos (Or.inr z2)] at h
    exact h
theorem M_passes {τ : St} {k g : Nat} {t : Int32} {post : St → Prop} (hk : k < 64) (hg : g < 6) (h : post (pA (pA τ 34 (6 * k + g) (tgv (τ.2 9) g t)) 35 (6 * k + g) (dgv (τ.2 9) g))) : wpM_passes (nI k) (nI g) t τ post := by
  have e1 : 2 * nI g = nI (2 * g) := by rw [show (2 : Int32) = nI 2 from rfl, pk_mul]
  have e6 : 6 * nI k + nI g = nI (6 * k + g) := by rw [show (6 : Int32) = nI 6 from rfl, pk_mul, nI_add]
  have v : vp_in (nI (6 * k + g)) 384 := vp_in_nI (by omega) (by omega)
  have c136 : ∀ (y : Int32) (S : St), wpM_passes_136 (6 * nI k + nI g) y S post = (vp_in (nI (6 * k + g)) 384 ∧ post (pA S 35 (6 * k + g) y)) := by
    intro y S
    unfold wpM_passes_136
    rw [e6, nI_clamp (by omega)]
  unfold wpM_passes
  dsimp only
  rw [e1, nI_1, nI_clamp (by omega), nI_clamp (by omega)]
  have k82 : ∀ (f y : Int32), (g = 0 ↔ ¬ f = 0) → y = tgv (τ.2 9) g t → wpM_passes_82 (nI k) (nI g) (τ.2 9 (2 * g)) (τ.2 9 (2 * g + 1)) f (6 * nI k + nI g) y τ post := by
    intro f y hf hy
    unfold wpM_passes_82 wpM_passes_112
    dsimp only
    rw [c136, c136, c136, e6, nI_clamp (by omega), hy]
    unfold dgv at h
    refine ⟨v, fun z => ⟨v, ?_⟩, fun z => ⟨fun z2 => ⟨v, ?_⟩, fun z2 => ⟨fun z3 => ⟨fun z4 => ⟨v, ?_⟩, fun z4 => ⟨v, ?_⟩⟩, fun z3 => ⟨v, ?_⟩⟩⟩⟩
    · rw [if_pos (hf.mpr z)] at h
      exact h
    · rw [if_neg (fun c => hf.mp c z), if_pos (Or.inl z2)] at h
      exact h
    · rw [if_neg (fun c => hf.mp c z), if_neg (fun c => c.elim z2 z3), if_pos z4] at h
      exact h
    · rw [if_neg (fun c => hf.mp c z), if_neg (fun c => c.elim z2 z3), if_neg z4] at h
      exact h
    · rw [if_neg (fun c => hf.mp c z), if_pos (Or.inr z3)] at h
      exact h
  refine ⟨vp_in_nI (by omega) (by omega), vp_in_nI (by omega) (by omega), And.symm (pk_eq g 0 (fun z => ?_) (fun z => ?_))⟩
  · refine ⟨fun z2 => absurd z2 (by decide), fun _ => k82 _ _ ⟨fun _ => by decide, fun _ => z⟩ ?_⟩
    unfold tgv
    rw [if_pos z]
  · have hf : g = 0 ↔ ¬ (0 : Int32) = 0 := ⟨fun c => absurd c z, fun c => absurd rfl c⟩
    refine ⟨fun _ => ⟨fun z2 => ⟨fun z3 => k82 _ _ hf ?_, fun z3 => k82 _ _ hf ?_⟩, fun z2 => k82 _ _ hf ?_⟩, fun c => absurd rfl c⟩
    · unfold tgv
      rw [if_neg z, if_neg (fun c => c z2), if_neg (fun c => c z3)]
    · unfold tgv
      rw [if_neg z, if_neg (fun c => c z2), if_pos z3]
    · unfold tgv
      rw [if_neg z, if_pos z2]

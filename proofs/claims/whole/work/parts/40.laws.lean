/-! ===== laws: the tokens ===== -/
theorem pI_cm {σ : St} {k k' : Nat} {v w : Int32} (h : k ≠ k') : pI (pI σ k v) k' w = pI (pI σ k' w) k v := by
  refine Prod.ext (funext fun j => ?_) rfl
  show (pI (pI σ k v) k' w).1 j = (pI (pI σ k' w) k v).1 j
  rw [pI_1, pI_1, pI_1, pI_1]
  by_cases e : j = k'
  · subst e
    rw [if_pos rfl, if_neg (fun c => h c.symm), if_pos rfl]
  · rw [if_neg e, if_neg e]
def bb (f : Nat → Int32) (i : Nat) : Int32 := f i &&& 255
def blk (f : Nat → Int32) (n i : Nat) : Prop := i < n ∧ (bb f i = 32 ∨ bb f i = 10)
def ltr (f : Nat → Int32) (n i : Nat) : Prop := i < n ∧ ¬ bb f i < 97 ∧ ¬ 122 < bb f i
def dgt (f : Nat → Int32) (n i : Nat) : Prop := i < n ∧ ¬ bb f i < 48 ∧ ¬ 57 < bb f i
theorem I_byteY {σ : St} {n i : Nat} {post : Int32 → St → Prop} (hn : n ≤ 300) (e : σ.1 400 = nI n) (hi : i < n) (h : post (bb (σ.2 401) i) σ) : wpI_X7_byteAt (nI i) σ post := by
  unfold wpI_X7_byteAt
  rw [nI_clamp (by omega)]
  exact ⟨fun z => absurd z (nI_pos (by omega)), fun _ => pk_le n i (fun z => absurd z (by omega)) (fun _ => ⟨vp_in_nI (by omega) (by omega), h⟩) e⟩
theorem I_byteN {σ : St} {n i : Nat} {post : Int32 → St → Prop} (hn : n ≤ 300) (e : σ.1 400 = nI n) (hi : n ≤ i) (hi2 : i ≤ 1000) (h : post (-1) σ) : wpI_X7_byteAt (nI i) σ post := by
  unfold wpI_X7_byteAt
  exact ⟨fun z => absurd z (nI_pos (by omega)), fun _ => pk_le n i (fun _ => h) (fun z => absurd z (by omega)) e⟩
theorem M_byteY {σ : St} {n i : Nat} {post : Int32 → St → Prop} (hn : n ≤ 300) (e : σ.1 22 = nI n) (hi : i < n) (h : post (bb (σ.2 21) i) σ) : wpM_byteAt (nI i) σ post := by
  unfold wpM_byteAt
  rw [nI_clamp (by omega)]
  exact pk_le n i (fun z => absurd z (by omega)) (fun _ => ⟨vp_in_nI (by omega) (by omega), h⟩) e
theorem M_byteN {σ : St} {n i : Nat} {post : Int32 → St → Prop} (hn : n ≤ 300) (e : σ.1 22 = nI n) (hi : n ≤ i) (hi2 : i ≤ 1000) (h : post 0 σ) : wpM_byteAt (nI i) σ post := by
  unfold wpM_byteAt
  exact pk_le n i (fun _ => h) (fun z => absurd z (by omega)) e
theorem I_blank {σ : St} {x : Int32} {post : Int32 → St → Prop} (h : post (bz (x = 32 ∨ x = 10)) σ) : wpI_X1_isBlank x σ post := by
  refine ⟨fun z => ⟨.inr rfl, ?_⟩, fun z => ⟨fun z2 => ⟨.inl rfl, ?_⟩, fun z2 => ⟨.inr rfl, ?_⟩⟩⟩
  · rw [bz_t (Or.inl z)] at h
    exact h
  · rw [bz_f (fun c => c.elim z z2)] at h
    exact h
  · rw [bz_t (Or.inr z2)] at h
    exact h
theorem I_letter {σ : St} {x : Int32} {post : Int32 → St → Prop} (h : post (bz (¬ x < 97 ∧ ¬ 122 < x)) σ) : wpI_X1_isLetter x σ post := by
  refine ⟨fun z => ⟨.inl rfl, ?_⟩, fun z => ⟨fun z2 => ⟨.inl rfl, ?_⟩, fun z2 => ⟨.inr rfl, ?_⟩⟩⟩
  · rw [bz_f (fun c => c.1 z)] at h
    exact h
  · rw [bz_f (fun c => c.2 z2)] at h
    exact h
  · rw [bz_t ⟨z, z2⟩] at h
    exact h
theorem I_digit {σ : St} {x : Int32} {post : Int32 → St → Prop} (h : post (bz (¬ x < 48 ∧ ¬ 57 < x)) σ) : wpI_X1_isDigit x σ post := by
  refine ⟨fun z => ⟨.inl rfl, ?_⟩, fun z => ⟨fun z2 => ⟨.inl rfl, ?_⟩, fun z2 => ⟨.inr rfl, ?_⟩⟩⟩
  · rw [bz_f (fun c => c.1 z)] at h
    exact h
  · rw [bz_f (fun c => c.2 z2)] at h
    exact h
  · rw [bz_t ⟨z, z2⟩] at h
    exact h
theorem M_small {σ : St} {x : Int32} {post : Int32 → St → Prop} (h : post (bz (¬ x < 97 ∧ ¬ 122 < x)) σ) : wpM_isSmall x σ post := by
  refine ⟨fun z => ⟨.inl rfl, ?_⟩, fun z => ⟨fun z2 => ⟨.inl rfl, ?_⟩, fun z2 => ⟨.inr rfl, ?_⟩⟩⟩
  · rw [bz_f (fun c => c.1 z)] at h
    exact h
  · rw [bz_f (fun c => c.2 z2)] at h
    exact h
  · rw [bz_t ⟨z, z2⟩] at h
    exact h
theorem M_digit {σ : St} {x : Int32} {post : Int32 → St → Prop} (h : post (bz (¬ x < 48 ∧ ¬ 57 < x)) σ) : wpM_isDigit x σ post := by
  refine ⟨fun z => ⟨.inl rfl, ?_⟩, fun z => ⟨fun z2 => ⟨.inl rfl, ?_⟩, fun z2 => ⟨.inr rfl, ?_⟩⟩⟩
  · rw [bz_f (fun c => c.1 z)] at h
    exact h
  · rw [bz_f (fun c => c.2 z2)] at h
    exact h
  · rw [bz_t ⟨z, z2⟩] at h
    exact h
/-- as far as P holds, at most d -/
noncomputable def rn (P : Nat → Prop) : Nat → Nat → Nat
  | 0, p => p
  | d + 1, p => ci (P p) (rn P d (p + 1)) p
theorem rn_b {P : Nat → Prop} : ∀ d p : Nat, p ≤ rn P d p ∧ rn P d p ≤ p + d
  | 0, p => ⟨Nat.le_refl _, Nat.le_refl _⟩
  | d + 1, p => by
    have := rn_b (P := P) d (p + 1)
    unfold rn
    by_cases q : P p
    · rw [ci_t q]; omega
    · rw [ci_f q]; omega
theorem rn_t {P : Nat → Prop} {n p : Nat} (h : P p) (hp : p < n) : rn P (n - p) p = rn P (n - (p + 1)) (p + 1) := by
  rw [show n - p = (n - (p + 1)) + 1 by omega, rn, ci_t h]
theorem rn_f {P : Nat → Prop} {n p : Nat} (h : ¬ P p) : rn P (n - p) p = p := by
  cases e : n - p with
  | zero => rfl
  | succ d => rw [rn, ci_f h]
noncomputable def ta (f : Nat → Int32) (n p : Nat) : Nat := rn (blk f n) (n - p) p
noncomputable def toF (f : Nat → Int32) (n a : Nat) : Nat := ci (a < n) (ci (ltr f n a) (rn (ltr f n) (n - (a + 1)) (a + 1)) (ci (dgt f n a) (rn (dgt f n) (n - (a + 1)) (a + 1)) (a + 1))) a
noncomputable def tk (f : Nat → Int32) (n a : Nat) : Int32 := ci (a < n) (ci (ltr f n a) 1 (ci (dgt f n a) (if toF f n a - a ≤ 4 then 2 else 4) (if bb f a = 59 then 3 else 4))) 0
theorem ta_b {f : Nat → Int32} {n p : Nat} (hp : p ≤ n) : p ≤ ta f n p ∧ ta f n p ≤ n := by
  have := rn_b (P := blk f n) (n - p) p
  unfold ta
  omega
theorem ta_n {f : Nat → Int32} {n p : Nat} : ¬ blk f n (ta f n p) := by
  have key : ∀ d p, n - p = d → ¬ blk f n (rn (blk f n) (n - p) p) := by
    intro d
    induction d with
    | zero =>
      intro p hp
      rw [hp]
      exact fun c => absurd c.1 (by show ¬ p < n; omega)
    | succ d ih =>
      intro p hp
      by_cases q : blk f n p
      · rw [rn_t q (by omega)]
        exact ih (p + 1) (by omega)
      · rw [rn_f q]
        exact q
  exact key (n - p) p rfl
theorem to_b {f : Nat → Int32} {n a : Nat} (ha : a ≤ n) : a ≤ toF f n a ∧ toF f n a ≤ n ∧ (a < n → a < toF f n a) := by
  unfold toF
  by_cases q : a < n
  · rw [ci_t q]
    have b1 := rn_b (P := ltr f n) (n - (a + 1)) (a + 1)
    have b2 := rn_b (P := dgt f n) (n - (a + 1)) (a + 1)
    by_cases c : ltr f n a
    · rw [ci_t c]; omega
    · rw [ci_f c]
      by_cases d : dgt f n a
      · rw [ci_t d]; omega
      · rw [ci_f d]; omega
  · rw [ci_f q]; omega
/-- IceRun's reader at a token -/
def AV (σ : St) (a o : Nat) (t : Int32) : St := pI (pI (pI σ 602 (nI a)) 601 t) 603 (nI o)
theorem AV_2 {σ : St} {a o a' : Nat} {t : Int32} : pI (AV σ a o t) 602 (nI a') = pI (pI (pI σ 602 (nI a')) 601 t) 603 (nI o) := by
  unfold AV
  rw [pI_cm (k := 603) (by decide), pI_cm (k := 601) (by decide), pI_pI]
theorem I_adv8 {σ : St} {n p : Nat} {post : St → Prop} (hn : n ≤ 300) (e : σ.1 400 = nI n) (hp : p ≤ n) (h : wpI_X1_advance_46 (pI σ 602 (nI (ta (σ.2 401) n p))) post) : wpI_X1_advance_8 (pI σ 602 (nI p)) post := by
  refine lp_meas (fun a => ∃ q, p ≤ q ∧ q ≤ n ∧ a = pI σ 602 (nI q) ∧ ta (σ.2 401) n q = ta (σ.2 401) n p) (fun a => n - (a.1 602).toNatClampNeg) ?_ _ ⟨p, Nat.le_refl _, hp, rfl, rfl⟩
  rintro kb a ⟨q, hq1, hq, rfl, eq⟩ hkb
  try dsimp only at hkb ⊢
  rw [show (pI σ 602 (nI q)).1 602 = nI q from rfl, nI_clamp (by omega)] at hkb
  unfold wpBI_X1_advance_8
  rw [show (pI σ 602 (nI q)).1 602 = nI q from rfl]
  refine pk_le n q (fun z => ?_) (fun z => I_byteY (σ := pI σ 602 (nI q)) hn e z (I_blank (bz_br (fun z2 => ?_) (fun z2 => ?_)))) e
  · have : ta (σ.2 401) n q = q := rn_f (fun c => absurd c.1 (by omega))
    rw [← eq, this] at h
    exact h
  · have : ta (σ.2 401) n q = q := rn_f (fun c => z2 c.2)
    rw [← eq, this] at h
    exact h
  · have : ta (σ.2 401) n q = ta (σ.2 401) n (q + 1) := rn_t ⟨z, z2⟩ z
    refine hkb _ ⟨q + 1, by omega, by omega, ?_, this.symm.trans eq⟩ ?_
    · show pI (pI σ 602 (nI q)) 602 (nI q + 1) = _
      rw [pI_pI, nI_1]
    · show n - (nI q + 1).toNatClampNeg < n - q
      rw [nI_1, nI_clamp (by omega)]
      omega
theorem I_adv98 {σ : St} {n a q0 : Nat} {post : St → Prop} (hn : n ≤ 300) (e : σ.1 400 = nI n) (hq0 : q0 ≤ n) (h : post (AV σ a (rn (ltr (σ.2 401) n) (n - q0) q0) 1)) : wpI_X1_advance_98 (AV σ a q0 1) post := by
  refine lp_meas (fun s => ∃ q, q0 ≤ q ∧ q ≤ n ∧ s = AV σ a q 1 ∧ rn (ltr (σ.2 401) n) (n - q) q = rn (ltr (σ.2 401) n) (n - q0) q0) (fun s => n - (s.1 603).toNatClampNeg) ?_ _ ⟨q0, Nat.le_refl _, hq0, rfl, rfl⟩
  rintro kb s ⟨q, hq1, hq, rfl, eq⟩ hkb
  try dsimp only at hkb ⊢
  rw [show (AV σ a q 1).1 603 = nI q from rfl, nI_clamp (by omega)] at hkb
  unfold wpBI_X1_advance_98
  rw [show (AV σ a q 1).1 603 = nI q from rfl]
  refine pk_le n q (fun z => ?_) (fun z => I_byteY (σ := AV σ a q 1) hn e z (I_letter (bz_br (fun z2 => ?_) (fun z2 => ?_)))) e
  · rw [← eq, rn_f (fun c => absurd c.1 (by omega))] at h
    exact h
  · rw [← eq, rn_f (fun c => z2 c.2)] at h
    exact h
  · refine hkb _ ⟨q + 1, by omega, by omega, ?_, (rn_t (P := ltr (σ.2 401) n) ⟨z, z2⟩ z).symm.trans eq⟩ ?_
    · show pI (AV σ a q 1) 603 (nI q + 1) = _
      unfold AV
      rw [pI_pI, nI_1]
    · show n - (nI q + 1).toNatClampNeg < n - q
      rw [nI_1, nI_clamp (by omega)]
      omega
theorem I_adv143 {σ : St} {n a q0 : Nat} {post : St → Prop} (hn : n ≤ 300) (e : σ.1 400 = nI n) (ha : a ≤ q0) (hq0 : q0 ≤ n) (h : post (AV σ a (rn (dgt (σ.2 401) n) (n - q0) q0) (if rn (dgt (σ.2 401) n) (n - q0) q0 - a ≤ 4 then 2 else 4))) : wpI_X1_advance_143 (pI (pI σ 602 (nI a)) 603 (nI q0)) post := by
  refine lp_meas (fun s => ∃ q, q0 ≤ q ∧ q ≤ n ∧ s = pI (pI σ 602 (nI a)) 603 (nI q) ∧ rn (dgt (σ.2 401) n) (n - q) q = rn (dgt (σ.2 401) n) (n - q0) q0) (fun s => n - (s.1 603).toNatClampNeg) ?_ _ ⟨q0, Nat.le_refl _, hq0, rfl, rfl⟩
  rintro kb s ⟨q, hq1, hq, rfl, eq⟩ hkb
  try dsimp only at hkb ⊢
  rw [show (pI (pI σ 602 (nI a)) 603 (nI q)).1 603 = nI q from rfl, nI_clamp (by omega)] at hkb
  unfold wpBI_X1_advance_143
  have fin : rn (dgt (σ.2 401) n) (n - q0) q0 = q → wpI_X1_advance_181 (pI (pI σ 602 (nI a)) 603 (nI q)) post := by
    intro er
    rw [er] at h
    unfold wpI_X1_advance_181 wpI_X1_advance_200 wpI_X1_advance_221
    dsimp only
    rw [show (pI (pI σ 602 (nI a)) 603 (nI q)).1 603 = nI q from rfl, show (pI (pI σ 602 (nI a)) 603 (nI q)).1 602 = nI a from rfl, pk_sub (by omega), pI_cm (k := 603) (by decide), pI_cm (k := 603) (by decide)]
    unfold AV at h
    refine pk_lt 4 (q - a) (fun z => ?_) (fun z => ?_)
    · rw [if_neg (by omega)] at h
      exact h
    · rw [if_pos (by omega)] at h
      exact h
  rw [show (pI (pI σ 602 (nI a)) 603 (nI q)).1 603 = nI q from rfl]
  refine pk_le n q (fun z => fin ?_) (fun z => I_byteY (σ := pI (pI σ 602 (nI a)) 603 (nI q)) hn e z (I_digit (bz_br (fun z2 => fin ?_) (fun z2 => ?_)))) e
  · rw [← eq]
    exact rn_f (fun c => absurd c.1 (by omega))
  · rw [← eq]
    exact rn_f (fun c => z2 c.2)
  · refine hkb _ ⟨q + 1, by omega, by omega, ?_, (rn_t (P := dgt (σ.2 401) n) ⟨z, z2⟩ z).symm.trans eq⟩ ?_
    · show pI (pI (pI σ 602 (nI a)) 603 (nI q)) 603 (nI q + 1) = _
      rw [pI_pI, nI_1]
    · show n - (nI q + 1).toNatClampNeg < n - q
      rw [nI_1, nI_clamp (by omega)]
      omega
theorem bb_m1 {f : Nat → Int32} {i : Nat} : ¬ bb f i = -1 := by
  unfold bb
  obtain ⟨j, hj, e⟩ := pk_andE (f i) (m := 255) 8 (by decide)
  rw [e]
  exact nI_m1 (by omega)
theorem I_adv46 {σ : St} {n a : Nat} {post : St → Prop} (hn : n ≤ 300) (e : σ.1 400 = nI n) (ha : a ≤ n) (h : post (AV σ a (toF (σ.2 401) n a) (tk (σ.2 401) n a))) : wpI_X1_advance_46 (pI σ 602 (nI a)) post := by
  unfold wpI_X1_advance_46
  rw [show (pI σ 602 (nI a)).1 602 = nI a from rfl]
  by_cases q : a < n
  · refine I_byteY (σ := pI σ 602 (nI a)) hn e q ?_
    show (¬ bb (σ.2 401) a = -1 → _) ∧ (bb (σ.2 401) a = -1 → _)
    refine ⟨fun _ => I_letter (bz_br (fun z1 => I_digit (bz_br (fun z2 => ?_) (fun z2 => ?_))) (fun z1 => ?_)), fun z => absurd z bb_m1⟩
    · have nl : ¬ ltr (σ.2 401) n a := fun c => z1 c.2
      have nd : ¬ dgt (σ.2 401) n a := fun c => z2 c.2
      unfold tk toF at h
      rw [ci_t q, ci_t q, ci_f nl, ci_f nd, ci_f nl, ci_f nd] at h
      unfold AV at h
      unfold wpI_X1_advance_218 wpI_X1_advance_221
      dsimp only
      rw [show (pI σ 602 (nI a)).1 602 = nI a from rfl, nI_1, pI_cm (k := 603) (k' := 601) (by decide), pI_cm (k := 603) (k' := 601) (by decide)]
      refine ⟨fun z => ?_, fun z => ?_⟩
      · rw [if_neg (show ¬ bb (σ.2 401) a = 59 from z)] at h
        exact h
      · rw [if_pos (show bb (σ.2 401) a = 59 from z)] at h
        exact h
    · have nl : ¬ ltr (σ.2 401) n a := fun c => z1 c.2
      unfold tk toF at h
      rw [ci_t q, ci_t q, ci_f nl, ci_t (p := dgt (σ.2 401) n a) ⟨q, z2⟩, ci_f nl, ci_t (p := dgt (σ.2 401) n a) ⟨q, z2⟩] at h
      rw [show (pI σ 602 (nI a)).1 602 = nI a from rfl, nI_1]
      exact I_adv143 hn e (by omega) (by omega) h
    · unfold tk toF at h
      rw [ci_t q, ci_t q, ci_t (p := ltr (σ.2 401) n a) ⟨q, z1⟩, ci_t (p := ltr (σ.2 401) n a) ⟨q, z1⟩] at h
      dsimp only
      rw [show (pI σ 602 (nI a)).1 602 = nI a from rfl, nI_1, pI_cm (k := 603) (k' := 601) (by decide)]
      exact I_adv98 (a := a) hn e (by omega) h
  · refine I_byteN (σ := pI σ 602 (nI a)) hn e (by omega) (by omega) ⟨fun z => absurd rfl z, fun _ => ?_⟩
    unfold tk toF at h
    rw [ci_f q, ci_f q] at h
    unfold AV at h
    show post (pI (pI (pI (pI σ 602 (nI a)) 603 (nI a + 1)) 601 0) 603 (nI a))
    rw [pI_cm (k := 603) (k' := 601) (by decide), pI_pI]
    exact h
theorem I_advance {σ : St} {n a p : Nat} {t : Int32} {post : St → Prop} (hn : n ≤ 300) (e : σ.1 400 = nI n) (hp : p ≤ n) (h : post (AV σ (ta (σ.2 401) n p) (toF (σ.2 401) n (ta (σ.2 401) n p)) (tk (σ.2 401) n (ta (σ.2 401) n p)))) : wpI_X1_advance (AV σ a p t) post := by
  show wpI_X1_advance_8 (pI (AV σ a p t) 602 (nI p)) post
  rw [AV_2]
  have b := ta_b (f := σ.2 401) hp
  have key := I_adv8 (σ := pI (pI σ 601 t) 603 (nI p)) (p := p) (post := post) hn e hp
  have key2 := I_adv46 (σ := pI (pI σ 601 t) 603 (nI p)) (a := ta (σ.2 401) n p) (post := post) hn e b.2
  have e3 : ∀ x : Nat, pI (pI (pI σ 601 t) 603 (nI p)) 602 (nI x) = pI (pI (pI σ 602 (nI x)) 601 t) 603 (nI p) := fun x => by
    rw [pI_cm (k := 603) (by decide), pI_cm (k := 601) (by decide)]
  rw [e3 p] at key
  refine key (key2 ?_)
  have e4 : ∀ (x y : Nat) (w : Int32), AV (pI (pI σ 601 t) 603 (nI p)) x y w = AV σ x y w := fun x y w => by
    unfold AV
    rw [e3, pI_cm (k := 603) (k' := 601) (by decide), pI_pI, pI_pI]
  rw [e4]
  exact h
/-- the reference's reader at a token -/
def AM (σ : St) (a o : Nat) : St := pI (pI σ 24 (nI a)) 25 (nI o)
theorem M_tok69 {σ : St} {n a q0 : Nat} {post : St → Prop} (hn : n ≤ 300) (e : σ.1 22 = nI n) (hq0 : q0 ≤ n) (h : post (AM σ a (rn (ltr (σ.2 21) n) (n - q0) q0))) : wpM_token_69 (AM σ a q0) post := by
  refine lp_meas (fun s => ∃ q, q0 ≤ q ∧ q ≤ n ∧ s = AM σ a q ∧ rn (ltr (σ.2 21) n) (n - q) q = rn (ltr (σ.2 21) n) (n - q0) q0) (fun s => n - (s.1 25).toNatClampNeg) ?_ _ ⟨q0, Nat.le_refl _, hq0, rfl, rfl⟩
  rintro kb s ⟨q, hq1, hq, rfl, eq⟩ hkb
  try dsimp only at hkb ⊢
  rw [show (AM σ a q).1 25 = nI q from rfl, nI_clamp (by omega)] at hkb
  unfold wpBM_token_69
  rw [show (AM σ a q).1 25 = nI q from rfl]
  by_cases z : q < n
  · refine M_byteY (σ := AM σ a q) hn e z (M_small (bz_br (fun z2 => ?_) (fun z2 => ?_)))
    · rw [← eq, rn_f (fun c => z2 c.2)] at h
      exact h
    · refine hkb _ ⟨q + 1, by omega, by omega, ?_, (rn_t (P := ltr (σ.2 21) n) ⟨z, z2⟩ z).symm.trans eq⟩ ?_
      · show pI (AM σ a q) 25 (nI q + 1) = _
        unfold AM
        rw [pI_pI, nI_1]
      · show n - (nI q + 1).toNatClampNeg < n - q
        rw [nI_1, nI_clamp (by omega)]
        omega
  · refine M_byteN (σ := AM σ a q) hn e (by omega) (by omega) (M_small (bz_br (fun z2 => ?_) (fun z2 => absurd (by decide) z2.1)))
    rw [← eq, rn_f (fun c => absurd c.1 (by omega))] at h
    exact h
theorem M_tok110 {σ : St} {n a q0 : Nat} {post : St → Prop} (hn : n ≤ 300) (e : σ.1 22 = nI n) (hq0 : q0 ≤ n) (h : post (AM σ a (rn (dgt (σ.2 21) n) (n - q0) q0))) : wpM_token_110 (AM σ a q0) post := by
  refine lp_meas (fun s => ∃ q, q0 ≤ q ∧ q ≤ n ∧ s = AM σ a q ∧ rn (dgt (σ.2 21) n) (n - q) q = rn (dgt (σ.2 21) n) (n - q0) q0) (fun s => n - (s.1 25).toNatClampNeg) ?_ _ ⟨q0, Nat.le_refl _, hq0, rfl, rfl⟩
  rintro kb s ⟨q, hq1, hq, rfl, eq⟩ hkb
  try dsimp only at hkb ⊢
  rw [show (AM σ a q).1 25 = nI q from rfl, nI_clamp (by omega)] at hkb
  unfold wpBM_token_110
  rw [show (AM σ a q).1 25 = nI q from rfl]
  by_cases z : q < n
  · refine M_byteY (σ := AM σ a q) hn e z (M_digit (bz_br (fun z2 => ?_) (fun z2 => ?_)))
    · rw [← eq, rn_f (fun c => z2 c.2)] at h
      exact h
    · refine hkb _ ⟨q + 1, by omega, by omega, ?_, (rn_t (P := dgt (σ.2 21) n) ⟨z, z2⟩ z).symm.trans eq⟩ ?_
      · show pI (AM σ a q) 25 (nI q + 1) = _
        unfold AM
        rw [pI_pI, nI_1]
      · show n - (nI q + 1).toNatClampNeg < n - q
        rw [nI_1, nI_clamp (by omega)]
        omega
  · refine M_byteN (σ := AM σ a q) hn e (by omega) (by omega) (M_digit (bz_br (fun z2 => ?_) (fun z2 => absurd (by decide) z2.1)))
    rw [← eq, rn_f (fun c => absurd c.1 (by omega))] at h
    exact h
theorem AM_4 {σ : St} {a o a' : Nat} : pI (AM σ a o) 24 (nI a') = AM σ a' o := by
  unfold AM
  rw [pI_cm (k := 25) (by decide), pI_pI]
theorem AM_5 {σ : St} {a o o' : Nat} : pI (AM σ a o) 25 (nI o') = AM σ a o' := by
  unfold AM
  rw [pI_pI]
/-- what comes behind the blanks -/
theorem M_tokT {σ : St} {n q p : Nat} {k : St → Prop} {post : St → Prop} (hn : n ≤ 300) (e : σ.1 22 = nI n) (hq : q ≤ n) (nb : ¬ blk (σ.2 21) n q) (h : post (AM σ q (toF (σ.2 21) n q))) : wpBM_token_8 k (AM σ q p) post := by
  unfold wpBM_token_8
  rw [show (AM σ q p).1 24 = nI q from rfl]
  by_cases z : q < n
  · refine M_byteY (σ := AM σ q p) hn e z ⟨fun c => absurd ⟨z, Or.inl c⟩ nb, fun _ => ?_⟩
    rw [show (AM σ q p).1 24 = nI q from rfl]
    refine M_byteY (σ := AM σ q p) hn e z ⟨fun _ => ?_, fun c => absurd ⟨z, Or.inr c⟩ nb⟩
    dsimp only
    rw [show (AM σ q p).1 24 = nI q from rfl, AM_5, show (AM σ q q).1 24 = nI q from rfl]
    unfold toF at h
    rw [ci_t z] at h
    refine M_byteY (σ := AM σ q q) hn e z (M_small (bz_br (fun c => ?_) (fun c => ?_)))
    · rw [ci_f (fun d => c d.2)] at h
      rw [show (AM σ q q).1 24 = nI q from rfl]
      refine M_byteY (σ := AM σ q q) hn e z (M_digit (bz_br (fun c2 => ?_) (fun c2 => ?_)))
      · rw [ci_f (fun d => c2 d.2)] at h
        refine pk_le n q (fun c3 => absurd c3 (by omega)) (fun _ => ?_) e
        unfold wpM_token_158
        rw [show (AM σ q q).1 25 = nI q from rfl, nI_1, AM_5]
        exact h
      · rw [ci_t (p := dgt (σ.2 21) n q) ⟨z, c2⟩] at h
        refine M_tok110 hn e (by omega) ?_
        rw [rn_t (P := dgt (σ.2 21) n) ⟨z, c2⟩ z]
        exact h
    · rw [ci_t (p := ltr (σ.2 21) n q) ⟨z, c⟩] at h
      refine M_tok69 hn e (by omega) ?_
      rw [rn_t (P := ltr (σ.2 21) n) ⟨z, c⟩ z]
      exact h
  · refine M_byteN (σ := AM σ q p) hn e (by omega) (by omega) ⟨fun c => absurd c (by decide), fun _ => ?_⟩
    rw [show (AM σ q p).1 24 = nI q from rfl]
    refine M_byteN (σ := AM σ q p) hn e (by omega) (by omega) ⟨fun _ => ?_, fun c => absurd c (by decide)⟩
    dsimp only
    rw [show (AM σ q p).1 24 = nI q from rfl, AM_5, show (AM σ q q).1 24 = nI q from rfl]
    unfold toF at h
    rw [ci_f z] at h
    refine M_byteN (σ := AM σ q q) hn e (by omega) (by omega) (M_small (bz_br (fun c => ?_) (fun c => absurd (by decide) c.1)))
    rw [show (AM σ q q).1 24 = nI q from rfl]
    refine M_byteN (σ := AM σ q q) hn e (by omega) (by omega) (M_digit (bz_br (fun c2 => ?_) (fun c2 => absurd (by decide) c2.1)))
    exact pk_le n q (fun _ => h) (fun c3 => absurd c3 (by omega)) e
theorem M_token {σ : St} {n a p : Nat} {post : St → Prop} (hn : n ≤ 300) (e : σ.1 22 = nI n) (hp : p ≤ n) (h : post (AM σ (ta (σ.2 21) n p) (toF (σ.2 21) n (ta (σ.2 21) n p)))) : wpM_token (AM σ a p) post := by
  show wpM_token_8 (pI (AM σ a p) 24 (nI p)) post
  rw [AM_4]
  refine lp_meas (fun s => ∃ q, p ≤ q ∧ q ≤ n ∧ s = AM σ q p ∧ ta (σ.2 21) n q = ta (σ.2 21) n p) (fun s => n - (s.1 24).toNatClampNeg) ?_ _ ⟨p, Nat.le_refl _, hp, rfl, rfl⟩
  rintro kb s ⟨q, hq1, hq, rfl, eq⟩ hkb
  try dsimp only at hkb ⊢
  rw [show (AM σ q p).1 24 = nI q from rfl, nI_clamp (by omega)] at hkb
  by_cases nb : blk (σ.2 21) n q
  · have next : kb (pI (AM σ q p) 24 (nI q + 1)) := by
      refine hkb _ ⟨q + 1, by omega, by have := nb.1; omega, ?_, (rn_t (P := blk (σ.2 21) n) nb nb.1).symm.trans eq⟩ ?_
      · rw [nI_1, AM_4]
      · show n - (nI q + 1).toNatClampNeg < n - q
        have := nb.1
        rw [nI_1, nI_clamp (by omega)]
        omega
    unfold wpBM_token_8
    rw [show (AM σ q p).1 24 = nI q from rfl]
    refine M_byteY (σ := AM σ q p) hn e nb.1 ⟨fun _ => next, fun z => ?_⟩
    rw [show (AM σ q p).1 24 = nI q from rfl]
    exact M_byteY (σ := AM σ q p) hn e nb.1 ⟨fun z2 => absurd nb.2 (fun o => o.elim z z2), fun _ => next⟩
  · rw [← eq, show ta (σ.2 21) n q = q from rn_f nb] at h
    exact M_tokT hn e hq nb h

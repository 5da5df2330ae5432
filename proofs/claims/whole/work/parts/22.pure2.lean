/-! ===== tools of the pure part ===== -/
noncomputable def bz (p : Prop) : Int32 := @ite Int32 p (Classical.propDecidable p) 1 0
theorem bz_t {p : Prop} (h : p) : bz p = 1 := by unfold bz; exact if_pos h
theorem bz_f {p : Prop} (h : ¬ p) : bz p = 0 := by unfold bz; exact if_neg h
theorem bz_0 {p : Prop} (h : bz p = 0) : ¬ p := fun hp => by rw [bz_t hp] at h; exact absurd h (by decide)
theorem bz_n {p : Prop} (h : ¬ bz p = 0) : p := Classical.byContradiction (fun hp => h (bz_f hp))
theorem bz_o {p : Prop} : bz p = 0 ∨ bz p = 1 := (Classical.em p).elim (fun h => .inr (bz_t h)) (fun h => .inl (bz_f h))
theorem bz_c {p q : Prop} (h : p ↔ q) : bz p = bz q := congrArg bz (propext h)
theorem bz_if {p : Prop} [Decidable p] : (if p then (1 : Int32) else 0) = bz p := by
  by_cases h : p
  · rw [if_pos h, bz_t h]
  · rw [if_neg h, bz_f h]
theorem bz_br {p A B : Prop} (a : ¬ p → A) (b : p → B) : (bz p = 0 → A) ∧ (¬ bz p = 0 → B) := ⟨fun h => a (bz_0 h), fun h => b (bz_n h)⟩
theorem bz_rb {p A B : Prop} (b : p → B) (a : ¬ p → A) : (¬ bz p = 0 → B) ∧ (bz p = 0 → A) := ⟨fun h => b (bz_n h), fun h => a (bz_0 h)⟩
theorem I_in {x a b : Int32} {σ : St} {post : Int32 → St → Prop} (h : post (bz (a ≤ x ∧ x ≤ b)) σ) : wpI_X10_within x a b σ post := wI_within (by rw [bz_if]; exact h)
theorem M_in {x a b : Int32} {σ : St} {post : Int32 → St → Prop} (h : post (bz (a ≤ x ∧ x ≤ b)) σ) : wpM_within x a b σ post := wM_within (by rw [bz_if]; exact h)
theorem i_nn {x : Int32} (h : 0 ≤ x) : ¬ x < 0 := Int32.not_lt.mpr h
theorem i_of {c : Int32} (h : 0 ≤ c) : ∃ j : Nat, j < 2 ^ 31 ∧ c = nI j := nI_of (i_nn h)
/-- 0 ≤ c ≤ n - 1 -/
theorem in_of {c : Int32} {n : Nat} (hn : n < 2 ^ 31) (h : 0 ≤ c ∧ c ≤ nI n - 1) : ∃ j : Nat, j < n ∧ c = nI j := by
  obtain ⟨j, hj, rfl⟩ := i_of h.1
  cases n with
  | zero =>
    have b := Int32.le_iff_toInt_le.mp h.2
    rw [nI_toInt hj, show (nI 0 - 1 : Int32).toInt = -1 by decide] at b
    omega
  | succ k =>
    have b := h.2
    rw [nI_pred, nI_leI hj (by omega)] at b
    exact ⟨j, by omega, rfl⟩
theorem in_of2 {c m : Int32} {n : Nat} (hm : m = nI n) (hn : n < 2 ^ 31) (h : 0 ≤ c ∧ c ≤ m) : ∃ j : Nat, j ≤ n ∧ c = nI j := by
  subst hm
  obtain ⟨j, hj, rfl⟩ := i_of h.1
  exact ⟨j, (nI_leI hj hn).mp h.2, rfl⟩
theorem nI_m1 {n : Nat} (h : n < 2 ^ 31) : ¬ nI n = (-1) := fun e => by
  have := congrArg Int32.toInt e
  rw [nI_toInt h, show (-1 : Int32).toInt = -1 by decide] at this
  omega
theorem vp_x {x : Int32} {n : Nat} (h : vp_in x n) (hn : n < 2 ^ 31) : ∃ j : Nat, j < n ∧ x = nI j := vp_in_of h hn
/-! arrays: n turns of a loop that changes each cell by itself -/
def mp (f : Nat → Int32) (a n : Nat) (F : Nat → Int32 → Int32) : Nat → Int32 := fun j => if a ≤ j ∧ j < n then F j (f j) else f j
theorem mp_0 {f : Nat → Int32} {a : Nat} {F : Nat → Int32 → Int32} : mp f a a F = f := by
  funext j
  unfold mp
  exact if_neg (by omega)
theorem mp_s {f : Nat → Int32} {a i : Nat} {F : Nat → Int32 → Int32} {v : Int32} (h : a ≤ i) (hv : v = F i (f i)) : upd (mp f a i F) i v = mp f a (i + 1) F := by
  funext j
  unfold upd mp
  by_cases e : j = i
  · subst e
    rw [if_pos rfl, if_pos (by omega), hv]
  · rw [if_neg e]
    by_cases q : a ≤ j ∧ j < i
    · rw [if_pos q, if_pos (by omega)]
    · rw [if_neg q, if_neg (by omega)]
theorem mp_i {f : Nat → Int32} {a i : Nat} {F : Nat → Int32 → Int32} : mp f a i F i = f i := by
  unfold mp
  exact if_neg (by omega)
theorem mp_in {f : Nat → Int32} {a n j : Nat} {F : Nat → Int32 → Int32} (h1 : a ≤ j) (h2 : j < n) : mp f a n F j = F j (f j) := by
  unfold mp
  exact if_pos ⟨h1, h2⟩
theorem mp_out {f : Nat → Int32} {a n j : Nat} {F : Nat → Int32 → Int32} (h : ¬ (a ≤ j ∧ j < n)) : mp f a n F j = f j := by
  unfold mp
  exact if_neg h
theorem mp_all {f : Nat → Int32} {a n : Nat} {F : Nat → Int32 → Int32} {P : Nat → Int32 → Prop} {N : Nat} (h : ∀ j, j < N → P j (f j)) (hF : ∀ j, j < N → P j (f j) → P j (F j (f j))) : ∀ j, j < N → P j (mp f a n F j) := by
  intro j hj
  by_cases q : a ≤ j ∧ j < n
  · rw [mp_in q.1 q.2]
    exact hF j hj (h j hj)
  · rw [mp_out q]
    exact h j hj
/-- the constant v in the first n cells -/
def fil (f : Nat → Int32) (n : Nat) (v : Int32) : Nat → Int32 := fun j => if j < n then v else f j
theorem fil_0 {f : Nat → Int32} {v : Int32} : fil f 0 v = f := by
  funext j
  unfold fil
  exact if_neg (by omega)
theorem fil_s {f : Nat → Int32} {i : Nat} {v : Int32} : upd (fil f i v) i v = fil f (i + 1) v := by
  funext j
  unfold upd fil
  by_cases e : j = i
  · subst e
    rw [if_pos rfl, if_pos (by omega)]
  · rw [if_neg e]
    by_cases q : j < i
    · rw [if_pos q, if_pos (by omega)]
    · rw [if_neg q, if_neg (by omega)]
theorem fil_in {f : Nat → Int32} {n j : Nat} {v : Int32} (h : j < n) : fil f n v j = v := by
  unfold fil
  exact if_pos h
theorem fil_out {f : Nat → Int32} {n j : Nat} {v : Int32} (h : n ≤ j) : fil f n v j = f j := by
  unfold fil
  exact if_neg (by omega)
theorem fil_all {f : Nat → Int32} {n N : Nat} {v : Int32} {P : Nat → Int32 → Prop} (h : ∀ j, j < N → P j (f j)) (hv : ∀ j, j < N → P j v) : ∀ j, j < N → P j (fil f n v j) := by
  intro j hj
  by_cases q : j < n
  · rw [fil_in q]
    exact hv j hj
  · rw [fil_out (by omega)]
    exact h j hj
theorem upd_all {f : Nat → Int32} {N i : Nat} {v : Int32} {P : Nat → Int32 → Prop} (h : ∀ j, j < N → P j (f j)) (hv : i < N → P i v) : ∀ j, j < N → P j (upd f i v j) := by
  intro j hj
  unfold upd
  by_cases q : j = i
  · subst q
    rw [if_pos rfl]
    exact hv hj
  · rw [if_neg q]
    exact h j hj
theorem pA_same {σ : St} {k i : Nat} {f : Nat → Int32} {v : Int32} : pA (pC σ k f) k i v = pC σ k (upd f i v) := by
  refine Prod.ext rfl (funext fun j => ?_)
  show (pA (pC σ k f) k i v).2 j = (pC σ k (upd f i v)).2 j
  simp only [pA_2, pC_2]
  by_cases e : j = k
  · simp [e]
  · simp [e]
theorem pA_ne {σ : St} {k k' i : Nat} {f : Nat → Int32} {v : Int32} (h : k' ≠ k) : pA (pC σ k f) k' i v = pC (pA σ k' i v) k f := by
  refine Prod.ext rfl (funext fun j => ?_)
  show (pA (pC σ k f) k' i v).2 j = (pC (pA σ k' i v) k f).2 j
  simp only [pA_2, pC_2]
  by_cases e : j = k'
  · subst e
    simp [h]
  · simp [e]
theorem pC_self {σ : St} {k : Nat} : pC σ k (σ.2 k) = σ := by
  refine Prod.ext rfl (funext fun j => ?_)
  show (pC σ k (σ.2 k)).2 j = σ.2 j
  rw [pC_2]
  by_cases e : j = k
  · rw [if_pos e, e]
  · rw [if_neg e]
theorem R0.vC {σ τ : St} (h : R0 σ τ) {k k' : Nat} (hk : (k, k') ∈ AP) {f g : Nat → Int32} (e : f = g) : R0 (pC σ k f) (pC τ k' g) := e ▸ h.uC hk f
theorem R0.vI {σ τ : St} (h : R0 σ τ) {k k' : Nat} (hk : (k, k') ∈ IP) {v w : Int32} (e : v = w) : R0 (pI σ k v) (pI τ k' w) := e ▸ h.uI hk v
theorem R0.vA {σ τ : St} (h : R0 σ τ) {k k' : Nat} (hk : (k, k') ∈ AP) {i j : Nat} {v w : Int32} (e : v = w) (ei : i = j) : R0 (pA σ k i v) (pA τ k' j w) := by
  subst e
  subst ei
  exact h.uA hk i v
/-- a loop of N turns whose state at turn i is st i -/
theorem lp_c0 {α : Type} {B : (α → Prop) → α → Prop} {a : α} (st : Nat → α) (N : Nat) (h0 : a = st 0) (hx : ∀ kb, B kb (st N)) (hs : ∀ (i : Nat) (kb : α → Prop), i < N → kb (st (i + 1)) → B kb (st i)) : ∃ n, lpN B n a := h0 ▸ lp_count st N hx hs 0 (Nat.zero_le _)
/-- .. from turn i0 on -/
theorem lp_ci {α : Type} {B : (α → Prop) → α → Prop} {a : α} (st : Nat → α) (i0 N : Nat) (hN : i0 ≤ N) (h0 : a = st i0) (hx : ∀ kb, B kb (st N)) (hs : ∀ (i : Nat) (kb : α → Prop), i0 ≤ i → i < N → kb (st (i + 1)) → B kb (st i)) : ∃ n, lpN B n a := by
  subst h0
  have key : ∀ (d j : Nat), i0 ≤ j → j + d = N → lpN B (d + 1) (st j) := by
    intro d
    induction d with
    | zero => intro j _ hj; rw [show j = N by omega]; exact hx _
    | succ d ih => intro j h1 hj; exact hs j _ h1 (by omega) (ih (j + 1) (by omega) (by omega))
  exact ⟨N - i0 + 1, key (N - i0) i0 (Nat.le_refl _) (by omega)⟩
/-! how many -/
noncomputable def cnt (p : Nat → Prop) : Nat → Nat
  | 0 => 0
  | n + 1 => cnt p n + @ite Nat (p n) (Classical.propDecidable _) 1 0
theorem cnt_t {p : Nat → Prop} {n : Nat} (h : p n) : cnt p (n + 1) = cnt p n + 1 := by
  show cnt p n + @ite Nat (p n) (Classical.propDecidable _) 1 0 = _
  rw [if_pos h]
theorem cnt_f {p : Nat → Prop} {n : Nat} (h : ¬ p n) : cnt p (n + 1) = cnt p n := by
  show cnt p n + @ite Nat (p n) (Classical.propDecidable _) 1 0 = _
  rw [if_neg h, Nat.add_zero]
theorem cnt_le (p : Nat → Prop) : ∀ n : Nat, cnt p n ≤ n
  | 0 => Nat.le_refl _
  | n + 1 => by
    have := cnt_le p n
    by_cases h : p n
    · rw [cnt_t h]; omega
    · rw [cnt_f h]; omega
theorem cnt_c {p q : Nat → Prop} : ∀ {n : Nat}, (∀ i, i < n → (p i ↔ q i)) → cnt p n = cnt q n
  | 0, _ => rfl
  | n + 1, h => by
    have e := cnt_c (n := n) (fun i hi => h i (by omega))
    by_cases a : p n
    · rw [cnt_t a, cnt_t ((h n (by omega)).mp a), e]
    · rw [cnt_f a, cnt_f (fun b => a ((h n (by omega)).mpr b)), e]
theorem cnt_0 {p : Nat → Prop} : ∀ {n : Nat}, (∀ i, i < n → ¬ p i) → cnt p n = 0
  | 0, _ => rfl
  | n + 1, h => by rw [cnt_f (h n (by omega)), cnt_0 (n := n) (fun i hi => h i (by omega))]
theorem cnt_z {p : Nat → Prop} : ∀ {n : Nat}, cnt p n = 0 → ∀ i, i < n → ¬ p i
  | 0, _, _, hi => absurd hi (Nat.not_lt_zero _)
  | n + 1, h, i, hi => by
    by_cases a : p n
    · rw [cnt_t a] at h; omega
    · rw [cnt_f a] at h
      by_cases e : i = n
      · rw [e]; exact a
      · exact cnt_z (n := n) h i (by omega)
/-- one more -/
theorem cnt_add {p q : Nat → Prop} {k : Nat} : ∀ {n : Nat}, k < n → ¬ p k → q k → (∀ i, i < n → i ≠ k → (p i ↔ q i)) → cnt q n = cnt p n + 1
  | 0, hk, _, _, _ => absurd hk (Nat.not_lt_zero _)
  | n + 1, hk, h1, h2, h => by
    by_cases e : k = n
    · subst e
      rw [cnt_t h2, cnt_f h1, cnt_c (p := p) (q := q) (fun i hi => h i (by omega) (by omega))]
    · have e2 := cnt_add (n := n) (by omega : k < n) h1 h2 (fun i hi => h i (by omega))
      by_cases a : p n
      · rw [cnt_t a, cnt_t ((h n (by omega) (by omega)).mp a), e2]
      · rw [cnt_f a, cnt_f (fun b => a ((h n (by omega) (by omega)).mpr b)), e2]
theorem cnt_lt {p : Nat → Prop} {k n : Nat} (hk : k < n) (h : ¬ p k) : cnt p n < n := by
  have a := cnt_add (p := p) (q := fun i => p i ∨ i = k) hk h (Or.inr rfl) (fun i _ hne => ⟨Or.inl, fun o => o.elim id (fun e => absurd e hne)⟩)
  have b := cnt_le (fun i => p i ∨ i = k) n
  omega
theorem cnt_grow {p : Nat → Prop} {n : Nat} : ∀ d : Nat, (∀ i, n ≤ i → i < n + d → ¬ p i) → cnt p (n + d) = cnt p n
  | 0, _ => rfl
  | d + 1, h => by
    show cnt p (n + d + 1) = _
    rw [cnt_f (h (n + d) (by omega) (by omega)), cnt_grow d (fun i h1 h2 => h i h1 (by omega))]
/-! ===== the relation of both systems ===== -/
def RT (c g : Int32) (ga : Nat → Int32) : Prop := (c = 0 ∧ g = 0) ∨ ∃ n m : Nat, c = nI n ∧ g = nI m ∧ 5 ≤ n ∧ n ≤ 40 ∧ 2 ≤ m ∧ m ≤ 6 ∧ ∀ k, k < m → ga k = nI (k * n / (m - 1))
def RC (su ha ru : Nat → Int32) : Prop := (∀ c, c < 40 → vp_in (su c) 10) ∧ (∀ c, c < 40 → vp_in (ha c) 1001) ∧ ∀ c, c < 40 → vp_in (ru c) 101
def RN (le : Nat → Int32) : Prop := ∀ k, k < 4 → vp_in (le k) 10
def RW (r0 r1 r2 r3 row : Nat → Int32) : Prop := ∀ i, i < 9 → r0 i = row i ∧ r1 i = row (9 + i) ∧ r2 i = row (18 + i) ∧ r3 i = row (27 + i)
def RS (n : Int32) (we ki : Nat → Int32) : Prop := vp_in n 17 ∧ (∀ s, s < 16 → vp_in (we s) 201) ∧ ∀ s, s < 16 → vp_in (ki s) 4
def RLw (la : Nat → Int32) : Prop := vp_in (la 2) 17 ∧ vp_in (la 3) 17 ∧ ¬ la 3 = 0 ∧ vp_in (la 4) 5 ∧ ¬ la 4 = 0
def RB (n : Int32) (er : Nat → Int32) : Prop := vp_in n 301 ∧ ∀ i, i < 12 → -50 ≤ (er i).toInt ∧ (er i).toInt ≤ 100
def RO (on c ru om : Int32) : Prop := (¬ on = 0 → ¬ c = 0) ∧ (on = 0 → ru = 0 ∧ om = 0)
def RU (ru : Int32) (st : Nat → Int32) : Prop := ∃ n : Nat, ru = nI n ∧ n ≤ 4 ∧ ∀ r, r < 4 → (r < n → st r = 1 ∨ st r = 2 ∨ st r = 3) ∧ (n ≤ r → st r = 0) ∧ (st r = 1 → r + 1 = n)
def RG (go ru : Int32) (st : Nat → Int32) : Prop := (go = -1 ∧ ∀ r, r < 4 → ¬ st r = 1) ∨ ∃ r : Nat, r < 4 ∧ go = nI r ∧ ru = nI (r + 1) ∧ st r = 1
def RH (wa st : Nat → Int32) : Prop := ∀ r, r < 4 → (wa r = -1 ↔ ¬ st r = 2)
def RE (ev : Int32) (el wa sa : Nat → Int32) : Prop := ∃ n : Nat, ev = nI n ∧ n = cnt (fun r => ¬ wa r = -1) 4 + cnt (fun s => ¬ sa s = -1) 16 ∧ (∀ k, k < n → (∃ r, r < 4 ∧ el k = nI r ∧ wa r = nI k) ∨ ∃ s, s < 16 ∧ el k = nI (10 + s) ∧ sa s = nI k) ∧ (∀ r, r < 4 → wa r = -1 ∨ ∃ k, k < n ∧ wa r = nI k ∧ el k = nI r) ∧ ∀ s, s < 16 → sa s = -1 ∨ ∃ k, k < n ∧ sa s = nI k ∧ el k = nI (10 + s)
def RK (wh en : Int32) (st et : Nat → Int32) : Prop := wh = nI (cnt (fun r => st r = 2) 4) ∧ en = nI (cnt (fun s => ¬ et s = 0) 16)
def RA (n on ru : Int32) (et : Nat → Int32) : Prop := ∀ s, s < 16 → ¬ et s = 0 → nI s < n ∧ ¬ on = 0 ∧ ¬ ru = 0
def RD (ru n : Int32) (dn ti : Nat → Int32) : Prop := ∀ r, r < 4 → ∀ s, s < 16 → ¬ dn (16 * r + s) = 0 → nI r < ru ∧ nI s < n ∧ ti (6 * (16 * r + s)) = 0
def RP (om ca n go : Int32) (od : Nat → Int32) : Prop := ∃ m : Nat, om = nI m ∧ m ≤ 16 ∧ (∀ i, i < m → ∃ s, s < 16 ∧ od i = nI s ∧ nI s < n) ∧ (¬ go = -1 → ∃ c, ca = nI c ∧ c < m)
def RQ (σ τ : St) : Prop := RO (τ.1 26) (τ.1 1) (τ.1 27) (τ.1 30) ∧ RU (τ.1 27) (τ.2 28) ∧ RG (σ.1 702) (τ.1 27) (τ.2 28) ∧ RH (σ.2 712) (τ.2 28) ∧ RE (τ.1 39) (τ.2 38) (σ.2 712) (σ.2 711) ∧ RK (σ.1 706) (σ.1 707) (τ.2 28) (τ.2 32) ∧ RA (τ.1 13) (τ.1 26) (τ.1 27) (τ.2 32) ∧ RD (τ.1 27) (τ.1 13) (τ.2 33) (τ.2 34) ∧ RP (τ.1 30) (τ.1 31) (τ.1 13) (σ.1 702) (τ.2 29)
def Rel (σ τ : St) : Prop := R0 σ τ ∧ RT (τ.1 1) (τ.1 2) (τ.2 8) ∧ RC (τ.2 5) (τ.2 6) (τ.2 7) ∧ RN (τ.2 11) ∧ RW (σ.2 250) (σ.2 251) (σ.2 252) (σ.2 253) (τ.2 12) ∧ RS (τ.1 13) (τ.2 15) (τ.2 16) ∧ RLw (τ.2 19) ∧ RB (τ.1 22) (τ.2 9) ∧ RQ σ τ
theorem Rel.a0 {σ τ : St} (h : Rel σ τ) : R0 σ τ := h.1
theorem Rel.a1 {σ τ : St} (h : Rel σ τ) : RT (τ.1 1) (τ.1 2) (τ.2 8) := h.2.1
theorem Rel.a2 {σ τ : St} (h : Rel σ τ) : RC (τ.2 5) (τ.2 6) (τ.2 7) := h.2.2.1
theorem Rel.a3 {σ τ : St} (h : Rel σ τ) : RN (τ.2 11) := h.2.2.2.1
theorem Rel.a4 {σ τ : St} (h : Rel σ τ) : RW (σ.2 250) (σ.2 251) (σ.2 252) (σ.2 253) (τ.2 12) := h.2.2.2.2.1
theorem Rel.a5 {σ τ : St} (h : Rel σ τ) : RS (τ.1 13) (τ.2 15) (τ.2 16) := h.2.2.2.2.2.1
theorem Rel.a6 {σ τ : St} (h : Rel σ τ) : RLw (τ.2 19) := h.2.2.2.2.2.2.1
theorem Rel.a7 {σ τ : St} (h : Rel σ τ) : RB (τ.1 22) (τ.2 9) := h.2.2.2.2.2.2.2.1
theorem Rel.a8 {σ τ : St} (h : Rel σ τ) : RQ σ τ := h.2.2.2.2.2.2.2.2
theorem RQ.b0 {σ τ : St} (h : RQ σ τ) : RO (τ.1 26) (τ.1 1) (τ.1 27) (τ.1 30) := h.1
theorem RQ.b1 {σ τ : St} (h : RQ σ τ) : RU (τ.1 27) (τ.2 28) := h.2.1
theorem RQ.b2 {σ τ : St} (h : RQ σ τ) : RG (σ.1 702) (τ.1 27) (τ.2 28) := h.2.2.1
theorem RQ.b3 {σ τ : St} (h : RQ σ τ) : RH (σ.2 712) (τ.2 28) := h.2.2.2.1
theorem RQ.b4 {σ τ : St} (h : RQ σ τ) : RE (τ.1 39) (τ.2 38) (σ.2 712) (σ.2 711) := h.2.2.2.2.1
theorem RQ.b5 {σ τ : St} (h : RQ σ τ) : RK (σ.1 706) (σ.1 707) (τ.2 28) (τ.2 32) := h.2.2.2.2.2.1
theorem RQ.b6 {σ τ : St} (h : RQ σ τ) : RA (τ.1 13) (τ.1 26) (τ.1 27) (τ.2 32) := h.2.2.2.2.2.2.1
theorem RQ.b7 {σ τ : St} (h : RQ σ τ) : RD (τ.1 27) (τ.1 13) (τ.2 33) (τ.2 34) := h.2.2.2.2.2.2.2.1
theorem RQ.b8 {σ τ : St} (h : RQ σ τ) : RP (τ.1 30) (τ.1 31) (τ.1 13) (σ.1 702) (τ.2 29) := h.2.2.2.2.2.2.2.2
/-- the reference's own mark of a throw is seen by nothing of it -/
theorem Rel.th {σ τ : St} (h : Rel σ τ) (v : Int32) : Rel σ (pI τ 0 v) := ⟨h.1.uIr (by decide) v, h.2⟩
theorem Rel.cells {σ τ : St} (h : Rel σ τ) : ∃ n : Nat, n ≤ 40 ∧ τ.1 1 = nI n := by
  rcases h.a1 with ⟨e, -⟩ | ⟨n, m, e, -, -, hn, -⟩
  · exact ⟨0, by omega, e⟩
  · exact ⟨n, hn, e⟩
theorem Rel.gates {σ τ : St} (h : Rel σ τ) : ∃ n : Nat, n ≤ 6 ∧ τ.1 2 = nI n := by
  rcases h.a1 with ⟨-, e⟩ | ⟨n, m, -, e, -, -, -, hn, -⟩
  · exact ⟨0, by omega, e⟩
  · exact ⟨m, hn, e⟩
theorem Rel.sleds {σ τ : St} (h : Rel σ τ) : ∃ n : Nat, n ≤ 16 ∧ τ.1 13 = nI n := by
  obtain ⟨j, hj, e⟩ := vp_x h.a5.1 (by omega)
  exact ⟨j, by omega, e⟩
theorem M_isOn {σ τ : St} {post : Int32 → St → Prop} (h : Rel σ τ) (hp : post (bz (¬ σ.1 702 = -1)) τ) : wpM_isOn τ post := by
  obtain ⟨n, hru, hn, hst⟩ := h.a8.b1
  unfold wpM_isOn wpM_isOn_33 wpM_isOn_34
  rcases h.a8.b2 with ⟨hg, h1⟩ | ⟨r, hr, hg, hr2, hs⟩
  · rw [bz_f (fun q => q hg)] at hp
    refine ⟨fun _ => ⟨.inl rfl, hp⟩, fun _ => ⟨fun _ => ⟨.inl rfl, hp⟩, fun q => ?_⟩⟩
    rw [hru] at q ⊢
    cases n with
    | zero => exact absurd (by decide) q
    | succ k =>
      rw [nI_pred]
      refine ⟨vp_in_nI (by omega) (by omega), fun _ => ⟨.inl rfl, hp⟩, fun q2 => ?_⟩
      rw [nI_clamp (by omega)] at q2
      exact absurd q2 (h1 k (by omega))
  · have hg1 : ¬ σ.1 702 = -1 := by rw [hg]; exact nI_m1 (by omega)
    rw [bz_t hg1] at hp
    refine ⟨fun q => ?_, fun _ => ⟨fun q => ?_, fun q => ?_⟩⟩
    · have := (h.a8.b0.2 q).1
      rw [hr2] at this
      exact absurd this (nI_ne0 (by omega) (by omega))
    · rw [hr2] at q
      exact absurd q (nI_nle (by omega) (by omega))
    · rw [hr2, nI_pred, nI_clamp (by omega)]
      exact ⟨vp_in_nI hr (by omega), fun q2 => absurd hs q2, fun _ => ⟨.inr rfl, hp⟩⟩
theorem Rel.go {σ τ : St} (h : Rel σ τ) (hg : ¬ σ.1 702 = -1) : ∃ r : Nat, r < 4 ∧ σ.1 702 = nI r ∧ τ.1 27 = nI (r + 1) ∧ τ.2 28 r = 1 := by
  rcases h.a8.b2 with ⟨e, -⟩ | q
  · exact absurd e hg
  · exact q

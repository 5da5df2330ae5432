/-! ===== the pure part: states, loops, the relation of both systems ===== -/
theorem pI_1 (σ : St) (k : Nat) (v : Int32) (j : Nat) : (pI σ k v).1 j = if j = k then v else σ.1 j := rfl
theorem pI_2 (σ : St) (k : Nat) (v : Int32) : (pI σ k v).2 = σ.2 := rfl
theorem pA_1 (σ : St) (k i : Nat) (v : Int32) : (pA σ k i v).1 = σ.1 := rfl
theorem pA_2 (σ : St) (k i : Nat) (v : Int32) (j : Nat) : (pA σ k i v).2 j = if j = k then upd (σ.2 k) i v else σ.2 j := rfl
theorem pC_1 (σ : St) (k : Nat) (f : Nat → Int32) : (pC σ k f).1 = σ.1 := rfl
theorem pC_2 (σ : St) (k : Nat) (f : Nat → Int32) (j : Nat) : (pC σ k f).2 j = if j = k then f else σ.2 j := rfl
/-- a loop whose state at turn i is st i, N turns from i0 on -/
theorem lp_count {α : Type} {B : (α → Prop) → α → Prop} (st : Nat → α) (N : Nat) (hx : ∀ kb, B kb (st N)) (hs : ∀ (i : Nat) (kb : α → Prop), i < N → kb (st (i + 1)) → B kb (st i)) (i : Nat) (hi : i ≤ N) : ∃ n, lpN B n (st i) := by
  have key : ∀ (d j : Nat), j + d = N → lpN B (d + 1) (st j) := by
    intro d
    induction d with
    | zero => intro j hj; rw [show j = N by omega]; exact hx _
    | succ d ih => intro j hj; exact hs j _ (by omega) (ih (j + 1) (by omega))
  exact ⟨N - i + 1, key (N - i) i (by omega)⟩
/-- n turns of f, the turn's number with it -/
def itr {α : Type} (f : Nat → α → α) : Nat → α → α
  | 0, a => a
  | n + 1, a => f n (itr f n a)
theorem itr_rel {α β : Type} {f : Nat → α → α} {g : Nat → β → β} {R : α → β → Prop} {a : α} {b : β} (h0 : R a b) : ∀ n : Nat, (∀ i x y, i < n → R x y → R (f i x) (g i y)) → R (itr f n a) (itr g n b)
  | 0, _ => h0
  | n + 1, h => h n _ _ (Nat.lt_succ_self n) (itr_rel h0 n (fun i x y hi => h i x y (Nat.lt_succ_of_lt hi)))
theorem itr_inv {α : Type} {f : Nat → α → α} {P : α → Prop} {a : α} (h0 : P a) : ∀ n : Nat, (∀ i x, i < n → P x → P (f i x)) → P (itr f n a)
  | 0, _ => h0
  | n + 1, h => h n _ (Nat.lt_succ_self n) (itr_inv h0 n (fun i x hi => h i x (Nat.lt_succ_of_lt hi)))
/-- any loop, by a measure -/
theorem lp_meas {α : Type} {B : (α → Prop) → α → Prop} (I : α → Prop) (μ : α → Nat) (hs : ∀ (kb : α → Prop) (a : α), I a → (∀ b, I b → μ b < μ a → kb b) → B kb a) (a : α) (h : I a) : ∃ n, lpN B n a := by
  have key : ∀ (n : Nat) (a : α), I a → μ a < n → lpN B n a := by
    intro n
    induction n with
    | zero => intro a _ h; exact absurd h (Nat.not_lt_zero _)
    | succ n ih => intro a ha hn; exact hs (lpN B n) a ha (fun b hb hlt => ih b hb (by omega))
  exact ⟨μ a + 1, key _ a h (Nat.lt_succ_self _)⟩
/-! the fields and arrays that are the same in both systems: (IceRun's key, the reference's) -/
def IP : List (Nat × Nat) := [(100, 1), (101, 2), (300, 13), (400, 22), (502, 23), (700, 26), (701, 27), (703, 30), (704, 31), (705, 39), (7, 40)]
def AP : List (Nat × Nat) := [(102, 3), (103, 4), (104, 5), (105, 6), (106, 7), (107, 8), (108, 9), (200, 10), (201, 11), (301, 14), (302, 15), (303, 16), (304, 17), (305, 18), (401, 21), (501, 19), (708, 29), (709, 41), (710, 32), (800, 33), (801, 36), (802, 37), (803, 34), (804, 35)]
theorem IP_inj : ∀ p ∈ IP, ∀ q ∈ IP, p.1 = q.1 ↔ p.2 = q.2 := by decide +kernel
theorem AP_inj : ∀ p ∈ AP, ∀ q ∈ AP, p.1 = q.1 ↔ p.2 = q.2 := by decide +kernel
def R0 (σ τ : St) : Prop := (∀ p ∈ IP, σ.1 p.1 = τ.1 p.2) ∧ ∀ p ∈ AP, σ.2 p.1 = τ.2 p.2
theorem R0.i {σ τ : St} (h : R0 σ τ) {k k' : Nat} (hk : (k, k') ∈ IP) : σ.1 k = τ.1 k' := h.1 _ hk
theorem R0.a {σ τ : St} (h : R0 σ τ) {k k' : Nat} (hk : (k, k') ∈ AP) : σ.2 k = τ.2 k' := h.2 _ hk
theorem R0.uI {σ τ : St} (h : R0 σ τ) {k k' : Nat} (hk : (k, k') ∈ IP) (v : Int32) : R0 (pI σ k v) (pI τ k' v) := by
  refine ⟨fun p hp => ?_, h.2⟩
  rw [pI_1, pI_1, h.1 p hp]
  have e := IP_inj p hp _ hk
  by_cases q : p.1 = k
  · rw [if_pos q, if_pos (e.mp q)]
  · rw [if_neg q, if_neg (fun z => q (e.mpr z))]
theorem R0.uIl {σ τ : St} (h : R0 σ τ) {k : Nat} (hk : ∀ p ∈ IP, p.1 ≠ k) (v : Int32) : R0 (pI σ k v) τ := ⟨fun p hp => by rw [pI_1, if_neg (hk p hp)]; exact h.1 p hp, h.2⟩
theorem R0.uIr {σ τ : St} (h : R0 σ τ) {k : Nat} (hk : ∀ p ∈ IP, p.2 ≠ k) (v : Int32) : R0 σ (pI τ k v) := ⟨fun p hp => by rw [pI_1, if_neg (hk p hp)]; exact h.1 p hp, h.2⟩
theorem R0.uC {σ τ : St} (h : R0 σ τ) {k k' : Nat} (hk : (k, k') ∈ AP) (f : Nat → Int32) : R0 (pC σ k f) (pC τ k' f) := by
  refine ⟨h.1, fun p hp => ?_⟩
  rw [pC_2, pC_2, h.2 p hp]
  have e := AP_inj p hp _ hk
  by_cases q : p.1 = k
  · rw [if_pos q, if_pos (e.mp q)]
  · rw [if_neg q, if_neg (fun z => q (e.mpr z))]
theorem R0.uCl {σ τ : St} (h : R0 σ τ) {k : Nat} (hk : ∀ p ∈ AP, p.1 ≠ k) (f : Nat → Int32) : R0 (pC σ k f) τ := ⟨h.1, fun p hp => by rw [pC_2, if_neg (hk p hp)]; exact h.2 p hp⟩
theorem R0.uCr {σ τ : St} (h : R0 σ τ) {k : Nat} (hk : ∀ p ∈ AP, p.2 ≠ k) (f : Nat → Int32) : R0 σ (pC τ k f) := ⟨h.1, fun p hp => by rw [pC_2, if_neg (hk p hp)]; exact h.2 p hp⟩
theorem pA_pC (σ : St) (k i : Nat) (v : Int32) : pA σ k i v = pC σ k (upd (σ.2 k) i v) := rfl
theorem R0.uA {σ τ : St} (h : R0 σ τ) {k k' : Nat} (hk : (k, k') ∈ AP) (i : Nat) (v : Int32) : R0 (pA σ k i v) (pA τ k' i v) := by
  rw [pA_pC, pA_pC, h.a hk]
  exact h.uC hk _
theorem R0.uAl {σ τ : St} (h : R0 σ τ) {k : Nat} (hk : ∀ p ∈ AP, p.1 ≠ k) (i : Nat) (v : Int32) : R0 (pA σ k i v) τ := h.uCl hk _
theorem R0.uAr {σ τ : St} (h : R0 σ τ) {k : Nat} (hk : ∀ p ∈ AP, p.2 ≠ k) (i : Nat) (v : Int32) : R0 σ (pA τ k i v) := h.uCr hk _
/-! small methods in closed form -/
theorem wI_within {x0 x1 x2 : Int32} {σ : St} {post : Int32 → St → Prop} (h : post (if x1 ≤ x0 ∧ x0 ≤ x2 then 1 else 0) σ) : wpI_X10_within x0 x1 x2 σ post := by
  unfold wpI_X10_within
  by_cases a : x0 < x1
  · rw [if_neg (fun q => absurd q.1 (Int32.not_le.mpr a))] at h
    exact ⟨fun _ => ⟨Or.inl rfl, h⟩, fun q => absurd a q⟩
  · refine ⟨fun q => absurd q a, fun _ => ?_⟩
    by_cases b : x2 < x0
    · rw [if_neg (fun q => absurd q.2 (Int32.not_le.mpr b))] at h
      exact ⟨fun _ => ⟨Or.inl rfl, h⟩, fun q => absurd b q⟩
    · rw [if_pos ⟨Int32.not_lt.mp a, Int32.not_lt.mp b⟩] at h
      exact ⟨fun q => absurd q b, fun _ => ⟨Or.inr rfl, h⟩⟩
theorem wM_within {x0 x1 x2 : Int32} {σ : St} {post : Int32 → St → Prop} (h : post (if x1 ≤ x0 ∧ x0 ≤ x2 then 1 else 0) σ) : wpM_within x0 x1 x2 σ post := by
  unfold wpM_within
  by_cases a : x0 < x1
  · rw [if_neg (fun q => absurd q.1 (Int32.not_le.mpr a))] at h
    exact ⟨fun _ => ⟨Or.inl rfl, h⟩, fun q => absurd a q⟩
  · refine ⟨fun q => absurd q a, fun _ => ?_⟩
    by_cases b : x2 < x0
    · rw [if_neg (fun q => absurd q.2 (Int32.not_le.mpr b))] at h
      exact ⟨fun _ => ⟨Or.inl rfl, h⟩, fun q => absurd b q⟩
    · rw [if_pos ⟨Int32.not_lt.mp a, Int32.not_lt.mp b⟩] at h
      exact ⟨fun q => absurd q b, fun _ => ⟨Or.inr rfl, h⟩⟩

/-! ===== laws: a law, the whole tape ===== -/
noncomputable def nxt (f : Nat → Int32) (n a : Nat) : Nat := ta f n (toF f n a)
theorem nxt_b {f : Nat → Int32} {n a : Nat} (ha : a ≤ n) : a ≤ nxt f n a ∧ nxt f n a ≤ n ∧ (a < n → a < nxt f n a) := by
  have b := to_b (f := f) ha
  have c := ta_b (f := f) b.2.1
  unfold nxt
  refine ⟨by omega, c.2, fun h => ?_⟩
  have := b.2.2 h
  omega
noncomputable def LSt (σ : St) (n : Nat) (fd : Nat → Int32) (ft : Int32) (a : Nat) : St := AV (pI (pC σ 600 fd) 604 ft) a (toF (σ.2 401) n a) (tk (σ.2 401) n a)
noncomputable def MSt (τ : St) (n : Nat) (td : Nat → Int32) (pl : Int32) (a : Nat) : St := AM (pI (pC τ 20 td) 23 pl) a (toF (τ.2 21) n a)
theorem I_advL {σ : St} {n a : Nat} {fd : Nat → Int32} {ft : Int32} {post : St → Prop} (hn : n ≤ 300) (e : σ.1 400 = nI n) (ha : a ≤ n) (h : post (LSt σ n fd ft (nxt (σ.2 401) n a))) : wpI_X1_advance (LSt σ n fd ft a) post :=
  I_advance (σ := pI (pC σ 600 fd) 604 ft) hn e (to_b ha).2.1 h
theorem M_tokL {τ : St} {n a : Nat} {td : Nat → Int32} {pl : Int32} {post : St → Prop} (hn : n ≤ 300) (e : τ.1 22 = nI n) (ha : a ≤ n) (h : post (MSt τ n td pl (nxt (τ.2 21) n a))) : wpM_token (MSt τ n td pl a) post :=
  M_token (σ := pI (pC τ 20 td) 23 pl) hn e (to_b ha).2.1 h
theorem LS_ft {σ : St} {n a : Nat} {fd : Nat → Int32} {ft ft' : Int32} : pI (LSt σ n fd ft a) 604 ft' = LSt σ n fd ft' a := by
  unfold LSt AV
  rw [pI_cm (k := 603) (by decide), pI_cm (k := 601) (by decide), pI_cm (k := 602) (by decide), pI_pI]
theorem LS_fd {σ : St} {n a i : Nat} {fd : Nat → Int32} {ft v : Int32} : pA (LSt σ n fd ft a) 600 i v = LSt σ n (upd fd i v) ft a := by
  show AV (pI (pA (pC σ 600 fd) 600 i v) 604 ft) a (toF (σ.2 401) n a) (tk (σ.2 401) n a) = _
  rw [pA_same]
  rfl
theorem MS_td {τ : St} {n a i : Nat} {td : Nat → Int32} {pl v : Int32} : pA (MSt τ n td pl a) 20 i v = MSt τ n (upd td i v) pl a := by
  show AM (pI (pA (pC τ 20 td) 20 i v) 23 pl) a (toF (τ.2 21) n a) = _
  rw [pA_same]
  rfl
theorem MS_pl {τ : St} {n a : Nat} {td : Nat → Int32} {pl : Int32} : pI (MSt τ n td pl a) 23 (nI a) = MSt τ n td (nI a) a := by
  unfold MSt AM
  rw [pI_cm (k := 25) (by decide), pI_cm (k := 24) (by decide), pI_pI]
/-- the number of d digits from a on -/
def nv (f : Nat → Int32) (a : Nat) : Nat → Int32
  | 0 => 0
  | d + 1 => nv f a d * 10 + bb f (a + d) - 48
/-- what a law's reading comes to: fault, token, what was found -/
noncomputable def lst (f : Nat → Int32) (n a : Nat) (fd : Nat → Int32) : Int32 × Nat × (Nat → Int32) := match wdf f a (toF f n a) 7 0 with
  | none => (1, a, fd)
  | some j => if j < 5 then ci (dgt f n (nxt f n a) ∧ toF f n (nxt f n a) - nxt f n a ≤ 4) (if wdLow j ≤ nv f (nxt f n a) (toF f n (nxt f n a) - nxt f n a) ∧ nv f (nxt f n a) (toF f n (nxt f n a) - nxt f n a) ≤ wdHigh j then ci (sem f n (nxt f n (nxt f n a))) (0, nxt f n (nxt f n (nxt f n a)), upd fd (wdSlot j).toNatClampNeg (nv f (nxt f n a) (toF f n (nxt f n a) - nxt f n a))) (1, nxt f n (nxt f n a), fd) else (2, nxt f n a, fd)) (1, nxt f n a, fd)
    else ci (sem f n (nxt f n a)) (0, nxt f n (nxt f n a), upd fd 5 (wdLow j)) (1, nxt f n a, fd)
theorem I_readNumber {σ : St} {n a : Nat} {fd : Nat → Int32} {l1 l2 : Int32} {post : Int32 → St → Prop} (hn : n ≤ 300) (e : σ.1 400 = nI n) (ha : a ≤ n)
    (h1 : dgt (σ.2 401) n a ∧ toF (σ.2 401) n a - a ≤ 4 → l1 ≤ nv (σ.2 401) a (toF (σ.2 401) n a - a) ∧ nv (σ.2 401) a (toF (σ.2 401) n a - a) ≤ l2 → post (nv (σ.2 401) a (toF (σ.2 401) n a - a)) (LSt σ n fd 0 (nxt (σ.2 401) n a)))
    (h2 : dgt (σ.2 401) n a ∧ toF (σ.2 401) n a - a ≤ 4 → ¬ (l1 ≤ nv (σ.2 401) a (toF (σ.2 401) n a - a) ∧ nv (σ.2 401) a (toF (σ.2 401) n a - a) ≤ l2) → post (-1) (LSt σ n fd 2 a))
    (h3 : ¬ (dgt (σ.2 401) n a ∧ toF (σ.2 401) n a - a ≤ 4) → post (-1) (LSt σ n fd 1 a)) : wpI_X1_readNumber l1 l2 (LSt σ n fd 0 a) post := by
  have b := to_b (f := σ.2 401) ha
  unfold wpI_X1_readNumber
  rw [show (LSt σ n fd 0 a).1 601 = tk (σ.2 401) n a from rfl]
  refine ⟨fun z => ?_, fun z => ?_⟩
  · have d := tk_2.mp z
    show wpI_X1_readNumber_24 l1 l2 0 (nI a) (LSt σ n fd 0 a) post
    refine lp_ci (fun i => (l1, l2, nv (σ.2 401) a (i - a), nI i, LSt σ n fd 0 a)) a (toF (σ.2 401) n a) b.1 (by rw [Nat.sub_self]; rfl) ?_ ?_
    · intro kb
      dsimp only
      unfold wpBI_X1_readNumber_24
      refine pk_le (toF (σ.2 401) n a) (toF (σ.2 401) n a) (fun _ => I_in (bz_rb (fun q => I_advL hn e ha (h1 d q)) (fun q => ?_))) (fun z => absurd z (Nat.lt_irrefl _)) (by rfl)
      dsimp only
      rw [LS_ft]
      exact h2 d q
    · intro i kb h9 hi hk
      dsimp only
      unfold wpBI_X1_readNumber_24
      refine pk_le (toF (σ.2 401) n a) i (fun z => absurd z (by omega)) (fun _ => I_byteY (σ := LSt σ n fd 0 a) hn e (by omega) (kb_eq hk ?_)) (by rfl)
      rw [nI_1, show i + 1 - a = (i - a) + 1 by omega]
      show (l1, l2, nv (σ.2 401) a (i - a) * 10 + bb (σ.2 401) i - 48, _, _) = (l1, l2, nv (σ.2 401) a (i - a) * 10 + bb (σ.2 401) (a + (i - a)) - 48, _, _)
      rw [show a + (i - a) = i by omega]
  · dsimp only
    rw [LS_ft]
    exact h3 (fun c => z (tk_2.mpr c))
theorem I_law48 {σ : St} {n a j : Nat} {fd : Nat → Int32} {v : Int32} {post : St → Prop} (hn : n ≤ 300) (e : σ.1 400 = nI n) (ha : a ≤ n) (hj : j < 7) (h1 : sem (σ.2 401) n a → post (LSt σ n (upd fd (wdSlot j).toNatClampNeg v) 0 (nxt (σ.2 401) n a))) (h2 : ¬ sem (σ.2 401) n a → post (LSt σ n fd 1 a)) : wpI_X1_readLaw_48 j v (LSt σ n fd 0 a) post := by
  have vj : vp_in (wdSlot j) 6 := by
    rcases (by omega : j = 0 ∨ j = 1 ∨ j = 2 ∨ j = 3 ∨ j = 4 ∨ j = 5 ∨ j = 6) with rfl | rfl | rfl | rfl | rfl | rfl | rfl <;> exact vp_in_iff.mpr (by decide)
  refine ⟨fun z => absurd rfl z, fun _ => ⟨fun z => ⟨fun z2 => absurd rfl z2, fun _ => ⟨hj, vj, ?_⟩⟩, fun z => ?_⟩⟩
  · dsimp only
    rw [LS_fd]
    exact I_advL hn e ha (h1 (tk_3.mp z))
  · dsimp only
    rw [LS_ft]
    exact ⟨fun _ => h2 (fun c => z (tk_3.mpr c)), fun z2 => absurd z2 (show ¬ (1 : Int32) = 0 by decide)⟩
theorem I_law48n {σ : St} {n a j : Nat} {fd : Nat → Int32} {v ft : Int32} {post : St → Prop} (hft : ¬ ft = 0) (h : post (LSt σ n fd ft a)) : wpI_X1_readLaw_48 j v (LSt σ n fd ft a) post :=
  ⟨fun _ => ⟨fun _ => h, fun z2 => absurd z2 hft⟩, fun z => absurd z hft⟩
theorem I_readLaw {σ : St} {n a : Nat} {fd : Nat → Int32} {post : St → Prop} (hn : n ≤ 300) (e : σ.1 400 = nI n) (ha : a ≤ n) (h : post (LSt σ n (lst (σ.2 401) n a fd).2.2 (lst (σ.2 401) n a fd).1 (lst (σ.2 401) n a fd).2.1)) : wpI_X1_readLaw (LSt σ n fd 0 a) post := by
  have b := to_b (f := σ.2 401) ha
  have b1 := nxt_b (f := σ.2 401) ha
  refine I_wordAtHand (S := LSt σ n fd 0 a) hn e rfl rfl tk_1 b.1 b.2.1 ?_
  rw [show (LSt σ n fd 0 a).2 401 = σ.2 401 from rfl]
  unfold lst at h
  cases hw : wdf (σ.2 401) a (toF (σ.2 401) n a) 7 0 with
  | none =>
    rw [hw] at h
    refine ⟨fun _ => ?_, fun j z => by cases z⟩
    dsimp only
    rw [LS_ft]
    exact h
  | some j =>
    rw [hw] at h
    have hj := (wdf_b 7 0 j hw).2.1
    refine ⟨fun z => (by cases z), fun j' z => ?_⟩
    cases z
    dsimp only at h
    refine I_advL hn e ha ⟨by omega, ?_⟩
    have nj : wdNum j = 0 ↔ ¬ j < 5 := by
      rcases (by omega : j = 0 ∨ j = 1 ∨ j = 2 ∨ j = 3 ∨ j = 4 ∨ j = 5 ∨ j = 6) with rfl | rfl | rfl | rfl | rfl | rfl | rfl <;> decide
    refine ⟨fun z => ⟨by omega, ?_⟩, fun z => ⟨by omega, by omega, ?_⟩⟩
    · have s5 : (wdSlot j).toNatClampNeg = 5 := by
        have := nj.mp z
        rcases (by omega : j = 5 ∨ j = 6) with rfl | rfl <;> decide
      rw [if_neg (nj.mp z)] at h
      refine I_law48 hn e b1.2.1 (by omega) (fun c => ?_) (fun c => ?_)
      · rw [ci_t c] at h
        rw [s5]
        exact h
      · rw [ci_f c] at h
        exact h
    · rw [if_pos (Classical.not_not.mp (fun c => z (nj.mpr c)))] at h
      refine I_readNumber hn e b1.2.1 (fun d q => ?_) (fun d q => ?_) (fun d => ?_)
      · rw [ci_t d, if_pos q] at h
        refine I_law48 hn e (nxt_b b1.2.1).2.1 (by omega) (fun c => ?_) (fun c => ?_)
        · rw [ci_t c] at h
          exact h
        · rw [ci_f c] at h
          exact h
      · rw [ci_t d, if_neg q] at h
        exact I_law48n (by decide) h
      · rw [ci_f d] at h
        exact I_law48n (by decide) h
theorem M_leastL {j : Nat} {S : St} {post : Int32 → St → Prop} (hj : j < 5) (h : post (wdLow j) S) : wpM_least (nI j) S post := by
  rcases (by omega : j = 0 ∨ j = 1 ∨ j = 2 ∨ j = 3 ∨ j = 4) with rfl | rfl | rfl | rfl | rfl
  · exact ⟨fun z => absurd (by decide) z, fun _ => h⟩
  · exact ⟨fun _ => ⟨fun _ => h, fun z => absurd (by decide) z⟩, fun z => absurd z (by decide)⟩
  · exact ⟨fun _ => ⟨fun _ => h, fun z => absurd (by decide) z⟩, fun z => absurd z (by decide)⟩
  · exact ⟨fun _ => ⟨fun z => absurd z (by decide), fun _ => h⟩, fun z => absurd z (by decide)⟩
  · exact ⟨fun _ => ⟨fun z => absurd z (by decide), fun _ => h⟩, fun z => absurd z (by decide)⟩
theorem M_mostL {j : Nat} {S : St} {post : Int32 → St → Prop} (hj : j < 5) (h : post (wdHigh j) S) : wpM_most (nI j) S post := by
  rcases (by omega : j = 0 ∨ j = 1 ∨ j = 2 ∨ j = 3 ∨ j = 4) with rfl | rfl | rfl | rfl | rfl
  · exact ⟨fun z => absurd (by decide) z, fun _ => h⟩
  · exact ⟨fun _ => ⟨fun z => absurd (by decide) z, fun _ => h⟩, fun z => absurd z (by decide)⟩
  · exact ⟨fun _ => ⟨fun _ => ⟨fun _ => h, fun z => absurd z (by decide)⟩, fun z => absurd z (by decide)⟩, fun z => absurd z (by decide)⟩
  · exact ⟨fun _ => ⟨fun _ => ⟨fun _ => h, fun z => absurd z (by decide)⟩, fun z => absurd z (by decide)⟩, fun z => absurd z (by decide)⟩
  · exact ⟨fun _ => ⟨fun _ => ⟨fun z => absurd (by decide) z, fun _ => h⟩, fun z => absurd z (by decide)⟩, fun z => absurd z (by decide)⟩
theorem M_one138 {τ : St} {n a : Nat} {td : Nat → Int32} {pl : Int32} {post : Int32 → St → Prop} (hn : n ≤ 300) (e : τ.1 22 = nI n) (ha : a ≤ n) (h1 : sem (τ.2 21) n a → post 0 (MSt τ n td pl (nxt (τ.2 21) n a))) (h2 : ¬ sem (τ.2 21) n a → post 1 (MSt τ n td (nI a) a)) : wpM_one_138 (MSt τ n td pl a) post := by
  have b := to_b (f := τ.2 21) ha
  refine M_is (S := MSt τ n td pl a) hn e rfl rfl b.1 b.2.1 (by omega) ?_
  rw [show (MSt τ n td pl a).2 21 = τ.2 21 from rfl, bz_c (spl_7 ha)]
  refine bz_rb (fun z => M_tokL hn e ha (h1 z)) (fun z => ?_)
  unfold wpM_fault
  dsimp only
  rw [show (MSt τ n td pl a).1 24 = nI a from rfl, MS_pl]
  exact h2 z
theorem M_one {τ : St} {n a : Nat} {fd : Nat → Int32} {pl : Int32} {post : Int32 → St → Prop} (hn : n ≤ 300) (e : τ.1 22 = nI n) (ha : a ≤ n) (h0 : (lst (τ.2 21) n a fd).1 = 0 → post 0 (MSt τ n (lst (τ.2 21) n a fd).2.2 pl (lst (τ.2 21) n a fd).2.1)) (h1 : ¬ (lst (τ.2 21) n a fd).1 = 0 → ∀ td, post (lst (τ.2 21) n a fd).1 (MSt τ n td (nI (lst (τ.2 21) n a fd).2.1) (lst (τ.2 21) n a fd).2.1)) : wpM_one (MSt τ n fd pl a) post := by
  have b := to_b (f := τ.2 21) ha
  have b1 := nxt_b (f := τ.2 21) ha
  have flt : ∀ (x : Int32) (td : Nat → Int32) (c : Nat), wpM_fault x (MSt τ n td pl c) (fun r σ => post r σ) = post x (MSt τ n td (nI c) c) := by
    intro x td c
    unfold wpM_fault
    dsimp only
    rw [show (MSt τ n td pl c).1 24 = nI c from rfl, MS_pl]
  refine M_lawAtHand (S := MSt τ n fd pl a) hn e rfl rfl b.1 b.2.1 ?_
  rw [show (MSt τ n fd pl a).2 21 = τ.2 21 from rfl]
  unfold lst at h0 h1
  cases hw : wdf (τ.2 21) a (toF (τ.2 21) n a) 7 0 with
  | none =>
    rw [hw] at h0 h1
    refine ⟨fun z => absurd rfl z, fun _ => ?_⟩
    rw [flt]
    exact h1 (show ¬ (1 : Int32) = 0 by decide) fd
  | some j =>
    rw [hw] at h0 h1
    have hj := (wdf_b 7 0 j hw).2.1
    dsimp only at h0 h1
    refine ⟨fun _ => M_tokL hn e ha (pk_le j 4 (fun z => ?_) (fun z => ⟨vp_in_iff.mpr (by decide), ?_⟩) (by rfl) (by rfl)), fun z => absurd z (nI_m1 (by omega))⟩
    · rw [if_pos (by omega : j < 5)] at h0 h1
      rw [show (MSt τ n fd pl (nxt (τ.2 21) n a)).1 24 = nI (nxt (τ.2 21) n a) from rfl]
      have no1 : ¬ (dgt (τ.2 21) n (nxt (τ.2 21) n a) ∧ toF (τ.2 21) n (nxt (τ.2 21) n a) - nxt (τ.2 21) n a ≤ 4) → wpM_one_65 (MSt τ n fd pl (nxt (τ.2 21) n a)) post := by
        intro d
        unfold wpM_one_65
        rw [flt]
        rw [ci_f d] at h0 h1
        exact h1 (show ¬ (1 : Int32) = 0 by decide) fd
      have b2 := to_b (f := τ.2 21) b1.2.1
      by_cases q : nxt (τ.2 21) n a < n
      · refine M_byteY (σ := MSt τ n fd pl (nxt (τ.2 21) n a)) hn e q (M_digit (bz_br (fun c => no1 (fun d => c d.1.2)) (fun c => ?_)))
        rw [show (MSt τ n fd pl (nxt (τ.2 21) n a)).1 25 = nI (toF (τ.2 21) n (nxt (τ.2 21) n a)) from rfl, show (MSt τ n fd pl (nxt (τ.2 21) n a)).1 24 = nI (nxt (τ.2 21) n a) from rfl, pk_sub b2.1]
        refine pk_le (toF (τ.2 21) n (nxt (τ.2 21) n a) - nxt (τ.2 21) n a) 4 (fun c2 => ?_) (fun c2 => no1 (fun d => by omega)) (by rfl) (by rfl)
        have d : dgt (τ.2 21) n (nxt (τ.2 21) n a) ∧ toF (τ.2 21) n (nxt (τ.2 21) n a) - nxt (τ.2 21) n a ≤ 4 := ⟨⟨q, c⟩, c2⟩
        rw [ci_t d] at h0 h1
        dsimp only
        refine lp_ci (fun i => (nI j, nv (τ.2 21) (nxt (τ.2 21) n a) (i - nxt (τ.2 21) n a), nI i, MSt τ n fd pl (nxt (τ.2 21) n a))) (nxt (τ.2 21) n a) (toF (τ.2 21) n (nxt (τ.2 21) n a)) b2.1 (by rw [Nat.sub_self]; rfl) ?_ ?_
        · intro kb
          dsimp only
          unfold wpBM_one_78
          refine pk_le (toF (τ.2 21) n (nxt (τ.2 21) n a)) (toF (τ.2 21) n (nxt (τ.2 21) n a)) (fun _ => M_leastL (by omega) (M_mostL (by omega) (M_in (bz_rb (fun g => ?_) (fun g => ?_))))) (fun z => absurd z (Nat.lt_irrefl _)) (by rfl)
          · rw [if_pos g] at h0 h1
            have sj : (wdSlot j).toNatClampNeg = j := by
              rcases (by omega : j = 0 ∨ j = 1 ∨ j = 2 ∨ j = 3 ∨ j = 4) with rfl | rfl | rfl | rfl | rfl <;> decide
            rw [sj] at h0 h1
            refine ⟨vp_in_nI (by omega) (by omega), ?_⟩
            dsimp only
            rw [nI_clamp (by omega), MS_td]
            refine M_tokL hn e b1.2.1 (M_one138 hn e (nxt_b b1.2.1).2.1 (fun s => ?_) (fun s => ?_))
            · rw [ci_t s] at h0 h1
              exact h0 rfl
            · rw [ci_f s] at h0 h1
              exact h1 (show ¬ (1 : Int32) = 0 by decide) _
          · rw [if_neg g] at h0 h1
            rw [flt]
            exact h1 (show ¬ (2 : Int32) = 0 by decide) fd
        · intro i kb h9 hi hk
          dsimp only
          unfold wpBM_one_78
          refine pk_le (toF (τ.2 21) n (nxt (τ.2 21) n a)) i (fun z => absurd z (by omega)) (fun _ => M_byteY (σ := MSt τ n fd pl (nxt (τ.2 21) n a)) hn e (by omega) (kb_eq hk ?_)) (by rfl)
          rw [nI_1, show i + 1 - nxt (τ.2 21) n a = (i - nxt (τ.2 21) n a) + 1 by omega]
          show (nI j, 10 * nv (τ.2 21) (nxt (τ.2 21) n a) (i - nxt (τ.2 21) n a) + bb (τ.2 21) i - 48, _, _) = (nI j, nv (τ.2 21) (nxt (τ.2 21) n a) (i - nxt (τ.2 21) n a) * 10 + bb (τ.2 21) (nxt (τ.2 21) n a + (i - nxt (τ.2 21) n a)) - 48, _, _)
          rw [show nxt (τ.2 21) n a + (i - nxt (τ.2 21) n a) = i by omega, Int32.mul_comm]
      · refine M_byteN (σ := MSt τ n fd pl (nxt (τ.2 21) n a)) hn e (by omega) (by omega) (M_digit (bz_br (fun c => no1 (fun d => q d.1.1)) (fun c => absurd (by decide) c.1)))
    · rw [if_neg (by omega : ¬ j < 5)] at h0 h1
      have sj : (6 : Int32) - nI j = wdLow j := by
        rcases (by omega : j = 5 ∨ j = 6) with rfl | rfl <;> decide
      show wpM_one_138 (pA (MSt τ n fd pl (nxt (τ.2 21) n a)) 20 5 (6 - nI j)) post
      rw [MS_td, sj]
      refine M_one138 hn e b1.2.1 (fun s => ?_) (fun s => ?_)
      · rw [ci_t s] at h0 h1
        exact h0 rfl
      · rw [ci_f s] at h0 h1
        exact h1 (show ¬ (1 : Int32) = 0 by decide) _

/-! ===== start: both sides ===== -/
theorem I_down' {Z : St} {be sh le ha ru row er T D : Nat → Int32} {ga : Nat → Nat} {W k r s n m : Nat} {sk : Int32} {post : St → Prop} (hr : r < 4) (hs : s < 16) (hW : W ≤ 200) (hk : k < 4) (hn : n ≤ 40) (hm : 2 ≤ m) (hm6 : m ≤ 6) (e2 : Z.2 102 = be) (e3 : Z.2 103 = sh) (e1 : Z.2 201 = le) (e4 : Z.2 304 s = sk) (ew : Z.2 302 s = nI W) (ek : Z.2 303 s = nI k) (hN : RN le) (hR : RW (Z.2 250) (Z.2 251) (Z.2 252) (Z.2 253) row) (hha : ∀ c, c < 40 → vp_in (ha c) 1001) (hru : ∀ c, c < 40 → vp_in (ru c) 101) (eg : Z.1 101 = nI m) (ee : Z.2 108 = er) (he : ∀ i, i < 12 → -50 ≤ (er i).toInt ∧ (er i).toInt ≤ 100) (eG : ∀ g, g < m → Z.2 107 g = nI (ga g)) (g0 : ga 0 = 0) (gl : ga (m - 1) = n) (gs : ∀ g, g + 1 < m → ga g < ga (g + 1)) (gn : ∀ g, g < m → ga g ≤ n)
    (h : post (pA (icI (pC (pC Z 803 (tA T (16 * r + s) (fun g => tgv er g (sm (fun c => TM be sh ha ru le row c (nI W) k sk) (ga g))) m)) 804 (tA D (16 * r + s) (dgv er) m)) ha ru W n) 801 (16 * r + s) (totV (tA T (16 * r + s) (fun g => tgv er g (sm (fun c => TM be sh ha ru le row c (nI W) k sk) (ga g))) m) (6 * (16 * r + s)) m))) : wpI_X10_comeDown_21 (nI r) (nI s) 0 1 (icI (pC (pC Z 803 (tA T (16 * r + s) (fun g => tgv er g (sm (fun c => TM be sh ha ru le row c (nI W) k sk) (ga g))) 1)) 804 (tA D (16 * r + s) (dgv er) 1)) ha ru W 0) post := by
  subst e2
  subst e3
  subst e1
  subst e4
  exact I_down hr hs hW hk hn hm hm6 ew ek hN hR hha hru eg ee he eG g0 gl gs gn h
theorem icI_0 {Y : St} {ha ru : Nat → Int32} {W : Nat} (h1 : Y.2 106 = ru) (h2 : Y.2 105 = ha) : icI Y ha ru W 0 = Y := by
  subst h1
  subst h2
  unfold icI
  rw [mp_0, mp_0, pC_self, pC_self]
theorem icM_0 {Y : St} {ha ru : Nat → Int32} {W : Nat} (h1 : Y.2 7 = ru) (h2 : Y.2 6 = ha) : icM Y ha ru W 0 = Y := by
  subst h1
  subst h2
  unfold icM
  rw [mp_0, mp_0, pC_self, pC_self]
theorem RD_start {ru n : Int32} {dn ti f : Nat → Int32} {r s m : Nat} (h : RD ru n dn ti) (hr : r < 4) (hs : s < 16) (h1 : nI r < ru) (h2 : nI s < n) (hm : 1 ≤ m) (hm6 : m ≤ 6) (h0 : f 0 = 0) : RD ru n (upd dn (16 * r + s) 1) (tA ti (16 * r + s) f m) := by
  intro r' hr' s' hs' z
  by_cases e : 16 * r' + s' = 16 * r + s
  · have e1 : r' = r := by omega
    have e2 : s' = s := by omega
    subst e1
    subst e2
    refine ⟨h1, h2, ?_⟩
    have := tA_in (T := ti) (K := 16 * r' + s') (f := f) (g := 0) (i := m) (by omega)
    rw [Nat.add_zero] at this
    rw [this, h0]
  · rw [pk_un e] at z
    have := h r' hr' s' hs' z
    refine ⟨this.1, this.2.1, ?_⟩
    unfold tA
    rw [mp_out (by omega)]
    exact this.2.2
theorem ga_lt {n m g : Nat} (hn : m - 1 ≤ n) (hm : 2 ≤ m) : g * n / (m - 1) < (g + 1) * n / (m - 1) := by
  have a : (g * n + (m - 1)) / (m - 1) = g * n / (m - 1) + 1 := Nat.add_div_right _ (by omega)
  have b : (g * n + (m - 1)) / (m - 1) ≤ (g + 1) * n / (m - 1) := Nat.div_le_div_right (by rw [Nat.add_mul, Nat.one_mul]; exact Nat.add_le_add_left hn _)
  rw [a] at b
  exact b
theorem M_startR {σ τ : St} {r s c n gm W k : Nat} {ga : Nat → Nat} {f : Nat → Int32} (h : Rel σ τ) (hg : ¬ σ.1 702 = -1) (hr : r < 4) (hs : s < 16) (hc16 : c < 16) (hru : τ.1 27 = nI (r + 1)) (hc : τ.1 31 = nI c) (eo : τ.2 29 c = nI s) (hn : τ.1 1 = nI n) (hgm : τ.1 2 = nI gm) (hn40 : n ≤ 40) (hg2 : 2 ≤ gm) (hg6 : gm ≤ 6) (hgat : ∀ k, k < gm → τ.2 8 k = nI (ga k)) (gl : ga (gm - 1) = n) (gs : ∀ g, g + 1 < gm → ga g < ga (g + 1)) (gn : ∀ g, g < gm → ga g ≤ n) (hW : W < 201) (eW : τ.2 15 s = nI W) (hk : k < 4) (ek : τ.2 16 s = nI k) (hf : (fun g => tgv (τ.2 9) g (sm (fun c => TM (τ.2 3) (τ.2 4) (τ.2 6) (τ.2 7) (τ.2 11) (τ.2 12) c (nI W) k (τ.2 17 s)) (ga g))) = f) (hf0 : f 0 = 0) (K64 : 16 * r + s < 64) (vK : vp_in (nI (16 * r + s)) 64) : ∀ post : Int32 → St → Prop, (∀ y z : Int32, y + z = totV (tA (τ.2 34) (16 * r + s) f gm) (6 * (16 * r + s)) gm → wpM_start_264 (nI r) (nI (16 * r + s)) (nI (16 * r + s)) y z (icM (pC (pC (pA (pI (pI τ 0 0) 0 0) 37 (16 * r + s) (stdV τ n)) 34 (tA (τ.2 34) (16 * r + s) f gm)) 35 (tA (τ.2 35) (16 * r + s) (dgv (τ.2 9)) gm)) (τ.2 6) (τ.2 7) W n) post) → wpM_start τ post := by
  have hsv := h.a2.2.1
  have hrv := h.a2.2.2
  intro post hp
  refine M_isOn (h.th 0) (bz_rb (fun _ => ?_) (fun z => absurd hg z))
  show vp_in (τ.1 31) 16 ∧ wpM_standard (pI τ 0 0) (fun r8 σ7 => vp_in (16 * (τ.1 27 - 1) + τ.2 29 (τ.1 31).toNatClampNeg) 64 ∧ wpM_start_57 (τ.1 27 - 1) (τ.2 29 (τ.1 31).toNatClampNeg) (16 * (τ.1 27 - 1) + τ.2 29 (τ.1 31).toNatClampNeg) 0 0 0 (pA σ7 37 (16 * (τ.1 27 - 1) + τ.2 29 (τ.1 31).toNatClampNeg).toNatClampNeg r8) post)
  rw [hc, nI_clamp (by omega), eo, hru, nI_pred, ln_eqM, nI_clamp (by omega)]
  refine ⟨vp_in_nI (by omega) (by omega), M_standard9 (τ := pI (pI τ 0 0) 0 0) hn40 hn h.a3 hsv ⟨vK, ?_⟩⟩
  have key := M_down (Z := pA (pI (pI τ 0 0) 0 0) 37 (16 * r + s) (stdV τ n)) (ha := τ.2 6) (ru := τ.2 7) (er := τ.2 9) (T := τ.2 34) (D := τ.2 35) (ga := ga) (W := W) (k := k) (r := r) (s := s) (n := n) (m := gm) (post := post) hr hs (by omega) hk hn40 hg2 hg6 eW ek h.a3 hsv hrv hn hgm rfl hgat gl gs gn
  rw [show (fun g => tgv (τ.2 9) g (sm (fun c => TM ((pA (pI (pI τ 0 0) 0 0) 37 (16 * r + s) (stdV τ n)).2 3) ((pA (pI (pI τ 0 0) 0 0) 37 (16 * r + s) (stdV τ n)).2 4) (τ.2 6) (τ.2 7) ((pA (pI (pI τ 0 0) 0 0) 37 (16 * r + s) (stdV τ n)).2 11) ((pA (pI (pI τ 0 0) 0 0) 37 (16 * r + s) (stdV τ n)).2 12) c (nI W) k ((pA (pI (pI τ 0 0) 0 0) 37 (16 * r + s) (stdV τ n)).2 17 s)) (ga g))) = f from hf] at key
  rw [tA_0, tA_0, icM_0 (Y := pC (pC (pA (pI (pI τ 0 0) 0 0) 37 (16 * r + s) (stdV τ n)) 34 (τ.2 34)) 35 (τ.2 35)) (ha := τ.2 6) (ru := τ.2 7) rfl rfl] at key
  rw [show pC (pC (pA (pI (pI τ 0 0) 0 0) 37 (16 * r + s) (stdV τ n)) 34 (τ.2 34)) 35 (τ.2 35) = pA (pI (pI τ 0 0) 0 0) 37 (16 * r + s) (stdV τ n) from (congrArg (fun z => pC z 35 (τ.2 35)) (pC_self (σ := pA (pI (pI τ 0 0) 0 0) 37 (16 * r + s) (stdV τ n)) (k := 34))).trans (pC_self (σ := pA (pI (pI τ 0 0) 0 0) 37 (16 * r + s) (stdV τ n)) (k := 35))] at key
  refine key (M_206 K64 hg2 hg6 hgm ?_ hp)
  have := tA_in (T := τ.2 34) (K := 16 * r + s) (f := f) (g := 0) (i := gm) (by omega)
  rw [Nat.add_zero] at this
  exact this.trans hf0
theorem Rel_next {σ τ : St} {r s c m n gm W : Nat} {f : Nat → Int32} {tot : Int32} (h : Rel σ τ) (hm : τ.1 30 = nI m) (hm16 : m ≤ 16) (hord : ∀ i, i < m → ∃ s, s < 16 ∧ τ.2 29 i = nI s ∧ nI s < τ.1 13) (z : c + 1 < m) (rc : RC (τ.2 5) (mp (τ.2 6) 0 n dc2) (mp (τ.2 7) 0 n (wrW W))) (rd : RD (τ.1 27) (τ.1 13) (upd (τ.2 33) (16 * r + s) 1) (tA (τ.2 34) (16 * r + s) f gm)) : Rel (pI (pA (icI (pC (pC (pA (pA σ 800 (16 * r + s) 1) 802 (16 * r + s) (stdV τ n)) 803 (tA (τ.2 34) (16 * r + s) f gm)) 804 (tA (τ.2 35) (16 * r + s) (dgv (τ.2 9)) gm)) (τ.2 6) (τ.2 7) W n) 801 (16 * r + s) tot) 704 (nI (c + 1))) (pI (pA (pA (icM (pC (pC (pA (pI (pI τ 0 0) 0 0) 37 (16 * r + s) (stdV τ n)) 34 (tA (τ.2 34) (16 * r + s) f gm)) 35 (tA (τ.2 35) (16 * r + s) (dgv (τ.2 9)) gm)) (τ.2 6) (τ.2 7) W n) 36 (16 * r + s) tot) 33 (16 * r + s) 1) 31 (nI (c + 1))) := by
  have f33 : σ.2 800 = τ.2 33 := h.a0.a (by decide)
  have f36 : σ.2 801 = τ.2 36 := h.a0.a (by decide)
  have f37 : σ.2 802 = τ.2 37 := h.a0.a (by decide)
  refine ⟨⟨fun p hp => ?_, fun p hp => ?_⟩, h.a1, rc, h.a3, h.a4, h.a5, h.a6, h.a7, h.a8.b0, h.a8.b1, h.a8.b2, h.a8.b3, h.a8.b4, h.a8.b5, h.a8.b6, rd, ⟨m, hm, hm16, hord, fun _ => ⟨c + 1, rfl, z⟩⟩⟩
  · simp only [IP, List.mem_cons, List.not_mem_nil, or_false] at hp
    rcases hp with rfl | rfl | rfl | rfl | rfl | rfl | rfl | rfl | rfl | rfl | rfl
    all_goals first | exact h.a0.i (by decide) | rfl
  · simp only [AP, List.mem_cons, List.not_mem_nil, or_false] at hp
    rcases hp with rfl | rfl | rfl | rfl | rfl | rfl | rfl | rfl | rfl | rfl | rfl | rfl | rfl | rfl | rfl | rfl | rfl | rfl | rfl | rfl | rfl | rfl | rfl | rfl
    all_goals first | exact h.a0.a (by decide) | rfl | exact congrArg (fun g => upd g (16 * r + s) 1) f33 | exact congrArg (fun g => upd g (16 * r + s) tot) f36 | exact congrArg (fun g => upd g (16 * r + s) (stdV τ n)) f37
theorem Rel_whole {σ τ : St} {r s c m n gm W N : Nat} {f : Nat → Int32} {tot : Int32} (h : Rel σ τ) (hr : r < 4) (hru : τ.1 27 = nI (r + 1)) (hsr : τ.2 28 r = 1) (hm : τ.1 30 = nI m) (hm16 : m ≤ 16) (hord : ∀ i, i < m → ∃ s, s < 16 ∧ τ.2 29 i = nI s ∧ nI s < τ.1 13) (h5 : RE5 N (τ.2 38) (σ.2 712) (σ.2 711)) (rc : RC (τ.2 5) (mp (τ.2 6) 0 n dc2) (mp (τ.2 7) 0 n (wrW W))) (rd : RD (τ.1 27) (τ.1 13) (upd (τ.2 33) (16 * r + s) 1) (tA (τ.2 34) (16 * r + s) f gm)) : Rel (pI (pI (pI (pA (pI (pA (icI (pC (pC (pA (pA σ 800 (16 * r + s) 1) 802 (16 * r + s) (stdV τ n)) 803 (tA (τ.2 34) (16 * r + s) f gm)) 804 (tA (τ.2 35) (16 * r + s) (dgv (τ.2 9)) gm)) (τ.2 6) (τ.2 7) W n) 801 (16 * r + s) tot) 704 (nI (c + 1))) 712 r (nI N)) 705 (nI (N + 1))) 706 (σ.1 706 + 1)) 702 (-1)) (pI (pA (pA (pI (pA (pA (icM (pC (pC (pA (pI (pI τ 0 0) 0 0) 37 (16 * r + s) (stdV τ n)) 34 (tA (τ.2 34) (16 * r + s) f gm)) 35 (tA (τ.2 35) (16 * r + s) (dgv (τ.2 9)) gm)) (τ.2 6) (τ.2 7) W n) 36 (16 * r + s) tot) 33 (16 * r + s) 1) 31 (nI (c + 1))) 28 r 2) 38 N (nI r)) 39 (nI (N + 1))) := by
  have f33 : σ.2 800 = τ.2 33 := h.a0.a (by decide)
  have f36 : σ.2 801 = τ.2 36 := h.a0.a (by decide)
  have f37 : σ.2 802 = τ.2 37 := h.a0.a (by decide)
  obtain ⟨n', hn', hn4, hst⟩ := h.a8.b1
  have en : n' = r + 1 := (nI_eq (by omega) (by omega)).mp (hn'.symm.trans hru)
  have wr : σ.2 712 r = -1 := (h.a8.b3 r hr).mpr (by rw [hsr]; decide)
  have c4 := cnt_lt (p := fun r => ¬ σ.2 712 r = -1) hr (fun q => q wr)
  have c16 := cnt_le (fun s => ¬ σ.2 711 s = -1) 16
  have h51 := h5.1
  refine ⟨⟨fun p hp => ?_, fun p hp => ?_⟩, h.a1, rc, h.a3, h.a4, h.a5, h.a6, h.a7, h.a8.b0, ⟨n', hn', hn4, fun r' hr' => ?_⟩, Or.inl ⟨rfl, fun r' hr' => ?_⟩, fun r' hr' => ?_, ⟨N + 1, rfl, ?_, ?_, ?_, ?_⟩, ⟨?_, h.a8.b5.2⟩, h.a8.b6, rd, ⟨m, hm, hm16, hord, fun z => absurd rfl z⟩⟩
  · simp only [IP, List.mem_cons, List.not_mem_nil, or_false] at hp
    rcases hp with rfl | rfl | rfl | rfl | rfl | rfl | rfl | rfl | rfl | rfl | rfl
    all_goals first | exact h.a0.i (by decide) | rfl
  · simp only [AP, List.mem_cons, List.not_mem_nil, or_false] at hp
    rcases hp with rfl | rfl | rfl | rfl | rfl | rfl | rfl | rfl | rfl | rfl | rfl | rfl | rfl | rfl | rfl | rfl | rfl | rfl | rfl | rfl | rfl | rfl | rfl | rfl
    all_goals first | exact h.a0.a (by decide) | rfl | exact congrArg (fun g => upd g (16 * r + s) 1) f33 | exact congrArg (fun g => upd g (16 * r + s) tot) f36 | exact congrArg (fun g => upd g (16 * r + s) (stdV τ n)) f37
  · show (r' < n' → upd (τ.2 28) r 2 r' = 1 ∨ upd (τ.2 28) r 2 r' = 2 ∨ upd (τ.2 28) r 2 r' = 3) ∧ (n' ≤ r' → upd (τ.2 28) r 2 r' = 0) ∧ (upd (τ.2 28) r 2 r' = 1 → r' + 1 = n')
    by_cases q : r' = r
    · rw [q, pk_us]
      exact ⟨fun _ => Or.inr (Or.inl rfl), fun z => by omega, fun z => absurd z (by decide)⟩
    · rw [pk_un q]
      exact hst r' hr'
  · show ¬ upd (τ.2 28) r 2 r' = 1
    by_cases q : r' = r
    · rw [q, pk_us]
      decide
    · rw [pk_un q]
      intro z
      have := (hst r' hr').2.2 z
      omega
  · show upd (σ.2 712) r (nI N) r' = -1 ↔ ¬ upd (τ.2 28) r 2 r' = 2
    by_cases q : r' = r
    · rw [q, pk_us, pk_us]
      exact ⟨fun z => absurd z (nI_m1 (by omega)), fun z => absurd rfl z⟩
    · rw [pk_un q, pk_un q]
      exact h.a8.b3 r' hr'
  · show N + 1 = cnt (fun r' => ¬ upd (σ.2 712) r (nI N) r' = -1) 4 + cnt (fun s => ¬ σ.2 711 s = -1) 16
    rw [cnt_add (p := fun r' => ¬ σ.2 712 r' = -1) (q := fun r' => ¬ upd (σ.2 712) r (nI N) r' = -1) hr (fun q => q wr) (by rw [pk_us]; exact nI_m1 (by omega)) (fun i _ hne => by rw [pk_un hne])]
    omega
  · intro k' hk'
    show (∃ r', r' < 4 ∧ upd (τ.2 38) N (nI r) k' = nI r' ∧ upd (σ.2 712) r (nI N) r' = nI k') ∨ ∃ s, s < 16 ∧ upd (τ.2 38) N (nI r) k' = nI (10 + s) ∧ σ.2 711 s = nI k'
    by_cases q : k' = N
    · subst q
      exact Or.inl ⟨r, hr, pk_us, pk_us⟩
    · rw [pk_un q]
      rcases h5.2.1 k' (by omega) with ⟨r', hr', a1, a2⟩ | a
      · refine Or.inl ⟨r', hr', a1, ?_⟩
        rw [pk_un (fun z => ?_)]
        · exact a2
        · subst z
          exact nI_m1 (by omega) (a2.symm.trans wr)
      · exact Or.inr a
  · intro r' hr'
    show upd (σ.2 712) r (nI N) r' = -1 ∨ ∃ k', k' < N + 1 ∧ upd (σ.2 712) r (nI N) r' = nI k' ∧ upd (τ.2 38) N (nI r) k' = nI r'
    by_cases q : r' = r
    · subst q
      exact Or.inr ⟨N, by omega, pk_us, pk_us⟩
    · rw [pk_un q]
      rcases h5.2.2.1 r' hr' with a | ⟨k', hk', a1, a2⟩
      · exact Or.inl a
      · exact Or.inr ⟨k', by omega, a1, by rw [pk_un (by omega)]; exact a2⟩
  · intro s' hs'
    show σ.2 711 s' = -1 ∨ ∃ k', k' < N + 1 ∧ σ.2 711 s' = nI k' ∧ upd (τ.2 38) N (nI r) k' = nI (10 + s')
    rcases h5.2.2.2 s' hs' with a | ⟨k', hk', a1, a2⟩
    · exact Or.inl a
    · exact Or.inr ⟨k', by omega, a1, by rw [pk_un (by omega)]; exact a2⟩
  · show σ.1 706 + 1 = nI (cnt (fun r' => upd (τ.2 28) r 2 r' = 2) 4)
    rw [h.a8.b5.1, nI_1, cnt_add (p := fun r' => τ.2 28 r' = 2) (q := fun r' => upd (τ.2 28) r 2 r' = 2) hr (by rw [hsr]; decide) pk_us (fun i _ hne => by rw [pk_un hne])]
theorem eS_start {σ τ : St} {r s n W : Nat} {f : Nat → Int32} (h : Rel σ τ) (hf0 : f 0 = 0) : pA (pA (pA (pA σ 800 (16 * r + s) 1) 802 (16 * r + s) (stdV τ n)) 803 (6 * (16 * r + s) + 0) 0) 804 (6 * (16 * r + s) + 0) 0 = icI (pC (pC (pA (pA σ 800 (16 * r + s) 1) 802 (16 * r + s) (stdV τ n)) 803 (tA (τ.2 34) (16 * r + s) f 1)) 804 (tA (τ.2 35) (16 * r + s) (dgv (τ.2 9)) 1)) (τ.2 6) (τ.2 7) W 0 := by
  have f6 : σ.2 105 = τ.2 6 := h.a0.a (by decide)
  have f7 : σ.2 106 = τ.2 7 := h.a0.a (by decide)
  have f34 : σ.2 803 = τ.2 34 := h.a0.a (by decide)
  have f35 : σ.2 804 = τ.2 35 := h.a0.a (by decide)
  rw [icI_0 (show (pC (pC (pA (pA σ 800 (16 * r + s) 1) 802 (16 * r + s) (stdV τ n)) 803 (tA (τ.2 34) (16 * r + s) f 1)) 804 (tA (τ.2 35) (16 * r + s) (dgv (τ.2 9)) 1)).2 106 = τ.2 7 from f7) (show (pC (pC (pA (pA σ 800 (16 * r + s) 1) 802 (16 * r + s) (stdV τ n)) 803 (tA (τ.2 34) (16 * r + s) f 1)) 804 (tA (τ.2 35) (16 * r + s) (dgv (τ.2 9)) 1)).2 105 = τ.2 6 from f6)]
  rw [← tA_s (T := τ.2 34) (i := 0) (f := f) hf0.symm, ← tA_s (T := τ.2 35) (i := 0) (f := dgv (τ.2 9)) (show (0 : Int32) = dgv (τ.2 9) 0 from (if_pos rfl).symm), tA_0, tA_0, ← f34, ← f35]
  generalize 6 * (16 * r + s) + 0 = B
  generalize 16 * r + s = K
  rfl
theorem I_startD {σ τ : St} {r s n gm W k : Nat} {ga : Nat → Nat} {f : Nat → Int32} {post : St → Prop} (h : Rel σ τ) (hr : r < 4) (hs : s < 16) (hn : τ.1 1 = nI n) (hgm : τ.1 2 = nI gm) (hn40 : n ≤ 40) (hg2 : 2 ≤ gm) (hg6 : gm ≤ 6) (hgat : ∀ k, k < gm → τ.2 8 k = nI (ga k)) (g0 : ga 0 = 0) (gl : ga (gm - 1) = n) (gs : ∀ g, g + 1 < gm → ga g < ga (g + 1)) (gn : ∀ g, g < gm → ga g ≤ n) (hW : W < 201) (eW : τ.2 15 s = nI W) (hk : k < 4) (ek : τ.2 16 s = nI k) (hf : (fun g => tgv (τ.2 9) g (sm (fun c => TM (τ.2 3) (τ.2 4) (τ.2 6) (τ.2 7) (τ.2 11) (τ.2 12) c (nI W) k (τ.2 17 s)) (ga g))) = f) (hf0 : f 0 = 0) (hp : post (pA (icI (pC (pC (pA (pA σ 800 (16 * r + s) 1) 802 (16 * r + s) (stdV τ n)) 803 (tA (τ.2 34) (16 * r + s) f gm)) 804 (tA (τ.2 35) (16 * r + s) (dgv (τ.2 9)) gm)) (τ.2 6) (τ.2 7) W n) 801 (16 * r + s) (totV (tA (τ.2 34) (16 * r + s) f gm) (6 * (16 * r + s)) gm))) : wpI_X10_comeDown (nI r) (nI s) σ post := by
  have e1 : σ.1 100 = τ.1 1 := h.a0.i (by decide)
  have e2 : σ.1 101 = τ.1 2 := h.a0.i (by decide)
  have f3 : σ.2 102 = τ.2 3 := h.a0.a (by decide)
  have f4 : σ.2 103 = τ.2 4 := h.a0.a (by decide)
  have f6 : σ.2 105 = τ.2 6 := h.a0.a (by decide)
  have f7 : σ.2 106 = τ.2 7 := h.a0.a (by decide)
  have f8 : σ.2 107 = τ.2 8 := h.a0.a (by decide)
  have f9 : σ.2 108 = τ.2 9 := h.a0.a (by decide)
  have f11 : σ.2 201 = τ.2 11 := h.a0.a (by decide)
  have f15 : σ.2 302 = τ.2 15 := h.a0.a (by decide)
  have f16 : σ.2 303 = τ.2 16 := h.a0.a (by decide)
  have f17 : σ.2 304 = τ.2 17 := h.a0.a (by decide)
  have hsv := h.a2.2.1
  have hrv := h.a2.2.2
  have vK : vp_in (nI (16 * r + s)) 64 := vp_in_nI (by omega) (by omega)
  refine I_standardNow (τ := τ) hn40 (e1.trans hn) h.rx f6 f7 hsv (I_line ⟨vK, I_line ⟨vK, I_write (g := 0) hr hs (by omega) ?_⟩⟩)
  rw [nI_clamp (by omega), nb1]
  rw [eS_start (W := W) h hf0]
  rw [← hf] at hp ⊢
  exact I_down' hr hs (by omega) hk hn40 hg2 hg6 (show (pA (pA σ 800 (16 * r + s) 1) 802 (16 * r + s) (stdV τ n)).2 102 = τ.2 3 from f3) (show (pA (pA σ 800 (16 * r + s) 1) 802 (16 * r + s) (stdV τ n)).2 103 = τ.2 4 from f4) (show (pA (pA σ 800 (16 * r + s) 1) 802 (16 * r + s) (stdV τ n)).2 201 = τ.2 11 from f11) (show (pA (pA σ 800 (16 * r + s) 1) 802 (16 * r + s) (stdV τ n)).2 304 s = τ.2 17 s from congrFun f17 s) ((congrFun f15 s).trans eW) ((congrFun f16 s).trans ek) h.a3 h.a4 hsv hrv (e2.trans hgm) f9 h.a7.2 (fun g hgg => (congrFun f8 g).trans (hgat g hgg)) g0 gl gs gn hp
theorem I_countDown {S : St} {r c m : Nat} {post : St → Prop} (hr : r < 4) (hc : c < 16) (hm16 : m ≤ 16) (e4 : S.1 704 = nI c) (e3 : S.1 703 = nI m) (e2 : S.1 702 = nI r) (h1 : c + 1 < m → post (pI S 704 (nI (c + 1)))) (h2 : m ≤ c + 1 → post (pI (pI (pI (pA (pI S 704 (nI (c + 1))) 712 r (S.1 705)) 705 (S.1 705 + 1)) 706 (S.1 706 + 1)) 702 (-1))) : wpI_X2_countDown S post := by
  have e : S.1 704 + 1 = nI (c + 1) := by rw [e4, nI_1]
  unfold wpI_X2_countDown
  dsimp only
  rw [e]
  refine pk_lt (c + 1) m (fun z => h1 z) (fun z => I_in ?_) (by rfl) e3
  rw [show (pI S 704 (nI (c + 1))).1 702 = nI r from e2, nI_clamp (by omega)]
  exact bz_br (fun q => absurd ⟨nI_pos' (by omega), nI_le (b := 3) (by omega) (by omega)⟩ q) (fun _ => ⟨vp_in_nI hr (by omega), h2 z⟩)
theorem M_264 {S : St} {r K c m N : Nat} {y z tot : Int32} {post : Int32 → St → Prop} (hK : K < 64) (hr : r < 4) (hc : c < 16) (hm16 : m ≤ 16) (hN : N ≤ 20) (e : y + z = tot) (e1 : S.1 31 = nI c) (e0 : S.1 30 = nI m) (e9 : S.1 39 = nI N) (h1 : ¬ c + 1 = m → post tot (pI (pA (pA S 36 K tot) 33 K 1) 31 (nI (c + 1)))) (h2 : c + 1 = m → N < 20 ∧ post tot (pI (pA (pA (pI (pA (pA S 36 K tot) 33 K 1) 31 (nI (c + 1))) 28 r 2) 38 N (nI r)) 39 (nI (N + 1)))) : wpM_start_264 (nI r) (nI K) (nI K) y z S post := by
  have vK : vp_in (nI K) 64 := vp_in_nI hK (by omega)
  have ek : (nI K).toNatClampNeg = K := nI_clamp (by omega)
  have ec : S.1 31 + 1 = nI (c + 1) := by rw [e1, nI_1]
  unfold wpM_start_264 wpM_start_321
  dsimp only
  rw [ek, e, nb1]
  have t1 : (pA (pA S 36 K tot) 33 K 1).2 36 K = tot := by rw [pA_2, if_neg (by decide), pA_2, if_pos rfl, pk_us]
  rw [show (pA (pA S 36 K tot) 33 K 1).1 31 = S.1 31 from rfl, ec]
  refine ⟨vK, vK, And.symm (pk_eq (c + 1) m (fun q => ?_) (fun q => ⟨vK, ?_⟩) (by rfl) e0)⟩
  · have k := h2 q
    rw [show (pA (pI (pA (pA S 36 K tot) 33 K 1) 31 (nI (c + 1))) 28 (nI r).toNatClampNeg 2).1 39 = nI N from e9, nI_clamp (n := r) (by omega), nI_clamp (n := N) (by omega)]
    refine ⟨vp_in_nI hr (by omega), vp_in_nI k.1 (by omega), vK, ?_⟩
    rw [show (pA (pA (pI (pA (pA S 36 K tot) 33 K 1) 31 (nI (c + 1))) 28 r 2) 38 N (nI r)).1 39 = nI N from e9, nI_1]
    rw [show (pI (pA (pA (pI (pA (pA S 36 K tot) 33 K 1) 31 (nI (c + 1))) 28 r 2) 38 N (nI r)) 39 (nI (N + 1))).2 36 K = tot from t1]
    exact k.2
  · rw [show (pI (pA (pA S 36 K tot) 33 K 1) 31 (nI (c + 1))).2 36 K = tot from t1]
    exact h1 q
theorem T_start {σ τ : St} (h : Rel σ τ) : wpI_X10_start σ (fun r σ' => wpM_start τ (fun r' τ' => r = r' ∧ Rel σ' τ')) := by
  by_cases hg : σ.1 702 = -1
  · refine ⟨fun z => absurd hg z, fun _ => ⟨fun _ => ?_, fun z => absurd hg z⟩⟩
    exact M_isOn (h.th 0) (bz_rb (fun z => absurd hg z) (fun _ => ⟨rfl, h.th 0⟩))
  · obtain ⟨r, hr, er, hru, hsr⟩ := h.go hg
    obtain ⟨m, hm, hm16, hord, hca⟩ := h.a8.b8
    obtain ⟨c, hc, hcm⟩ := hca hg
    obtain ⟨s, hs, eo, hsn⟩ := hord c hcm
    have e31 : σ.1 704 = τ.1 31 := h.a0.i (by decide)
    have e30 : σ.1 703 = τ.1 30 := h.a0.i (by decide)
    have e2 : σ.1 101 = τ.1 2 := h.a0.i (by decide)
    have e1 : σ.1 100 = τ.1 1 := h.a0.i (by decide)
    have e39 : σ.1 705 = τ.1 39 := h.a0.i (by decide)
    have f29 : σ.2 708 = τ.2 29 := h.a0.a (by decide)
    have f3 : σ.2 102 = τ.2 3 := h.a0.a (by decide)
    have f4 : σ.2 103 = τ.2 4 := h.a0.a (by decide)
    have f6 : σ.2 105 = τ.2 6 := h.a0.a (by decide)
    have f7 : σ.2 106 = τ.2 7 := h.a0.a (by decide)
    have f8 : σ.2 107 = τ.2 8 := h.a0.a (by decide)
    have f9 : σ.2 108 = τ.2 9 := h.a0.a (by decide)
    have f11 : σ.2 201 = τ.2 11 := h.a0.a (by decide)
    have f15 : σ.2 302 = τ.2 15 := h.a0.a (by decide)
    have f16 : σ.2 303 = τ.2 16 := h.a0.a (by decide)
    have f17 : σ.2 304 = τ.2 17 := h.a0.a (by decide)
    have f33 : σ.2 800 = τ.2 33 := h.a0.a (by decide)
    have f34 : σ.2 803 = τ.2 34 := h.a0.a (by decide)
    have f35 : σ.2 804 = τ.2 35 := h.a0.a (by decide)
    have f36 : σ.2 801 = τ.2 36 := h.a0.a (by decide)
    have f37 : σ.2 802 = τ.2 37 := h.a0.a (by decide)
    have on : ¬ τ.1 26 = 0 := fun z => by
      have := (h.a8.b0.2 z).1
      rw [hru] at this
      exact nI_ne0 (by omega) (by omega) this
    obtain ⟨n, gm, hn, hgm, hn5, hn40, hg2, hg6, hgat⟩ : ∃ n m : Nat, τ.1 1 = nI n ∧ τ.1 2 = nI m ∧ 5 ≤ n ∧ n ≤ 40 ∧ 2 ≤ m ∧ m ≤ 6 ∧ ∀ k, k < m → τ.2 8 k = nI (k * n / (m - 1)) := by
      rcases h.a1 with ⟨z, -⟩ | q
      · exact absurd z (h.a8.b0.1 on)
      · exact q
    have g0 : 0 * n / (gm - 1) = 0 := by rw [Nat.zero_mul, Nat.zero_div]
    have gl : (gm - 1) * n / (gm - 1) = n := Nat.mul_div_cancel_left n (by omega)
    have gs : ∀ g, g + 1 < gm → g * n / (gm - 1) < (g + 1) * n / (gm - 1) := fun g _ => ga_lt (by omega) hg2
    have gn : ∀ g, g < gm → g * n / (gm - 1) ≤ n := fun g hgg => by
      have : g * n / (gm - 1) ≤ (gm - 1) * n / (gm - 1) := Nat.div_le_div_right (Nat.mul_le_mul_right n (by omega))
      rw [gl] at this
      exact this
    generalize hga : (fun g => g * n / (gm - 1)) = ga at *
    replace g0 : ga 0 = 0 := by rw [← hga]; exact g0
    replace gl : ga (gm - 1) = n := by rw [← hga]; exact gl
    replace gs : ∀ g, g + 1 < gm → ga g < ga (g + 1) := by rw [← hga]; exact gs
    replace gn : ∀ g, g < gm → ga g ≤ n := by rw [← hga]; exact gn
    replace hgat : ∀ k, k < gm → τ.2 8 k = nI (ga k) := by rw [← hga]; exact hgat
    clear hga
    obtain ⟨W, hW, eW⟩ := vp_x (h.a5.2.1 s hs) (by omega)
    obtain ⟨k, hk, ek⟩ := vp_x (h.a5.2.2 s hs) (by omega)
    have hsv := h.a2.2.1
    have hrv := h.a2.2.2
    -- the sheet's new row
    generalize hf : (fun g => tgv (τ.2 9) g (sm (fun c => TM (τ.2 3) (τ.2 4) (τ.2 6) (τ.2 7) (τ.2 11) (τ.2 12) c (nI W) k (τ.2 17 s)) (ga g))) = f
    have hf0 : f 0 = 0 := by
      rw [← hf]
      exact if_pos rfl
    have K64 : 16 * r + s < 64 := by omega
    have vK : vp_in (nI (16 * r + s)) 64 := vp_in_nI K64 (by omega)
    -- the reference
    have hM := fun post => M_startR (ga := ga) h hg hr hs (by omega : c < 16) hru hc eo hn hgm hn40 hg2 hg6 hgat gl gs gn hW eW hk ek hf hf0 K64 vK post
    -- IceRun
    refine ⟨fun _ => ?_, fun z => absurd z hg⟩
    rw [e31, hc]
    refine I_in (bz_br (fun z => absurd (show 0 ≤ nI c ∧ nI c ≤ σ.1 703 - 1 by rw [e30, hm, nI_s1 (by omega)]; exact ⟨nI_pos' (by omega), nI_le (by omega) (by omega)⟩) z) (fun _ => ⟨vp_in_nI (by omega) (by omega), ?_⟩))
    rw [nI_clamp (by omega), f29, eo]
    refine ⟨fun z => absurd z hg, fun _ => ⟨fun _ => ?_, fun z => absurd z (nI_m1 (by omega))⟩⟩
    rw [er]
    refine I_startD (ga := ga) h hr hs hn hgm hn40 hg2 hg6 hgat g0 gl gs gn hW eW hk ek hf hf0 ?_
    have rd := RD_start (f := f) h.a8.b7 hr hs (by rw [hru]; exact nI_lt (by omega) (by omega)) hsn (by omega : 1 ≤ gm) hg6 hf0
    have rc : RC (τ.2 5) (mp (τ.2 6) 0 n dc2) (mp (τ.2 7) 0 n (wrW W)) := ⟨h.a2.1, dc2_v hsv, wr_v hrv⟩
    obtain ⟨N, hN, hNI, h5⟩ := h.ev
    have wr : σ.2 712 r = -1 := (h.a8.b3 r hr).mpr (by rw [hsr]; decide)
    have c4 := cnt_lt (p := fun r => ¬ σ.2 712 r = -1) hr (fun q => q wr)
    have c16 := cnt_le (fun s => ¬ σ.2 711 s = -1) 16
    have h51 := h5.1
    generalize totV (tA (τ.2 34) (16 * r + s) f gm) (6 * (16 * r + s)) gm = tot at hM ⊢
    have tt : ∀ X : St, (pA X 801 (16 * r + s) tot).2 801 (16 * r + s) = tot := fun X => by
      rw [pA_2, if_pos rfl, pk_us]
    refine I_countDown hr (by omega) hm16 (e31.trans hc) (e30.trans hm) er (fun z => I_totalOf hr hs ?_) (fun z => I_totalOf hr hs ?_)
    · rw [show ∀ X : St, ∀ v : Int32, (pI (pA X 801 (16 * r + s) tot) 704 v).2 801 (16 * r + s) = tot from fun X v => tt X]
      exact hM _ (fun y z' e => M_264 (by omega) hr (by omega) hm16 (by omega) e hc hm hN (fun _ => ⟨rfl, Rel_next h hm hm16 hord z rc rd⟩) (fun q => by omega))
    · rw [show ∀ X : St, ∀ v u w x : Int32, (pI (pI (pI (pA (pI (pA X 801 (16 * r + s) tot) 704 v) 712 r u) 705 w) 706 x) 702 (-1)).2 801 (16 * r + s) = tot from fun X v u w x => tt X]
      rw [show ∀ X : St, (pA X 801 (16 * r + s) tot).1 = X.1 from fun _ => rfl]
      rw [show (icI (pC (pC (pA (pA σ 800 (16 * r + s) 1) 802 (16 * r + s) (stdV τ n)) 803 (tA (τ.2 34) (16 * r + s) f gm)) 804 (tA (τ.2 35) (16 * r + s) (dgv (τ.2 9)) gm)) (τ.2 6) (τ.2 7) W n).1 = σ.1 from rfl, hNI, nI_1]
      exact hM _ (fun y z' e => M_264 (by omega) hr (by omega) hm16 (by omega) e hc hm hN (fun q => by omega) (fun _ => ⟨by omega, rfl, Rel_whole h hr hru hsr hm hm16 hord h5 rc rd⟩))

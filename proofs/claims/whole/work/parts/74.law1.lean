/-! ===== longs; a call that may throw, and its handler ===== -/
theorem g_i2l {X : Kx} {S : Type} {w : S → va_W} {σ : S} {l : Launch} {E : Ev} {own : String} {cc : ByteArray} {rm : Room} {ret : Option FieldType} {pc : Nat} {lv : List (Option Value)} {st : List Value} (C : Cx X l E own cc rm ret) {x : Int32} (d : decode cc pc = .ok (.i2l, 1)) (k : G X w σ (pc + 1) lv (.long x.toInt64 :: st)) : G X w σ pc lv (.int x :: st) := by
  obtain ⟨p, l', e, R, s, m, args, below, meth, c, Q, A, E', nL, kc, ks⟩ := X
  intro H locs ls hP hD hS hl
  exact lv_i2l C.1.1 C.1.2.1 d rfl (k H locs ls hP hD hS hl)
theorem g_lcmp {X : Kx} {S : Type} {w : S → va_W} {σ : S} {l : Launch} {E : Ev} {own : String} {cc : ByteArray} {rm : Room} {ret : Option FieldType} {pc : Nat} {lv : List (Option Value)} {st : List Value} (C : Cx X l E own cc rm ret) {x y : Int64} (d : decode cc pc = .ok (.lcmp, 1)) (k : G X w σ (pc + 1) lv (.int (lg_cmp x y) :: st)) : G X w σ pc lv (.long y :: .long x :: st) := by
  obtain ⟨p, l', e, R, s, m, args, below, meth, c, Q, A, E', nL, kc, ks⟩ := X
  intro H locs ls hP hD hS hl
  exact W.lcmp C.1.1 C.1.2.1 d (k H locs ls hP hD hS hl)
theorem g_lald {X : Kx} {S : Type} {w : S → va_W} {σ : S} {l : Launch} {E : Ev} {own : String} {cc : ByteArray} {rm : Room} {ret : Option FieldType} {pc : Nat} {lv : List (Option Value)} {st : List Value} (C : Cx X l E own cc rm ret) {q0 a0 n : Nat} {f : Nat → Int64} {i : Int32} (he : (w σ)[q0]? = some (a0, .inl (E.2.1 3, n, .inr (.inl f)))) (hin : vp_in i n) (d : decode cc pc = .ok (.laload, 1)) (k : G X w σ (pc + 1) lv (.long (f i.toNatClampNeg) :: st)) : G X w σ pc lv (.int i :: .ref a0 :: st) := by
  obtain ⟨p, l', e, R, s, m, args, below, meth, c, Q, A, E', nL, kc, ks⟩ := X
  intro H locs ls hP hD hS hl
  have hE : E' = E := C.2.2.2.2.2.2.2.1
  subst hE
  exact va_lald C.1.1 C.1.2.1 C.2.1.1 hP q0 3 he rfl hin d (k H locs ls hP hD hS hl)
theorem g_last {X : Kx} {S : Type} {w : S → va_W} {σ : S} {l : Launch} {E : Ev} {own : String} {cc : ByteArray} {rm : Room} {ret : Option FieldType} {pc : Nat} {lv : List (Option Value)} {st : List Value} (C : Cx X l E own cc rm ret) {q0 a0 n : Nat} {f : Nat → Int64} {i : Int32} {x : Int64} {σ' : S} (he : (w σ)[q0]? = some (a0, .inl (E.2.1 3, n, .inr (.inl f)))) (hw : (w σ).set q0 (a0, .inl (E.2.1 3, n, .inr (.inl (vp_updL f i.toNatClampNeg x)))) = w σ') (hin : vp_in i n) (d : decode cc pc = .ok (.lastore, 1)) (k : G X w σ' (pc + 1) lv st) : G X w σ pc lv (.long x :: .int i :: .ref a0 :: st) := by
  obtain ⟨p, l', e, R, s, m, args, below, meth, c, Q, A, E', nL, kc, ks⟩ := X
  intro H locs ls hP hD hS hl
  have hE : E' = E := C.2.2.2.2.2.2.2.1
  subst hE
  exact va_last C.1.1 C.1.2.1 C.2.1.1 hP hD hS q0 3 he rfl hin d (fun H1 locs1 hP1 hD1 hS1 => k H1 locs1 ls (hw ▸ hP1) (hw ▸ hD1) hS1 hl)
theorem g_widen {X : Kx} {S : Type} {w : S → va_W} {σ : S} {pc a b a' b' : Nat} {lv : List (Option Value)} {st : List Value} (h1 : a ≤ a') (h2 : b ≤ b') (k : G (XK X a' b') w σ pc lv st) : G (XK X a b) w σ pc lv st := by
  obtain ⟨p, l', e, R, s, m, args, below, meth, c, Q, A, E', nL, kc, ks⟩ := X
  intro H locs ls hP hD hS hl
  exact W.widen (k := a') (n := b') h1 h2 (k H locs ls hP hD hS hl)
theorem ua_long : Cond.arrayClass .long ∈ UW := by decide +kernel
theorem g_newl {X : Kx} {l : Launch} {E : Ev} {own : String} {cc : ByteArray} {rm : Room} {ret : Option FieldType} {pc a b : Nat} {lv : List (Option Value)} {st : List Value} {ws : va_W} (C : Cx X l E own cc rm ret) {n : Int32} (N : Nat) (hn : ¬ n < 0) (hN : n.toNatClampNeg = N) (hb : N * 8 ≤ 536870912) (hc : a + 1 ≤ rm.cells) (hs : b + N ≤ rm.slots) (d : decode cc pc = .ok (.newarray .long, 2)) (k : ∀ q : Nat, G (XK X (a + 1) (b + N)) wid (ws ++ [(q, .inl (E.2.1 3, N, .inr (.inl (fun _ => 0))))]) (pc + 2) lv (.ref q :: st)) : G (XK X a b) wid ws pc lv (.int n :: st) := by
  obtain ⟨p, l', e, R, s, m, args, below, meth, c, Q, A, E', nL, kc, ks⟩ := X
  intro H locs ls hP hD hS hl
  have hR' : R = rm := C.2.2.2.2.1
  have hE : E' = E := C.2.2.2.2.2.2.2.1
  subst hR'
  subst hE
  refine va_newa (a0 := (N, .inr (.inl (fun _ => 0)))) (atype := .long) (ty := .long) C.1.1 C.1.2.1 (C.1.2.2.2.2 _ ua_long) rfl C.2.1.1 hP hD hS C.2.2.1 (fun _ => rfl) hn hN hb hc hs d (fun q cA H1 hK1 hP1 hD1 hS1 => ?_)
  have hcA := cA_of (k := 3) (tys := []) C.2.1.1 hK1 rfl (fun _ h => by cases h)
  subst hcA
  exact k q H1 locs ls hP1 hD1 hS1 hl
def AOx (X : Kx) : Prop := match X with
  | (_, _, _, _, s, _, _, _, _, _, _, _, _, _, _, _) => va_AOA .int s
theorem g_ctorL {X : Kx} {l : Launch} {E : Ev} {own : String} {cc : ByteArray} {rm : Room} {ret : Option FieldType} {pc a b : Nat} {lv : List (Option Value)} {rest : List Value} {ws : va_W} (C : Cx X l E own cc rm ret) (hI : AOx X) {y : MethodName} {bytes : ByteArray} {nL' idx : Nat} {rm' : Room} {post : va_W → Prop} {q : Nat} {e0 : va_E} (h1 : Cond.methodLink own idx y ∈ UW) (h2 : Cond.instanceMethod y ∈ UW) (h4 : Cond.initialized y.cls ∈ UW) (h5 : Cond.code y bytes nL' none ∈ UW) (hy1 : y.name = "<init>") (hd : y.cls ≠ "java/lang/invoke/MethodHandle" ∧ y.cls ≠ "java/lang/invoke/VarHandle" ∧ (parseMethodDescriptor y.desc).map (fun d => d.parameters.length) = some 0) (hM : CC l E y bytes nL' rm' [.ref q] [(q, e0)] post) (hR : rm'.frames + 1 ≤ rm.frames ∧ 8 + (nL' + 11) + rm'.locals ≤ rm.locals) (hz : a + rm'.cells ≤ rm.cells ∧ b + rm'.slots ≤ rm.slots) (hW : (rest.map fun v => v.category).sum ≤ 8) (d : decode cc pc = .ok (.invokespecial idx, 3)) (k : ∀ u : va_W, post u → G (XK X (a + rm'.cells) (b + rm'.slots)) wid (ws ++ u) (pc + 3) lv rest) : G (XK X a b) wid (ws ++ [(q, e0)]) pc lv (.ref q :: rest) := by
  obtain ⟨p, l', e, R, s, m, args, below, meth, c, Q, A, E', nL, kc, ks⟩ := X
  intro H locs ls hP hD hS hl
  have hR' : R = rm := C.2.2.2.2.1
  have hl' : l' = l := C.2.2.2.2.2.2.1
  have hE : E' = E := C.2.2.2.2.2.2.2.1
  subst hR'
  subst hl'
  subst hE
  have hat : (ws ++ [(q, e0)])[ws.length]? = some (q, e0) := by simp
  have hPc : va_P E'.1 vwCl [(q, e0)] H := hP.sub [ws.length] (by simp)
  have hDc := hD.sub (ws' := [(q, e0)]) [ws.length] (by simp [va_nd]) (by simp)
  have hFr := va_free (wc := [(q, e0)]) hD hS C.2.2.1 [ws.length] (by simp)
  exact va_callv (va_runI (As := []) (rest := rest) C.1 (hM H.size) (cwI 0 C.1.2.2.2.2 (WS_gi h5) rfl rfl rfl (C.1.2.2.2.2 _ h4) (C.1.2.2.2.2 _ h1) (C.1.2.2.2.2 _ h2) hy1 hd hR) ⟨preC.blind, fun U hU hW9 => ⟨rfl, ⟨by rw [hU], by rw [hU]; exact hPc, hDc.weaken (fun _ _ _ _ => trivial), Fx.call C.2.1 hS hFr hW9 hU⟩, va_AOA.warm hW9 hI⟩⟩ rfl rfl hl.1 rfl (lv_room hW) d hz) hS (fun q _ h => hFr q h) hFr (fun u t H1 locs1 ht hvm hp hB hz1 hk1 hS1 => by
    obtain ⟨hP2, hD2⟩ := va_join (wr := ws) (w1 := u) hP hD [ws.length] (List.range ws.length) (by simp) range_ws (nd_of List.nodup_range) (fun i hi => by have := List.mem_range.mp hi; simp; omega) hk1 hFr (ht ▸ hB.1) hB.2
    exact k u hp H1 locs1 ls hP2 hD2 hS1 hl)
def hhL : List (Nat × Nat × Nat × Nat) := [(0, 10, 13, 13)]
def TB (X : Kx) : Prop := match X with
  | (_, _, _, _, _, _, _, _, _, c, _, _, _, _, _, _) => c.exceptionTable.toList = tableOf hhL
def QH (X : Kx) (post : Int32 → va_W → Prop) : Prop := match X with
  | (_, _, _, _, s, _, args, below, _, _, Q, A, E, _, _, _) => Q = MQ below (va_Qi post (pW E wid A) A) args s 1 6 A
def HW (y : MethodName) (cc : ByteArray) (nL : Nat) : List Cond := .codeWith y cc nL (some .int) hhL :: UW
/-- the contract of a method with that handler: it answers an int, and makes at most one cell of six slots -/
def CH (l : Launch) (E : Ev) (y : MethodName) (cc : ByteArray) (nL : Nat) (rm : Room) (As : List Value) (ws : va_W) (post : Int32 → va_W → Prop) : Prop := ∀ sz : Nat, Met l y (HW y cc nL) rm (va_Pc As (preW E wid ws sz)) (va_Qi post (pW E wid (va_A ws sz)) (va_A ws sz)) 1 6 (va_A ws sz)
theorem met_h {l : Launch} {E : Ev} {y : MethodName} {cc : ByteArray} {nL : Nat} {rm : Room} {As : List Value} {ws : va_W} {post : Int32 → va_W → Prop} {lv : List (Option Value)} (hy : plainName y.cls = true) (hc : As.all (fun v => v.category == 1) = true) (hn : As.length ≤ nL) (hlv : lv = As.map some ++ List.replicate (nL - As.length) none)
    (body : ∀ X : Kx, Cx X l E y.cls cc rm (some .int) → TB X → QH X post → G (XK X 0 0) wid ws 0 lv []) : CH l E y cc nL rm As ws post := by
  intro sz
  refine va_MetW (hh := hhL) (cc := cc) (maxL := nL) (ret := some .int) hy rfl ?_
  intro p e s m args below meth c s₁ B hml hv
  obtain ⟨rfl, hsz, hP, hD, hF⟩ := hv
  subst hsz
  have hts := atoms_spec (ws := HW y cc nL) B.pre
  have hU : ∀ x ∈ UW, x.before As.toArray s = true := fun x hx => hts x (List.mem_cons_of_mem _ hx)
  have htb : c.exceptionTable.toList = tableOf hhL := vx_table (x := y) B (hts _ List.mem_cons_self)
  have K := body (p, l, e, rm, s, m, As.toArray, below, meth, c, MQ below (va_Qi post (pW E wid (va_A ws s.heap.size)) (va_A ws s.heap.size)) As.toArray s 1 6 (va_A ws s.heap.size), va_A ws s.heap.size, E, nL, 0, 0) ⟨⟨B.exec, B.bytes, hml, findClass_of_methodNamed B.named, hU⟩, hF, fun q h => Or.inr h, B.notSynchronized, rfl, B.returns, rfl, rfl, Nat.zero_le _, Nat.zero_le _⟩ htb rfl
  rw [lg_entry_eq]
  exact K s.heap [] _ hP (hD.self (sz := s.heap.size)) va_S.rf (lvH_entry hc hn hlv)
theorem g_hreturn {X : Kx} {l : Launch} {E : Ev} {own : String} {cc : ByteArray} {rm : Room} {pc a b : Nat} {lv : List (Option Value)} {ws : va_W} {post : Int32 → va_W → Prop} {v : Int32} (C : Cx X l E own cc rm (some .int)) (hQ : QH X post) (d : decode cc pc = .ok (.ireturn, 1)) (h1 : a ≤ 1) (h2 : b ≤ 6) (h : post v ws) : G (XK X a b) wid ws pc lv [.int v] := by
  obtain ⟨p, l', e, R, s, m, args, below, meth, c, Q, A, E', nL, kc, ks⟩ := X
  intro H locs ls hP hD hS hl
  have hq : Q = _ := hQ
  subst hq
  refine W.widen (k := 1) (n := 6) h1 h2 ?_
  exact W.iret C.1.1 C.1.2.1 C.2.2.2.2.2.1 (fun t ht _ => ⟨⟨v, ws, rfl, h, by rw [ht]; exact hP, hD⟩, hS.F ht⟩) hS.2.2 d C.2.2.2.1
theorem u_nseL : Cond.classLink RL 13 NSE ∈ UW := by decide +kernel
theorem u_nseC : Cond.castable NSE NSE ∈ NW := by decide +kernel
/-- the call of a method that may throw, inside the handler; the callee's world is the first part of the caller's -/
theorem g_tryF {X : Kx} {w : St → va_W} {σ : St} {r : va_W} {l : Launch} {E : Ev} {cc : ByteArray} {rm : Room} {ret : Option FieldType} {pc a b : Nat} {lv : List (Option Value)} {st : List Value} (C : Cx X l E RL cc rm ret) (hT : TB X) {y : MethodName} {bytes : ByteArray} {nL' idx : Nat} (n : Nat) {rm' : Room} {As rest : List Value} {post : Int32 → St → Prop} {px : St → Prop} {b0 q0 ci N : Nat} {fs : List Value} {T : u_T} {Cn : String} (h1 : Cond.methodLink RL idx y ∈ UW) (h2 : Cond.instanceMethod y ∈ UW) (h3 : Cond.selects Cn y y ∈ UW) (h4 : Cond.initialized Cn ∈ UW) (h5 : Cond.code y bytes nL' (some .int) ∈ UW) (hd : y.cls = Cn ∧ y.cls ≠ "java/lang/invoke/MethodHandle" ∧ y.cls ≠ "java/lang/invoke/VarHandle" ∧ (parseMethodDescriptor y.desc).map (fun d => d.parameters.length) = some n) (he : (w σ)[q0]? = some (b0, .inr (ci, fs))) (hc : vwCl[ci]? = some (Cn, T, N)) (hM : CX l E w y bytes nL' rm' (.ref b0 :: As) σ post px) (hz : rm'.cells = 1 ∧ rm'.slots = 6) (hR : rm'.frames + 1 ≤ rm.frames ∧ 8 + (nL' + 11) + rm'.locals ≤ rm.locals) (hf : a + 1 ≤ rm.cells ∧ b + 6 ≤ rm.slots) (hn : As.length = n) (hst : st = As.reverse ++ .ref b0 :: rest) (hW : (rest.map fun v => v.category).sum ≤ 8) (hpc : pc < 10) (d : decode cc pc = .ok (.invokevirtual idx, 3))
    (kx : ∀ (q : Nat) (u : St), px u → G (XK X (a + 1) (b + 6)) wid (w u ++ r) 13 lv [.ref q])
    (k : ∀ (v : Int32) (u : St), post v u → G (XK X (a + 1) (b + 6)) wid (w u ++ r) (pc + 3) lv (.int v :: rest)) : G (XK X a b) wid (w σ ++ r) pc lv st := by
  obtain ⟨p, l', e, R, s, m, args, below, meth, c, Q, A, E', nL, kc, ks⟩ := X
  intro H locs ls hP hD hS hl
  have hR' : R = rm := C.2.2.2.2.1
  have hl' : l' = l := C.2.2.2.2.2.2.1
  have hE : E' = E := C.2.2.2.2.2.2.2.1
  subst hR'
  subst hl'
  subst hE
  have hlt : q0 < (w σ).length := (List.getElem?_eq_some_iff.mp he).1
  have he' : (w σ ++ r)[q0]? = some (b0, .inr (ci, fs)) := by rw [List.getElem?_append_left hlt]; exact he
  have hPc : va_P E'.1 vwCl (w σ) H := fun k9 x9 h9 => hP k9 x9 (by
    have := (List.getElem?_eq_some_iff.mp h9).1
    show (w σ ++ r)[k9]? = some x9
    rw [List.getElem?_append_left this]
    exact h9)
  have hDc := hD.sub (ws' := w σ) (List.range (w σ).length) (nd_of List.nodup_range) range_ws
  have hFr : ∀ q, va_A (w σ) H.size q → A q := fun q h => h.elim (fun ⟨k9, e9, h9⟩ => hDc.2 k9 _ h9) (fun h9 => C.2.2.1 q (Nat.le_trans hS.1 h9))
  subst hst
  have hT' : c.exceptionTable.toList = [] ++ (⟨0, 10, 13, 13⟩ : ExceptionTableEntry) :: [] := hT
  exact vx_calli (vx_runV (As := As) (rest := rest) C.1 (hM H.size) (cwV n C.1.2.2.2.2 (wsV_gi h1 h2 h3 h4 h5) rfl hz.1 hz.2 hd hR) ⟨preW.blind, va_recv C.2.1.1 hP hc he', fun U hU hW9 => ⟨rfl, by rw [hU], by rw [hU]; exact hPc, hDc.weaken (fun _ _ _ _ => trivial), Fx.call C.2.1 hS hFr hW9 hU⟩⟩ rfl hn hl.1 rfl (lv_room hW) d hf) hS (fun q _ h => hFr q h) hFr (fun q _ h => hFr q h)
    (fun En ce q9 u t H1 locs1 ht hvm hp hB hz1 hk1 hS1 hce hcv hcl => by
      obtain ⟨rfl, hB1, hB2⟩ := hB
      obtain ⟨hP2, hD2⟩ := join_l hP hD hk1 hFr (ht ▸ hB1) hB2
      exact vx_catch (own := RL) (name := NSE) C.1.2.2.2.1 [] ⟨0, 10, 13, 13⟩ [] hT' (fun z hz => nomatch hz) (by simp [hpc]) (by decide) (C.1.2.2.2.2 _ u_nseL) (va_Nw.use rfl (C.2.1.2.1 _ u_nseC)) hce hcv hcl (kx q9 u hp H1 locs1 ls hP2 hD2 hS1 hl))
    (fun v u t H1 locs1 ht hvm hp hB hz1 hk1 hS1 => by
      obtain ⟨hP2, hD2⟩ := join_l hP hD hk1 hFr (ht ▸ hB.1) hB.2
      exact k v u hp H1 locs1 ls hP2 hD2 hS1 hl)
theorem h_gi {own : String} {idx : Nat} {y : MethodName} {cc : ByteArray} {nL : Nat} (h1 : Cond.methodLink own idx y ∈ UW) (h2 : Cond.static y ∈ UW) (h3 : Cond.initialized y.cls ∈ UW) (h5 : Cond.codeWith y cc nL (some .int) hhL ∈ UW) : GoodIn UW (va_wsS own idx y (HW y cc nL)) := by
  intro w hw
  unfold va_wsS at hw
  rcases List.mem_append.mp hw with h | h
  · simp only [List.mem_cons, List.not_mem_nil, or_false] at h
    rcases h with rfl | rfl | rfl
    · exact UW_gi _ h1
    · exact UW_gi _ h2
    · exact UW_gi _ h3
  · exact (List.mem_cons.mp h).elim (fun e => e ▸ UW_gi _ h5) (UW_gi w)
/-- the call of a static method with that handler; its world is the first part of the caller's -/
theorem g_callH {X : Kx} {x r : va_W} {l : Launch} {E : Ev} {own : String} {cc : ByteArray} {rm : Room} {ret : Option FieldType} {pc a b : Nat} {lv : List (Option Value)} {st : List Value} (C : Cx X l E own cc rm ret) {y : MethodName} {bytes : ByteArray} {nL' idx : Nat} (n : Nat) {rm' : Room} {As rest : List Value} {post : Int32 → va_W → Prop} (h1 : Cond.methodLink own idx y ∈ UW) (h2 : Cond.static y ∈ UW) (h4 : Cond.initialized y.cls ∈ UW) (h5 : Cond.codeWith y bytes nL' (some .int) hhL ∈ UW) (hd : y.cls ≠ "java/lang/invoke/MethodHandle" ∧ y.cls ≠ "java/lang/invoke/VarHandle" ∧ (parseMethodDescriptor y.desc).map (fun d => d.parameters.length) = some n) (hM : CH l E y bytes nL' rm' As x post) (hz : rm'.cells = 1 ∧ rm'.slots = 6) (hR : rm'.frames + 1 ≤ rm.frames ∧ 8 + (nL' + 11) + rm'.locals ≤ rm.locals) (hf : a + 1 ≤ rm.cells ∧ b + 6 ≤ rm.slots) (hn : As.length = n) (hst : st = As.reverse ++ rest) (hW : (rest.map fun v => v.category).sum ≤ 8) (d : decode cc pc = .ok (.invokestatic idx, 3)) (k : ∀ (v : Int32) (u : va_W), post v u → G (XK X (a + 1) (b + 6)) wid (u ++ r) (pc + 3) lv (.int v :: rest)) : G (XK X a b) wid (x ++ r) pc lv st := by
  obtain ⟨p, l', e, R, s, m, args, below, meth, c, Q, A, E', nL, kc, ks⟩ := X
  intro H locs ls hP hD hS hl
  have hR' : R = rm := C.2.2.2.2.1
  have hl' : l' = l := C.2.2.2.2.2.2.1
  have hE : E' = E := C.2.2.2.2.2.2.2.1
  subst hR'
  subst hl'
  subst hE
  have hPc : va_P E'.1 vwCl x H := fun k9 x9 h9 => hP k9 x9 (by
    have := (List.getElem?_eq_some_iff.mp h9).1
    show (x ++ r)[k9]? = some x9
    rw [List.getElem?_append_left this]
    exact h9)
  have hDc := hD.sub (ws' := x) (List.range x.length) (nd_of List.nodup_range) range_ws
  have hFr : ∀ q, va_A x H.size q → A q := fun q h => h.elim (fun ⟨k9, e9, h9⟩ => hDc.2 k9 _ h9) (fun h9 => C.2.2.1 q (Nat.le_trans hS.1 h9))
  subst hst
  exact va_calli (vx_runSW (hh := hhL) (As := As) (rest := rest) C.1 (hM H.size) (vx_cwSW n C.1.2.2.2.2 (h_gi h1 h2 h4 h5) rfl hz.1 hz.2 hd hR) ⟨preW.blind, fun U hU hW9 => ⟨rfl, by rw [hU], by rw [hU]; exact hPc, hDc.weaken (fun _ _ _ _ => trivial), Fx.call C.2.1 hS hFr hW9 hU⟩⟩ rfl hn hl.1 rfl (lv_room hW) d hf) hS (fun q _ h => hFr q h) hFr (fun v u t H1 locs1 ht hvm hp hB hz1 hk1 hS1 => by
    obtain ⟨hP2, hD2⟩ := join_l hP hD hk1 hFr (ht ▸ hB.1) hB.2
    exact k v u hp H1 locs1 ls hP2 hD2 hS1 hl)

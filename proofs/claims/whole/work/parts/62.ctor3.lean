/-- the call of a constructor on the newest cell -/
theorem g_ctor {X : Kx} {l : Launch} {E : Ev} {own : String} {cc : ByteArray} {rm : Room} {ret : Option FieldType} {pc a b : Nat} {lv : List (Option Value)} {rest : List Value} {ws : va_W} (C : Cx X l E own cc rm ret) (hI : IN X) {y : MethodName} {bytes : ByteArray} {nL' idx : Nat} {rm' : Room} {post : va_W → Prop} {q : Nat} {e0 : va_E} (h1 : Cond.methodLink own idx y ∈ UW) (h2 : Cond.instanceMethod y ∈ UW) (h4 : Cond.initialized y.cls ∈ UW) (h5 : Cond.code y bytes nL' none ∈ UW) (hy1 : y.name = "<init>") (hd : y.cls ≠ "java/lang/invoke/MethodHandle" ∧ y.cls ≠ "java/lang/invoke/VarHandle" ∧ (parseMethodDescriptor y.desc).map (fun d => d.parameters.length) = some 0) (hM : CC l E y bytes nL' rm' [.ref q] [(q, e0)] post) (hR : rm'.frames + 1 ≤ rm.frames ∧ 8 + (nL' + 11) + rm'.locals ≤ rm.locals) (hz : a + rm'.cells ≤ rm.cells ∧ b + rm'.slots ≤ rm.slots) (hW : (rest.map fun v => v.category).sum ≤ 8) (d : decode cc pc = .ok (.invokespecial idx, 3)) (k : ∀ u : va_W, post u → G (XK X (a + rm'.cells) (b + rm'.slots)) wid (ws ++ u) (pc + 3) lv rest) : G (XK X a b) wid (ws ++ [(q, e0)]) pc lv (.ref q :: rest) := by
  obtain ⟨p, l', e, R, s, m, args, below, meth, c, Q, A, E', nL, kc, ks⟩ := X
  intro H locs ls hP hD hS hl
  have hR' : R = rm := C.2.2.2.2.1
  have hl' : l' = l := C.2.2.2.2.2.2.1
  have hE : E' = E := C.2.2.2.2.2.2.2.1
  subst hR'
  subst hl'
  subst hE
  have hat : (ws ++ [(q, e0)])[ws.length]? = some (q, e0) := by simp
  have hPc : va_P E'.1 vwCl [(q, e0)] H := hP.sub [ws.length] (by simp)
  have hDc := hD.sub (ws' := [(q, e0)]) [ws.length] (by simp [va_nd]) (by simp)
  have hFr := va_free (wc := [(q, e0)]) hD hS C.2.2.1 [ws.length] (by simp)
  exact va_callv (va_runI (As := []) (rest := rest) C.1 (hM H.size) (cwI 0 C.1.2.2.2.2 (WS_gi h5) rfl rfl rfl (C.1.2.2.2.2 _ h4) (C.1.2.2.2.2 _ h1) (C.1.2.2.2.2 _ h2) hy1 hd hR) ⟨preC.blind, fun U hU hW9 => ⟨rfl, ⟨by rw [hU], by rw [hU]; exact hPc, hDc.weaken (fun _ _ _ _ => trivial), Fx.call C.2.1 hS hFr hW9 hU⟩, hI.2.warm hW9⟩⟩ rfl rfl hl.1 rfl (lv_room hW) d hz) hS (fun q _ h => hFr q h) hFr (fun u t H1 locs1 ht hvm hp hB hz1 hk1 hS1 => by
    obtain ⟨hP2, hD2⟩ := va_join (wr := ws) (w1 := u) hP hD [ws.length] (List.range ws.length) (by simp) range_ws (nd_of List.nodup_range) (fun i hi => by have := List.mem_range.mp hi; simp; omega) hk1 hFr (ht ▸ hB.1) hB.2
    exact k u hp H1 locs1 ls hP2 hD2 hS1 hl)
theorem g_ctorN {X : Kx} {l : Launch} {E : Ev} {own : String} {cc : ByteArray} {rm : Room} {ret : Option FieldType} {pc a b : Nat} {lv : List (Option Value)} {rest : List Value} {ws : va_W} (C : Cx X l E own cc rm ret) (hI : IN X) {y : MethodName} {bytes : ByteArray} {nL' idx : Nat} {rm' : Room} {post : va_W → Prop} {q : Nat} {e0 : va_E} {host : String} (h1 : Cond.methodLinkNest own idx y host ∈ NW) (h2 : Cond.instanceMethod y ∈ UW) (h4 : Cond.initialized y.cls ∈ UW) (h5 : Cond.code y bytes nL' none ∈ UW) (hy1 : y.name = "<init>") (hd : y.cls ≠ "java/lang/invoke/MethodHandle" ∧ y.cls ≠ "java/lang/invoke/VarHandle" ∧ (parseMethodDescriptor y.desc).map (fun d => d.parameters.length) = some 0) (hM : CC l E y bytes nL' rm' [.ref q] [(q, e0)] post) (hR : rm'.frames + 1 ≤ rm.frames ∧ 8 + (nL' + 11) + rm'.locals ≤ rm.locals) (hz : a + rm'.cells ≤ rm.cells ∧ b + rm'.slots ≤ rm.slots) (hW : (rest.map fun v => v.category).sum ≤ 8) (d : decode cc pc = .ok (.invokespecial idx, 3)) (k : ∀ u : va_W, post u → G (XK X (a + rm'.cells) (b + rm'.slots)) wid (ws ++ u) (pc + 3) lv rest) : G (XK X a b) wid (ws ++ [(q, e0)]) pc lv (.ref q :: rest) := by
  obtain ⟨p, l', e, R, s, m, args, below, meth, c, Q, A, E', nL, kc, ks⟩ := X
  intro H locs ls hP hD hS hl
  have hR' : R = rm := C.2.2.2.2.1
  have hl' : l' = l := C.2.2.2.2.2.2.1
  have hE : E' = E := C.2.2.2.2.2.2.2.1
  subst hR'
  subst hl'
  subst hE
  have hPc : va_P E'.1 vwCl [(q, e0)] H := hP.sub [ws.length] (by simp)
  have hDc := hD.sub (ws' := [(q, e0)]) [ws.length] (by simp [va_nd]) (by simp)
  have hFr := va_free (wc := [(q, e0)]) hD hS C.2.2.1 [ws.length] (by simp)
  exact va_callv (va_runIN (As := []) (rest := rest) C.1 (hM H.size) ⟨va_cnB 0 C.1.2.2.2.2 (WS_gi h5) rfl rfl rfl (C.2.1.2.1 _ h1) (C.1.2.2.2.2 _ h4) hd hR, hy1, C.1.2.2.2.2 _ h2⟩ ⟨preC.blind, fun U hU hW9 => ⟨rfl, ⟨by rw [hU], by rw [hU]; exact hPc, hDc.weaken (fun _ _ _ _ => trivial), Fx.call C.2.1 hS hFr hW9 hU⟩, hI.2.warm hW9⟩⟩ rfl rfl hl.1 rfl (lv_room hW) d hz) hS (fun q _ h => hFr q h) hFr (fun u t H1 locs1 ht hvm hp hB hz1 hk1 hS1 => by
    obtain ⟨hP2, hD2⟩ := va_join (wr := ws) (w1 := u) hP hD [ws.length] (List.range ws.length) (by simp) range_ws (nd_of List.nodup_range) (fun i hi => by have := List.mem_range.mp hi; simp; omega) hk1 hFr (ht ▸ hB.1) hB.2
    exact k u hp H1 locs1 ls hP2 hD2 hS1 hl)

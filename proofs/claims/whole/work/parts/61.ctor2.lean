theorem ua_int : Cond.arrayClass .int ∈ UW := by decide +kernel
theorem ua_byte : Cond.arrayClass .byte ∈ UW := by decide +kernel
theorem ua_boolean : Cond.arrayClass .boolean ∈ UW := by decide +kernel
theorem g_newi {X : Kx} {l : Launch} {E : Ev} {own : String} {cc : ByteArray} {rm : Room} {ret : Option FieldType} {pc a b : Nat} {lv : List (Option Value)} {st : List Value} {ws : va_W} (C : Cx X l E own cc rm ret) {n : Int32} (N : Nat) (hn : ¬ n < 0) (hN : n.toNatClampNeg = N) (hb : N * 4 ≤ 536870912) (hc : a + 1 ≤ rm.cells) (hs : b + N ≤ rm.slots) (d : decode cc pc = .ok (.newarray .int, 2)) (k : ∀ q : Nat, G (XK X (a + 1) (b + N)) wid (ws ++ [(q, .inl (E.2.1 0, N, .inl (fun _ => 0)))]) (pc + 2) lv (.ref q :: st)) : G (XK X a b) wid ws pc lv (.int n :: st) := by
  obtain ⟨p, l', e, R, s, m, args, below, meth, c, Q, A, E', nL, kc, ks⟩ := X
  intro H locs ls hP hD hS hl
  have hR' : R = rm := C.2.2.2.2.1
  have hE : E' = E := C.2.2.2.2.2.2.2.1
  subst hR'
  subst hE
  refine va_newa (a0 := (N, .inl (fun _ => 0))) (atype := .int) (ty := .int) C.1.1 C.1.2.1 (C.1.2.2.2.2 _ ua_int) rfl C.2.1.1 hP hD hS C.2.2.1 (fun _ => rfl) hn hN hb hc hs d (fun q cA H1 hK1 hP1 hD1 hS1 => ?_)
  have hcA := cA_of (k := 0) (tys := []) C.2.1.1 hK1 rfl (fun _ h => by cases h)
  subst hcA
  exact k q H1 locs ls hP1 hD1 hS1 hl
theorem g_newb {X : Kx} {l : Launch} {E : Ev} {own : String} {cc : ByteArray} {rm : Room} {ret : Option FieldType} {pc a b : Nat} {lv : List (Option Value)} {st : List Value} {ws : va_W} (C : Cx X l E own cc rm ret) {n : Int32} (N : Nat) (hn : ¬ n < 0) (hN : n.toNatClampNeg = N) (hb : N * 1 ≤ 536870912) (hc : a + 1 ≤ rm.cells) (hs : b + N ≤ rm.slots) (d : decode cc pc = .ok (.newarray .byte, 2)) (k : ∀ q : Nat, G (XK X (a + 1) (b + N)) wid (ws ++ [(q, .inl (E.2.1 1, N, .inl (fun _ => 0)))]) (pc + 2) lv (.ref q :: st)) : G (XK X a b) wid ws pc lv (.int n :: st) := by
  obtain ⟨p, l', e, R, s, m, args, below, meth, c, Q, A, E', nL, kc, ks⟩ := X
  intro H locs ls hP hD hS hl
  have hR' : R = rm := C.2.2.2.2.1
  have hE : E' = E := C.2.2.2.2.2.2.2.1
  subst hR'
  subst hE
  refine va_newa (a0 := (N, .inl (fun _ => 0))) (atype := .byte) (ty := .byte) C.1.1 C.1.2.1 (C.1.2.2.2.2 _ ua_byte) rfl C.2.1.1 hP hD hS C.2.2.1 (fun _ => rfl) hn hN hb hc hs d (fun q cA H1 hK1 hP1 hD1 hS1 => ?_)
  have hcA := cA_of (k := 1) (tys := []) C.2.1.1 hK1 rfl (fun _ h => by cases h)
  subst hcA
  exact k q H1 locs ls hP1 hD1 hS1 hl
theorem g_newz {X : Kx} {l : Launch} {E : Ev} {own : String} {cc : ByteArray} {rm : Room} {ret : Option FieldType} {pc a b : Nat} {lv : List (Option Value)} {st : List Value} {ws : va_W} (C : Cx X l E own cc rm ret) {n : Int32} (N : Nat) (hn : ¬ n < 0) (hN : n.toNatClampNeg = N) (hb : N * 1 ≤ 536870912) (hc : a + 1 ≤ rm.cells) (hs : b + N ≤ rm.slots) (d : decode cc pc = .ok (.newarray .boolean, 2)) (k : ∀ q : Nat, G (XK X (a + 1) (b + N)) wid (ws ++ [(q, .inl (E.2.1 2, N, .inl (fun _ => 0)))]) (pc + 2) lv (.ref q :: st)) : G (XK X a b) wid ws pc lv (.int n :: st) := by
  obtain ⟨p, l', e, R, s, m, args, below, meth, c, Q, A, E', nL, kc, ks⟩ := X
  intro H locs ls hP hD hS hl
  have hR' : R = rm := C.2.2.2.2.1
  have hE : E' = E := C.2.2.2.2.2.2.2.1
  subst hR'
  subst hE
  refine va_newa (a0 := (N, .inl (fun _ => 0))) (atype := .boolean) (ty := .boolean) C.1.1 C.1.2.1 (C.1.2.2.2.2 _ ua_boolean) rfl C.2.1.1 hP hD hS C.2.2.1 (fun _ => rfl) hn hN hb hc hs d (fun q cA H1 hK1 hP1 hD1 hS1 => ?_)
  have hcA := cA_of (k := 2) (tys := []) C.2.1.1 hK1 rfl (fun _ h => by cases h)
  subst hcA
  exact k q H1 locs ls hP1 hD1 hS1 hl
theorem g_putF {X : Kx} {S : Type} {w : S → va_W} {σ : S} {l : Launch} {E : Ev} {own : String} {cc : ByteArray} {rm : Room} {ret : Option FieldType} {pc a b : Nat} {lv : List (Option Value)} {st : List Value} (C : Cx X l E own cc rm ret) (hI : IN X) {q0 ci N k idx a0 : Nat} {fs : List Value} {v : Value} {T : u_T} {Cn : String} (he : (w σ)[q0]? = some (a0, .inr (ci, fs))) (hc : vwCl[ci]? = some (Cn, T, N)) (hin : ∀ x ∈ u_ws Cn T N, x ∈ UW) (hk : k < N) {σ' : S} {ty0 : Nat → FieldType} (hty : ∀ k, k < N → parseFieldDescriptor (T k).2.2.1 = some (ty0 k)) (hnm : ∀ a, a < N → ∀ b, b < N → a ≠ b → (T a).2.1 ≠ (T b).2.1) (hlink : Cond.fieldLink own idx (T k).1 (T k).2.1 (T k).2.2.1 ∈ UW) (hfin : (T k).2.2.2 = true) (hown : (T k).1 = own) (hn : narrow (ty0 k) v = v) (hfit : fits (ty0 k) v = true) (hl0 : k < fs.length) (hw : (w σ).set q0 (a0, .inr (ci, fs.set k v)) = w σ') (d : decode cc pc = .ok (.putfield idx, 3)) (k' : G (XK X a b) w σ' (pc + 3) lv st) : G (XK X a b) w σ pc lv (v :: .ref a0 :: st) := by
  obtain ⟨p, l', e, R, s, m, args, below, meth, c, Q, A, E', nL, kc, ks⟩ := X
  intro H locs ls hP hD hS hl
  exact va_putF C.1.1 C.1.2.1 C.1.2.2.2.2 hin ty0 hty hnm C.1.2.2.2.1 C.2.1.1 hP hD hS q0 he hc k hk (C.1.2.2.2.2 _ hlink) (fun _ h9 => h9) hfin hI.1 hown (hty k hk) hn hfit hl0 d (fun H1 locs1 hP1 hD1 hS1 => k' H1 locs1 ls (hw ▸ hP1) (hw ▸ hD1) hS1 hl)
theorem g_new {X : Kx} {l : Launch} {E : Ev} {own : String} {cc : ByteArray} {rm : Room} {ret : Option FieldType} {pc a b : Nat} {lv : List (Option Value)} {st : List Value} {ws : va_W} (C : Cx X l E own cc rm ret) {ci N idx : Nat} {T : u_T} {Cn : String} (fs : List Value) (hc : vwCl[ci]? = some (Cn, T, N)) (hin : ∀ x ∈ u_ws Cn T N, x ∈ UW) {ty0 : Nat → FieldType} (hty : ∀ k, k < N → parseFieldDescriptor (T k).2.2.1 = some (ty0 k)) (h1 : Cond.classLink own idx Cn ∈ UW) (h2 : Cond.instantiable Cn N ∈ UW) (h3 : Cond.initialized Cn ∈ UW) (hfs : ∀ j, j < N → defaultValue (ty0 j) = vp_V fs j) (hcl : a + 1 ≤ rm.cells) (hsl : b + N ≤ rm.slots) (d : decode cc pc = .ok (.new idx, 3)) (k : ∀ q : Nat, G (XK X (a + 1) (b + N)) wid (ws ++ [(q, .inr (ci, fs))]) (pc + 3) lv (.ref q :: st)) : G (XK X a b) wid ws pc lv st := by
  obtain ⟨p, l', e, R, s, m, args, below, meth, c, Q, A, E', nL, kc, ks⟩ := X
  intro H locs ls hP hD hS hl
  have hR' : R = rm := C.2.2.2.2.1
  subst hR'
  exact va_new C.1.1 C.1.2.1 C.1.2.2.2.2 hin ty0 hty C.1.2.2.2.1 (C.1.2.2.2.2 _ h1) (C.1.2.2.2.2 _ h2) (C.1.2.2.2.2 _ h3) C.2.1.1 hP hD hS C.2.2.1 hc hfs hcl hsl d (fun q H1 hP1 hD1 hS1 => k q H1 locs ls hP1 hD1 hS1 hl)
theorem u_oi : Cond.instanceMethod Lib.objectInit ∈ UW := by decide +kernel
theorem u_oc : Cond.code Lib.objectInit ⟨#[0xb1]⟩ 1 none ∈ UW := by decide +kernel
theorem g_objInit {X : Kx} {S : Type} {w : S → va_W} {σ : S} {l : Launch} {E : Ev} {own : String} {cc : ByteArray} {rm : Room} {ret : Option FieldType} {pc idx : Nat} {lv : List (Option Value)} (C : Cx X l E own cc rm ret) {a0 : Nat} (h1 : Cond.methodLink own idx Lib.objectInit ∈ UW) (hf : 1 ≤ rm.frames) (hl0 : 12 ≤ rm.locals) (d : decode cc pc = .ok (.invokespecial idx, 3)) (k : G X w σ (pc + 3) lv []) : G X w σ pc lv [.ref a0] := by
  obtain ⟨p, l', e, R, s, m, args, below, meth, c, Q, A, E', nL, kc, ks⟩ := X
  intro H locs ls hP hD hS hl
  have hR' : R = rm := C.2.2.2.2.1
  subst hR'
  exact W.objInit C.1.1 C.1.2.1 C.1.2.2.2.1 (C.1.2.2.2.2 _ h1) (C.1.2.2.2.2 _ u_oi) (C.1.2.2.2.2 _ u_oc) rfl (by rw [C.1.2.2.1]; exact hl.1) rfl d hf hl0 (k H locs ls hP hD hS hl)
theorem nd_of : ∀ {l : List Nat}, l.Nodup → va_nd l = true
  | [], _ => rfl
  | a :: l, h => by
    rw [List.nodup_cons] at h
    unfold va_nd
    rw [nd_of h.2]
    simp [h.1]
theorem range_ws {ws : va_W} {x : List (Nat × va_E)} : (List.range ws.length).map (fun i => (ws ++ x)[i]?) = ws.map some := by
  apply List.ext_getElem?
  intro i
  rw [List.getElem?_map, List.getElem?_map]
  by_cases h : i < ws.length
  · rw [List.getElem?_range h]
    simp [List.getElem?_append_left h, List.getElem?_eq_getElem h]
  · rw [List.getElem?_eq_none (by simp; omega), List.getElem?_eq_none (by omega)]
    rfl
theorem g_perm {X : Kx} {pc : Nat} {lv : List (Option Value)} {st : List Value} {ws ws' : va_W} (is : List Nat) (hn : va_nd is = true) (hs : is.map (fun i => ws[i]?) = ws'.map some) (k : G X wid ws' pc lv st) : G X wid ws pc lv st := by
  obtain ⟨p, l', e, R, s, m, args, below, meth, c, Q, A, E', nL, kc, ks⟩ := X
  intro H locs ls hP hD hS hl
  have hs' : is.filterMap (fun i => ws[i]?) = ws' := by
    have := congrArg (fun l => l.filterMap id) hs
    simpa [List.filterMap_map, Function.comp_def] using this
  exact k H locs ls (hP.sub is hs') (hD.sub is hn hs) hS hl

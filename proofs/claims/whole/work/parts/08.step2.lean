theorem vp_lt {i : Int32} {n : Nat} (h : vp_in i n) : i.toNatClampNeg < n := Nat.not_le.mp fun q => h (Or.inr q)
theorem g_aald {X : Kx} {S : Type} {w : S → va_W} {σ : S} {l : Launch} {E : Ev} {own : String} {cc : ByteArray} {rm : Room} {ret : Option FieldType} {pc : Nat} {lv : List (Option Value)} {st : List Value} (C : Cx X l E own cc rm ret) {q0 a0 n : Nat} {f : Nat → Option Nat} {i : Int32} (he : (w σ)[q0]? = some (a0, .inl (E.2.1 4, n, .inr (.inr (.inr (.inr f)))))) (hin : vp_in i n) (d : decode cc pc = .ok (.aaload, 1)) (k : G X w σ (pc + 1) lv (va_rf (f i.toNatClampNeg) :: st)) : G X w σ pc lv (.int i :: .ref a0 :: st) := by
  obtain ⟨p, l', e, R, s, m, args, below, meth, c, Q, A, E', nL, kc, ks⟩ := X
  intro H locs ls hP hD hS hl
  have hE : E' = E := C.2.2.2.2.2.2.2.1
  subst hE
  exact W.aald (v := va_rf (f i.toNatClampNeg)) (ty := .array .int) C.1.1 C.1.2.1 (hP q0 _ he) ((C.2.1.1.2 4 _ rfl).1 n (fun j => va_rf (f j))) rfl (fun q => by cases q) (by show ¬ (i < 0 ∨ (arrV _ _ _).slots.size ≤ _); rw [arrV_size]; exact hin) (by show (arrV _ _ _).slots[_]? = _; rw [arrV_read _ _ (vp_lt hin)]) rfl rfl d (k H locs ls hP hD hS hl)
theorem g_alen0 {X : Kx} {S : Type} {w : S → va_W} {σ : S} {l : Launch} {E : Ev} {own : String} {cc : ByteArray} {rm : Room} {ret : Option FieldType} {pc : Nat} {lv : List (Option Value)} {st : List Value} (C : Cx X l E own cc rm ret) {q0 a0 n : Nat} {f : Nat → Int32} {v : Int32} (he : (w σ)[q0]? = some (a0, .inl (E.2.1 0, n, .inl f))) (hv : Int32.ofNat n = v) (d : decode cc pc = .ok (.arraylength, 1)) (k : G X w σ (pc + 1) lv (.int v :: st)) : G X w σ pc lv (.ref a0 :: st) := by
  obtain ⟨p, l', e, R, s, m, args, below, meth, c, Q, A, E', nL, kc, ks⟩ := X
  intro H locs ls hP hD hS hl
  have hE : E' = E := C.2.2.2.2.2.2.2.1
  subst hE
  exact va_alen C.1.1 C.1.2.1 C.2.1.1 hP q0 0 he rfl hv d (k H locs ls hP hD hS hl)
theorem g_alen1 {X : Kx} {S : Type} {w : S → va_W} {σ : S} {l : Launch} {E : Ev} {own : String} {cc : ByteArray} {rm : Room} {ret : Option FieldType} {pc : Nat} {lv : List (Option Value)} {st : List Value} (C : Cx X l E own cc rm ret) {q0 a0 n : Nat} {f : Nat → Int32} {v : Int32} (he : (w σ)[q0]? = some (a0, .inl (E.2.1 1, n, .inl f))) (hv : Int32.ofNat n = v) (d : decode cc pc = .ok (.arraylength, 1)) (k : G X w σ (pc + 1) lv (.int v :: st)) : G X w σ pc lv (.ref a0 :: st) := by
  obtain ⟨p, l', e, R, s, m, args, below, meth, c, Q, A, E', nL, kc, ks⟩ := X
  intro H locs ls hP hD hS hl
  have hE : E' = E := C.2.2.2.2.2.2.2.1
  subst hE
  exact va_alen C.1.1 C.1.2.1 C.2.1.1 hP q0 1 he rfl hv d (k H locs ls hP hD hS hl)
theorem g_alen2 {X : Kx} {S : Type} {w : S → va_W} {σ : S} {l : Launch} {E : Ev} {own : String} {cc : ByteArray} {rm : Room} {ret : Option FieldType} {pc : Nat} {lv : List (Option Value)} {st : List Value} (C : Cx X l E own cc rm ret) {q0 a0 n : Nat} {f : Nat → Int32} {v : Int32} (he : (w σ)[q0]? = some (a0, .inl (E.2.1 2, n, .inl f))) (hv : Int32.ofNat n = v) (d : decode cc pc = .ok (.arraylength, 1)) (k : G X w σ (pc + 1) lv (.int v :: st)) : G X w σ pc lv (.ref a0 :: st) := by
  obtain ⟨p, l', e, R, s, m, args, below, meth, c, Q, A, E', nL, kc, ks⟩ := X
  intro H locs ls hP hD hS hl
  have hE : E' = E := C.2.2.2.2.2.2.2.1
  subst hE
  exact va_alen C.1.1 C.1.2.1 C.2.1.1 hP q0 2 he rfl hv d (k H locs ls hP hD hS hl)
theorem g_copyi {X : Kx} {S : Type} {w : S → va_W} {σ : S} {l : Launch} {E : Ev} {own : String} {cc : ByteArray} {rm : Room} {ret : Option FieldType} {pc : Nat} {lv : List (Option Value)} {st : List Value} (C : Cx X l E own cc rm ret) {idx : Nat} (h1 : Cond.methodLink own idx arraycopyName ∈ UW) (h2 : Cond.native arraycopyName ∈ UW) (h3 : Cond.static arraycopyName ∈ UW) (h4 : Cond.initialized "java/lang/System" ∈ UW) {q0 q1 a0 a1 n0 n1 : Nat} {f g : Nat → Int32} {sp dp n : Int32} {σ' : S} (he0 : (w σ)[q0]? = some (a0, .inl (E.2.1 0, n0, .inl f))) (he1 : (w σ)[q1]? = some (a1, .inl (E.2.1 0, n1, .inl g))) (hw : (w σ).set q1 (a1, .inl (E.2.1 0, n1, .inl (va_cpy f g sp.toNatClampNeg dp.toNatClampNeg n.toNatClampNeg))) = w σ') (hc : ¬ sp < 0 ∧ ¬ dp < 0 ∧ ¬ n < 0 ∧ sp.toNatClampNeg + n.toNatClampNeg ≤ n0 ∧ dp.toNatClampNeg + n.toNatClampNeg ≤ n1) (hR : 1 ≤ rm.frames ∧ (st.map fun v => v.category).sum + 18 ≤ rm.locals) (d : decode cc pc = .ok (.invokestatic idx, 3)) (k : G X w σ' (pc + 3) lv st) : G X w σ pc lv (.int n :: .int dp :: .ref a1 :: .int sp :: .ref a0 :: st) := by
  obtain ⟨p, l', e, R, s, m, args, below, meth, c, Q, A, E', nL, kc, ks⟩ := X
  intro H locs ls hP hD hS hl
  have hE : E' = E := C.2.2.2.2.2.2.2.1
  subst hE
  have hR' : R = rm := C.2.2.2.2.1
  subst hR'
  exact va_copyi C.1.1 C.1.2.1 (C.1.2.2.1.trans hl.1.symm) C.1.2.2.2.1 (C.1.2.2.2.2 _ h1) (C.1.2.2.2.2 _ h2) (C.1.2.2.2.2 _ h3) (C.1.2.2.2.2 _ h4) C.2.1.1 hP hD hS q0 q1 0 0 he0 he1 rfl rfl rfl hc.1 hc.2.1 hc.2.2.1 hc.2.2.2.1 hc.2.2.2.2 (fun _ _ => rfl) hR.1 hR.2 d (fun H1 locs1 hP1 hD1 hS1 => k H1 locs1 ls (hw ▸ hP1) (hw ▸ hD1) hS1 hl)
/-- System.arraycopy out of a static table of ints into an int array of the world -/
theorem va_copyT {p : Program} {l : Launch} {e : Env} {R : Room} {s : State} {m : MethodId} {args : Array Value} {below : List Frame} {meth : Method} {c : Code} {H : Heap} {locs : List Loc} {cells slots : Nat} {Q : State → Prop} {cc : ByteArray} {pc : Nat} {ls : Array Slot} {rest : List Value} {D : va_G} {cl : List vw_C} {A : Nat → Prop} {a : Nat} {tys : List (ClassId × FieldType)} {ws : va_W}
    (hexec : p.tables.exec = Jvm.exec) (hb : c.code = cc) (hml : c.maxLocals = ls.size) {own : String} {index : Nat} (hown : s.vm.findClass own = some m.cls) (hlink : (Cond.methodLink own index arraycopyName).before args s = true) (hnat : (Cond.native arraycopyName).before args s = true) (hstat : (Cond.static arraycopyName).before args s = true) (hini : (Cond.initialized "java/lang/System").before args s = true)
    (hK : va_K D cl tys s) (hP : va_P D cl ws H) (hD : va_D A ws) (hS : va_S A s.heap H locs) {b0 n0 : Nat} {f : Nat → Int32} (hX : va_T .int b0 n0 (fun j => .int (f j)) A s s.heap) (q1 t1 : Nat) {c1 : ClassId} {n1 : Nat} {g : Nat → Int32} (ha1 : ws[q1]? = some (a, .inl (c1, n1, .inl g))) (ht1 : tys[t1]? = some (c1, .int))
    {sp dp n : Int32} (h1 : ¬ sp < 0) (h2 : ¬ dp < 0) (h3 : ¬ n < 0) (h4 : sp.toNatClampNeg + n.toNatClampNeg ≤ n0) (h5 : dp.toNatClampNeg + n.toNatClampNeg ≤ n1)
    (hframes : 1 ≤ R.frames) (hlocals : (rest.map fun v => v.category).sum + (nativeFrameWords "java/lang/System" "arraycopy" 5 + 11) ≤ R.locals) (hdg : decode cc pc = .ok (.invokestatic index, 3))
    (kk : ∀ (H1 : Heap) (locs1 : List Loc), va_P D cl (ws.set q1 (a, .inl (c1, n1, .inl (va_cpy f g sp.toNatClampNeg dp.toNatClampNeg n.toNatClampNeg)))) H1 → va_D A (ws.set q1 (a, .inl (c1, n1, .inl (va_cpy f g sp.toNatClampNeg dp.toNatClampNeg n.toNatClampNeg)))) → va_S A s.heap H1 locs1 → W p l e R s m args below meth c H1 locs1 cells slots Q (F0 m (pc + 3) ls rest)) : W p l e R s m args below meth c H locs cells slots Q (F0 m pc ls (.int n :: .int dp :: .ref a :: .int sp :: .ref b0 :: rest)) := by
  have nn : ∀ z : Int32, ¬ z < 0 → z.toInt = (z.toNatClampNeg : Int) := by
    intro z hz
    have hz0 : (0 : Int) ≤ z.toInt := by
      have := Int32.not_lt.mp hz
      simpa using Int32.le_iff_toInt_le.mp this
    show z.toInt = ((z.toInt.toNat : Nat) : Int)
    omega
  intro T hT X
  obtain ⟨scr, hs1, hs2, hs3, hs4, -, hs5, hs7⟩ := hX
  have hc0 : H[b0]? = some scr := by rw [hS.2.1 b0 (Array.getElem?_eq_some_iff.mp hs1).1 hs7]; exact hs1
  have hc1 : H[a]? = some (vp_cell c1 (n1, .inl g)) := hP q1 _ ha1
  obtain ⟨hs6, k0, hk0, cm0, hkk0⟩ := hs2
  obtain ⟨-, k1, hk1, cm1, hkk1⟩ := (hK.2 t1 _ ht1).1 n1 (fun j => .int (g j))
  obtain ⟨vm', X', step⟩ := X.arraycopy hexec hown hlink hnat hstat hini (src := b0) (dst := a) (cs := scr) (cd := vp_cell c1 (n1, .inl g)) (srcPos := sp) (destPos := dp) (n := n) (by rw [hT]; exact hc0) (by rw [hT]; exact hc1)
    hs6 (fun _ h => by cases h) hs3 (fun h => by cases h) hk0 hk1 hkk0 hkk1 (by simp [refKind]) h1 h2 h3
    (by rw [nn sp h1, nn n h3]; omega)
    (by rw [nn dp h2, nn n h3]; show ¬ _ > ((arrV c1 n1 (fun j => .int (g j))).slots.size : Int); rw [arrV_size]; omega)
    (fun vm₁ _ i hi => by
      have e : scr.slots.getD (sp.toNatClampNeg + i) .null = .int (f (sp.toNatClampNeg + i)) := by
        rw [Array.getD_eq_getD_getElem?, hs5 _ (by omega)]
        rfl
      refine ⟨?_, ?_⟩
      · rw [e]
        rfl
      · rw [e]
        exact trivial)
    (g := F0 m pc ls (.int n :: .int dp :: .ref a :: .int sp :: .ref b0 :: rest)) rfl (by rw [hml]) (rest := rest) rfl (by rw [hb]; exact hdg) hframes (by show 2 * 0 + _ + _ ≤ _; omega)
  have e1 : copied scr (vp_cell c1 (n1, .inl g)) sp dp n = vp_cell c1 (n1, .inl (va_cpy f g sp.toNatClampNeg dp.toNatClampNeg n.toNatClampNeg)) := va_copiedX (fun z => .int z) scr c1 f g hs5 h4
  rw [e1] at X' step
  have hl : a < H.size := (Array.getElem?_eq_some_iff.mp hc1).1
  have hheap : ((T.setVm vm').setCell a (vp_cell c1 (n1, .inl (va_cpy f g sp.toNatClampNeg dp.toNatClampNeg n.toNatClampNeg)))).heap = H.setIfInBounds a (vp_cell c1 (n1, .inl (va_cpy f g sp.toNatClampNeg dp.toNatClampNeg n.toNatClampNeg))) := by rw [← hT]; rfl
  have oq : ∀ q : Nat, q ≠ a → (H.setIfInBounds a (vp_cell c1 (n1, .inl (va_cpy f g sp.toNatClampNeg dp.toNatClampNeg n.toNatClampNeg))))[q]? = H[q]? := fun q hq => by simp [Array.getElem?_setIfInBounds, Ne.symm hq]
  obtain ⟨t, a1, b1⟩ := kk _ _ (hP.set hD ha1 (show (H.setIfInBounds a _)[a]? = some _ by simp [Array.getElem?_setIfInBounds, hl]) oq) (hD.set ha1) ⟨by simp; exact hS.1, fun q g1 g2 => by
      rw [oq q (fun e => g2 (by rw [e]; exact hD.2 q1 _ ha1))]
      exact hS.2.1 q g1 g2, fun q hq => by
      rcases List.mem_append.mp hq with h | h
      · exact hS.2.2 q h
      · obtain ⟨z, -, hz⟩ := List.mem_map.mp h
        rw [← hz]
        exact hD.2 q1 _ ha1⟩ _ hheap X'
  exact ⟨t, step t a1, b1⟩
theorem g_copyU {X : Kx} {S : Type} {w : S → va_W} {σ : S} {l : Launch} {E : Ev} {own : String} {cc : ByteArray} {rm : Room} {ret : Option FieldType} {pc : Nat} {lv : List (Option Value)} {st : List Value} (C : Cx X l E own cc rm ret) {idx : Nat} (h1 : Cond.methodLink own idx arraycopyName ∈ UW) (h2 : Cond.native arraycopyName ∈ UW) (h3 : Cond.static arraycopyName ∈ UW) (h4 : Cond.initialized "java/lang/System" ∈ UW) {q1 a1 n1 : Nat} {g : Nat → Int32} {sp dp n : Int32} {σ' : S} (he1 : (w σ)[q1]? = some (a1, .inl (E.2.1 0, n1, .inl g))) (hw : (w σ).set q1 (a1, .inl (E.2.1 0, n1, .inl (va_cpy usualF g sp.toNatClampNeg dp.toNatClampNeg n.toNatClampNeg))) = w σ') (hc : ¬ sp < 0 ∧ ¬ dp < 0 ∧ ¬ n < 0 ∧ sp.toNatClampNeg + n.toNatClampNeg ≤ 6 ∧ dp.toNatClampNeg + n.toNatClampNeg ≤ n1) (hR : 1 ≤ rm.frames ∧ (st.map fun v => v.category).sum + 18 ≤ rm.locals) (d : decode cc pc = .ok (.invokestatic idx, 3)) (k : G X w σ' (pc + 3) lv st) : G X w σ pc lv (.int n :: .int dp :: .ref a1 :: .int sp :: .ref (E.2.2 0) :: st) := by
  obtain ⟨p, l', e, R, s, m, args, below, meth, c, Q, A, E', nL, kc, ks⟩ := X
  intro H locs ls hP hD hS hl
  have hE : E' = E := C.2.2.2.2.2.2.2.1
  subst hE
  have hR' : R = rm := C.2.2.2.2.1
  subst hR'
  exact va_copyT C.1.1 C.1.2.1 (C.1.2.2.1.trans hl.1.symm) C.1.2.2.2.1 (C.1.2.2.2.2 _ h1) (C.1.2.2.2.2 _ h2) (C.1.2.2.2.2 _ h3) (C.1.2.2.2.2 _ h4) C.2.1.1 hP hD hS C.2.1.2.2.1.1.2 q1 0 he1 rfl hc.1 hc.2.1 hc.2.2.1 hc.2.2.2.1 hc.2.2.2.2 hR.1 hR.2 d (fun H1 locs1 hP1 hD1 hS1 => k H1 locs1 ls (hw ▸ hP1) (hw ▸ hD1) hS1 hl)
theorem g_usual {X : Kx} {S : Type} {w : S → va_W} {σ : S} {l : Launch} {E : Ev} {own : String} {cc : ByteArray} {rm : Room} {ret : Option FieldType} {pc : Nat} {lv : List (Option Value)} {st : List Value} (C : Cx X l E own cc rm ret) {idx : Nat} {host : String} (hlink : Cond.fieldLinkNest own idx "IceRun" "USUAL" "[I" host ∈ NW) (d : decode cc pc = .ok (.getstatic idx, 3)) (k : G X w σ (pc + 3) lv (.ref (E.2.2 0) :: st)) : G X w σ pc lv st := by
  obtain ⟨p, l', e, R, s, m, args, below, meth, c, Q, A, E', nL, kc, ks⟩ := X
  intro H locs ls hP hD hS hl
  have hE : E' = E := C.2.2.2.2.2.2.2.1
  subst hE
  exact va_getsN C.1.1 C.1.2.1 C.2.1.2.2.1.1.1 hS C.1.2.2.2.1 (va_Nw.use rfl (C.2.1.2.1 _ hlink)) (fun _ h9 => h9) d (k H locs ls hP hD hS hl)
theorem g_points {X : Kx} {S : Type} {w : S → va_W} {σ : S} {l : Launch} {E : Ev} {own : String} {cc : ByteArray} {rm : Room} {ret : Option FieldType} {pc : Nat} {lv : List (Option Value)} {st : List Value} (C : Cx X l E own cc rm ret) {idx : Nat} (hlink : Cond.fieldLink own idx "IceRun" "POINTS" "[I" ∈ UW) (d : decode cc pc = .ok (.getstatic idx, 3)) (k : G X w σ (pc + 3) lv (.ref (E.2.2 1) :: st)) : G X w σ pc lv st := by
  obtain ⟨p, l', e, R, s, m, args, below, meth, c, Q, A, E', nL, kc, ks⟩ := X
  intro H locs ls hP hD hS hl
  have hE : E' = E := C.2.2.2.2.2.2.2.1
  subst hE
  exact va_gets C.1.1 C.1.2.1 C.2.1.2.2.1.2.1.1 hS C.1.2.2.2.1 (C.1.2.2.2.2 _ hlink) (fun _ h9 => h9) d (k H locs ls hP hD hS hl)
theorem g_plen {X : Kx} {S : Type} {w : S → va_W} {σ : S} {l : Launch} {E : Ev} {own : String} {cc : ByteArray} {rm : Room} {ret : Option FieldType} {pc : Nat} {lv : List (Option Value)} {st : List Value} (C : Cx X l E own cc rm ret) (d : decode cc pc = .ok (.arraylength, 1)) (k : G X w σ (pc + 1) lv (.int 16 :: st)) : G X w σ pc lv (.ref (E.2.2 1) :: st) := by
  obtain ⟨p, l', e, R, s, m, args, below, meth, c, Q, A, E', nL, kc, ks⟩ := X
  intro H locs ls hP hD hS hl
  have hE : E' = E := C.2.2.2.2.2.2.2.1
  subst hE
  exact va_tlen (v := 16) C.1.1 C.1.2.1 C.2.1.2.2.1.2.1.2 hS rfl d (k H locs ls hP hD hS hl)
theorem g_pald {X : Kx} {S : Type} {w : S → va_W} {σ : S} {l : Launch} {E : Ev} {own : String} {cc : ByteArray} {rm : Room} {ret : Option FieldType} {pc : Nat} {lv : List (Option Value)} {st : List Value} (C : Cx X l E own cc rm ret) {i : Int32} (hin : vp_in i 16) (d : decode cc pc = .ok (.iaload, 1)) (k : G X w σ (pc + 1) lv (.int (pointsF i.toNatClampNeg) :: st)) : G X w σ pc lv (.int i :: .ref (E.2.2 1) :: st) := by
  obtain ⟨p, l', e, R, s, m, args, below, meth, c, Q, A, E', nL, kc, ks⟩ := X
  intro H locs ls hP hD hS hl
  have hE : E' = E := C.2.2.2.2.2.2.2.1
  subst hE
  exact va_ti C.1.1 C.1.2.1 C.2.1.2.2.1.2.1.2 hS hin rfl d (k H locs ls hP hD hS hl)

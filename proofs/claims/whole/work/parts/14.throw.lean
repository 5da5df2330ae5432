/-! ===== methods that may throw NoSuchElementException: IceRun.glide, IceRun.ice ===== -/
def NSE : String := "java/util/NoSuchElementException"
def nseN : List String := ["java/lang/RuntimeException", "java/lang/Exception"]
def XQ (E : Ev) {S : Type} (w : S → va_W) (A : Nat → Prop) (px : S → Prop) : String → State → State → Prop := vx_X px (fun En u t => En = NSE ∧ pW E w A u t) A
def QX (X : Kx) {S : Type} (w : S → va_W) (post : Int32 → S → Prop) (px : S → Prop) : Prop := match X with
  | (_, _, _, _, s, _, args, below, _, c, Q, A, E, _, kc, ks) => Q = vx_MQ below (va_Qi post (pW E w A) A) (XQ E w A px) args s 1 6 A ∧ kc = 0 ∧ ks = 0 ∧ ∀ x ∈ c.exceptionTable.toList, False
/-- the contract of a method that answers an int or throws -/
def CX (l : Launch) (E : Ev) {S : Type} (w : S → va_W) (y : MethodName) (cc : ByteArray) (nL : Nat) (rm : Room) (As : List Value) (σ : S) (post : Int32 → S → Prop) (px : S → Prop) : Prop := ∀ sz : Nat, vx_Met l y (WS y cc nL (some .int)) rm (va_Pc As (preW E w σ sz)) (va_Qi post (pW E w (va_A (w σ) sz)) (va_A (w σ) sz)) (XQ E w (va_A (w σ) sz) px) 1 6 (va_A (w σ) sz)
theorem met_x {l : Launch} {E : Ev} {S : Type} {w : S → va_W} {y : MethodName} {cc : ByteArray} {nL : Nat} {rm : Room} {As : List Value} {σ : S} {post : Int32 → S → Prop} {px : S → Prop} {lv : List (Option Value)} (hy : plainName y.cls = true) (hc : As.all (fun v => v.category == 1) = true) (hn : As.length ≤ nL) (hlv : lv = As.map some ++ List.replicate (nL - As.length) none)
    (body : ∀ X : Kx, Cx X l E y.cls cc rm (some .int) → QX X w post px → G X w σ 0 lv []) : CX l E w y cc nL rm As σ post px := by
  intro sz
  refine vx_ofW (cc := cc) (maxL := nL) (ret := some .int) hy rfl ?_
  intro p e s m args below meth c s₁ B hml htab hv
  obtain ⟨rfl, hsz, hP, hD, hF⟩ := hv
  subst hsz
  have hts := atoms_spec (ws := WS y cc nL (some .int)) B.pre
  have hU : ∀ x ∈ UW, x.before As.toArray s = true := fun x hx => hts x (List.mem_cons_of_mem _ hx)
  have K := body (p, l, e, rm, s, m, As.toArray, below, meth, c, vx_MQ below (va_Qi post (pW E w (va_A (w σ) s.heap.size)) (va_A (w σ) s.heap.size)) (XQ E w (va_A (w σ) s.heap.size) px) As.toArray s 1 6 (va_A (w σ) s.heap.size), va_A (w σ) s.heap.size, E, nL, 0, 0) ⟨⟨B.exec, B.bytes, hml, findClass_of_methodNamed B.named, hU⟩, hF, fun q h => Or.inr h, B.notSynchronized, rfl, B.returns, rfl, rfl, Nat.zero_le _, Nat.zero_le _⟩ ⟨rfl, rfl, rfl, htab⟩
  rw [lg_entry_eq]
  exact K s.heap [] _ hP (hD.self (sz := s.heap.size)) va_S.rf (lvH_entry hc hn hlv)
theorem g_xreturn {X : Kx} {S : Type} {w : S → va_W} {σ : S} {l : Launch} {E : Ev} {own : String} {cc : ByteArray} {rm : Room} {pc : Nat} {lv : List (Option Value)} {post : Int32 → S → Prop} {px : S → Prop} {v : Int32} (C : Cx X l E own cc rm (some .int)) (hQ : QX X w post px) (d : decode cc pc = .ok (.ireturn, 1)) (h : post v σ) : G X w σ pc lv [.int v] := by
  obtain ⟨p, l', e, R, s, m, args, below, meth, c, Q, A, E', nL, kc, ks⟩ := X
  intro H locs ls hP hD hS hl
  obtain ⟨hq, hkc, hks, -⟩ := hQ
  subst hq
  subst hkc
  subst hks
  exact W.widen (k := 1) (n := 6) (Nat.zero_le _) (Nat.zero_le _) (vx_ret (W.iret C.1.1 C.1.2.1 C.2.2.2.2.2.1 (fun t ht _ => ⟨⟨v, σ, rfl, h, by rw [ht]; exact hP, hD⟩, hS.F ht⟩) hS.2.2 d C.2.2.2.1))
theorem at_tbl : ∀ w ∈ (vx_atS RX10 106 "java/util/NoSuchElementException" ["java/lang/RuntimeException", "java/lang/Exception"]).filter goodWord, w ∈ lw_tbl := by decide +kernel
theorem at_good : ∀ w ∈ (vx_atS RX10 106 NSE nseN).filter goodWord, w ∈ UW := fun w hw => List.mem_filter.mpr ⟨at_tbl w hw, (List.mem_filter.mp hw).2⟩
theorem at_side : ∀ w ∈ (vx_atS RX10 106 NSE nseN).filter (fun w => !goodWord w), w ∈ NW := by decide +kernel
theorem at_ot : ∀ w ∈ Cond.classLink RX10 102 NSE :: Cond.initialized NSE :: vx_atS RX10 106 NSE nseN, vx_ot w = true := by decide +kernel
theorem at_link : Cond.classLink RX10 102 NSE ∈ UW ∧ Cond.initialized NSE ∈ UW := ⟨by decide +kernel, by decide +kernel⟩
theorem g_throw {X : Kx} {S : Type} {w : S → va_W} {σ : S} {l : Launch} {E : Ev} {cc : ByteArray} {rm : Room} {pc is sa : Nat} {text : String} {lv : List (Option Value)} {post : Int32 → S → Prop} {px : S → Prop} (C : Cx X l E RX10 cc rm (some .int)) (hQ : QX X w post px) (hl0 : l.stackTraces = false) (hstr : ∀ U : State, Rx E U → vk_R RX10 is text sa U) (hrm : 1 ≤ rm.cells ∧ 6 ≤ rm.slots ∧ 5 < rm.frames ∧ 82 ≤ rm.locals)
    (d0 : decode cc pc = .ok (.new 102, 3)) (d3 : decode cc (pc + 3) = .ok (.dup, 1)) (d4 : decode cc (pc + 4) = .ok (.ldc is, 2)) (d6 : decode cc (pc + 6) = .ok (.invokespecial 106, 3)) (d9 : decode cc (pc + 9) = .ok (.athrow, 1)) (h : px σ) : G X w σ pc lv [] := by
  obtain ⟨p, l', e, R, s, m, args, below, meth, c, Q, A, E', nL, kc, ks⟩ := X
  intro H locs ls hP hD hS hl
  obtain ⟨hq, hkc, hks, htab⟩ := hQ
  have hR' : R = rm := C.2.2.2.2.1
  have hl' : l' = l := C.2.2.2.2.2.2.1
  have hE : E' = E := C.2.2.2.2.2.2.2.1
  subst hq
  subst hkc
  subst hks
  subst hR'
  subst hl'
  subst hE
  refine vx_throwS (cls := NSE) (names := nseN) (is := is) (text := text) (sa := sa) (rest := []) C.1.1 C.1.2.1 hl0 C.1.2.2.2.1 (by decide) (by decide) (C.1.2.2.2.2 _ at_link.1) (C.1.2.2.2.2 _ at_link.2) (hstr s C.2.1.2.2.2) (vx_hat (B := NW) (fun w hw => C.1.2.2.2.2 w (at_good w hw)) at_side (fun w hw => va_Nw.use (nw_on (List.mem_filter.mp hw).2) (C.2.1.2.1 w hw))) at_ot C.2.1.2.2.1.2.2.2.2.2.2.2.1 C.2.1.2.2.1.2.2.2.2.2.2.2.2 hS (hl.1.trans C.1.2.2.1.symm) d0 d3 d4 d6 d9 (fun x hx => (htab x hx).elim) hrm.2.2.1 hrm.2.2.2 (by simpa using hrm.1) (by simpa using hrm.2.1) C.2.2.2.1 (fun t hvm hz hk => ⟨σ, h, ⟨rfl, hP.kept (fun k9 q9 hq9 => hk _ (hP k9 q9 hq9).lt), hD⟩, Nat.le_trans hS.1 hz, fun q h1 h2 => by rw [hk q (Nat.lt_of_lt_of_le h1 hS.1)]; exact hS.2.1 q h1 h2⟩) hS.2.2 (Nat.le_refl _) (Nat.le_refl _)

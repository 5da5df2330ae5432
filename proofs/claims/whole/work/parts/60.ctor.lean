/-! ===== worlds that grow: constructors ===== -/
abbrev wid : va_W → va_W := fun ws => ws
/-- the class of the arrays over int[] -/
def va_AOA (ty : FieldType) (U : State) : Prop := (Cond.arrayOver (.array ty)).before #[] U = true
theorem va_AOA.use {ty : FieldType} {A : Array Value} {U : State} (h : va_AOA ty U) : (Cond.arrayOver (.array ty)).before A U = true := h
theorem va_AOA.same {ty : FieldType} {u U : State} (hv : U.vm = u.vm) (h : va_AOA ty u) : va_AOA ty U := by
  unfold va_AOA at h ⊢
  simp only [Cond.before, Cond.holds, Cond.value] at h ⊢
  rw [hv]
  exact h
theorem va_AOA.warm {ty : FieldType} {s U : State} (hW : s.WarmedH U.vm) (h : va_AOA ty s) : va_AOA ty U := va_AOA.same (u := s.setVm U.vm) rfl (by unfold va_AOA; rw [Cond.arrayOver_setVmC hW.alike]; exact h)
def preC (E : Ev) (ws : va_W) (sz : Nat) (U : State) : Prop := preW E wid ws sz U ∧ va_AOA .int U
theorem preC.blind {E : Ev} {ws : va_W} {sz : Nat} {As : List Value} : FrameBlind (va_Pc As (preC E ws sz)) := fun a U g mk q => ⟨q.1, (preW.blind a U g mk ⟨q.1, q.2.1⟩).2, va_AOA.same (u := U) (U := U.calling g mk a) rfl q.2.2⟩
def XK (X : Kx) (a b : Nat) : Kx := match X with
  | (p, l, e, R, s, m, args, below, meth, c, Q, A, E, nL, _, _) => (p, l, e, R, s, m, args, below, meth, c, Q, A, E, nL, a, b)
theorem cxk {X : Kx} {l : Launch} {E : Ev} {own : String} {cc : ByteArray} {rm : Room} {ret : Option FieldType} (C : Cx X l E own cc rm ret) {a b : Nat} (h1 : a ≤ rm.cells) (h2 : b ≤ rm.slots) : Cx (XK X a b) l E own cc rm ret := by
  obtain ⟨p, l', e, R, s, m, args, below, meth, c, Q, A, E', nL, kc, ks⟩ := X
  have hR : R = rm := C.2.2.2.2.1
  subst hR
  exact ⟨C.1, C.2.1, C.2.2.1, C.2.2.2.1, C.2.2.2.2.1, C.2.2.2.2.2.1, C.2.2.2.2.2.2.1, C.2.2.2.2.2.2.2.1, h1, h2⟩
def IN (X : Kx) : Prop := match X with
  | (_, _, _, _, s, _, _, _, meth, _, _, _, _, _, _, _) => meth.name = "<init>" ∧ va_AOA .int s
def QC (X : Kx) (post : va_W → Prop) (mc ms : Nat) : Prop := match X with
  | (_, _, _, _, s, _, args, below, _, _, Q, A, E, _, _, _) => Q = MQ below (va_Qv post (pW E wid A) A) args s mc ms A
/-- the contract of a constructor: cells and slots as its room says -/
def CC (l : Launch) (E : Ev) (y : MethodName) (cc : ByteArray) (nL : Nat) (rm : Room) (As : List Value) (ws : va_W) (post : va_W → Prop) : Prop := ∀ sz : Nat, Met l y (WS y cc nL none) rm (va_Pc As (preC E ws sz)) (va_Qv post (pW E wid (va_A ws sz)) (va_A ws sz)) rm.cells rm.slots (va_A ws sz)
theorem met_c {l : Launch} {E : Ev} {y : MethodName} {cc : ByteArray} {nL : Nat} {rm : Room} {As : List Value} {ws : va_W} {post : va_W → Prop} {lv : List (Option Value)} (hy : plainName y.cls = true) (hyn : y.name = "<init>") (hc : As.all (fun v => v.category == 1) = true) (hn : As.length ≤ nL) (hlv : lv = As.map some ++ List.replicate (nL - As.length) none)
    (body : ∀ X : Kx, Cx X l E y.cls cc rm none → IN X → QC X post rm.cells rm.slots → G (XK X 0 0) wid ws 0 lv []) : CC l E y cc nL rm As ws post := by
  intro sz
  refine Met.ofW (cc := cc) (maxL := nL) (ret := none) hy rfl ?_
  intro p e s m args below meth c s₁ B hml hv
  obtain ⟨rfl, ⟨hsz, hP, hD, hF⟩, hZ⟩ := hv
  subst hsz
  have hts := atoms_spec (ws := WS y cc nL none) B.pre
  have hU : ∀ x ∈ UW, x.before As.toArray s = true := fun x hx => hts x (List.mem_cons_of_mem _ hx)
  have hin : meth.name = "<init>" := (name_of_methodNamed B.named B.method).1.trans hyn
  have K := body (p, l, e, rm, s, m, As.toArray, below, meth, c, MQ below (va_Qv post (pW E wid (va_A ws s.heap.size)) (va_A ws s.heap.size)) As.toArray s rm.cells rm.slots (va_A ws s.heap.size), va_A ws s.heap.size, E, nL, 0, 0) ⟨⟨B.exec, B.bytes, hml, findClass_of_methodNamed B.named, hU⟩, hF, fun q h => Or.inr h, B.notSynchronized, rfl, B.returns, rfl, rfl, Nat.zero_le _, Nat.zero_le _⟩ ⟨hin, hZ⟩ rfl
  rw [lg_entry_eq]
  exact K s.heap [] _ hP (hD.self (sz := s.heap.size)) va_S.rf (lvH_entry hc hn hlv)
theorem g_returnC {X : Kx} {l : Launch} {E : Ev} {own : String} {cc : ByteArray} {rm : Room} {pc a b mc ms : Nat} {lv : List (Option Value)} {ws : va_W} {post : va_W → Prop} (C : Cx X l E own cc rm none) (hQ : QC X post mc ms) (d : decode cc pc = .ok (.return_, 1)) (h1 : a ≤ mc) (h2 : b ≤ ms) (h : post ws) : G (XK X a b) wid ws pc lv [] := by
  obtain ⟨p, l', e, R, s, m, args, below, meth, c, Q, A, E', nL, kc, ks⟩ := X
  intro H locs ls hP hD hS hl
  have hq : Q = _ := hQ
  subst hq
  refine W.widen (k := mc) (n := ms) h1 h2 ?_
  exact W.vret C.1.1 C.1.2.1 C.2.2.2.2.2.1 (fun t ht _ => ⟨⟨ws, rfl, h, by rw [ht]; exact hP, hD⟩, hS.F ht⟩) hS.2.2 d C.2.2.2.1
theorem cA_of {E : Ev} {U : State} {tys : List (ClassId × FieldType)} {cA : ClassId} {ty : FieldType} {k : Nat} (h : va_K E.1 vwCl (tysE E) U) (h' : va_K E.1 vwCl (tysE E ++ [(cA, ty)]) U) (hk : (tysE E)[k]? = some (E.2.1 k, ty)) (hty : ∀ C, ty ≠ .object C) : cA = E.2.1 k := by
  have h1 := (h.2 k _ hk).2
  have h2 := (h'.2 5 (cA, ty) rfl).2
  have e : ∀ c, va_RA U c ty → U.vm.findClass ("[" ++ ty.toString) = some c := by
    intro c hc
    cases ty with
    | object C => exact absurd rfl (hty C)
    | _ => exact hc
  exact Option.some.inj ((e _ h2).symm.trans (e _ h1))

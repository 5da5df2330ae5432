/-! ===== the universal words: every word of the tables that any method may carry ===== -/
def UW : List Cond := lw_tbl.filter goodWord
theorem UW_good {w : Cond} (h : w ∈ UW) : goodWord w = true := (List.mem_filter.mp h).2
theorem UW_tbl {w : Cond} (h : w ∈ UW) : w ∈ lw_tbl := (List.mem_filter.mp h).1
theorem UW_gi : ∀ w ∈ UW, w ∈ UW ∧ ((w.onTables && w.keeps) = true ∨ ∃ ty, w = .arrayClass ty) := fun _ h => ⟨h, good_of_word (UW_good h)⟩
def WS (y : MethodName) (cc : ByteArray) (maxL : Nat) (ret : Option FieldType) : List Cond := .code y cc maxL ret :: UW
theorem WS_gi {y : MethodName} {cc : ByteArray} {maxL : Nat} {ret : Option FieldType} (h : Cond.code y cc maxL ret ∈ UW) : GoodIn UW (WS y cc maxL ret) := fun w hw => (List.mem_cons.mp hw).elim (fun e => e ▸ UW_gi _ h) (UW_gi w)
theorem wsV_gi {own C : String} {idx : Nat} {y : MethodName} {cc : ByteArray} {maxL : Nat} {ret : Option FieldType} (h1 : Cond.methodLink own idx y ∈ UW) (h2 : Cond.instanceMethod y ∈ UW) (h3 : Cond.selects C y y ∈ UW) (h4 : Cond.initialized C ∈ UW) (h5 : Cond.code y cc maxL ret ∈ UW) : GoodIn UW (wsV own idx C y (WS y cc maxL ret)) := by
  intro w hw
  unfold wsV at hw
  rcases List.mem_append.mp hw with h | h
  · simp only [List.mem_cons, List.not_mem_nil, or_false] at h
    rcases h with rfl | rfl | rfl | rfl
    · exact UW_gi _ h1
    · exact UW_gi _ h2
    · exact UW_gi _ h3
    · exact UW_gi _ h4
  · exact WS_gi h5 w h
theorem wsS_gi {own : String} {idx : Nat} {y : MethodName} {cc : ByteArray} {maxL : Nat} {ret : Option FieldType} (h1 : Cond.methodLink own idx y ∈ UW) (h2 : Cond.static y ∈ UW) (h3 : Cond.initialized y.cls ∈ UW) (h5 : Cond.code y cc maxL ret ∈ UW) : GoodIn UW (va_wsS own idx y (WS y cc maxL ret)) := by
  intro w hw
  unfold va_wsS at hw
  rcases List.mem_append.mp hw with h | h
  · simp only [List.mem_cons, List.not_mem_nil, or_false] at h
    rcases h with rfl | rfl | rfl
    · exact UW_gi _ h1
    · exact UW_gi _ h2
    · exact UW_gi _ h3
  · exact WS_gi h5 w h
/-! words that are carried by themselves: links across the nest; what a throw asks of the classes -/
def isNest : Cond → Bool
  | .fieldLinkNest .. => true
  | .methodLinkNest .. => true
  | .declares .. => true
  | .castable .. => true
  | _ => false
def NW : List Cond := lw_tbl.filter isNest
theorem nw_on {w : Cond} (h : isNest w = true) : w.onTables = true := by
  cases w <;> first | rfl | (simp [isNest] at h)
theorem nw_warm {w : Cond} (hn : isNest w = true) {s U : State} (hW : s.WarmedH U.vm) (h : va_Nw w s) : va_Nw w U := by
  cases w <;> first | exact va_Nw.warmF hW h | exact va_Nw.warmM hW h | exact va_tabs rfl (rfl : (s.setVm U.vm).vm = U.vm) (Cond.before_shiftedFace (args := #[]) (State.Shifted.of_warmed hW) _ rfl h) | (simp [isNest] at hn)
/-! ===== the state of a system: int fields by key, arrays by key ===== -/
abbrev St : Type := (Nat → Int32) × (Nat → Nat → Int32)
def pI (σ : St) (k : Nat) (v : Int32) : St := (va_up σ.1 k v, σ.2)
def pA (σ : St) (k i : Nat) (v : Int32) : St := (σ.1, va_up σ.2 k (upd (σ.2 k) i v))
def pC (σ : St) (k : Nat) (f : Nat → Int32) : St := (σ.1, va_up σ.2 k f)
/-! the launch's numbers: classes, array classes, addresses of constants -/
abbrev Ev : Type := va_G × (Nat → ClassId) × (Nat → Nat)
def tysE (E : Ev) : List (ClassId × FieldType) := [(E.2.1 0, .int), (E.2.1 1, .byte), (E.2.1 2, .boolean), (E.2.1 3, .long), (E.2.1 4, .array .int)]
def usualF (j : Nat) : Int32 := [200, 100, 0, 16, 4, 0].getD j 0
def pointsF (j : Nat) : Int32 := [25, 20, 16, 13, 11, 10, 9, 8, 7, 6, 5, 4, 3, 2, 1, 0].getD j 0
def slenL : List Nat := [6, 4, 7, 3, 4, 5, 4, 1]
def sbytL : List (List Int32) := [[119, 101, 105, 103, 104, 116], [119, 97, 114, 109], [114, 101, 118, 101, 114, 115, 101], [99, 117, 116], [114, 117, 110, 115], [115, 104, 97, 114, 101], [107, 101, 101, 112], [59]]
def stxL : List String := ["weight", "warm", "reverse", "cut", "runs", "share", "keep", ";"]
def sixL : List Nat := [175, 180, 182, 184, 186, 188, 190, 207]
def wdSlot (j : Nat) : Int32 := [0, 1, 2, 3, 4, 5, 5].getD j 0
def wdNum (j : Nat) : Int32 := [1, 1, 1, 1, 1, 0, 0].getD j 0
def wdLow (j : Nat) : Int32 := [50, 0, 0, 1, 1, 1, 0].getD j 0
def wdHigh (j : Nat) : Int32 := [200, 100, 16, 16, 4, 1, 0].getD j 0
/-- the enum's constants -/
def Wx (E : Ev) (A : Nat → Prop) (U : State) (H : Heap) : Prop := ∀ j : Nat, j < 7 → va_OF "IceRun$Word" "text" "Ljava/lang/String;" (.ref (E.2.2 (20 + j))) (E.2.2 (10 + j)) A U H ∧ va_OF "IceRun$Word" "slot" "I" (.int (wdSlot j)) (E.2.2 (10 + j)) A U H ∧ va_OF "IceRun$Word" "numbered" "Z" (.int (wdNum j)) (E.2.2 (10 + j)) A U H ∧ va_OF "IceRun$Word" "low" "I" (.int (wdLow j)) (E.2.2 (10 + j)) A U H ∧ va_OF "IceRun$Word" "high" "I" (.int (wdHigh j)) (E.2.2 (10 + j)) A U H
/-- texts, the enum, what a throw reads -/
def Tx (E : Ev) (A : Nat → Prop) (U : State) (H : Heap) : Prop :=
  vk_S 8 slenL sbytL (fun i => E.2.2 (20 + i)) (fun i => E.2.2 (30 + i)) A U H ∧ va_Z "java/lang/String" "COMPACT_STRINGS" "Z" (.int 1) A U H ∧ va_Zq "jdk/internal/util/Preconditions" "SIOOBE_FORMATTER" "Ljava/util/function/BiFunction;" A U H ∧
  (va_Z "IceRun$Word" "ALL" "[LIceRun$Word;" (.ref (E.2.2 2)) A U H ∧ va_T (.object "IceRun$Word") (E.2.2 2) 7 (fun j => .ref (E.2.2 (10 + j))) A U H) ∧ Wx E A U H ∧
  (vx_Zq Bundle.tN "UNASSIGNED_STACK" Bundle.steD A U H ∧ vx_Zq Bundle.tN "SUPPRESSED_SENTINEL" Bundle.listD A U H)
theorem Tx.moved {E : Ev} {A : Nat → Prop} {u U : State} {H : Heap} (hvm : u.vm.Alike U.vm) (h : Tx E A u H) : Tx E A U H := ⟨h.1.moved hvm, h.2.1.moved hvm, h.2.2.1.moved hvm, ⟨h.2.2.2.1.1.moved hvm, h.2.2.2.1.2.moved hvm⟩, fun j hj => ⟨(h.2.2.2.2.1 j hj).1.moved hvm, (h.2.2.2.2.1 j hj).2.1.moved hvm, (h.2.2.2.2.1 j hj).2.2.1.moved hvm, (h.2.2.2.2.1 j hj).2.2.2.1.moved hvm, (h.2.2.2.2.1 j hj).2.2.2.2.moved hvm⟩, h.2.2.2.2.2.1.moved hvm, h.2.2.2.2.2.2.moved hvm⟩
theorem Tx.kept {E : Ev} {A : Nat → Prop} {U : State} {H H1 : Heap} (h : Tx E A U H) (hq : ∀ a : Nat, a < H.size → ¬ A a → H1[a]? = H[a]?) : Tx E A U H1 := ⟨h.1.kept hq, h.2.1.kept hq, h.2.2.1.kept hq, ⟨h.2.2.2.1.1.kept hq, h.2.2.2.1.2.kept hq⟩, fun j hj => ⟨(h.2.2.2.2.1 j hj).1.kept hq, (h.2.2.2.2.1 j hj).2.1.kept hq, (h.2.2.2.2.1 j hj).2.2.1.kept hq, (h.2.2.2.2.1 j hj).2.2.2.1.kept hq, (h.2.2.2.2.1 j hj).2.2.2.2.kept hq⟩, h.2.2.2.2.2.1.kept hq, h.2.2.2.2.2.2.kept hq⟩
theorem Tx.narrow {E : Ev} {A B : Nat → Prop} {U : State} {H : Heap} (h : Tx E A U H) (hAB : ∀ q, B q → A q) : Tx E B U H := ⟨h.1.narrow hAB, h.2.1.narrow hAB, h.2.2.1.narrow hAB, ⟨h.2.2.2.1.1.narrow hAB, h.2.2.2.1.2.narrow hAB⟩, fun j hj => ⟨(h.2.2.2.2.1 j hj).1.narrow hAB, (h.2.2.2.2.1 j hj).2.1.narrow hAB, (h.2.2.2.2.1 j hj).2.2.1.narrow hAB, (h.2.2.2.2.1 j hj).2.2.2.1.narrow hAB, (h.2.2.2.2.1 j hj).2.2.2.2.narrow hAB⟩, h.2.2.2.2.2.1.narrow hAB, h.2.2.2.2.2.2.narrow hAB⟩
def Sx (E : Ev) (A : Nat → Prop) (U : State) (H : Heap) : Prop :=
  (va_Z "IceRun" "USUAL" "[I" (.ref (E.2.2 0)) A U H ∧ va_T .int (E.2.2 0) 6 (fun j => .int (usualF j)) A U H) ∧
  (va_Z "IceRun" "POINTS" "[I" (.ref (E.2.2 1)) A U H ∧ va_T .int (E.2.2 1) 16 (fun j => .int (pointsF j)) A U H) ∧ Tx E A U H
theorem Sx.moved {E : Ev} {A : Nat → Prop} {u U : State} {H : Heap} (hvm : u.vm.Alike U.vm) (h : Sx E A u H) : Sx E A U H := ⟨⟨h.1.1.moved hvm, h.1.2.moved hvm⟩, ⟨h.2.1.1.moved hvm, h.2.1.2.moved hvm⟩, h.2.2.moved hvm⟩
theorem Sx.kept {E : Ev} {A : Nat → Prop} {U : State} {H H1 : Heap} (h : Sx E A U H) (hq : ∀ a : Nat, a < H.size → ¬ A a → H1[a]? = H[a]?) : Sx E A U H1 := ⟨⟨h.1.1.kept hq, h.1.2.kept hq⟩, ⟨h.2.1.1.kept hq, h.2.1.2.kept hq⟩, h.2.2.kept hq⟩
theorem Sx.narrow {E : Ev} {A B : Nat → Prop} {U : State} {H : Heap} (h : Sx E A U H) (hAB : ∀ q, B q → A q) : Sx E B U H := ⟨⟨h.1.1.narrow hAB, h.1.2.narrow hAB⟩, ⟨h.2.1.1.narrow hAB, h.2.1.2.narrow hAB⟩, h.2.2.narrow hAB⟩
/-- String constants of the pools -/
def Rx (E : Ev) (U : State) : Prop := (∀ i : Nat, i < 8 → vk_R "IceRunModel" (sixL.getD i 0) (stxL.getD i "") (E.2.2 (20 + i)) U) ∧ vk_R "IceRun" 104 "no such kind or hardness" (E.2.2 40) U ∧ vk_R "IceRun" 233 "no whole run with that sled" (E.2.2 41) U
theorem Rx.warm {E : Ev} {s U : State} (hW : s.WarmedH U.vm) (h : Rx E s) : Rx E U := ⟨fun i hi => (h.1 i hi).warm hW, h.2.1.warm hW, h.2.2.warm hW⟩
theorem Rx.same {E : Ev} {u U : State} (hv : U.vm = u.vm) (h : Rx E u) : Rx E U := ⟨fun i hi => (h.1 i hi).same hv, h.2.1.same hv, h.2.2.same hv⟩
/-! what never changes: the classes, the words across the nest, the constants -/
def Fx (E : Ev) (A : Nat → Prop) (U : State) (H : Heap) : Prop := va_K E.1 vwCl (tysE E) U ∧ (∀ w ∈ NW, va_Nw w U) ∧ Sx E A U H ∧ Rx E U
theorem Fx.call {E : Ev} {A A1 : Nat → Prop} {s U : State} {H : Heap} {locs : List Loc} (h : Fx E A s s.heap) (hS : va_S A s.heap H locs) (hAB : ∀ q, A1 q → A q) (hW : s.WarmedH U.vm) (hU : U.heap = H) : Fx E A1 U U.heap := by
  refine ⟨va_K.moved hW.alike h.1, fun w hw => nw_warm (List.mem_filter.mp hw).2 hW (h.2.1 w hw), ?_, h.2.2.2.warm hW⟩
  rw [hU]
  exact ((h.2.2.1.kept hS.2.1).narrow hAB).moved hW.alike
theorem Fx.frame {E : Ev} {A : Nat → Prop} {U : State} {g : JFrame} {mk : MethodId} {a : Array Value} (h : Fx E A U U.heap) : Fx E A (U.calling g mk a) (U.calling g mk a).heap :=
  ⟨va_K.moved (u := U) (U := U.calling g mk a) (Vm.Alike.refl U.vm) h.1, fun w hw => va_Nw.same (nw_on (List.mem_filter.mp hw).2) (u := U) (U := U.calling g mk a) rfl (h.2.1 w hw), Sx.moved (u := U) (U := U.calling g mk a) (Vm.Alike.refl U.vm) h.2.2.1, Rx.same (u := U) (U := U.calling g mk a) rfl h.2.2.2⟩
/-! ===== locals ===== -/
def lvH (ls : Array Slot) (nL : Nat) (lv : List (Option Value)) : Prop := ls.size = nL ∧ lv_wf ls ∧ (∀ v : Value, some v ∈ lv → v.category = 1) ∧ lv.length = nL ∧ ∀ (i : Nat) (v : Value), lv[i]? = some (some v) → ls[i]? = some (.val v)
def lvE (lv : List (Option Value)) : List (Nat × Value) := (List.range lv.length).filterMap (fun j => (lv.getD j none).map (fun v => (j, v)))
theorem lvE_mem {lv : List (Option Value)} {j : Nat} {v : Value} : (j, v) ∈ lvE lv ↔ lv[j]? = some (some v) := by
  unfold lvE
  rw [List.mem_filterMap]
  constructor
  · rintro ⟨i, hi, h⟩
    rw [List.mem_range] at hi
    rw [List.getD_eq_getElem?_getD, List.getElem?_eq_getElem hi] at h
    simp only [Option.getD_some, Option.map_eq_some_iff] at h
    obtain ⟨w, h1, h2⟩ := h
    cases h2
    rw [List.getElem?_eq_getElem hi, h1]
  · intro h
    have hj := (List.getElem?_eq_some_iff.mp h).1
    exact ⟨j, List.mem_range.mpr hj, by rw [List.getD_eq_getElem?_getD, h]; rfl⟩
theorem lvH.has {ls : Array Slot} {nL : Nat} {lv : List (Option Value)} (h : lvH ls nL lv) : lv_has ls nL (lvE lv) := ⟨h.1, h.2.1, fun q hq => h.2.2.2.2 q.1 q.2 (lvE_mem.mp (show (q.1, q.2) ∈ lvE lv from hq))⟩
theorem lvH.at {ls : Array Slot} {nL : Nat} {lv : List (Option Value)} (h : lvH ls nL lv) {i : Nat} {v : Value} (hi : lv[i]? = some (some v)) : ls[i]? = some (.val v) := h.2.2.2.2 i v hi
theorem lvH.set {ls ls' : Array Slot} {nL : Nat} {lv : List (Option Value)} (h : lvH ls nL lv) {i : Nat} {v : Value} (hc : v.category = 1) (h' : lv_has ls' nL ((i, v) :: (lvE lv).filter (fun q => !(q.1 == i) && !(q.1 + 1 == i && q.2.category == 2)))) : lvH ls' nL (lv.set i (some v)) := by
  refine ⟨h'.1, h'.2.1, fun w hw => ?_, by rw [List.length_set]; exact h.2.2.2.1, fun j w hj => ?_⟩
  · rcases List.mem_or_eq_of_mem_set hw with q | q
    · exact h.2.2.1 w q
    · cases q
      exact hc
  · by_cases e : i = j
    · subst e
      have hl : i < lv.length := by
        have := (List.getElem?_eq_some_iff.mp hj).1
        rwa [List.length_set] at this
      rw [List.getElem?_set_self hl] at hj
      cases hj
      exact h'.2.2 (i, v) List.mem_cons_self
    · rw [List.getElem?_set_ne e] at hj
      refine h'.2.2 (j, w) (List.mem_cons_of_mem _ (List.mem_filter.mpr ⟨lvE_mem.mpr hj, ?_⟩))
      have hw : w.category = 1 := h.2.2.1 w (List.mem_of_getElem? hj)
      simp [hw, Ne.symm e]
/-! ===== the judgement: from here the method comes to an end as Q says ===== -/
abbrev Kx : Type := Program × Launch × Env × Room × State × MethodId × Array Value × List Frame × Method × Code × (State → Prop) × (Nat → Prop) × Ev × Nat × Nat × Nat
def G (X : Kx) {S : Type} (w : S → va_W) (σ : S) (pc : Nat) (lv : List (Option Value)) (st : List Value) : Prop := match X with
  | (p, l, e, R, s, m, args, below, meth, c, Q, A, E, nL, kc, ks) => ∀ (H : Heap) (locs : List Loc) (ls : Array Slot), va_P E.1 vwCl (w σ) H → va_D A (w σ) → va_S A s.heap H locs → lvH ls nL lv → W p l e R s m args below meth c H locs kc ks Q (F0 m pc ls st)
def Cx (X : Kx) (l : Launch) (E : Ev) (own : String) (cc : ByteArray) (rm : Room) (ret : Option FieldType) : Prop := match X with
  | (p, l', _, R, s, m, args, _, meth, c, _, A, E', nL, kc, ks) => CallFix p m c cc nL s args UW own ∧ Fx E' A s s.heap ∧ (∀ q, s.heap.size ≤ q → A q) ∧ meth.locks = false ∧ R = rm ∧ meth.sig.returnType = ret ∧ l' = l ∧ E' = E ∧ kc ≤ R.cells ∧ ks ≤ R.slots
/-- the world behind a method -/
def pW (E : Ev) {S : Type} (w : S → va_W) (A : Nat → Prop) (u : S) (t : State) : Prop := va_P E.1 vwCl (w u) t.heap ∧ va_D A (w u)
/-- .. and ahead of it -/
def preW (E : Ev) {S : Type} (w : S → va_W) (σ : S) (sz : Nat) (U : State) : Prop := U.heap.size = sz ∧ va_P E.1 vwCl (w σ) U.heap ∧ va_D (fun _ => True) (w σ) ∧ Fx E (va_A (w σ) sz) U U.heap
def QI (X : Kx) {S : Type} (w : S → va_W) (post : Int32 → S → Prop) : Prop := match X with
  | (_, _, _, _, s, _, args, below, _, _, Q, A, E, _, kc, ks) => Q = MQ below (va_Qi post (pW E w A) A) args s kc ks A
def QV (X : Kx) {S : Type} (w : S → va_W) (post : S → Prop) : Prop := match X with
  | (_, _, _, _, s, _, args, below, _, _, Q, A, E, _, kc, ks) => Q = MQ below (va_Qv post (pW E w A) A) args s kc ks A
theorem preW.blind {E : Ev} {S : Type} {w : S → va_W} {σ : S} {sz : Nat} {As : List Value} : FrameBlind (va_Pc As (preW E w σ sz)) := fun a U g mk q => ⟨q.1, q.2.1, q.2.2.1, q.2.2.2.1, q.2.2.2.2.frame⟩
/-- the contract of a method that answers an int -/
def CI (l : Launch) (E : Ev) {S : Type} (w : S → va_W) (y : MethodName) (cc : ByteArray) (nL : Nat) (ret : FieldType) (rm : Room) (As : List Value) (σ : S) (post : Int32 → S → Prop) : Prop := ∀ sz : Nat, Met l y (WS y cc nL (some ret)) rm (va_Pc As (preW E w σ sz)) (va_Qi post (pW E w (va_A (w σ) sz)) (va_A (w σ) sz)) 0 0 (va_A (w σ) sz)
def CV (l : Launch) (E : Ev) {S : Type} (w : S → va_W) (y : MethodName) (cc : ByteArray) (nL : Nat) (rm : Room) (As : List Value) (σ : S) (post : S → Prop) : Prop := ∀ sz : Nat, Met l y (WS y cc nL none) rm (va_Pc As (preW E w σ sz)) (va_Qv post (pW E w (va_A (w σ) sz)) (va_A (w σ) sz)) 0 0 (va_A (w σ) sz)
/-! the locals with which a method begins -/
theorem lvH_entry {As : List Value} {n : Nat} {lv : List (Option Value)} (hc : As.all (fun v => v.category == 1) = true) (hn : As.length ≤ n) (hlv : lv = As.map some ++ List.replicate (n - As.length) none) : lvH ((lg_sl As ++ List.replicate (n - (lg_sl As).length) Slot.unset).toArray) n lv := by
  have hcat : ∀ v ∈ As, v.category = 1 := fun v hv => by simpa using List.all_eq_true.mp hc v hv
  have hsl : ∀ l : List Value, (∀ v ∈ l, v.category = 1) → lg_sl l = l.map Slot.val := by
    intro l hl
    induction l with
    | nil => rfl
    | cons v t ih =>
      have h1 : v.category = 1 := hl v List.mem_cons_self
      have h2 := ih (fun x hx => hl x (List.mem_cons_of_mem _ hx))
      simp only [lg_sl] at h2 ⊢
      simp [h1, h2]
  have e := hsl As hcat
  have hlen : (lg_sl As).length = As.length := by rw [e, List.length_map]
  have h0 := lv_entry As (n := n) (by omega)
  subst hlv
  refine ⟨h0.1, h0.2.1, fun v hv => ?_, by simp; omega, fun i v hi => ?_⟩
  · rcases List.mem_append.mp hv with h | h
    · obtain ⟨x, hx, e2⟩ := List.mem_map.mp h
      cases e2
      exact hcat _ hx
    · have := (List.mem_replicate.mp h).2
      cases this
  · rw [e]
    by_cases hlt : i < As.length
    · rw [List.getElem?_append_left (by simpa using hlt), List.getElem?_map] at hi
      have : As[i]? = some v := by
        cases ha : As[i]? with
        | none => rw [ha] at hi; cases hi
        | some x => rw [ha] at hi; cases hi; rfl
      simp [List.getElem?_append_left, hlt, this]
      have := (List.getElem?_eq_some_iff.mp this).2
      exact this
    · rw [List.getElem?_append_right (by simp; omega)] at hi
      have := (List.mem_replicate.mp (List.mem_of_getElem? hi)).2
      cases this
theorem met_i {l : Launch} {E : Ev} {S : Type} {w : S → va_W} {y : MethodName} {cc : ByteArray} {nL : Nat} {ret : FieldType} {rm : Room} {As : List Value} {σ : S} {post : Int32 → S → Prop} {lv : List (Option Value)} (hy : plainName y.cls = true) (hc : As.all (fun v => v.category == 1) = true) (hn : As.length ≤ nL) (hlv : lv = As.map some ++ List.replicate (nL - As.length) none)
    (body : ∀ X : Kx, Cx X l E y.cls cc rm (some ret) → QI X w post → G X w σ 0 lv []) : CI l E w y cc nL ret rm As σ post := by
  intro sz
  refine Met.ofW (cc := cc) (maxL := nL) (ret := some ret) hy rfl ?_
  intro p e s m args below meth c s₁ B hml hv
  obtain ⟨rfl, hsz, hP, hD, hF⟩ := hv
  subst hsz
  have hts := atoms_spec (ws := WS y cc nL (some ret)) B.pre
  have hU : ∀ x ∈ UW, x.before As.toArray s = true := fun x hx => hts x (List.mem_cons_of_mem _ hx)
  have K := body (p, l, e, rm, s, m, As.toArray, below, meth, c, MQ below (va_Qi post (pW E w (va_A (w σ) s.heap.size)) (va_A (w σ) s.heap.size)) As.toArray s 0 0 (va_A (w σ) s.heap.size), va_A (w σ) s.heap.size, E, nL, 0, 0) ⟨⟨B.exec, B.bytes, hml, findClass_of_methodNamed B.named, hU⟩, hF, fun q h => Or.inr h, B.notSynchronized, rfl, B.returns, rfl, rfl, Nat.zero_le _, Nat.zero_le _⟩ rfl
  rw [lg_entry_eq]
  exact K s.heap [] _ hP (hD.self (sz := s.heap.size)) va_S.rf (lvH_entry hc hn hlv)
theorem met_v {l : Launch} {E : Ev} {S : Type} {w : S → va_W} {y : MethodName} {cc : ByteArray} {nL : Nat} {rm : Room} {As : List Value} {σ : S} {post : S → Prop} {lv : List (Option Value)} (hy : plainName y.cls = true) (hc : As.all (fun v => v.category == 1) = true) (hn : As.length ≤ nL) (hlv : lv = As.map some ++ List.replicate (nL - As.length) none)
    (body : ∀ X : Kx, Cx X l E y.cls cc rm none → QV X w post → G X w σ 0 lv []) : CV l E w y cc nL rm As σ post := by
  intro sz
  refine Met.ofW (cc := cc) (maxL := nL) (ret := none) hy rfl ?_
  intro p e s m args below meth c s₁ B hml hv
  obtain ⟨rfl, hsz, hP, hD, hF⟩ := hv
  subst hsz
  have hts := atoms_spec (ws := WS y cc nL none) B.pre
  have hU : ∀ x ∈ UW, x.before As.toArray s = true := fun x hx => hts x (List.mem_cons_of_mem _ hx)
  have K := body (p, l, e, rm, s, m, As.toArray, below, meth, c, MQ below (va_Qv post (pW E w (va_A (w σ) s.heap.size)) (va_A (w σ) s.heap.size)) As.toArray s 0 0 (va_A (w σ) s.heap.size), va_A (w σ) s.heap.size, E, nL, 0, 0) ⟨⟨B.exec, B.bytes, hml, findClass_of_methodNamed B.named, hU⟩, hF, fun q h => Or.inr h, B.notSynchronized, rfl, B.returns, rfl, rfl, Nat.zero_le _, Nat.zero_le _⟩ rfl
  rw [lg_entry_eq]
  exact K s.heap [] _ hP (hD.self (sz := s.heap.size)) va_S.rf (lvH_entry hc hn hlv)

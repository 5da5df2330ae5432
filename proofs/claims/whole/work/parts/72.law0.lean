/-! ===== the law's world: two systems side by side ===== -/
theorem g_rot {X : Kx} {pc : Nat} {lv : List (Option Value)} {st : List Value} {x y : va_W} (k : G X wid (y ++ x) pc lv st) : G X wid (x ++ y) pc lv st := by
  obtain ⟨p, l', e, R, s, m, args, below, meth, c, Q, A, E', nL, kc, ks⟩ := X
  intro H locs ls hP hD hS hl
  exact k H locs ls (va_P.swap (a := []) (b := x) (c := y) hP) (va_D.swap (a := []) (b := x) (c := y) hD) hS hl
theorem range_r {x r : va_W} : ((List.range r.length).map (fun i => x.length + i)).map (fun i => (x ++ r)[i]?) = r.map some := by
  apply List.ext_getElem?
  intro i
  rw [List.map_map, List.getElem?_map, List.getElem?_map]
  by_cases h : i < r.length
  · rw [List.getElem?_range h]
    simp [List.getElem?_append_right, List.getElem?_eq_getElem h]
  · rw [List.getElem?_eq_none (by simp; omega), List.getElem?_eq_none (by omega)]
    rfl
theorem nd_r {n k : Nat} : va_nd ((List.range k).map (fun i => n + i)) = true := by
  refine nd_of ?_
  rw [List.nodup_iff_pairwise_ne, List.pairwise_map]
  exact List.Pairwise.imp (fun h e => h (by omega)) List.nodup_range
theorem join_l {A0 : Nat → Prop} {D : va_G} {cl : List vw_C} {x r w1 : va_W} {H H1 : Heap} (hP : va_P D cl (x ++ r) H) (hD : va_D A0 (x ++ r)) (hk : ∀ q : Nat, q < H.size → ¬ va_A x H.size q → H1[q]? = H[q]?) (hF : ∀ q, va_A x H.size q → A0 q) (hP1 : va_P D cl w1 H1) (hD1 : va_D (va_A x H.size) w1) : va_P D cl (w1 ++ r) H1 ∧ va_D A0 (w1 ++ r) := by
  obtain ⟨h1, h2⟩ := va_join (wr := r) (w1 := w1) hP hD (List.range x.length) ((List.range r.length).map (fun i => x.length + i)) range_ws range_r nd_r (fun i hi hj => by
    obtain ⟨j, -, rfl⟩ := List.mem_map.mp hi
    have := List.mem_range.mp hj
    omega) hk hF hP1 hD1
  exact ⟨va_P.swap (a := []) (b := r) (c := w1) h1, va_D.swap (a := []) (b := r) (c := w1) h2⟩
/-- a call whose world is the first part of the caller's -/
theorem g_callF {X : Kx} {S : Type} {w : S → va_W} {σ : S} {r : va_W} {l : Launch} {E : Ev} {own : String} {cc : ByteArray} {rm : Room} {ret : Option FieldType} {pc : Nat} {lv : List (Option Value)} {st : List Value} (C : Cx X l E own cc rm ret) {y : MethodName} {bytes : ByteArray} {nL' idx : Nat} (n : Nat) {rt : FieldType} {rm' : Room} {As rest : List Value} {post : Int32 → S → Prop} {b q0 ci N : Nat} {fs : List Value} {T : u_T} {Cn : String} (h1 : Cond.methodLink own idx y ∈ UW) (h2 : Cond.instanceMethod y ∈ UW) (h3 : Cond.selects Cn y y ∈ UW) (h4 : Cond.initialized Cn ∈ UW) (h5 : Cond.code y bytes nL' (some rt) ∈ UW) (hd : y.cls = Cn ∧ y.cls ≠ "java/lang/invoke/MethodHandle" ∧ y.cls ≠ "java/lang/invoke/VarHandle" ∧ (parseMethodDescriptor y.desc).map (fun d => d.parameters.length) = some n) (he : (w σ)[q0]? = some (b, .inr (ci, fs))) (hc : vwCl[ci]? = some (Cn, T, N)) (hM : CI l E w y bytes nL' rt rm' (.ref b :: As) σ post) (hz : rm'.cells = 0 ∧ rm'.slots = 0) (hR : rm'.frames + 1 ≤ rm.frames ∧ 8 + (nL' + 11) + rm'.locals ≤ rm.locals) (hn : As.length = n) (hst : st = As.reverse ++ .ref b :: rest) (hW : (rest.map fun v => v.category).sum ≤ 8) (d : decode cc pc = .ok (.invokevirtual idx, 3)) (k : ∀ (v : Int32) (u : S), post v u → G X wid (w u ++ r) (pc + 3) lv (.int v :: rest)) : G X wid (w σ ++ r) pc lv st := by
  obtain ⟨p, l', e, R, s, m, args, below, meth, c, Q, A, E', nL, kc, ks⟩ := X
  intro H locs ls hP hD hS hl
  have hR' : R = rm := C.2.2.2.2.1
  have hl' : l' = l := C.2.2.2.2.2.2.1
  have hE : E' = E := C.2.2.2.2.2.2.2.1
  subst hR'
  subst hl'
  subst hE
  have hlt : q0 < (w σ).length := (List.getElem?_eq_some_iff.mp he).1
  have he' : (w σ ++ r)[q0]? = some (b, .inr (ci, fs)) := by rw [List.getElem?_append_left hlt]; exact he
  have hPc : va_P E'.1 vwCl (w σ) H := fun k9 x9 h9 => hP k9 x9 (by
    have := (List.getElem?_eq_some_iff.mp h9).1
    show (w σ ++ r)[k9]? = some x9
    rw [List.getElem?_append_left this]
    exact h9)
  have hDc := hD.sub (ws' := w σ) (List.range (w σ).length) (nd_of List.nodup_range) range_ws
  have hFr : ∀ q, va_A (w σ) H.size q → A q := fun q h => h.elim (fun ⟨k9, e9, h9⟩ => hDc.2 k9 _ h9) (fun h9 => C.2.2.1 q (Nat.le_trans hS.1 h9))
  subst hst
  exact va_calli (va_runV (As := As) (rest := rest) C.1 (hM H.size) (cwV n C.1.2.2.2.2 (wsV_gi h1 h2 h3 h4 h5) rfl hz.1 hz.2 hd hR) ⟨preW.blind, va_recv C.2.1.1 hP hc he', fun U hU hW9 => ⟨rfl, by rw [hU], by rw [hU]; exact hPc, hDc.weaken (fun _ _ _ _ => trivial), Fx.call C.2.1 hS hFr hW9 hU⟩⟩ rfl hn hl.1 rfl (lv_room hW) d ⟨C.2.2.2.2.2.2.2.2.1, C.2.2.2.2.2.2.2.2.2⟩) hS (fun q _ h => hFr q h) hFr (fun v u t H1 locs1 ht hvm hp hB hz1 hk1 hS1 => by
    obtain ⟨hP2, hD2⟩ := join_l hP hD hk1 hFr (ht ▸ hB.1) hB.2
    exact k v u hp H1 locs1 ls hP2 hD2 hS1 hl)
/-! the script: a cell that no one writes -/
def SX (X : Kx) (b L : Nat) (xs : Nat → Int32) : Prop := match X with
  | (_, _, _, _, s, _, _, _, _, _, _, A, _, _, _, _) => va_X b L xs s s.heap ∧ b < s.heap.size ∧ ¬ A b
theorem g_sld {X : Kx} {S : Type} {w : S → va_W} {σ : S} {l : Launch} {E : Ev} {own : String} {cc : ByteArray} {rm : Room} {ret : Option FieldType} {pc : Nat} {lv : List (Option Value)} {st : List Value} {b L : Nat} {xs : Nat → Int32} {i : Int32} (C : Cx X l E own cc rm ret) (hX : SX X b L xs) (hin : vp_in i L) (d : decode cc pc = .ok (.iaload, 1)) (k : G X w σ (pc + 1) lv (.int (xs i.toNatClampNeg) :: st)) : G X w σ pc lv (.int i :: .ref b :: st) := by
  obtain ⟨p, l', e, R, s, m, args, below, meth, c, Q, A, E', nL, kc, ks⟩ := X
  intro H locs ls hP hD hS hl
  exact va_sld C.1.1 C.1.2.1 hX.1 hX.2.1 hX.2.2 hS hin d (k H locs ls hP hD hS hl)
theorem g_slenX {X : Kx} {S : Type} {w : S → va_W} {σ : S} {l : Launch} {E : Ev} {own : String} {cc : ByteArray} {rm : Room} {ret : Option FieldType} {pc : Nat} {lv : List (Option Value)} {st : List Value} {b L : Nat} {xs : Nat → Int32} (C : Cx X l E own cc rm ret) (hX : SX X b L xs) (d : decode cc pc = .ok (.arraylength, 1)) (k : G X w σ (pc + 1) lv (.int (Int32.ofNat L) :: st)) : G X w σ pc lv (.ref b :: st) := by
  obtain ⟨p, l', e, R, s, m, args, below, meth, c, Q, A, E', nL, kc, ks⟩ := X
  intro H locs ls hP hD hS hl
  exact va_slen C.1.1 C.1.2.1 hX.1 hX.2.1 hX.2.2 hS d (k H locs ls hP hD hS hl)

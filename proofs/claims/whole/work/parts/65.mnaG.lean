def rw4 (r0 r1 r2 r3 : Nat) : Nat → Option Nat := fun i => some (if i = 0 then r0 else if i = 1 then r1 else if i = 2 then r2 else r3)
theorem arr_q {c : ClassId} {n : Nat} {f g : Nat → Option Nat} (h : ∀ i, i < n → f i = g i) : vp_cell c (n, .inr (.inr (.inr (.inr f)))) = vp_cell c (n, .inr (.inr (.inr (.inr g)))) := by
  rw [vp_cell_q, vp_cell_q]
  unfold arrV
  congr 1
  first | (apply Array.ext' ; simp ; intro i hi ; rw [h i hi]) | (apply Array.ext (by simp) ; intro i h1 h2 ; simp at h1 ; simp [h i h1])
theorem g_cell {X : Kx} {pc p : Nat} {lv : List (Option Value)} {st : List Value} {ws : va_W} {c : ClassId} {ad : Nat} {A1 A2 : vp_A} (hp : ws[p]? = some (ad, .inl (c, A1))) (he : vp_cell c A1 = vp_cell c A2) (k : G X wid (ws.set p (ad, .inl (c, A2))) pc lv st) : G X wid ws pc lv st := by
  obtain ⟨p', l', e, R, s, m, args, below, meth, cc, Q, A, E', nL, kc, ks⟩ := X
  intro H locs ls hP hD hS hl
  refine k H locs ls ?_ (hD.set hp) hS hl
  intro k9 x hx
  have hP' : va_P E'.1 vwCl ws H := hP
  by_cases e9 : p = k9
  · subst e9
    have hlt := (List.getElem?_eq_some_iff.mp hp).1
    rw [show wid (ws.set p (ad, .inl (c, A2))) = ws.set p (ad, .inl (c, A2)) from rfl, List.getElem?_set_self hlt] at hx
    cases hx
    have := hP' p _ hp
    show H[ad]? = some (vp_cell c A2)
    rw [← he]
    exact this
  · rw [show wid (ws.set p (ad, .inl (c, A2))) = ws.set p (ad, .inl (c, A2)) from rfl, List.getElem?_set_ne e9] at hx
    exact hP' k9 x hx
theorem set_app {t : va_W} {x y : Nat × va_E} : ∀ {ws : va_W}, (ws ++ (x :: t)).set ws.length y = ws ++ (y :: t)
  | [] => rfl
  | z :: ws => congrArg (z :: ·) (set_app (ws := ws))
theorem g_mna {X : Kx} {l : Launch} {E : Ev} {own : String} {cc : ByteArray} {rm : Room} {ret : Option FieldType} {pc a b idx : Nat} {lv : List (Option Value)} {st : List Value} {ws : va_W} (C : Cx X l E own cc rm ret) (hI : IN X) (h1 : Cond.classLink own idx "[[I" ∈ UW) (hc : a + 5 ≤ rm.cells) (hs : b + 40 ≤ rm.slots) (d : decode cc pc = .ok (.multianewarray idx 2, 4)) (k : ∀ q r0 r1 r2 r3 : Nat, G (XK X (a + 5) (b + 40)) wid (ws ++ [(q, .inl (E.2.1 4, 4, .inr (.inr (.inr (.inr (rw4 r0 r1 r2 r3)))))), (r0, .inl (E.2.1 0, 9, .inl (fun _ => 0))), (r1, .inl (E.2.1 0, 9, .inl (fun _ => 0))), (r2, .inl (E.2.1 0, 9, .inl (fun _ => 0))), (r3, .inl (E.2.1 0, 9, .inl (fun _ => 0)))]) (pc + 4) lv (.ref q :: st)) : G (XK X a b) wid ws pc lv (.int 9 :: .int 4 :: st) := by
  obtain ⟨p, l', e, R, s, m, args, below, meth, c, Q, A, E', nL, kc, ks⟩ := X
  intro H locs ls hP hD hS hl
  have hR' : R = rm := C.2.2.2.2.1
  have hE : E' = E := C.2.2.2.2.2.2.2.1
  subst hR'
  subst hE
  have hP0 : va_P E'.1 vwCl (ws ++ va_pl [] (fun _ => .inr (0, []))) H := by
    show va_P E'.1 vwCl (ws ++ []) H
    rw [List.append_nil]
    exact hP
  have hD0 : va_D A (ws ++ va_pl [] (fun _ => .inr (0, []))) := by
    show va_D A (ws ++ [])
    rw [List.append_nil]
    exact hD
  refine va_mna (X := ws) (L := []) (f := fun _ => .inr (0, [])) (ty := .int) (cy := E'.2.1 0) (N' := 4) (K' := 9) (z := (9, .inl (fun _ => 0))) C.1.1 C.1.2.1 C.1.2.2.2.1 (C.1.2.2.2.2 _ h1) hI.2 (C.1.2.2.2.2 _ ua_int) (C.2.1.1.2 0 _ rfl).2 C.2.1.1 hP0 hD0 hS C.2.2.1 (by decide) (by decide) (by decide) (by decide) (by decide) (by decide) (by decide) rfl rfl (by omega) (by omega) (fun cz => by rw [vp_cell_i]; exact arrV_new ..) d (fun q r cA H1 _ _ hK1 hP1 hD1 hS1 => ?_)
  have hcA := cA_of (k := 4) (tys := []) C.2.1.1 hK1 rfl (fun _ h => by cases h)
  subst hcA
  rw [← vr_rows (fun _ _ h => by cases h)] at hP1 hD1
  have e4 : ∀ i, i < 4 → (if i < 4 then some (r i) else none) = rw4 (r 0) (r 1) (r 2) (r 3) i := by
    intro i hi
    have : i = 0 ∨ i = 1 ∨ i = 2 ∨ i = 3 := by omega
    rcases this with rfl | rfl | rfl | rfl <;> rfl
  have K := g_cell (X := XK (p, l', e, R, s, m, args, below, meth, c, Q, A, E', nL, kc, ks) (a + 5) (b + 40)) (p := ws.length) (pc := pc + 4) (lv := lv) (st := .ref q :: st) (ws := ws ++ [(q, .inl (E'.2.1 4, 4, .inr (.inr (.inr (.inr (fun i => if i < 4 then some (r i) else none)))))), (r 0, .inl (E'.2.1 0, 9, .inl (fun _ => 0))), (r 1, .inl (E'.2.1 0, 9, .inl (fun _ => 0))), (r 2, .inl (E'.2.1 0, 9, .inl (fun _ => 0))), (r 3, .inl (E'.2.1 0, 9, .inl (fun _ => 0)))]) (c := E'.2.1 4) (ad := q) (by simp) (arr_q e4) (by
    have := k q (r 0) (r 1) (r 2) (r 3)
    exact (congrArg (fun z : va_W => G (XK (p, l', e, R, s, m, args, below, meth, c, Q, A, E', nL, kc, ks) (a + 5) (b + 40)) wid z (pc + 4) lv (.ref q :: st)) set_app).mpr this)
  have ew : (ws ++ [(q, .inl (E'.2.1 4, 4, .inr (.inr (.inr (.inr (fun i => if i < 4 then some (r i) else none))))))]) ++ (va_pl [] (fun _ => .inr (0, [])) ++ ((List.range 4).map r).map (fun a => (a, .inl (E'.2.1 0, 9, .inl (fun _ => 0))))) = ws ++ [(q, .inl (E'.2.1 4, 4, .inr (.inr (.inr (.inr (fun i => if i < 4 then some (r i) else none)))))), (r 0, .inl (E'.2.1 0, 9, .inl (fun _ => 0))), (r 1, .inl (E'.2.1 0, 9, .inl (fun _ => 0))), (r 2, .inl (E'.2.1 0, 9, .inl (fun _ => 0))), (r 3, .inl (E'.2.1 0, 9, .inl (fun _ => 0)))] := by
    rw [List.append_assoc]
    rfl
  exact K H1 locs ls (ew ▸ hP1) (ew ▸ hD1) hS1 hl

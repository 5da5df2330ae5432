theorem g_iconst_m1 {X : Kx} {S : Type} {w : S → va_W} {σ : S} {l : Launch} {E : Ev} {own : String} {cc : ByteArray} {rm : Room} {ret : Option FieldType} {pc : Nat} {lv : List (Option Value)} {st : List Value} (C : Cx X l E own cc rm ret) (d : decode cc pc = .ok (.iconst (-1), 1)) (k : G X w σ (pc + 1) lv (.int (-1) :: st)) : G X w σ pc lv st := by
  obtain ⟨p, l', e, R, s, m, args, below, meth, c, Q, A, E', nL, kc, ks⟩ := X
  intro H locs ls hP hD hS hl
  exact lv_iconst C.1.1 C.1.2.1 d (by decide) (k H locs ls hP hD hS hl)
theorem g_iconst_0 {X : Kx} {S : Type} {w : S → va_W} {σ : S} {l : Launch} {E : Ev} {own : String} {cc : ByteArray} {rm : Room} {ret : Option FieldType} {pc : Nat} {lv : List (Option Value)} {st : List Value} (C : Cx X l E own cc rm ret) (d : decode cc pc = .ok (.iconst 0, 1)) (k : G X w σ (pc + 1) lv (.int 0 :: st)) : G X w σ pc lv st := by
  obtain ⟨p, l', e, R, s, m, args, below, meth, c, Q, A, E', nL, kc, ks⟩ := X
  intro H locs ls hP hD hS hl
  exact lv_iconst C.1.1 C.1.2.1 d (by decide) (k H locs ls hP hD hS hl)
theorem g_iconst_1 {X : Kx} {S : Type} {w : S → va_W} {σ : S} {l : Launch} {E : Ev} {own : String} {cc : ByteArray} {rm : Room} {ret : Option FieldType} {pc : Nat} {lv : List (Option Value)} {st : List Value} (C : Cx X l E own cc rm ret) (d : decode cc pc = .ok (.iconst 1, 1)) (k : G X w σ (pc + 1) lv (.int 1 :: st)) : G X w σ pc lv st := by
  obtain ⟨p, l', e, R, s, m, args, below, meth, c, Q, A, E', nL, kc, ks⟩ := X
  intro H locs ls hP hD hS hl
  exact lv_iconst C.1.1 C.1.2.1 d (by decide) (k H locs ls hP hD hS hl)
theorem g_iconst_2 {X : Kx} {S : Type} {w : S → va_W} {σ : S} {l : Launch} {E : Ev} {own : String} {cc : ByteArray} {rm : Room} {ret : Option FieldType} {pc : Nat} {lv : List (Option Value)} {st : List Value} (C : Cx X l E own cc rm ret) (d : decode cc pc = .ok (.iconst 2, 1)) (k : G X w σ (pc + 1) lv (.int 2 :: st)) : G X w σ pc lv st := by
  obtain ⟨p, l', e, R, s, m, args, below, meth, c, Q, A, E', nL, kc, ks⟩ := X
  intro H locs ls hP hD hS hl
  exact lv_iconst C.1.1 C.1.2.1 d (by decide) (k H locs ls hP hD hS hl)
theorem g_iconst_3 {X : Kx} {S : Type} {w : S → va_W} {σ : S} {l : Launch} {E : Ev} {own : String} {cc : ByteArray} {rm : Room} {ret : Option FieldType} {pc : Nat} {lv : List (Option Value)} {st : List Value} (C : Cx X l E own cc rm ret) (d : decode cc pc = .ok (.iconst 3, 1)) (k : G X w σ (pc + 1) lv (.int 3 :: st)) : G X w σ pc lv st := by
  obtain ⟨p, l', e, R, s, m, args, below, meth, c, Q, A, E', nL, kc, ks⟩ := X
  intro H locs ls hP hD hS hl
  exact lv_iconst C.1.1 C.1.2.1 d (by decide) (k H locs ls hP hD hS hl)
theorem g_iconst_4 {X : Kx} {S : Type} {w : S → va_W} {σ : S} {l : Launch} {E : Ev} {own : String} {cc : ByteArray} {rm : Room} {ret : Option FieldType} {pc : Nat} {lv : List (Option Value)} {st : List Value} (C : Cx X l E own cc rm ret) (d : decode cc pc = .ok (.iconst 4, 1)) (k : G X w σ (pc + 1) lv (.int 4 :: st)) : G X w σ pc lv st := by
  obtain ⟨p, l', e, R, s, m, args, below, meth, c, Q, A, E', nL, kc, ks⟩ := X
  intro H locs ls hP hD hS hl
  exact lv_iconst C.1.1 C.1.2.1 d (by decide) (k H locs ls hP hD hS hl)
theorem g_iconst_5 {X : Kx} {S : Type} {w : S → va_W} {σ : S} {l : Launch} {E : Ev} {own : String} {cc : ByteArray} {rm : Room} {ret : Option FieldType} {pc : Nat} {lv : List (Option Value)} {st : List Value} (C : Cx X l E own cc rm ret) (d : decode cc pc = .ok (.iconst 5, 1)) (k : G X w σ (pc + 1) lv (.int 5 :: st)) : G X w σ pc lv st := by
  obtain ⟨p, l', e, R, s, m, args, below, meth, c, Q, A, E', nL, kc, ks⟩ := X
  intro H locs ls hP hD hS hl
  exact lv_iconst C.1.1 C.1.2.1 d (by decide) (k H locs ls hP hD hS hl)
theorem g_bipush {X : Kx} {S : Type} {w : S → va_W} {σ : S} {l : Launch} {E : Ev} {own : String} {cc : ByteArray} {rm : Room} {ret : Option FieldType} {pc : Nat} {lv : List (Option Value)} {st : List Value} (C : Cx X l E own cc rm ret) {n : Int} {v : Int32} (hv : (Int8.ofInt n).toInt32 = v) (d : decode cc pc = .ok (.bipush n, 2)) (k : G X w σ (pc + 2) lv (.int v :: st)) : G X w σ pc lv st := by
  obtain ⟨p, l', e, R, s, m, args, below, meth, c, Q, A, E', nL, kc, ks⟩ := X
  intro H locs ls hP hD hS hl
  exact lv_bipush C.1.1 C.1.2.1 d hv (k H locs ls hP hD hS hl)
theorem g_sipush {X : Kx} {S : Type} {w : S → va_W} {σ : S} {l : Launch} {E : Ev} {own : String} {cc : ByteArray} {rm : Room} {ret : Option FieldType} {pc : Nat} {lv : List (Option Value)} {st : List Value} (C : Cx X l E own cc rm ret) {n : Int} {v : Int32} (hv : (Int16.ofInt n).toInt32 = v) (d : decode cc pc = .ok (.sipush n, 3)) (k : G X w σ (pc + 3) lv (.int v :: st)) : G X w σ pc lv st := by
  obtain ⟨p, l', e, R, s, m, args, below, meth, c, Q, A, E', nL, kc, ks⟩ := X
  intro H locs ls hP hD hS hl
  exact lv_sipush C.1.1 C.1.2.1 d hv (k H locs ls hP hD hS hl)
theorem g_ldc {X : Kx} {S : Type} {w : S → va_W} {σ : S} {l : Launch} {E : Ev} {own : String} {cc : ByteArray} {rm : Room} {ret : Option FieldType} {pc : Nat} {lv : List (Option Value)} {st : List Value} (C : Cx X l E own cc rm ret) {idx : Nat} {v : Int32} (hw : Cond.constant own idx v ∈ UW) (d : decode cc pc = .ok (.ldc idx, 2)) (k : G X w σ (pc + 2) lv (.int v :: st)) : G X w σ pc lv st := by
  obtain ⟨p, l', e, R, s, m, args, below, meth, c, Q, A, E', nL, kc, ks⟩ := X
  intro H locs ls hP hD hS hl
  exact lv_ldc C.1.1 C.1.2.1 C.1.2.2.2.1 (C.1.2.2.2.2 _ hw) d (k H locs ls hP hD hS hl)
theorem g_iload_0 {X : Kx} {S : Type} {w : S → va_W} {σ : S} {l : Launch} {E : Ev} {own : String} {cc : ByteArray} {rm : Room} {ret : Option FieldType} {pc : Nat} {lv : List (Option Value)} {st : List Value} (C : Cx X l E own cc rm ret) {x : Int32} (d : decode cc pc = .ok (.iload_n 0, 1)) (h : lv[0]? = some (some (.int x))) (k : G X w σ (pc + 1) lv (.int x :: st)) : G X w σ pc lv st := by
  obtain ⟨p, l', e, R, s, m, args, below, meth, c, Q, A, E', nL, kc, ks⟩ := X
  intro H locs ls hP hD hS hl
  exact lv_iload_n C.1.1 C.1.2.1 d rfl (hl.at h) (k H locs ls hP hD hS hl)
theorem g_iload_1 {X : Kx} {S : Type} {w : S → va_W} {σ : S} {l : Launch} {E : Ev} {own : String} {cc : ByteArray} {rm : Room} {ret : Option FieldType} {pc : Nat} {lv : List (Option Value)} {st : List Value} (C : Cx X l E own cc rm ret) {x : Int32} (d : decode cc pc = .ok (.iload_n 1, 1)) (h : lv[1]? = some (some (.int x))) (k : G X w σ (pc + 1) lv (.int x :: st)) : G X w σ pc lv st := by
  obtain ⟨p, l', e, R, s, m, args, below, meth, c, Q, A, E', nL, kc, ks⟩ := X
  intro H locs ls hP hD hS hl
  exact lv_iload_n C.1.1 C.1.2.1 d rfl (hl.at h) (k H locs ls hP hD hS hl)
theorem g_iload_2 {X : Kx} {S : Type} {w : S → va_W} {σ : S} {l : Launch} {E : Ev} {own : String} {cc : ByteArray} {rm : Room} {ret : Option FieldType} {pc : Nat} {lv : List (Option Value)} {st : List Value} (C : Cx X l E own cc rm ret) {x : Int32} (d : decode cc pc = .ok (.iload_n 2, 1)) (h : lv[2]? = some (some (.int x))) (k : G X w σ (pc + 1) lv (.int x :: st)) : G X w σ pc lv st := by
  obtain ⟨p, l', e, R, s, m, args, below, meth, c, Q, A, E', nL, kc, ks⟩ := X
  intro H locs ls hP hD hS hl
  exact lv_iload_n C.1.1 C.1.2.1 d rfl (hl.at h) (k H locs ls hP hD hS hl)
theorem g_iload_3 {X : Kx} {S : Type} {w : S → va_W} {σ : S} {l : Launch} {E : Ev} {own : String} {cc : ByteArray} {rm : Room} {ret : Option FieldType} {pc : Nat} {lv : List (Option Value)} {st : List Value} (C : Cx X l E own cc rm ret) {x : Int32} (d : decode cc pc = .ok (.iload_n 3, 1)) (h : lv[3]? = some (some (.int x))) (k : G X w σ (pc + 1) lv (.int x :: st)) : G X w σ pc lv st := by
  obtain ⟨p, l', e, R, s, m, args, below, meth, c, Q, A, E', nL, kc, ks⟩ := X
  intro H locs ls hP hD hS hl
  exact lv_iload_n C.1.1 C.1.2.1 d rfl (hl.at h) (k H locs ls hP hD hS hl)
theorem g_iload {X : Kx} {S : Type} {w : S → va_W} {σ : S} {l : Launch} {E : Ev} {own : String} {cc : ByteArray} {rm : Room} {ret : Option FieldType} {pc : Nat} {lv : List (Option Value)} {st : List Value} (C : Cx X l E own cc rm ret) {x : Int32} {i : Nat} (d : decode cc pc = .ok (.iload i, 2)) (h : lv[i]? = some (some (.int x))) (k : G X w σ (pc + 2) lv (.int x :: st)) : G X w σ pc lv st := by
  obtain ⟨p, l', e, R, s, m, args, below, meth, c, Q, A, E', nL, kc, ks⟩ := X
  intro H locs ls hP hD hS hl
  exact lv_iload C.1.1 C.1.2.1 d (hl.at h) (k H locs ls hP hD hS hl)
theorem g_istore_0 {X : Kx} {S : Type} {w : S → va_W} {σ : S} {l : Launch} {E : Ev} {own : String} {cc : ByteArray} {rm : Room} {ret : Option FieldType} {pc : Nat} {lv : List (Option Value)} {st : List Value} (C : Cx X l E own cc rm ret) {x : Int32} (d : decode cc pc = .ok (.istore_n 0, 1)) (hi : 0 < lv.length) (k : G X w σ (pc + 1) (lv.set 0 (some (.int x))) st) : G X w σ pc lv (.int x :: st) := by
  obtain ⟨p, l', e, R, s, m, args, below, meth, c, Q, A, E', nL, kc, ks⟩ := X
  intro H locs ls hP hD hS hl
  exact lv_istore_n C.1.1 C.1.2.1 d rfl hl.has (by rw [← hl.2.2.2.1]; exact hi) rfl (fun ls' hl' => k H locs ls' hP hD hS (hl.set rfl hl'))
theorem g_istore_1 {X : Kx} {S : Type} {w : S → va_W} {σ : S} {l : Launch} {E : Ev} {own : String} {cc : ByteArray} {rm : Room} {ret : Option FieldType} {pc : Nat} {lv : List (Option Value)} {st : List Value} (C : Cx X l E own cc rm ret) {x : Int32} (d : decode cc pc = .ok (.istore_n 1, 1)) (hi : 1 < lv.length) (k : G X w σ (pc + 1) (lv.set 1 (some (.int x))) st) : G X w σ pc lv (.int x :: st) := by
  obtain ⟨p, l', e, R, s, m, args, below, meth, c, Q, A, E', nL, kc, ks⟩ := X
  intro H locs ls hP hD hS hl
  exact lv_istore_n C.1.1 C.1.2.1 d rfl hl.has (by rw [← hl.2.2.2.1]; exact hi) rfl (fun ls' hl' => k H locs ls' hP hD hS (hl.set rfl hl'))
theorem g_istore_2 {X : Kx} {S : Type} {w : S → va_W} {σ : S} {l : Launch} {E : Ev} {own : String} {cc : ByteArray} {rm : Room} {ret : Option FieldType} {pc : Nat} {lv : List (Option Value)} {st : List Value} (C : Cx X l E own cc rm ret) {x : Int32} (d : decode cc pc = .ok (.istore_n 2, 1)) (hi : 2 < lv.length) (k : G X w σ (pc + 1) (lv.set 2 (some (.int x))) st) : G X w σ pc lv (.int x :: st) := by
  obtain ⟨p, l', e, R, s, m, args, below, meth, c, Q, A, E', nL, kc, ks⟩ := X
  intro H locs ls hP hD hS hl
  exact lv_istore_n C.1.1 C.1.2.1 d rfl hl.has (by rw [← hl.2.2.2.1]; exact hi) rfl (fun ls' hl' => k H locs ls' hP hD hS (hl.set rfl hl'))
theorem g_istore_3 {X : Kx} {S : Type} {w : S → va_W} {σ : S} {l : Launch} {E : Ev} {own : String} {cc : ByteArray} {rm : Room} {ret : Option FieldType} {pc : Nat} {lv : List (Option Value)} {st : List Value} (C : Cx X l E own cc rm ret) {x : Int32} (d : decode cc pc = .ok (.istore_n 3, 1)) (hi : 3 < lv.length) (k : G X w σ (pc + 1) (lv.set 3 (some (.int x))) st) : G X w σ pc lv (.int x :: st) := by
  obtain ⟨p, l', e, R, s, m, args, below, meth, c, Q, A, E', nL, kc, ks⟩ := X
  intro H locs ls hP hD hS hl
  exact lv_istore_n C.1.1 C.1.2.1 d rfl hl.has (by rw [← hl.2.2.2.1]; exact hi) rfl (fun ls' hl' => k H locs ls' hP hD hS (hl.set rfl hl'))
theorem g_istore {X : Kx} {S : Type} {w : S → va_W} {σ : S} {l : Launch} {E : Ev} {own : String} {cc : ByteArray} {rm : Room} {ret : Option FieldType} {pc : Nat} {lv : List (Option Value)} {st : List Value} (C : Cx X l E own cc rm ret) {x : Int32} {i : Nat} (d : decode cc pc = .ok (.istore i, 2)) (hi : i < lv.length) (k : G X w σ (pc + 2) (lv.set i (some (.int x))) st) : G X w σ pc lv (.int x :: st) := by
  obtain ⟨p, l', e, R, s, m, args, below, meth, c, Q, A, E', nL, kc, ks⟩ := X
  intro H locs ls hP hD hS hl
  exact lv_istore C.1.1 C.1.2.1 d hl.has (by rw [← hl.2.2.2.1]; exact hi) rfl (fun ls' hl' => k H locs ls' hP hD hS (hl.set rfl hl'))
theorem g_aload_0 {X : Kx} {S : Type} {w : S → va_W} {σ : S} {l : Launch} {E : Ev} {own : String} {cc : ByteArray} {rm : Room} {ret : Option FieldType} {pc : Nat} {lv : List (Option Value)} {st : List Value} (C : Cx X l E own cc rm ret) {x : Nat} (d : decode cc pc = .ok (.aload_n 0, 1)) (h : lv[0]? = some (some (.ref x))) (k : G X w σ (pc + 1) lv (.ref x :: st)) : G X w σ pc lv st := by
  obtain ⟨p, l', e, R, s, m, args, below, meth, c, Q, A, E', nL, kc, ks⟩ := X
  intro H locs ls hP hD hS hl
  exact lv_aload_n C.1.1 C.1.2.1 d rfl (hl.at h) (k H locs ls hP hD hS hl)
theorem g_aload_1 {X : Kx} {S : Type} {w : S → va_W} {σ : S} {l : Launch} {E : Ev} {own : String} {cc : ByteArray} {rm : Room} {ret : Option FieldType} {pc : Nat} {lv : List (Option Value)} {st : List Value} (C : Cx X l E own cc rm ret) {x : Nat} (d : decode cc pc = .ok (.aload_n 1, 1)) (h : lv[1]? = some (some (.ref x))) (k : G X w σ (pc + 1) lv (.ref x :: st)) : G X w σ pc lv st := by
  obtain ⟨p, l', e, R, s, m, args, below, meth, c, Q, A, E', nL, kc, ks⟩ := X
  intro H locs ls hP hD hS hl
  exact lv_aload_n C.1.1 C.1.2.1 d rfl (hl.at h) (k H locs ls hP hD hS hl)
theorem g_aload_2 {X : Kx} {S : Type} {w : S → va_W} {σ : S} {l : Launch} {E : Ev} {own : String} {cc : ByteArray} {rm : Room} {ret : Option FieldType} {pc : Nat} {lv : List (Option Value)} {st : List Value} (C : Cx X l E own cc rm ret) {x : Nat} (d : decode cc pc = .ok (.aload_n 2, 1)) (h : lv[2]? = some (some (.ref x))) (k : G X w σ (pc + 1) lv (.ref x :: st)) : G X w σ pc lv st := by
  obtain ⟨p, l', e, R, s, m, args, below, meth, c, Q, A, E', nL, kc, ks⟩ := X
  intro H locs ls hP hD hS hl
  exact lv_aload_n C.1.1 C.1.2.1 d rfl (hl.at h) (k H locs ls hP hD hS hl)
theorem g_aload_3 {X : Kx} {S : Type} {w : S → va_W} {σ : S} {l : Launch} {E : Ev} {own : String} {cc : ByteArray} {rm : Room} {ret : Option FieldType} {pc : Nat} {lv : List (Option Value)} {st : List Value} (C : Cx X l E own cc rm ret) {x : Nat} (d : decode cc pc = .ok (.aload_n 3, 1)) (h : lv[3]? = some (some (.ref x))) (k : G X w σ (pc + 1) lv (.ref x :: st)) : G X w σ pc lv st := by
  obtain ⟨p, l', e, R, s, m, args, below, meth, c, Q, A, E', nL, kc, ks⟩ := X
  intro H locs ls hP hD hS hl
  exact lv_aload_n C.1.1 C.1.2.1 d rfl (hl.at h) (k H locs ls hP hD hS hl)
theorem g_aload {X : Kx} {S : Type} {w : S → va_W} {σ : S} {l : Launch} {E : Ev} {own : String} {cc : ByteArray} {rm : Room} {ret : Option FieldType} {pc : Nat} {lv : List (Option Value)} {st : List Value} (C : Cx X l E own cc rm ret) {x : Nat} {i : Nat} (d : decode cc pc = .ok (.aload i, 2)) (h : lv[i]? = some (some (.ref x))) (k : G X w σ (pc + 2) lv (.ref x :: st)) : G X w σ pc lv st := by
  obtain ⟨p, l', e, R, s, m, args, below, meth, c, Q, A, E', nL, kc, ks⟩ := X
  intro H locs ls hP hD hS hl
  exact lv_aload C.1.1 C.1.2.1 d (hl.at h) (k H locs ls hP hD hS hl)
theorem g_astore_0 {X : Kx} {S : Type} {w : S → va_W} {σ : S} {l : Launch} {E : Ev} {own : String} {cc : ByteArray} {rm : Room} {ret : Option FieldType} {pc : Nat} {lv : List (Option Value)} {st : List Value} (C : Cx X l E own cc rm ret) {x : Nat} (d : decode cc pc = .ok (.astore_n 0, 1)) (hi : 0 < lv.length) (k : G X w σ (pc + 1) (lv.set 0 (some (.ref x))) st) : G X w σ pc lv (.ref x :: st) := by
  obtain ⟨p, l', e, R, s, m, args, below, meth, c, Q, A, E', nL, kc, ks⟩ := X
  intro H locs ls hP hD hS hl
  exact lv_astore_n C.1.1 C.1.2.1 d rfl hl.has (by rw [← hl.2.2.2.1]; exact hi) rfl (fun ls' hl' => k H locs ls' hP hD hS (hl.set rfl hl'))
theorem g_astore_1 {X : Kx} {S : Type} {w : S → va_W} {σ : S} {l : Launch} {E : Ev} {own : String} {cc : ByteArray} {rm : Room} {ret : Option FieldType} {pc : Nat} {lv : List (Option Value)} {st : List Value} (C : Cx X l E own cc rm ret) {x : Nat} (d : decode cc pc = .ok (.astore_n 1, 1)) (hi : 1 < lv.length) (k : G X w σ (pc + 1) (lv.set 1 (some (.ref x))) st) : G X w σ pc lv (.ref x :: st) := by
  obtain ⟨p, l', e, R, s, m, args, below, meth, c, Q, A, E', nL, kc, ks⟩ := X
  intro H locs ls hP hD hS hl
  exact lv_astore_n C.1.1 C.1.2.1 d rfl hl.has (by rw [← hl.2.2.2.1]; exact hi) rfl (fun ls' hl' => k H locs ls' hP hD hS (hl.set rfl hl'))
theorem g_astore_2 {X : Kx} {S : Type} {w : S → va_W} {σ : S} {l : Launch} {E : Ev} {own : String} {cc : ByteArray} {rm : Room} {ret : Option FieldType} {pc : Nat} {lv : List (Option Value)} {st : List Value} (C : Cx X l E own cc rm ret) {x : Nat} (d : decode cc pc = .ok (.astore_n 2, 1)) (hi : 2 < lv.length) (k : G X w σ (pc + 1) (lv.set 2 (some (.ref x))) st) : G X w σ pc lv (.ref x :: st) := by
  obtain ⟨p, l', e, R, s, m, args, below, meth, c, Q, A, E', nL, kc, ks⟩ := X
  intro H locs ls hP hD hS hl
  exact lv_astore_n C.1.1 C.1.2.1 d rfl hl.has (by rw [← hl.2.2.2.1]; exact hi) rfl (fun ls' hl' => k H locs ls' hP hD hS (hl.set rfl hl'))
theorem g_astore_3 {X : Kx} {S : Type} {w : S → va_W} {σ : S} {l : Launch} {E : Ev} {own : String} {cc : ByteArray} {rm : Room} {ret : Option FieldType} {pc : Nat} {lv : List (Option Value)} {st : List Value} (C : Cx X l E own cc rm ret) {x : Nat} (d : decode cc pc = .ok (.astore_n 3, 1)) (hi : 3 < lv.length) (k : G X w σ (pc + 1) (lv.set 3 (some (.ref x))) st) : G X w σ pc lv (.ref x :: st) := by
  obtain ⟨p, l', e, R, s, m, args, below, meth, c, Q, A, E', nL, kc, ks⟩ := X
  intro H locs ls hP hD hS hl
  exact lv_astore_n C.1.1 C.1.2.1 d rfl hl.has (by rw [← hl.2.2.2.1]; exact hi) rfl (fun ls' hl' => k H locs ls' hP hD hS (hl.set rfl hl'))
theorem g_astore {X : Kx} {S : Type} {w : S → va_W} {σ : S} {l : Launch} {E : Ev} {own : String} {cc : ByteArray} {rm : Room} {ret : Option FieldType} {pc : Nat} {lv : List (Option Value)} {st : List Value} (C : Cx X l E own cc rm ret) {x : Nat} {i : Nat} (d : decode cc pc = .ok (.astore i, 2)) (hi : i < lv.length) (k : G X w σ (pc + 2) (lv.set i (some (.ref x))) st) : G X w σ pc lv (.ref x :: st) := by
  obtain ⟨p, l', e, R, s, m, args, below, meth, c, Q, A, E', nL, kc, ks⟩ := X
  intro H locs ls hP hD hS hl
  exact lv_astore C.1.1 C.1.2.1 d hl.has (by rw [← hl.2.2.2.1]; exact hi) rfl (fun ls' hl' => k H locs ls' hP hD hS (hl.set rfl hl'))
theorem g_iinc {X : Kx} {S : Type} {w : S → va_W} {σ : S} {l : Launch} {E : Ev} {own : String} {cc : ByteArray} {rm : Room} {ret : Option FieldType} {pc : Nat} {lv : List (Option Value)} {st : List Value} (C : Cx X l E own cc rm ret) {x v : Int32} {i : Nat} {n : Int} (hv : Int32.ofInt n = v) (d : decode cc pc = .ok (.iinc i n, 3)) (h : lv[i]? = some (some (.int x))) (k : G X w σ (pc + 3) (lv.set i (some (.int (x + v)))) st) : G X w σ pc lv st := by
  obtain ⟨p, l', e, R, s, m, args, below, meth, c, Q, A, E', nL, kc, ks⟩ := X
  intro H locs ls hP hD hS hl
  obtain ⟨kk, hk⟩ := List.getElem?_of_mem (lvE_mem.mpr h)
  have hi : i < lv.length := (List.getElem?_eq_some_iff.mp h).1
  exact lv_iinc (v := x + v) C.1.1 C.1.2.1 d hl.has hk (by rw [hv]) (by rw [← hl.2.2.2.1]; exact hi) rfl (fun ls' hl' => k H locs ls' hP hD hS (hl.set rfl hl'))
theorem g_iadd {X : Kx} {S : Type} {w : S → va_W} {σ : S} {l : Launch} {E : Ev} {own : String} {cc : ByteArray} {rm : Room} {ret : Option FieldType} {pc : Nat} {lv : List (Option Value)} {st : List Value} (C : Cx X l E own cc rm ret) {x y : Int32} (d : decode cc pc = .ok (.iadd, 1)) (k : G X w σ (pc + 1) lv (.int (x + y) :: st)) : G X w σ pc lv (.int y :: .int x :: st) := by
  obtain ⟨p, l', e, R, s, m, args, below, meth, c, Q, A, E', nL, kc, ks⟩ := X
  intro H locs ls hP hD hS hl
  exact lv_iadd C.1.1 C.1.2.1 d (k H locs ls hP hD hS hl)
theorem g_isub {X : Kx} {S : Type} {w : S → va_W} {σ : S} {l : Launch} {E : Ev} {own : String} {cc : ByteArray} {rm : Room} {ret : Option FieldType} {pc : Nat} {lv : List (Option Value)} {st : List Value} (C : Cx X l E own cc rm ret) {x y : Int32} (d : decode cc pc = .ok (.isub, 1)) (k : G X w σ (pc + 1) lv (.int (x - y) :: st)) : G X w σ pc lv (.int y :: .int x :: st) := by
  obtain ⟨p, l', e, R, s, m, args, below, meth, c, Q, A, E', nL, kc, ks⟩ := X
  intro H locs ls hP hD hS hl
  exact lv_isub C.1.1 C.1.2.1 d (k H locs ls hP hD hS hl)
theorem g_imul {X : Kx} {S : Type} {w : S → va_W} {σ : S} {l : Launch} {E : Ev} {own : String} {cc : ByteArray} {rm : Room} {ret : Option FieldType} {pc : Nat} {lv : List (Option Value)} {st : List Value} (C : Cx X l E own cc rm ret) {x y : Int32} (d : decode cc pc = .ok (.imul, 1)) (k : G X w σ (pc + 1) lv (.int (x * y) :: st)) : G X w σ pc lv (.int y :: .int x :: st) := by
  obtain ⟨p, l', e, R, s, m, args, below, meth, c, Q, A, E', nL, kc, ks⟩ := X
  intro H locs ls hP hD hS hl
  exact lv_imul C.1.1 C.1.2.1 d (k H locs ls hP hD hS hl)
theorem g_iand {X : Kx} {S : Type} {w : S → va_W} {σ : S} {l : Launch} {E : Ev} {own : String} {cc : ByteArray} {rm : Room} {ret : Option FieldType} {pc : Nat} {lv : List (Option Value)} {st : List Value} (C : Cx X l E own cc rm ret) {x y : Int32} (d : decode cc pc = .ok (.iand, 1)) (k : G X w σ (pc + 1) lv (.int (x &&& y) :: st)) : G X w σ pc lv (.int y :: .int x :: st) := by
  obtain ⟨p, l', e, R, s, m, args, below, meth, c, Q, A, E', nL, kc, ks⟩ := X
  intro H locs ls hP hD hS hl
  exact lv_iand C.1.1 C.1.2.1 d (k H locs ls hP hD hS hl)
theorem g_ishr {X : Kx} {S : Type} {w : S → va_W} {σ : S} {l : Launch} {E : Ev} {own : String} {cc : ByteArray} {rm : Room} {ret : Option FieldType} {pc : Nat} {lv : List (Option Value)} {st : List Value} (C : Cx X l E own cc rm ret) {x y : Int32} (d : decode cc pc = .ok (.ishr, 1)) (k : G X w σ (pc + 1) lv (.int (x >>> (y &&& 31)) :: st)) : G X w σ pc lv (.int y :: .int x :: st) := by
  obtain ⟨p, l', e, R, s, m, args, below, meth, c, Q, A, E', nL, kc, ks⟩ := X
  intro H locs ls hP hD hS hl
  exact lv_ishr C.1.1 C.1.2.1 d (k H locs ls hP hD hS hl)
theorem g_idiv {X : Kx} {S : Type} {w : S → va_W} {σ : S} {l : Launch} {E : Ev} {own : String} {cc : ByteArray} {rm : Room} {ret : Option FieldType} {pc : Nat} {lv : List (Option Value)} {st : List Value} (C : Cx X l E own cc rm ret) {x y : Int32} (hne : ¬ y = 0) (d : decode cc pc = .ok (.idiv, 1)) (k : G X w σ (pc + 1) lv (.int (x / y) :: st)) : G X w σ pc lv (.int y :: .int x :: st) := by
  obtain ⟨p, l', e, R, s, m, args, below, meth, c, Q, A, E', nL, kc, ks⟩ := X
  intro H locs ls hP hD hS hl
  exact lv_idiv C.1.1 C.1.2.1 d hne (k H locs ls hP hD hS hl)
theorem g_irem {X : Kx} {S : Type} {w : S → va_W} {σ : S} {l : Launch} {E : Ev} {own : String} {cc : ByteArray} {rm : Room} {ret : Option FieldType} {pc : Nat} {lv : List (Option Value)} {st : List Value} (C : Cx X l E own cc rm ret) {x y : Int32} (hne : ¬ y = 0) (d : decode cc pc = .ok (.irem, 1)) (k : G X w σ (pc + 1) lv (.int (x - x / y * y) :: st)) : G X w σ pc lv (.int y :: .int x :: st) := by
  obtain ⟨p, l', e, R, s, m, args, below, meth, c, Q, A, E', nL, kc, ks⟩ := X
  intro H locs ls hP hD hS hl
  exact lv_irem C.1.1 C.1.2.1 d hne (k H locs ls hP hD hS hl)
theorem g_iushr {X : Kx} {S : Type} {w : S → va_W} {σ : S} {l : Launch} {E : Ev} {own : String} {cc : ByteArray} {rm : Room} {ret : Option FieldType} {pc : Nat} {lv : List (Option Value)} {st : List Value} (C : Cx X l E own cc rm ret) {x y : Int32} (d : decode cc pc = .ok (.iushr, 1)) (k : G X w σ (pc + 1) lv (.int ((x.toUInt32 >>> (y.toUInt32 &&& Int32.toUInt32 31)).toInt32) :: st)) : G X w σ pc lv (.int y :: .int x :: st) := by
  obtain ⟨p, l', e, R, s, m, args, below, meth, c, Q, A, E', nL, kc, ks⟩ := X
  intro H locs ls hP hD hS hl
  exact lv_iushr C.1.1 C.1.2.1 d rfl (k H locs ls hP hD hS hl)
theorem g_i2b {X : Kx} {S : Type} {w : S → va_W} {σ : S} {l : Launch} {E : Ev} {own : String} {cc : ByteArray} {rm : Room} {ret : Option FieldType} {pc : Nat} {lv : List (Option Value)} {st : List Value} (C : Cx X l E own cc rm ret) {x : Int32} (d : decode cc pc = .ok (.i2b, 1)) (k : G X w σ (pc + 1) lv (.int (x.toInt8.toInt32) :: st)) : G X w σ pc lv (.int x :: st) := by
  obtain ⟨p, l', e, R, s, m, args, below, meth, c, Q, A, E', nL, kc, ks⟩ := X
  intro H locs ls hP hD hS hl
  exact lv_i2b C.1.1 C.1.2.1 d rfl (k H locs ls hP hD hS hl)
theorem g_i2s {X : Kx} {S : Type} {w : S → va_W} {σ : S} {l : Launch} {E : Ev} {own : String} {cc : ByteArray} {rm : Room} {ret : Option FieldType} {pc : Nat} {lv : List (Option Value)} {st : List Value} (C : Cx X l E own cc rm ret) {x : Int32} (d : decode cc pc = .ok (.i2s, 1)) (k : G X w σ (pc + 1) lv (.int (x.toInt16.toInt32) :: st)) : G X w σ pc lv (.int x :: st) := by
  obtain ⟨p, l', e, R, s, m, args, below, meth, c, Q, A, E', nL, kc, ks⟩ := X
  intro H locs ls hP hD hS hl
  exact lv_i2s C.1.1 C.1.2.1 d rfl (k H locs ls hP hD hS hl)
theorem g_dup {X : Kx} {S : Type} {w : S → va_W} {σ : S} {l : Launch} {E : Ev} {own : String} {cc : ByteArray} {rm : Room} {ret : Option FieldType} {pc : Nat} {lv : List (Option Value)} {st : List Value} (C : Cx X l E own cc rm ret) {v : Value} (d : decode cc pc = .ok (.dup, 1)) (hv : v.category = 1) (k : G X w σ (pc + 1) lv (v :: v :: st)) : G X w σ pc lv (v :: st) := by
  obtain ⟨p, l', e, R, s, m, args, below, meth, c, Q, A, E', nL, kc, ks⟩ := X
  intro H locs ls hP hD hS hl
  exact lv_dup C.1.1 C.1.2.1 d hv (k H locs ls hP hD hS hl)
theorem g_dup2 {X : Kx} {S : Type} {w : S → va_W} {σ : S} {l : Launch} {E : Ev} {own : String} {cc : ByteArray} {rm : Room} {ret : Option FieldType} {pc : Nat} {lv : List (Option Value)} {st : List Value} (C : Cx X l E own cc rm ret) {v u : Value} (d : decode cc pc = .ok (.dup2, 1)) (hv : v.category = 1) (hu : u.category = 1) (k : G X w σ (pc + 1) lv (v :: u :: v :: u :: st)) : G X w σ pc lv (v :: u :: st) := by
  obtain ⟨p, l', e, R, s, m, args, below, meth, c, Q, A, E', nL, kc, ks⟩ := X
  intro H locs ls hP hD hS hl
  exact lv_dup2_11 C.1.1 C.1.2.1 d hv hu (k H locs ls hP hD hS hl)
theorem g_pop {X : Kx} {S : Type} {w : S → va_W} {σ : S} {l : Launch} {E : Ev} {own : String} {cc : ByteArray} {rm : Room} {ret : Option FieldType} {pc : Nat} {lv : List (Option Value)} {st : List Value} (C : Cx X l E own cc rm ret) {v : Value} (d : decode cc pc = .ok (.pop, 1)) (hv : v.category = 1) (k : G X w σ (pc + 1) lv st) : G X w σ pc lv (v :: st) := by
  obtain ⟨p, l', e, R, s, m, args, below, meth, c, Q, A, E', nL, kc, ks⟩ := X
  intro H locs ls hP hD hS hl
  exact lv_pop C.1.1 C.1.2.1 d hv (k H locs ls hP hD hS hl)
theorem g_icmp_eq {X : Kx} {S : Type} {w : S → va_W} {σ : S} {l : Launch} {E : Ev} {own : String} {cc : ByteArray} {rm : Room} {ret : Option FieldType} {pc : Nat} {lv : List (Option Value)} {st : List Value} (C : Cx X l E own cc rm ret) {x y : Int32} {off : Int} (tgt : Nat) (d : decode cc pc = .ok (.if_icmp .eq off, 3)) (ht : (pc : Int) + off = (tgt : Int)) (kt : x = y → G X w σ tgt lv st) (kf : ¬ x = y → G X w σ (pc + 3) lv st) : G X w σ pc lv (.int y :: .int x :: st) := by
  obtain ⟨p, l', e, R, s, m, args, below, meth, c, Q, A, E', nL, kc, ks⟩ := X
  intro H locs ls hP hD hS hl
  exact lv_icmp_eq C.1.1 C.1.2.1 d ht (fun q => kt q H locs ls hP hD hS hl) (fun q => kf q H locs ls hP hD hS hl)
theorem g_if_eq {X : Kx} {S : Type} {w : S → va_W} {σ : S} {l : Launch} {E : Ev} {own : String} {cc : ByteArray} {rm : Room} {ret : Option FieldType} {pc : Nat} {lv : List (Option Value)} {st : List Value} (C : Cx X l E own cc rm ret) {x : Int32} {off : Int} (tgt : Nat) (d : decode cc pc = .ok (.ifCond .eq off, 3)) (ht : (pc : Int) + off = (tgt : Int)) (kt : x = 0 → G X w σ tgt lv st) (kf : ¬ x = 0 → G X w σ (pc + 3) lv st) : G X w σ pc lv (.int x :: st) := by
  obtain ⟨p, l', e, R, s, m, args, below, meth, c, Q, A, E', nL, kc, ks⟩ := X
  intro H locs ls hP hD hS hl
  exact lv_if_eq C.1.1 C.1.2.1 d ht (fun q => kt q H locs ls hP hD hS hl) (fun q => kf q H locs ls hP hD hS hl)
theorem g_icmp_ne {X : Kx} {S : Type} {w : S → va_W} {σ : S} {l : Launch} {E : Ev} {own : String} {cc : ByteArray} {rm : Room} {ret : Option FieldType} {pc : Nat} {lv : List (Option Value)} {st : List Value} (C : Cx X l E own cc rm ret) {x y : Int32} {off : Int} (tgt : Nat) (d : decode cc pc = .ok (.if_icmp .ne off, 3)) (ht : (pc : Int) + off = (tgt : Int)) (kt : ¬ x = y → G X w σ tgt lv st) (kf : x = y → G X w σ (pc + 3) lv st) : G X w σ pc lv (.int y :: .int x :: st) := by
  obtain ⟨p, l', e, R, s, m, args, below, meth, c, Q, A, E', nL, kc, ks⟩ := X
  intro H locs ls hP hD hS hl
  exact lv_icmp_ne C.1.1 C.1.2.1 d ht (fun q => kt q H locs ls hP hD hS hl) (fun q => kf q H locs ls hP hD hS hl)
theorem g_if_ne {X : Kx} {S : Type} {w : S → va_W} {σ : S} {l : Launch} {E : Ev} {own : String} {cc : ByteArray} {rm : Room} {ret : Option FieldType} {pc : Nat} {lv : List (Option Value)} {st : List Value} (C : Cx X l E own cc rm ret) {x : Int32} {off : Int} (tgt : Nat) (d : decode cc pc = .ok (.ifCond .ne off, 3)) (ht : (pc : Int) + off = (tgt : Int)) (kt : ¬ x = 0 → G X w σ tgt lv st) (kf : x = 0 → G X w σ (pc + 3) lv st) : G X w σ pc lv (.int x :: st) := by
  obtain ⟨p, l', e, R, s, m, args, below, meth, c, Q, A, E', nL, kc, ks⟩ := X
  intro H locs ls hP hD hS hl
  exact lv_if_ne C.1.1 C.1.2.1 d ht (fun q => kt q H locs ls hP hD hS hl) (fun q => kf q H locs ls hP hD hS hl)
theorem g_icmp_lt {X : Kx} {S : Type} {w : S → va_W} {σ : S} {l : Launch} {E : Ev} {own : String} {cc : ByteArray} {rm : Room} {ret : Option FieldType} {pc : Nat} {lv : List (Option Value)} {st : List Value} (C : Cx X l E own cc rm ret) {x y : Int32} {off : Int} (tgt : Nat) (d : decode cc pc = .ok (.if_icmp .lt off, 3)) (ht : (pc : Int) + off = (tgt : Int)) (kt : x < y → G X w σ tgt lv st) (kf : ¬ x < y → G X w σ (pc + 3) lv st) : G X w σ pc lv (.int y :: .int x :: st) := by
  obtain ⟨p, l', e, R, s, m, args, below, meth, c, Q, A, E', nL, kc, ks⟩ := X
  intro H locs ls hP hD hS hl
  exact lv_icmp_lt C.1.1 C.1.2.1 d ht (fun q => kt q H locs ls hP hD hS hl) (fun q => kf q H locs ls hP hD hS hl)
theorem g_if_lt {X : Kx} {S : Type} {w : S → va_W} {σ : S} {l : Launch} {E : Ev} {own : String} {cc : ByteArray} {rm : Room} {ret : Option FieldType} {pc : Nat} {lv : List (Option Value)} {st : List Value} (C : Cx X l E own cc rm ret) {x : Int32} {off : Int} (tgt : Nat) (d : decode cc pc = .ok (.ifCond .lt off, 3)) (ht : (pc : Int) + off = (tgt : Int)) (kt : x < 0 → G X w σ tgt lv st) (kf : ¬ x < 0 → G X w σ (pc + 3) lv st) : G X w σ pc lv (.int x :: st) := by
  obtain ⟨p, l', e, R, s, m, args, below, meth, c, Q, A, E', nL, kc, ks⟩ := X
  intro H locs ls hP hD hS hl
  exact lv_if_lt C.1.1 C.1.2.1 d ht (fun q => kt q H locs ls hP hD hS hl) (fun q => kf q H locs ls hP hD hS hl)
theorem g_icmp_ge {X : Kx} {S : Type} {w : S → va_W} {σ : S} {l : Launch} {E : Ev} {own : String} {cc : ByteArray} {rm : Room} {ret : Option FieldType} {pc : Nat} {lv : List (Option Value)} {st : List Value} (C : Cx X l E own cc rm ret) {x y : Int32} {off : Int} (tgt : Nat) (d : decode cc pc = .ok (.if_icmp .ge off, 3)) (ht : (pc : Int) + off = (tgt : Int)) (kt : y ≤ x → G X w σ tgt lv st) (kf : ¬ y ≤ x → G X w σ (pc + 3) lv st) : G X w σ pc lv (.int y :: .int x :: st) := by
  obtain ⟨p, l', e, R, s, m, args, below, meth, c, Q, A, E', nL, kc, ks⟩ := X
  intro H locs ls hP hD hS hl
  exact lv_icmp_ge C.1.1 C.1.2.1 d ht (fun q => kt q H locs ls hP hD hS hl) (fun q => kf q H locs ls hP hD hS hl)
theorem g_if_ge {X : Kx} {S : Type} {w : S → va_W} {σ : S} {l : Launch} {E : Ev} {own : String} {cc : ByteArray} {rm : Room} {ret : Option FieldType} {pc : Nat} {lv : List (Option Value)} {st : List Value} (C : Cx X l E own cc rm ret) {x : Int32} {off : Int} (tgt : Nat) (d : decode cc pc = .ok (.ifCond .ge off, 3)) (ht : (pc : Int) + off = (tgt : Int)) (kt : 0 ≤ x → G X w σ tgt lv st) (kf : ¬ 0 ≤ x → G X w σ (pc + 3) lv st) : G X w σ pc lv (.int x :: st) := by
  obtain ⟨p, l', e, R, s, m, args, below, meth, c, Q, A, E', nL, kc, ks⟩ := X
  intro H locs ls hP hD hS hl
  exact lv_if_ge C.1.1 C.1.2.1 d ht (fun q => kt q H locs ls hP hD hS hl) (fun q => kf q H locs ls hP hD hS hl)
theorem g_icmp_gt {X : Kx} {S : Type} {w : S → va_W} {σ : S} {l : Launch} {E : Ev} {own : String} {cc : ByteArray} {rm : Room} {ret : Option FieldType} {pc : Nat} {lv : List (Option Value)} {st : List Value} (C : Cx X l E own cc rm ret) {x y : Int32} {off : Int} (tgt : Nat) (d : decode cc pc = .ok (.if_icmp .gt off, 3)) (ht : (pc : Int) + off = (tgt : Int)) (kt : y < x → G X w σ tgt lv st) (kf : ¬ y < x → G X w σ (pc + 3) lv st) : G X w σ pc lv (.int y :: .int x :: st) := by
  obtain ⟨p, l', e, R, s, m, args, below, meth, c, Q, A, E', nL, kc, ks⟩ := X
  intro H locs ls hP hD hS hl
  exact lv_icmp_gt C.1.1 C.1.2.1 d ht (fun q => kt q H locs ls hP hD hS hl) (fun q => kf q H locs ls hP hD hS hl)
theorem g_if_gt {X : Kx} {S : Type} {w : S → va_W} {σ : S} {l : Launch} {E : Ev} {own : String} {cc : ByteArray} {rm : Room} {ret : Option FieldType} {pc : Nat} {lv : List (Option Value)} {st : List Value} (C : Cx X l E own cc rm ret) {x : Int32} {off : Int} (tgt : Nat) (d : decode cc pc = .ok (.ifCond .gt off, 3)) (ht : (pc : Int) + off = (tgt : Int)) (kt : 0 < x → G X w σ tgt lv st) (kf : ¬ 0 < x → G X w σ (pc + 3) lv st) : G X w σ pc lv (.int x :: st) := by
  obtain ⟨p, l', e, R, s, m, args, below, meth, c, Q, A, E', nL, kc, ks⟩ := X
  intro H locs ls hP hD hS hl
  exact lv_if_gt C.1.1 C.1.2.1 d ht (fun q => kt q H locs ls hP hD hS hl) (fun q => kf q H locs ls hP hD hS hl)
theorem g_icmp_le {X : Kx} {S : Type} {w : S → va_W} {σ : S} {l : Launch} {E : Ev} {own : String} {cc : ByteArray} {rm : Room} {ret : Option FieldType} {pc : Nat} {lv : List (Option Value)} {st : List Value} (C : Cx X l E own cc rm ret) {x y : Int32} {off : Int} (tgt : Nat) (d : decode cc pc = .ok (.if_icmp .le off, 3)) (ht : (pc : Int) + off = (tgt : Int)) (kt : x ≤ y → G X w σ tgt lv st) (kf : ¬ x ≤ y → G X w σ (pc + 3) lv st) : G X w σ pc lv (.int y :: .int x :: st) := by
  obtain ⟨p, l', e, R, s, m, args, below, meth, c, Q, A, E', nL, kc, ks⟩ := X
  intro H locs ls hP hD hS hl
  exact lv_icmp_le C.1.1 C.1.2.1 d ht (fun q => kt q H locs ls hP hD hS hl) (fun q => kf q H locs ls hP hD hS hl)
theorem g_if_le {X : Kx} {S : Type} {w : S → va_W} {σ : S} {l : Launch} {E : Ev} {own : String} {cc : ByteArray} {rm : Room} {ret : Option FieldType} {pc : Nat} {lv : List (Option Value)} {st : List Value} (C : Cx X l E own cc rm ret) {x : Int32} {off : Int} (tgt : Nat) (d : decode cc pc = .ok (.ifCond .le off, 3)) (ht : (pc : Int) + off = (tgt : Int)) (kt : x ≤ 0 → G X w σ tgt lv st) (kf : ¬ x ≤ 0 → G X w σ (pc + 3) lv st) : G X w σ pc lv (.int x :: st) := by
  obtain ⟨p, l', e, R, s, m, args, below, meth, c, Q, A, E', nL, kc, ks⟩ := X
  intro H locs ls hP hD hS hl
  exact lv_if_le C.1.1 C.1.2.1 d ht (fun q => kt q H locs ls hP hD hS hl) (fun q => kf q H locs ls hP hD hS hl)
theorem g_goto {X : Kx} {S : Type} {w : S → va_W} {σ : S} {l : Launch} {E : Ev} {own : String} {cc : ByteArray} {rm : Room} {ret : Option FieldType} {pc : Nat} {lv : List (Option Value)} {st : List Value} (C : Cx X l E own cc rm ret) {off : Int} (tgt : Nat) (d : decode cc pc = .ok (.goto off, 3)) (ht : (pc : Int) + off = (tgt : Int)) (k : G X w σ tgt lv st) : G X w σ pc lv st := by
  obtain ⟨p, l', e, R, s, m, args, below, meth, c, Q, A, E', nL, kc, ks⟩ := X
  intro H locs ls hP hD hS hl
  exact lv_goto C.1.1 C.1.2.1 d ht (k H locs ls hP hD hS hl)
theorem g_tabIn {X : Kx} {S : Type} {w : S → va_W} {σ : S} {l : Launch} {E : Ev} {own : String} {cc : ByteArray} {rm : Room} {ret : Option FieldType} {pc : Nat} {lv : List (Option Value)} {st : List Value} (C : Cx X l E own cc rm ret) {x : Int32} {dflt lo hi off : Int} {offs : Array Int} {len : Nat} (tgt : Nat) (v : Int32) (hx : x = v) (d : decode cc pc = .ok (.tableswitch dflt lo hi offs, len)) (h1 : ¬ v.toInt < lo) (h2 : ¬ hi < v.toInt) (ho : offs[(v.toInt - lo).toNat]? = some off) (ht : (pc : Int) + off = (tgt : Int)) (k : G X w σ tgt lv st) : G X w σ pc lv (.int x :: st) := by
  obtain ⟨p, l', e, R, s, m, args, below, meth, c, Q, A, E', nL, kc, ks⟩ := X
  intro H locs ls hP hD hS hl
  subst hx
  exact lv_tableIn C.1.1 C.1.2.1 d h1 h2 ho ht (k H locs ls hP hD hS hl)
theorem g_tabOut {X : Kx} {S : Type} {w : S → va_W} {σ : S} {l : Launch} {E : Ev} {own : String} {cc : ByteArray} {rm : Room} {ret : Option FieldType} {pc : Nat} {lv : List (Option Value)} {st : List Value} (C : Cx X l E own cc rm ret) {x : Int32} {dflt lo hi : Int} {offs : Array Int} {len : Nat} (tgt : Nat) (h : x.toInt < lo ∨ hi < x.toInt) (d : decode cc pc = .ok (.tableswitch dflt lo hi offs, len)) (ht : (pc : Int) + dflt = (tgt : Int)) (k : G X w σ tgt lv st) : G X w σ pc lv (.int x :: st) := by
  obtain ⟨p, l', e, R, s, m, args, below, meth, c, Q, A, E', nL, kc, ks⟩ := X
  intro H locs ls hP hD hS hl
  exact lv_tableOut C.1.1 C.1.2.1 d h ht (k H locs ls hP hD hS hl)
theorem nar_z {v : Int32} (h : v = 0 ∨ v = 1) : narrow .boolean (.int v) = .int v := by
  rcases h with rfl | rfl <;> rfl
theorem g_ireturn {X : Kx} {S : Type} {w : S → va_W} {σ : S} {l : Launch} {E : Ev} {own : String} {cc : ByteArray} {rm : Room} {pc : Nat} {lv : List (Option Value)} {post : Int32 → S → Prop} {v : Int32} (C : Cx X l E own cc rm (some .int)) (hQ : QI X w post) (d : decode cc pc = .ok (.ireturn, 1)) (h : post v σ) : G X w σ pc lv [.int v] := by
  obtain ⟨p, l', e, R, s, m, args, below, meth, c, Q, A, E', nL, kc, ks⟩ := X
  intro H locs ls hP hD hS hl
  have hq : Q = _ := hQ
  subst hq
  exact W.iret C.1.1 C.1.2.1 C.2.2.2.2.2.1 (fun t ht _ => ⟨⟨v, σ, rfl, h, by rw [ht]; exact hP, hD⟩, hS.F ht⟩) hS.2.2 d C.2.2.2.1
theorem g_zreturn {X : Kx} {S : Type} {w : S → va_W} {σ : S} {l : Launch} {E : Ev} {own : String} {cc : ByteArray} {rm : Room} {pc : Nat} {lv : List (Option Value)} {post : Int32 → S → Prop} {v : Int32} (C : Cx X l E own cc rm (some .boolean)) (hQ : QI X w post) (d : decode cc pc = .ok (.ireturn, 1)) (hz : v = 0 ∨ v = 1) (h : post v σ) : G X w σ pc lv [.int v] := by
  obtain ⟨p, l', e, R, s, m, args, below, meth, c, Q, A, E', nL, kc, ks⟩ := X
  intro H locs ls hP hD hS hl
  have hq : Q = _ := hQ
  subst hq
  exact W.zret C.1.1 C.1.2.1 C.2.2.2.2.2.1 (nar_z hz) (fun t ht _ => ⟨⟨v, σ, rfl, h, by rw [ht]; exact hP, hD⟩, hS.F ht⟩) hS.2.2 d C.2.2.2.1
theorem g_return {X : Kx} {S : Type} {w : S → va_W} {σ : S} {l : Launch} {E : Ev} {own : String} {cc : ByteArray} {rm : Room} {pc : Nat} {lv : List (Option Value)} {post : S → Prop} (C : Cx X l E own cc rm none) (hQ : QV X w post) (d : decode cc pc = .ok (.return_, 1)) (h : post σ) : G X w σ pc lv [] := by
  obtain ⟨p, l', e, R, s, m, args, below, meth, c, Q, A, E', nL, kc, ks⟩ := X
  intro H locs ls hP hD hS hl
  have hq : Q = _ := hQ
  subst hq
  exact W.vret C.1.1 C.1.2.1 C.2.2.2.2.2.1 (fun t ht _ => ⟨⟨σ, rfl, h, by rw [ht]; exact hP, hD⟩, hS.F ht⟩) hS.2.2 d C.2.2.2.1
theorem g_get {X : Kx} {S : Type} {w : S → va_W} {σ : S} {l : Launch} {E : Ev} {own : String} {cc : ByteArray} {rm : Room} {ret : Option FieldType} {pc : Nat} {lv : List (Option Value)} {st : List Value} (C : Cx X l E own cc rm ret) {q0 ci N k idx a0 : Nat} {fs : List Value} {v : Value} {T : u_T} {Cn : String} (he : (w σ)[q0]? = some (a0, .inr (ci, fs))) (hc : vwCl[ci]? = some (Cn, T, N)) (hin : ∀ x ∈ u_ws Cn T N, x ∈ UW) (hk : k < N) (hlink : Cond.fieldLink own idx (T k).1 (T k).2.1 (T k).2.2.1 ∈ UW) (hv : fs[k]? = some v) (d : decode cc pc = .ok (.getfield idx, 3)) (k' : G X w σ (pc + 3) lv (v :: st)) : G X w σ pc lv (.ref a0 :: st) := by
  obtain ⟨p, l', e, R, s, m, args, below, meth, c, Q, A, E', nL, kc, ks⟩ := X
  intro H locs ls hP hD hS hl
  exact va_get C.1.1 C.1.2.1 C.1.2.2.2.2 hin C.1.2.2.2.1 C.2.1.1 hP q0 he hc k hk (C.1.2.2.2.2 _ hlink) (fun _ h9 => h9) hv d (k' H locs ls hP hD hS hl)
theorem g_getN {X : Kx} {S : Type} {w : S → va_W} {σ : S} {l : Launch} {E : Ev} {own : String} {cc : ByteArray} {rm : Room} {ret : Option FieldType} {pc : Nat} {lv : List (Option Value)} {st : List Value} (C : Cx X l E own cc rm ret) {q0 ci N k idx a0 : Nat} {fs : List Value} {v : Value} {T : u_T} {Cn : String} (he : (w σ)[q0]? = some (a0, .inr (ci, fs))) (hc : vwCl[ci]? = some (Cn, T, N)) (hin : ∀ x ∈ u_ws Cn T N, x ∈ UW) (hk : k < N) {host : String} (hlink : Cond.fieldLinkNest own idx (T k).1 (T k).2.1 (T k).2.2.1 host ∈ NW) (hv : fs[k]? = some v) (d : decode cc pc = .ok (.getfield idx, 3)) (k' : G X w σ (pc + 3) lv (v :: st)) : G X w σ pc lv (.ref a0 :: st) := by
  obtain ⟨p, l', e, R, s, m, args, below, meth, c, Q, A, E', nL, kc, ks⟩ := X
  intro H locs ls hP hD hS hl
  exact va_getN C.1.1 C.1.2.1 C.1.2.2.2.2 hin C.1.2.2.2.1 C.2.1.1 hP q0 he hc k hk (va_Nw.use rfl (C.2.1.2.1 _ hlink)) (fun _ h9 => h9) hv d (k' H locs ls hP hD hS hl)
theorem g_put {X : Kx} {S : Type} {w : S → va_W} {σ : S} {l : Launch} {E : Ev} {own : String} {cc : ByteArray} {rm : Room} {ret : Option FieldType} {pc : Nat} {lv : List (Option Value)} {st : List Value} (C : Cx X l E own cc rm ret) {q0 ci N k idx a0 : Nat} {fs : List Value} {v : Value} {T : u_T} {Cn : String} (he : (w σ)[q0]? = some (a0, .inr (ci, fs))) (hc : vwCl[ci]? = some (Cn, T, N)) (hin : ∀ x ∈ u_ws Cn T N, x ∈ UW) (hk : k < N) {σ' : S} {ty0 : Nat → FieldType} (hty : ∀ k, k < N → parseFieldDescriptor (T k).2.2.1 = some (ty0 k)) (hnm : ∀ a, a < N → ∀ b, b < N → a ≠ b → (T a).2.1 ≠ (T b).2.1) (hlink : Cond.fieldLink own idx (T k).1 (T k).2.1 (T k).2.2.1 ∈ UW) (hfin : (T k).2.2.2 = false) (hn : narrow (ty0 k) v = v) (hfit : fits (ty0 k) v = true) (hl0 : k < fs.length) (hw : (w σ).set q0 (a0, .inr (ci, fs.set k v)) = w σ') (d : decode cc pc = .ok (.putfield idx, 3)) (k' : G X w σ' (pc + 3) lv st) : G X w σ pc lv (v :: .ref a0 :: st) := by
  obtain ⟨p, l', e, R, s, m, args, below, meth, c, Q, A, E', nL, kc, ks⟩ := X
  intro H locs ls hP hD hS hl
  exact va_put C.1.1 C.1.2.1 C.1.2.2.2.2 hin ty0 hty hnm C.1.2.2.2.1 C.2.1.1 hP hD hS q0 he hc k hk (C.1.2.2.2.2 _ hlink) (fun _ h9 => h9) hfin (hty k hk) hn hfit hl0 d (fun H1 locs1 hP1 hD1 hS1 => k' H1 locs1 ls (hw ▸ hP1) (hw ▸ hD1) hS1 hl)
theorem g_putN {X : Kx} {S : Type} {w : S → va_W} {σ : S} {l : Launch} {E : Ev} {own : String} {cc : ByteArray} {rm : Room} {ret : Option FieldType} {pc : Nat} {lv : List (Option Value)} {st : List Value} (C : Cx X l E own cc rm ret) {q0 ci N k idx a0 : Nat} {fs : List Value} {v : Value} {T : u_T} {Cn : String} (he : (w σ)[q0]? = some (a0, .inr (ci, fs))) (hc : vwCl[ci]? = some (Cn, T, N)) (hin : ∀ x ∈ u_ws Cn T N, x ∈ UW) (hk : k < N) {σ' : S} {ty0 : Nat → FieldType} (hty : ∀ k, k < N → parseFieldDescriptor (T k).2.2.1 = some (ty0 k)) (hnm : ∀ a, a < N → ∀ b, b < N → a ≠ b → (T a).2.1 ≠ (T b).2.1) {host : String} (hlink : Cond.fieldLinkNest own idx (T k).1 (T k).2.1 (T k).2.2.1 host ∈ NW) (hfin : (T k).2.2.2 = false) (hn : narrow (ty0 k) v = v) (hfit : fits (ty0 k) v = true) (hl0 : k < fs.length) (hw : (w σ).set q0 (a0, .inr (ci, fs.set k v)) = w σ') (d : decode cc pc = .ok (.putfield idx, 3)) (k' : G X w σ' (pc + 3) lv st) : G X w σ pc lv (v :: .ref a0 :: st) := by
  obtain ⟨p, l', e, R, s, m, args, below, meth, c, Q, A, E', nL, kc, ks⟩ := X
  intro H locs ls hP hD hS hl
  exact va_putN C.1.1 C.1.2.1 C.1.2.2.2.2 hin ty0 hty hnm C.1.2.2.2.1 C.2.1.1 hP hD hS q0 he hc k hk (va_Nw.use rfl (C.2.1.2.1 _ hlink)) (fun _ h9 => h9) hfin (hty k hk) hn hfit hl0 d (fun H1 locs1 hP1 hD1 hS1 => k' H1 locs1 ls (hw ▸ hP1) (hw ▸ hD1) hS1 hl)
theorem g_iald {X : Kx} {S : Type} {w : S → va_W} {σ : S} {l : Launch} {E : Ev} {own : String} {cc : ByteArray} {rm : Room} {ret : Option FieldType} {pc : Nat} {lv : List (Option Value)} {st : List Value} (C : Cx X l E own cc rm ret) {q0 a0 n : Nat} {f : Nat → Int32} {i : Int32} (he : (w σ)[q0]? = some (a0, .inl (E.2.1 0, n, .inl f))) (hin : vp_in i n) (d : decode cc pc = .ok (.iaload, 1)) (k : G X w σ (pc + 1) lv (.int (f i.toNatClampNeg) :: st)) : G X w σ pc lv (.int i :: .ref a0 :: st) := by
  obtain ⟨p, l', e, R, s, m, args, below, meth, c, Q, A, E', nL, kc, ks⟩ := X
  intro H locs ls hP hD hS hl
  have hE : E' = E := C.2.2.2.2.2.2.2.1
  subst hE
  exact va_iald C.1.1 C.1.2.1 C.2.1.1 hP q0 0 he rfl hin d (k H locs ls hP hD hS hl)
theorem g_bald {X : Kx} {S : Type} {w : S → va_W} {σ : S} {l : Launch} {E : Ev} {own : String} {cc : ByteArray} {rm : Room} {ret : Option FieldType} {pc : Nat} {lv : List (Option Value)} {st : List Value} (C : Cx X l E own cc rm ret) {q0 a0 n : Nat} {f : Nat → Int32} {i : Int32} (he : (w σ)[q0]? = some (a0, .inl (E.2.1 1, n, .inl f))) (hin : vp_in i n) (d : decode cc pc = .ok (.baload, 1)) (k : G X w σ (pc + 1) lv (.int (f i.toNatClampNeg) :: st)) : G X w σ pc lv (.int i :: .ref a0 :: st) := by
  obtain ⟨p, l', e, R, s, m, args, below, meth, c, Q, A, E', nL, kc, ks⟩ := X
  intro H locs ls hP hD hS hl
  have hE : E' = E := C.2.2.2.2.2.2.2.1
  subst hE
  exact va_bald C.1.1 C.1.2.1 C.2.1.1 hP q0 1 he rfl hin d (k H locs ls hP hD hS hl)
theorem g_zald {X : Kx} {S : Type} {w : S → va_W} {σ : S} {l : Launch} {E : Ev} {own : String} {cc : ByteArray} {rm : Room} {ret : Option FieldType} {pc : Nat} {lv : List (Option Value)} {st : List Value} (C : Cx X l E own cc rm ret) {q0 a0 n : Nat} {f : Nat → Int32} {i : Int32} (he : (w σ)[q0]? = some (a0, .inl (E.2.1 2, n, .inl f))) (hin : vp_in i n) (d : decode cc pc = .ok (.baload, 1)) (k : G X w σ (pc + 1) lv (.int (f i.toNatClampNeg) :: st)) : G X w σ pc lv (.int i :: .ref a0 :: st) := by
  obtain ⟨p, l', e, R, s, m, args, below, meth, c, Q, A, E', nL, kc, ks⟩ := X
  intro H locs ls hP hD hS hl
  have hE : E' = E := C.2.2.2.2.2.2.2.1
  subst hE
  exact va_zald C.1.1 C.1.2.1 C.2.1.1 hP q0 2 he rfl hin d (k H locs ls hP hD hS hl)
theorem g_iast {X : Kx} {S : Type} {w : S → va_W} {σ : S} {l : Launch} {E : Ev} {own : String} {cc : ByteArray} {rm : Room} {ret : Option FieldType} {pc : Nat} {lv : List (Option Value)} {st : List Value} (C : Cx X l E own cc rm ret) {q0 a0 n : Nat} {f : Nat → Int32} {i x : Int32} {σ' : S} (he : (w σ)[q0]? = some (a0, .inl (E.2.1 0, n, .inl f))) (hw : (w σ).set q0 (a0, .inl (E.2.1 0, n, .inl (upd f i.toNatClampNeg x))) = w σ') (hin : vp_in i n) (d : decode cc pc = .ok (.iastore, 1)) (k : G X w σ' (pc + 1) lv st) : G X w σ pc lv (.int x :: .int i :: .ref a0 :: st) := by
  obtain ⟨p, l', e, R, s, m, args, below, meth, c, Q, A, E', nL, kc, ks⟩ := X
  intro H locs ls hP hD hS hl
  have hE : E' = E := C.2.2.2.2.2.2.2.1
  subst hE
  exact va_iast C.1.1 C.1.2.1 C.2.1.1 hP hD hS q0 0 he rfl hin d (fun H1 locs1 hP1 hD1 hS1 => k H1 locs1 ls (hw ▸ hP1) (hw ▸ hD1) hS1 hl)
theorem g_bast {X : Kx} {S : Type} {w : S → va_W} {σ : S} {l : Launch} {E : Ev} {own : String} {cc : ByteArray} {rm : Room} {ret : Option FieldType} {pc : Nat} {lv : List (Option Value)} {st : List Value} (C : Cx X l E own cc rm ret) {q0 a0 n : Nat} {f : Nat → Int32} {i x : Int32} {σ' : S} (he : (w σ)[q0]? = some (a0, .inl (E.2.1 1, n, .inl f))) (hw : (w σ).set q0 (a0, .inl (E.2.1 1, n, .inl (upd f i.toNatClampNeg (vp_nar .byte x)))) = w σ') (hin : vp_in i n) (d : decode cc pc = .ok (.bastore, 1)) (k : G X w σ' (pc + 1) lv st) : G X w σ pc lv (.int x :: .int i :: .ref a0 :: st) := by
  obtain ⟨p, l', e, R, s, m, args, below, meth, c, Q, A, E', nL, kc, ks⟩ := X
  intro H locs ls hP hD hS hl
  have hE : E' = E := C.2.2.2.2.2.2.2.1
  subst hE
  exact va_bast C.1.1 C.1.2.1 C.2.1.1 hP hD hS q0 1 he rfl hin d (fun H1 locs1 hP1 hD1 hS1 => k H1 locs1 ls (hw ▸ hP1) (hw ▸ hD1) hS1 hl)
theorem g_zast {X : Kx} {S : Type} {w : S → va_W} {σ : S} {l : Launch} {E : Ev} {own : String} {cc : ByteArray} {rm : Room} {ret : Option FieldType} {pc : Nat} {lv : List (Option Value)} {st : List Value} (C : Cx X l E own cc rm ret) {q0 a0 n : Nat} {f : Nat → Int32} {i x : Int32} {σ' : S} (he : (w σ)[q0]? = some (a0, .inl (E.2.1 2, n, .inl f))) (hw : (w σ).set q0 (a0, .inl (E.2.1 2, n, .inl (upd f i.toNatClampNeg (vp_nar .boolean x)))) = w σ') (hin : vp_in i n) (d : decode cc pc = .ok (.bastore, 1)) (k : G X w σ' (pc + 1) lv st) : G X w σ pc lv (.int x :: .int i :: .ref a0 :: st) := by
  obtain ⟨p, l', e, R, s, m, args, below, meth, c, Q, A, E', nL, kc, ks⟩ := X
  intro H locs ls hP hD hS hl
  have hE : E' = E := C.2.2.2.2.2.2.2.1
  subst hE
  exact va_zast C.1.1 C.1.2.1 C.2.1.1 hP hD hS q0 2 he rfl hin d (fun H1 locs1 hP1 hD1 hS1 => k H1 locs1 ls (hw ▸ hP1) (hw ▸ hD1) hS1 hl)
theorem g_mmax {X : Kx} {S : Type} {w : S → va_W} {σ : S} {l : Launch} {E : Ev} {own : String} {cc : ByteArray} {rm : Room} {ret : Option FieldType} {pc : Nat} {lv : List (Option Value)} {st : List Value} (C : Cx X l E own cc rm ret) {idx : Nat} {x y : Int32} (h1 : Cond.methodLink own idx Lib.Math.max.name ∈ UW) (h2 : Cond.static Lib.Math.max.name ∈ UW) (h3 : Cond.initialized "java/lang/Math" ∈ UW) (h4 : Cond.code Lib.Math.max.name Lib.Math.max.code 2 (some .int) ∈ UW) (hR : 1 ≤ rm.frames ∧ (st.map fun v => v.category).sum + 13 ≤ rm.locals) (d : decode cc pc = .ok (.invokestatic idx, 3)) (k : G X w σ (pc + 3) lv (.int (if x < y then y else x) :: st)) : G X w σ pc lv (.int y :: .int x :: st) := by
  obtain ⟨p, l', e, R, s, m, args, below, meth, c, Q, A, E', nL, kc, ks⟩ := X
  intro H locs ls hP hD hS hl
  have hR' : R = rm := C.2.2.2.2.1
  subst hR'
  exact va_mmax C.1.1 C.1.2.1 (C.1.2.2.1.trans hl.1.symm) C.1.2.2.2.1 (C.1.2.2.2.2 _ h1) (C.1.2.2.2.2 _ h2) (C.1.2.2.2.2 _ h3) (C.1.2.2.2.2 _ h4) hR.1 hR.2 C.2.2.2.2.2.2.2.2.1 C.2.2.2.2.2.2.2.2.2 d (k H locs ls hP hD hS hl)
theorem g_mmin {X : Kx} {S : Type} {w : S → va_W} {σ : S} {l : Launch} {E : Ev} {own : String} {cc : ByteArray} {rm : Room} {ret : Option FieldType} {pc : Nat} {lv : List (Option Value)} {st : List Value} (C : Cx X l E own cc rm ret) {idx : Nat} {x y : Int32} (h1 : Cond.methodLink own idx Lib.Math.min.name ∈ UW) (h2 : Cond.static Lib.Math.min.name ∈ UW) (h3 : Cond.initialized "java/lang/Math" ∈ UW) (h4 : Cond.code Lib.Math.min.name Lib.Math.min.code 2 (some .int) ∈ UW) (hR : 1 ≤ rm.frames ∧ (st.map fun v => v.category).sum + 13 ≤ rm.locals) (d : decode cc pc = .ok (.invokestatic idx, 3)) (k : G X w σ (pc + 3) lv (.int (if y < x then y else x) :: st)) : G X w σ pc lv (.int y :: .int x :: st) := by
  obtain ⟨p, l', e, R, s, m, args, below, meth, c, Q, A, E', nL, kc, ks⟩ := X
  intro H locs ls hP hD hS hl
  have hR' : R = rm := C.2.2.2.2.1
  subst hR'
  exact va_mmin C.1.1 C.1.2.1 (C.1.2.2.1.trans hl.1.symm) C.1.2.2.2.1 (C.1.2.2.2.2 _ h1) (C.1.2.2.2.2 _ h2) (C.1.2.2.2.2 _ h3) (C.1.2.2.2.2 _ h4) hR.1 hR.2 C.2.2.2.2.2.2.2.2.1 C.2.2.2.2.2.2.2.2.2 d (k H locs ls hP hD hS hl)
theorem g_mabs {X : Kx} {S : Type} {w : S → va_W} {σ : S} {l : Launch} {E : Ev} {own : String} {cc : ByteArray} {rm : Room} {ret : Option FieldType} {pc : Nat} {lv : List (Option Value)} {st : List Value} (C : Cx X l E own cc rm ret) {idx : Nat} {x : Int32} (h1 : Cond.methodLink own idx Lib.Math.abs.name ∈ UW) (h2 : Cond.static Lib.Math.abs.name ∈ UW) (h3 : Cond.initialized "java/lang/Math" ∈ UW) (h4 : Cond.code Lib.Math.abs.name Lib.Math.abs.code 1 (some .int) ∈ UW) (hR : 1 ≤ rm.frames ∧ (st.map fun v => v.category).sum + 13 ≤ rm.locals) (d : decode cc pc = .ok (.invokestatic idx, 3)) (k : G X w σ (pc + 3) lv (.int (if 0 ≤ x then x else 0 - x) :: st)) : G X w σ pc lv (.int x :: st) := by
  obtain ⟨p, l', e, R, s, m, args, below, meth, c, Q, A, E', nL, kc, ks⟩ := X
  intro H locs ls hP hD hS hl
  have hR' : R = rm := C.2.2.2.2.1
  subst hR'
  exact va_mabs C.1.1 C.1.2.1 (C.1.2.2.1.trans hl.1.symm) C.1.2.2.2.1 (C.1.2.2.2.2 _ h1) (C.1.2.2.2.2 _ h2) (C.1.2.2.2.2 _ h3) (C.1.2.2.2.2 _ h4) hR.1 hR.2 C.2.2.2.2.2.2.2.2.1 C.2.2.2.2.2.2.2.2.2 d (k H locs ls hP hD hS hl)
theorem g_callVi {X : Kx} {S : Type} {w : S → va_W} {σ : S} {l : Launch} {E : Ev} {own : String} {cc : ByteArray} {rm : Room} {ret : Option FieldType} {pc : Nat} {lv : List (Option Value)} {st : List Value} (C : Cx X l E own cc rm ret) {y : MethodName} {bytes : ByteArray} {nL' idx : Nat} (n : Nat) {rm' : Room} {As rest : List Value} {post : Int32 → S → Prop} {rt : FieldType} {b q0 ci N : Nat} {fs : List Value} {T : u_T} {Cn : String} (h1 : Cond.methodLink own idx y ∈ UW) (h2 : Cond.instanceMethod y ∈ UW) (h3 : Cond.selects Cn y y ∈ UW) (h4 : Cond.initialized Cn ∈ UW) (h5 : Cond.code y bytes nL' (some rt) ∈ UW) (hd : y.cls = Cn ∧ y.cls ≠ "java/lang/invoke/MethodHandle" ∧ y.cls ≠ "java/lang/invoke/VarHandle" ∧ (parseMethodDescriptor y.desc).map (fun d => d.parameters.length) = some n) (he : (w σ)[q0]? = some (b, .inr (ci, fs))) (hc : vwCl[ci]? = some (Cn, T, N)) (hM : CI l E w y bytes nL' rt rm' (.ref b :: As) σ post) (hz : rm'.cells = 0 ∧ rm'.slots = 0) (hR : rm'.frames + 1 ≤ rm.frames ∧ 8 + (nL' + 11) + rm'.locals ≤ rm.locals) (hn : As.length = n) (hst : st = As.reverse ++ .ref b :: rest) (hW : (rest.map fun v => v.category).sum ≤ 8) (d : decode cc pc = .ok (.invokevirtual idx, 3)) (k : ∀ (r : Int32) (u : S), post r u → G X w u (pc + 3) lv (.int r :: rest)) : G X w σ pc lv st := by
  obtain ⟨p, l', e, R, s, m, args, below, meth, c, Q, A, E', nL, kc, ks⟩ := X
  intro H locs ls hP hD hS hl
  have hR' : R = rm := C.2.2.2.2.1
  have hl' : l' = l := C.2.2.2.2.2.2.1
  have hE : E' = E := C.2.2.2.2.2.2.2.1
  subst hR'
  subst hl'
  subst hE
  have hFr : ∀ q, va_A (w σ) H.size q → A q := fun q h => h.elim (fun ⟨k9, e9, h9⟩ => hD.2 k9 _ h9) (fun h9 => C.2.2.1 q (Nat.le_trans hS.1 h9))
  subst hst
  exact va_calli (va_runV (As := As) (rest := rest) C.1 (hM H.size) (cwV n C.1.2.2.2.2 (wsV_gi h1 h2 h3 h4 h5) rfl hz.1 hz.2 hd hR) ⟨preW.blind, va_recv C.2.1.1 hP hc he, fun U hU hW9 => ⟨rfl, by rw [hU], by rw [hU]; exact hP, hD.weaken (fun _ _ _ _ => trivial), Fx.call C.2.1 hS hFr hW9 hU⟩⟩ rfl hn hl.1 rfl (lv_room hW) d ⟨C.2.2.2.2.2.2.2.2.1, C.2.2.2.2.2.2.2.2.2⟩) hS (fun q _ h => hFr q h) hFr (fun r u t H1 locs1 ht hvm hp hB hz1 hk1 hS1 => k r u hp H1 locs1 ls (ht ▸ hB.1) (hB.2.weaken (fun _ _ _ h => hFr _ h)) hS1 hl)
theorem g_callSi {X : Kx} {S : Type} {w : S → va_W} {σ : S} {l : Launch} {E : Ev} {own : String} {cc : ByteArray} {rm : Room} {ret : Option FieldType} {pc : Nat} {lv : List (Option Value)} {st : List Value} (C : Cx X l E own cc rm ret) {y : MethodName} {bytes : ByteArray} {nL' idx : Nat} (n : Nat) {rm' : Room} {As rest : List Value} {post : Int32 → S → Prop} {rt : FieldType} (h1 : Cond.methodLink own idx y ∈ UW) (h2 : Cond.static y ∈ UW) (h4 : Cond.initialized y.cls ∈ UW) (h5 : Cond.code y bytes nL' (some rt) ∈ UW) (hd : y.cls ≠ "java/lang/invoke/MethodHandle" ∧ y.cls ≠ "java/lang/invoke/VarHandle" ∧ (parseMethodDescriptor y.desc).map (fun d => d.parameters.length) = some n) (hM : CI l E w y bytes nL' rt rm' As σ post) (hz : rm'.cells = 0 ∧ rm'.slots = 0) (hR : rm'.frames + 1 ≤ rm.frames ∧ 8 + (nL' + 11) + rm'.locals ≤ rm.locals) (hn : As.length = n) (hst : st = As.reverse ++ rest) (hW : (rest.map fun v => v.category).sum ≤ 8) (d : decode cc pc = .ok (.invokestatic idx, 3)) (k : ∀ (r : Int32) (u : S), post r u → G X w u (pc + 3) lv (.int r :: rest)) : G X w σ pc lv st := by
  obtain ⟨p, l', e, R, s, m, args, below, meth, c, Q, A, E', nL, kc, ks⟩ := X
  intro H locs ls hP hD hS hl
  have hR' : R = rm := C.2.2.2.2.1
  have hl' : l' = l := C.2.2.2.2.2.2.1
  have hE : E' = E := C.2.2.2.2.2.2.2.1
  subst hR'
  subst hl'
  subst hE
  have hFr : ∀ q, va_A (w σ) H.size q → A q := fun q h => h.elim (fun ⟨k9, e9, h9⟩ => hD.2 k9 _ h9) (fun h9 => C.2.2.1 q (Nat.le_trans hS.1 h9))
  subst hst
  exact va_calli (va_runS (As := As) (rest := rest) C.1 (hM H.size) (va_cwS n C.1.2.2.2.2 (wsS_gi h1 h2 h4 h5) rfl hz.1 hz.2 hd hR) ⟨preW.blind, fun U hU hW9 => ⟨rfl, by rw [hU], by rw [hU]; exact hP, hD.weaken (fun _ _ _ _ => trivial), Fx.call C.2.1 hS hFr hW9 hU⟩⟩ rfl hn hl.1 rfl (lv_room hW) d ⟨C.2.2.2.2.2.2.2.2.1, C.2.2.2.2.2.2.2.2.2⟩) hS (fun q _ h => hFr q h) hFr (fun r u t H1 locs1 ht hvm hp hB hz1 hk1 hS1 => k r u hp H1 locs1 ls (ht ▸ hB.1) (hB.2.weaken (fun _ _ _ h => hFr _ h)) hS1 hl)
theorem g_callSNi {X : Kx} {S : Type} {w : S → va_W} {σ : S} {l : Launch} {E : Ev} {own : String} {cc : ByteArray} {rm : Room} {ret : Option FieldType} {pc : Nat} {lv : List (Option Value)} {st : List Value} (C : Cx X l E own cc rm ret) {y : MethodName} {bytes : ByteArray} {nL' idx : Nat} (n : Nat) {rm' : Room} {As rest : List Value} {post : Int32 → S → Prop} {rt : FieldType} {host : String} (h1 : Cond.methodLinkNest own idx y host ∈ NW) (h2 : Cond.static y ∈ UW) (h4 : Cond.initialized y.cls ∈ UW) (h5 : Cond.code y bytes nL' (some rt) ∈ UW) (hd : y.cls ≠ "java/lang/invoke/MethodHandle" ∧ y.cls ≠ "java/lang/invoke/VarHandle" ∧ (parseMethodDescriptor y.desc).map (fun d => d.parameters.length) = some n) (hM : CI l E w y bytes nL' rt rm' As σ post) (hz : rm'.cells = 0 ∧ rm'.slots = 0) (hR : rm'.frames + 1 ≤ rm.frames ∧ 8 + (nL' + 11) + rm'.locals ≤ rm.locals) (hn : As.length = n) (hst : st = As.reverse ++ rest) (hW : (rest.map fun v => v.category).sum ≤ 8) (d : decode cc pc = .ok (.invokestatic idx, 3)) (k : ∀ (r : Int32) (u : S), post r u → G X w u (pc + 3) lv (.int r :: rest)) : G X w σ pc lv st := by
  obtain ⟨p, l', e, R, s, m, args, below, meth, c, Q, A, E', nL, kc, ks⟩ := X
  intro H locs ls hP hD hS hl
  have hR' : R = rm := C.2.2.2.2.1
  have hl' : l' = l := C.2.2.2.2.2.2.1
  have hE : E' = E := C.2.2.2.2.2.2.2.1
  subst hR'
  subst hl'
  subst hE
  have hFr : ∀ q, va_A (w σ) H.size q → A q := fun q h => h.elim (fun ⟨k9, e9, h9⟩ => hD.2 k9 _ h9) (fun h9 => C.2.2.1 q (Nat.le_trans hS.1 h9))
  subst hst
  exact va_calli (va_runSN (As := As) (rest := rest) C.1 (hM H.size) ⟨va_cnB n C.1.2.2.2.2 (WS_gi h5) rfl hz.1 hz.2 (C.2.1.2.1 _ h1) (C.1.2.2.2.2 _ h4) hd hR, C.1.2.2.2.2 _ h2, trivial⟩ ⟨preW.blind, fun U hU hW9 => ⟨rfl, by rw [hU], by rw [hU]; exact hP, hD.weaken (fun _ _ _ _ => trivial), Fx.call C.2.1 hS hFr hW9 hU⟩⟩ rfl hn hl.1 rfl (lv_room hW) d ⟨C.2.2.2.2.2.2.2.2.1, C.2.2.2.2.2.2.2.2.2⟩) hS (fun q _ h => hFr q h) hFr (fun r u t H1 locs1 ht hvm hp hB hz1 hk1 hS1 => k r u hp H1 locs1 ls (ht ▸ hB.1) (hB.2.weaken (fun _ _ _ h => hFr _ h)) hS1 hl)
theorem g_callVv {X : Kx} {S : Type} {w : S → va_W} {σ : S} {l : Launch} {E : Ev} {own : String} {cc : ByteArray} {rm : Room} {ret : Option FieldType} {pc : Nat} {lv : List (Option Value)} {st : List Value} (C : Cx X l E own cc rm ret) {y : MethodName} {bytes : ByteArray} {nL' idx : Nat} (n : Nat) {rm' : Room} {As rest : List Value} {post : S → Prop} {b q0 ci N : Nat} {fs : List Value} {T : u_T} {Cn : String} (h1 : Cond.methodLink own idx y ∈ UW) (h2 : Cond.instanceMethod y ∈ UW) (h3 : Cond.selects Cn y y ∈ UW) (h4 : Cond.initialized Cn ∈ UW) (h5 : Cond.code y bytes nL' none ∈ UW) (hd : y.cls = Cn ∧ y.cls ≠ "java/lang/invoke/MethodHandle" ∧ y.cls ≠ "java/lang/invoke/VarHandle" ∧ (parseMethodDescriptor y.desc).map (fun d => d.parameters.length) = some n) (he : (w σ)[q0]? = some (b, .inr (ci, fs))) (hc : vwCl[ci]? = some (Cn, T, N)) (hM : CV l E w y bytes nL' rm' (.ref b :: As) σ post) (hz : rm'.cells = 0 ∧ rm'.slots = 0) (hR : rm'.frames + 1 ≤ rm.frames ∧ 8 + (nL' + 11) + rm'.locals ≤ rm.locals) (hn : As.length = n) (hst : st = As.reverse ++ .ref b :: rest) (hW : (rest.map fun v => v.category).sum ≤ 8) (d : decode cc pc = .ok (.invokevirtual idx, 3)) (k : ∀ u : S, post u → G X w u (pc + 3) lv rest) : G X w σ pc lv st := by
  obtain ⟨p, l', e, R, s, m, args, below, meth, c, Q, A, E', nL, kc, ks⟩ := X
  intro H locs ls hP hD hS hl
  have hR' : R = rm := C.2.2.2.2.1
  have hl' : l' = l := C.2.2.2.2.2.2.1
  have hE : E' = E := C.2.2.2.2.2.2.2.1
  subst hR'
  subst hl'
  subst hE
  have hFr : ∀ q, va_A (w σ) H.size q → A q := fun q h => h.elim (fun ⟨k9, e9, h9⟩ => hD.2 k9 _ h9) (fun h9 => C.2.2.1 q (Nat.le_trans hS.1 h9))
  subst hst
  exact va_callv (va_runV (As := As) (rest := rest) C.1 (hM H.size) (cwV n C.1.2.2.2.2 (wsV_gi h1 h2 h3 h4 h5) rfl hz.1 hz.2 hd hR) ⟨preW.blind, va_recv C.2.1.1 hP hc he, fun U hU hW9 => ⟨rfl, by rw [hU], by rw [hU]; exact hP, hD.weaken (fun _ _ _ _ => trivial), Fx.call C.2.1 hS hFr hW9 hU⟩⟩ rfl hn hl.1 rfl (lv_room hW) d ⟨C.2.2.2.2.2.2.2.2.1, C.2.2.2.2.2.2.2.2.2⟩) hS (fun q _ h => hFr q h) hFr (fun u t H1 locs1 ht hvm hp hB hz1 hk1 hS1 => k u hp H1 locs1 ls (ht ▸ hB.1) (hB.2.weaken (fun _ _ _ h => hFr _ h)) hS1 hl)
theorem g_callSv {X : Kx} {S : Type} {w : S → va_W} {σ : S} {l : Launch} {E : Ev} {own : String} {cc : ByteArray} {rm : Room} {ret : Option FieldType} {pc : Nat} {lv : List (Option Value)} {st : List Value} (C : Cx X l E own cc rm ret) {y : MethodName} {bytes : ByteArray} {nL' idx : Nat} (n : Nat) {rm' : Room} {As rest : List Value} {post : S → Prop} (h1 : Cond.methodLink own idx y ∈ UW) (h2 : Cond.static y ∈ UW) (h4 : Cond.initialized y.cls ∈ UW) (h5 : Cond.code y bytes nL' none ∈ UW) (hd : y.cls ≠ "java/lang/invoke/MethodHandle" ∧ y.cls ≠ "java/lang/invoke/VarHandle" ∧ (parseMethodDescriptor y.desc).map (fun d => d.parameters.length) = some n) (hM : CV l E w y bytes nL' rm' As σ post) (hz : rm'.cells = 0 ∧ rm'.slots = 0) (hR : rm'.frames + 1 ≤ rm.frames ∧ 8 + (nL' + 11) + rm'.locals ≤ rm.locals) (hn : As.length = n) (hst : st = As.reverse ++ rest) (hW : (rest.map fun v => v.category).sum ≤ 8) (d : decode cc pc = .ok (.invokestatic idx, 3)) (k : ∀ u : S, post u → G X w u (pc + 3) lv rest) : G X w σ pc lv st := by
  obtain ⟨p, l', e, R, s, m, args, below, meth, c, Q, A, E', nL, kc, ks⟩ := X
  intro H locs ls hP hD hS hl
  have hR' : R = rm := C.2.2.2.2.1
  have hl' : l' = l := C.2.2.2.2.2.2.1
  have hE : E' = E := C.2.2.2.2.2.2.2.1
  subst hR'
  subst hl'
  subst hE
  have hFr : ∀ q, va_A (w σ) H.size q → A q := fun q h => h.elim (fun ⟨k9, e9, h9⟩ => hD.2 k9 _ h9) (fun h9 => C.2.2.1 q (Nat.le_trans hS.1 h9))
  subst hst
  exact va_callv (va_runS (As := As) (rest := rest) C.1 (hM H.size) (va_cwS n C.1.2.2.2.2 (wsS_gi h1 h2 h4 h5) rfl hz.1 hz.2 hd hR) ⟨preW.blind, fun U hU hW9 => ⟨rfl, by rw [hU], by rw [hU]; exact hP, hD.weaken (fun _ _ _ _ => trivial), Fx.call C.2.1 hS hFr hW9 hU⟩⟩ rfl hn hl.1 rfl (lv_room hW) d ⟨C.2.2.2.2.2.2.2.2.1, C.2.2.2.2.2.2.2.2.2⟩) hS (fun q _ h => hFr q h) hFr (fun u t H1 locs1 ht hvm hp hB hz1 hk1 hS1 => k u hp H1 locs1 ls (ht ▸ hB.1) (hB.2.weaken (fun _ _ _ h => hFr _ h)) hS1 hl)
theorem g_callSNv {X : Kx} {S : Type} {w : S → va_W} {σ : S} {l : Launch} {E : Ev} {own : String} {cc : ByteArray} {rm : Room} {ret : Option FieldType} {pc : Nat} {lv : List (Option Value)} {st : List Value} (C : Cx X l E own cc rm ret) {y : MethodName} {bytes : ByteArray} {nL' idx : Nat} (n : Nat) {rm' : Room} {As rest : List Value} {post : S → Prop} {host : String} (h1 : Cond.methodLinkNest own idx y host ∈ NW) (h2 : Cond.static y ∈ UW) (h4 : Cond.initialized y.cls ∈ UW) (h5 : Cond.code y bytes nL' none ∈ UW) (hd : y.cls ≠ "java/lang/invoke/MethodHandle" ∧ y.cls ≠ "java/lang/invoke/VarHandle" ∧ (parseMethodDescriptor y.desc).map (fun d => d.parameters.length) = some n) (hM : CV l E w y bytes nL' rm' As σ post) (hz : rm'.cells = 0 ∧ rm'.slots = 0) (hR : rm'.frames + 1 ≤ rm.frames ∧ 8 + (nL' + 11) + rm'.locals ≤ rm.locals) (hn : As.length = n) (hst : st = As.reverse ++ rest) (hW : (rest.map fun v => v.category).sum ≤ 8) (d : decode cc pc = .ok (.invokestatic idx, 3)) (k : ∀ u : S, post u → G X w u (pc + 3) lv rest) : G X w σ pc lv st := by
  obtain ⟨p, l', e, R, s, m, args, below, meth, c, Q, A, E', nL, kc, ks⟩ := X
  intro H locs ls hP hD hS hl
  have hR' : R = rm := C.2.2.2.2.1
  have hl' : l' = l := C.2.2.2.2.2.2.1
  have hE : E' = E := C.2.2.2.2.2.2.2.1
  subst hR'
  subst hl'
  subst hE
  have hFr : ∀ q, va_A (w σ) H.size q → A q := fun q h => h.elim (fun ⟨k9, e9, h9⟩ => hD.2 k9 _ h9) (fun h9 => C.2.2.1 q (Nat.le_trans hS.1 h9))
  subst hst
  exact va_callv (va_runSN (As := As) (rest := rest) C.1 (hM H.size) ⟨va_cnB n C.1.2.2.2.2 (WS_gi h5) rfl hz.1 hz.2 (C.2.1.2.1 _ h1) (C.1.2.2.2.2 _ h4) hd hR, C.1.2.2.2.2 _ h2, trivial⟩ ⟨preW.blind, fun U hU hW9 => ⟨rfl, by rw [hU], by rw [hU]; exact hP, hD.weaken (fun _ _ _ _ => trivial), Fx.call C.2.1 hS hFr hW9 hU⟩⟩ rfl hn hl.1 rfl (lv_room hW) d ⟨C.2.2.2.2.2.2.2.2.1, C.2.2.2.2.2.2.2.2.2⟩) hS (fun q _ h => hFr q h) hFr (fun u t H1 locs1 ht hvm hp hB hz1 hk1 hS1 => k u hp H1 locs1 ls (ht ▸ hB.1) (hB.2.weaken (fun _ _ _ h => hFr _ h)) hS1 hl)
/-! loops: a body that may go on, n times at most -/
def lpN {α : Type} (B : (α → Prop) → α → Prop) : Nat → α → Prop
  | 0, _ => False
  | n + 1, a => B (lpN B n) a
theorem g_loop {α : Type} {B : (α → Prop) → α → Prop} {J : α → Prop} (hB : ∀ kb : α → Prop, (∀ a, kb a → J a) → ∀ a, B kb a → J a) : ∀ (n : Nat) (a : α), lpN B n a → J a
  | 0, _, h => h.elim
  | n + 1, a, h => hB (lpN B n) (fun b hb => g_loop hB n b hb) a h
theorem fit_z {v : Int32} (h : v = 0 ∨ v = 1) : fits .boolean (.int v) = true := by
  rcases h with rfl | rfl <;> rfl
/-! fewer known locals -/
def lvLe : List (Option Value) → List (Option Value) → Prop
  | [], [] => True
  | none :: t, _ :: t' => lvLe t t'
  | some v :: t, x :: t' => x = some v ∧ lvLe t t'
  | _, _ => False
theorem lvLe_at : ∀ {lv' lv : List (Option Value)}, lvLe lv' lv → lv'.length = lv.length ∧ ∀ (i : Nat) (v : Value), lv'[i]? = some (some v) → lv[i]? = some (some v)
  | [], [], _ => ⟨rfl, fun i v h => by simp at h⟩
  | none :: t, x :: t', h => by
    obtain ⟨h1, h2⟩ := lvLe_at (lv' := t) (lv := t') h
    refine ⟨by simp [h1], fun i v hi => ?_⟩
    cases i with
    | zero => simp at hi
    | succ i => simpa using h2 i v (by simpa using hi)
  | some u :: t, x :: t', h => by
    obtain ⟨h0, h⟩ := h
    obtain ⟨h1, h2⟩ := lvLe_at (lv' := t) (lv := t') h
    refine ⟨by simp [h1], fun i v hi => ?_⟩
    cases i with
    | zero =>
      subst h0
      simpa using hi
    | succ i => simpa using h2 i v (by simpa using hi)
theorem g_wk {X : Kx} {S : Type} {w : S → va_W} {σ : S} {pc : Nat} {lv' lv : List (Option Value)} {st : List Value} (k : G X w σ pc lv' st) (h : lvLe lv' lv) : G X w σ pc lv st := by
  obtain ⟨p, l', e, R, s, m, args, below, meth, c, Q, A, E', nL, kc, ks⟩ := X
  intro H locs ls hP hD hS hl
  obtain ⟨h1, h2⟩ := lvLe_at h
  refine k H locs ls hP hD hS ⟨hl.1, hl.2.1, fun v hv => ?_, h1.trans hl.2.2.2.1, fun i v hi => hl.2.2.2.2 i v (h2 i v hi)⟩
  obtain ⟨i, hi⟩ := List.getElem?_of_mem hv
  exact hl.2.2.1 v (List.mem_of_getElem? (h2 i v hi))

theorem g_i2c {X : Kx} {S : Type} {w : S → va_W} {σ : S} {l : Launch} {E : Ev} {own : String} {cc : ByteArray} {rm : Room} {ret : Option FieldType} {pc : Nat} {lv : List (Option Value)} {st : List Value} (C : Cx X l E own cc rm ret) {x : Int32} (d : decode cc pc = .ok (.i2c, 1)) (k : G X w σ (pc + 1) lv (.int ((x.toUInt32 % 65536).toInt32) :: st)) : G X w σ pc lv (.int x :: st) := by
  obtain ⟨p, l', e, R, s, m, args, below, meth, c, Q, A, E', nL, kc, ks⟩ := X
  intro H locs ls hP hD hS hl
  exact lv_i2c C.1.1 C.1.2.1 d rfl (k H locs ls hP hD hS hl)
theorem g_compact {X : Kx} {S : Type} {w : S → va_W} {σ : S} {l : Launch} {E : Ev} {own : String} {cc : ByteArray} {rm : Room} {ret : Option FieldType} {pc : Nat} {lv : List (Option Value)} {st : List Value} (C : Cx X l E own cc rm ret) {idx : Nat} (hlink : Cond.fieldLink own idx "java/lang/String" "COMPACT_STRINGS" "Z" ∈ UW) (d : decode cc pc = .ok (.getstatic idx, 3)) (k : G X w σ (pc + 3) lv (.int 1 :: st)) : G X w σ pc lv st := by
  obtain ⟨p, l', e, R, s, m, args, below, meth, c, Q, A, E', nL, kc, ks⟩ := X
  intro H locs ls hP hD hS hl
  have hE : E' = E := C.2.2.2.2.2.2.2.1
  subst hE
  exact va_gets C.1.1 C.1.2.1 C.2.1.2.2.1.2.2.2.1 hS C.1.2.2.2.1 (C.1.2.2.2.2 _ hlink) (fun _ h9 => h9) d (k H locs ls hP hD hS hl)
theorem g_siobe {X : Kx} {S : Type} {w : S → va_W} {σ : S} {l : Launch} {E : Ev} {own : String} {cc : ByteArray} {rm : Room} {ret : Option FieldType} {pc : Nat} {lv : List (Option Value)} {st : List Value} (C : Cx X l E own cc rm ret) {idx : Nat} (hlink : Cond.fieldLink own idx "jdk/internal/util/Preconditions" "SIOOBE_FORMATTER" "Ljava/util/function/BiFunction;" ∈ UW) (d : decode cc pc = .ok (.getstatic idx, 3)) (k : ∀ v : Value, (v = .null ∨ ∃ t, v = .ref t) → G X w σ (pc + 3) lv (v :: st)) : G X w σ pc lv st := by
  obtain ⟨p, l', e, R, s, m, args, below, meth, c, Q, A, E', nL, kc, ks⟩ := X
  intro H locs ls hP hD hS hl
  have hE : E' = E := C.2.2.2.2.2.2.2.1
  subst hE
  rcases C.2.1.2.2.1.2.2.2.2.1 with h9 | ⟨t, h9⟩
  · exact va_gets C.1.1 C.1.2.1 h9 hS C.1.2.2.2.1 (C.1.2.2.2.2 _ hlink) (fun _ h8 => h8) d (k _ (Or.inl rfl) H locs ls hP hD hS hl)
  · exact va_gets C.1.1 C.1.2.1 h9 hS C.1.2.2.2.1 (C.1.2.2.2.2 _ hlink) (fun _ h8 => h8) d (k _ (Or.inr ⟨t, rfl⟩) H locs ls hP hD hS hl)
theorem g_scoder {X : Kx} {S : Type} {w : S → va_W} {σ : S} {l : Launch} {E : Ev} {own : String} {cc : ByteArray} {rm : Room} {ret : Option FieldType} {pc : Nat} {lv : List (Option Value)} {st : List Value} (C : Cx X l E own cc rm ret) {idx i : Nat} (hi : i < 8) (hlink : Cond.fieldLink own idx "java/lang/String" "coder" "B" ∈ UW) (d : decode cc pc = .ok (.getfield idx, 3)) (k : G X w σ (pc + 3) lv (.int 0 :: st)) : G X w σ pc lv (.ref (E.2.2 (20 + i)) :: st) := by
  obtain ⟨p, l', e, R, s, m, args, below, meth, c, Q, A, E', nL, kc, ks⟩ := X
  intro H locs ls hP hD hS hl
  have hE : E' = E := C.2.2.2.2.2.2.2.1
  subst hE
  exact vk_getf C.1.1 C.1.2.1 (C.2.1.2.2.1.2.2.1.1 i hi).2.1 hS C.1.2.2.2.1 (C.1.2.2.2.2 _ hlink) (fun _ h9 => h9) d (k H locs ls hP hD hS hl)
theorem g_svalue {X : Kx} {S : Type} {w : S → va_W} {σ : S} {l : Launch} {E : Ev} {own : String} {cc : ByteArray} {rm : Room} {ret : Option FieldType} {pc : Nat} {lv : List (Option Value)} {st : List Value} (C : Cx X l E own cc rm ret) {idx i : Nat} (hi : i < 8) (hlink : Cond.fieldLink own idx "java/lang/String" "value" "[B" ∈ UW) (d : decode cc pc = .ok (.getfield idx, 3)) (k : G X w σ (pc + 3) lv (.ref (E.2.2 (30 + i)) :: st)) : G X w σ pc lv (.ref (E.2.2 (20 + i)) :: st) := by
  obtain ⟨p, l', e, R, s, m, args, below, meth, c, Q, A, E', nL, kc, ks⟩ := X
  intro H locs ls hP hD hS hl
  have hE : E' = E := C.2.2.2.2.2.2.2.1
  subst hE
  exact vk_getf C.1.1 C.1.2.1 (C.2.1.2.2.1.2.2.1.1 i hi).2.2.1 hS C.1.2.2.2.1 (C.1.2.2.2.2 _ hlink) (fun _ h9 => h9) d (k H locs ls hP hD hS hl)
theorem g_slen {X : Kx} {S : Type} {w : S → va_W} {σ : S} {l : Launch} {E : Ev} {own : String} {cc : ByteArray} {rm : Room} {ret : Option FieldType} {pc : Nat} {lv : List (Option Value)} {st : List Value} (C : Cx X l E own cc rm ret) {i : Nat} (hi : i < 8) (d : decode cc pc = .ok (.arraylength, 1)) (k : G X w σ (pc + 1) lv (.int (Int32.ofNat (slenL.getD i 0)) :: st)) : G X w σ pc lv (.ref (E.2.2 (30 + i)) :: st) := by
  obtain ⟨p, l', e, R, s, m, args, below, meth, c, Q, A, E', nL, kc, ks⟩ := X
  intro H locs ls hP hD hS hl
  have hE : E' = E := C.2.2.2.2.2.2.2.1
  subst hE
  exact va_tlen C.1.1 C.1.2.1 (C.2.1.2.2.1.2.2.1.1 i hi).2.2.2 hS rfl d (k H locs ls hP hD hS hl)
theorem g_sald {X : Kx} {S : Type} {w : S → va_W} {σ : S} {l : Launch} {E : Ev} {own : String} {cc : ByteArray} {rm : Room} {ret : Option FieldType} {pc : Nat} {lv : List (Option Value)} {st : List Value} (C : Cx X l E own cc rm ret) {i : Nat} {j : Int32} (hi : i < 8) (hin : vp_in j (slenL.getD i 0)) (d : decode cc pc = .ok (.baload, 1)) (k : G X w σ (pc + 1) lv (.int ((sbytL.getD i []).getD j.toNatClampNeg 0) :: st)) : G X w σ pc lv (.int j :: .ref (E.2.2 (30 + i)) :: st) := by
  obtain ⟨p, l', e, R, s, m, args, below, meth, c, Q, A, E', nL, kc, ks⟩ := X
  intro H locs ls hP hD hS hl
  have hE : E' = E := C.2.2.2.2.2.2.2.1
  subst hE
  exact va_tb C.1.1 C.1.2.1 (C.2.1.2.2.1.2.2.1.1 i hi).2.2.2 hS hin rfl d (k H locs ls hP hD hS hl)
theorem g_ldcS {X : Kx} {S : Type} {w : S → va_W} {σ : S} {l : Launch} {E : Ev} {own : String} {cc : ByteArray} {rm : Room} {ret : Option FieldType} {pc : Nat} {lv : List (Option Value)} {st : List Value} (C : Cx X l E own cc rm ret) {i : Nat} (hi : i < 8) (ho : own = "IceRunModel") (d : decode cc pc = .ok (.ldc (sixL.getD i 0), 2)) (k : G X w σ (pc + 2) lv (.ref (E.2.2 (20 + i)) :: st)) : G X w σ pc lv st := by
  obtain ⟨p, l', e, R, s, m, args, below, meth, c, Q, A, E', nL, kc, ks⟩ := X
  intro H locs ls hP hD hS hl
  have hE : E' = E := C.2.2.2.2.2.2.2.1
  subst hE
  subst ho
  exact va_ldcS C.1.1 C.1.2.1 C.1.2.2.2.1 (C.2.1.2.2.2.1 i hi) d (k H locs ls hP hD hS hl)
theorem g_vload_2 {X : Kx} {S : Type} {w : S → va_W} {σ : S} {l : Launch} {E : Ev} {own : String} {cc : ByteArray} {rm : Room} {ret : Option FieldType} {pc : Nat} {lv : List (Option Value)} {st : List Value} (C : Cx X l E own cc rm ret) {v : Value} (hv : v = .null ∨ ∃ t, v = .ref t) (d : decode cc pc = .ok (.aload_n 2, 1)) (h : lv[2]? = some (some v)) (k : G X w σ (pc + 1) lv (v :: st)) : G X w σ pc lv st := by
  obtain ⟨p, l', e, R, s, m, args, below, meth, c, Q, A, E', nL, kc, ks⟩ := X
  intro H locs ls hP hD hS hl
  rcases hv with rfl | ⟨t, rfl⟩
  · exact lv_aload_nN C.1.1 C.1.2.1 d rfl (hl.at h) (k H locs ls hP hD hS hl)
  · exact lv_aload_n C.1.1 C.1.2.1 d rfl (hl.at h) (k H locs ls hP hD hS hl)
theorem g_nstore_2 {X : Kx} {S : Type} {w : S → va_W} {σ : S} {l : Launch} {E : Ev} {own : String} {cc : ByteArray} {rm : Room} {ret : Option FieldType} {pc : Nat} {lv : List (Option Value)} {st : List Value} (C : Cx X l E own cc rm ret) (d : decode cc pc = .ok (.astore_n 2, 1)) (hi : 2 < lv.length) (k : G X w σ (pc + 1) (lv.set 2 (some .null)) st) : G X w σ pc lv (.null :: st) := by
  obtain ⟨p, l', e, R, s, m, args, below, meth, c, Q, A, E', nL, kc, ks⟩ := X
  intro H locs ls hP hD hS hl
  exact lv_astore_nN C.1.1 C.1.2.1 d rfl hl.has (by rw [← hl.2.2.2.1]; exact hi) rfl (fun ls' hl' => k H locs ls' hP hD hS (hl.set rfl hl'))
theorem g_nload_2 {X : Kx} {S : Type} {w : S → va_W} {σ : S} {l : Launch} {E : Ev} {own : String} {cc : ByteArray} {rm : Room} {ret : Option FieldType} {pc : Nat} {lv : List (Option Value)} {st : List Value} (C : Cx X l E own cc rm ret) (d : decode cc pc = .ok (.aload_n 2, 1)) (h : lv[2]? = some (some .null)) (k : G X w σ (pc + 1) lv (.null :: st)) : G X w σ pc lv st := by
  obtain ⟨p, l', e, R, s, m, args, below, meth, c, Q, A, E', nL, kc, ks⟩ := X
  intro H locs ls hP hD hS hl
  exact lv_aload_nN C.1.1 C.1.2.1 d rfl (hl.at h) (k H locs ls hP hD hS hl)
theorem g_nnN {X : Kx} {S : Type} {w : S → va_W} {σ : S} {l : Launch} {E : Ev} {own : String} {cc : ByteArray} {rm : Room} {ret : Option FieldType} {pc : Nat} {lv : List (Option Value)} {st : List Value} (C : Cx X l E own cc rm ret) {off : Int} (d : decode cc pc = .ok (.ifnonnull off, 3)) (k : G X w σ (pc + 3) lv st) : G X w σ pc lv (.null :: st) := by
  obtain ⟨p, l', e, R, s, m, args, below, meth, c, Q, A, E', nL, kc, ks⟩ := X
  intro H locs ls hP hD hS hl
  exact lv_ifnonnullN C.1.1 C.1.2.1 d (k H locs ls hP hD hS hl)
theorem g_nnR {X : Kx} {S : Type} {w : S → va_W} {σ : S} {l : Launch} {E : Ev} {own : String} {cc : ByteArray} {rm : Room} {ret : Option FieldType} {pc : Nat} {lv : List (Option Value)} {st : List Value} (C : Cx X l E own cc rm ret) {x : Nat} {off : Int} (tgt : Nat) (d : decode cc pc = .ok (.ifnonnull off, 3)) (ht : (pc : Int) + off = (tgt : Int)) (k : G X w σ tgt lv st) : G X w σ pc lv (.ref x :: st) := by
  obtain ⟨p, l', e, R, s, m, args, below, meth, c, Q, A, E', nL, kc, ks⟩ := X
  intro H locs ls hP hD hS hl
  exact lv_ifnonnull C.1.1 C.1.2.1 d ht (k H locs ls hP hD hS hl)
theorem g_null {X : Kx} {S : Type} {w : S → va_W} {σ : S} {l : Launch} {E : Ev} {own : String} {cc : ByteArray} {rm : Room} {ret : Option FieldType} {pc : Nat} {lv : List (Option Value)} {st : List Value} (C : Cx X l E own cc rm ret) (d : decode cc pc = .ok (.aconst_null, 1)) (k : G X w σ (pc + 1) lv (.null :: st)) : G X w σ pc lv st := by
  obtain ⟨p, l', e, R, s, m, args, below, meth, c, Q, A, E', nL, kc, ks⟩ := X
  intro H locs ls hP hD hS hl
  exact lv_null C.1.1 C.1.2.1 d (k H locs ls hP hD hS hl)
theorem g_wall {X : Kx} {S : Type} {w : S → va_W} {σ : S} {l : Launch} {E : Ev} {own : String} {cc : ByteArray} {rm : Room} {ret : Option FieldType} {pc : Nat} {lv : List (Option Value)} {st : List Value} (C : Cx X l E own cc rm ret) {idx : Nat} {host : String} (hlink : Cond.fieldLinkNest own idx "IceRun$Word" "ALL" "[LIceRun$Word;" host ∈ NW) (d : decode cc pc = .ok (.getstatic idx, 3)) (k : G X w σ (pc + 3) lv (.ref (E.2.2 2) :: st)) : G X w σ pc lv st := by
  obtain ⟨p, l', e, R, s, m, args, below, meth, c, Q, A, E', nL, kc, ks⟩ := X
  intro H locs ls hP hD hS hl
  have hE : E' = E := C.2.2.2.2.2.2.2.1
  subst hE
  exact va_getsN C.1.1 C.1.2.1 C.2.1.2.2.1.2.2.2.2.2.1.1 hS C.1.2.2.2.1 (va_Nw.use rfl (C.2.1.2.1 _ hlink)) (fun _ h9 => h9) d (k H locs ls hP hD hS hl)
theorem g_wlen {X : Kx} {S : Type} {w : S → va_W} {σ : S} {l : Launch} {E : Ev} {own : String} {cc : ByteArray} {rm : Room} {ret : Option FieldType} {pc : Nat} {lv : List (Option Value)} {st : List Value} (C : Cx X l E own cc rm ret) (d : decode cc pc = .ok (.arraylength, 1)) (k : G X w σ (pc + 1) lv (.int 7 :: st)) : G X w σ pc lv (.ref (E.2.2 2) :: st) := by
  obtain ⟨p, l', e, R, s, m, args, below, meth, c, Q, A, E', nL, kc, ks⟩ := X
  intro H locs ls hP hD hS hl
  have hE : E' = E := C.2.2.2.2.2.2.2.1
  subst hE
  exact va_tlen (v := 7) C.1.1 C.1.2.1 C.2.1.2.2.1.2.2.2.2.2.1.2 hS rfl d (k H locs ls hP hD hS hl)
theorem g_wald {X : Kx} {S : Type} {w : S → va_W} {σ : S} {l : Launch} {E : Ev} {own : String} {cc : ByteArray} {rm : Room} {ret : Option FieldType} {pc : Nat} {lv : List (Option Value)} {st : List Value} (C : Cx X l E own cc rm ret) {i : Int32} (hin : vp_in i 7) (d : decode cc pc = .ok (.aaload, 1)) (k : G X w σ (pc + 1) lv (.ref (E.2.2 (10 + i.toNatClampNeg)) :: st)) : G X w σ pc lv (.int i :: .ref (E.2.2 2) :: st) := by
  obtain ⟨p, l', e, R, s, m, args, below, meth, c, Q, A, E', nL, kc, ks⟩ := X
  intro H locs ls hP hD hS hl
  have hE : E' = E := C.2.2.2.2.2.2.2.1
  subst hE
  exact vb_tq C.1.1 C.1.2.1 C.2.1.2.2.1.2.2.2.2.2.1.2 hS hin rfl d (k H locs ls hP hD hS hl)
theorem g_wtext {X : Kx} {S : Type} {w : S → va_W} {σ : S} {l : Launch} {E : Ev} {own : String} {cc : ByteArray} {rm : Room} {ret : Option FieldType} {pc : Nat} {lv : List (Option Value)} {st : List Value} (C : Cx X l E own cc rm ret) {idx j : Nat} {host : String} (hj : j < 7) (hlink : Cond.fieldLinkNest own idx "IceRun$Word" "text" "Ljava/lang/String;" host ∈ NW) (d : decode cc pc = .ok (.getfield idx, 3)) (k : G X w σ (pc + 3) lv (.ref (E.2.2 (20 + j)) :: st)) : G X w σ pc lv (.ref (E.2.2 (10 + j)) :: st) := by
  obtain ⟨p, l', e, R, s, m, args, below, meth, c, Q, A, E', nL, kc, ks⟩ := X
  intro H locs ls hP hD hS hl
  have hE : E' = E := C.2.2.2.2.2.2.2.1
  subst hE
  obtain ⟨cf, kf, fi, f, cell, h1, h2, h3, h4, h5, h6⟩ := ((C.2.1.2.2.1.2.2.2.2.2.2.1 j hj).1).kept hS.2.1
  exact va_Wgetf C.1.1 C.1.2.1 C.1.2.2.2.1 (va_Nw.use rfl (C.2.1.2.1 _ hlink)) h1 h2 h3 h4 h5 rfl rfl d (k H locs ls hP hD hS hl)
theorem g_wslot {X : Kx} {S : Type} {w : S → va_W} {σ : S} {l : Launch} {E : Ev} {own : String} {cc : ByteArray} {rm : Room} {ret : Option FieldType} {pc : Nat} {lv : List (Option Value)} {st : List Value} (C : Cx X l E own cc rm ret) {idx j : Nat} {host : String} (hj : j < 7) (hlink : Cond.fieldLinkNest own idx "IceRun$Word" "slot" "I" host ∈ NW) (d : decode cc pc = .ok (.getfield idx, 3)) (k : G X w σ (pc + 3) lv (.int (wdSlot j) :: st)) : G X w σ pc lv (.ref (E.2.2 (10 + j)) :: st) := by
  obtain ⟨p, l', e, R, s, m, args, below, meth, c, Q, A, E', nL, kc, ks⟩ := X
  intro H locs ls hP hD hS hl
  have hE : E' = E := C.2.2.2.2.2.2.2.1
  subst hE
  obtain ⟨cf, kf, fi, f, cell, h1, h2, h3, h4, h5, h6⟩ := ((C.2.1.2.2.1.2.2.2.2.2.2.1 j hj).2.1).kept hS.2.1
  exact va_Wgetf C.1.1 C.1.2.1 C.1.2.2.2.1 (va_Nw.use rfl (C.2.1.2.1 _ hlink)) h1 h2 h3 h4 h5 rfl rfl d (k H locs ls hP hD hS hl)
theorem g_wnumbered {X : Kx} {S : Type} {w : S → va_W} {σ : S} {l : Launch} {E : Ev} {own : String} {cc : ByteArray} {rm : Room} {ret : Option FieldType} {pc : Nat} {lv : List (Option Value)} {st : List Value} (C : Cx X l E own cc rm ret) {idx j : Nat} {host : String} (hj : j < 7) (hlink : Cond.fieldLinkNest own idx "IceRun$Word" "numbered" "Z" host ∈ NW) (d : decode cc pc = .ok (.getfield idx, 3)) (k : G X w σ (pc + 3) lv (.int (wdNum j) :: st)) : G X w σ pc lv (.ref (E.2.2 (10 + j)) :: st) := by
  obtain ⟨p, l', e, R, s, m, args, below, meth, c, Q, A, E', nL, kc, ks⟩ := X
  intro H locs ls hP hD hS hl
  have hE : E' = E := C.2.2.2.2.2.2.2.1
  subst hE
  obtain ⟨cf, kf, fi, f, cell, h1, h2, h3, h4, h5, h6⟩ := ((C.2.1.2.2.1.2.2.2.2.2.2.1 j hj).2.2.1).kept hS.2.1
  exact va_Wgetf C.1.1 C.1.2.1 C.1.2.2.2.1 (va_Nw.use rfl (C.2.1.2.1 _ hlink)) h1 h2 h3 h4 h5 rfl rfl d (k H locs ls hP hD hS hl)
theorem g_wlow {X : Kx} {S : Type} {w : S → va_W} {σ : S} {l : Launch} {E : Ev} {own : String} {cc : ByteArray} {rm : Room} {ret : Option FieldType} {pc : Nat} {lv : List (Option Value)} {st : List Value} (C : Cx X l E own cc rm ret) {idx j : Nat} {host : String} (hj : j < 7) (hlink : Cond.fieldLinkNest own idx "IceRun$Word" "low" "I" host ∈ NW) (d : decode cc pc = .ok (.getfield idx, 3)) (k : G X w σ (pc + 3) lv (.int (wdLow j) :: st)) : G X w σ pc lv (.ref (E.2.2 (10 + j)) :: st) := by
  obtain ⟨p, l', e, R, s, m, args, below, meth, c, Q, A, E', nL, kc, ks⟩ := X
  intro H locs ls hP hD hS hl
  have hE : E' = E := C.2.2.2.2.2.2.2.1
  subst hE
  obtain ⟨cf, kf, fi, f, cell, h1, h2, h3, h4, h5, h6⟩ := ((C.2.1.2.2.1.2.2.2.2.2.2.1 j hj).2.2.2.1).kept hS.2.1
  exact va_Wgetf C.1.1 C.1.2.1 C.1.2.2.2.1 (va_Nw.use rfl (C.2.1.2.1 _ hlink)) h1 h2 h3 h4 h5 rfl rfl d (k H locs ls hP hD hS hl)
theorem g_whigh {X : Kx} {S : Type} {w : S → va_W} {σ : S} {l : Launch} {E : Ev} {own : String} {cc : ByteArray} {rm : Room} {ret : Option FieldType} {pc : Nat} {lv : List (Option Value)} {st : List Value} (C : Cx X l E own cc rm ret) {idx j : Nat} {host : String} (hj : j < 7) (hlink : Cond.fieldLinkNest own idx "IceRun$Word" "high" "I" host ∈ NW) (d : decode cc pc = .ok (.getfield idx, 3)) (k : G X w σ (pc + 3) lv (.int (wdHigh j) :: st)) : G X w σ pc lv (.ref (E.2.2 (10 + j)) :: st) := by
  obtain ⟨p, l', e, R, s, m, args, below, meth, c, Q, A, E', nL, kc, ks⟩ := X
  intro H locs ls hP hD hS hl
  have hE : E' = E := C.2.2.2.2.2.2.2.1
  subst hE
  obtain ⟨cf, kf, fi, f, cell, h1, h2, h3, h4, h5, h6⟩ := ((C.2.1.2.2.1.2.2.2.2.2.2.1 j hj).2.2.2.2).kept hS.2.1
  exact va_Wgetf C.1.1 C.1.2.1 C.1.2.2.2.1 (va_Nw.use rfl (C.2.1.2.1 _ hlink)) h1 h2 h3 h4 h5 rfl rfl d (k H locs ls hP hD hS hl)
theorem g_nreturn {X : Kx} {S : Type} {w : S → va_W} {σ : S} {l : Launch} {E : Ev} {own : String} {cc : ByteArray} {rm : Room} {pc : Nat} {lv : List (Option Value)} {post : Int32 → S → Prop} {v : Int32} {ty : FieldType} (C : Cx X l E own cc rm (some ty)) (hQ : QI X w post) (hn : narrow ty (.int v) = .int v) (d : decode cc pc = .ok (.ireturn, 1)) (h : post v σ) : G X w σ pc lv [.int v] := by
  obtain ⟨p, l', e, R, s, m, args, below, meth, c, Q, A, E', nL, kc, ks⟩ := X
  intro H locs ls hP hD hS hl
  have hq : Q = _ := hQ
  subst hq
  exact W.zret C.1.1 C.1.2.1 C.2.2.2.2.2.1 hn (fun t ht _ => ⟨⟨v, σ, rfl, h, by rw [ht]; exact hP, hD⟩, hS.F ht⟩) hS.2.2 d C.2.2.2.1
theorem g_callT {X : Kx} {S : Type} {w : S → va_W} {σ : S} {l : Launch} {E : Ev} {own : String} {cc : ByteArray} {rm : Room} {ret : Option FieldType} {pc : Nat} {lv : List (Option Value)} {st : List Value} (C : Cx X l E own cc rm ret) {y : MethodName} {bytes : ByteArray} {nL' idx : Nat} (n : Nat) {rm' : Room} {As rest : List Value} {post : Int32 → S → Prop} {rt : FieldType} {i : Nat} (hi : i < 8) (h1 : Cond.methodLink own idx y ∈ UW) (h2 : Cond.instanceMethod y ∈ UW) (h3 : Cond.selects "java/lang/String" y y ∈ UW) (h4 : Cond.initialized "java/lang/String" ∈ UW) (h5 : Cond.code y bytes nL' (some rt) ∈ UW) (hd : y.cls = "java/lang/String" ∧ y.cls ≠ "java/lang/invoke/MethodHandle" ∧ y.cls ≠ "java/lang/invoke/VarHandle" ∧ (parseMethodDescriptor y.desc).map (fun d => d.parameters.length) = some n) (hM : CI l E w y bytes nL' rt rm' (.ref (E.2.2 (20 + i)) :: As) σ post) (hz : rm'.cells = 0 ∧ rm'.slots = 0) (hR : rm'.frames + 1 ≤ rm.frames ∧ 8 + (nL' + 11) + rm'.locals ≤ rm.locals) (hn : As.length = n) (hst : st = As.reverse ++ .ref (E.2.2 (20 + i)) :: rest) (hW : (rest.map fun v => v.category).sum ≤ 8) (d : decode cc pc = .ok (.invokevirtual idx, 3)) (k : ∀ (r : Int32) (u : S), post r u → G X w u (pc + 3) lv (.int r :: rest)) : G X w σ pc lv st := by
  obtain ⟨p, l', e, R, s, m, args, below, meth, c, Q, A, E', nL, kc, ks⟩ := X
  intro H locs ls hP hD hS hl
  have hR' : R = rm := C.2.2.2.2.1
  have hl' : l' = l := C.2.2.2.2.2.2.1
  have hE : E' = E := C.2.2.2.2.2.2.2.1
  subst hR'
  subst hl'
  subst hE
  have hFr : ∀ q, va_A (w σ) H.size q → A q := fun q h => h.elim (fun ⟨k9, e9, h9⟩ => hD.2 k9 _ h9) (fun h9 => C.2.2.1 q (Nat.le_trans hS.1 h9))
  subst hst
  exact va_calli (va_runV (As := As) (rest := rest) C.1 (hM H.size) (cwV n C.1.2.2.2.2 (wsV_gi h1 h2 h3 h4 h5) rfl hz.1 hz.2 hd hR) ⟨preW.blind, vk_recv C.2.1.2.2.1.2.2.1 hi hS, fun U hU hW9 => ⟨rfl, by rw [hU], by rw [hU]; exact hP, hD.weaken (fun _ _ _ _ => trivial), Fx.call C.2.1 hS hFr hW9 hU⟩⟩ rfl hn hl.1 rfl (lv_room hW) d ⟨C.2.2.2.2.2.2.2.2.1, C.2.2.2.2.2.2.2.2.2⟩) hS (fun q _ h => hFr q h) hFr (fun r u t H1 locs1 ht hvm hp hB hz1 hk1 hS1 => k r u hp H1 locs1 ls (ht ▸ hB.1) (hB.2.weaken (fun _ _ _ h => hFr _ h)) hS1 hl)
/-! String's own methods, on the texts of the pools -/
abbrev rmS0 : Room := { frames := 0, cells := 0, slots := 0, locals := 0 }
abbrev rmS_len : Room := { frames := 1, cells := 0, slots := 0, locals := 20 }
abbrev rmS_chk : Room := { frames := 1, cells := 0, slots := 0, locals := 22 }
abbrev rmS_cL : Room := { frames := 2, cells := 0, slots := 0, locals := 43 }
abbrev rmS_char : Room := { frames := 3, cells := 0, slots := 0, locals := 64 }
theorem uJ_38 : Cond.fieldLink RJ0 38 "java/lang/String" "COMPACT_STRINGS" "Z" ∈ UW := by decide +kernel
theorem uJ_15 : Cond.fieldLink RJ0 15 "java/lang/String" "coder" "B" ∈ UW := by decide +kernel
theorem uJ_9 : Cond.fieldLink RJ0 9 "java/lang/String" "value" "[B" ∈ UW := by decide +kernel
theorem cS_coder {l : Launch} {E : Ev} {S : Type} {w : S → va_W} {σ : S} {post : Int32 → S → Prop} {i : Nat} (hi : i < 8) (h : post 0 σ) : CI l E w yJ0_coder_7d493 cJ0_coder_7d493 1 .byte rmS0 [.ref (E.2.2 (20 + i))] σ post := met_i (lv := [some (.ref (E.2.2 (20 + i)))]) (by decide) rfl (Nat.le_of_ble_eq_true rfl) rfl (fun X C hQ => by
  refine g_compact C uJ_38 dJ0_coder_7d493_0 ?_
  refine g_if_eq C 13 dJ0_coder_7d493_3 (by decide) (fun q => absurd q (by decide)) (fun q => ?_)
  refine g_aload_0 C dJ0_coder_7d493_6 rfl ?_
  refine g_scoder C hi uJ_15 dJ0_coder_7d493_7 ?_
  refine g_goto C 14 dJ0_coder_7d493_10 (by decide) ?_
  exact g_nreturn C hQ rfl dJ0_coder_7d493_14 h)
theorem cS_isLatin1 {l : Launch} {E : Ev} {S : Type} {w : S → va_W} {σ : S} {post : Int32 → S → Prop} {i : Nat} (hi : i < 8) (h : post 1 σ) : CI l E w yJ0_isLatin1_aae02 cJ0_isLatin1_aae02 1 .boolean rmS0 [.ref (E.2.2 (20 + i))] σ post := met_i (lv := [some (.ref (E.2.2 (20 + i)))]) (by decide) rfl (Nat.le_of_ble_eq_true rfl) rfl (fun X C hQ => by
  refine g_compact C uJ_38 dJ0_isLatin1_aae02_0 ?_
  refine g_if_eq C 17 dJ0_isLatin1_aae02_3 (by decide) (fun q => absurd q (by decide)) (fun q => ?_)
  refine g_aload_0 C dJ0_isLatin1_aae02_6 rfl ?_
  refine g_scoder C hi uJ_15 dJ0_isLatin1_aae02_7 ?_
  refine g_if_ne C 17 dJ0_isLatin1_aae02_10 (by decide) (fun q => absurd rfl q) (fun q => ?_)
  refine g_iconst_1 C dJ0_isLatin1_aae02_13 ?_
  refine g_goto C 18 dJ0_isLatin1_aae02_14 (by decide) ?_
  exact g_zreturn C hQ dJ0_isLatin1_aae02_18 (Or.inr rfl) h)
def wpS_length {S : Type} (i : Nat) (σ : S) (post : Int32 → S → Prop) : Prop := i < 8 ∧ post (Int32.ofNat (slenL.getD i 0)) σ
theorem cS_length {l : Launch} {E : Ev} {S : Type} {w : S → va_W} {σ : S} {post : Int32 → S → Prop} {i : Nat} (h : wpS_length i σ post) : CI l E w yJ0_length_8abf5 cJ0_length_8abf5 1 .int rmS_len [.ref (E.2.2 (20 + i))] σ post := met_i (lv := [some (.ref (E.2.2 (20 + i)))]) (by decide) rfl (Nat.le_of_ble_eq_true rfl) rfl (fun X C hQ => by
  obtain ⟨hi, h⟩ := h
  refine g_aload_0 C dJ0_length_8abf5_0 rfl ?_
  refine g_svalue C hi uJ_9 dJ0_length_8abf5_1 ?_
  refine g_slen C hi dJ0_length_8abf5_4 ?_
  refine g_aload_0 C dJ0_length_8abf5_5 rfl ?_
  refine g_callT C 0 (As := []) (rest := [.int (Int32.ofNat (slenL.getD i 0))]) hi (by decide +kernel) (by decide +kernel) (by decide +kernel) (by decide +kernel) (by decide +kernel) (by decide +kernel) (cS_coder (post := fun r u => r = 0 ∧ u = σ) hi ⟨rfl, rfl⟩) ⟨rfl, rfl⟩ ⟨Nat.le_of_ble_eq_true rfl, Nat.le_of_ble_eq_true rfl⟩ rfl rfl (Nat.le_of_ble_eq_true rfl) dJ0_length_8abf5_6 (fun r u hr => ?_)
  obtain ⟨rfl, rfl⟩ := hr
  refine g_ishr C dJ0_length_8abf5_9 ?_
  exact g_ireturn C hQ dJ0_length_8abf5_10 (by rw [sb_shr0]; exact h))
theorem cS_preIndex {l : Launch} {E : Ev} {S : Type} {w : S → va_W} {σ : S} {post : Int32 → S → Prop} {x y : Int32} {v : Value} (hv : v = .null ∨ ∃ t, v = .ref t) (h0 : ¬ x < 0) (h1 : x < y) (h : post x σ) : CI l E w yJ3_checkIndex_8e157 cJ3_checkIndex_8e157 3 .int rmS0 [.int x, .int y, v] σ post := met_i (lv := [some (.int x), some (.int y), some v]) (by decide) (by rcases hv with rfl | ⟨t, rfl⟩ <;> rfl) (Nat.le_of_ble_eq_true rfl) rfl (fun X C hQ => by
  refine g_iload_0 C dJ3_checkIndex_8e157_0 rfl ?_
  refine g_if_lt C 9 dJ3_checkIndex_8e157_1 (by decide) (fun q => absurd q h0) (fun q => ?_)
  refine g_iload_0 C dJ3_checkIndex_8e157_4 rfl ?_
  refine g_iload_1 C dJ3_checkIndex_8e157_5 rfl ?_
  refine g_icmp_lt C 16 dJ3_checkIndex_8e157_6 (by decide) (fun q => ?_) (fun q => absurd h1 q)
  refine g_iload_0 C dJ3_checkIndex_8e157_16 rfl ?_
  exact g_ireturn C hQ dJ3_checkIndex_8e157_17 h)
theorem cS_checkIndex {l : Launch} {E : Ev} {S : Type} {w : S → va_W} {σ : S} {post : S → Prop} {x y : Int32} (h0 : ¬ x < 0) (h1 : x < y) (h : post σ) : CV l E w yJ0_checkIndex_df160 cJ0_checkIndex_df160 2 rmS_chk [.int x, .int y] σ post := met_v (lv := [some (.int x), some (.int y)]) (by decide) rfl (Nat.le_of_ble_eq_true rfl) rfl (fun X C hQ => by
  refine g_iload_0 C dJ0_checkIndex_df160_0 rfl ?_
  refine g_iload_1 C dJ0_checkIndex_df160_1 rfl ?_
  refine g_siobe C (by decide +kernel) dJ0_checkIndex_df160_2 (fun v hv => ?_)
  refine g_callSi C 3 (As := [.int x, .int y, v]) (rest := []) (by decide +kernel) (by decide +kernel) (by decide +kernel) (by decide +kernel) (by decide +kernel) (cS_preIndex (post := fun r u => r = x ∧ u = σ) hv h0 h1 ⟨rfl, rfl⟩) ⟨rfl, rfl⟩ ⟨Nat.le_of_ble_eq_true rfl, Nat.le_of_ble_eq_true rfl⟩ rfl rfl (Nat.le_of_ble_eq_true rfl) dJ0_checkIndex_df160_5 (fun r u hr => ?_)
  obtain ⟨rfl, rfl⟩ := hr
  refine g_pop C dJ0_checkIndex_df160_8 rfl ?_
  exact g_return C hQ dJ0_checkIndex_df160_9 h)
def scF (i : Nat) (k : Int32) : Int32 := (sbytL.getD i []).getD k.toNatClampNeg 0
theorem scF_char : ∀ i, i < 8 → ∀ j, j < slenL.getD i 0 → (((((sbytL.getD i []).getD j 0) &&& 255).toUInt32 % 65536).toInt32 = (sbytL.getD i []).getD j 0) := by decide +kernel
theorem scF_nar : ∀ i, i < 8 → ∀ j, j < slenL.getD i 0 → narrow .char (.int ((sbytL.getD i []).getD j 0)) = .int ((sbytL.getD i []).getD j 0) := by decide +kernel
theorem vp_lens : ∀ i, i < 8 → slenL.getD i 0 < 2 ^ 31 := by decide +kernel
theorem vp_in_lt {x : Int32} {n : Nat} (h : vp_in x n) (hn : n < 2 ^ 31) : ¬ x < 0 ∧ x < Int32.ofNat n := by
  obtain ⟨j, hj, rfl⟩ := vp_in_of h hn
  exact ⟨nI_pos (by omega), nI_lt hj hn⟩
theorem cS_latin {l : Launch} {E : Ev} {S : Type} {w : S → va_W} {σ : S} {post : Int32 → S → Prop} {i : Nat} {k : Int32} (hi : i < 8) (hk : vp_in k (slenL.getD i 0)) (h : post (scF i k) σ) : CI l E w yJ1_charAt_3b067 cJ1_charAt_3b067 2 .char rmS_cL [.ref (E.2.2 (30 + i)), .int k] σ post := met_i (lv := [some (.ref (E.2.2 (30 + i))), some (.int k)]) (by decide) rfl (Nat.le_of_ble_eq_true rfl) rfl (fun X C hQ => by
  have hb := vp_in_lt hk (vp_lens i hi)
  refine g_iload_1 C dJ1_charAt_3b067_0 rfl ?_
  refine g_aload_0 C dJ1_charAt_3b067_1 rfl ?_
  refine g_slen C hi dJ1_charAt_3b067_2 ?_
  refine g_callSv C 2 (As := [.int k, .int (Int32.ofNat (slenL.getD i 0))]) (rest := []) (by decide +kernel) (by decide +kernel) (by decide +kernel) (by decide +kernel) (by decide +kernel) (cS_checkIndex (post := fun u => u = σ) hb.1 hb.2 rfl) ⟨rfl, rfl⟩ ⟨Nat.le_of_ble_eq_true rfl, Nat.le_of_ble_eq_true rfl⟩ rfl rfl (Nat.le_of_ble_eq_true rfl) dJ1_charAt_3b067_3 (fun u hr => ?_)
  obtain rfl := hr
  refine g_aload_0 C dJ1_charAt_3b067_6 rfl ?_
  refine g_iload_1 C dJ1_charAt_3b067_7 rfl ?_
  refine g_sald C hi hk dJ1_charAt_3b067_8 ?_
  refine g_sipush C (v := 255) (by decide) dJ1_charAt_3b067_9 ?_
  refine g_iand C dJ1_charAt_3b067_12 ?_
  refine g_i2c C dJ1_charAt_3b067_13 ?_
  rw [scF_char i hi _ (vp_lt hk)]
  exact g_nreturn C hQ (scF_nar i hi _ (vp_lt hk)) dJ1_charAt_3b067_14 h)
def wpS_charAt {S : Type} (i : Nat) (k : Int32) (σ : S) (post : Int32 → S → Prop) : Prop := i < 8 ∧ vp_in k (slenL.getD i 0) ∧ post (scF i k) σ
theorem cS_charAt {l : Launch} {E : Ev} {S : Type} {w : S → va_W} {σ : S} {post : Int32 → S → Prop} {i : Nat} {k : Int32} (h : wpS_charAt i k σ post) : CI l E w yJ0_charAt_5068e cJ0_charAt_5068e 2 .char rmS_char [.ref (E.2.2 (20 + i)), .int k] σ post := met_i (lv := [some (.ref (E.2.2 (20 + i))), some (.int k)]) (by decide) rfl (Nat.le_of_ble_eq_true rfl) rfl (fun X C hQ => by
  obtain ⟨hi, hk, h⟩ := h
  refine g_aload_0 C dJ0_charAt_5068e_0 rfl ?_
  refine g_callT C 0 (As := []) (rest := []) hi (by decide +kernel) (by decide +kernel) (by decide +kernel) (by decide +kernel) (by decide +kernel) (by decide +kernel) (cS_isLatin1 (post := fun r u => r = 1 ∧ u = σ) hi ⟨rfl, rfl⟩) ⟨rfl, rfl⟩ ⟨Nat.le_of_ble_eq_true rfl, Nat.le_of_ble_eq_true rfl⟩ rfl rfl (Nat.le_of_ble_eq_true rfl) dJ0_charAt_5068e_1 (fun r u hr => ?_)
  obtain ⟨rfl, rfl⟩ := hr
  refine g_if_eq C 16 dJ0_charAt_5068e_4 (by decide) (fun q => absurd q (by decide)) (fun q => ?_)
  refine g_aload_0 C dJ0_charAt_5068e_7 rfl ?_
  refine g_svalue C hi uJ_9 dJ0_charAt_5068e_8 ?_
  refine g_iload_1 C dJ0_charAt_5068e_11 rfl ?_
  refine g_callSi C 2 (As := [.ref (E.2.2 (30 + i)), .int k]) (rest := []) (by decide +kernel) (by decide +kernel) (by decide +kernel) (by decide +kernel) (by decide +kernel) (cS_latin (post := fun r v => r = scF i k ∧ v = u) hi hk ⟨rfl, rfl⟩) ⟨rfl, rfl⟩ ⟨Nat.le_of_ble_eq_true rfl, Nat.le_of_ble_eq_true rfl⟩ rfl rfl (Nat.le_of_ble_eq_true rfl) dJ0_charAt_5068e_12 (fun r v hr => ?_)
  obtain ⟨rfl, rfl⟩ := hr
  exact g_nreturn C hQ (scF_nar i hi _ (vp_lt hk)) dJ0_charAt_5068e_15 h)
/-! a method that answers a constant of the enum, or null -/
def QW (X : Kx) {S : Type} (w : S → va_W) (post : Option Nat → S → Prop) : Prop := match X with
  | (_, _, _, _, s, _, args, below, _, _, Q, A, E, _, kc, ks) => Q = MQ below (va_Qe (fun j => E.2.2 (10 + j)) post (pW E w A) A) args s kc ks A
def CW (l : Launch) (E : Ev) {S : Type} (w : S → va_W) (y : MethodName) (cc : ByteArray) (nL : Nat) (rm : Room) (As : List Value) (σ : S) (post : Option Nat → S → Prop) : Prop := ∀ sz : Nat, Met l y (WS y cc nL (some (.object "IceRun$Word"))) rm (va_Pc As (preW E w σ sz)) (va_Qe (fun j => E.2.2 (10 + j)) post (pW E w (va_A (w σ) sz)) (va_A (w σ) sz)) 0 0 (va_A (w σ) sz)
theorem met_w {l : Launch} {E : Ev} {S : Type} {w : S → va_W} {y : MethodName} {cc : ByteArray} {nL : Nat} {rm : Room} {As : List Value} {σ : S} {post : Option Nat → S → Prop} {lv : List (Option Value)} (hy : plainName y.cls = true) (hc : As.all (fun v => v.category == 1) = true) (hn : As.length ≤ nL) (hlv : lv = As.map some ++ List.replicate (nL - As.length) none)
    (body : ∀ X : Kx, Cx X l E y.cls cc rm (some (.object "IceRun$Word")) → QW X w post → G X w σ 0 lv []) : CW l E w y cc nL rm As σ post := by
  intro sz
  refine Met.ofW (cc := cc) (maxL := nL) (ret := some (.object "IceRun$Word")) hy rfl ?_
  intro p e s m args below meth c s₁ B hml hv
  obtain ⟨rfl, hsz, hP, hD, hF⟩ := hv
  subst hsz
  have hts := atoms_spec (ws := WS y cc nL (some (.object "IceRun$Word"))) B.pre
  have hU : ∀ x ∈ UW, x.before As.toArray s = true := fun x hx => hts x (List.mem_cons_of_mem _ hx)
  have K := body (p, l, e, rm, s, m, As.toArray, below, meth, c, MQ below (va_Qe (fun j => E.2.2 (10 + j)) post (pW E w (va_A (w σ) s.heap.size)) (va_A (w σ) s.heap.size)) As.toArray s 0 0 (va_A (w σ) s.heap.size), va_A (w σ) s.heap.size, E, nL, 0, 0) ⟨⟨B.exec, B.bytes, hml, findClass_of_methodNamed B.named, hU⟩, hF, fun q h => Or.inr h, B.notSynchronized, rfl, B.returns, rfl, rfl, Nat.zero_le _, Nat.zero_le _⟩ rfl
  rw [lg_entry_eq]
  exact K s.heap [] _ hP (hD.self (sz := s.heap.size)) va_S.rf (lvH_entry hc hn hlv)
theorem g_wreturn {X : Kx} {S : Type} {w : S → va_W} {σ : S} {l : Launch} {E : Ev} {own : String} {cc : ByteArray} {rm : Room} {pc : Nat} {lv : List (Option Value)} {post : Option Nat → S → Prop} {j : Nat} (C : Cx X l E own cc rm (some (.object "IceRun$Word"))) (hQ : QW X w post) (d : decode cc pc = .ok (.areturn, 1)) (h : post (some j) σ) : G X w σ pc lv [.ref (E.2.2 (10 + j))] := by
  obtain ⟨p, l', e, R, s, m, args, below, meth, c, Q, A, E', nL, kc, ks⟩ := X
  intro H locs ls hP hD hS hl
  have hE : E' = E := C.2.2.2.2.2.2.2.1
  subst hE
  have hq : Q = _ := hQ
  subst hq
  exact W.aret C.1.1 C.1.2.1 C.2.2.2.2.2.1 (Or.inl ⟨_, rfl⟩) (Or.inr ⟨_, rfl⟩) (fun t ht _ => ⟨⟨some j, σ, rfl, h, by rw [ht]; exact hP, hD⟩, hS.F ht⟩) hS.2.2 d C.2.2.2.1
theorem g_nullreturn {X : Kx} {S : Type} {w : S → va_W} {σ : S} {l : Launch} {E : Ev} {own : String} {cc : ByteArray} {rm : Room} {pc : Nat} {lv : List (Option Value)} {post : Option Nat → S → Prop} (C : Cx X l E own cc rm (some (.object "IceRun$Word"))) (hQ : QW X w post) (d : decode cc pc = .ok (.areturn, 1)) (h : post none σ) : G X w σ pc lv [.null] := by
  obtain ⟨p, l', e, R, s, m, args, below, meth, c, Q, A, E', nL, kc, ks⟩ := X
  intro H locs ls hP hD hS hl
  have hq : Q = _ := hQ
  subst hq
  exact W.aret C.1.1 C.1.2.1 C.2.2.2.2.2.1 (Or.inl ⟨_, rfl⟩) (Or.inl rfl) (fun t ht _ => ⟨⟨none, σ, rfl, h, by rw [ht]; exact hP, hD⟩, hS.F ht⟩) hS.2.2 d C.2.2.2.1
theorem g_callVw {X : Kx} {S : Type} {w : S → va_W} {σ : S} {l : Launch} {E : Ev} {own : String} {cc : ByteArray} {rm : Room} {ret : Option FieldType} {pc : Nat} {lv : List (Option Value)} {st : List Value} (C : Cx X l E own cc rm ret) {y : MethodName} {bytes : ByteArray} {nL' idx : Nat} (n : Nat) {rm' : Room} {As rest : List Value} {post : Option Nat → S → Prop} {b q0 ci N : Nat} {fs : List Value} {T : u_T} {Cn : String} (h1 : Cond.methodLink own idx y ∈ UW) (h2 : Cond.instanceMethod y ∈ UW) (h3 : Cond.selects Cn y y ∈ UW) (h4 : Cond.initialized Cn ∈ UW) (h5 : Cond.code y bytes nL' (some (.object "IceRun$Word")) ∈ UW) (hd : y.cls = Cn ∧ y.cls ≠ "java/lang/invoke/MethodHandle" ∧ y.cls ≠ "java/lang/invoke/VarHandle" ∧ (parseMethodDescriptor y.desc).map (fun d => d.parameters.length) = some n) (he : (w σ)[q0]? = some (b, .inr (ci, fs))) (hc : vwCl[ci]? = some (Cn, T, N)) (hM : CW l E w y bytes nL' rm' (.ref b :: As) σ post) (hz : rm'.cells = 0 ∧ rm'.slots = 0) (hR : rm'.frames + 1 ≤ rm.frames ∧ 8 + (nL' + 11) + rm'.locals ≤ rm.locals) (hn : As.length = n) (hst : st = As.reverse ++ .ref b :: rest) (hW : (rest.map fun v => v.category).sum ≤ 8) (d : decode cc pc = .ok (.invokevirtual idx, 3)) (k0 : ∀ u : S, post none u → G X w u (pc + 3) lv (.null :: rest)) (k1 : ∀ (j : Nat) (u : S), post (some j) u → G X w u (pc + 3) lv (.ref (E.2.2 (10 + j)) :: rest)) : G X w σ pc lv st := by
  obtain ⟨p, l', e, R, s, m, args, below, meth, c, Q, A, E', nL, kc, ks⟩ := X
  intro H locs ls hP hD hS hl
  have hR' : R = rm := C.2.2.2.2.1
  have hl' : l' = l := C.2.2.2.2.2.2.1
  have hE : E' = E := C.2.2.2.2.2.2.2.1
  subst hR'
  subst hl'
  subst hE
  have hFr : ∀ q, va_A (w σ) H.size q → A q := fun q h => h.elim (fun ⟨k9, e9, h9⟩ => hD.2 k9 _ h9) (fun h9 => C.2.2.1 q (Nat.le_trans hS.1 h9))
  subst hst
  exact va_calle (va_runV (As := As) (rest := rest) C.1 (hM H.size) (cwV n C.1.2.2.2.2 (wsV_gi h1 h2 h3 h4 h5) rfl hz.1 hz.2 hd hR) ⟨preW.blind, va_recv C.2.1.1 hP hc he, fun U hU hW9 => ⟨rfl, by rw [hU], by rw [hU]; exact hP, hD.weaken (fun _ _ _ _ => trivial), Fx.call C.2.1 hS hFr hW9 hU⟩⟩ rfl hn hl.1 rfl (lv_room hW) d ⟨C.2.2.2.2.2.2.2.2.1, C.2.2.2.2.2.2.2.2.2⟩) hS (fun q _ h => hFr q h) hFr (fun r u t H1 locs1 ht hvm hp hB hz1 hk1 hS1 => by
    cases r with
    | none => exact k0 u hp H1 locs1 ls (ht ▸ hB.1) (hB.2.weaken (fun _ _ _ h => hFr _ h)) hS1 hl
    | some j => exact k1 j u hp H1 locs1 ls (ht ▸ hB.1) (hB.2.weaken (fun _ _ _ h => hFr _ h)) hS1 hl)

/-! ===== the law's cases ===== -/
def oL (E : Ev) (o : Nat) (f : Nat → Int64) : va_W := [(o, .inl (E.2.1 3, 1, .inr (.inl f)))]
def lvL (b : Nat) (a a' : Nat → Nat) (o : Nat) (i : Int32) (p q : Option Value) : List (Option Value) := [some (.ref b), some (.ref (a 0)), some (.ref (a' 0)), some (.ref o), some (.int i), p, q]
theorem g_asc {X : Kx} {pc : Nat} {lv : List (Option Value)} {st : List Value} {x y z : va_W} (k : G X wid (x ++ (y ++ z)) pc lv st) : G X wid ((x ++ y) ++ z) pc lv st := by
  rw [List.append_assoc]
  exact k
theorem g_csa {X : Kx} {pc : Nat} {lv : List (Option Value)} {st : List Value} {x y z : va_W} (k : G X wid ((x ++ y) ++ z) pc lv st) : G X wid (x ++ (y ++ z)) pc lv st := by
  rw [← List.append_assoc]
  exact k

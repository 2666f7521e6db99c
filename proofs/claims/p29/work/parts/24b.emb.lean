/-! what an embedding's cells hold; cells by number, so that it is told of both -/
/-- graph and block -/
def eG (e n : Nat) (w : xW) (H : Nat → Nat → Bool) (S : Nat → Bool) : Prop := (∀ v, v < 10 → w.1 n v = mk (H v)) ∧ w.1 e 2 = mk S ∧ w.1 e 4 = nI (ec H)
/-- what is placed -/
def eP (e j : Nat) (w : xW) (P : Nat → Nat → Bool) (PV : Nat → Bool) (E : Nat) : Prop := (∀ v, v < 10 → w.1 j v = mk (P v)) ∧ w.1 e 3 = mk PV ∧ w.1 e 5 = nI E
/-- faces and followers -/
def eF (e s f : Nat) (w : xW) (L : List (List Nat)) : Prop := w.1 e 8 = nI L.length ∧ ∀ i c, L[i]? = some c → w.1 s i = mk (fun v => decide (v ∈ c)) ∧ ∀ x y, (x, y) ∈ dts c → w.1 f (10 * i + x) = nI y
/-- the path -/
def eL (e p : Nat) (w : xW) (l : List Nat) : Prop := w.1 e 14 = nI l.length ∧ ∀ i x, l[i]? = some x → w.1 p i = nI x
def adP (P : Nat → Nat → Bool) (a b : Nat) : Nat → Nat → Bool := fun x y => P x y || ab a b x y
def adV (PV : Nat → Bool) (a b : Nat) : Nat → Bool := fun v => PV v || (decide (v = a) || decide (v = b))

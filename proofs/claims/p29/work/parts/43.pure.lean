/-! all blocks are placed -/
def flt (G : Nat → Nat → Bool) (l : List xPr) : Bool := l.all (fun p => decide (bPl G p = bE G p))

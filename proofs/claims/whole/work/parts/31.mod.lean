/-! Pure words: how the reference reads its text. -/
def hrF (X : TxS) (a : Nat) : Int32 := if nI (tN X) ≤ nI a then 0 else tF X a
def mdgB (X : TxS) (a : Nat) : Bool := inB (hrF X a) 48 57

/-- the words of 'throw new X("text")' where X's own constructor calls its super by the pool's entry ix (bytes rx) -/
def vx_atX (own : String) (ic : Nat) (X : String) (ix : Nat) (rx : ByteArray) (names : List String) : List Cond := (Bundle.ownAtomsX own ic X ix rx names).filter vx_no

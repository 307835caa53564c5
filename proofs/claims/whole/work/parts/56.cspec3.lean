def ded (bd : Nat → Nat) (f t k : Nat) : Nat := (((if bd (tkn bd f t) = 0 then 0 else 1) + if tkn bd f t = t then 0 else 2) + if ict bd f t = true then 4 else 0) + if k = 0 then 0 else 8

/-! checks, pins and targets, as the class finds them -/
def pcn (p : Nat → Bool) : Nat → Nat
  | 0 => 0
  | n + 1 => pcn p n + if p n = true then 1 else 0
def pop (x : Int64) : Nat := pcn (bt x) 64
theorem pcn_le (p : Nat → Bool) : ∀ n, pcn p n ≤ n
  | 0 => Nat.le_refl 0
  | n + 1 => by have := pcn_le p n; unfold pcn; split <;> omega
theorem pop_le (x : Int64) : pop x ≤ 64 := pcn_le _ 64
theorem bcE_pop (x : Int64) : bcE x = nI (pop x) := by sorry
def ownS (bd : Nat → Nat) (sd : Nat) : Int64 := sosN bd sd 6
def thrS (bd : Nat → Nat) (sd : Nat) : Int64 := sosN bd (1 - sd) 6
def fulS (bd : Nat → Nat) (sd : Nat) : Int64 := ownS bd sd ||| thrS bd sd
def kngS (bd : Nat → Nat) (sd : Nat) : Int64 := sqs bd (6 * sd + 6)
def jlC (ow co l : Int64) : Int64 := if pop (l &&& ow) = 0 then co &&& l else co
def jlP (ow pn l : Int64) : Int64 := if pop (l &&& ow) = 1 then pn ||| (l &&& ow) else pn
def stE (bd : Nat → Nat) (e : Nat) : Int64 := sqs bd (e + 5) ||| sqs bd (e + 4)
def slE (bd : Nat → Nat) (e : Nat) : Int64 := sqs bd (e + 5) ||| sqs bd (e + 3)
def lin (bd : Nat → Nat) (sd w : Nat) : Int64 := ray (kngS bd sd) (thrS bd sd) w
def hit (bd : Nat → Nat) (sd w : Nat) : Bool := !decide (lin bd sd w &&& (if w < 4 then stE bd (6 * (1 - sd)) else slE bd (6 * (1 - sd))) = 0)
def svN (bd : Nat → Nat) (sd : Nat) : Nat → Int64 × Int64
  | 0 => (-1, 0)
  | n + 1 => if hit bd sd n = true then (jlC (ownS bd sd) (svN bd sd n).1 (lin bd sd n), jlP (ownS bd sd) (svN bd sd n).2 (lin bd sd n)) else svN bd sd n
def lep (bd : Nat → Nat) (sd : Nat) : Int64 := (okn (kngS bd sd) &&& sqs bd (6 * (1 - sd) + 2)) ||| (opw (kngS bd sd) sd &&& sqs bd (6 * (1 - sd) + 1))
def covS (bd : Nat → Nat) (sd : Nat) : Int64 := if lep bd sd = 0 then (svN bd sd 8).1 else (svN bd sd 8).1 &&& (if pop (lep bd sd) = 1 then lep bd sd else 0)
def pinS (bd : Nat → Nat) (sd : Nat) : Int64 := (svN bd sd 8).2

/-! making and taking back, as the class does it -/
set_option maxRecDepth 100000 in
theorem a7_chk : ((List.range 64).all fun f => decide (nI f &&& nI 7 = nI (f % 8)) && decide (nI f &&& nI 56 = nI (f / 8 * 8))) = true := by decide +kernel
theorem a7 {f : Nat} (h : f < 64) : nI f &&& nI 7 = nI (f % 8) ∧ nI f &&& nI 56 = nI (f / 8 * 8) := by
  have := all_lt a7_chk h
  simp only [Bool.and_eq_true, decide_eq_true_eq] at this
  exact this
theorem fr_e {f t k : Nat} (hf : f < 64) (ht : t < 64) (hk : k < 6) : nI (f + 64 * t + 4096 * k) &&& nI 63 = nI f := by
  rw [pk_andN (by omega) 6 (by decide), show (f + 64 * t + 4096 * k) % 2 ^ 6 = f by omega]
theorem to_e {f t k : Nat} (hf : f < 64) (ht : t < 64) (hk : k < 6) : (nI (f + 64 * t + 4096 * k) >>> (nI 6 &&& 31)) &&& nI 63 = nI t := by
  rw [pk_shrN (by omega) _ 6 (by decide), pk_andN (by omega) 6 (by decide), show (f + 64 * t + 4096 * k) / 2 ^ 6 % 2 ^ 6 = t by omega]
theorem be_e {f t k : Nat} (hf : f < 64) (ht : t < 64) (hk : k < 6) : nI (f + 64 * t + 4096 * k) >>> (nI 12 &&& 31) = nI k := by
  rw [pk_shrN (by omega) _ 12 (by decide), show (f + 64 * t + 4096 * k) / 2 ^ 12 = k by omega]
def tkn (bd : Nat → Nat) (f t : Nat) : Nat := if kd (bd f) = 1 ∧ ¬ f % 8 = t % 8 ∧ bd t = 0 then f / 8 * 8 + t % 8 else t
theorem tkn_lt {bd : Nat → Nat} {f t : Nat} (hf : f < 64) (ht : t < 64) : tkn bd f t < 64 := by unfold tkn; split <;> omega
def ict (bd : Nat → Nat) (f t : Nat) : Bool := decide (kd (bd f) = 6) && (decide (t = f + 2) || decide (f = t + 2))
theorem dif16 {f t : Nat} (hf : f < 64) (ht : t < 64) : (nI t - nI f = nI 16 ↔ t = f + 16) := by
  have h := pk_sub_toInt (a := t) (b := f) (by omega) (by omega)
  have h2 : (nI 16).toInt = 16 := rfl
  rw [← Int32.toInt_inj, h, h2]; omega
/-- the square that a pawn passed (64: none), on the board behind the move -/
def pss (g : Nat → Nat) (sd k f t : Nat) : Nat := if kd k = 1 ∧ (t = f + 16 ∨ f = t + 16) then (if opw (sqs g (6 * (1 - sd) + 1)) (1 - sd) &&& bsl 1 (nI ((f + t) / 2)) = 0 then 64 else (f + t) / 2) else 64
def losE (k q r p : Nat) : Int32 := ((nI k ||| nI q <<< (nI 4 &&& 31)) ||| nI r <<< (nI 10 &&& 31)) ||| (pI p + nI 1) <<< (nI 14 &&& 31)
def cry (g : Nat → Nat) (a b : Nat) : Nat → Nat := upN (upN g b (g a)) a 0
def plB1 (bd : Nat → Nat) (f t : Nat) : Nat → Nat := if ict bd f t = true then cry bd (rok f t) ((f + t) / 2) else bd
def plB2 (bd : Nat → Nat) (f t : Nat) : Nat → Nat := cry (upN (plB1 bd f t) (tkn bd f t) 0) f t
/-- the board behind a move, as the class makes it -/
def plB (bd : Nat → Nat) (sd f t k : Nat) : Nat → Nat := if k = 0 then plB2 bd f t else upN (plB2 bd f t) t (6 * sd + k)
def plR0 (rt f t : Nat) : Nat := rt &&& (15 - (crn f ||| crn t))
def plR (bd : Nat → Nat) (sd rt f t : Nat) : Nat := if kd (bd f) = 6 then plR0 rt f t &&& (15 - 3 * 4 ^ sd) else plR0 rt f t
theorem crn_or (f t : Nat) : nI (crn f) ||| nI (crn t) = nI (crn f ||| crn t) ∧ crn f ||| crn t < 16 := by
  have h1 := crn_lt f
  have h2 := crn_lt t
  refine ⟨?_, Nat.or_lt_two_pow (n := 4) h1 h2⟩
  apply Int32.toBitVec_inj.mp
  rw [Int32.toBitVec_or]
  show BitVec.ofNat 32 _ ||| BitVec.ofNat 32 _ = BitVec.ofNat 32 _
  apply BitVec.eq_of_toNat_eq
  rw [BitVec.toNat_or, BitVec.toNat_ofNat, BitVec.toNat_ofNat, BitVec.toNat_ofNat, Nat.mod_eq_of_lt (by omega), Nat.mod_eq_of_lt (by omega), Nat.mod_eq_of_lt (Nat.lt_of_lt_of_le (Nat.or_lt_two_pow (n := 4) h1 h2) (by decide))]
def tbB1 (g : Nat → Nat) (sd f t k : Nat) : Nat → Nat := if k = 0 then cry g t f else upN (cry g t f) f (6 * sd + 1)
def tbB2 (g : Nat → Nat) (sd f t k : Nat) : Nat → Nat := if ict (tbB1 g sd f t k) f t = true then cry (tbB1 g sd f t k) ((f + t) / 2) (rok f t) else tbB1 g sd f t k
/-- the board when a move is taken back -/
def tbB (g : Nat → Nat) (sd f t k q v : Nat) : Nat → Nat := upN (tbB2 g sd f t k) q v
theorem losN {k q r p : Nat} (hk : k < 16) (hq : q < 64) (hr : r < 16) (hp : p < 65) : losE k q r p = nI (k + 16 * q + 1024 * r + 16384 * (if p < 64 then p + 1 else 0)) := by
  have hpp : pI p + nI 1 = nI (if p < 64 then p + 1 else 0) := by
    unfold pI
    by_cases h : p < 64
    · rw [if_pos h, if_pos h, nI_add]
    · rw [if_neg h, if_neg h]; rfl
  have hpl : (if p < 64 then p + 1 else 0) < 65 := by split <;> omega
  unfold losE
  rw [hpp]
  generalize (if p < 64 then p + 1 else 0) = z at hpl
  rw [pk_shlN _ 4 (by decide) (by omega), pk_shlN _ 10 (by decide) (by omega), pk_shlN _ 14 (by decide) (by omega)]
  have nor : ∀ a b j : Nat, a < 2 ^ j → a + b * 2 ^ j < 2 ^ 32 → nI a ||| nI (b * 2 ^ j) = nI (a + b * 2 ^ j) := by
    intro a b j ha hb
    apply Int32.toBitVec_inj.mp
    rw [Int32.toBitVec_or]
    show BitVec.ofNat 32 _ ||| BitVec.ofNat 32 _ = BitVec.ofNat 32 _
    apply BitVec.eq_of_toNat_eq
    have h1 : a < 2 ^ 32 := by omega
    have h2 : b * 2 ^ j < 2 ^ 32 := by omega
    rw [BitVec.toNat_or, BitVec.toNat_ofNat, BitVec.toNat_ofNat, BitVec.toNat_ofNat, Nat.mod_eq_of_lt h1, Nat.mod_eq_of_lt h2, Nat.mod_eq_of_lt hb, Nat.or_comm, Nat.mul_comm, ← Nat.two_pow_add_eq_or_of_lt ha, Nat.add_comm]
  rw [nor k q 4 (by omega) (by omega), nor _ r 10 (by omega) (by omega), nor _ z 14 (by omega) (by omega)]
  exact congrArg nI (by omega)
theorem los_k {k q r p : Nat} (hk : k < 16) (hq : q < 64) (hr : r < 16) (hp : p < 65) : losE k q r p &&& nI 15 = nI k ∧ (losE k q r p >>> (nI 4 &&& 31)) &&& nI 63 = nI q ∧ (losE k q r p >>> (nI 10 &&& 31)) &&& nI 15 = nI r ∧ (losE k q r p >>> (nI 14 &&& 31)) - nI 1 = pI p := by
  rw [losN hk hq hr hp]
  have hpl : (if p < 64 then p + 1 else 0) < 65 := by split <;> omega
  refine ⟨?_, ?_, ?_, ?_⟩
  · rw [pk_andN (by omega) 4 (by decide)]; exact congrArg nI (by omega)
  · rw [pk_shrN (by omega) _ 4 (by decide), pk_andN (by omega) 6 (by decide)]; exact congrArg nI (by omega)
  · rw [pk_shrN (by omega) _ 10 (by decide), pk_andN (by omega) 4 (by decide)]; exact congrArg nI (by omega)
  · rw [pk_shrN (by omega) _ 14 (by decide), show (k + 16 * q + 1024 * r + 16384 * (if p < 64 then p + 1 else 0)) / 2 ^ 14 = (if p < 64 then p + 1 else 0) by omega]
    unfold pI
    by_cases h : p < 64
    · rw [if_pos h, if_pos h, pk_sub (show 1 ≤ p + 1 by omega)]; rfl
    · rw [if_neg h, if_neg h]; rfl

def pliN (bd : Nat → Nat) (sd : Nat) (x : Int64) : Nat → Int64
  | 0 => 0
  | m + 1 => if lin bd sd (7 - m) &&& x = 0 then pliN bd sd x m else lin bd sd (7 - m)
def pli (bd : Nat → Nat) (sd : Nat) (x : Int64) : Int64 := pliN bd sd x 8
theorem pliN_i {bd : Nat → Nat} {sd i : Nat} {x : Int64} (h : i < 8) : pliN bd sd x (8 - i) = if lin bd sd i &&& x = 0 then pliN bd sd x (8 - (i + 1)) else lin bd sd i := by
  obtain ⟨m, hm⟩ : ∃ m, 8 - i = m + 1 := ⟨7 - i, by omega⟩
  rw [hm, show 8 - (i + 1) = m by omega]
  show (if lin bd sd (7 - m) &&& x = 0 then pliN bd sd x m else lin bd sd (7 - m)) = _
  rw [show 7 - m = i by omega]
def nfl (bd : Nat → Nat) (sd : Nat) : Int64 := fulS bd sd ^^^ (-1)
def pw1 (bd : Nat → Nat) (sd : Nat) (x : Int64) : Int64 := if sd = 0 then bsl x (nI 8) &&& nfl bd sd else bsr x (nI 8) &&& nfl bd sd
def pw2 (bd : Nat → Nat) (sd : Nat) (x : Int64) : Int64 := if sd = 0 then bsl (pw1 bd sd x &&& 16711680) (nI 8) &&& nfl bd sd else bsr (pw1 bd sd x &&& 280375465082880) (nI 8) &&& nfl bd sd
def pwy (bd : Nat → Nat) (sd : Nat) (x : Int64) : Int64 := ((opw x sd &&& thrS bd sd) ||| pw1 bd sd x) ||| pw2 bd sd x
def pbk (sd ps : Nat) : Int64 := if sd = 0 then bsr (bsl 1 (nI ps)) (nI 8) else bsl (bsl 1 (nI ps)) (nI 8)
def pfl (bd : Nat → Nat) (sd ps : Nat) (x : Int64) : Int64 := ((fulS bd sd &&& (x ^^^ (-1))) &&& (pbk sd ps ^^^ (-1))) ||| bsl 1 (nI ps)
/-- the target of taking in passing -/
def pst (bd : Nat → Nat) (sd ps : Nat) (x : Int64) : Int64 := if ps = 64 ∨ (opw x sd &&& bsl 1 (nI ps)) &&& nfl bd sd = 0 ∨ pbk sd ps &&& sqs bd (6 * (1 - sd) + 1) = 0 then 0 else if ats bd (1 - sd) (pfl bd sd ps x) (pbk sd ps) &&& kngS bd sd = 0 then bsl 1 (nI ps) else 0
def hom (sd : Nat) : Int64 := bsl 1 (nI (4 + 56 * sd))
def ca1 (bd : Nat → Nat) (sd rt : Nat) : Bool := !decide (rt / 4 ^ sd % 2 = 0) && (!decide (sqs bd (6 * sd + 4) &&& bsl (hom sd) (nI 3) = 0) && decide (fulS bd sd &&& bsl 96 (nI (56 * sd)) = 0))
def ca2 (bd : Nat → Nat) (sd rt : Nat) : Bool := !decide (rt / 4 ^ sd / 2 % 2 = 0) && (!decide (sqs bd (6 * sd + 4) &&& bsr (hom sd) (nI 4) = 0) && decide (fulS bd sd &&& bsl 14 (nI (56 * sd)) = 0))
def ct1 (bd : Nat → Nat) (sd rt : Nat) : Int64 := if ca1 bd sd rt = true then 0 ||| bsl (hom sd) (nI 2) else 0
def ct2 (bd : Nat → Nat) (sd rt : Nat) : Int64 := if ca2 bd sd rt = true then ct1 bd sd rt ||| bsr (hom sd) (nI 2) else ct1 bd sd rt
def cst (bd : Nat → Nat) (sd rt : Nat) : Int64 := if kngS bd sd = hom sd then ct2 bd sd rt else 0
def kst (bd : Nat → Nat) (sd : Nat) : Int64 := okg (kngS bd sd) &&& (ownS bd sd ^^^ (-1))
def dgr (bd : Nat → Nat) (sd : Nat) : Int64 := ats bd (1 - sd) (fulS bd sd &&& (kngS bd sd ^^^ (-1))) 0
def kc1 (bd : Nat → Nat) (sd rt : Nat) : Int64 := if dgr bd sd &&& bsl 112 (nI (56 * sd)) = 0 then cst bd sd rt else cst bd sd rt &&& (bsl (hom sd) (nI 2) ^^^ (-1))
def kc2 (bd : Nat → Nat) (sd rt : Nat) : Int64 := if dgr bd sd &&& bsl 28 (nI (56 * sd)) = 0 then kc1 bd sd rt else kc1 bd sd rt &&& (bsr (hom sd) (nI 2) ^^^ (-1))
def ktg (bd : Nat → Nat) (sd rt : Nat) : Int64 := if kst bd sd ||| cst bd sd rt = 0 then 0 else (kst bd sd &&& (dgr bd sd ^^^ (-1))) ||| kc2 bd sd rt
def wys (bd : Nat → Nat) (sd f : Nat) : Int64 := if kd (bd f) = 1 then pwy bd sd (bsl 1 (nI f)) else if kd (bd f) = 2 then okn (bsl 1 (nI f)) else sld (kd (bd f)) (bsl 1 (nI f)) (fulS bd sd)
def ww1 (bd : Nat → Nat) (sd f : Nat) : Int64 := wys bd sd f &&& (covS bd sd &&& (ownS bd sd ^^^ (-1)))
def ww2 (bd : Nat → Nat) (sd f : Nat) : Int64 := if pinS bd sd &&& bsl 1 (nI f) = 0 then ww1 bd sd f else ww1 bd sd f &&& pli bd sd (bsl 1 (nI f))
/-- where the piece on a square may go -/
def tgt (bd : Nat → Nat) (sd rt ps f : Nat) : Int64 := if kd (bd f) = 6 then ktg bd sd rt else if kd (bd f) = 1 then ww2 bd sd f ||| pst bd sd ps (bsl 1 (nI f)) else ww2 bd sd f
set_option maxRecDepth 100000 in
theorem rs_chk : ((List.range 16).all fun r => (List.range 2).all fun s => decide (nI r >>> (nI (2 * s) &&& 31) = nI (r / 4 ^ s)) && decide (nI r &&& nI 1 = nI (r % 2)) && decide (nI r &&& nI 2 = nI (r / 2 % 2 * 2)) && decide (r / 4 ^ s < 16)) = true := by decide +kernel
theorem rs_e {r s : Nat} (hr : r < 16) (hs : s < 2) : nI r >>> (nI (2 * s) &&& 31) = nI (r / 4 ^ s) ∧ nI r &&& nI 1 = nI (r % 2) ∧ nI r &&& nI 2 = nI (r / 2 % 2 * 2) ∧ r / 4 ^ s < 16 := by
  have := all_lt (all_lt rs_chk hr) hs
  simp only [Bool.and_eq_true, decide_eq_true_eq] at this
  exact ⟨this.1.1.1, this.1.1.2, this.1.2, this.2⟩
theorem pI_m1 {n : Nat} (h : n < 65) : pI n = (-1) ↔ n = 64 := by
  unfold pI
  by_cases h2 : n < 64
  · rw [if_pos h2]
    exact ⟨fun z => by have := congrArg Int32.toInt z; rw [nI_toInt (by omega)] at this; have e : (-1 : Int32).toInt = -1 := rfl; omega, fun z => by omega⟩
  · rw [if_neg h2]; exact ⟨fun _ => by omega, fun _ => rfl⟩

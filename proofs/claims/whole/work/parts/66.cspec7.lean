theorem sqf_congr {f g : Nat → Bool} (h : ∀ i, i < 64 → f i = g i) : sqf f = sqf g := bt_ext (fun i hi => by rw [bt_sqf hi, bt_sqf hi, h i hi])
theorem sqs_congr {g g' : Nat → Nat} (h : ∀ q, q < 64 → g q = g' q) (k : Nat) : sqs g k = sqs g' k := sqf_congr (fun i hi => by rw [h i hi])
theorem CP_congr {p : Nat → Int32} {s : Nat → Int64} {g g' : Nat → Nat} (h : ∀ q, q < 64 → g q = g' q) (hC : CP p s g) : CP p s g' := ⟨fun q hq => by rw [← h q hq]; exact hC.1 q hq, fun k hk => by rw [← sqs_congr h k]; exact hC.2 k hk⟩
def emN (bd : Nat → Nat) : Nat → Nat → Nat
  | 0 => bd
  | i + 1 => upN (emN bd i) i 0
theorem emN_at {bd : Nat → Nat} : ∀ i q, q < i → emN bd i q = 0
  | 0, _, h => absurd h (Nat.not_lt_zero _)
  | i + 1, q, h => by
    show upN (emN bd i) i 0 q = 0
    by_cases e : q = i
    · rw [e, upN_eq]
    · rw [upN_ne e, emN_at i q (by omega)]
def lyN : Nat → Nat → Nat
  | 0 => fun _ => 0
  | i + 1 => upN (upN (upN (upN (lyN i) i (hmf i)) (8 + i) 1) (48 + i) 7) (56 + i) (6 + hmf i)
set_option maxRecDepth 100000 in
theorem ly_chk : ((List.range 64).all fun q => decide (lyN 8 q = bgn q)) = true := by decide +kernel
theorem ly_e : ∀ q, q < 64 → lyN 8 q = bgn q := fun q hq => of_decide_eq_true (all_lt ly_chk hq)
theorem fr_chk : ((List.range 8).all fun q => decide (frL.getD q 0 = nI (hmf q))) = true := by decide +kernel
theorem frL_e {q : Nat} (h : q < 8) : frL.getD q 0 = nI (hmf q) := of_decide_eq_true (all_lt fr_chk h)
theorem nI_m1 {n : Nat} (h : n < 2 ^ 31) : ¬ nI n = (-1) := fun z => by
  have h2 := congrArg Int32.toInt z
  rw [nI_toInt h] at h2
  have e : (-1 : Int32).toInt = -1 := rfl
  omega
theorem tbl3 {x : Int32} (h0 : ¬ x = nI 0) (h1 : ¬ x = nI 1) (h2 : ¬ x = nI 2) (h3 : ¬ x = nI 3) : x.toInt < 0 ∨ 3 < x.toInt := by
  have e0 : (nI 0).toInt = 0 := rfl
  have e1 : (nI 1).toInt = 1 := rfl
  have e2 : (nI 2).toInt = 2 := rfl
  have e3 : (nI 3).toInt = 3 := rfl
  rw [← Int32.toInt_inj] at h0 h1 h2 h3
  omega
def lkC (sd rt : Nat) (pa ma x : Int32) : Int32 := if x = nI 0 then nI sd else if x = nI 1 then nI rt else if x = nI 2 then pa else if x = nI 3 then ma else -1

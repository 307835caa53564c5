/-! the reference's public calls -/
def bgn (q : Nat) : Nat := if q < 8 then hmf q else if q < 16 then 1 else if q < 48 then 0 else if q < 56 then 7 else 6 + hmf (q - 56)
def ptc (x y : Int32) : Nat := if isq x = false then 1 else if y < 0 ∨ nI 12 < y then 2 else 0
def stc (x y z : Int32) : Nat := if x < 0 ∨ nI 1 < x ∨ y < 0 ∨ nI 15 < y ∨ z < -1 ∨ nI 63 < z then 1 else 0
theorem hmf_lt (f : Nat) : hmf f < 7 := by unfold hmf; (repeat' split) <;> omega
/-- the place of a move among the first n of the list; 64000 for none -/
def plc (L : List Nat) (x : Int32) : Nat → Int32
  | 0 => -1
  | n + 1 => if nI (L.getD n 0) = x then nI n else plc L x n
def onc (L : List Nat) (x : Int32) (w : Bool) : Nat → Nat
  | 0 => 0
  | n + 1 => onc L x w n + if nI (if w = true then L.getD n 0 % 64 else L.getD n 0 / 64 % 64) = x then 1 else 0
theorem onc_le (L : List Nat) (x : Int32) (w : Bool) : ∀ n, onc L x w n ≤ n
  | 0 => Nat.le_refl 0
  | n + 1 => by have := onc_le L x w n; unfold onc; (repeat' split) <;> omega
/-- what need answers, and the size that it leaves -/
def ndN (bd : Nat → Nat) (sd : Nat) : Nat := if plb bd sd = true then 0 else 1
def szN (bd : Nat → Nat) (sd rt ps : Nat) : Nat := if plb bd sd = true then (legs bd sd rt ps).length else 0
def lgs (bd : Nat → Nat) (sd rt ps : Nat) : List Nat := if plb bd sd = true then legs bd sd rt ps else []
theorem szN_eq (bd : Nat → Nat) (sd rt ps : Nat) : szN bd sd rt ps = (lgs bd sd rt ps).length := by unfold szN lgs; split <;> rfl
theorem mvx_lt (x : Nat) (h : x < 24576) : mvx x < 24576 := by unfold mvx; omega
theorem legs_lt {bd : Nat → Nat} {sd rt ps y : Nat} (h : y ∈ legs bd sd rt ps) : y < 24576 := by
  unfold legs lgN at h
  obtain ⟨x, hx, he⟩ := List.mem_filterMap.mp h
  split at he
  · cases he; exact mvx_lt x (List.mem_range.mp hx)
  · cases he
theorem getD_lt {L : List Nat} {n b : Nat} (h : ∀ y ∈ L, y < b) (hb : 0 < b) : L.getD n 0 < b := by
  rw [List.getD_eq_getElem?_getD]
  cases e : L[n]? with
  | none => exact hb
  | some v => exact h v (List.mem_of_getElem? e)
theorem lgs_lt {bd : Nat → Nat} {sd rt ps : Nat} : ∀ y ∈ lgs bd sd rt ps, y < 24576 := by
  intro y hy
  unfold lgs at hy
  split at hy
  · exact legs_lt hy
  · cases hy
theorem plb_k {bd : Nat → Nat} {sd w : Nat} (hw : w < 2) (h : plb bd sd = true) : kgs bd w < 64 := by
  unfold plb at h
  simp only [Bool.and_eq_true, decide_eq_true_eq] at h
  have : w = 0 ∨ w = 1 := by omega
  rcases this with rfl | rfl
  · exact h.1
  · exact h.2.1
theorem kg_both {bd : Nat → Nat} (h0 : kgs bd 0 < 64) (h1 : kgs bd 1 < 64) : ∀ w, w < 2 → kgs bd w < 64 := by
  intro w hw
  have : w = 0 ∨ w = 1 := by omega
  rcases this with rfl | rfl
  · exact h0
  · exact h1

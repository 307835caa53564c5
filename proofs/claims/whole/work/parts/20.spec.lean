/-! the reference's words as functions of natural numbers -/
/-- the kind of a piece -/
def kd (k : Nat) : Nat := if k < 7 then k else k - 6
/-- how far apart -/
def ap (a b : Nat) : Nat := if b < a then a - b else b - a
/-- the side of a piece: 2 for none -/
def sdN (k : Nat) : Nat := if k = 0 then 2 else if k < 7 then 0 else 1
def sdI (k : Nat) : Int32 := if k = 0 then -1 else nI (if k < 7 then 0 else 1)
theorem sdI_eq {k w : Nat} (hw : w < 2) : sdI k = nI w ↔ sdN k = w := by
  unfold sdI sdN
  by_cases h : k = 0
  · simp only [h, if_true]
    constructor
    · intro e
      have : w = 0 ∨ w = 1 := by omega
      rcases this with rfl | rfl
      · exact absurd e (by decide)
      · exact absurd e (by decide)
    · intro e; omega
  · simp only [h, if_false]
    exact nI_eq (by split <;> omega) (by omega)
def crn (s : Nat) : Nat := if s = 7 then 1 else if s = 0 then 2 else if s = 63 then 4 else if s = 56 then 8 else 0
def hmf (f : Nat) : Nat := if f = 0 ∨ f = 7 then 4 else if f = 1 ∨ f = 6 then 2 else if f = 2 ∨ f = 5 then 3 else if f = 3 then 5 else 6
theorem kd_lt {k : Nat} (h : k < 13) : kd k < 7 := by unfold kd; split <;> omega
theorem ap_lt {a b n : Nat} (h : a < n) (h2 : b < n) : ap a b < n := by unfold ap; split <;> omega
/-- a step's sign, as an Int -/
def sgn (a b : Nat) : Int := if a < b then 1 else if b < a then -1 else 0
/-- square i on the way from f to t -/
def pt (f t i : Nat) : Nat := ((f : Int) + i * (8 * sgn (f / 8) (t / 8) + sgn (f % 8) (t % 8))).toNat
def far (f t : Nat) : Nat := max (ap (f % 8) (t % 8)) (ap (f / 8) (t / 8))
def lined (f t : Nat) : Bool := decide (f ≠ t) && (decide (f % 8 = t % 8) || decide (f / 8 = t / 8) || decide (ap (f % 8) (t % 8) = ap (f / 8) (t / 8)))
/-- all squares between are empty -/
def freN (bd : Nat → Nat) (f t n : Nat) : Bool := (List.range n).all fun i => i = 0 || bd (pt f t i) == 0
def fre (bd : Nat → Nat) (f t : Nat) : Bool := freN bd f t (far f t)
def atk (bd : Nat → Nat) (f t : Nat) : Bool :=
  if kd (bd f) = 0 ∨ f = t then false
  else if kd (bd f) = 1 then decide (ap (f % 8) (t % 8) = 1 ∧ if bd f = 1 then t / 8 = f / 8 + 1 else f / 8 = t / 8 + 1)
  else if kd (bd f) = 2 then decide (ap (f % 8) (t % 8) * ap (f / 8) (t / 8) = 2)
  else if kd (bd f) = 6 then decide (ap (f % 8) (t % 8) < 2 ∧ ap (f / 8) (t / 8) < 2)
  else (if ap (f % 8) (t % 8) = 0 ∨ ap (f / 8) (t / 8) = 0 then decide (kd (bd f) ≠ 3) else decide (ap (f % 8) (t % 8) = ap (f / 8) (t / 8) ∧ kd (bd f) ≠ 4)) && fre bd f t
def isq (x : Int32) : Bool := decide (0 ≤ x.toInt ∧ x.toInt < 64)
theorem isq_f1 {x : Int32} (h : x < 0) : isq x = false := by
  have h1 := Int32.lt_iff_toInt_lt.mp h
  have h0 : (0 : Int32).toInt = 0 := rfl
  exact decide_eq_false (by omega)
theorem isq_f2 {x : Int32} (h : nI 64 ≤ x) : isq x = false := by
  have h1 := Int32.le_iff_toInt_le.mp h
  have h0 : (nI 64).toInt = 64 := rfl
  exact decide_eq_false (by omega)
theorem isq_t {x : Int32} (h : ¬ x < 0) (h2 : ¬ nI 64 ≤ x) : isq x = true := by
  rw [Int32.lt_iff_toInt_lt] at h
  rw [Int32.le_iff_toInt_le] at h2
  have h0 : (0 : Int32).toInt = 0 := rfl
  have h1 : (nI 64).toInt = 64 := rfl
  exact decide_eq_true (by omega)
theorem isq_n {n : Nat} (h : n < 2 ^ 31) : isq (nI n) = decide (n < 64) := by
  unfold isq
  rw [nI_toInt h]
  exact decide_eq_decide.mpr (by omega)
theorem isq_of {x : Int32} (h : isq x = true) : ∃ n, n < 64 ∧ x = nI n := by
  have h := of_decide_eq_true h
  have hx : ¬ x < 0 := by rw [Int32.lt_iff_toInt_lt]; have h0 : (0 : Int32).toInt = 0 := rfl; omega
  obtain ⟨j, hj, rfl⟩ := nI_of hx
  rw [nI_toInt hj] at h
  exact ⟨j, by omega, rfl⟩

/-! squares on a line -/
def sgI (a b : Nat) : Int32 := if a < b then 1 else if b < a then -1 else 0
def stI (f t : Nat) : Int32 := nI 8 * sgI (f / 8) (t / 8) + sgI (f % 8) (t % 8)
set_option maxRecDepth 100000 in
theorem pt_chk : ((List.range 64).all fun f => (List.range 64).all fun t => !lined f t || (((List.range (far f t)).all fun i => decide (pt f t i < 64) && decide (nI (pt f t i) + stI f t = nI (pt f t (i + 1))) && decide (pt f t i ≠ t)) && decide (pt f t (far f t) = t) && decide (1 ≤ far f t) && decide (far f t ≤ 7) && decide (pt f t 0 = f))) = true := by decide +kernel
theorem all_lt {n : Nat} {p : Nat → Bool} (h : (List.range n).all p = true) {i : Nat} (hi : i < n) : p i = true := List.all_eq_true.mp h i (List.mem_range.mpr hi)
theorem pt_all {f t : Nat} (hf : f < 64) (ht : t < 64) (hl : lined f t = true) : (∀ i, i < far f t → pt f t i < 64 ∧ nI (pt f t i) + stI f t = nI (pt f t (i + 1)) ∧ pt f t i ≠ t) ∧ pt f t (far f t) = t ∧ 1 ≤ far f t ∧ far f t ≤ 7 ∧ pt f t 0 = f := by
  have h := all_lt (all_lt pt_chk hf) ht
  rw [hl] at h
  simp only [Bool.not_true, Bool.false_or, Bool.and_eq_true, decide_eq_true_eq] at h
  obtain ⟨⟨⟨⟨h1, h2⟩, h3⟩, h4⟩, h5⟩ := h
  refine ⟨fun i hi => ?_, h2, h3, h4, h5⟩
  have h6 := all_lt h1 hi
  simp only [Bool.and_eq_true, decide_eq_true_eq] at h6
  exact ⟨h6.1.1, h6.1.2, h6.2⟩
theorem pt_lt {f t i : Nat} (hf : f < 64) (ht : t < 64) (hl : lined f t = true) (hi : i ≤ far f t) : pt f t i < 64 := by
  obtain ⟨h1, h2, -⟩ := pt_all hf ht hl
  rcases Nat.lt_or_eq_of_le hi with h | h
  · exact (h1 i h).1
  · rw [h, h2]; exact ht
theorem pt_end {f t i : Nat} (hf : f < 64) (ht : t < 64) (hl : lined f t = true) (hi : i ≤ far f t) (h : pt f t i = t) : i = far f t := by
  obtain ⟨h1, h2, -⟩ := pt_all hf ht hl
  rcases Nat.lt_or_eq_of_le hi with h3 | h3
  · exact absurd h (h1 i h3).2.2
  · exact h3
theorem pt_nend {f t i : Nat} (hf : f < 64) (ht : t < 64) (hl : lined f t = true) (hi : i ≤ far f t) (h : ¬ pt f t i = t) : i < far f t := by
  obtain ⟨h1, h2, -⟩ := pt_all hf ht hl
  rcases Nat.lt_or_eq_of_le hi with h3 | h3
  · exact h3
  · rw [h3] at h; exact absurd h2 h
theorem pt_1 {f t : Nat} (hf : f < 64) (ht : t < 64) (hl : lined f t = true) : nI f + nI 8 * sgI (f / 8) (t / 8) + sgI (f % 8) (t % 8) = nI (pt f t 1) := by
  obtain ⟨h1, -, h3, -, h5⟩ := pt_all hf ht hl
  have := (h1 0 h3).2.1
  rw [h5] at this
  rw [← this, stI, Int32.add_assoc]
theorem pt_s {f t i : Nat} (hf : f < 64) (ht : t < 64) (hl : lined f t = true) (hi : i < far f t) : nI (pt f t i) + (nI 8 * sgI (f / 8) (t / 8) + sgI (f % 8) (t % 8)) = nI (pt f t (i + 1)) := ((pt_all hf ht hl).1 i hi).2.1
theorem freN_1 (bd : Nat → Nat) (f t : Nat) : freN bd f t 1 = true := rfl
theorem freN_s (bd : Nat → Nat) (f t i : Nat) : freN bd f t (i + 1) = (freN bd f t i && (decide (i = 0) || bd (pt f t i) == 0)) := by
  unfold freN
  rw [List.range_succ, List.all_append]
  simp
theorem freN_f {bd : Nat → Nat} {f t i : Nat} (h : freN bd f t i = false) : nI 0 = bI (freN bd f t (i + 1)) := by rw [freN_s, h]; rfl
theorem freN_n {bd : Nat → Nat} {f t i : Nat} (h0 : 1 ≤ i) (h : ¬ bd (pt f t i) = 0) : nI 0 = bI (freN bd f t (i + 1)) := by
  rw [freN_s, show decide (i = 0) = false from decide_eq_false (by omega), show (bd (pt f t i) == 0) = false from by simpa using h, Bool.or_false, Bool.and_false]; rfl
theorem freN_y {bd : Nat → Nat} {f t i : Nat} (h1 : freN bd f t i = true) (h : bd (pt f t i) = 0) : nI 1 = bI (freN bd f t (i + 1)) := by rw [freN_s, h1, h]; simp; rfl
/-- a board's pieces at a place of the array -/
def Bp (F : Nat → Int32) (b : Nat) (bd : Nat → Nat) : Prop := ∀ q, q < 64 → F (b + q) = nI (bd q) ∧ bd q < 13
abbrev rW (cI : ClassId) (hm b0 b1 b2 b3 : Nat) (th mk sz : Int32) (F mv kp li : Nat → Int32) : va_W := [(hm, .inr (4, [.int th, .ref b0, .int mk, .ref b1, .ref b2, .int sz, .ref b3])), (b0, .inl (cI, 402, .inl F)), (b1, .inl (cI, 200, .inl mv)), (b2, .inl (cI, 13400, .inl kp)), (b3, .inl (cI, 1024, .inl li))]

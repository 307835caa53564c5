/-! the class's public calls -/
/-- what is known of the list -/
def KLp (kb ob : Bool) (lsz : Int32) (lfs : Nat → Int32) (bd : Nat → Nat) (sd rt ps : Nat) : Prop := kb = true → ob = cbp bd sd ∧ (ob = true → lsz = nI (fil bd sd rt ps).length ∧ LI lfs (fil bd sd rt ps))
theorem fr9 {y : Nat} (h : y < 24576) : nI y &&& nI 63 = nI (y % 64) := by rw [pk_andN (by omega) 6 (by decide)]
theorem to9 {y : Nat} (h : y < 24576) : (nI y >>> (nI 6 &&& 31)) &&& nI 63 = nI (y / 64 % 64) := by rw [pk_shrN (by omega) _ 6 (by decide), pk_andN (by omega) 6 (by decide)]
/-- a move that can be made and taken back -/
def GM (bd : Nat → Nat) (sd f t k : Nat) : Prop := f < 64 ∧ t < 64 ∧ k < 6 ∧ (ict bd f t = true → (t ≤ f → 4 ≤ f) ∧ rok f t < 64) ∧ (ict (tbB1 (plB bd sd f t k) sd f t k) f t = true → (t ≤ f → 4 ≤ f) ∧ rok f t < 64) ∧ ∀ q, q < 64 → tbB (plB bd sd f t k) sd f t k (tkn bd f t) (bd (tkn bd f t)) q = bd q
def GMy (bd : Nat → Nat) (sd y : Nat) : Prop := ∃ f t k, y = f + 64 * t + 4096 * k ∧ GM bd sd f t k
def knC (bd : Nat → Nat) (sd rt f t k : Nat) : Nat := (ded bd f t k + if kia (plB bd sd f t k) (1 - sd) = true then 16 else 0) + if tly (plB bd sd f t k) (1 - sd) (plR bd sd rt f t) (pss (plB bd sd f t k) sd (bd f) f t) = 0 then 32 else 0
theorem ded_le (bd : Nat → Nat) (f t k : Nat) : ded bd f t k ≤ 15 := by unfold ded; (repeat' split) <;> omega
/-- counting, as the class does it -/
def cb1 (bd : Nat → Nat) (sd rt : Nat) (y : Nat) : Nat := tly (plB bd sd (y % 64) (y / 64 % 64) (y / 4096)) (1 - sd) (plR bd sd rt (y % 64) (y / 64 % 64)) (pss (plB bd sd (y % 64) (y / 64 % 64) (y / 4096)) sd (bd (y % 64)) (y % 64) (y / 64 % 64))
def cb2 (bd : Nat → Nat) (sd rt : Nat) (y : Nat) : Nat := ((fil (plB bd sd (y % 64) (y / 64 % 64) (y / 4096)) (1 - sd) (plR bd sd rt (y % 64) (y / 64 % 64)) (pss (plB bd sd (y % 64) (y / 64 % 64) (y / 4096)) sd (bd (y % 64)) (y % 64) (y / 64 % 64))).map (cb1 (plB bd sd (y % 64) (y / 64 % 64) (y / 4096)) (1 - sd) (plR bd sd rt (y % 64) (y / 64 % 64)))).sum
theorem tly_le (bd : Nat → Nat) (sd rt ps : Nat) : tly bd sd rt ps ≤ 16384 := by
  have h := tlT_le (bd := bd) (sd := sd) (rt := rt) (ps := ps) (pop (ownS bd sd)) (Nat.le_refl _)
  have h2 := pop_le (ownS bd sd)
  have e : tlT bd sd rt ps (pop (ownS bd sd)) = tly bd sd rt ps := by unfold tlT tly; rw [pop_len, List.take_length]
  omega
theorem plR_lt {bd : Nat → Nat} {sd rt f t : Nat} (h : rt < 16) : plR bd sd rt f t < 16 := by unfold plR plR0; split; exact and16 (and16 h); exact and16 h
theorem pss_lt {g : Nat → Nat} {sd k f t : Nat} (hf : f < 64) (ht : t < 64) : pss g sd k f t < 65 := by unfold pss; (repeat' split) <;> omega
theorem isq_pI {n : Nat} (h : n < 64) : isq (pI n) = true := by rw [pI_lt h]; exact isq_t9 h
theorem onc_s (L : List Nat) (x : Int32) (w : Bool) (n : Nat) : onc L x w (n + 1) = onc L x w n + if nI (if w = true then L.getD n 0 % 64 else L.getD n 0 / 64 % 64) = x then 1 else 0 := rfl

def gz (k a b : Nat) : Bool := if a = 0 ∨ b = 0 then decide (k ≠ 3) else decide (a = b ∧ k ≠ 4)
theorem atk_0 {bd : Nat → Nat} {f t : Nat} (h : kd (bd f) = 0 ∨ f = t) : atk bd f t = false := by unfold atk; rw [if_pos h]
theorem pawn_d : ∀ a, a < 8 → ∀ b, b < 8 → ((nI a - nI b = 1 ↔ a = b + 1) ∧ (nI a - nI b = -1 ↔ b = a + 1)) := by decide +kernel
theorem atk_1 {bd : Nat → Nat} {f t : Nat} (hf : f < 64) (ht : t < 64) (h1 : ¬ f = t) (h : kd (bd f) = 1) : atk bd f t = decide (ap (f % 8) (t % 8) = 1 ∧ nI (t / 8) - nI (f / 8) = if bd f = 1 then 1 else -1) := by
  unfold atk
  rw [if_neg (by omega), if_pos h]
  have h2 := pawn_d (t / 8) (by omega) (f / 8) (by omega)
  refine decide_eq_decide.mpr ⟨fun ⟨a, b⟩ => ⟨a, ?_⟩, fun ⟨a, b⟩ => ⟨a, ?_⟩⟩
  · by_cases hb : bd f = 1
    · rw [if_pos hb] at b ⊢; exact h2.1.mpr b
    · rw [if_neg hb] at b ⊢; exact h2.2.mpr b
  · by_cases hb : bd f = 1
    · rw [if_pos hb] at b ⊢; exact h2.1.mp b
    · rw [if_neg hb] at b ⊢; exact h2.2.mp b
theorem atk_2 {bd : Nat → Nat} {f t : Nat} (h1 : ¬ f = t) (h : kd (bd f) = 2) : atk bd f t = decide (ap (f % 8) (t % 8) * ap (f / 8) (t / 8) = 2) := by unfold atk; rw [if_neg (by omega), if_neg (by omega), if_pos h]
theorem atk_6 {bd : Nat → Nat} {f t : Nat} (h1 : ¬ f = t) (h : kd (bd f) = 6) : atk bd f t = decide (ap (f % 8) (t % 8) < 2 ∧ ap (f / 8) (t / 8) < 2) := by unfold atk; rw [if_neg (by omega), if_neg (by omega), if_neg (by omega), if_pos h]
theorem atk_s {bd : Nat → Nat} {f t : Nat} (h0 : ¬ kd (bd f) = 0) (h1 : ¬ f = t) (h2 : ¬ kd (bd f) = 1) (h3 : ¬ kd (bd f) = 2) (h4 : ¬ kd (bd f) = 6) : atk bd f t = (gz (kd (bd f)) (ap (f % 8) (t % 8)) (ap (f / 8) (t / 8)) && fre bd f t) := by
  unfold atk
  rw [if_neg (by omega), if_neg h2, if_neg h3, if_neg h4]
  rfl
theorem ap_0 {a b : Nat} : ap a b = 0 ↔ a = b := by unfold ap; split <;> omega
theorem gz_lined {k f t : Nat} (hn : ¬ f = t) (h : gz k (ap (f % 8) (t % 8)) (ap (f / 8) (t / 8)) = true) : lined f t = true := by
  unfold lined
  unfold gz at h
  simp only [Bool.and_eq_true, Bool.or_eq_true, decide_eq_true_eq]
  refine ⟨hn, ?_⟩
  by_cases h2 : ap (f % 8) (t % 8) = 0 ∨ ap (f / 8) (t / 8) = 0
  · rcases h2 with h2 | h2
    · exact Or.inl (Or.inl (ap_0.mp h2))
    · exact Or.inl (Or.inr (ap_0.mp h2))
  · rw [if_neg h2] at h
    exact Or.inr (of_decide_eq_true h).1
def anyN (bd : Nat → Nat) (q w n : Nat) : Bool := (List.range n).any fun s => decide (sdN (bd s) = w) && atk bd s q
def isA (bd : Nat → Nat) (q w : Nat) : Bool := anyN bd q w 64
theorem anyN_s (bd : Nat → Nat) (q w n : Nat) : anyN bd q w (n + 1) = (anyN bd q w n || (decide (sdN (bd n) = w) && atk bd n q)) := by
  unfold anyN
  rw [List.range_succ, List.any_append]
  simp
theorem anyN_t {bd : Nat → Nat} {q w n : Nat} (hn : n ≤ 64) (h : anyN bd q w n = true) : isA bd q w = true := by
  unfold isA
  unfold anyN at h ⊢
  obtain ⟨x, hx, h2⟩ := List.any_eq_true.mp h
  exact List.any_eq_true.mpr ⟨x, List.mem_range.mpr (Nat.lt_of_lt_of_le (List.mem_range.mp hx) hn), h2⟩
def kc (bd : Nat → Nat) (w : Nat) : Nat → Nat
  | 0 => 0
  | n + 1 => kc bd w n + if bd n = 6 + 6 * w then 1 else 0
def kat (bd : Nat → Nat) (w : Nat) : Nat → Nat
  | 0 => 64
  | n + 1 => if bd n = 6 + 6 * w then n else kat bd w n
def pI (n : Nat) : Int32 := if n < 64 then nI n else -1
/-- where the king stands; 64 if there is not just one -/
def kgs (bd : Nat → Nat) (w : Nat) : Nat := if kc bd w 64 = 1 then kat bd w 64 else 64
theorem pI_lt {n : Nat} (h : n < 64) : pI n = nI n := if_pos h
theorem pI_64 : pI 64 = -1 := rfl
theorem kc_le (bd : Nat → Nat) (w : Nat) : ∀ n, kc bd w n ≤ n
  | 0 => Nat.le_refl 0
  | n + 1 => by have := kc_le bd w n; unfold kc; split <;> omega
theorem kat_le (bd : Nat → Nat) (w : Nat) : ∀ n, n ≤ 64 → kat bd w n ≤ 64
  | 0, _ => Nat.le_refl 64
  | n + 1, h => by have := kat_le bd w n (by omega); unfold kat; split <;> omega
theorem pI_neg {n : Nat} (h : n ≤ 64) : pI n < 0 ↔ ¬ n < 64 := by
  unfold pI
  by_cases h2 : n < 64
  · rw [if_pos h2]; exact ⟨fun z => absurd z (nI_pos (by omega)), fun z => absurd h2 z⟩
  · rw [if_neg h2]; exact ⟨fun _ => h2, fun _ => by decide⟩

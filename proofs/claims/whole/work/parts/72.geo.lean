/-! ways over the board -/
def go1 (w q : Nat) : Nat :=
  if 64 ≤ q then 64 else if w = 0 then (if q < 56 then q + 8 else 64) else if w = 1 then (if 8 ≤ q then q - 8 else 64)
  else if w = 2 then (if q % 8 < 7 then q + 1 else 64) else if w = 3 then (if 0 < q % 8 then q - 1 else 64)
  else if w = 4 then (if q < 56 ∧ q % 8 < 7 then q + 9 else 64) else if w = 5 then (if q < 56 ∧ 0 < q % 8 then q + 7 else 64)
  else if w = 6 then (if 8 ≤ q ∧ q % 8 < 7 then q - 7 else 64) else (if 8 ≤ q ∧ 0 < q % 8 then q - 9 else 64)
def opp (w : Nat) : Nat := [1, 0, 3, 2, 7, 6, 5, 4].getD w 0
theorem opp_lt : ∀ w, w < 8 → opp w < 8 := by decide
theorem opp_opp : ∀ w, w < 8 → opp (opp w) = w := by decide
theorem opp_4 : ∀ w, w < 8 → (opp w < 4 ↔ w < 4) := by decide
def goN (w : Nat) : Nat → Nat → Nat
  | 0, q => q
  | n + 1, q => goN w n (go1 w q)
theorem go1_le (w q : Nat) : go1 w q ≤ 64 := by unfold go1; (repeat' split) <;> omega
theorem go1_out {w q : Nat} (h : 64 ≤ q) : go1 w q = 64 := if_pos h
theorem goN_out {w : Nat} : ∀ n, goN w n 64 = 64
  | 0 => rfl
  | n + 1 => by show goN w n (go1 w 64) = 64; rw [go1_out (Nat.le_refl 64)]; exact goN_out n
theorem goN_s (w : Nat) : ∀ n q, goN w (n + 1) q = go1 w (goN w n q)
  | 0, _ => rfl
  | n + 1, q => goN_s w n (go1 w q)
theorem goN_add (w : Nat) : ∀ n m q, goN w (n + m) q = goN w m (goN w n q)
  | 0, m, q => by rw [Nat.zero_add]; rfl
  | n + 1, m, q => by rw [show n + 1 + m = (n + m) + 1 by omega]; exact goN_add w n m (go1 w q)
theorem goN_le (w : Nat) {q : Nat} (hq : q ≤ 64) : ∀ n, goN w n q ≤ 64
  | 0 => hq
  | n + 1 => goN_le w (go1_le w q) n
theorem goN_lt {w q n j : Nat} (hq : q ≤ 64) (h : goN w n q < 64) (hj : j ≤ n) : goN w j q < 64 := by
  obtain ⟨d, rfl⟩ := Nat.exists_eq_add_of_le hj
  rw [goN_add] at h
  rcases Nat.lt_or_ge (goN w j q) 64 with h1 | h1
  · exact h1
  · have := goN_le w hq j
    rw [show goN w j q = 64 by omega, goN_out] at h
    omega
set_option maxRecDepth 100000 in
theorem op_chk : ((List.range 8).all fun w => (List.range 64).all fun q => !decide (go1 w q < 64) || decide (go1 (opp w) (go1 w q) = q)) = true := by decide +kernel
theorem go1_op {w q : Nat} (hw : w < 8) (hq : q < 64) (h : go1 w q < 64) : go1 (opp w) (go1 w q) = q := by
  have := all_lt (all_lt op_chk hw) hq
  simp only [h, decide_true, Bool.not_true, Bool.false_or, decide_eq_true_eq] at this
  exact this
theorem goN_op {w : Nat} (hw : w < 8) : ∀ n q, q < 64 → goN w n q < 64 → ∀ j, j ≤ n → goN (opp w) j (goN w n q) = goN w (n - j) q := by
  intro n q hq h j
  induction j with
  | zero => intro _; rfl
  | succ j ih =>
    intro hj
    rw [goN_s, ih (by omega), show n - j = (n - (j + 1)) + 1 by omega, goN_s]
    apply go1_op hw
    · exact goN_lt (by omega) h (by omega)
    · rw [← goN_s]; exact goN_lt (by omega) h (by omega)
set_option maxRecDepth 100000 in
theorem in_chk : ((List.range 8).all fun w => (List.range 64).all fun q => bt (inL.getD w 0) q == (decide (w < 2) || if w % 2 = 0 then decide (q % 8 < 7) else decide (0 < q % 8))) = true := by decide +kernel
theorem in_bt {w q : Nat} (hw : w < 8) (hq : q < 64) : bt (inL.getD w 0) q = (decide (w < 2) || if w % 2 = 0 then decide (q % 8 < 7) else decide (0 < q % 8)) := by
  have := all_lt (all_lt in_chk hw) hq
  simpa using this

theorem sh_0 (y : Int64) : shW 0 y = bsl y (nI 8) := by unfold shW; rw [if_neg (by decide)]; rfl
theorem shb_0 {t : Nat} {x : Int64} (ht : t < 64) : bt (shW 0 (x &&& inL.getD 0 0)) t = (decide (go1 (opp 0) t < 64) && bt x (go1 (opp 0) t)) := by
  rw [sh_0, bt_bsl (by decide) ht, bt_and]
  by_cases h : 8 ≤ t
  · have e : go1 (opp 0) t = t - 8 := by show go1 1 t = _; unfold go1; simp only [if_neg (show ¬ 64 ≤ t by omega)]; simp [h]
    rw [e, in_bt (by decide) (by omega), decide_eq_true (show t - 8 < 64 by omega)]
    rw [decide_eq_true (show 8 ≤ t by omega)]
    simp
  · have e : go1 (opp 0) t = 64 := by show go1 1 t = _; unfold go1; simp only [if_neg (show ¬ 64 ≤ t by omega)]; simp [h]
    rw [e, decide_eq_false (show ¬ 64 < 64 by decide), Bool.false_and]

    by_cases h2 : 8 ≤ t
    · rw [decide_eq_true h2, in_bt (by decide) (by omega)]
      omega
    · rw [decide_eq_false h2]; rfl
theorem sh_1 (y : Int64) : shW 1 y = bsr y (nI 8) := by unfold shW; rw [if_pos (by decide)]; rfl
theorem shb_1 {t : Nat} {x : Int64} (ht : t < 64) : bt (shW 1 (x &&& inL.getD 1 0)) t = (decide (go1 (opp 1) t < 64) && bt x (go1 (opp 1) t)) := by
  rw [sh_1, bt_bsr (by decide), bt_and]
  by_cases h : t < 56
  · have e : go1 (opp 1) t = t + 8 := by show go1 0 t = _; unfold go1; simp only [if_neg (show ¬ 64 ≤ t by omega)]; simp [h]
    rw [e, in_bt (by decide) (by omega), decide_eq_true (show t + 8 < 64 by omega)]
    rw [Nat.add_comm 8 t]
    simp
  · have e : go1 (opp 1) t = 64 := by show go1 0 t = _; unfold go1; simp only [if_neg (show ¬ 64 ≤ t by omega)]; simp [h]
    rw [e, decide_eq_false (show ¬ 64 < 64 by decide), Bool.false_and]

    by_cases h2 : 8 + t < 64
    · rw [in_bt (by decide) h2]
      omega
    · rw [bt_out (by omega)]; rfl
theorem sh_2 (y : Int64) : shW 2 y = bsl y (nI 1) := by unfold shW; rw [if_neg (by decide)]; rfl
theorem shb_2 {t : Nat} {x : Int64} (ht : t < 64) : bt (shW 2 (x &&& inL.getD 2 0)) t = (decide (go1 (opp 2) t < 64) && bt x (go1 (opp 2) t)) := by
  rw [sh_2, bt_bsl (by decide) ht, bt_and]
  by_cases h : 0 < t % 8
  · have e : go1 (opp 2) t = t - 1 := by show go1 3 t = _; unfold go1; simp only [if_neg (show ¬ 64 ≤ t by omega)]; simp [h]
    rw [e, in_bt (by decide) (by omega), decide_eq_true (show t - 1 < 64 by omega)]
    rw [decide_eq_true (show 1 ≤ t by omega)]
    rw [show (decide (2 < 2) || if 2 % 2 = 0 then decide ((t - 1) % 8 < 7) else decide (0 < (t - 1) % 8)) = true from by simp; omega]; simp
  · have e : go1 (opp 2) t = 64 := by show go1 3 t = _; unfold go1; simp only [if_neg (show ¬ 64 ≤ t by omega)]; simp [h]
    rw [e, decide_eq_false (show ¬ 64 < 64 by decide), Bool.false_and]

    by_cases h2 : 1 ≤ t
    · rw [decide_eq_true h2, in_bt (by decide) (by omega)]
      rw [show (decide (2 < 2) || if 2 % 2 = 0 then decide ((t - 1) % 8 < 7) else decide (0 < (t - 1) % 8)) = false from by simp; omega]; simp
    · rw [decide_eq_false h2]; rfl
theorem sh_3 (y : Int64) : shW 3 y = bsr y (nI 1) := by unfold shW; rw [if_pos (by decide)]; rfl
theorem shb_3 {t : Nat} {x : Int64} (ht : t < 64) : bt (shW 3 (x &&& inL.getD 3 0)) t = (decide (go1 (opp 3) t < 64) && bt x (go1 (opp 3) t)) := by
  rw [sh_3, bt_bsr (by decide), bt_and]
  by_cases h : t % 8 < 7
  · have e : go1 (opp 3) t = t + 1 := by show go1 2 t = _; unfold go1; simp only [if_neg (show ¬ 64 ≤ t by omega)]; simp [h]
    rw [e, in_bt (by decide) (by omega), decide_eq_true (show t + 1 < 64 by omega)]
    rw [Nat.add_comm 1 t]
    rw [show (decide (3 < 2) || if 3 % 2 = 0 then decide ((t + 1) % 8 < 7) else decide (0 < (t + 1) % 8)) = true from by simp; omega]; simp
  · have e : go1 (opp 3) t = 64 := by show go1 2 t = _; unfold go1; simp only [if_neg (show ¬ 64 ≤ t by omega)]; simp [h]
    rw [e, decide_eq_false (show ¬ 64 < 64 by decide), Bool.false_and]

    by_cases h2 : 1 + t < 64
    · rw [in_bt (by decide) h2]
      rw [show (decide (3 < 2) || if 3 % 2 = 0 then decide ((1 + t) % 8 < 7) else decide (0 < (1 + t) % 8)) = false from by simp; omega]; simp
    · rw [bt_out (by omega)]; rfl
theorem sh_4 (y : Int64) : shW 4 y = bsl y (nI 9) := by unfold shW; rw [if_neg (by decide)]; rfl
theorem shb_4 {t : Nat} {x : Int64} (ht : t < 64) : bt (shW 4 (x &&& inL.getD 4 0)) t = (decide (go1 (opp 4) t < 64) && bt x (go1 (opp 4) t)) := by
  rw [sh_4, bt_bsl (by decide) ht, bt_and]
  by_cases h : 8 ≤ t ∧ 0 < t % 8
  · have e : go1 (opp 4) t = t - 9 := by show go1 7 t = _; unfold go1; simp only [if_neg (show ¬ 64 ≤ t by omega)]; simp [h]
    rw [e, in_bt (by decide) (by omega), decide_eq_true (show t - 9 < 64 by omega)]
    rw [decide_eq_true (show 9 ≤ t by omega)]
    rw [show (decide (4 < 2) || if 4 % 2 = 0 then decide ((t - 9) % 8 < 7) else decide (0 < (t - 9) % 8)) = true from by simp; omega]; simp
  · have e : go1 (opp 4) t = 64 := by show go1 7 t = _; unfold go1; simp only [if_neg (show ¬ 64 ≤ t by omega)]; simp [h]
    rw [e, decide_eq_false (show ¬ 64 < 64 by decide), Bool.false_and]

    by_cases h2 : 9 ≤ t
    · rw [decide_eq_true h2, in_bt (by decide) (by omega)]
      rw [show (decide (4 < 2) || if 4 % 2 = 0 then decide ((t - 9) % 8 < 7) else decide (0 < (t - 9) % 8)) = false from by simp; omega]; simp
    · rw [decide_eq_false h2]; rfl
theorem sh_5 (y : Int64) : shW 5 y = bsl y (nI 7) := by unfold shW; rw [if_neg (by decide)]; rfl
theorem shb_5 {t : Nat} {x : Int64} (ht : t < 64) : bt (shW 5 (x &&& inL.getD 5 0)) t = (decide (go1 (opp 5) t < 64) && bt x (go1 (opp 5) t)) := by
  rw [sh_5, bt_bsl (by decide) ht, bt_and]
  by_cases h : 8 ≤ t ∧ t % 8 < 7
  · have e : go1 (opp 5) t = t - 7 := by show go1 6 t = _; unfold go1; simp only [if_neg (show ¬ 64 ≤ t by omega)]; simp [h]
    rw [e, in_bt (by decide) (by omega), decide_eq_true (show t - 7 < 64 by omega)]
    rw [decide_eq_true (show 7 ≤ t by omega)]
    rw [show (decide (5 < 2) || if 5 % 2 = 0 then decide ((t - 7) % 8 < 7) else decide (0 < (t - 7) % 8)) = true from by simp; omega]; simp
  · have e : go1 (opp 5) t = 64 := by show go1 6 t = _; unfold go1; simp only [if_neg (show ¬ 64 ≤ t by omega)]; simp [h]
    rw [e, decide_eq_false (show ¬ 64 < 64 by decide), Bool.false_and]

    by_cases h2 : 7 ≤ t
    · rw [decide_eq_true h2, in_bt (by decide) (by omega)]
      rw [show (decide (5 < 2) || if 5 % 2 = 0 then decide ((t - 7) % 8 < 7) else decide (0 < (t - 7) % 8)) = false from by simp; omega]; simp
    · rw [decide_eq_false h2]; rfl
theorem sh_6 (y : Int64) : shW 6 y = bsr y (nI 7) := by unfold shW; rw [if_pos (by decide)]; rfl
theorem shb_6 {t : Nat} {x : Int64} (ht : t < 64) : bt (shW 6 (x &&& inL.getD 6 0)) t = (decide (go1 (opp 6) t < 64) && bt x (go1 (opp 6) t)) := by
  rw [sh_6, bt_bsr (by decide), bt_and]
  by_cases h : t < 56 ∧ 0 < t % 8
  · have e : go1 (opp 6) t = t + 7 := by show go1 5 t = _; unfold go1; simp only [if_neg (show ¬ 64 ≤ t by omega)]; simp [h]
    rw [e, in_bt (by decide) (by omega), decide_eq_true (show t + 7 < 64 by omega)]
    rw [Nat.add_comm 7 t]
    rw [show (decide (6 < 2) || if 6 % 2 = 0 then decide ((t + 7) % 8 < 7) else decide (0 < (t + 7) % 8)) = true from by simp; omega]; simp
  · have e : go1 (opp 6) t = 64 := by show go1 5 t = _; unfold go1; simp only [if_neg (show ¬ 64 ≤ t by omega)]; simp [h]
    rw [e, decide_eq_false (show ¬ 64 < 64 by decide), Bool.false_and]

    by_cases h2 : 7 + t < 64
    · rw [in_bt (by decide) h2]
      rw [show (decide (6 < 2) || if 6 % 2 = 0 then decide ((7 + t) % 8 < 7) else decide (0 < (7 + t) % 8)) = false from by simp; omega]; simp
    · rw [bt_out (by omega)]; rfl
theorem sh_7 (y : Int64) : shW 7 y = bsr y (nI 9) := by unfold shW; rw [if_pos (by decide)]; rfl
theorem shb_7 {t : Nat} {x : Int64} (ht : t < 64) : bt (shW 7 (x &&& inL.getD 7 0)) t = (decide (go1 (opp 7) t < 64) && bt x (go1 (opp 7) t)) := by
  rw [sh_7, bt_bsr (by decide), bt_and]
  by_cases h : t < 56 ∧ t % 8 < 7
  · have e : go1 (opp 7) t = t + 9 := by show go1 4 t = _; unfold go1; simp only [if_neg (show ¬ 64 ≤ t by omega)]; simp [h]
    rw [e, in_bt (by decide) (by omega), decide_eq_true (show t + 9 < 64 by omega)]
    rw [Nat.add_comm 9 t]
    rw [show (decide (7 < 2) || if 7 % 2 = 0 then decide ((t + 9) % 8 < 7) else decide (0 < (t + 9) % 8)) = true from by simp; omega]; simp
  · have e : go1 (opp 7) t = 64 := by show go1 4 t = _; unfold go1; simp only [if_neg (show ¬ 64 ≤ t by omega)]; simp [h]
    rw [e, decide_eq_false (show ¬ 64 < 64 by decide), Bool.false_and]

    by_cases h2 : 9 + t < 64
    · rw [in_bt (by decide) h2]
      rw [show (decide (7 < 2) || if 7 % 2 = 0 then decide ((9 + t) % 8 < 7) else decide (0 < (9 + t) % 8)) = false from by simp; omega]; simp
    · rw [bt_out (by omega)]; rfl
theorem sh_bt {w t : Nat} {x : Int64} (hw : w < 8) (ht : t < 64) : bt (shW w (x &&& inL.getD w 0)) t = (decide (go1 (opp w) t < 64) && bt x (go1 (opp w) t)) :=
  match w, hw with
  | 0, _ => shb_0 ht
  | 1, _ => shb_1 ht
  | 2, _ => shb_2 ht
  | 3, _ => shb_3 ht
  | 4, _ => shb_4 ht
  | 5, _ => shb_5 ht
  | 6, _ => shb_6 ht
  | 7, _ => shb_7 ht
  | n + 8, h => absurd h (by omega)
theorem fro_e {x full : Int64} {w : Nat} (hw : w < 8) : ∀ n t, t < 64 → (bt (rayS x full w n).1 t = true ↔ goN (opp w) n t < 64 ∧ bt x (goN (opp w) n t) = true ∧ ∀ j, j < n → bt full (goN (opp w) j t) = false)
  | 0, t, ht => ⟨fun h => ⟨ht, h, fun j hj => absurd hj (Nat.not_lt_zero j)⟩, fun h => h.2.1⟩
  | n + 1, t, ht => by
    show bt (shW w ((rayS x full w n).1 &&& inL.getD w 0) &&& (full ^^^ (-1))) t = true ↔ _
    rw [bt_and, sh_bt hw ht, bt_not ht]
    show _ ↔ goN (opp w) n (go1 (opp w) t) < 64 ∧ bt x (goN (opp w) n (go1 (opp w) t)) = true ∧ _
    by_cases h : go1 (opp w) t < 64
    · have ih := fro_e (x := x) (full := full) hw n _ h
      simp only [Bool.and_eq_true, decide_eq_true_eq, Bool.not_eq_true', ih, h, true_and]
      constructor
      · rintro ⟨⟨a, b, c⟩, d⟩
        refine ⟨a, b, fun j hj => ?_⟩
        cases j with
        | zero => exact d
        | succ j => exact c j (by omega)
      · rintro ⟨a, b, c⟩
        exact ⟨⟨a, b, fun j hj => c (j + 1) (by omega)⟩, c 0 (by omega)⟩
    · have e : go1 (opp w) t = 64 := by have := go1_le (opp w) t; omega
      rw [e, goN_out]
      simp
theorem see_e {x full : Int64} {w t : Nat} (hw : w < 8) (ht : t < 64) : ∀ n, (bt (rayS x full w n).2 t = true ↔ ∃ m, m < n ∧ goN (opp w) (m + 1) t < 64 ∧ bt x (goN (opp w) (m + 1) t) = true ∧ ∀ j, j < m → bt full (goN (opp w) (j + 1) t) = false)
  | 0 => ⟨fun h => absurd h (by rw [show (rayS x full w 0).2 = 0 from rfl, bt_0]; decide), fun ⟨m, h, _⟩ => absurd h (Nat.not_lt_zero m)⟩
  | n + 1 => by
    show bt ((rayS x full w n).2 ||| shW w ((rayS x full w n).1 &&& inL.getD w 0)) t = true ↔ _
    rw [bt_or, sh_bt hw ht, Bool.or_eq_true, see_e hw ht n]
    constructor
    · rintro (⟨m, h1, h2⟩ | h)
      · exact ⟨m, by omega, h2⟩
      · rw [Bool.and_eq_true, decide_eq_true_eq] at h
        obtain ⟨a, b, c⟩ := (fro_e hw n _ h.1).mp h.2
        exact ⟨n, by omega, a, b, c⟩
    · rintro ⟨m, h1, h2, h3, h4⟩
      by_cases e : m = n
      · subst e
        right
        have h5 : go1 (opp w) t < 64 := goN_lt (n := m + 1) (j := 1) (by omega) h2 (by omega)
        rw [Bool.and_eq_true, decide_eq_true_eq]
        exact ⟨h5, (fro_e hw m _ h5).mpr ⟨h2, h3, h4⟩⟩
      · exact Or.inl ⟨m, by omega, h2, h3, h4⟩
/-- a ray's squares: looking back, a square of x is the first that may be full -/
theorem ray_e {x full : Int64} {w t : Nat} (hw : w < 8) (ht : t < 64) : bt (ray x full w) t = true ↔ ∃ m, m < 7 ∧ goN (opp w) (m + 1) t < 64 ∧ bt x (goN (opp w) (m + 1) t) = true ∧ ∀ j, j < m → bt full (goN (opp w) (j + 1) t) = false := see_e hw ht 7

/-! legal moves, the list -/
theorem bI_inj {a b : Bool} : bI a = bI b ↔ a = b := by cases a <;> cases b <;> decide
theorem kc_up (g : Nat → Nat) (w q v : Nat) : ∀ n, q < n → kc (upN g q v) w n + (if g q = 6 + 6 * w then 1 else 0) = kc g w n + (if v = 6 + 6 * w then 1 else 0) := by
  have out : ∀ n, n ≤ q → kc (upN g q v) w n = kc g w n := by
    intro n
    induction n with
    | zero => intro _; rfl
    | succ n ih => intro h; unfold kc; rw [ih (by omega), show upN g q v n = g n from if_neg (by omega)]
  intro n
  induction n with
  | zero => intro h; omega
  | succ n ih =>
    intro h
    by_cases e : q = n
    · subst e
      have h1 := out q (Nat.le_refl q)
      unfold kc
      rw [h1, show upN g q v q = v from if_pos rfl]
      omega
    · have h1 := ih (by omega)
      unfold kc
      rw [show upN g q v n = g n from if_neg (by omega)]
      omega
theorem kat_lt (g : Nat → Nat) (w : Nat) : ∀ n, n ≤ 64 → 0 < kc g w n → kat g w n < n
  | 0, _, h => by simp [kc] at h
  | n + 1, h0, h => by
    unfold kat
    unfold kc at h
    by_cases e : g n = 6 + 6 * w
    · rw [if_pos e]; omega
    · rw [if_neg e] at h ⊢
      have := kat_lt g w n (by omega) (by omega)
      omega
theorem kgs_of {g : Nat → Nat} {w : Nat} (h : kc g w 64 = 1) : kgs g w < 64 := by
  unfold kgs
  rw [if_pos h]
  exact kat_lt g w 64 (by omega) (by omega)
theorem kc_of {g : Nat → Nat} {w : Nat} (h : kgs g w < 64) : kc g w 64 = 1 := by
  unfold kgs at h
  by_cases e : kc g w 64 = 1
  · exact e
  · rw [if_neg e] at h; omega
theorem upN_ne {g : Nat → Nat} {k v j : Nat} (h : j ≠ k) : upN g k v j = g j := if_neg h
theorem upN_eq {g : Nat → Nat} {k v : Nat} : upN g k v k = v := if_pos rfl
theorem kc_up0 {g : Nat → Nat} {w q v : Nat} (hq : q < 64) (h1 : g q ≠ 6 + 6 * w) (h2 : v ≠ 6 + 6 * w) : kc (upN g q v) w 64 = kc g w 64 := by
  have := kc_up g w q v 64 hq
  rw [if_neg h1, if_neg h2] at this
  omega
def lst (bd : Nat → Nat) (sd f t : Nat) : Bool := decide (kd (bd f) = 1) && decide (t / 8 = if sd = 0 then 7 else 0)
def pre (bd : Nat → Nat) (sd rt ps f t k : Nat) : Bool := !decide (k = 1) && (decide (lst bd sd f t = decide (1 < k)) && (!decide (f = t) && gos bd sd rt ps f t))
/-- a move is legal -/
def lgl (bd : Nat → Nat) (sd rt ps f t k : Nat) : Bool := pre bd sd rt ps f t k && !isA (bhB bd sd ps f t k) (kgs (bhB bd sd ps f t k) sd) (1 - sd)
theorem lgl_0 {bd : Nat → Nat} {sd rt ps f t k : Nat} (h : pre bd sd rt ps f t k = false) : lgl bd sd rt ps f t k = false := by unfold lgl; rw [h]; rfl
theorem pre_go {bd : Nat → Nat} {sd rt ps f t k : Nat} (h : pre bd sd rt ps f t k = true) : gos bd sd rt ps f t = true ∧ f ≠ t ∧ k ≠ 1 ∧ lst bd sd f t = decide (1 < k) := by
  unfold pre at h
  simp only [Bool.and_eq_true, Bool.not_eq_true', decide_eq_true_eq, decide_eq_false_iff_not] at h
  exact ⟨h.2.2.2, h.2.2.1, h.1, h.2.1⟩
theorem gos_of {bd : Nat → Nat} {sd rt ps f t : Nat} (h : gos bd sd rt ps f t = true) : sdN (bd f) = sd ∧ sdN (bd t) ≠ sd ∧ kd (bd t) ≠ 6 := by
  unfold gos at h
  split at h
  · exact absurd h (by decide)
  · rename_i h2
    refine ⟨Classical.byContradiction fun z => h2 (Or.inl z), fun z => h2 (Or.inr (Or.inl z)), fun z => h2 (Or.inr (Or.inr z))⟩
theorem kd_K {w x : Nat} (hw : w < 2) (h : x = 6 + 6 * w) : kd x = 6 := by
  have : w = 0 ∨ w = 1 := by omega
  rcases this with rfl | rfl <;> subst h <;> rfl
theorem kd_6 {sd x : Nat} (hx : x < 13) (hs : sdN x = sd) (h : kd x = 6) : x = 6 + 6 * sd := by
  unfold kd at h
  unfold sdN at hs
  (repeat' split at h) <;> (repeat' split at hs) <;> omega
/-- what is taken in passing is a pawn; what castles with the king is a rook, to an empty square -/
theorem inp_pw {bd : Nat → Nat} {sd ps f t : Nat} (h : inp bd sd ps f t = true) : kd (bd f) = 1 ∧ bd (bkN sd t) = 7 - 6 * sd ∧ bd t = 0 ∧ t = ps := by
  unfold inp tps at h
  simp only [Bool.and_eq_true, decide_eq_true_eq] at h
  exact ⟨h.1, h.2.2.2.2.2, h.2.2.1, h.2.1⟩
theorem ctl_can {bd : Nat → Nat} {sd rt ps f t : Nat} (hg : gos bd sd rt ps f t = true) (h : ctl bd f t = true) : can bd sd rt f t = true ∧ kd (bd f) = 6 := by
  unfold ctl at h
  simp only [Bool.and_eq_true, decide_eq_true_eq] at h
  refine ⟨?_, h.1⟩
  unfold gos at hg
  split at hg
  · exact absurd hg (by decide)
  · rw [if_neg (by omega)] at hg
    have hna : atk bd f t = false := by
      by_cases e : f = t
      · exact atk_0 (Or.inr e)
      · rw [atk_6 e h.1]; exact decide_eq_false (by omega)
    rw [hna, Bool.false_or, Bool.and_eq_true] at hg
    have h2 := hg.2
    unfold cas at h2
    simp only [Bool.and_eq_true] at h2
    exact h2.2.1.1
def LI (M : Nat → Int32) (L : List Nat) : Prop := ∀ j, j < L.length → M j = nI (L.getD j 0)
theorem LI_nil {M : Nat → Int32} : LI M [] := fun j h => absurd h (Nat.not_lt_zero j)
theorem LI_app {M : Nat → Int32} {L : List Nat} {x : Nat} (h : LI M L) : LI (upd M (0 + L.length) (nI x)) (L ++ [x]) := by
  intro j hj
  rw [Nat.zero_add]
  rw [List.length_append, List.length_singleton] at hj
  by_cases e : j = L.length
  · subst e; rw [pk_us]; simp [List.getD]
  · rw [pk_un e, h j (by omega)]
    have h3 : j < L.length := by omega
    simp [List.getD, List.getElem?_append_left h3]
def mvx (x : Nat) : Nat := x / 384 + 64 * (x / 6 % 64) + 4096 * (x % 6)
def lgx (bd : Nat → Nat) (sd rt ps x : Nat) : Bool := lgl bd sd rt ps (x / 384) (x / 6 % 64) (x % 6)
/-- the legal moves among the first n triples (from, to, kind) -/
def lgN (bd : Nat → Nat) (sd rt ps n : Nat) : List Nat := (List.range n).filterMap fun x => if lgx bd sd rt ps x = true then some (mvx x) else none
def legs (bd : Nat → Nat) (sd rt ps : Nat) : List Nat := lgN bd sd rt ps 24576
theorem lgN_s (bd : Nat → Nat) (sd rt ps n : Nat) : lgN bd sd rt ps (n + 1) = lgN bd sd rt ps n ++ (if lgx bd sd rt ps n = true then [mvx n] else []) := by
  unfold lgN
  rw [List.range_succ, List.filterMap_append]
  congr 1
  by_cases h : lgx bd sd rt ps n = true
  · simp [h]
  · simp [h]
theorem lgN_len (bd : Nat → Nat) (sd rt ps : Nat) : ∀ m n, m ≤ n → (lgN bd sd rt ps m).length ≤ (lgN bd sd rt ps n).length := by
  intro m n h
  induction n with
  | zero => rw [show m = 0 by omega]; exact Nat.le_refl _
  | succ n ih =>
    by_cases e : m = n + 1
    · rw [e]; exact Nat.le_refl _
    · rw [lgN_s, List.length_append]; have := ih (by omega); omega
theorem lgN_skip {bd : Nat → Nat} {sd rt ps f : Nat} (h : sdN (bd f) ≠ sd) : ∀ m, m ≤ 384 → lgN bd sd rt ps (f * 384 + m) = lgN bd sd rt ps (f * 384) := by
  intro m
  induction m with
  | zero => intro _; rw [Nat.add_zero]
  | succ m ih =>
    intro hm
    rw [← Nat.add_assoc, lgN_s, ih (by omega)]
    have h1 : (f * 384 + m) / 384 = f := by omega
    have h2 : lgx bd sd rt ps (f * 384 + m) = false := by
      unfold lgx
      rw [h1]
      apply lgl_0
      have : gos bd sd rt ps f ((f * 384 + m) / 6 % 64) = false := gos_0 (Or.inl h)
      unfold pre
      rw [this]
      simp
    rw [if_neg (by rw [h2]; decide), List.append_nil]
/-- the position can be played -/
def plb (bd : Nat → Nat) (sd : Nat) : Bool := decide (kgs bd 0 < 64) && (decide (kgs bd 1 < 64) && !isA bd (kgs bd (1 - sd)) (1 - (1 - sd)))

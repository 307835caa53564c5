/-! the list that the class makes -/
abbrev mW (cI : ClassId) (g0 g1 : Nat) (sz : Int32) (f : Nat → Int32) : va_W := [(g0, .inr (0, [.ref g1, .int sz])), (g1, .inl (cI, 700, .inl f))]
def fplN (L : List Nat) (x : Int32) : Nat → Int32
  | 0 => -1
  | m + 1 => if nI (L.getD (L.length - (m + 1)) 0) = x then nI (L.length - (m + 1)) else fplN L x m
theorem fplN_i {L : List Nat} {x : Int32} {i : Nat} (h : i < L.length) : fplN L x (L.length - i) = if nI (L.getD i 0) = x then nI i else fplN L x (L.length - (i + 1)) := by
  obtain ⟨m, hm⟩ : ∃ m, L.length - i = m + 1 := ⟨L.length - i - 1, by omega⟩
  rw [hm]
  show (if nI (L.getD (L.length - (m + 1)) 0) = x then nI (L.length - (m + 1)) else fplN L x m) = _
  rw [show L.length - (m + 1) = i by omega, show L.length - (i + 1) = m by omega]
theorem LI_app' {M : Nat → Int32} {L : List Nat} {x : Nat} (h : LI M L) : LI (upd M L.length (nI x)) (L ++ [x]) := by
  have := LI_app (x := x) h
  rwa [Nat.zero_add] at this
def prm (f t j : Nat) : List Nat := (List.range j).map (fun a => f + 64 * t + 4096 * (a + 2))
theorem prm_s (f t j : Nat) : prm f t (j + 1) = prm f t j ++ [f + 64 * t + 4096 * (j + 2)] := by unfold prm; rw [List.range_succ, List.map_append]; rfl
def lsr (t : Nat) : Bool := decide (t < 8) || decide (56 ≤ t)
set_option maxRecDepth 100000 in
theorem lsr_chk : ((List.range 64).all fun t => decide ((bsl 1 (nI t) &&& (-72057594037927681) = 0) ↔ lsr t = false)) = true := by decide +kernel
theorem lsr_e {t : Nat} (h : t < 64) : (bsl 1 (nI t) &&& (-72057594037927681) = 0) ↔ lsr t = false := of_decide_eq_true (all_lt lsr_chk h)
/-- the moves of a piece to a square -/
def amv1 (bd : Nat → Nat) (f t : Nat) : List Nat := if kd (bd f) = 1 ∧ lsr t = true then prm f t 4 else [f + 64 * t]
def amv (bd : Nat → Nat) (f : Nat) (T : Int64) : List Nat := (bl T).flatMap (amv1 bd f)
def amT (bd : Nat → Nat) (f : Nat) (T : Int64) (i : Nat) : List Nat := ((bl T).take i).flatMap (amv1 bd f)
theorem amT_s {bd : Nat → Nat} {f : Nat} {T : Int64} {i : Nat} (h : i < pop T) : amT bd f T (i + 1) = amT bd f T i ++ amv1 bd f ((bl T).getD i 0) := by
  rw [pop_len] at h
  unfold amT
  rw [List.take_add_one, List.flatMap_append, List.getElem?_eq_getElem h, List.getD_eq_getElem?_getD, List.getElem?_eq_getElem h]
  simp
theorem amT_all {bd : Nat → Nat} {f : Nat} {T : Int64} : amT bd f T (pop T) = amv bd f T := by unfold amT amv; rw [pop_len, List.take_length]
theorem amT_le {bd : Nat → Nat} {f : Nat} {T : Int64} {i : Nat} (h : i ≤ pop T) : (amT bd f T i).length ≤ (amv bd f T).length := by
  rw [pop_len] at h
  unfold amT amv
  conv => rhs; rw [← List.take_append_drop i (bl T), List.flatMap_append, List.length_append]
  omega
/-- all moves, in the order of the list -/
def fil (bd : Nat → Nat) (sd rt ps : Nat) : List Nat := (bl (ownS bd sd)).flatMap fun f => amv bd f (tgt bd sd rt ps f)
def fiT (bd : Nat → Nat) (sd rt ps i : Nat) : List Nat := ((bl (ownS bd sd)).take i).flatMap fun f => amv bd f (tgt bd sd rt ps f)
theorem fiT_s {bd : Nat → Nat} {sd rt ps i : Nat} (h : i < pop (ownS bd sd)) : fiT bd sd rt ps (i + 1) = fiT bd sd rt ps i ++ amv bd ((bl (ownS bd sd)).getD i 0) (tgt bd sd rt ps ((bl (ownS bd sd)).getD i 0)) := by
  rw [pop_len] at h
  unfold fiT
  rw [List.take_add_one, List.flatMap_append, List.getElem?_eq_getElem h, List.getD_eq_getElem?_getD, List.getElem?_eq_getElem h]
  simp
theorem fiT_all {bd : Nat → Nat} {sd rt ps : Nat} : fiT bd sd rt ps (pop (ownS bd sd)) = fil bd sd rt ps := by unfold fiT fil; rw [pop_len, List.take_length]
theorem fiT_le {bd : Nat → Nat} {sd rt ps i : Nat} (h : i ≤ pop (ownS bd sd)) : (fiT bd sd rt ps i).length ≤ (fil bd sd rt ps).length := by
  rw [pop_len] at h
  unfold fiT fil
  conv => rhs; rw [← List.take_append_drop i (bl (ownS bd sd)), List.flatMap_append, List.length_append]
  omega
/-- how many -/
def tl1 (bd : Nat → Nat) (sd rt ps f : Nat) : Nat := pop (tgt bd sd rt ps f) + if kd (bd f) = 1 then 3 * pop (tgt bd sd rt ps f &&& (-72057594037927681)) else 0
def tlT (bd : Nat → Nat) (sd rt ps i : Nat) : Nat := (((bl (ownS bd sd)).take i).map (tl1 bd sd rt ps)).sum
def tly (bd : Nat → Nat) (sd rt ps : Nat) : Nat := ((bl (ownS bd sd)).map (tl1 bd sd rt ps)).sum
theorem tlT_s {bd : Nat → Nat} {sd rt ps i : Nat} (h : i < pop (ownS bd sd)) : tlT bd sd rt ps (i + 1) = tlT bd sd rt ps i + tl1 bd sd rt ps ((bl (ownS bd sd)).getD i 0) := by
  rw [pop_len] at h
  exact smT_s h
theorem tl1_le (bd : Nat → Nat) (sd rt ps f : Nat) : tl1 bd sd rt ps f ≤ 256 := by
  have h1 := pop_le (tgt bd sd rt ps f)
  have h2 := pop_le (tgt bd sd rt ps f &&& (-72057594037927681))
  unfold tl1
  split <;> omega
theorem tlT_le {bd : Nat → Nat} {sd rt ps : Nat} : ∀ i, i ≤ pop (ownS bd sd) → tlT bd sd rt ps i ≤ 256 * i
  | 0, _ => by unfold tlT; simp
  | i + 1, h => by
    have h1 := tlT_le (rt := rt) (ps := ps) i (by omega : i ≤ pop (ownS bd sd))
    have h2 := tl1_le bd sd rt ps ((bl (ownS bd sd)).getD i 0)
    rw [tlT_s (by omega)]
    omega
theorem len_app1 {L : List Nat} {x : Nat} : L.length + 1 = (L ++ [x]).length := by rw [List.length_append, List.length_singleton]

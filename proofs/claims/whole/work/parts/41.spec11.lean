def slq (bd : Nat → Nat) (sd t : Nat) : Bool := decide (sdN (bd t) = 1 - sd) && (decide (2 < kd (bd t)) && decide (kd (bd t) < 6))
def moq (bd : Nat → Nat) (sd s t : Nat) : Bool := slq bd sd t && (!atk bd t (kgs bd sd) && atk (upN bd s 0) t (kgs bd sd))
def mor (bd : Nat → Nat) (sd s n : Nat) : Bool := (List.range n).any fun t => moq bd sd s t
theorem mor_s (bd : Nat → Nat) (sd s n : Nat) : mor bd sd s (n + 1) = (mor bd sd s n || moq bd sd s n) := by
  unfold mor
  rw [List.range_succ, List.any_append]
  simp
def pnq (bd : Nat → Nat) (sd s : Nat) : Bool := decide (sdN (bd s) = sd) && (!decide (kd (bd s) = 6) && mor bd sd s 64)
def pnN (bd : Nat → Nat) (sd : Nat) : Nat → Int64
  | 0 => 0
  | n + 1 => if pnq bd sd n = true then pnN bd sd n ||| bsl 1 (nI n) else pnN bd sd n
theorem pnN_s (bd : Nat → Nat) (sd n : Nat) : pnN bd sd (n + 1) = if pnq bd sd n = true then pnN bd sd n ||| bsl 1 (nI n) else pnN bd sd n := rfl
theorem pnN_no {bd : Nat → Nat} {sd n : Nat} (h : pnq bd sd n = false) : pnN bd sd n = pnN bd sd (n + 1) := by rw [pnN_s, if_neg (by rw [h]; decide)]
theorem pnN_yes {bd : Nat → Nat} {sd n : Nat} (h : pnq bd sd n = true) : pnN bd sd n ||| bsl 1 (nI n) = pnN bd sd (n + 1) := by rw [pnN_s, if_pos h]
theorem upd_bk {F : Nat → Int32} {i : Nat} {x y : Int32} (h : F i = y) : upd (upd F i x) i y = F := by
  funext j
  by_cases e : j = i
  · rw [e, pk_us, h]
  · rw [pk_un e, pk_un e]
theorem kgs_up0 {bd : Nat → Nat} {w s : Nat} (hs : s < 64) (hw : w < 2) (h : ¬ kd (bd s) = 6) : kgs (upN bd s 0) w = kgs bd w := by
  have h1 : bd s ≠ 6 + 6 * w := fun z => h (kd_K hw z)
  have h2 : ∀ n, kc (upN bd s 0) w n = kc bd w n ∧ kat (upN bd s 0) w n = kat bd w n := by
    intro n
    induction n with
    | zero => exact ⟨rfl, rfl⟩
    | succ n ih =>
      by_cases e : n = s
      · subst e
        unfold kc kat
        rw [upN_eq, ih.1, ih.2, if_neg (show ¬ 0 = 6 + 6 * w by omega), if_neg (show ¬ 0 = 6 + 6 * w by omega), if_neg h1, if_neg h1]
        exact ⟨rfl, rfl⟩
      · unfold kc kat
        rw [upN_ne e, ih.1, ih.2]
        exact ⟨rfl, rfl⟩
  unfold kgs
  rw [(h2 64).1, (h2 64).2]
theorem cpo_s {K f : Nat → Int32} {b i : Nat} (h : ∀ j, j < i → K (b + j) = f j) : ∀ j, j < i + 1 → upd K (b + i) (f i) (b + j) = f j := by
  intro j hj
  by_cases e : j = i
  · rw [e, pk_us]
  · rw [pk_un (by omega)]; exact h j (by omega)

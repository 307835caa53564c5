/-- a board at a place of the array: pieces, side, rights, passing (64: none) -/
def Bd (F : Nat → Int32) (b : Nat) (bd : Nat → Nat) (sd rt ps : Nat) : Prop := Bp F b bd ∧ F (b + 64) = nI sd ∧ sd < 2 ∧ F (b + 65) = nI rt ∧ rt < 16 ∧ F (b + 66) = pI ps ∧ ps < 65
theorem dif2 {f t : Nat} (hf : f < 64) (ht : t < 64) : (nI t - nI f = nI 2 ↔ t = f + 2) ∧ (nI t - nI f = (-2) ↔ f = t + 2) := by
  have h := pk_sub_toInt (a := t) (b := f) (by omega) (by omega)
  have h2 : (nI 2).toInt = 2 := rfl
  have h3 : (-2 : Int32).toInt = -2 := rfl
  constructor
  · rw [← Int32.toInt_inj, h, h2]; omega
  · rw [← Int32.toInt_inj, h, h3]; omega
def rgt (sd f t : Nat) : Nat := (if t = f + 2 then 1 else 2) * 4 ^ sd
theorem rgt_eq {sd f t : Nat} (hs : sd < 2) : nI (if t = f + 2 then 1 else 2) <<< (nI (2 * sd) &&& 31) = nI (rgt sd f t) := by
  have : sd = 0 ∨ sd = 1 := by omega
  unfold rgt
  rcases this with rfl | rfl <;> split <;> rfl
def cnr (sd f t : Nat) : Nat := if t = f + 2 then 4 + 56 * sd + 3 else 4 + 56 * sd - 4
theorem cnr_lt {sd f t : Nat} (hs : sd < 2) : cnr sd f t < 64 := by unfold cnr; split <;> omega
theorem cnr_lined {sd f t : Nat} (hs : sd < 2) (hf : f = 4 + 56 * sd) : lined f (cnr sd f t) = true := by
  have : sd = 0 ∨ sd = 1 := by omega
  unfold cnr
  rcases this with rfl | rfl <;> subst hf <;> split <;> rfl
def rgh (rt sd f t : Nat) : Bool := decide (¬ nI rt &&& nI (rgt sd f t) = 0)
def can (bd : Nat → Nat) (sd rt f t : Nat) : Bool := rgh rt sd f t && decide (bd (cnr sd f t) = 4 + 6 * sd) && fre bd f (cnr sd f t)
def cas (bd : Nat → Nat) (sd rt f t : Nat) : Bool := decide (f = 4 + 56 * sd ∧ (t = f + 2 ∨ f = t + 2)) && (can bd sd rt f t && !isA bd f (1 - sd) && !isA bd ((f + t) / 2) (1 - sd))
theorem cas_y {bd : Nat → Nat} {sd rt f t : Nat} (h : f = 4 + 56 * sd) (h2 : t = f + 2 ∨ f = t + 2) : cas bd sd rt f t = (can bd sd rt f t && !isA bd f (1 - sd) && !isA bd ((f + t) / 2) (1 - sd)) := by unfold cas; rw [decide_eq_true ⟨h, h2⟩, Bool.true_and]
theorem cas_n {bd : Nat → Nat} {sd rt f t : Nat} (h : ¬ (f = 4 + 56 * sd ∧ (t = f + 2 ∨ f = t + 2))) : cas bd sd rt f t = false := by unfold cas; rw [decide_eq_false h, Bool.false_and]
def bkI (sd t : Nat) : Int32 := if sd = 0 then nI t - nI 8 else nI (t + 8)
def bkN (sd t : Nat) : Nat := if sd = 0 then t - 8 else t + 8
theorem bk_e {sd t : Nat} (ht : t < 64) (h : isq (bkI sd t) = true) : bkI sd t = nI (bkN sd t) ∧ bkN sd t < 64 := by
  unfold bkI at h ⊢
  unfold bkN
  by_cases h0 : sd = 0
  · simp only [if_pos h0] at h ⊢
    have h1 := of_decide_eq_true h
    rw [pk_sub_toInt (by omega) (by omega)] at h1
    exact ⟨pk_sub (by omega), by omega⟩
  · simp only [if_neg h0] at h ⊢
    rw [isq_n (by omega)] at h
    exact ⟨trivial, of_decide_eq_true h⟩
theorem pI_eq {t n : Nat} (ht : t < 64) (hn : n < 65) : nI t = pI n ↔ t = n := by
  unfold pI
  by_cases h : n < 64
  · rw [if_pos h]; exact nI_eq (by omega) (by omega)
  · rw [if_neg h]
    constructor
    · intro e
      have h2 := congrArg Int32.toInt e
      rw [nI_toInt (by omega)] at h2
      have h3 : (-1 : Int32).toInt = -1 := rfl
      omega
    · intro e; omega
def tps (bd : Nat → Nat) (sd ps f t : Nat) : Bool := decide (t = ps) && (decide (bd t = 0) && (atk bd f t && (isq (bkI sd t) && decide (bd (bkN sd t) = 7 - 6 * sd))))
def onI (sd : Nat) : Int32 := if sd = 0 then nI 8 else (-8)
def st1 (sd f t : Nat) : Prop := (sd = 0 ∧ t = f + 8) ∨ (¬ sd = 0 ∧ f = t + 8)
def st2 (sd f t : Nat) : Prop := (sd = 0 ∧ t = f + 16) ∨ (¬ sd = 0 ∧ f = t + 16)
theorem st1_e {sd f t : Nat} (hf : f < 64) (ht : t < 64) : nI t = nI f + onI sd ↔ st1 sd f t := by
  unfold onI st1
  by_cases h : sd = 0
  · rw [if_pos h, nI_add, nI_eq (by omega) (by omega)]; omega
  · rw [if_neg h]
    constructor
    · intro e
      have e2 : nI t + nI 8 = nI f := by rw [e, Int32.add_assoc]; rw [show ((-8 : Int32) + nI 8) = 0 from rfl, Int32.add_zero]
      rw [nI_add, nI_eq (by omega) (by omega)] at e2
      omega
    · intro e
      have e2 : f = t + 8 := by omega
      rw [e2, ← nI_add, Int32.add_assoc, show (nI 8 + (-8 : Int32)) = 0 from rfl, Int32.add_zero]
theorem st2_e {sd f t : Nat} (hf : f < 64) (ht : t < 64) : nI t = nI f + nI 2 * onI sd ↔ st2 sd f t := by
  unfold onI st2
  by_cases h : sd = 0
  · rw [if_pos h, pk_mul, nI_add, nI_eq (by omega) (by omega)]; omega
  · rw [if_neg h, show nI 2 * (-8 : Int32) = -16 from rfl]
    constructor
    · intro e
      have e2 : nI t + nI 16 = nI f := by rw [e, Int32.add_assoc]; rw [show ((-16 : Int32) + nI 16) = 0 from rfl, Int32.add_zero]
      rw [nI_add, nI_eq (by omega) (by omega)] at e2
      omega
    · intro e
      have e2 : f = t + 16 := by omega
      rw [e2, ← nI_add, Int32.add_assoc, show (nI 16 + (-16 : Int32)) = 0 from rfl, Int32.add_zero]
theorem st2_m {sd b f t : Nat} (h : st2 sd f t) : nI (b + f) + onI sd = nI (b + (f + t) / 2) := by
  unfold onI
  rcases h with ⟨h, e⟩ | ⟨h, e⟩
  · rw [if_pos h, nI_add, show b + f + 8 = b + (f + t) / 2 by omega]
  · rw [if_neg h, show b + f = b + (f + t) / 2 + 8 by omega, ← nI_add, Int32.add_assoc, show (nI 8 + (-8 : Int32)) = 0 from rfl, Int32.add_zero]
def pgo (bd : Nat → Nat) (sd ps f t : Nat) : Bool :=
  if (sd = 0 ∧ t = f + 8) ∨ (¬ sd = 0 ∧ f = t + 8) then decide (bd t = 0)
  else if (sd = 0 ∧ t = f + 16) ∨ (¬ sd = 0 ∧ f = t + 16) then decide (f / 8 = if sd = 0 then 1 else 6) && (decide (bd ((f + t) / 2) = 0) && decide (bd t = 0))
  else (atk bd f t && decide (sdN (bd t) = 1 - sd)) || tps bd sd ps f t
theorem pgo_1 {bd : Nat → Nat} {sd ps f t : Nat} (h : st1 sd f t) : pgo bd sd ps f t = decide (bd t = 0) := by unfold pgo; unfold st1 at h; rw [if_pos h]
theorem pgo_2 {bd : Nat → Nat} {sd ps f t : Nat} (h : ¬ st1 sd f t) (h2 : st2 sd f t) : pgo bd sd ps f t = (decide (f / 8 = if sd = 0 then 1 else 6) && (decide (bd ((f + t) / 2) = 0) && decide (bd t = 0))) := by unfold pgo; unfold st1 at h; unfold st2 at h2; rw [if_neg h, if_pos h2]
theorem pgo_3 {bd : Nat → Nat} {sd ps f t : Nat} (h : ¬ st1 sd f t) (h2 : ¬ st2 sd f t) : pgo bd sd ps f t = ((atk bd f t && decide (sdN (bd t) = 1 - sd)) || tps bd sd ps f t) := by unfold pgo; unfold st1 at h; unfold st2 at h2; rw [if_neg h, if_neg h2]
def gos (bd : Nat → Nat) (sd rt ps f t : Nat) : Bool :=
  if ¬ sdN (bd f) = sd ∨ sdN (bd t) = sd ∨ kd (bd t) = 6 then false
  else if kd (bd f) = 1 then pgo bd sd ps f t else atk bd f t || (decide (kd (bd f) = 6) && cas bd sd rt f t)
theorem gos_0 {bd : Nat → Nat} {sd rt ps f t : Nat} (h : ¬ sdN (bd f) = sd ∨ sdN (bd t) = sd ∨ kd (bd t) = 6) : gos bd sd rt ps f t = false := by unfold gos; rw [if_pos h]
theorem gos_1 {bd : Nat → Nat} {sd rt ps f t : Nat} (h1 : sdN (bd f) = sd) (h2 : ¬ sdN (bd t) = sd) (h3 : ¬ kd (bd t) = 6) (h : kd (bd f) = 1) : gos bd sd rt ps f t = pgo bd sd ps f t := by unfold gos; rw [if_neg (fun z => z.elim (fun a => a h1) (fun a => a.elim h2 h3)), if_pos h]
theorem gos_2 {bd : Nat → Nat} {sd rt ps f t : Nat} (h1 : sdN (bd f) = sd) (h2 : ¬ sdN (bd t) = sd) (h3 : ¬ kd (bd t) = 6) (h : ¬ kd (bd f) = 1) : gos bd sd rt ps f t = (atk bd f t || (decide (kd (bd f) = 6) && cas bd sd rt f t)) := by unfold gos; rw [if_neg (fun z => z.elim (fun a => a h1) (fun a => a.elim h2 h3)), if_neg h]
theorem rgt_lt {sd f t : Nat} (hs : sd < 2) : rgt sd f t < 9 := by
  have : sd = 0 ∨ sd = 1 := by omega
  unfold rgt
  rcases this with rfl | rfl <;> split <;> decide

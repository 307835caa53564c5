/-! making and counting -/
def LenOK : Prop := ∀ (bd : Nat → Nat) (sd rt ps : Nat), (∀ q, q < 64 → bd q < 13) → sd < 2 → ps < 65 → (legs bd sd rt ps).length ≤ 700
theorem LenOK.le {F : Nat → Int32} {b : Nat} {bd : Nat → Nat} {sd rt ps : Nat} (h : LenOK) (hB : Bd F b bd sd rt ps) : (legs bd sd rt ps).length ≤ 1024 := Nat.le_trans (h bd sd rt ps (fun q hq => (hB.1 q hq).2) hB.2.2.1 hB.2.2.2.2.2.2) (by decide)
def nB (bd : Nat → Nat) (sd ps y : Nat) : Nat → Nat := bhB bd sd ps (y % 64) (y / 64 % 64) (y / 4096)
def nR (bd : Nat → Nat) (sd rt y : Nat) : Nat := bhR bd sd rt (y % 64) (y / 64 % 64)
def nP (bd : Nat → Nat) (sd ps y : Nat) : Nat := bhP bd sd ps (y % 64) (y / 64 % 64) (y / 4096)
theorem legs_of {bd : Nat → Nat} {sd rt ps y : Nat} (h : y ∈ legs bd sd rt ps) : ∃ f t k, f < 64 ∧ t < 64 ∧ k < 6 ∧ y = f + 64 * t + 4096 * k ∧ lgl bd sd rt ps f t k = true := by
  unfold legs lgN at h
  obtain ⟨x, hx, he⟩ := List.mem_filterMap.mp h
  have hx := List.mem_range.mp hx
  split at he
  · rename_i h2
    cases he
    exact ⟨x / 384, x / 6 % 64, x % 6, by omega, by omega, by omega, rfl, h2⟩
  · cases he
theorem nB_e {bd : Nat → Nat} {sd ps f t k y : Nat} (hf : f < 64) (ht : t < 64) (e : y = f + 64 * t + 4096 * k) : y % 64 = f ∧ y / 64 % 64 = t ∧ y / 4096 = k ∧ nB bd sd ps y = bhB bd sd ps f t k ∧ nP bd sd ps y = bhP bd sd ps f t k := by
  have h1 : y % 64 = f := by omega
  have h2 : y / 64 % 64 = t := by omega
  have h3 : y / 4096 = k := by omega
  unfold nB nP
  rw [h1, h2, h3]
  exact ⟨rfl, rfl, rfl, rfl, rfl⟩
theorem lgl_pre {bd : Nat → Nat} {sd rt ps f t k : Nat} (h : lgl bd sd rt ps f t k = true) : pre bd sd rt ps f t k = true ∧ isA (bhB bd sd ps f t k) (kgs (bhB bd sd ps f t k) sd) (1 - sd) = false := by
  unfold lgl at h
  rw [Bool.and_eq_true] at h
  exact ⟨h.1, by simpa using h.2⟩
theorem plc_ge {L : List Nat} {x : Int32} : ∀ n, n < 2 ^ 31 → (0 ≤ plc L x n ↔ ∃ i, i < n ∧ nI (L.getD i 0) = x)
  | 0, _ => ⟨fun h => absurd (show (0 : Int32) ≤ -1 from h) (by decide), fun ⟨_, h, _⟩ => absurd h (Nat.not_lt_zero _)⟩
  | n + 1, hn => by
    rw [plc_s]
    by_cases e : nI (L.getD n 0) = x
    · rw [if_pos e]; exact ⟨fun _ => ⟨n, by omega, e⟩, fun _ => nI_pos' (by omega)⟩
    · rw [if_neg e, plc_ge n (by omega)]
      exact ⟨fun ⟨i, h1, h2⟩ => ⟨i, by omega, h2⟩, fun ⟨i, h1, h2⟩ => ⟨i, by
        rcases Nat.lt_or_ge i n with h | h
        · exact h
        · exact absurd (show i = n by omega) (fun z => e (by rw [← z]; exact h2)), h2⟩⟩
theorem getD_mem {L : List Nat} {i : Nat} (h : i < L.length) : L.getD i 0 ∈ L := by
  rw [List.getD_eq_getElem?_getD, List.getElem?_eq_getElem h]
  exact List.getElem_mem h
/-- the move x is on the list -/
theorem isl_of {bd : Nat → Nat} {sd rt ps : Nat} {x : Int32} (hp : plb bd sd = true) (hl : (lgs bd sd rt ps).length ≤ 1024) (h : 0 ≤ plc (lgs bd sd rt ps) x (lgs bd sd rt ps).length) : ∃ f t k, f < 64 ∧ t < 64 ∧ k < 6 ∧ x = nI (f + 64 * t + 4096 * k) ∧ lgl bd sd rt ps f t k = true := by
  obtain ⟨i, hi, he⟩ := (plc_ge _ (by omega)).mp h
  have hm := getD_mem hi
  have hm2 : (lgs bd sd rt ps).getD i 0 ∈ legs bd sd rt ps := by
    generalize (lgs bd sd rt ps).getD i 0 = z at hm
    unfold lgs at hm
    rwa [if_pos hp] at hm
  obtain ⟨f, t, k, h1, h2, h3, h4, h5⟩ := legs_of hm2
  exact ⟨f, t, k, h1, h2, h3, by rw [← he, h4], h5⟩
def kdc (bd : Nat → Nat) (sd rt ps : Nat) (x : Int32) : Nat := if ndN bd sd = 0 then (if 0 ≤ plc (lgs bd sd rt ps) x (lgs bd sd rt ps).length then 0 else 2) else ndN bd sd
def mkc (bd : Nat → Nat) (sd rt ps n : Nat) (x : Int32) : Nat := if ndN bd sd = 0 then (if 0 ≤ plc (lgs bd sd rt ps) x (lgs bd sd rt ps).length then (if n = 200 then 3 else 0) else 2) else ndN bd sd
def lnc (bd : Nat → Nat) (sd : Nat) (x : Int32) : Nat := if ndN bd sd = 0 then (if x < 0 ∨ ¬ x ≤ nI 3 then 2 else 0) else ndN bd sd
/-- what a legal move does -/
def knd (bd : Nat → Nat) (sd rt ps f t k : Nat) : Nat := (((((if ¬ bd t = 0 ∨ inp bd sd ps f t = true then 1 else 0) + (if inp bd sd ps f t = true then 2 else 0)) + (if ctl bd f t = true then 4 else 0)) + (if k = 0 then 0 else 8)) + (if isA (bhB bd sd ps f t k) (kgs (bhB bd sd ps f t k) (1 - sd)) (1 - (1 - sd)) = true then 16 else 0)) + (if (legs (bhB bd sd ps f t k) (1 - sd) (bhR bd sd rt f t) (bhP bd sd ps f t k)).length = 0 then 32 else 0)
def cn1 (bd : Nat → Nat) (sd rt ps : Nat) : Nat := (legs bd sd rt ps).length
def cn2 (bd : Nat → Nat) (sd rt ps : Nat) : Nat := ((legs bd sd rt ps).map fun y => cn1 (nB bd sd ps y) (1 - sd) (nR bd sd rt y) (nP bd sd ps y)).sum
def cn3 (bd : Nat → Nat) (sd rt ps : Nat) : Nat := ((legs bd sd rt ps).map fun y => cn2 (nB bd sd ps y) (1 - sd) (nR bd sd rt y) (nP bd sd ps y)).sum
def smT (L : List Nat) (g : Nat → Nat) (i : Nat) : Nat := ((L.take i).map g).sum
theorem smT_s {L : List Nat} {g : Nat → Nat} {i : Nat} (h : i < L.length) : smT L g (i + 1) = smT L g i + g (L.getD i 0) := by
  unfold smT
  rw [List.take_add_one, List.map_append, List.sum_append, List.getElem?_eq_getElem h, List.getD_eq_getElem?_getD, List.getElem?_eq_getElem h]
  simp
theorem smT_all {L : List Nat} {g : Nat → Nat} : smT L g L.length = (L.map g).sum := by unfold smT; rw [List.take_length]
theorem Bd.lt {F : Nat → Int32} {b : Nat} {bd : Nat → Nat} {sd rt ps : Nat} (h : Bd F b bd sd rt ps) : ∀ q, q < 64 → bd q < 13 := fun q hq => (h.1 q hq).2
/-- a legal move's facts, for the walk -/
theorem lgl_kg {bd : Nat → Nat} {sd rt ps f t k w : Nat} (hb : ∀ q, q < 64 → bd q < 13) (hs : sd < 2) (hw : w < 2) (hf : f < 64) (ht : t < 64) (hk : k < 6) (h : lgl bd sd rt ps f t k = true) (hg : kgs bd w < 64) : kgs (bhB bd sd ps f t k) w < 64 := bh_kgs hb hs hw hf ht hk (lgl_pre h).1 hg
def bsl (x : Int64) (y : Int32) : Int64 := x <<< (y.toInt64 &&& 63)
def bsr (x : Int64) (y : Int32) : Int64 := (x.toUInt64 >>> (y.toInt64.toUInt64 &&& Int64.toUInt64 63)).toInt64

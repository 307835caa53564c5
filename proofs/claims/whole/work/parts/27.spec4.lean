/-! the board behind a move -/
def upN (g : Nat → Nat) (k v : Nat) : Nat → Nat := fun j => if j = k then v else g j
theorem Bp_in {F : Nat → Int32} {b : Nat} {bd : Nat → Nat} (h : Bp F b bd) {q v : Nat} (hq : q < 64) (hv : v < 13) : Bp (upd F (b + q) (nI v)) b (upN bd q v) := by
  intro j hj
  unfold upN
  by_cases e : j = q
  · subst e; rw [if_pos rfl, pk_us]; exact ⟨rfl, hv⟩
  · rw [if_neg e, pk_un (by omega)]; exact h j hj
theorem Bp_out {F : Nat → Int32} {b : Nat} {bd : Nat → Nat} (h : Bp F b bd) {k : Nat} {x : Int32} (hk : k < b ∨ b + 64 ≤ k) : Bp (upd F k x) b bd := by
  intro j hj
  rw [pk_un (by omega)]
  exact h j hj
/-- outside the board at c the arrays agree -/
def Ag (F G : Nat → Int32) (c : Nat) : Prop := ∀ k, (k < c ∨ c + 67 ≤ k) → G k = F k
theorem Ag.rf {F : Nat → Int32} {c : Nat} : Ag F F c := fun _ _ => rfl
theorem Ag.up {F G : Nat → Int32} {c k : Nat} {x : Int32} (h : Ag F G c) (h1 : c ≤ k) (h2 : k < c + 67) : Ag F (upd G k x) c := by
  intro j hj
  rw [pk_un (by omega)]
  exact h j hj
theorem Ag.Bp {F G : Nat → Int32} {b c : Nat} {bd : Nat → Nat} (h : Ag F G c) (hb : b + 67 ≤ c) (hB : Bp F b bd) : Bp G b bd := fun q hq => by rw [h _ (by omega)]; exact hB q hq
theorem Ag.Bd {F G : Nat → Int32} {b c : Nat} {bd : Nat → Nat} {sd rt ps : Nat} (h : Ag F G c) (hb : b + 67 ≤ c) (hB : Bd F b bd sd rt ps) : Bd G b bd sd rt ps := by
  obtain ⟨h1, h2, h3, h4, h5, h6, h7⟩ := hB
  exact ⟨h.Bp hb h1, by rw [h _ (by omega)]; exact h2, h3, by rw [h _ (by omega)]; exact h4, h5, by rw [h _ (by omega)]; exact h6, h7⟩
def ctl (bd : Nat → Nat) (f t : Nat) : Bool := decide (kd (bd f) = 6) && decide (ap (f % 8) (t % 8) = 2)
def inp (bd : Nat → Nat) (sd ps f t : Nat) : Bool := decide (kd (bd f) = 1) && tps bd sd ps f t
def rok (f t : Nat) : Nat := if f < t then f + 3 else f - 4
def bh1 (bd : Nat → Nat) (sd ps f t : Nat) : Nat → Nat := if inp bd sd ps f t = true then upN bd (bkN sd t) 0 else bd
def bh2 (bd : Nat → Nat) (sd ps f t k : Nat) : Nat → Nat := upN (upN (bh1 bd sd ps f t) f 0) t (if k = 0 then bd f else k + 6 * sd)
/-- the pieces behind a move -/
def bhB (bd : Nat → Nat) (sd ps f t k : Nat) : Nat → Nat := if ctl bd f t = true then upN (upN (bh2 bd sd ps f t k) (rok f t) 0) ((f + t) / 2) (4 + 6 * sd) else bh2 bd sd ps f t k
def bhK (bd : Nat → Nat) (sd rt f : Nat) : Nat := if kd (bd f) = 6 then rt &&& (15 - 3 * 4 ^ sd) else rt
/-- the rights behind a move -/
def bhR (bd : Nat → Nat) (sd rt f t : Nat) : Nat := (bhK bd sd rt f &&& (15 - crn f)) &&& (15 - crn t)
def tkN (g : Nat → Nat) (sd p n : Nat) : Bool := (List.range n).any fun s => decide (g s = 7 - 6 * sd) && atk g s p
/-- passing behind a move -/
def bhP (bd : Nat → Nat) (sd ps f t k : Nat) : Nat := if kd (bd f) = 1 ∧ ap (f / 8) (t / 8) = 2 then (if tkN (bhB bd sd ps f t k) sd ((f + t) / 2) 64 = true then (f + t) / 2 else 64) else 64
theorem tkN_s (g : Nat → Nat) (sd p n : Nat) : tkN g sd p (n + 1) = (tkN g sd p n || (decide (g n = 7 - 6 * sd) && atk g n p)) := by
  unfold tkN
  rw [List.range_succ, List.any_append]
  simp
set_option maxRecDepth 100000 in
theorem andn_chk : ((List.range 16).all fun a => (List.range 16).all fun b => decide (nI a &&& (nI b ^^^ (-1)) = nI (a &&& (15 - b)))) = true := by decide +kernel
theorem andn {a b : Nat} (ha : a < 16) (hb : b < 16) : nI a &&& (nI b ^^^ (-1)) = nI (a &&& (15 - b)) := of_decide_eq_true (all_lt (all_lt andn_chk ha) hb)
theorem and16 {a b : Nat} (ha : a < 16) : a &&& b < 16 := Nat.lt_of_le_of_lt Nat.and_le_left ha
theorem crn_lt (q : Nat) : crn q < 16 := by unfold crn; (repeat' split) <;> omega
theorem sh3 {sd : Nat} (hs : sd < 2) : nI 3 <<< (nI (2 * sd) &&& 31) = nI (3 * 4 ^ sd) ∧ 3 * 4 ^ sd < 16 := by
  have : sd = 0 ∨ sd = 1 := by omega
  rcases this with rfl | rfl <;> exact ⟨rfl, by decide⟩
theorem bhK_lt {bd : Nat → Nat} {sd rt f : Nat} (h : rt < 16) : bhK bd sd rt f < 16 := by unfold bhK; split; exact and16 h; exact h
theorem bhR_lt {bd : Nat → Nat} {sd rt f t : Nat} (h : rt < 16) : bhR bd sd rt f t < 16 := and16 (and16 (bhK_lt h))
theorem ctl_own {bd : Nat → Nat} {sd rt ps f t : Nat} (hg : gos bd sd rt ps f t = true) (h : ctl bd f t = true) : f = 4 + 56 * sd ∧ (t = f + 2 ∨ f = t + 2) := by
  unfold ctl at h
  simp only [Bool.and_eq_true, decide_eq_true_eq] at h
  unfold gos at hg
  split at hg
  · exact absurd hg (by decide)
  · rw [if_neg (by omega)] at hg
    have hna : atk bd f t = false := by
      by_cases e : f = t
      · exact atk_0 (Or.inr e)
      · rw [atk_6 e h.1]; exact decide_eq_false (by omega)
    rw [hna, Bool.false_or, Bool.and_eq_true] at hg
    have h2 := hg.2
    unfold cas at h2
    rw [Bool.and_eq_true] at h2
    exact of_decide_eq_true h2.1
theorem inp_bk {bd : Nat → Nat} {sd ps f t : Nat} (h : inp bd sd ps f t = true) : isq (bkI sd t) = true := by
  unfold inp tps at h
  simp only [Bool.and_eq_true] at h
  exact h.2.2.2.2.1
theorem cp_s {F G : Nat → Int32} {b d i : Nat} (h : ∀ j, j < i → G (d + j) = F (b + j)) (h2 : G (b + i) = F (b + i)) : ∀ j, j < i + 1 → upd G (d + i) (G (b + i)) (d + j) = F (b + j) := by
  intro j hj
  by_cases e : j = i
  · rw [e, pk_us, h2]
  · rw [pk_un (by omega)]; exact h j (by omega)

/-! a move keeps both kings -/
theorem fre_at {bd : Nat → Nat} {f t i : Nat} (h : fre bd f t = true) (h1 : i ≠ 0) (h2 : i < far f t) : bd (pt f t i) = 0 := by
  have := all_lt h h2
  simp only [Bool.or_eq_true, decide_eq_true_eq, beq_iff_eq] at this
  rcases this with h | h
  · exact absurd h h1
  · exact h
theorem can_at {bd : Nat → Nat} {sd rt f t : Nat} (hs : sd < 2) (hf : f = 4 + 56 * sd) (h2 : t = f + 2 ∨ f = t + 2) (h : can bd sd rt f t = true) : bd (rok f t) = 4 + 6 * sd ∧ bd ((f + t) / 2) = 0 ∧ bd t = 0 ∧ cnr sd f t = rok f t := by
  unfold can at h
  simp only [Bool.and_eq_true, decide_eq_true_eq] at h
  obtain ⟨⟨-, hc⟩, hfr⟩ := h
  have hcr : cnr sd f t = rok f t := by unfold cnr rok; (repeat' split) <;> omega
  rw [hcr] at hc hfr
  refine ⟨hc, ?_, ?_, hcr⟩
  · have : sd = 0 ∨ sd = 1 := by omega
    rcases this with rfl | rfl <;> subst hf <;> rcases h2 with h2 | h2
    · subst h2; exact fre_at (i := 1) hfr (by decide) (by decide)
    · obtain rfl : t = 2 := by omega
      exact fre_at (i := 1) hfr (by decide) (by decide)
    · subst h2; exact fre_at (i := 1) hfr (by decide) (by decide)
    · obtain rfl : t = 58 := by omega
      exact fre_at (i := 1) hfr (by decide) (by decide)
  · have : sd = 0 ∨ sd = 1 := by omega
    rcases this with rfl | rfl <;> subst hf <;> rcases h2 with h2 | h2
    · subst h2; exact fre_at (i := 2) hfr (by decide) (by decide)
    · obtain rfl : t = 2 := by omega
      exact fre_at (i := 2) hfr (by decide) (by decide)
    · subst h2; exact fre_at (i := 2) hfr (by decide) (by decide)
    · obtain rfl : t = 58 := by omega
      exact fre_at (i := 2) hfr (by decide) (by decide)
theorem bh_kc {bd : Nat → Nat} {sd rt ps f t k w : Nat} (hb : ∀ q, q < 64 → bd q < 13) (hs : sd < 2) (hw : w < 2) (hf : f < 64) (ht : t < 64) (hk6 : k < 6) (hg : gos bd sd rt ps f t = true) (hn : f ≠ t) (hk1 : k ≠ 1) (hkp : ¬ kd (bd f) = 1 → k = 0) (hc : kc bd w 64 = 1) : kc (bhB bd sd ps f t k) w 64 = 1 := by
  obtain ⟨g1, g2, g3⟩ := gos_of hg
  have hfb := hb f hf
  have hnt : bd t ≠ 6 + 6 * w := fun z => g3 (kd_K hw z)
  have e1 : kc (bh1 bd sd ps f t) w 64 = 1 ∧ bh1 bd sd ps f t f = bd f ∧ bh1 bd sd ps f t t = bd t := by
    unfold bh1
    by_cases hi : inp bd sd ps f t = true
    · rw [if_pos hi]
      obtain ⟨i1, i2, i3, i4⟩ := inp_pw hi
      have hbl := (bk_e ht (inp_bk hi)).2
      have n1 : f ≠ bkN sd t := by
        intro z
        rw [← z] at i2
        rw [i2] at g1
        unfold sdN at g1
        (repeat' split at g1) <;> omega
      have n2 : t ≠ bkN sd t := by intro z; rw [← z, i3] at i2; omega
      refine ⟨?_, upN_ne n1, upN_ne n2⟩
      rw [kc_up0 hbl (by omega) (by omega)]; exact hc
    · rw [if_neg hi]; exact ⟨hc, rfl, rfl⟩
  obtain ⟨a1, a2, a3⟩ := e1
  have e2 := kc_up (bh1 bd sd ps f t) w f 0 64 hf
  have e3 := kc_up (upN (bh1 bd sd ps f t) f 0) w t (if k = 0 then bd f else k + 6 * sd) 64 ht
  rw [show upN (bh1 bd sd ps f t) f 0 t = bd t from (upN_ne (Ne.symm hn)).trans a3, if_neg hnt] at e3
  rw [a2, if_neg (show ¬ 0 = 6 + 6 * w by omega)] at e2
  have e4 : kc (bh2 bd sd ps f t k) w 64 = 1 := by
    unfold bh2
    by_cases hk : k = 0
    · rw [if_pos hk] at e3 ⊢
      omega
    · rw [if_neg hk] at e3 ⊢
      have hp : kd (bd f) = 1 := Classical.byContradiction fun z => hk (hkp z)
      have hnf : bd f ≠ 6 + 6 * w := fun z => by rw [kd_K hw z] at hp; omega
      rw [if_neg hnf] at e2
      rw [if_neg (show ¬ k + 6 * sd = 6 + 6 * w by omega)] at e3
      omega
  unfold bhB
  by_cases hct : ctl bd f t = true
  · rw [if_pos hct]
    obtain ⟨o1, o2⟩ := ctl_own hg hct
    obtain ⟨c1, c2⟩ := ctl_can hg hct
    obtain ⟨r1, r2, r3, r4⟩ := can_at hs o1 o2 c1
    have hni : ¬ inp bd sd ps f t = true := fun z => by have := (inp_pw z).1; omega
    have hb1 : bh1 bd sd ps f t = bd := by unfold bh1; rw [if_neg hni]
    have hrl : rok f t < 64 := by rw [← r4]; exact cnr_lt hs
    have nr : rok f t ≠ f ∧ rok f t ≠ t ∧ rok f t ≠ (f + t) / 2 := by unfold rok; split <;> omega
    have v1 : bh2 bd sd ps f t k (rok f t) = 4 + 6 * sd := by unfold bh2; rw [upN_ne nr.2.1, upN_ne nr.1, hb1, r1]
    have v2 : upN (bh2 bd sd ps f t k) (rok f t) 0 ((f + t) / 2) = 0 := by
      rw [upN_ne (Ne.symm nr.2.2)]; unfold bh2; rw [upN_ne (by omega), upN_ne (by omega), hb1, r2]
    rw [kc_up0 (by omega) (by omega) (by omega), kc_up0 hrl (by omega) (by omega)]
    exact e4
  · rw [if_neg hct]; exact e4
theorem bh_kgs {bd : Nat → Nat} {sd rt ps f t k w : Nat} (hb : ∀ q, q < 64 → bd q < 13) (hs : sd < 2) (hw : w < 2) (hf : f < 64) (ht : t < 64) (hk6 : k < 6) (hp : pre bd sd rt ps f t k = true) (h : kgs bd w < 64) : kgs (bhB bd sd ps f t k) w < 64 := by
  obtain ⟨h1, h2, h3, h4⟩ := pre_go hp
  refine kgs_of (bh_kc (rt := rt) hb hs hw hf ht hk6 h1 h2 h3 (fun z => ?_) (kc_of h))
  unfold lst at h4
  rw [decide_eq_false z, Bool.false_and] at h4
  have := of_decide_eq_false h4.symm
  omega
theorem upN_lt {g : Nat → Nat} {k v : Nat} (h : ∀ q, q < 64 → g q < 13) (hv : v < 13) : ∀ q, q < 64 → upN g k v q < 13 := by
  intro q hq
  unfold upN
  split
  · exact hv
  · exact h q hq
theorem bh_lt {bd : Nat → Nat} {sd ps f t k : Nat} (hb : ∀ q, q < 64 → bd q < 13) (hs : sd < 2) (hf : f < 64) (hk6 : k < 6) : ∀ q, q < 64 → bhB bd sd ps f t k q < 13 := by
  have h1 : ∀ q, q < 64 → bh1 bd sd ps f t q < 13 := by
    unfold bh1
    split
    · exact upN_lt hb (by decide)
    · exact hb
  have h2 : ∀ q, q < 64 → bh2 bd sd ps f t k q < 13 := by
    unfold bh2
    refine upN_lt (upN_lt h1 (by decide)) ?_
    have := hb f hf
    split <;> omega
  unfold bhB
  split
  · exact upN_lt (upN_lt h2 (by decide)) (by omega)
  · exact h2

/-! kings -/
theorem lpf_tt {v p t : Nat} : lpf v p t t = false := by
  have h0 : ∀ a : Nat, ap a a = 0 := fun a => ap_0.mpr rfl
  unfold lpf pwg kng kgg
  simp [h0]
theorem goN_ne {u t j : Nat} (hu : u < 8) (ht : t < 64) (hj : j < 7) (h : goN u (j + 1) t < 64) : goN u (j + 1) t ≠ t := lined_ne (geoA hu ht hj h rfl).1
theorem sAt_same {g g' : Nat → Nat} {t v u : Nat} (ht : t < 64) (h : ∀ j, j < 7 → goN u (j + 1) t < 64 → g (goN u (j + 1) t) = g' (goN u (j + 1) t)) : sAt g t v u ↔ sAt g' t v u := by
  constructor
  · rintro ⟨m, hm, a, b, c⟩
    exact ⟨m, hm, a, by rw [← h m hm a]; exact b, fun j hj => by rw [← h j (by omega) (goN_lt (by omega) a (by omega))]; exact c j hj⟩
  · rintro ⟨m, hm, a, b, c⟩
    exact ⟨m, hm, a, by rw [h m hm a]; exact b, fun j hj => by rw [h j (by omega) (goN_lt (by omega) a (by omega))]; exact c j hj⟩
theorem lpf_sd {v p s t : Nat} (hv : v < 2) (h : lpf v p s t = true) : sdN p = v := by
  rcases lpf_p h with e | e | e <;> rw [e] <;> exact sd_e hv (by omega) (by omega)
theorem lAt_same {g g' : Nat → Nat} {t v : Nat} (hv : v < 2) (h : ∀ s, s < 64 → s ≠ t → g s = g' s ∨ (sdN (g s) ≠ v ∧ sdN (g' s) ≠ v)) : lAt g t v ↔ lAt g' t v := by
  constructor
  · rintro ⟨s, hs, a⟩
    have hn : s ≠ t := fun z => by rw [z, lpf_tt] at a; cases a
    rcases h s hs hn with e | e
    · exact ⟨s, hs, by rw [← e]; exact a⟩
    · exact absurd (lpf_sd hv a) e.1
  · rintro ⟨s, hs, a⟩
    have hn : s ≠ t := fun z => by rw [z, lpf_tt] at a; cases a
    rcases h s hs hn with e | e
    · exact ⟨s, hs, by rw [e]; exact a⟩
    · exact absurd (lpf_sd hv a) e.2
/-- who stands on a square doesn't matter to who attacks it -/
theorem isA_up {g : Nat → Nat} {t v x : Nat} (hb : ∀ q, q < 64 → g q < 13) (hx : x < 13) (hv : v < 2) (ht : t < 64) : isA (upN g t x) t v = isA g t v := by
  rw [Bool.eq_iff_iff, isA_e (upN_lt hb hx) hv ht, isA_e hb hv ht]
  refine or_congr (lAt_same hv fun s _ hn => Or.inl (upN_ne hn)) ⟨?_, ?_⟩
  · rintro ⟨u, hu, a⟩; exact ⟨u, hu, (sAt_same ht fun j hj hl => upN_ne (goN_ne hu ht hj hl)).mp a⟩
  · rintro ⟨u, hu, a⟩; exact ⟨u, hu, (sAt_same ht fun j hj hl => upN_ne (goN_ne hu ht hj hl)).mpr a⟩
theorem slf_0 (v w : Nat) : slf v w 0 = false := by
  cases e : slf v w 0
  · rfl
  · obtain ⟨k, k1, k2, h⟩ := slf_p e; omega
theorem slf_o {v w p : Nat} (hv : v < 2) (h : sdN p ≠ v) : slf v w p = false := by
  cases e : slf v w p
  · rfl
  · exact absurd (slf_sd hv e) h
theorem sAt_past {g : Nat → Nat} {t v u n : Nat} (h : ∀ j, j < n → slf v u (g (goN u (j + 1) t)) = false) (hs : sAt g t v u) : sAt g (goN u n t) v u ∧ ∀ j, j < n → g (goN u (j + 1) t) = 0 := by
  obtain ⟨m, hm, a, b, c⟩ := hs
  have hmn : n ≤ m := by
    rcases Nat.lt_or_ge m n with h1 | h1
    · rw [h m h1] at b; cases b
    · exact h1
  have e : ∀ i, goN u (i + 1) (goN u n t) = goN u (n + i + 1) t := fun i => by rw [← goN_add, Nat.add_assoc]
  refine ⟨⟨m - n, by omega, by rw [e, show n + (m - n) + 1 = m + 1 by omega]; exact a, by rw [e, show n + (m - n) + 1 = m + 1 by omega]; exact b, fun j hj => by rw [e]; exact c (n + j) (by omega)⟩, fun j hj => c j (by omega)⟩
theorem castle_safe {bd : Nat → Nat} {sd K t mid rok u1 u2 n2 : Nat} (hb : ∀ q, q < 64 → bd q < 13) (hs : sd < 2) (hK : K < 64) (ht : t < 64) (hm : mid < 64) (hr : rok < 64) (hu1 : u1 < 8) (hu2 : u2 < 8) (bK : bd K = 6 * sd + 6) (bR : bd rok = 6 * sd + 4) (bm : bd mid = 0) (b_t : bd t = 0) (a1 : goN u1 1 t = mid) (a2 : goN u1 2 t = K) (a3 : goN u1 1 mid = K) (w1 : wyf t rok = u2) (w2 : wyf t mid = u1) (w3 : wyf t K = u1) (w4 : wyf mid K = u1) (z1 : ∀ j, j < n2 → goN u2 (j + 1) t < 64 ∧ bd (goN u2 (j + 1) t) = 0 ∧ goN u2 (j + 1) t ≠ mid) (z2 : goN u2 (n2 + 1) t = rok) (z3 : goN u2 1 rok = 64) (z4 : n2 < 6) :
    (isA bd K (1 - sd) = false ∧ isA bd mid (1 - sd) = false ∧ isA (upN (upN (upN (upN bd K 0) t (bd K)) rok 0) mid (4 + 6 * sd)) t (1 - sd) = false) ↔ (isA (upN bd K 0) K (1 - sd) = false ∧ isA (upN bd K 0) mid (1 - sd) = false ∧ isA (upN bd K 0) t (1 - sd) = false) := by
  have hv : 1 - sd < 2 := by omega
  have b0 : ∀ q, q < 64 → upN bd K 0 q < 13 := upN_lt hb (by decide)
  have bG : ∀ q, q < 64 → upN (upN (upN (upN bd K 0) t (bd K)) rok 0) mid (4 + 6 * sd) q < 13 := upN_lt (upN_lt (upN_lt b0 (hb K hK)) (by decide)) (by omega)
  have nKt : K ≠ t := fun z => by rw [z] at bK; omega
  have nKm : K ≠ mid := fun z => by rw [z] at bK; omega
  have nKr : K ≠ rok := fun z => by rw [z] at bK; omega
  have nmr : mid ≠ rok := fun z => by rw [z] at bm; omega
  have ntr : t ≠ rok := fun z => by rw [z] at b_t; omega
  have ntm : t ≠ mid := fun z => (goN_ne (j := 0) hu1 ht (by omega) (by rw [a1]; exact hm)) (by rw [a1]; exact z.symm)
  have oK : sdN (6 * sd + 6) ≠ 1 - sd := by rw [sd_e hs (by omega) (by omega)]; omega
  have oR : sdN (6 * sd + 4) ≠ 1 - sd := by rw [sd_e hs (by omega) (by omega)]; omega
  have o0 : sdN 0 ≠ 1 - sd := by rw [sd_0]; omega
  rw [isA_up hb (by decide) hv hK]
  refine and_congr_right fun hAK => ?_
  have noK : ∀ u, u < 8 → ¬ sAt bd K (1 - sd) u := fun u hu z => by
    rw [(isA_e hb hv hK).mpr (Or.inr ⟨u, hu, z⟩)] at hAK; cases hAK
  have noK0 : ∀ u, u < 8 → ¬ sAt (upN bd K 0) K (1 - sd) u := fun u hu z => noK u hu ((sAt_same hK fun j hj hl => upN_ne (goN_ne hu hK hj hl)).mp z)
  have hmid : isA bd mid (1 - sd) = isA (upN bd K 0) mid (1 - sd) := by
    rw [Bool.eq_iff_iff, isA_e hb hv hm, isA_e b0 hv hm]
    refine or_congr (lAt_same hv fun s _ _ => ?_) ⟨?_, ?_⟩
    · by_cases e : s = K
      · right; rw [e, upN_eq, bK]; exact ⟨oK, o0⟩
      · left; exact (upN_ne e).symm
    · rintro ⟨u, hu, a⟩
      by_cases e : u = u1
      · subst e
        have := (sAt_past (n := 1) (fun j hj => by rw [show j = 0 by omega, a3, bK]; exact slf_o hv oK) a).2 0 (by omega)
        rw [a3, bK] at this; omega
      · exact ⟨u, hu, (sAt_same hm fun j hj hl => (upN_ne fun z => e (by rw [← w4]; exact (wyf_e hu hm hj hK z).symm)).symm).mp a⟩
    · rintro ⟨u, hu, a⟩
      by_cases e : u = u1
      · subst e
        have := (sAt_past (n := 1) (fun j hj => by rw [show j = 0 by omega, a3, upN_eq]; exact slf_0 _ _) a).1
        rw [a3] at this
        exact absurd this (noK0 u hu)
      · exact ⟨u, hu, (sAt_same hm fun j hj hl => (upN_ne fun z => e (by rw [← w4]; exact (wyf_e hu hm hj hK z).symm)).symm).mpr a⟩
  rw [hmid]
  refine and_congr_right fun _ => ?_
  have gm : upN (upN (upN (upN bd K 0) t (bd K)) rok 0) mid (4 + 6 * sd) mid = 6 * sd + 4 := by rw [upN_eq]; omega
  have gr : upN (upN (upN (upN bd K 0) t (bd K)) rok 0) mid (4 + 6 * sd) rok = 0 := by rw [upN_ne (Ne.symm nmr), upN_eq]
  have gK : upN (upN (upN (upN bd K 0) t (bd K)) rok 0) mid (4 + 6 * sd) K = 0 := by rw [upN_ne nKm, upN_ne nKr, upN_ne nKt, upN_eq]
  have gq : ∀ q, q ≠ t → q ≠ mid → q ≠ rok → upN (upN (upN (upN bd K 0) t (bd K)) rok 0) mid (4 + 6 * sd) q = upN bd K 0 q := fun q c1 c2 c3 => by rw [upN_ne c2, upN_ne c3, upN_ne c1]
  have hG : isA (upN (upN (upN (upN bd K 0) t (bd K)) rok 0) mid (4 + 6 * sd)) t (1 - sd) = isA (upN bd K 0) t (1 - sd) := by
    generalize upN (upN (upN (upN bd K 0) t (bd K)) rok 0) mid (4 + 6 * sd) = G at *
    have g0K : upN bd K 0 K = 0 := upN_eq
    have g0m : upN bd K 0 mid = 0 := by rw [upN_ne (Ne.symm nKm)]; exact bm
    have g0r : upN bd K 0 rok = 6 * sd + 4 := by rw [upN_ne (Ne.symm nKr)]; exact bR
    have g0b : ∀ j, j < n2 → upN bd K 0 (goN u2 (j + 1) t) = 0 := fun j hj => by rw [upN_ne (fun z => by have := (z1 j hj).2.1; rw [z, bK] at this; omega)]; exact (z1 j hj).2.1
    have gb : ∀ j, j < n2 → G (goN u2 (j + 1) t) = 0 := fun j hj => by rw [gq _ (goN_ne hu2 ht (by omega) (z1 j hj).1) (z1 j hj).2.2 (fun z => by have := g0b j hj; rw [z, g0r] at this; omega)]; exact g0b j hj
    have hoth : ∀ u, u < 8 → u ≠ u1 → u ≠ u2 → (sAt G t (1 - sd) u ↔ sAt (upN bd K 0) t (1 - sd) u) := fun u hu n1 n2 => sAt_same ht fun j hj hl => gq _ (goN_ne hu ht hj hl) (fun z => n1 (by rw [← w2]; exact (wyf_e hu ht hj hm z).symm)) (fun z => n2 (by rw [← w1]; exact (wyf_e hu ht hj hr z).symm))
    have no1 : ¬ sAt G t (1 - sd) u1 := fun a => by
      have := (sAt_past (n := 1) (fun j hj => by rw [show j = 0 by omega, a1, gm]; exact slf_o hv oR) a).2 0 (by omega)
      rw [a1, gm] at this; omega
    have no2 : ¬ sAt (upN bd K 0) t (1 - sd) u1 := fun a => by
      have := (sAt_past (n := 2) (fun j hj => by
        have : j = 0 ∨ j = 1 := by omega
        rcases this with rfl | rfl
        · rw [a1, g0m]; exact slf_0 _ _
        · rw [a2, g0K]; exact slf_0 _ _) a).1
      rw [a2] at this
      exact noK0 u1 hu1 this
    have no3 : ¬ sAt (upN bd K 0) t (1 - sd) u2 := fun a => by
      have := (sAt_past (n := n2 + 1) (fun j hj => by
        by_cases e : j = n2
        · rw [e, z2, g0r]; exact slf_o hv oR
        · rw [g0b j (by omega)]; exact slf_0 _ _) a).2 n2 (by omega)
      rw [z2, g0r] at this; omega
    have no4 : ¬ sAt G t (1 - sd) u2 := fun a => by
      have := (sAt_past (n := n2 + 1) (fun j hj => by
        by_cases e : j = n2
        · rw [e, z2, gr]; exact slf_0 _ _
        · rw [gb j (by omega)]; exact slf_0 _ _) a).1
      rw [z2] at this
      obtain ⟨m, _, h2, _⟩ := this
      rw [show m + 1 = 1 + m by omega, goN_add, z3, goN_out] at h2
      omega
    rw [Bool.eq_iff_iff, isA_e bG hv ht, isA_e b0 hv ht]
    refine or_congr (lAt_same hv fun s _ hn => ?_) ⟨?_, ?_⟩
    · by_cases e1 : s = mid
      · right; rw [e1, gm, g0m]; exact ⟨oR, o0⟩
      · by_cases e2 : s = rok
        · right; rw [e2, gr, g0r]; exact ⟨o0, oR⟩
        · left; exact gq s hn e1 e2
    · rintro ⟨u, hu, a⟩
      by_cases e1 : u = u1
      · subst e1; exact absurd a no1
      · by_cases e2 : u = u2
        · subst e2; exact absurd a no4
        · exact ⟨u, hu, (hoth u hu e1 e2).mp a⟩
    · rintro ⟨u, hu, a⟩
      by_cases e1 : u = u1
      · subst e1; exact absurd a no2
      · by_cases e2 : u = u2
        · subst e2; exact absurd a no3
        · exact ⟨u, hu, (hoth u hu e1 e2).mpr a⟩
  rw [hG]
theorem dgr_e {bd : Nat → Nat} {sd q K : Nat} (h : OK bd sd K) (hq : q < 64) : bt (dgr bd sd) q = isA (upN bd K 0) q (1 - sd) := by
  obtain ⟨hb, hs, hK, hku, hkk⟩ := h
  have hbK : bd K = 6 * sd + 6 := (hku K hK).mpr rfl
  unfold dgr
  refine ats_e (upN_lt hb (by decide)) (by omega) hq (fun q hq => ?_) (fun q k hq k1 k2 => ?_) (fun q hq => ?_)
  · rw [bt_and, bt_not hq, ful_e (hb q hq) hs hq]
    unfold kngS
    rw [sqs_bt hq]
    by_cases e : q = K
    · rw [e, upN_eq, hbK]; simp
    · rw [upN_ne e, decide_eq_false (fun z => e ((hku q hq).mp z))]; simp
  · by_cases e : q = K
    · rw [e, upN_eq, hbK]; omega
    · rw [upN_ne e]
  · rw [bt_0]
    by_cases e : q = K
    · rw [e, upN_eq, hbK]; omega
    · rw [upN_ne e]; simp

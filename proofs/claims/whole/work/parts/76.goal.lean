/-! what the class finds is legal: pieces but kings -/
theorem plb_ok {bd : Nat → Nat} {sd : Nat} (hb : ∀ q, q < 64 → bd q < 13) (hs : sd < 2) (h : plb bd sd = true) : OK bd sd (kgs bd sd) ∧ (∀ f t, f < 64 → t < 64 → sdN (bd f) = sd → atk bd f t = true → kd (bd t) = 6 → sdN (bd t) = sd) := by
  have k0 := plb_k (w := 0) (by decide) h
  have k1 := plb_k (w := 1) (by decide) h
  have ks : kgs bd sd < 64 := plb_k hs h
  have kv : kgs bd (1 - sd) < 64 := plb_k (by omega) h
  have hA : isA bd (kgs bd (1 - sd)) sd = false := by
    unfold plb at h
    simp only [Bool.and_eq_true, Bool.not_eq_true'] at h
    have := h.2.2
    rw [show 1 - (1 - sd) = sd by omega] at this
    exact this
  obtain ⟨a1, a2⟩ := kgs_u ks
  obtain ⟨b1, b2⟩ := kgs_u kv
  refine ⟨⟨hb, hs, ks, fun q hq => ⟨fun z => a2 q hq (by omega), fun z => by rw [z, a1]; omega⟩, fun q hq z => ?_⟩, fun f t hf ht ho ha hk => ?_⟩
  · cases e : kgg q (kgs bd sd)
    · rfl
    · exfalso
      rw [b2 q hq (by omega)] at e
      have : isA bd (kgs bd (1 - sd)) sd = true := (isA_e hb hs kv).mpr (Or.inl ⟨kgs bd sd, ks, by
        unfold lpf
        rw [kgg_c] at e
        rw [decide_eq_true (show bd (kgs bd sd) = 6 * sd + 6 by omega), e]
        simp⟩)
      rw [this] at hA
      cases hA
  · apply Classical.byContradiction
    intro hn
    have hv : sdN (bd t) = 1 - sd := by
      have := hb t ht
      unfold kd at hk
      unfold sdN at hn ⊢
      (repeat' split at hk) <;> (repeat' split at hn) <;> (repeat' split) <;> omega
    have ht2 : t = kgs bd (1 - sd) := b2 t ht (kd_6 (hb t ht) hv hk)
    rw [ht2] at ha
    have : isA bd (kgs bd (1 - sd)) sd = true := by
      unfold isA anyN
      exact List.any_eq_true.mpr ⟨f, List.mem_range.mpr hf, by rw [ha, decide_eq_true ho]; rfl⟩
    rw [this] at hA
    cases hA
theorem bit_b {f t : Nat} (hf : f < 64) (ht : t < 64) : bt (bsl 1 (nI f)) t = true ↔ t = f := by rw [bt_1 hf ht, decide_eq_true_eq]
theorem slN_e {x full : Int64} {a t : Nat} : ∀ n, (bt (slN x full a n) t = true ↔ ∃ i, i < n ∧ bt (ray x full (a + i)) t = true)
  | 0 => by
    show bt 0 t = true ↔ _
    rw [bt_0]
    exact ⟨fun h => absurd h (by decide), fun ⟨u, hu, _⟩ => absurd hu (Nat.not_lt_zero u)⟩
  | n + 1 => by
    show bt (slN x full a n ||| ray x full (a + n)) t = true ↔ _
    rw [bt_or, Bool.or_eq_true, slN_e n]
    constructor
    · rintro (⟨i, h1, h2⟩ | h)
      · exact ⟨i, by omega, h2⟩
      · exact ⟨n, by omega, h⟩
    · rintro ⟨i, h1, h2⟩
      by_cases e : i = n
      · subst e; exact Or.inr h2
      · exact Or.inl ⟨i, by omega, h2⟩
theorem sld_e {bd : Nat → Nat} {sd f t k : Nat} (hb : ∀ q, q < 64 → bd q < 13) (hs : sd < 2) (hf : f < 64) (ht : t < 64) (h3 : 3 ≤ k) (h5 : k ≤ 5) (e : bd f = 6 * sd + k) : bt (sld k (bsl 1 (nI f)) (fulS bd sd)) t = atk bd f t := by
  rw [Bool.eq_iff_iff, atk_sl hf ht hs h3 h5 e]
  unfold sld
  rw [slN_e]
  have hsl : ∀ w, slf sd w (bd f) = true ↔ (if w < 4 then k ≠ 3 else k ≠ 4) := by
    intro w
    unfold slf
    rw [e]
    by_cases h : w < 4
    · simp only [if_pos h, Bool.or_eq_true, decide_eq_true_eq]; omega
    · simp only [if_neg h, Bool.or_eq_true, decide_eq_true_eq]; omega
  have hray : ∀ w, w < 8 → (bt (ray (bsl 1 (nI f)) (fulS bd sd) w) t = true ↔ ∃ m, m < 7 ∧ goN (opp w) (m + 1) t = f ∧ ∀ j, j < m → bd (goN (opp w) (j + 1) t) = 0) := by
    intro w hw
    rw [ray_e hw ht]
    constructor
    · rintro ⟨m, hm, a, b, c⟩
      have hfe := (bit_b hf a).mp b
      refine ⟨m, hm, hfe, fun j hj => ?_⟩
      have hlt : goN (opp w) (j + 1) t < 64 := goN_lt (by omega) a (by omega)
      have := c j hj
      rw [ful_e (hb _ hlt) hs hlt] at this
      exact Classical.not_not.mp (of_decide_eq_false this)
    · rintro ⟨m, hm, a, c⟩
      have a' : goN (opp w) (m + 1) t < 64 := by rw [a]; exact hf
      refine ⟨m, hm, a', (bit_b hf a').mpr a, fun j hj => ?_⟩
      have hlt : goN (opp w) (j + 1) t < 64 := goN_lt (by omega) a' (by omega)
      rw [ful_e (hb _ hlt) hs hlt, c j hj]
      rfl
  constructor
  · rintro ⟨i, hi, h⟩
    have hw : (if k = 3 then 4 else 0) + i < 8 ∧ (if (if k = 3 then 4 else 0) + i < 4 then k ≠ 3 else k ≠ 4) := by
      (repeat' split at hi) <;> (repeat' split) <;> omega
    obtain ⟨m, hm, a, c⟩ := (hray _ hw.1).mp h
    refine ⟨_, opp_lt _ hw.1, m, hm, a, (hsl _).mpr ?_, c⟩
    have h2 := hw.2
    by_cases h4 : (if k = 3 then 4 else 0) + i < 4
    · rw [if_pos h4] at h2; rw [if_pos ((opp_4 _ hw.1).mpr h4)]; exact h2
    · rw [if_neg h4] at h2; rw [if_neg (fun z => h4 ((opp_4 _ hw.1).mp z))]; exact h2
  · rintro ⟨w, hw, m, hm, a, b, c⟩
    have b := (hsl w).mp b
    have h4 := opp_4 w hw
    have hlt := opp_lt w hw
    refine ⟨opp w - (if k = 3 then 4 else 0), ?_, ?_⟩
    · by_cases hw4 : w < 4
      · rw [if_pos hw4] at b
        have := h4.mpr hw4
        (repeat' split) <;> omega
      · rw [if_neg hw4] at b
        have : ¬ opp w < 4 := fun z => hw4 (h4.mp z)
        (repeat' split) <;> omega
    · rw [show (if k = 3 then 4 else 0) + (opp w - (if k = 3 then 4 else 0)) = opp w by
        by_cases hw4 : w < 4
        · rw [if_pos hw4] at b; split <;> omega
        · have : ¬ opp w < 4 := fun z => hw4 (h4.mp z)
          split <;> omega]
      refine (hray _ hlt).mpr ⟨m, hm, ?_, ?_⟩
      · rw [opp_opp w hw]; exact a
      · rw [opp_opp w hw]; exact c
/-- cover, pins and own, of a piece's ways -/
theorem ww2_e {bd : Nat → Nat} {sd f t : Nat} (hb : bd t < 13) (hs : sd < 2) (hf : f < 64) (ht : t < 64) : bt (ww2 bd sd f) t = true ↔ bt (wys bd sd f) t = true ∧ sdN (bd t) ≠ sd ∧ bt (covS bd sd) t = true ∧ (bt (pinS bd sd) f = true → bt (pli bd sd (bsl 1 (nI f))) t = true) := by
  have h1 : bt (ww1 bd sd f) t = true ↔ bt (wys bd sd f) t = true ∧ sdN (bd t) ≠ sd ∧ bt (covS bd sd) t = true := by
    unfold ww1
    rw [bt_and, bt_and, bt_not ht, own_e hb hs ht]
    simp only [Bool.and_eq_true, Bool.not_eq_true', decide_eq_false_iff_not]
    exact ⟨fun ⟨a, b, c⟩ => ⟨a, c, b⟩, fun ⟨a, b, c⟩ => ⟨a, c, b⟩⟩
  unfold ww2
  by_cases hp : bt (pinS bd sd) f = true
  · rw [if_neg (fun z => by rw [and_bit hf, hp] at z; cases z), bt_and, Bool.and_eq_true, h1]
    exact ⟨fun ⟨⟨a, b, c⟩, d⟩ => ⟨a, b, c, fun _ => d⟩, fun ⟨a, b, c, d⟩ => ⟨⟨a, b, c⟩, d hp⟩⟩
  · rw [if_pos ((and_bit hf).mpr (by simpa using hp)), h1]
    exact ⟨fun ⟨a, b, c⟩ => ⟨a, b, c, fun z => absurd z hp⟩, fun ⟨a, b, c, _⟩ => ⟨a, b, c⟩⟩
theorem bhB_n {bd : Nat → Nat} {sd ps f t k : Nat} (h1 : inp bd sd ps f t = false) (h2 : ctl bd f t = false) : bhB bd sd ps f t k = upN (upN bd f 0) t (if k = 0 then bd f else k + 6 * sd) := by
  unfold bhB bh2 bh1
  rw [h1, h2, if_neg (by decide), if_neg (by decide)]
/-- the king's safety behind a plain move of another piece -/
theorem mv_safe {bd : Nat → Nat} {sd rt ps f t k K : Nat} (h : OK bd sd K) (hKg : kgs bd sd = K) (hf : f < 64) (ht : t < 64) (hk : k = 0 ∨ (2 ≤ k ∧ k ≤ 5)) (h1 : inp bd sd ps f t = false) (h2 : kd (bd f) ≠ 6) (hpre : pre bd sd rt ps f t k = true) : isA (bhB bd sd ps f t k) (kgs (bhB bd sd ps f t k) sd) (1 - sd) = false ↔ bt (covS bd sd) t = true ∧ (bt (pinS bd sd) f = true → bt (pli bd sd (bsl 1 (nI f))) t = true) := by
  obtain ⟨hb, hs, hK, hku, hkk⟩ := h
  obtain ⟨p1, p2, p3, p4⟩ := pre_go hpre
  obtain ⟨o1, o2, o3⟩ := gos_of p1
  have hc : ctl bd f t = false := by unfold ctl; rw [decide_eq_false h2]; rfl
  have hbK : bd K = 6 * sd + 6 := (hku K hK).mpr rfl
  have nKf : K ≠ f := fun z => h2 (by rw [← z, hbK]; exact kd_e hs (by omega) (by omega))
  have nKt : K ≠ t := fun z => o2 (by rw [← z, hbK]; exact sd_e hs (by omega) (by omega))
  have hkg := bh_kgs (w := sd) hb hs hs hf ht (by omega) hpre (by omega)
  have hlt := bh_lt (ps := ps) (t := t) (k := k) hb hs hf (by omega)
  have he := bhB_n (k := k) h1 hc
  have hkK : kgs (bhB bd sd ps f t k) sd = K := kgs_eq hkg hK (by rw [he, upN_ne nKt, upN_ne nKf, hbK]; omega)
  rw [hkK]
  refine safe_e ⟨hb, hs, hK, hku, hkk⟩ hlt hf ht (fun q hq n1 n2 => by rw [he, upN_ne n2, upN_ne n1]) (by rw [he, upN_ne p2, upN_eq]) ?_ o1
  rw [he, upN_eq]
  split
  · exact o1
  · rw [Nat.add_comm]; exact sd_e hs (by omega) (by omega)
/-- pieces that are neither kings nor pawns -/
theorem T1 {bd : Nat → Nat} {sd rt ps f t : Nat} (hb : ∀ q, q < 64 → bd q < 13) (hs : sd < 2) (hp : plb bd sd = true) (hf : f < 64) (ht : t < 64) (ho : sdN (bd f) = sd) (h1 : kd (bd f) ≠ 1) (h6 : kd (bd f) ≠ 6) : bt (tgt bd sd rt ps f) t = lgl bd sd rt ps f t 0 := by
  obtain ⟨hOK, hnt⟩ := plb_ok hb hs hp
  obtain ⟨k, k1, k2, e⟩ := sd_of (hb f hf) ho hs
  have hk : kd (bd f) = k := by rw [e]; exact kd_e hs k1 k2
  have hw : bt (wys bd sd f) t = atk bd f t := by
    unfold wys
    rw [if_neg h1]
    by_cases e2 : kd (bd f) = 2
    · rw [if_pos e2, okn_1 hf ht]
      by_cases hn : f = t
      · subst hn
        rw [atk_0 (Or.inr rfl)]
        have h0 : ∀ a : Nat, ap a a = 0 := fun a => ap_0.mpr rfl
        unfold kng; simp [h0]
      · rw [atk_2 hn e2]; rfl
    · rw [if_neg e2, hk]
      exact sld_e hb hs hf ht (by omega) (by omega) e
  unfold tgt
  rw [if_neg h6, if_neg h1, Bool.eq_iff_iff, ww2_e (hb t ht) hs hf ht, hw]
  have hinp : inp bd sd ps f t = false := by unfold inp; rw [decide_eq_false h1]; rfl
  have hlst : lst bd sd f t = false := by unfold lst; rw [decide_eq_false h1]; rfl
  have hpre : pre bd sd rt ps f t 0 = true ↔ atk bd f t = true ∧ sdN (bd t) ≠ sd := by
    constructor
    · intro z
      obtain ⟨p1, p2, p3, p4⟩ := pre_go z
      obtain ⟨o1, o2, o3⟩ := gos_of p1
      rw [gos_2 o1 o2 o3 h1, decide_eq_false h6] at p1
      simp only [Bool.false_and, Bool.or_false] at p1
      exact ⟨p1, o2⟩
    · rintro ⟨a, b⟩
      have hn : f ≠ t := fun z => by rw [atk_0 (Or.inr z)] at a; cases a
      have hk6 : kd (bd t) ≠ 6 := fun z => b (hnt f t hf ht ho a z)
      unfold pre
      rw [gos_2 ho b hk6 h1, a, hlst, decide_eq_false hn]
      simp
  constructor
  · rintro ⟨a, b, c⟩
    have hpr := hpre.mpr ⟨a, b⟩
    unfold lgl
    rw [hpr, (mv_safe hOK rfl hf ht (Or.inl rfl) hinp h6 hpr).mpr c]
    rfl
  · intro z
    obtain ⟨hpr, hA⟩ := lgl_pre z
    obtain ⟨a, b⟩ := hpre.mp hpr
    exact ⟨a, b, (mv_safe hOK rfl hf ht (Or.inl rfl) hinp h6 hpr).mp hA⟩

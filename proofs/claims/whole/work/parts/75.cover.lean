/-! cover and pins say when a move leaves the king safe -/
/-- one king K of the side, no king beside it -/
def OK (bd : Nat → Nat) (sd K : Nat) : Prop := (∀ q, q < 64 → bd q < 13) ∧ sd < 2 ∧ K < 64 ∧ (∀ q, q < 64 → (bd q = 6 * sd + 6 ↔ q = K)) ∧ ∀ q, q < 64 → bd q = 6 * (1 - sd) + 6 → kgg q K = false
theorem svN_s (bd : Nat → Nat) (sd n : Nat) : svN bd sd (n + 1) = if hit bd sd n = true then (jlC (ownS bd sd) (svN bd sd n).1 (lin bd sd n), jlP (ownS bd sd) (svN bd sd n).2 (lin bd sd n)) else svN bd sd n := rfl
theorem svN_1 {bd : Nat → Nat} {sd t : Nat} (ht : t < 64) : ∀ n, (bt (svN bd sd n).1 t = true ↔ ∀ u, u < n → hit bd sd u = true → pop (lin bd sd u &&& ownS bd sd) = 0 → bt (lin bd sd u) t = true)
  | 0 => by
    show bt (-1) t = true ↔ _
    have : bt (-1) t = true := by
      have := bt_not (x := 0) ht
      rw [Int64.zero_xor, bt_0] at this
      exact this
    exact ⟨fun _ u hu => absurd hu (Nat.not_lt_zero u), fun _ => this⟩
  | n + 1 => by
    have ih := svN_1 (bd := bd) (sd := sd) ht n
    have hs : ∀ P : Nat → Prop, (∀ u, u < n + 1 → P u) ↔ (∀ u, u < n → P u) ∧ P n := fun P => ⟨fun h => ⟨fun u hu => h u (by omega), h n (by omega)⟩, fun h u hu => by
      by_cases e : u = n
      · rw [e]; exact h.2
      · exact h.1 u (by omega)⟩
    rw [hs, ← ih]
    rw [svN_s]
    by_cases h : hit bd sd n = true
    · rw [if_pos h]
      show bt (jlC _ _ _) t = true ↔ _
      unfold jlC
      by_cases hp : pop (lin bd sd n &&& ownS bd sd) = 0
      · rw [if_pos hp, bt_and, Bool.and_eq_true]
        exact and_congr_right fun _ => ⟨fun a _ _ => a, fun a => a h hp⟩
      · rw [if_neg hp]
        exact ⟨fun a => ⟨a, fun _ z => absurd z hp⟩, fun a => a.1⟩
    · rw [if_neg h]
      exact ⟨fun a => ⟨a, fun z => absurd z h⟩, fun a => a.1⟩
theorem svN_2 {bd : Nat → Nat} {sd t : Nat} : ∀ n, (bt (svN bd sd n).2 t = true ↔ ∃ u, u < n ∧ hit bd sd u = true ∧ pop (lin bd sd u &&& ownS bd sd) = 1 ∧ bt (lin bd sd u &&& ownS bd sd) t = true)
  | 0 => by
    show bt 0 t = true ↔ _
    rw [bt_0]
    exact ⟨fun h => absurd h (by decide), fun ⟨u, hu, _⟩ => absurd hu (Nat.not_lt_zero u)⟩
  | n + 1 => by
    have ih := svN_2 (bd := bd) (sd := sd) (t := t) n
    have hs : ∀ P : Nat → Prop, (∃ u, u < n + 1 ∧ P u) ↔ (∃ u, u < n ∧ P u) ∨ P n := fun P => ⟨fun ⟨u, h, hp⟩ => by
      by_cases e : u = n
      · rw [e] at hp; exact Or.inr hp
      · exact Or.inl ⟨u, by omega, hp⟩, fun h => h.elim (fun ⟨u, h, hp⟩ => ⟨u, by omega, hp⟩) (fun hp => ⟨n, by omega, hp⟩)⟩
    rw [hs, ← ih]
    rw [svN_s]
    by_cases h : hit bd sd n = true
    · rw [if_pos h]
      show bt (jlP _ _ _) t = true ↔ _
      unfold jlP
      by_cases hp : pop (lin bd sd n &&& ownS bd sd) = 1
      · rw [if_pos hp, bt_or, Bool.or_eq_true]
        exact or_congr_right ⟨fun a => ⟨h, hp, a⟩, fun a => a.2.2⟩
      · rw [if_neg hp]
        exact ⟨fun a => Or.inl a, fun a => a.elim id (fun z => absurd z.2.1 hp)⟩
    · rw [if_neg h]
      exact ⟨fun a => Or.inl a, fun a => a.elim id (fun z => absurd z.1 h)⟩
theorem pliN_e {bd : Nat → Nat} {sd u : Nat} {x : Int64} (hu : u < 8) (h1 : lin bd sd u &&& x ≠ 0) (h2 : ∀ w, w < 8 → w ≠ u → lin bd sd w &&& x = 0) : ∀ m, m ≤ 8 → 8 - m ≤ u → pliN bd sd x m = lin bd sd u
  | 0, _, h => by omega
  | m + 1, hm, h => by
    unfold pliN
    by_cases e : 7 - m = u
    · rw [e, if_neg h1]
    · rw [if_pos (h2 (7 - m) (by omega) e)]
      exact pliN_e hu h1 h2 m (by omega) (by omega)
theorem and_bit {x : Int64} {f : Nat} (hf : f < 64) : x &&& bsl 1 (nI f) = 0 ↔ bt x f = false := by
  rw [and0]
  constructor
  · intro h
    cases e : bt x f
    · rfl
    · have := h f hf e
      rw [bt_1 hf hf, decide_eq_true rfl] at this
      cases this
  · intro h t ht hx
    rw [bt_1 hf ht]
    refine decide_eq_false (fun z => ?_)
    rw [z, h] at hx
    cases hx
theorem pli_e {bd : Nat → Nat} {sd u f K : Nat} (h : OK bd sd K) (hu : u < 8) (hf : f < 64) (hl : bt (lin bd sd u) f = true) : pli bd sd (bsl 1 (nI f)) = lin bd sd u := by
  obtain ⟨hb, hs, hK, hk, -⟩ := h
  refine pliN_e hu (fun z => ?_) (fun w hw hn => ?_) 8 (Nat.le_refl 8) (by omega)
  · rw [and_bit hf, hl] at z; cases z
  · rw [and_bit hf]
    cases e : bt (lin bd sd w) f
    · rfl
    · obtain ⟨m, hm, a, -⟩ := (lin_b hb hs hw hf hK hk).mp e
      obtain ⟨m', hm', a', -⟩ := (lin_b hb hs hu hf hK hk).mp hl
      have e1 := wyf_e hw hK hm hf a
      have e2 := wyf_e hu hK hm' hf a'
      exact absurd (e1.symm.trans e2) hn
theorem lep_e {bd : Nat → Nat} {sd K s : Nat} (h : OK bd sd K) (hs6 : s < 64) : bt (lep bd sd) s = true ↔ lpf (1 - sd) (bd s) s K = true := by
  obtain ⟨hb, hs, hK, hk, hkk⟩ := h
  have hking : ∀ q, q < 64 → (bt (kngS bd sd) q = true ↔ q = K) := fun q hq => by unfold kngS; rw [sqs_bt hq, decide_eq_true_eq]; exact hk q hq
  unfold lep
  rw [bt_or, bt_and, bt_and, Bool.or_eq_true, Bool.and_eq_true, Bool.and_eq_true, okn_e hs6, opw_e hs hs6, sqs_bt hs6, sqs_bt hs6, decide_eq_true_eq, decide_eq_true_eq]
  unfold lpf
  simp only [Bool.or_eq_true, Bool.and_eq_true, decide_eq_true_eq]
  constructor
  · rintro (⟨⟨q, a, b, c⟩, d⟩ | ⟨⟨q, a, b, c⟩, d⟩)
    · rw [(hking q a).mp b] at c
      exact Or.inr (Or.inl ⟨d, by rw [kng_c]; exact c⟩)
    · rw [(hking q a).mp b] at c
      refine Or.inl ⟨d, ?_⟩
      rw [pwg_c (by omega), show 1 - (1 - sd) = sd by omega]
      exact c
  · rintro (⟨a, b⟩ | ⟨a, b⟩ | ⟨a, b⟩)
    · refine Or.inr ⟨⟨K, hK, (hking K hK).mpr rfl, ?_⟩, a⟩
      rw [pwg_c (by omega), show 1 - (1 - sd) = sd by omega] at b
      exact b
    · exact Or.inl ⟨⟨K, hK, (hking K hK).mpr rfl, by rw [kng_c]; exact b⟩, a⟩
    · rw [hkk s hs6 a] at b; cases b
theorem cov_e {bd : Nat → Nat} {sd K t : Nat} (h : OK bd sd K) (ht : t < 64) : bt (covS bd sd) t = true ↔ (∀ u, u < 8 → hit bd sd u = true → pop (lin bd sd u &&& ownS bd sd) = 0 → bt (lin bd sd u) t = true) ∧ ∀ s, s < 64 → lpf (1 - sd) (bd s) s K = true → s = t := by
  rw [← svN_1 ht]
  have hle : (∀ s, s < 64 → lpf (1 - sd) (bd s) s K = true → s = t) ↔ ∀ s, s < 64 → bt (lep bd sd) s = true → s = t := ⟨fun z s hs hl => z s hs ((lep_e h hs).mp hl), fun z s hs hl => z s hs ((lep_e h hs).mpr hl)⟩
  rw [hle]
  unfold covS
  by_cases h0 : lep bd sd = 0
  · rw [if_pos h0]
    exact ⟨fun a => ⟨a, fun s _ hl => by rw [h0, bt_0] at hl; cases hl⟩, fun a => a.1⟩
  · rw [if_neg h0, bt_and, Bool.and_eq_true]
    refine and_congr_right fun _ => ?_
    by_cases h1 : pop (lep bd sd) = 1
    · rw [if_pos h1]
      obtain ⟨a, h2, h3, h4⟩ := pop_1.mp h1
      constructor
      · intro hl s hs hls
        rw [h4 s hs hls, h4 t ht hl]
      · intro z
        rw [← z a h2 h3]; exact h3
    · rw [if_neg h1, bt_0]
      refine ⟨fun z => (by cases z), fun z => ?_⟩
      exfalso
      apply h1
      have : ∃ s, s < 64 ∧ bt (lep bd sd) s = true := by
        apply Classical.byContradiction
        intro hn
        apply h0
        rw [eq0]
        intro s hs
        cases e : bt (lep bd sd) s
        · rfl
        · exact absurd ⟨s, hs, e⟩ hn
      obtain ⟨s, hs, hl⟩ := this
      exact pop_1.mpr ⟨s, hs, hl, fun q hq hlq => by rw [z q hq hlq, z s hs hl]⟩
/-- behind a move of another piece the king is safe: by cover and pins -/
theorem safe_e {bd g : Nat → Nat} {sd K f t : Nat} (h : OK bd sd K) (hgb : ∀ q, q < 64 → g q < 13) (hf : f < 64) (ht : t < 64) (g1 : ∀ q, q < 64 → q ≠ f → q ≠ t → g q = bd q) (g2 : g f = 0) (g3 : sdN (g t) = sd) (g4 : sdN (bd f) = sd) : isA g K (1 - sd) = false ↔ bt (covS bd sd) t = true ∧ (bt (pinS bd sd) f = true → bt (pli bd sd (bsl 1 (nI f))) t = true) := by
  have h' := h
  obtain ⟨hb, hs, hK, hk, hkk⟩ := h'
  have hA := isA_e (t := K) hgb (show 1 - sd < 2 by omega) hK
  have hlp : lAt g K (1 - sd) ↔ ∃ s, s < 64 ∧ s ≠ t ∧ lpf (1 - sd) (bd s) s K = true := by
    unfold lAt
    constructor
    · rintro ⟨s, a, b⟩
      have hsd : sdN (g s) = 1 - sd := by
        rcases lpf_p b with e | e | e <;> rw [e] <;> exact sd_e (by omega) (by omega) (by omega)
      have n1 : s ≠ t := fun z => by rw [z] at hsd; omega
      have n2 : s ≠ f := fun z => by rw [z, g2, sd_0] at hsd; omega
      rw [g1 s a n2 n1] at b
      exact ⟨s, a, n1, b⟩
    · rintro ⟨s, a, n1, b⟩
      have hsd : sdN (bd s) = 1 - sd := by
        rcases lpf_p b with e | e | e <;> rw [e] <;> exact sd_e (by omega) (by omega) (by omega)
      have n2 : s ≠ f := fun z => by rw [z] at hsd; omega
      exact ⟨s, a, by rw [g1 s a n2 n1]; exact b⟩
  have hmem : ∀ u q, u < 8 → q < 64 → (bt (lin bd sd u &&& ownS bd sd) q = true ↔ bt (lin bd sd u) q = true ∧ sdN (bd q) = sd) := fun u q _ hq => by rw [bt_and, Bool.and_eq_true, own_e (hb q hq) hs hq, decide_eq_true_eq]
  rw [cov_e h ht]
  have hn : isA g K (1 - sd) = false ↔ ¬ (lAt g K (1 - sd) ∨ ∃ w, w < 8 ∧ sAt g K (1 - sd) w) := by
    rw [← hA]; simp
  rw [hn]
  constructor
  · intro hno
    have key : ∀ u, u < 8 → hit bd sd u = true → (∀ q, q < 64 → bt (lin bd sd u) q = true → sdN (bd q) = sd → q = f) → bt (lin bd sd u) t = true := by
      intro u hu hh ho
      cases e : bt (lin bd sd u) t
      · exact absurd (Or.inr ⟨u, hu, (sAt_mv hb hs hu hK hk hf ht g1 g2 g3 g4).mpr ⟨hh, ho, e⟩⟩) hno
      · rfl
    refine ⟨⟨fun u hu hh hp => key u hu hh (fun q hq hl hso => ?_), fun s hs6 hl => ?_⟩, fun hp => ?_⟩
    · have := pop_0.mp hp q hq
      rw [(hmem u q hu hq).mpr ⟨hl, hso⟩] at this
      cases this
    · apply Classical.byContradiction
      intro hne
      exact hno (Or.inl (hlp.mpr ⟨s, hs6, hne, hl⟩))
    · obtain ⟨u, hu, hh, hp1, hfm⟩ := svN_2 8 |>.mp hp
      obtain ⟨hfl, -⟩ := (hmem u f hu hf).mp hfm
      rw [pli_e h hu hf hfl]
      obtain ⟨a, -, -, ha⟩ := pop_1.mp hp1
      exact key u hu hh (fun q hq hl hso => by rw [ha q hq ((hmem u q hu hq).mpr ⟨hl, hso⟩), ha f hf hfm])
  · rintro ⟨⟨c1, c2⟩, c3⟩ (hl | ⟨u, hu, hsA⟩)
    · obtain ⟨s, a, n, b⟩ := hlp.mp hl
      exact n (c2 s a b)
    · obtain ⟨hh, ho, hnt⟩ := (sAt_mv hb hs hu hK hk hf ht g1 g2 g3 g4).mp hsA
      by_cases hfl : bt (lin bd sd u) f = true
      · have hfm := (hmem u f hu hf).mpr ⟨hfl, g4⟩
        have hp1 : pop (lin bd sd u &&& ownS bd sd) = 1 := pop_1.mpr ⟨f, hf, hfm, fun q hq hq2 => ho q hq ((hmem u q hu hq).mp hq2).1 ((hmem u q hu hq).mp hq2).2⟩
        have := c3 (svN_2 8 |>.mpr ⟨u, hu, hh, hp1, hfm⟩)
        rw [pli_e h hu hf hfl, hnt] at this
        cases this
      · have hp0 : pop (lin bd sd u &&& ownS bd sd) = 0 := pop_0.mpr (fun q hq => by
          cases e : bt (lin bd sd u &&& ownS bd sd) q
          · rfl
          · obtain ⟨a, b⟩ := (hmem u q hu hq).mp e
            rw [ho q hq a b] at a
            exact absurd a hfl)
        rw [c1 u hu hh hp0] at hnt
        cases hnt

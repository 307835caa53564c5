/-! kings, sets, lines; when a move leaves the king safe -/
theorem and0 {x y : Int64} : x &&& y = 0 ↔ ∀ t, t < 64 → bt x t = true → bt y t = false := by
  constructor
  · intro h t ht hx
    have : bt (x &&& y) t = false := by rw [h]; exact bt_0 t
    rw [bt_and, hx, Bool.true_and] at this
    exact this
  · intro h
    apply bt_ext
    intro i hi
    rw [bt_and, bt_0]
    cases e : bt x i
    · rfl
    · rw [h i hi e]; rfl
theorem eq0 {x : Int64} : x = 0 ↔ ∀ t, t < 64 → bt x t = false := ⟨fun h t _ => by rw [h]; exact bt_0 t, fun h => bt_ext fun i hi => by rw [h i hi, bt_0]⟩
theorem kc_0 (bd : Nat → Nat) (w : Nat) : ∀ n, kc bd w n = 0 → ∀ q, q < n → bd q ≠ 6 + 6 * w
  | 0, _, q, hq => absurd hq (Nat.not_lt_zero q)
  | n + 1, h, q, hq => by
    unfold kc at h
    have h1 : bd n ≠ 6 + 6 * w := fun z => by rw [if_pos z] at h; omega
    by_cases e : q = n
    · rw [e]; exact h1
    · exact kc_0 bd w n (by omega) q (by omega)
theorem kat_u (bd : Nat → Nat) (w : Nat) : ∀ n, kc bd w n = 1 → bd (kat bd w n) = 6 + 6 * w ∧ ∀ q, q < n → bd q = 6 + 6 * w → q = kat bd w n
  | 0, h => absurd h (by unfold kc; decide)
  | n + 1, h => by
    unfold kc at h
    unfold kat
    by_cases e : bd n = 6 + 6 * w
    · rw [if_pos e] at h ⊢
      refine ⟨e, fun q hq hk => ?_⟩
      by_cases e2 : q = n
      · exact e2
      · exact absurd hk (kc_0 bd w n (by omega) q (by omega))
    · rw [if_neg e] at h ⊢
      obtain ⟨h1, h2⟩ := kat_u bd w n (by omega)
      refine ⟨h1, fun q hq hk => ?_⟩
      by_cases e2 : q = n
      · rw [e2] at hk; exact absurd hk e
      · exact h2 q (by omega) hk
/-- the one king of a side -/
theorem kgs_u {bd : Nat → Nat} {w : Nat} (h : kgs bd w < 64) : bd (kgs bd w) = 6 + 6 * w ∧ ∀ q, q < 64 → bd q = 6 + 6 * w → q = kgs bd w := by
  have hc := kc_of h
  have := kat_u bd w 64 hc
  unfold kgs
  rw [if_pos hc]
  exact this
theorem kgs_eq {bd : Nat → Nat} {w K : Nat} (h : kgs bd w < 64) (hK : K < 64) (e : bd K = 6 + 6 * w) : kgs bd w = K := ((kgs_u h).2 K hK e).symm
theorem pcn_congr {p p' : Nat → Bool} : ∀ n, (∀ i, i < n → p i = p' i) → pcn p n = pcn p' n
  | 0, _ => rfl
  | n + 1, h => by unfold pcn; rw [pcn_congr n (fun i hi => h i (by omega)), h n (by omega)]
theorem kc_pcn (bd : Nat → Nat) (w : Nat) : ∀ n, kc bd w n = pcn (fun q => decide (bd q = 6 + 6 * w)) n
  | 0 => rfl
  | n + 1 => by unfold kc pcn; rw [kc_pcn bd w n]; by_cases h : bd n = 6 + 6 * w <;> simp [h]
theorem pop_kc (bd : Nat → Nat) (w : Nat) : pop (sqs bd (6 + 6 * w)) = kc bd w 64 := by
  rw [kc_pcn]
  exact pcn_congr 64 (fun i hi => sqs_bt hi)
theorem kia_e {bd : Nat → Nat} {w : Nat} (hb : ∀ q, q < 64 → bd q < 13) (hw : w < 2) (h : kgs bd w < 64) : kia bd w = isA bd (kgs bd w) (1 - w) := by
  have ha : ∀ t, t < 64 → bt (ats bd (1 - w) (sqs bd 0 ^^^ (-1)) 0) t = isA bd t (1 - w) := fun t ht => ats_e hb (by omega) ht (fun q hq => by rw [bt_not hq, sqs_bt hq]; simp) (fun q k _ _ _ => Iff.rfl) (fun q hq => by rw [bt_0]; simp)
  obtain ⟨h1, h2⟩ := kgs_u h
  unfold kia
  rw [Bool.eq_iff_iff, Bool.not_eq_true', decide_eq_false_iff_not, and0]
  constructor
  · intro hn
    apply Classical.byContradiction
    intro hc
    apply hn
    intro t ht hat
    rw [sqs_bt ht]
    refine decide_eq_false (fun z => hc ?_)
    rw [← h2 t ht (by omega), ← ha t ht]
    exact hat
  · intro hA hn
    have := hn (kgs bd w) h (by rw [ha _ h]; exact hA)
    rw [sqs_bt h] at this
    exact absurd (of_decide_eq_false this) (fun z => z (by omega))
theorem bcE_1 (x : Int64) : bcE x = nI 1 ↔ pop x = 1 := by
  rw [bcE_pop]
  have := pop_le x
  exact nI_eq (by omega) (by decide)
theorem kgs_kc {bd : Nat → Nat} {w : Nat} : kc bd w 64 = 1 ↔ kgs bd w < 64 := ⟨kgs_of, kc_of⟩
theorem cbp_e {bd : Nat → Nat} {sd : Nat} (hb : ∀ q, q < 64 → bd q < 13) (hs : sd < 2) : cbp bd sd = plb bd sd := by
  unfold cbp plb
  have e0 : decide (bcE (sqs bd 6) = nI 1) = decide (kgs bd 0 < 64) := decide_eq_decide.mpr (by rw [bcE_1, ← kgs_kc, ← pop_kc])
  have e1 : decide (bcE (sqs bd 12) = nI 1) = decide (kgs bd 1 < 64) := decide_eq_decide.mpr (by rw [bcE_1, ← kgs_kc, ← pop_kc])
  rw [e0, e1]
  by_cases h0 : kgs bd 0 < 64
  · by_cases h1 : kgs bd 1 < 64
    · rw [kia_e hb (by omega) (by have : sd = 0 ∨ sd = 1 := by omega
                                  rcases this with rfl | rfl
                                  · exact h1
                                  · exact h0)]
    · rw [decide_eq_false h1]; simp
  · rw [decide_eq_false h0]; simp
/-- sides -/
theorem sosN_e {bd : Nat → Nat} {w q : Nat} (hq : q < 64) : ∀ n, (bt (sosN bd w n) q = true ↔ ∃ k, 1 ≤ k ∧ k ≤ n ∧ bd q = 6 * w + k)
  | 0 => by
    show bt 0 q = true ↔ _
    rw [bt_0]
    exact ⟨fun h => absurd h (by decide), fun ⟨k, h, h2, _⟩ => by omega⟩
  | n + 1 => by
    show bt (sosN bd w n ||| sqs bd (6 * w + (n + 1))) q = true ↔ _
    rw [bt_or, Bool.or_eq_true, sosN_e hq n, sqs_bt hq, decide_eq_true_eq]
    constructor
    · rintro (⟨k, h1, h2, h3⟩ | h)
      · exact ⟨k, h1, by omega, h3⟩
      · exact ⟨n + 1, by omega, by omega, h⟩
    · rintro ⟨k, h1, h2, h3⟩
      by_cases e : k = n + 1
      · subst e; exact Or.inr h3
      · exact Or.inl ⟨k, h1, by omega, h3⟩
theorem sos_e {bd : Nat → Nat} {w q : Nat} (hb : bd q < 13) (hw : w < 2) (hq : q < 64) : bt (sosN bd w 6) q = decide (sdN (bd q) = w) := by
  rw [Bool.eq_iff_iff, sosN_e hq, decide_eq_true_eq]
  constructor
  · rintro ⟨k, h1, h2, h3⟩; rw [h3]; exact sd_e hw h1 h2
  · intro h
    obtain ⟨k, h1, h2, h3⟩ := sd_of hb h hw
    exact ⟨k, h1, h2, h3⟩
theorem own_e {bd : Nat → Nat} {sd q : Nat} (hb : bd q < 13) (hs : sd < 2) (hq : q < 64) : bt (ownS bd sd) q = decide (sdN (bd q) = sd) := sos_e hb hs hq
theorem thr_e {bd : Nat → Nat} {sd q : Nat} (hb : bd q < 13) (hs : sd < 2) (hq : q < 64) : bt (thrS bd sd) q = decide (sdN (bd q) = 1 - sd) := sos_e hb (by omega) hq
theorem sd_2 {p sd : Nat} (hs : sd < 2) (h1 : sdN p ≠ sd) (h2 : sdN p ≠ 1 - sd) : p = 0 := by
  unfold sdN at h1 h2
  (repeat' split at h1) <;> (repeat' split at h2) <;> omega
theorem sd_0 : sdN 0 = 2 := rfl
theorem ful_e {bd : Nat → Nat} {sd q : Nat} (hb : bd q < 13) (hs : sd < 2) (hq : q < 64) : bt (fulS bd sd) q = decide (bd q ≠ 0) := by
  unfold fulS
  rw [bt_or, own_e hb hs hq, thr_e hb hs hq, Bool.eq_iff_iff, Bool.or_eq_true, decide_eq_true_eq, decide_eq_true_eq, decide_eq_true_eq]
  constructor
  · rintro (h | h) z
    · rw [z, sd_0] at h; omega
    · rw [z, sd_0] at h; omega
  · intro h
    by_cases e : sdN (bd q) = sd
    · exact Or.inl e
    · by_cases e2 : sdN (bd q) = 1 - sd
      · exact Or.inr e2
      · exact absurd (sd_2 hs e e2) h
/-- the way from a square to another -/
def wyf (k q : Nat) : Nat := if k / 8 < q / 8 then (if k % 8 < q % 8 then 4 else if q % 8 < k % 8 then 5 else 0) else if q / 8 < k / 8 then (if k % 8 < q % 8 then 6 else if q % 8 < k % 8 then 7 else 1) else if k % 8 < q % 8 then 2 else 3
set_option maxRecDepth 100000 in
theorem wyf_chk : ((List.range 8).all fun w => (List.range 64).all fun k => (List.range 7).all fun m => !decide (goN w (m + 1) k < 64) || decide (wyf k (goN w (m + 1) k) = w)) = true := by decide +kernel
theorem wyf_e {w k m q : Nat} (hw : w < 8) (hk : k < 64) (hm : m < 7) (hq : q < 64) (e : goN w (m + 1) k = q) : wyf k q = w := by
  have h := all_lt (all_lt (all_lt wyf_chk hw) hk) hm
  rw [e, decide_eq_true hq] at h
  simpa using h
theorem kng_c (s t : Nat) : kng s t = kng t s := by
  have h : ∀ a b, ap a b = ap b a := fun a b => by unfold ap; (repeat' split) <;> omega
  unfold kng
  rw [h (s % 8), h (s / 8)]
theorem kgg_c (s t : Nat) : kgg s t = kgg t s := by
  have h : ∀ a b, ap a b = ap b a := fun a b => by unfold ap; (repeat' split) <;> omega
  unfold kgg
  rw [h (s % 8), h (s / 8)]
  exact decide_eq_decide.mpr (and_congr_left fun _ => ne_comm)
theorem pwg_c {v s t : Nat} (hv : v < 2) : pwg v s t = pwg (1 - v) t s := by
  have h : ∀ a b, ap a b = ap b a := fun a b => by unfold ap; (repeat' split) <;> omega
  unfold pwg
  rw [h (s % 8)]
  refine decide_eq_decide.mpr (and_congr_right fun _ => ?_)
  have : v = 0 ∨ v = 1 := by omega
  rcases this with rfl | rfl <;> simp
/-- squares on the way u from k -/
def onW (k u q : Nat) : Prop := ∃ m, m < 7 ∧ goN u (m + 1) k = q
/-- the line from the king, to their first piece -/
theorem lin_b {bd : Nat → Nat} {sd u t K : Nat} (hb : ∀ q, q < 64 → bd q < 13) (hs : sd < 2) (hu : u < 8) (ht : t < 64) (hK : K < 64) (hk : ∀ q, q < 64 → (bd q = 6 * sd + 6 ↔ q = K)) : bt (lin bd sd u) t = true ↔ ∃ m, m < 7 ∧ goN u (m + 1) K = t ∧ ∀ j, j < m → sdN (bd (goN u (j + 1) K)) ≠ 1 - sd := by
  unfold lin kngS
  rw [ray_e hu ht]
  constructor
  · rintro ⟨m, hm, a, b, c⟩
    rw [sqs_bt a, decide_eq_true_eq, hk _ a] at b
    have ho := goN_op (opp_lt u hu) (m + 1) t ht a
    rw [opp_opp u hu, b] at ho
    refine ⟨m, hm, ?_, fun j hj => ?_⟩
    · have := ho (m + 1) (by omega)
      rw [Nat.sub_self] at this
      exact this
    · have h1 := ho (j + 1) (by omega)
      have h2 := c (m - j - 1) (by omega)
      rw [show m - j - 1 + 1 = m + 1 - (j + 1) by omega, ← h1] at h2
      have h3 : goN u (j + 1) K < 64 := by rw [h1]; exact goN_lt (by omega) a (by omega)
      rw [thr_e (hb _ h3) hs h3] at h2
      exact of_decide_eq_false h2
  · rintro ⟨m, hm, a, b⟩
    have a' : goN u (m + 1) K < 64 := by rw [a]; exact ht
    have ho := goN_op hu (m + 1) K hK a'
    rw [a] at ho
    have hKe : goN (opp u) (m + 1) t = K := by
      have := ho (m + 1) (by omega)
      rw [Nat.sub_self] at this
      exact this
    refine ⟨m, hm, by rw [hKe]; exact hK, ?_, fun j hj => ?_⟩
    · rw [hKe, sqs_bt hK]; exact decide_eq_true ((hk K hK).mpr rfl)
    · have h1 := ho (j + 1) (by omega)
      have h3 : goN (opp u) (j + 1) t < 64 := by rw [h1]; exact goN_lt (by omega) a' (by omega)
      rw [thr_e (hb _ h3) hs h3, h1]
      have := b (m - j - 1) (by omega)
      rw [show m - j - 1 + 1 = m + 1 - (j + 1) by omega] at this
      exact decide_eq_false this
theorem slf_sd {v w p : Nat} (hv : v < 2) (h : slf v w p = true) : sdN p = v := by
  obtain ⟨k, k1, k2, e⟩ := slf_p h
  rw [e]; exact sd_e hv (by omega) (by omega)
theorem hit_e {bd : Nat → Nat} {sd u K : Nat} (hb : ∀ q, q < 64 → bd q < 13) (hs : sd < 2) (hu : u < 8) (hK : K < 64) (hk : ∀ q, q < 64 → (bd q = 6 * sd + 6 ↔ q = K)) : hit bd sd u = true ↔ ∃ m, m < 7 ∧ goN u (m + 1) K < 64 ∧ slf (1 - sd) u (bd (goN u (m + 1) K)) = true ∧ ∀ j, j < m → sdN (bd (goN u (j + 1) K)) ≠ 1 - sd := by
  have hset : ∀ q, q < 64 → (bt (if u < 4 then stE bd (6 * (1 - sd)) else slE bd (6 * (1 - sd))) q = slf (1 - sd) u (bd q)) := by
    intro q hq
    unfold slf stE slE
    by_cases h4 : u < 4
    · rw [if_pos h4, if_pos h4, bt_or, sqs_bt hq, sqs_bt hq]
    · rw [if_neg h4, if_neg h4, bt_or, sqs_bt hq, sqs_bt hq]
  unfold hit
  rw [Bool.not_eq_true', decide_eq_false_iff_not, and0]
  constructor
  · intro hn
    apply Classical.byContradiction
    intro hc
    apply hn
    intro t ht hl
    rw [hset t ht]
    obtain ⟨m, hm, a, b⟩ := (lin_b hb hs hu ht hK hk).mp hl
    cases e : slf (1 - sd) u (bd t)
    · rfl
    · exact absurd ⟨m, hm, by rw [a]; exact ht, by rw [a]; exact e, b⟩ hc
  · rintro ⟨m, hm, a, b, c⟩ hn
    have := hn _ a ((lin_b hb hs hu a hK hk).mpr ⟨m, hm, rfl, c⟩)
    rw [hset _ a, b] at this
    cases this
/-- a slider attacks behind a move, along u -/
theorem sAt_mv {bd g : Nat → Nat} {sd u K f t : Nat} (hb : ∀ q, q < 64 → bd q < 13) (hs : sd < 2) (hu : u < 8) (hK : K < 64) (hk : ∀ q, q < 64 → (bd q = 6 * sd + 6 ↔ q = K)) (hf : f < 64) (ht : t < 64) (g1 : ∀ q, q < 64 → q ≠ f → q ≠ t → g q = bd q) (g2 : g f = 0) (g3 : sdN (g t) = sd) (g4 : sdN (bd f) = sd) : sAt g K (1 - sd) u ↔ hit bd sd u = true ∧ (∀ q, q < 64 → bt (lin bd sd u) q = true → sdN (bd q) = sd → q = f) ∧ bt (lin bd sd u) t = false := by
  have hgt : g t ≠ 0 := fun z => by rw [z, sd_0] at g3; omega
  rw [hit_e hb hs hu hK hk]
  constructor
  · rintro ⟨m, hm, a, b, c⟩
    have n1 : goN u (m + 1) K ≠ t := fun z => by rw [z] at b; have := slf_sd (by omega) b; omega
    have n2 : goN u (m + 1) K ≠ f := fun z => by rw [z, g2] at b; have := slf_sd (by omega) b; rw [sd_0] at this; omega
    have e1 : bd (goN u (m + 1) K) = g (goN u (m + 1) K) := (g1 _ a n2 n1).symm
    have hj : ∀ j, j < m → goN u (j + 1) K ≠ t ∧ (goN u (j + 1) K = f ∨ bd (goN u (j + 1) K) = 0) := by
      intro j hj
      have hlt : goN u (j + 1) K < 64 := goN_lt (by omega) a (by omega)
      have nt : goN u (j + 1) K ≠ t := fun z => hgt (by rw [← z]; exact c j hj)
      refine ⟨nt, ?_⟩
      by_cases e : goN u (j + 1) K = f
      · exact Or.inl e
      · exact Or.inr (by rw [← g1 _ hlt e nt]; exact c j hj)
    have hth : ∀ j, j < m → sdN (bd (goN u (j + 1) K)) ≠ 1 - sd := by
      intro j hjm
      rcases (hj j hjm).2 with e | e
      · rw [e, g4]; omega
      · rw [e, sd_0]; omega
    have hlin : ∀ q, q < 64 → bt (lin bd sd u) q = true → ∃ j, j ≤ m ∧ goN u (j + 1) K = q := by
      intro q hq hl
      obtain ⟨j, h1, h2, h3⟩ := (lin_b hb hs hu hq hK hk).mp hl
      refine ⟨j, ?_, h2⟩
      rcases Nat.lt_or_ge m j with h | h
      · exact absurd (show sdN (bd (goN u (m + 1) K)) = 1 - sd by rw [e1]; exact slf_sd (by omega) b) (h3 m h)
      · exact h
    refine ⟨⟨m, hm, a, by rw [e1]; exact b, hth⟩, ?_, ?_⟩
    · intro q hq hl hso
      obtain ⟨j, h1, h2⟩ := hlin q hq hl
      by_cases e : j = m
      · subst e
        rw [← h2, e1, slf_sd (by omega) b] at hso; omega
      · rcases (hj j (by omega)).2 with h | h
        · rw [← h2]; exact h
        · rw [← h2, h, sd_0] at hso; omega
    · cases hl : bt (lin bd sd u) t
      · rfl
      · obtain ⟨j, h1, h2⟩ := hlin t ht hl
        by_cases e : j = m
        · subst e; exact absurd h2 n1
        · exact absurd h2 (hj j (by omega)).1
  · rintro ⟨⟨m, hm, a, b, c⟩, h2, h3⟩
    have hin : ∀ j, j ≤ m → bt (lin bd sd u) (goN u (j + 1) K) = true := fun j hj => (lin_b hb hs hu (goN_lt (by omega) a (by omega)) hK hk).mpr ⟨j, by omega, rfl, fun i hi => c i (by omega)⟩
    have hnt : ∀ j, j ≤ m → goN u (j + 1) K ≠ t := fun j hj z => by have := hin j hj; rw [z, h3] at this; cases this
    have nf : goN u (m + 1) K ≠ f := fun z => by rw [z] at b; have := slf_sd (by omega) b; omega
    refine ⟨m, hm, a, by rw [g1 _ a nf (hnt m (Nat.le_refl m))]; exact b, fun j hj => ?_⟩
    have hlt : goN u (j + 1) K < 64 := goN_lt (by omega) a (by omega)
    by_cases e : goN u (j + 1) K = f
    · rw [e]; exact g2
    · rw [g1 _ hlt e (hnt j (by omega))]
      refine sd_2 hs (fun z => e (h2 _ hlt (hin j (by omega)) z)) (c j hj)
/-! counts of sets -/
theorem pop_0 {x : Int64} : pop x = 0 ↔ ∀ q, q < 64 → bt x q = false := by
  rw [pop_len, List.length_eq_zero_iff]
  constructor
  · intro h q hq
    cases e : bt x q
    · rfl
    · have := bl_mem.mpr ⟨hq, e⟩; rw [h] at this; cases this
  · intro h
    apply List.eq_nil_iff_forall_not_mem.mpr
    intro q hq
    have := bl_mem.mp hq
    rw [h q this.1] at this
    cases this.2
theorem bl_nodup (x : Int64) : (bl x).Nodup := List.Pairwise.filter _ List.nodup_range
theorem pop_1 {x : Int64} : pop x = 1 ↔ ∃ a, a < 64 ∧ bt x a = true ∧ ∀ q, q < 64 → bt x q = true → q = a := by
  rw [pop_len]
  constructor
  · intro h
    obtain ⟨a, ha⟩ := List.length_eq_one_iff.mp h
    have hm : a ∈ bl x := by rw [ha]; exact List.mem_singleton.mpr rfl
    refine ⟨a, (bl_mem.mp hm).1, (bl_mem.mp hm).2, fun q hq hx => ?_⟩
    have := bl_mem.mpr ⟨hq, hx⟩
    rw [ha] at this
    exact List.mem_singleton.mp this
  · rintro ⟨a, h1, h2, h3⟩
    have hm : a ∈ bl x := bl_mem.mpr ⟨h1, h2⟩
    have hall : ∀ q ∈ bl x, q = a := fun q hq => h3 q (bl_mem.mp hq).1 (bl_mem.mp hq).2
    have hn := bl_nodup x
    generalize bl x = L at hm hall hn
    match L, hm, hall, hn with
    | [b], _, _, _ => rfl
    | b :: c :: L, _, hall, hn =>
      have e1 := hall b (List.mem_cons_self)
      have e2 := hall c (List.mem_cons_of_mem _ List.mem_cons_self)
      rw [e1, e2] at hn
      simp at hn

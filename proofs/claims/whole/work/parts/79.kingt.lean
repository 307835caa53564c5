/-! a king's targets -/
set_option maxRecDepth 100000 in
theorem hc_chk : ((List.range 2).all fun sd => (List.range 64).all fun q => (bt (hom sd) q == decide (q = 4 + 56 * sd)) && ((bt (bsl (hom sd) (nI 2)) q == decide (q = 6 + 56 * sd)) && ((bt (bsr (hom sd) (nI 2)) q == decide (q = 2 + 56 * sd)) && ((bt (bsl (hom sd) (nI 3)) q == decide (q = 7 + 56 * sd)) && ((bt (bsr (hom sd) (nI 4)) q == decide (q = 0 + 56 * sd)) && ((bt (bsl 96 (nI (56 * sd))) q == decide (q = 5 + 56 * sd ∨ q = 6 + 56 * sd)) && ((bt (bsl 14 (nI (56 * sd))) q == decide (q = 1 + 56 * sd ∨ q = 2 + 56 * sd ∨ q = 3 + 56 * sd)) && ((bt (bsl 112 (nI (56 * sd))) q == decide (q = 4 + 56 * sd ∨ q = 5 + 56 * sd ∨ q = 6 + 56 * sd)) && (bt (bsl 28 (nI (56 * sd))) q == decide (q = 2 + 56 * sd ∨ q = 3 + 56 * sd ∨ q = 4 + 56 * sd)))))))))) = true := by decide +kernel
theorem hc_b {sd q : Nat} (hs : sd < 2) (hq : q < 64) : bt (hom sd) q = decide (q = 4 + 56 * sd) ∧ bt (bsl (hom sd) (nI 2)) q = decide (q = 6 + 56 * sd) ∧ bt (bsr (hom sd) (nI 2)) q = decide (q = 2 + 56 * sd) ∧ bt (bsl (hom sd) (nI 3)) q = decide (q = 7 + 56 * sd) ∧ bt (bsr (hom sd) (nI 4)) q = decide (q = 0 + 56 * sd) ∧ bt (bsl 96 (nI (56 * sd))) q = decide (q = 5 + 56 * sd ∨ q = 6 + 56 * sd) ∧ bt (bsl 14 (nI (56 * sd))) q = decide (q = 1 + 56 * sd ∨ q = 2 + 56 * sd ∨ q = 3 + 56 * sd) ∧ bt (bsl 112 (nI (56 * sd))) q = decide (q = 4 + 56 * sd ∨ q = 5 + 56 * sd ∨ q = 6 + 56 * sd) ∧ bt (bsl 28 (nI (56 * sd))) q = decide (q = 2 + 56 * sd ∨ q = 3 + 56 * sd ∨ q = 4 + 56 * sd) := by
  have := all_lt (all_lt hc_chk hs) hq
  simp only [Bool.and_eq_true, beq_iff_eq] at this
  exact this
theorem and_p {x y : Int64} {P : Nat → Prop} (hy : ∀ q, q < 64 → (bt y q = true ↔ P q)) : x &&& y = 0 ↔ ∀ q, q < 64 → P q → bt x q = false := by
  rw [and0]
  constructor
  · intro h q hq hp
    cases e : bt x q
    · rfl
    · have := h q hq e; rw [(hy q hq).mpr hp] at this; cases this
  · intro h q hq hx
    cases e : bt y q
    · rfl
    · have := h q hq ((hy q hq).mp e); rw [hx] at this; cases this
theorem fre_s {bd : Nat → Nat} {sd : Nat} (hs : sd < 2) : fre bd (4 + 56 * sd) (7 + 56 * sd) = true ↔ bd (5 + 56 * sd) = 0 ∧ bd (6 + 56 * sd) = 0 := by
  have : sd = 0 ∨ sd = 1 := by omega
  rcases this with rfl | rfl
  · rw [fre_w (w := 3) (m := 2) (by decide) (by decide) (by decide) (by decide) (by decide)]
    exact ⟨fun h => ⟨h 1 (by decide), h 0 (by decide)⟩, fun h j hj => by
      have : j = 0 ∨ j = 1 := by omega
      rcases this with rfl | rfl
      · exact h.2
      · exact h.1⟩
  · rw [fre_w (w := 3) (m := 2) (by decide) (by decide) (by decide) (by decide) (by decide)]
    exact ⟨fun h => ⟨h 1 (by decide), h 0 (by decide)⟩, fun h j hj => by
      have : j = 0 ∨ j = 1 := by omega
      rcases this with rfl | rfl
      · exact h.2
      · exact h.1⟩
theorem fre_l {bd : Nat → Nat} {sd : Nat} (hs : sd < 2) : fre bd (4 + 56 * sd) (0 + 56 * sd) = true ↔ bd (1 + 56 * sd) = 0 ∧ bd (2 + 56 * sd) = 0 ∧ bd (3 + 56 * sd) = 0 := by
  have : sd = 0 ∨ sd = 1 := by omega
  rcases this with rfl | rfl
  · rw [fre_w (w := 2) (m := 3) (by decide) (by decide) (by decide) (by decide) (by decide)]
    exact ⟨fun h => ⟨h 0 (by decide), h 1 (by decide), h 2 (by decide)⟩, fun h j hj => by
      have : j = 0 ∨ j = 1 ∨ j = 2 := by omega
      rcases this with rfl | rfl | rfl
      · exact h.1
      · exact h.2.1
      · exact h.2.2⟩
  · rw [fre_w (w := 2) (m := 3) (by decide) (by decide) (by decide) (by decide) (by decide)]
    exact ⟨fun h => ⟨h 0 (by decide), h 1 (by decide), h 2 (by decide)⟩, fun h j hj => by
      have : j = 0 ∨ j = 1 ∨ j = 2 := by omega
      rcases this with rfl | rfl | rfl
      · exact h.1
      · exact h.2.1
      · exact h.2.2⟩
theorem rg_chk : ((List.range 16).all fun rt => (List.range 2).all fun sd => decide ((¬ nI rt &&& nI (1 * 4 ^ sd) = 0) ↔ ¬ rt / 4 ^ sd % 2 = 0) && decide ((¬ nI rt &&& nI (2 * 4 ^ sd) = 0) ↔ ¬ rt / 4 ^ sd / 2 % 2 = 0)) = true := by decide +kernel
theorem rg_e {rt sd : Nat} (hr : rt < 16) (hs : sd < 2) : ((¬ nI rt &&& nI (1 * 4 ^ sd) = 0) ↔ ¬ rt / 4 ^ sd % 2 = 0) ∧ ((¬ nI rt &&& nI (2 * 4 ^ sd) = 0) ↔ ¬ rt / 4 ^ sd / 2 % 2 = 0) := by
  have := all_lt (all_lt rg_chk hr) hs
  simp only [Bool.and_eq_true, decide_eq_true_eq] at this
  exact this
theorem can_s {bd : Nat → Nat} {sd rt : Nat} (hr : rt < 16) (hs : sd < 2) : can bd sd rt (4 + 56 * sd) (6 + 56 * sd) = true ↔ ¬ rt / 4 ^ sd % 2 = 0 ∧ bd (7 + 56 * sd) = 4 + 6 * sd ∧ bd (5 + 56 * sd) = 0 ∧ bd (6 + 56 * sd) = 0 := by
  have e1 : cnr sd (4 + 56 * sd) (6 + 56 * sd) = 7 + 56 * sd := by unfold cnr; rw [if_pos (by omega)]; omega
  have e2 : rgt sd (4 + 56 * sd) (6 + 56 * sd) = 1 * 4 ^ sd := by unfold rgt; rw [if_pos (by omega)]
  unfold can rgh
  rw [e1, e2, Bool.and_eq_true, Bool.and_eq_true, decide_eq_true_eq, decide_eq_true_eq, fre_s hs, (rg_e hr hs).1, and_assoc]
theorem can_l {bd : Nat → Nat} {sd rt : Nat} (hr : rt < 16) (hs : sd < 2) : can bd sd rt (4 + 56 * sd) (2 + 56 * sd) = true ↔ ¬ rt / 4 ^ sd / 2 % 2 = 0 ∧ bd (0 + 56 * sd) = 4 + 6 * sd ∧ bd (1 + 56 * sd) = 0 ∧ bd (2 + 56 * sd) = 0 ∧ bd (3 + 56 * sd) = 0 := by
  have e1 : cnr sd (4 + 56 * sd) (2 + 56 * sd) = 0 + 56 * sd := by unfold cnr; rw [if_neg (by omega)]; omega
  have e2 : rgt sd (4 + 56 * sd) (2 + 56 * sd) = 2 * 4 ^ sd := by unfold rgt; rw [if_neg (by omega)]
  unfold can rgh
  rw [e1, e2, Bool.and_eq_true, Bool.and_eq_true, decide_eq_true_eq, decide_eq_true_eq, fre_l hs, (rg_e hr hs).2, and_assoc]
theorem ca1_e {bd : Nat → Nat} {sd rt : Nat} (hb : ∀ q, q < 64 → bd q < 13) (hr : rt < 16) (hs : sd < 2) : ca1 bd sd rt = can bd sd rt (4 + 56 * sd) (6 + 56 * sd) := by
  rw [Bool.eq_iff_iff, can_s hr hs]
  unfold ca1
  have a1 := and_p (x := sqs bd (6 * sd + 4)) (y := bsl (hom sd) (nI 3)) (P := fun q => q = 7 + 56 * sd) (fun q hq => by rw [(hc_b hs hq).2.2.2.1, decide_eq_true_eq])
  have a2 := and_p (x := fulS bd sd) (y := bsl 96 (nI (56 * sd))) (P := fun q => q = 5 + 56 * sd ∨ q = 6 + 56 * sd) (fun q hq => by rw [(hc_b hs hq).2.2.2.2.2.1, decide_eq_true_eq])
  simp only [Bool.and_eq_true, Bool.not_eq_true', decide_eq_false_iff_not, decide_eq_true_eq, a1, a2]
  refine and_congr_right fun _ => and_congr ?_ ?_
  · constructor
    · intro h
      apply Classical.byContradiction
      intro hn
      exact h fun q hq e => by rw [sqs_bt hq]; exact decide_eq_false (by rw [e]; omega)
    · intro h z
      have := z (7 + 56 * sd) (by omega) rfl
      rw [sqs_bt (by omega)] at this
      exact (of_decide_eq_false this) (by omega)
  · constructor
    · intro h
      have h5 := h (5 + 56 * sd) (by omega) (Or.inl rfl)
      have h6 := h (6 + 56 * sd) (by omega) (Or.inr rfl)
      rw [ful_e (hb _ (by omega)) hs (by omega)] at h5 h6
      exact ⟨Classical.not_not.mp (of_decide_eq_false h5), Classical.not_not.mp (of_decide_eq_false h6)⟩
    · rintro ⟨h5, h6⟩ q hq e
      rw [ful_e (hb _ hq) hs hq]
      rcases e with e | e
      · rw [e, h5]; rfl
      · rw [e, h6]; rfl
theorem ca2_e {bd : Nat → Nat} {sd rt : Nat} (hb : ∀ q, q < 64 → bd q < 13) (hr : rt < 16) (hs : sd < 2) : ca2 bd sd rt = can bd sd rt (4 + 56 * sd) (2 + 56 * sd) := by
  rw [Bool.eq_iff_iff, can_l hr hs]
  unfold ca2
  have a1 := and_p (x := sqs bd (6 * sd + 4)) (y := bsr (hom sd) (nI 4)) (P := fun q => q = 0 + 56 * sd) (fun q hq => by rw [(hc_b hs hq).2.2.2.2.1, decide_eq_true_eq])
  have a2 := and_p (x := fulS bd sd) (y := bsl 14 (nI (56 * sd))) (P := fun q => q = 1 + 56 * sd ∨ q = 2 + 56 * sd ∨ q = 3 + 56 * sd) (fun q hq => by rw [(hc_b hs hq).2.2.2.2.2.2.1, decide_eq_true_eq])
  simp only [Bool.and_eq_true, Bool.not_eq_true', decide_eq_false_iff_not, decide_eq_true_eq, a1, a2]
  refine and_congr_right fun _ => and_congr ?_ ?_
  · constructor
    · intro h
      apply Classical.byContradiction
      intro hn
      exact h fun q hq e => by rw [sqs_bt hq]; exact decide_eq_false (by rw [e]; omega)
    · intro h z
      have := z (0 + 56 * sd) (by omega) rfl
      rw [sqs_bt (by omega)] at this
      exact (of_decide_eq_false this) (by omega)
  · constructor
    · intro h
      have h1 := h (1 + 56 * sd) (by omega) (Or.inl rfl)
      have h2 := h (2 + 56 * sd) (by omega) (Or.inr (Or.inl rfl))
      have h3 := h (3 + 56 * sd) (by omega) (Or.inr (Or.inr rfl))
      rw [ful_e (hb _ (by omega)) hs (by omega)] at h1 h2 h3
      exact ⟨Classical.not_not.mp (of_decide_eq_false h1), Classical.not_not.mp (of_decide_eq_false h2), Classical.not_not.mp (of_decide_eq_false h3)⟩
    · rintro ⟨h1, h2, h3⟩ q hq e
      rw [ful_e (hb _ hq) hs hq]
      rcases e with e | e | e
      · rw [e, h1]; rfl
      · rw [e, h2]; rfl
      · rw [e, h3]; rfl
theorem cst_e {bd : Nat → Nat} {sd rt K t : Nat} (h : OK bd sd K) (hr : rt < 16) (ht : t < 64) : bt (cst bd sd rt) t = true ↔ K = 4 + 56 * sd ∧ ((t = 6 + 56 * sd ∧ can bd sd rt (4 + 56 * sd) (6 + 56 * sd) = true) ∨ (t = 2 + 56 * sd ∧ can bd sd rt (4 + 56 * sd) (2 + 56 * sd) = true)) := by
  obtain ⟨hb, hs, hK, hku, hkk⟩ := h
  have hk : kngS bd sd = hom sd ↔ K = 4 + 56 * sd := by
    unfold kngS
    constructor
    · intro z
      have : bt (hom sd) K = true := by rw [← z, sqs_bt hK]; exact decide_eq_true ((hku K hK).mpr rfl)
      rw [(hc_b hs hK).1] at this
      exact of_decide_eq_true this
    · intro z
      apply bt_ext
      intro i hi
      rw [sqs_bt hi, (hc_b hs hi).1]
      exact decide_eq_decide.mpr (by rw [hku i hi, z])
  have h1 : bt (ct1 bd sd rt) t = true ↔ t = 6 + 56 * sd ∧ can bd sd rt (4 + 56 * sd) (6 + 56 * sd) = true := by
    unfold ct1
    rw [ca1_e hb hr hs]
    split
    · rename_i h; rw [bt_or, bt_0, Bool.false_or, (hc_b hs ht).2.1, decide_eq_true_eq]; exact ⟨fun a => ⟨a, h⟩, fun a => a.1⟩
    · rename_i h; rw [bt_0]; exact ⟨fun z => absurd z (by decide), fun z => absurd z.2 h⟩
  have h2 : bt (ct2 bd sd rt) t = true ↔ (t = 6 + 56 * sd ∧ can bd sd rt (4 + 56 * sd) (6 + 56 * sd) = true) ∨ (t = 2 + 56 * sd ∧ can bd sd rt (4 + 56 * sd) (2 + 56 * sd) = true) := by
    unfold ct2
    rw [ca2_e hb hr hs]
    split
    · rename_i h; rw [bt_or, Bool.or_eq_true, h1, (hc_b hs ht).2.2.1, decide_eq_true_eq]; exact or_congr_right ⟨fun a => ⟨a, h⟩, fun a => a.1⟩
    · rename_i h; rw [h1]; exact ⟨fun z => Or.inl z, fun z => z.elim id (fun z => absurd z.2 h)⟩
  unfold cst
  by_cases hh : K = 4 + 56 * sd
  · rw [if_pos (hk.mpr hh), h2]; exact ⟨fun z => ⟨hh, z⟩, fun z => z.2⟩
  · rw [if_neg (fun z => hh (hk.mp z)), bt_0]; exact ⟨fun z => absurd z (by decide), fun z => absurd z.1 hh⟩
theorem kc2_e {bd : Nat → Nat} {sd rt t : Nat} (hs : sd < 2) (ht : t < 64) : bt (kc2 bd sd rt) t = true ↔ bt (cst bd sd rt) t = true ∧ (t = 6 + 56 * sd → dgr bd sd &&& bsl 112 (nI (56 * sd)) = 0) ∧ (t = 2 + 56 * sd → dgr bd sd &&& bsl 28 (nI (56 * sd)) = 0) := by
  have h1 : bt (kc1 bd sd rt) t = true ↔ bt (cst bd sd rt) t = true ∧ (t = 6 + 56 * sd → dgr bd sd &&& bsl 112 (nI (56 * sd)) = 0) := by
    unfold kc1
    split
    · rename_i h; exact ⟨fun z => ⟨z, fun _ => h⟩, fun z => z.1⟩
    · rename_i h
      rw [bt_and, Bool.and_eq_true, bt_not ht, (hc_b hs ht).2.1, Bool.not_eq_true', decide_eq_false_iff_not]
      exact and_congr_right fun _ => ⟨fun z w => absurd w z, fun z w => h (z w)⟩
  unfold kc2
  split
  · rename_i h; rw [h1]; exact ⟨fun z => ⟨z.1, z.2, fun _ => h⟩, fun z => ⟨z.1, z.2.1⟩⟩
  · rename_i h
    rw [bt_and, Bool.and_eq_true, bt_not ht, (hc_b hs ht).2.2.1, Bool.not_eq_true', decide_eq_false_iff_not, h1]
    exact ⟨fun z => ⟨z.1.1, z.1.2, fun w => absurd w z.2⟩, fun z => ⟨⟨z.1, z.2.1⟩, fun w => h (z.2.2 w)⟩⟩
theorem ktg_e {bd : Nat → Nat} {sd rt t : Nat} (hs : sd < 2) (ht : t < 64) : bt (ktg bd sd rt) t = true ↔ (bt (kst bd sd) t = true ∧ bt (dgr bd sd) t = false) ∨ bt (kc2 bd sd rt) t = true := by
  unfold ktg
  by_cases h : kst bd sd ||| cst bd sd rt = 0
  · rw [if_pos h, bt_0]
    have h0 : bt (kst bd sd ||| cst bd sd rt) t = false := by rw [h]; exact bt_0 t
    rw [bt_or, Bool.or_eq_false_iff] at h0
    refine ⟨fun z => absurd z (by decide), fun z => ?_⟩
    rcases z with z | z
    · rw [h0.1] at z; exact absurd z.1 (by decide)
    · have := ((kc2_e hs ht).mp z).1; rw [h0.2] at this; exact absurd this (by decide)
  · rw [if_neg h, bt_or, bt_and, Bool.or_eq_true, Bool.and_eq_true, bt_not ht, Bool.not_eq_true']
theorem kst_e {bd : Nat → Nat} {sd K t : Nat} (h : OK bd sd K) (ht : t < 64) : bt (kst bd sd) t = true ↔ kgg K t = true ∧ sdN (bd t) ≠ sd := by
  obtain ⟨hb, hs, hK, hku, hkk⟩ := h
  unfold kst
  rw [bt_and, Bool.and_eq_true, okg_e ht, bt_not ht, own_e (hb t ht) hs ht, Bool.not_eq_true', decide_eq_false_iff_not]
  refine and_congr_left fun _ => ?_
  unfold kngS
  constructor
  · rintro ⟨s, a, b, c⟩
    rw [sqs_bt a, decide_eq_true_eq] at b
    rw [← (hku s a).mp b]; exact c
  · intro c
    exact ⟨K, hK, by rw [sqs_bt hK]; exact decide_eq_true ((hku K hK).mpr rfl), c⟩
theorem T3c {bd : Nat → Nat} {sd rt ps K t : Nat} {D : Prop} (hb : ∀ q, q < 64 → bd q < 13) (hs : sd < 2) (hp : plb bd sd = true) (hKk : kgs bd sd = K) (ht : t < 64) (hK : K = 4 + 56 * sd) (h2 : t = K + 2 ∨ K = t + 2) (hc : can bd sd rt K t = true)
    (hD : D ↔ (isA (upN bd K 0) K (1 - sd) = false ∧ isA (upN bd K 0) ((K + t) / 2) (1 - sd) = false ∧ isA (upN bd K 0) t (1 - sd) = false))
    (hcs : (isA bd K (1 - sd) = false ∧ isA bd ((K + t) / 2) (1 - sd) = false ∧ isA (upN (upN (upN (upN bd K 0) t (bd K)) (rok K t) 0) ((K + t) / 2) (4 + 6 * sd)) t (1 - sd) = false) ↔ (isA (upN bd K 0) K (1 - sd) = false ∧ isA (upN bd K 0) ((K + t) / 2) (1 - sd) = false ∧ isA (upN bd K 0) t (1 - sd) = false)) : lgl bd sd rt ps K t 0 = true ↔ D := by
  have hOK := (plb_ok hb hs hp).1
  rw [hKk] at hOK
  obtain ⟨-, -, hK64, hku, -⟩ := hOK
  have hbK : bd K = 6 * sd + 6 := (hku K hK64).mpr rfl
  have hkd : kd (bd K) = 6 := by rw [hbK]; exact kd_e hs (by omega) (by omega)
  have hso : sdN (bd K) = sd := by rw [hbK]; exact sd_e hs (by omega) (by omega)
  obtain ⟨r1, r2, r3, r4⟩ := can_at hs hK h2 hc
  have hna : atk bd K t = false := by
    have : K ≠ t := by omega
    rw [atk_6 this hkd]
    refine decide_eq_false (fun z => ?_)
    have z1 := z.1
    unfold ap at z1
    split at z1 <;> omega
  have hctl : ctl bd K t = true := by
    unfold ctl
    rw [decide_eq_true hkd, Bool.true_and]
    refine decide_eq_true ?_
    unfold ap
    split <;> omega
  have hinp : inp bd sd ps K t = false := by unfold inp; rw [decide_eq_false (by omega)]; rfl
  have hbh : bhB bd sd ps K t 0 = upN (upN (upN (upN bd K 0) t (bd K)) (rok K t) 0) ((K + t) / 2) (4 + 6 * sd) := by
    unfold bhB bh2 bh1
    rw [hctl, hinp, if_pos rfl, if_neg (by decide), if_pos rfl]
  have hpre : pre bd sd rt ps K t 0 = true ↔ isA bd K (1 - sd) = false ∧ isA bd ((K + t) / 2) (1 - sd) = false := by
    unfold pre
    rw [gos_2 hso (by rw [r3, sd_0]; omega) (by rw [r3]; decide) (by omega), hna, decide_eq_true hkd, cas_y hK h2, hc]
    have hl : lst bd sd K t = false := by unfold lst; rw [decide_eq_false (by omega)]; rfl
    rw [hl, decide_eq_false (show ¬ K = t by omega)]
    simp
  rw [hD, ← hcs, ← hbh]
  unfold lgl
  rw [Bool.and_eq_true, Bool.not_eq_true', ← and_assoc, ← hpre]
  refine and_congr_right fun hpr => ?_
  have hkg := bh_kgs (w := sd) hb hs hs hK64 ht (by decide) hpr (by rw [hKk]; exact hK64)
  rw [kgs_eq hkg ht (by rw [hbh, upN_ne (by omega), upN_ne (by unfold rok; split <;> omega), upN_eq, hbK]; omega)]
theorem T3 {bd : Nat → Nat} {sd rt ps K t : Nat} (hb : ∀ q, q < 64 → bd q < 13) (hs : sd < 2) (hr : rt < 16) (hp : plb bd sd = true) (hKk : kgs bd sd = K) (ht : t < 64) : bt (tgt bd sd rt ps K) t = lgl bd sd rt ps K t 0 := by
  obtain ⟨hOK, hnt⟩ := plb_ok hb hs hp
  rw [hKk] at hOK
  have hOK' := hOK
  obtain ⟨-, -, hK, hku, -⟩ := hOK'
  have hbK : bd K = 6 * sd + 6 := (hku K hK).mpr rfl
  have hkd : kd (bd K) = 6 := by rw [hbK]; exact kd_e hs (by omega) (by omega)
  have hso : sdN (bd K) = sd := by rw [hbK]; exact sd_e hs (by omega) (by omega)
  have hinp : inp bd sd ps K t = false := by unfold inp; rw [decide_eq_false (by omega)]; rfl
  have hl : lst bd sd K t = false := by unfold lst; rw [decide_eq_false (by omega)]; rfl
  unfold tgt
  rw [if_pos hkd, Bool.eq_iff_iff, ktg_e hs ht, kst_e hOK ht, dgr_e hOK ht, kc2_e hs ht, cst_e hOK hr ht]
  by_cases hg : kgg K t = true
  · have hg' := of_decide_eq_true hg
    have hctl : ctl bd K t = false := by unfold ctl; rw [decide_eq_false (show ¬ ap (K % 8) (t % 8) = 2 by omega)]; simp
    have hat : atk bd K t = true := by rw [atk_6 hg'.1 hkd]; exact decide_eq_true hg'.2
    have hpre : pre bd sd rt ps K t 0 = true ↔ sdN (bd t) ≠ sd := by
      constructor
      · intro z; exact (gos_of (pre_go z).1).2.1
      · intro z
        unfold pre
        rw [gos_2 hso z (fun w => z (hnt K t hK ht hso hat w)) (by omega), hat, hl, decide_eq_false hg'.1]
        simp
    have hbh : bhB bd sd ps K t 0 = upN (upN bd K 0) t (bd K) := by rw [bhB_n hinp hctl, if_pos rfl]
    have hrhs : lgl bd sd rt ps K t 0 = true ↔ sdN (bd t) ≠ sd ∧ isA (upN bd K 0) t (1 - sd) = false := by
      unfold lgl
      rw [Bool.and_eq_true, Bool.not_eq_true', hpre]
      refine and_congr_right fun hz => ?_
      have hkg := bh_kgs (w := sd) hb hs hs hK ht (by decide) (hpre.mpr hz) (by rw [hKk]; exact hK)
      rw [kgs_eq hkg ht (by rw [hbh, upN_eq, hbK]; omega), hbh, isA_up (upN_lt hb (by decide)) (hb K hK) (by omega) ht]
    rw [hrhs]
    constructor
    · rintro (⟨⟨-, a⟩, b⟩ | ⟨⟨a, b⟩, -⟩)
      · exact ⟨a, b⟩
      · exfalso
        have h3 := hg'.2.1
        unfold ap at h3
        rcases b with b | b
        · have := b.1; split at h3 <;> omega
        · have := b.1; split at h3 <;> omega
    · rintro ⟨a, b⟩; exact Or.inl ⟨⟨hg, a⟩, b⟩
  · have hnat : atk bd K t = false := by
      by_cases e : K = t
      · exact atk_0 (Or.inr e)
      · rw [atk_6 e hkd]
        refine decide_eq_false (fun z => hg ?_)
        exact decide_eq_true ⟨e, z⟩
    have hcas : lgl bd sd rt ps K t 0 = true → cas bd sd rt K t = true := by
      intro z
      have h1 := (pre_go (lgl_pre z).1).1
      obtain ⟨o1, o2, o3⟩ := gos_of h1
      rw [gos_2 o1 o2 o3 (by omega), hnat, decide_eq_true hkd] at h1
      simpa using h1
    have hg0 : ∀ q, q < 64 → bt (dgr bd sd) q = isA (upN bd K 0) q (1 - sd) := fun q hq => dgr_e hOK hq
    constructor
    · rintro (⟨⟨a, -⟩, -⟩ | ⟨⟨a, b⟩, c1, c2⟩)
      · exact absurd a hg
      · rcases b with ⟨b1, b2⟩ | ⟨b1, b2⟩
        · have hd := c1 b1
          rw [and_p (P := fun q => q = 4 + 56 * sd ∨ q = 5 + 56 * sd ∨ q = 6 + 56 * sd) (fun q hq => by rw [(hc_b hs hq).2.2.2.2.2.2.2.1, decide_eq_true_eq])] at hd
          subst b1; subst a
          have hc4 := (can_s hr hs).mp b2
          refine (T3c (D := True) hb hs hp hKk ht rfl (by omega) b2 ?_ ?_).mpr trivial
          · refine ⟨fun _ => ?_, fun _ => trivial⟩
            rw [show (4 + 56 * sd + (6 + 56 * sd)) / 2 = 5 + 56 * sd by omega, ← hg0 _ (by omega), ← hg0 _ (by omega), ← hg0 _ ht]
            exact ⟨hd _ (by omega) (by omega), hd _ (by omega) (by omega), hd _ (by omega) (by omega)⟩
          · rw [show (4 + 56 * sd + (6 + 56 * sd)) / 2 = 5 + 56 * sd by omega, show rok (4 + 56 * sd) (6 + 56 * sd) = 7 + 56 * sd by unfold rok; rw [if_pos (by omega)]; omega]
            have : sd = 0 ∨ sd = 1 := by omega
            refine castle_safe (u1 := 3) (u2 := 2) (n2 := 0) hb hs hK ht (by omega) (by omega) (by decide) (by decide) hbK (by omega) hc4.2.2.1 hc4.2.2.2 ?_ ?_ ?_ ?_ ?_ ?_ ?_ (fun j hj => absurd hj (Nat.not_lt_zero j)) ?_ ?_ (by decide) <;> (rcases this with rfl | rfl <;> decide)
        · have hd := c2 b1
          rw [and_p (P := fun q => q = 2 + 56 * sd ∨ q = 3 + 56 * sd ∨ q = 4 + 56 * sd) (fun q hq => by rw [(hc_b hs hq).2.2.2.2.2.2.2.2, decide_eq_true_eq])] at hd
          subst b1; subst a
          have hc4 := (can_l hr hs).mp b2
          refine (T3c (D := True) hb hs hp hKk ht rfl (by omega) b2 ?_ ?_).mpr trivial
          · refine ⟨fun _ => ?_, fun _ => trivial⟩
            rw [show (4 + 56 * sd + (2 + 56 * sd)) / 2 = 3 + 56 * sd by omega, ← hg0 _ (by omega), ← hg0 _ (by omega), ← hg0 _ ht]
            exact ⟨hd _ (by omega) (by omega), hd _ (by omega) (by omega), hd _ (by omega) (by omega)⟩
          · rw [show (4 + 56 * sd + (2 + 56 * sd)) / 2 = 3 + 56 * sd by omega, show rok (4 + 56 * sd) (2 + 56 * sd) = 0 + 56 * sd by unfold rok; rw [if_neg (by omega)]; omega]
            have : sd = 0 ∨ sd = 1 := by omega
            refine castle_safe (u1 := 2) (u2 := 3) (n2 := 1) hb hs hK ht (by omega) (by omega) (by decide) (by decide) hbK (by omega) hc4.2.2.2.2 hc4.2.2.2.1 ?_ ?_ ?_ ?_ ?_ ?_ ?_ (fun j hj => ?_) ?_ ?_ (by decide)
            case _ => rcases this with rfl | rfl <;> decide
            case _ => rcases this with rfl | rfl <;> decide
            case _ => rcases this with rfl | rfl <;> decide
            case _ => rcases this with rfl | rfl <;> decide
            case _ => rcases this with rfl | rfl <;> decide
            case _ => rcases this with rfl | rfl <;> decide
            case _ => rcases this with rfl | rfl <;> decide
            case _ =>
              obtain rfl : j = 0 := by omega
              have e1 : goN 3 (0 + 1) (2 + 56 * sd) = 1 + 56 * sd := by rcases this with rfl | rfl <;> decide
              rw [e1]
              exact ⟨by omega, hc4.2.2.1, by omega⟩
            case _ => rcases this with rfl | rfl <;> decide
            case _ => rcases this with rfl | rfl <;> decide
    · intro z
      have hcs := hcas z
      unfold cas at hcs
      rw [Bool.and_eq_true, decide_eq_true_eq, Bool.and_eq_true, Bool.and_eq_true] at hcs
      obtain ⟨⟨k1, k2⟩, ⟨k3, k4⟩, k5⟩ := hcs
      right
      subst k1
      rcases k2 with k2 | k2
      · obtain rfl : t = 6 + 56 * sd := by omega
        have hc4 := (can_s hr hs).mp k3
        refine ⟨⟨rfl, Or.inl ⟨rfl, k3⟩⟩, fun _ => ?_, fun w => by omega⟩
        rw [and_p (P := fun q => q = 4 + 56 * sd ∨ q = 5 + 56 * sd ∨ q = 6 + 56 * sd) (fun q hq => by rw [(hc_b hs hq).2.2.2.2.2.2.2.1, decide_eq_true_eq])]
        have h3 := (T3c (ps := ps) (rt := rt) hb hs hp hKk ht rfl (by omega) k3 Iff.rfl (by
          rw [show (4 + 56 * sd + (6 + 56 * sd)) / 2 = 5 + 56 * sd by omega, show rok (4 + 56 * sd) (6 + 56 * sd) = 7 + 56 * sd by unfold rok; rw [if_pos (by omega)]; omega]
          have : sd = 0 ∨ sd = 1 := by omega
          refine castle_safe (u1 := 3) (u2 := 2) (n2 := 0) hb hs hK ht (by omega) (by omega) (by decide) (by decide) hbK (by omega) hc4.2.2.1 hc4.2.2.2 ?_ ?_ ?_ ?_ ?_ ?_ ?_ (fun j hj => absurd hj (Nat.not_lt_zero j)) ?_ ?_ (by decide) <;> (rcases this with rfl | rfl <;> decide))).mp z
        rw [show (4 + 56 * sd + (6 + 56 * sd)) / 2 = 5 + 56 * sd by omega] at h3
        rintro q hq (e | e | e)
        · rw [hg0 q hq, e]; exact h3.1
        · rw [hg0 q hq, e]; exact h3.2.1
        · rw [hg0 q hq, e]; exact h3.2.2
      · obtain rfl : t = 2 + 56 * sd := by omega
        have hc4 := (can_l hr hs).mp k3
        refine ⟨⟨rfl, Or.inr ⟨rfl, k3⟩⟩, fun w => by omega, fun _ => ?_⟩
        rw [and_p (P := fun q => q = 2 + 56 * sd ∨ q = 3 + 56 * sd ∨ q = 4 + 56 * sd) (fun q hq => by rw [(hc_b hs hq).2.2.2.2.2.2.2.2, decide_eq_true_eq])]
        have h3 := (T3c (ps := ps) (rt := rt) hb hs hp hKk ht rfl (by omega) k3 Iff.rfl (by
          rw [show (4 + 56 * sd + (2 + 56 * sd)) / 2 = 3 + 56 * sd by omega, show rok (4 + 56 * sd) (2 + 56 * sd) = 0 + 56 * sd by unfold rok; rw [if_neg (by omega)]; omega]
          have : sd = 0 ∨ sd = 1 := by omega
          refine castle_safe (u1 := 2) (u2 := 3) (n2 := 1) hb hs hK ht (by omega) (by omega) (by decide) (by decide) hbK (by omega) hc4.2.2.2.2 hc4.2.2.2.1 ?_ ?_ ?_ ?_ ?_ ?_ ?_ (fun j hj => ?_) ?_ ?_ (by decide)
          case _ => rcases this with rfl | rfl <;> decide
          case _ => rcases this with rfl | rfl <;> decide
          case _ => rcases this with rfl | rfl <;> decide
          case _ => rcases this with rfl | rfl <;> decide
          case _ => rcases this with rfl | rfl <;> decide
          case _ => rcases this with rfl | rfl <;> decide
          case _ => rcases this with rfl | rfl <;> decide
          case _ =>
            obtain rfl : j = 0 := by omega
            have e1 : goN 3 (0 + 1) (2 + 56 * sd) = 1 + 56 * sd := by rcases this with rfl | rfl <;> decide
            rw [e1]
            exact ⟨by omega, hc4.2.2.1, by omega⟩
          case _ => rcases this with rfl | rfl <;> decide
          case _ => rcases this with rfl | rfl <;> decide)).mp z
        rw [show (4 + 56 * sd + (2 + 56 * sd)) / 2 = 3 + 56 * sd by omega] at h3
        rintro q hq (e | e | e)
        · rw [hg0 q hq, e]; exact h3.2.2
        · rw [hg0 q hq, e]; exact h3.2.1
        · rw [hg0 q hq, e]; exact h3.1

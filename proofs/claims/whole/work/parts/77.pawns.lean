/-! pawns -/
set_option maxRecDepth 100000 in
theorem rk_chk : ((List.range 64).all fun q => (bt 16711680 q == decide (16 ≤ q ∧ q < 24)) && (bt 280375465082880 q == decide (40 ≤ q ∧ q < 48))) = true := by decide +kernel
theorem rk_b {q : Nat} (h : q < 64) : bt 16711680 q = decide (16 ≤ q ∧ q < 24) ∧ bt 280375465082880 q = decide (40 ≤ q ∧ q < 48) := by
  have := all_lt rk_chk h
  simp only [Bool.and_eq_true, beq_iff_eq] at this
  exact this
theorem nfl_b {bd : Nat → Nat} {sd q : Nat} (hb : bd q < 13) (hs : sd < 2) (hq : q < 64) : bt (nfl bd sd) q = decide (bd q = 0) := by
  unfold nfl
  rw [bt_not hq, ful_e hb hs hq]
  by_cases h : bd q = 0 <;> simp [h]
theorem pw1_e {bd : Nat → Nat} {sd f t : Nat} (hb : ∀ q, q < 64 → bd q < 13) (hs : sd < 2) (hf : f < 64) (ht : t < 64) : bt (pw1 bd sd (bsl 1 (nI f))) t = true ↔ st1 sd f t ∧ bd t = 0 := by
  unfold pw1 st1
  by_cases h0 : sd = 0
  · rw [if_pos h0, bt_and, Bool.and_eq_true, nfl_b (hb t ht) hs ht, bt_bsl (by decide) ht, Bool.and_eq_true, decide_eq_true_eq, decide_eq_true_eq, bit_b hf (by omega)]
    omega
  · rw [if_neg h0, bt_and, Bool.and_eq_true, nfl_b (hb t ht) hs ht, bt_bsr (by decide), decide_eq_true_eq]
    by_cases h8 : 8 + t < 64
    · rw [bit_b hf h8]; omega
    · rw [bt_out (by omega)]
      simp only [Bool.false_eq_true, false_and, false_iff]
      omega
theorem pw2_e {bd : Nat → Nat} {sd f t : Nat} (hb : ∀ q, q < 64 → bd q < 13) (hs : sd < 2) (hf : f < 64) (ht : t < 64) : bt (pw2 bd sd (bsl 1 (nI f))) t = true ↔ st2 sd f t ∧ (f / 8 = if sd = 0 then 1 else 6) ∧ bd ((f + t) / 2) = 0 ∧ bd t = 0 := by
  unfold pw2 st2
  by_cases h0 : sd = 0
  · rw [if_pos h0, if_pos h0, bt_and, Bool.and_eq_true, nfl_b (hb t ht) hs ht, bt_bsl (by decide) ht, Bool.and_eq_true, bt_and, Bool.and_eq_true, (rk_b (show t - 8 < 64 by omega)).1, pw1_e hb hs hf (by omega)]
    unfold st1
    simp only [decide_eq_true_eq]
    constructor
    · rintro ⟨⟨a, ⟨b, c⟩, d⟩, e⟩
      have e1 : (f + t) / 2 = t - 8 := by omega
      exact ⟨by omega, by omega, by rw [e1]; exact c, e⟩
    · rintro ⟨a, b, c, d⟩
      have e1 : (f + t) / 2 = t - 8 := by omega
      rw [e1] at c
      exact ⟨⟨by omega, ⟨by omega, c⟩, by omega⟩, d⟩
  · rw [if_neg h0, if_neg h0, bt_and, Bool.and_eq_true, nfl_b (hb t ht) hs ht, bt_bsr (by decide)]
    by_cases h8 : 8 + t < 64
    · rw [bt_and, Bool.and_eq_true, (rk_b h8).2, pw1_e hb hs hf h8]
      unfold st1
      simp only [decide_eq_true_eq]
      constructor
      · rintro ⟨⟨⟨b, c⟩, d⟩, e⟩
        have e1 : (f + t) / 2 = 8 + t := by omega
        exact ⟨by omega, by omega, by rw [e1]; exact c, e⟩
      · rintro ⟨a, b, c, d⟩
        have e1 : (f + t) / 2 = 8 + t := by omega
        rw [e1] at c
        exact ⟨⟨⟨by omega, c⟩, by omega⟩, d⟩
    · rw [bt_out (by omega)]
      simp only [Bool.false_eq_true, false_and, false_iff]
      omega
theorem pwg_f {v s t : Nat} (h : pwg v s t = true) : ap (s % 8) (t % 8) = 1 := (of_decide_eq_true h).1
theorem pwg_s1 {sd f t : Nat} (hf : f < 64) (ht : t < 64) (h : pwg sd f t = true) : ¬ st1 sd f t ∧ ¬ st2 sd f t := by
  have := pwg_f h
  unfold ap at this
  unfold st1 st2
  constructor <;> (split at this <;> omega)
theorem atk_pw {bd : Nat → Nat} {sd f t : Nat} (hs : sd < 2) (e : bd f = 6 * sd + 1) : atk bd f t = pwg sd f t := by
  rw [atk_lp hs (Or.inl rfl) e]
  unfold lpf
  rw [decide_eq_true e, decide_eq_false (show ¬ bd f = 6 * sd + 2 by omega), decide_eq_false (show ¬ bd f = 6 * sd + 6 by omega)]
  simp
theorem pwy_e {bd : Nat → Nat} {sd f t : Nat} (hb : ∀ q, q < 64 → bd q < 13) (hs : sd < 2) (hf : f < 64) (ht : t < 64) (e : bd f = 6 * sd + 1) : bt (pwy bd sd (bsl 1 (nI f))) t = true ↔ (pgo bd sd 64 f t = true) := by
  have htp : tps bd sd 64 f t = false := by unfold tps; rw [decide_eq_false (by omega)]; rfl
  unfold pwy
  rw [bt_or, bt_or, bt_and, Bool.or_eq_true, Bool.or_eq_true, Bool.and_eq_true, opw_1 hs hf ht, thr_e (hb t ht) hs ht, pw1_e hb hs hf ht, pw2_e hb hs hf ht, decide_eq_true_eq]
  have hx1 : st1 sd f t → ¬ st2 sd f t := by unfold st1 st2; omega
  by_cases h1 : st1 sd f t
  · rw [pgo_1 h1, decide_eq_true_eq]
    constructor
    · rintro ((a | a) | a)
      · exact absurd h1 (pwg_s1 hf ht a.1).1
      · exact a.2
      · exact absurd a.1 (hx1 h1)
    · intro a; exact Or.inl (Or.inr ⟨h1, a⟩)
  · by_cases h2 : st2 sd f t
    · rw [pgo_2 h1 h2]
      simp only [Bool.and_eq_true, decide_eq_true_eq]
      constructor
      · rintro ((a | a) | a)
        · exact absurd h2 (pwg_s1 hf ht a.1).2
        · exact absurd a.1 h1
        · exact a.2
      · intro a; exact Or.inr ⟨h2, a⟩
    · rw [pgo_3 h1 h2, htp, Bool.or_false, Bool.and_eq_true, atk_pw hs e, decide_eq_true_eq]
      constructor
      · rintro ((a | a) | a)
        · exact a
        · exact absurd a.1 h1
        · exact absurd a.1 h2
      · intro a; exact Or.inl (Or.inl a)
theorem pgo_ps {bd : Nat → Nat} {sd ps f t : Nat} (hs : sd < 2) (hf : f < 64) (ht : t < 64) (e : bd f = 6 * sd + 1) : pgo bd sd ps f t = true ↔ pgo bd sd 64 f t = true ∨ tps bd sd ps f t = true := by
  have htp : tps bd sd 64 f t = false := by unfold tps; rw [decide_eq_false (by omega)]; rfl
  have hta : tps bd sd ps f t = true → pwg sd f t = true := by
    intro h
    unfold tps at h
    simp only [Bool.and_eq_true] at h
    rw [← atk_pw hs e]
    exact h.2.2.1
  by_cases h1 : st1 sd f t
  · rw [pgo_1 h1, pgo_1 h1]
    exact ⟨fun z => Or.inl z, fun z => z.elim id (fun w => absurd h1 (pwg_s1 hf ht (hta w)).1)⟩
  · by_cases h2 : st2 sd f t
    · rw [pgo_2 h1 h2, pgo_2 h1 h2]
      exact ⟨fun z => Or.inl z, fun z => z.elim id (fun w => absurd h2 (pwg_s1 hf ht (hta w)).2)⟩
    · rw [pgo_3 h1 h2, pgo_3 h1 h2, htp, Bool.or_false, Bool.or_eq_true]
set_option maxRecDepth 100000 in
theorem bk_chk : ((List.range 2).all fun sd => (List.range 64).all fun t => (isq (bkI sd t) == decide (bkN sd t < 64 ∧ (sd = 0 → 8 ≤ t))) && (List.range 64).all fun q => bt (pbk sd t) q == (isq (bkI sd t) && decide (q = bkN sd t))) = true := by decide +kernel
theorem bk_b {sd t : Nat} (hs : sd < 2) (ht : t < 64) : isq (bkI sd t) = decide (bkN sd t < 64 ∧ (sd = 0 → 8 ≤ t)) ∧ ∀ q, q < 64 → bt (pbk sd t) q = (isq (bkI sd t) && decide (q = bkN sd t)) := by
  have := all_lt (all_lt bk_chk hs) ht
  simp only [Bool.and_eq_true, beq_iff_eq] at this
  refine ⟨this.1, fun q hq => ?_⟩
  have h2 := all_lt this.2 hq
  simpa using h2
theorem tps_of {bd : Nat → Nat} {sd ps f t : Nat} (h : tps bd sd ps f t = true) : t = ps ∧ bd t = 0 ∧ atk bd f t = true ∧ isq (bkI sd t) = true ∧ bd (bkN sd t) = 7 - 6 * sd := by
  unfold tps at h
  simp only [Bool.and_eq_true, decide_eq_true_eq] at h
  exact h
theorem pst_no {bd : Nat → Nat} {sd ps f t : Nat} (hb : ∀ q, q < 64 → bd q < 13) (hs : sd < 2) (hps : ps < 65) (hf : f < 64) (ht : t < 64) (e : bd f = 6 * sd + 1) (h : tps bd sd ps f t = false) : bt (pst bd sd ps (bsl 1 (nI f))) t = false := by
  cases hb2 : bt (pst bd sd ps (bsl 1 (nI f))) t
  · rfl
  · exfalso
    unfold pst at hb2
    split at hb2
    · rw [bt_0] at hb2; cases hb2
    · rename_i hc
      simp only [not_or] at hc
      obtain ⟨c1, c2, c3⟩ := hc
      have hp : ps < 64 := by omega
      split at hb2
      · have htp := (bit_b hp ht).mp hb2
        have d1 : pwg sd f ps = true ∧ bd ps = 0 := by
          apply Classical.byContradiction
          intro hn
          apply c2
          rw [and0]
          intro q hq hx
          rw [bt_and, Bool.and_eq_true, opw_1 hs hf hq, bit_b hp hq] at hx
          rw [nfl_b (hb q hq) hs hq]
          refine decide_eq_false (fun z => hn ?_)
          rw [← hx.2]; exact ⟨hx.1, z⟩
        have d2 : isq (bkI sd ps) = true ∧ bd (bkN sd ps) = 6 * (1 - sd) + 1 := by
          apply Classical.byContradiction
          intro hn
          apply c3
          rw [and0]
          intro q hq hx
          rw [(bk_b hs hp).2 q hq, Bool.and_eq_true, decide_eq_true_eq] at hx
          rw [sqs_bt hq]
          refine decide_eq_false (fun z => hn ⟨hx.1, ?_⟩)
          rw [← hx.2]; exact z
        have : tps bd sd ps f t = true := by
          subst htp
          unfold tps
          simp only [Bool.and_eq_true, decide_eq_true_eq]
          exact ⟨trivial, d1.2, by rw [atk_pw hs e]; exact d1.1, d2.1, by rw [d2.2]; omega⟩
        rw [this] at h
        cases h
      · rw [bt_0] at hb2; cases hb2
/-- taking in passing -/
theorem pst_yes {bd : Nat → Nat} {sd ps f t k K : Nat} (h : OK bd sd K) (hf : f < 64) (ht : t < 64) (hk : k = 0 ∨ (2 ≤ k ∧ k ≤ 5)) (e : bd f = 6 * sd + 1) (htp : tps bd sd ps f t = true) : bt (pst bd sd ps (bsl 1 (nI f))) t = !isA (bhB bd sd ps f t k) K (1 - sd) ∧ bhB bd sd ps f t k K = 6 * sd + 6 := by
  obtain ⟨hb, hs, hK, hku, hkk⟩ := h
  obtain ⟨t1, t2, t3, t4, t5⟩ := tps_of htp
  subst t1
  have hkd : kd (bd f) = 1 := by rw [e]; exact kd_e hs (by omega) (by omega)
  have hbk := (bk_e ht t4).2
  have hbK : bd K = 6 * sd + 6 := (hku K hK).mpr rfl
  have hinp : inp bd sd t f t = true := by unfold inp; rw [decide_eq_true hkd, htp]; rfl
  have hctl : ctl bd f t = false := by unfold ctl; rw [decide_eq_false (by omega)]; rfl
  have he : bhB bd sd t f t k = upN (upN (upN bd (bkN sd t) 0) f 0) t (if k = 0 then bd f else k + 6 * sd) := by
    unfold bhB bh2 bh1
    rw [hinp, hctl, if_neg (by decide), if_pos rfl]
  have hp : ∃ j, 1 ≤ j ∧ j ≤ 6 ∧ (if k = 0 then bd f else k + 6 * sd) = 6 * sd + j ∧ j ≠ 6 := by
    split
    · exact ⟨1, by omega, by omega, e, by omega⟩
    · exact ⟨k, by omega, by omega, by omega, by omega⟩
  obtain ⟨j, j1, j2, j3, j4⟩ := hp
  rw [j3] at he
  have n1 : f ≠ t := fun z => by rw [z] at e; omega
  have n2 : bkN sd t ≠ f := fun z => by rw [z, e] at t5; omega
  have n3 : bkN sd t ≠ t := fun z => by rw [z] at t5; omega
  have m1 : K ≠ t := fun z => by rw [← z] at t2; omega
  have m2 : K ≠ f := fun z => by rw [← z] at e; omega
  have m3 : K ≠ bkN sd t := fun z => by rw [← z] at t5; omega
  have hlt := bh_lt (ps := t) (t := t) (k := k) hb hs hf (by omega)
  have gt : bhB bd sd t f t k t = 6 * sd + j := by rw [he, upN_eq]
  have gf : bhB bd sd t f t k f = 0 := by rw [he, upN_ne n1, upN_eq]
  have gb : bhB bd sd t f t k (bkN sd t) = 0 := by rw [he, upN_ne n3, upN_ne n2, upN_eq]
  have go : ∀ q, q ≠ t → q ≠ f → q ≠ bkN sd t → bhB bd sd t f t k q = bd q := fun q a b c => by rw [he, upN_ne a, upN_ne b, upN_ne c]
  refine ⟨?_, by rw [go K m1 m2 m3]; exact hbK⟩
  have hpb : ∀ q, q < 64 → (bt (pbk sd t) q = true ↔ q = bkN sd t) := fun q hq => by rw [(bk_b hs ht).2 q hq, t4, Bool.true_and, decide_eq_true_eq]
  have hfl : ∀ q, q < 64 → bt (pfl bd sd t (bsl 1 (nI f))) q = (((decide (bd q ≠ 0) && !decide (q = f)) && !decide (q = bkN sd t)) || decide (q = t)) := by
    intro q hq
    unfold pfl
    rw [bt_or, bt_and, bt_and, bt_not hq, bt_not hq, ful_e (hb q hq) hs hq, bt_1 hf hq, bt_1 ht hq, (bk_b hs ht).2 q hq, t4, Bool.true_and]
  have hats : bt (ats bd (1 - sd) (pfl bd sd t (bsl 1 (nI f))) (pbk sd t)) K = isA (bhB bd sd t f t k) K (1 - sd) := by
    refine ats_e hlt (by omega) hK (fun q hq => ?_) (fun q i hq i1 i2 => ?_) (fun q hq => ?_)
    · rw [hfl q hq]
      by_cases c1 : q = t
      · subst c1; rw [gt]; simp; omega
      · by_cases c2 : q = f
        · subst c2; rw [gf]; simp [n1]
        · by_cases c3 : q = bkN sd t
          · subst c3; rw [gb]; simp [n3]
          · rw [go q c1 c2 c3]; simp [c1, c2, c3]
    · by_cases c1 : q = t
      · subst c1; rw [gt, t2]; omega
      · by_cases c2 : q = f
        · subst c2; rw [gf, e]; omega
        · by_cases c3 : q = bkN sd t
          · subst c3; rw [gb, t5]; omega
          · rw [go q c1 c2 c3]
    · have := hpb q hq
      by_cases c1 : q = t
      · subst c1; rw [gt, t2]; omega
      · by_cases c2 : q = f
        · subst c2; rw [gf, e]; omega
        · by_cases c3 : q = bkN sd t
          · rw [this.mpr c3]; subst c3; rw [gb]; simp
          · rw [go q c1 c2 c3]
            have hfalse : bt (pbk sd t) q = false := by
              cases hh : bt (pbk sd t) q
              · rfl
              · exact absurd (this.mp hh) c3
            rw [hfalse]; simp
  unfold pst
  rw [if_neg ?_]
  · have hkn : ats bd (1 - sd) (pfl bd sd t (bsl 1 (nI f))) (pbk sd t) &&& kngS bd sd = 0 ↔ isA (bhB bd sd t f t k) K (1 - sd) = false := by
      rw [← hats, and0]
      unfold kngS
      constructor
      · intro z
        cases hh : bt (ats bd (1 - sd) (pfl bd sd t (bsl 1 (nI f))) (pbk sd t)) K
        · rfl
        · have := z K hK hh
          rw [sqs_bt hK] at this
          exact absurd hbK (of_decide_eq_false this)
      · intro z q hq hx
        rw [sqs_bt hq]
        refine decide_eq_false (fun w => ?_)
        rw [(hku q hq).mp w, z] at hx
        cases hx
    cases hA : isA (bhB bd sd t f t k) K (1 - sd)
    · rw [if_pos (hkn.mpr hA)]
      exact (bit_b ht ht).mpr rfl
    · rw [if_neg (fun z => by rw [hkn.mp z] at hA; cases hA), bt_0]; rfl
  · rintro (z | z | z)
    · omega
    · have := (and0.mp z) t ht (by rw [bt_and, opw_1 hs hf ht, ← atk_pw hs e, t3, (bit_b ht ht).mpr rfl]; rfl)
      rw [nfl_b (hb t ht) hs ht] at this
      exact (of_decide_eq_false this) t2
    · have := (and0.mp z) (bkN sd t) hbk ((hpb _ hbk).mpr rfl)
      rw [sqs_bt hbk] at this
      exact (of_decide_eq_false this) (by rw [t5]; omega)
/-- a pawn's targets -/
theorem T2 {bd : Nat → Nat} {sd rt ps f t k : Nat} (hb : ∀ q, q < 64 → bd q < 13) (hs : sd < 2) (hps : ps < 65) (hp : plb bd sd = true) (hf : f < 64) (ht : t < 64) (ho : sdN (bd f) = sd) (h1 : kd (bd f) = 1) (hk : k = 0 ∨ (2 ≤ k ∧ k ≤ 5)) (hl : lst bd sd f t = decide (1 < k)) : bt (tgt bd sd rt ps f) t = lgl bd sd rt ps f t k := by
  obtain ⟨hOK, hnt⟩ := plb_ok hb hs hp
  obtain ⟨i, i1, i2, e⟩ := sd_of (hb f hf) ho hs
  have hi : kd (bd f) = i := by rw [e]; exact kd_e hs i1 i2
  have e : bd f = 6 * sd + 1 := by omega
  have hOK' := hOK
  obtain ⟨-, -, hK, hku, -⟩ := hOK'
  have hpre : pre bd sd rt ps f t k = true ↔ sdN (bd t) ≠ sd ∧ pgo bd sd ps f t = true := by
    constructor
    · intro z
      obtain ⟨p1, p2, p3, p4⟩ := pre_go z
      obtain ⟨o1, o2, o3⟩ := gos_of p1
      rw [gos_1 o1 o2 o3 h1] at p1
      exact ⟨o2, p1⟩
    · rintro ⟨a, b⟩
      have hn : f ≠ t := fun z => by rw [← z] at a; exact a ho
      have hk6 : kd (bd t) ≠ 6 := by
        rcases (pgo_ps hs hf ht e).mp b with c | c
        · by_cases s1 : st1 sd f t
          · rw [pgo_1 s1, decide_eq_true_eq] at c; rw [c]; decide
          · by_cases s2 : st2 sd f t
            · rw [pgo_2 s1 s2] at c
              simp only [Bool.and_eq_true, decide_eq_true_eq] at c
              rw [c.2.2]; decide
            · rw [pgo_3 s1 s2, show tps bd sd 64 f t = false from by unfold tps; rw [decide_eq_false (by omega)]; rfl, Bool.or_false, Bool.and_eq_true] at c
              exact fun z => a (hnt f t hf ht ho c.1 z)
        · rw [(tps_of c).2.1]; decide
      unfold pre
      rw [gos_1 ho a hk6 h1, b, decide_eq_false hn, hl, decide_eq_false (show ¬ k = 1 by omega)]
      simp
  have hlgl : lgl bd sd rt ps f t k = true ↔ pre bd sd rt ps f t k = true ∧ isA (bhB bd sd ps f t k) (kgs (bhB bd sd ps f t k) sd) (1 - sd) = false := by unfold lgl; rw [Bool.and_eq_true, Bool.not_eq_true']
  have htg : bt (tgt bd sd rt ps f) t = (bt (ww2 bd sd f) t || bt (pst bd sd ps (bsl 1 (nI f))) t) := by
    unfold tgt; rw [if_neg (by omega), if_pos h1, bt_or]
  have hwy : bt (wys bd sd f) t = true ↔ pgo bd sd 64 f t = true := by
    unfold wys; rw [if_pos h1]; exact pwy_e hb hs hf ht e
  rw [htg, Bool.eq_iff_iff, hlgl, hpre, Bool.or_eq_true, ww2_e (hb t ht) hs hf ht, hwy]
  cases htp : tps bd sd ps f t
  · have hinp : inp bd sd ps f t = false := by unfold inp; rw [htp]; simp
    rw [pst_no hb hs hps hf ht e htp]
    have hps' : pgo bd sd ps f t = true ↔ pgo bd sd 64 f t = true := by rw [pgo_ps hs hf ht e, htp]; simp
    constructor
    · rintro (⟨a, b, c⟩ | z)
      · have hq := hpre.mpr ⟨b, hps'.mpr a⟩
        exact ⟨⟨b, hps'.mpr a⟩, (mv_safe hOK rfl hf ht hk hinp (by omega) hq).mpr c⟩
      · cases z
    · rintro ⟨⟨a, b⟩, c⟩
      exact Or.inl ⟨hps'.mp b, a, (mv_safe hOK rfl hf ht hk hinp (by omega) (hpre.mpr ⟨a, b⟩)).mp c⟩
  · obtain ⟨y1, y2⟩ := pst_yes (k := k) hOK hf ht hk e htp
    obtain ⟨t1, t2, t3, t4, t5⟩ := tps_of htp
    have hpw : pwg sd f t = true := by rw [← atk_pw hs e]; exact t3
    have hno : ¬ pgo bd sd 64 f t = true := by
      obtain ⟨s1, s2⟩ := pwg_s1 hf ht hpw
      rw [pgo_3 s1 s2, show tps bd sd 64 f t = false from by unfold tps; rw [decide_eq_false (by omega)]; rfl, Bool.or_false, Bool.and_eq_true, t2, sd_0, decide_eq_true_eq]
      omega
    have hyes : sdN (bd t) ≠ sd ∧ pgo bd sd ps f t = true := ⟨by rw [t2, sd_0]; omega, (pgo_ps hs hf ht e).mpr (Or.inr htp)⟩
    have hkg := bh_kgs (w := sd) hb hs hs hf ht (show k < 6 by omega) (hpre.mpr hyes) hK
    rw [kgs_eq hkg hK (by rw [y2]; omega), y1, Bool.not_eq_true']
    constructor
    · rintro (z | z)
      · exact absurd z.1 hno
      · exact ⟨hyes, z⟩
    · rintro ⟨-, z⟩; exact Or.inr z

/-! what is played is what stands behind the move -/
/-- a legal move's facts -/
theorem lgl_f {bd : Nat → Nat} {sd rt ps f t k : Nat} (h : lgl bd sd rt ps f t k = true) : gos bd sd rt ps f t = true ∧ f ≠ t ∧ k ≠ 1 ∧ (kd (bd f) ≠ 1 → k = 0 ∨ k = 1) ∧ sdN (bd f) = sd ∧ sdN (bd t) ≠ sd := by
  obtain ⟨p1, p2, p3, p4⟩ := pre_go (lgl_pre h).1
  obtain ⟨o1, o2, -⟩ := gos_of p1
  refine ⟨p1, p2, p3, fun z => ?_, o1, o2⟩
  unfold lst at p4
  rw [decide_eq_false z, Bool.false_and] at p4
  have := of_decide_eq_false p4.symm
  omega
theorem tkn_e {bd : Nat → Nat} {sd rt ps f t : Nat} (hb : ∀ q, q < 64 → bd q < 13) (hs : sd < 2) (hf : f < 64) (ht : t < 64) (hg : gos bd sd rt ps f t = true) : tkn bd f t = if inp bd sd ps f t = true then bkN sd t else t := by
  obtain ⟨o1, o2, o3⟩ := gos_of hg
  unfold tkn
  by_cases h1 : kd (bd f) = 1
  · obtain ⟨j, j1, j2, e⟩ := sd_of (hb f hf) o1 hs
    have e : bd f = 6 * sd + 1 := by have := kd_e hs j1 j2; rw [← e] at this; omega
    by_cases hi : inp bd sd ps f t = true
    · rw [if_pos hi]
      have htp : tps bd sd ps f t = true := by unfold inp at hi; rw [Bool.and_eq_true] at hi; exact hi.2
      obtain ⟨t1, t2, t3, t4, t5⟩ := tps_of htp
      rw [atk_pw hs e] at t3
      obtain ⟨w1, w2⟩ := of_decide_eq_true t3
      have hff : f % 8 ≠ t % 8 := fun z => by rw [ap_0.mpr z] at w1; omega
      rw [if_pos ⟨h1, hff, t2⟩]
      unfold bkN
      by_cases h0 : sd = 0
      · rw [if_pos h0] at w2 ⊢; omega
      · rw [if_neg h0] at w2 ⊢; omega
    · rw [if_neg hi]
      refine if_neg ?_
      rintro ⟨-, h2, h3⟩
      rw [gos_1 o1 o2 o3 h1] at hg
      by_cases s1 : st1 sd f t
      · unfold st1 at s1; omega
      · by_cases s2 : st2 sd f t
        · unfold st2 at s2; omega
        · rw [pgo_3 s1 s2, Bool.or_eq_true, Bool.and_eq_true, h3, sd_0, decide_eq_true_eq] at hg
          rcases hg with hg | hg
          · omega
          · exact hi (by unfold inp; rw [decide_eq_true h1, hg]; rfl)
  · rw [if_neg (fun z => h1 z.1), if_neg]
    unfold inp
    rw [decide_eq_false h1]
    simp
theorem ict_e {bd : Nat → Nat} {sd rt ps f t : Nat} (hf : f < 64) (ht : t < 64) (hg : gos bd sd rt ps f t = true) : ict bd f t = ctl bd f t := by
  by_cases h6 : kd (bd f) = 6
  · have hc : ict bd f t = true ↔ ctl bd f t = true := by
      constructor
      · intro h
        unfold ict at h
        simp only [Bool.and_eq_true, Bool.or_eq_true, decide_eq_true_eq] at h
        obtain ⟨o1, o2, o3⟩ := gos_of hg
        rw [gos_2 o1 o2 o3 (by omega)] at hg
        have hna : atk bd f t = false := by
          rw [atk_6 (by omega) h6]
          refine decide_eq_false (fun z => ?_)
          obtain ⟨z1, z2⟩ := z
          unfold ap at z1 z2
          split at z1 <;> split at z2 <;> omega
        rw [hna, Bool.false_or, Bool.and_eq_true] at hg
        have hc := hg.2
        unfold cas at hc
        rw [Bool.and_eq_true, decide_eq_true_eq] at hc
        unfold ctl
        rw [decide_eq_true h6, Bool.true_and]
        refine decide_eq_true ?_
        unfold ap
        split <;> omega
      · intro h
        obtain ⟨a, b⟩ := ctl_own hg h
        unfold ict
        simp only [Bool.and_eq_true, Bool.or_eq_true, decide_eq_true_eq]
        exact ⟨h6, b⟩
    exact Bool.eq_iff_iff.mpr hc
  · unfold ict ctl
    rw [decide_eq_false h6]
    rfl
theorem inp_n {bd : Nat → Nat} {sd rt ps f t : Nat} (hs : sd < 2) (ht : t < 64) (hg : gos bd sd rt ps f t = true) (hi : inp bd sd ps f t = true) : kd (bd f) = 1 ∧ bkN sd t < 64 ∧ bkN sd t ≠ f ∧ bkN sd t ≠ t ∧ bd (bkN sd t) = 7 - 6 * sd ∧ bd t = 0 := by
  obtain ⟨i1, i2, i3, i4⟩ := inp_pw hi
  have hbl := (bk_e ht (inp_bk hi)).2
  obtain ⟨g1, -, -⟩ := gos_of hg
  refine ⟨i1, hbl, fun z => ?_, fun z => ?_, i2, i3⟩
  · rw [z] at i2
    rw [i2] at g1
    unfold sdN at g1
    (repeat' split at g1) <;> omega
  · rw [z, i3] at i2; omega
theorem plB_e {bd : Nat → Nat} {sd rt ps f t k : Nat} (hb : ∀ q, q < 64 → bd q < 13) (hs : sd < 2) (hf : f < 64) (ht : t < 64) (h : lgl bd sd rt ps f t k = true) : plB bd sd f t k = bhB bd sd ps f t k := by
  obtain ⟨hg, hn, hk1, hkp, ho, hto⟩ := lgl_f h
  have e1 := tkn_e hb hs hf ht hg
  have e2 := ict_e hf ht hg
  by_cases hc : ctl bd f t = true
  · obtain ⟨o1, o2⟩ := ctl_own hg hc
    obtain ⟨c1, c2⟩ := ctl_can hg hc
    obtain ⟨r1, r2, r3, r4⟩ := can_at hs o1 o2 c1
    have hni : inp bd sd ps f t = false := by unfold inp; rw [decide_eq_false (by omega)]; rfl
    have hk0 : k = 0 := by have := hkp (by omega); omega
    rw [hni, if_neg (by decide)] at e1
    have nr : rok f t ≠ f ∧ rok f t ≠ t ∧ rok f t ≠ (f + t) / 2 := by unfold rok; split <;> omega
    have nm : (f + t) / 2 ≠ f ∧ (f + t) / 2 ≠ t := by omega
    unfold plB plB2 plB1 bhB bh2 bh1
    rw [if_pos hk0, if_pos hk0, e1, e2, if_pos hc, if_pos hc, hni, if_neg (by decide)]
    unfold cry
    funext q
    generalize hR : rok f t = R at *
    generalize hM : (f + t) / 2 = M at *
    obtain ⟨nr1, nr2, nr3⟩ := nr
    obtain ⟨nm1, nm2⟩ := nm
    by_cases q1 : q = f
    · rw [q1, upN_eq, upN_ne (Ne.symm nm1), upN_ne (Ne.symm nr1), upN_ne hn, upN_eq]
    · rw [upN_ne q1]
      by_cases q2 : q = t
      · rw [q2, upN_eq, upN_ne (Ne.symm nm2), upN_ne (Ne.symm nr2), upN_eq, upN_ne hn, upN_ne (Ne.symm nr1), upN_ne (Ne.symm nm1)]
      · rw [upN_ne q2, upN_ne q2]
        by_cases q3 : q = M
        · rw [q3, upN_eq, upN_ne (Ne.symm nr3), upN_eq, r1]
        · rw [upN_ne q3]
          by_cases q4 : q = R
          · rw [q4, upN_eq, upN_eq]
          · rw [upN_ne q4, upN_ne q4, upN_ne q3, upN_ne q2, upN_ne q1]
  · have hc' : ctl bd f t = false := by simpa using hc
    unfold plB plB2 plB1 bhB bh2 bh1
    simp only [e2, hc', Bool.false_eq_true, if_false]
    by_cases hi : inp bd sd ps f t = true
    · obtain ⟨i1, i2, i3, i4, i5, i6⟩ := inp_n hs ht hg hi
      rw [if_pos hi] at e1
      rw [if_pos hi, e1]
      unfold cry
      funext q
      by_cases hk : k = 0
      · rw [if_pos hk, if_pos hk]
        by_cases q1 : q = f
        · rw [q1, upN_eq, upN_ne hn, upN_eq]
        · rw [upN_ne q1]
          by_cases q2 : q = t
          · rw [q2, upN_eq, upN_eq, upN_ne (Ne.symm i3)]
          · rw [upN_ne q2, upN_ne q2, upN_ne q1]
      · rw [if_neg hk, if_neg hk]
        by_cases q2 : q = t
        · rw [q2, upN_eq, upN_eq]; omega
        · rw [upN_ne q2, upN_ne q2]
          by_cases q1 : q = f
          · rw [q1, upN_eq, upN_eq]
          · rw [upN_ne q1, upN_ne q2, upN_ne q1]
    · rw [if_neg hi] at e1
      rw [if_neg hi, e1]
      unfold cry
      funext q
      by_cases hk : k = 0
      · rw [if_pos hk, if_pos hk]
        by_cases q1 : q = f
        · rw [q1, upN_eq, upN_ne hn, upN_eq]
        · rw [upN_ne q1]
          by_cases q2 : q = t
          · rw [q2, upN_eq, upN_eq, upN_ne hn]
          · rw [upN_ne q2, upN_ne q2, upN_ne q2, upN_ne q1]
      · rw [if_neg hk, if_neg hk]
        by_cases q2 : q = t
        · rw [q2, upN_eq, upN_eq]; omega
        · rw [upN_ne q2, upN_ne q2]
          by_cases q1 : q = f
          · rw [q1, upN_eq, upN_eq]
          · rw [upN_ne q1, upN_ne q2, upN_ne q2, upN_ne q1]
set_option maxRecDepth 100000 in
theorem an_chk : ((List.range 16).all fun a => (List.range 16).all fun b => decide (15 - (a ||| b) = (15 - a) &&& (15 - b))) = true := by decide +kernel
theorem plR_e (bd : Nat → Nat) (sd rt f t : Nat) : plR bd sd rt f t = bhR bd sd rt f t := by
  have h := of_decide_eq_true (all_lt (all_lt an_chk (crn_lt f)) (crn_lt t))
  unfold plR plR0 bhR bhK
  rw [h]
  split
  · rw [← Nat.and_assoc, Nat.and_assoc (rt &&& (15 - crn f)), Nat.and_comm (15 - crn t), ← Nat.and_assoc, Nat.and_assoc rt, Nat.and_comm (15 - crn f), ← Nat.and_assoc]
  · rw [← Nat.and_assoc]
theorem pss_e {bd : Nat → Nat} {sd rt ps f t k : Nat} (hb : ∀ q, q < 64 → bd q < 13) (hs : sd < 2) (hf : f < 64) (ht : t < 64) (h : lgl bd sd rt ps f t k = true) : pss (bhB bd sd ps f t k) sd (bd f) f t = bhP bd sd ps f t k := by
  obtain ⟨hg, hn, hk1, hkp, ho, hto⟩ := lgl_f h
  unfold pss bhP
  have hc : (kd (bd f) = 1 ∧ (t = f + 16 ∨ f = t + 16)) ↔ (kd (bd f) = 1 ∧ ap (f / 8) (t / 8) = 2) := by
    refine and_congr_right fun h1 => ?_
    obtain ⟨j, j1, j2, e⟩ := sd_of (hb f hf) ho hs
    have e : bd f = 6 * sd + 1 := by have := kd_e hs j1 j2; rw [← e] at this; omega
    constructor
    · intro z; unfold ap; split <;> omega
    · intro z
      obtain ⟨o1, o2, o3⟩ := gos_of hg
      rw [gos_1 o1 o2 o3 h1] at hg
      by_cases s1 : st1 sd f t
      · exfalso; unfold st1 at s1; unfold ap at z; split at z <;> omega
      · by_cases s2 : st2 sd f t
        · unfold st2 at s2; omega
        · exfalso
          have hpw : pwg sd f t = true := by
            rw [pgo_3 s1 s2, Bool.or_eq_true, Bool.and_eq_true, atk_pw hs e] at hg
            rcases hg with p | p
            · exact p.1
            · rw [← atk_pw hs e]; exact (tps_of p).2.2.1
          have := (of_decide_eq_true hpw).2
          unfold ap at z
          split at this <;> split at z <;> omega
  by_cases hh : kd (bd f) = 1 ∧ ap (f / 8) (t / 8) = 2
  · rw [if_pos (hc.mpr hh), if_pos hh]
    have hm : (f + t) / 2 < 64 := by omega
    have hiff : opw (sqs (bhB bd sd ps f t k) (6 * (1 - sd) + 1)) (1 - sd) &&& bsl 1 (nI ((f + t) / 2)) = 0 ↔ tkN (bhB bd sd ps f t k) sd ((f + t) / 2) 64 = false := by
      rw [and_bit hm]
      have : bt (opw (sqs (bhB bd sd ps f t k) (6 * (1 - sd) + 1)) (1 - sd)) ((f + t) / 2) = tkN (bhB bd sd ps f t k) sd ((f + t) / 2) 64 := by
        rw [Bool.eq_iff_iff, opw_e (by omega) hm]
        unfold tkN
        rw [List.any_eq_true]
        constructor
        · rintro ⟨s, a, b, c⟩
          rw [sqs_bt a, decide_eq_true_eq] at b
          refine ⟨s, List.mem_range.mpr a, ?_⟩
          rw [Bool.and_eq_true, decide_eq_true_eq, atk_pw (by omega) b]
          exact ⟨by rw [b]; omega, c⟩
        · rintro ⟨s, a, b⟩
          have a := List.mem_range.mp a
          rw [Bool.and_eq_true, decide_eq_true_eq] at b
          have e : bhB bd sd ps f t k s = 6 * (1 - sd) + 1 := by rw [b.1]; omega
          rw [atk_pw (by omega) e] at b
          exact ⟨s, a, by rw [sqs_bt a]; exact decide_eq_true e, b.2⟩
      rw [this]
    cases htk : tkN (bhB bd sd ps f t k) sd ((f + t) / 2) 64
    · rw [if_pos (hiff.mpr htk), if_neg (by decide)]
    · rw [if_neg (fun z => by rw [hiff.mp z] at htk; cases htk), if_pos rfl]
  · rw [if_neg (fun z => hh (hc.mp z)), if_neg hh]
theorem ict_c {g g' : Nat → Nat} {f t : Nat} (h : g f = g' f) : ict g f t = ict g' f t := by unfold ict; rw [h]
/-- a legal move can be made and taken back -/
theorem GM_e {bd : Nat → Nat} {sd rt ps f t k : Nat} (hb : ∀ q, q < 64 → bd q < 13) (hs : sd < 2) (hf : f < 64) (ht : t < 64) (hk6 : k < 6) (h : lgl bd sd rt ps f t k = true) : GM bd sd f t k := by
  obtain ⟨hg, hn, hk1, hkp, ho, hto⟩ := lgl_f h
  have e1 := tkn_e hb hs hf ht hg
  have e2 := ict_e hf ht hg
  have hpl := plB_e hb hs hf ht h
  have hrk : ict bd f t = true → (t ≤ f → 4 ≤ f) ∧ rok f t < 64 := by
    intro z
    rw [e2] at z
    obtain ⟨o1, o2⟩ := ctl_own hg z
    unfold rok
    constructor
    · omega
    · split <;> omega
  have hbf : k ≠ 0 → bd f = 6 * sd + 1 := by
    intro z
    obtain ⟨j, j1, j2, e⟩ := sd_of (hb f hf) ho hs
    have h3 := kd_e hs j1 j2
    rw [← e] at h3
    by_cases h1 : kd (bd f) = 1
    · omega
    · have := hkp h1; omega
  have hct : k ≠ 0 → ctl bd f t = false := by
    intro z
    unfold ctl
    rw [hbf z, kd_e hs (by omega) (by omega)]
    rfl
  have hgt : bhB bd sd ps f t k t = if k = 0 then bd f else k + 6 * sd := by
    unfold bhB
    by_cases hc : ctl bd f t = true
    · obtain ⟨o1, o2⟩ := ctl_own hg hc
      rw [if_pos hc, upN_ne (by omega), upN_ne (by unfold rok; split <;> omega)]
      unfold bh2
      rw [upN_eq]
    · rw [if_neg hc]; unfold bh2; rw [upN_eq]
  have hgf : bhB bd sd ps f t k f = 0 := by
    unfold bhB
    by_cases hc : ctl bd f t = true
    · obtain ⟨o1, o2⟩ := ctl_own hg hc
      rw [if_pos hc, upN_ne (by omega), upN_ne (by unfold rok; split <;> omega)]
      unfold bh2
      rw [upN_ne hn, upN_eq]
    · rw [if_neg hc]; unfold bh2; rw [upN_ne hn, upN_eq]
  have htf : tbB1 (plB bd sd f t k) sd f t k f = bd f := by
    rw [hpl]
    unfold tbB1 cry
    by_cases hk : k = 0
    · rw [if_pos hk, upN_ne hn, upN_eq, hgt, if_pos hk]
    · rw [if_neg hk, upN_eq, hbf hk]
  refine ⟨hf, ht, hk6, hrk, fun z => hrk (by rw [← ict_c htf]; exact z), fun q hq => ?_⟩
  unfold tbB tbB2
  rw [ict_c htf, e2]
  have ht1 : ∀ q, q ≠ f → q ≠ t → tbB1 (plB bd sd f t k) sd f t k q = bhB bd sd ps f t k q := by
    intro q q1 q2
    rw [hpl]
    unfold tbB1 cry
    by_cases hk : k = 0
    · rw [if_pos hk, upN_ne q2, upN_ne q1]
    · rw [if_neg hk, upN_ne q1, upN_ne q2, upN_ne q1]
  have htt : tbB1 (plB bd sd f t k) sd f t k t = 0 := by
    unfold tbB1 cry
    by_cases hk : k = 0
    · rw [if_pos hk, upN_eq]
    · rw [if_neg hk, upN_ne (Ne.symm hn), upN_eq]
  by_cases hc : ctl bd f t = true
  · obtain ⟨o1, o2⟩ := ctl_own hg hc
    obtain ⟨c1, c2⟩ := ctl_can hg hc
    obtain ⟨r1, r2, r3, r4⟩ := can_at hs o1 o2 c1
    have hni : inp bd sd ps f t = false := by unfold inp; rw [decide_eq_false (by omega)]; rfl
    have hbh : ∀ q, bhB bd sd ps f t k q = upN (upN (bh2 bd sd ps f t k) (rok f t) 0) ((f + t) / 2) (4 + 6 * sd) q := fun q => by unfold bhB; rw [if_pos hc]
    have hb2 : ∀ q, q ≠ f → q ≠ t → bh2 bd sd ps f t k q = bd q := fun q a b => by unfold bh2 bh1; rw [upN_ne b, upN_ne a, hni, if_neg (by decide)]
    rw [hni, if_neg (by decide)] at e1
    rw [e1, if_pos hc]
    have nr : rok f t ≠ f ∧ rok f t ≠ t ∧ rok f t ≠ (f + t) / 2 := by unfold rok; split <;> omega
    have nm : (f + t) / 2 ≠ f ∧ (f + t) / 2 ≠ t := by omega
    by_cases q1 : q = t
    · rw [q1, upN_eq]
    · rw [upN_ne q1]
      unfold cry
      by_cases q2 : q = (f + t) / 2
      · rw [q2, upN_eq, r2]
      · rw [upN_ne q2]
        by_cases q3 : q = rok f t
        · rw [q3, upN_eq, ht1 _ nm.1 nm.2, hbh, upN_eq, r1]
        · rw [upN_ne q3]
          by_cases q4 : q = f
          · rw [q4, htf]
          · rw [ht1 q q4 q1, hbh, upN_ne q2, upN_ne q3, hb2 q q4 q1]
  · rw [if_neg hc]
    have hbh : ∀ q, q ≠ f → q ≠ t → bhB bd sd ps f t k q = bh1 bd sd ps f t q := fun q a b => by unfold bhB; rw [if_neg hc]; unfold bh2; rw [upN_ne b, upN_ne a]
    by_cases hi : inp bd sd ps f t = true
    · obtain ⟨i1, i2, i3, i4, i5, i6⟩ := inp_n hs ht hg hi
      rw [if_pos hi] at e1
      rw [e1]
      by_cases q1 : q = bkN sd t
      · rw [q1, upN_eq]
      · rw [upN_ne q1]
        by_cases q2 : q = f
        · rw [q2, htf]
        · by_cases q3 : q = t
          · rw [q3, htt, i6]
          · rw [ht1 q q2 q3, hbh q q2 q3]; unfold bh1; rw [if_pos hi, upN_ne q1]
    · rw [if_neg hi] at e1
      rw [e1]
      by_cases q1 : q = t
      · rw [q1, upN_eq]
      · rw [upN_ne q1]
        by_cases q2 : q = f
        · rw [q2, htf]
        · rw [ht1 q q2 q1, hbh q q2 q1]; unfold bh1; rw [if_neg hi]
theorem ded_e {bd : Nat → Nat} {sd rt ps f t k : Nat} (hb : ∀ q, q < 64 → bd q < 13) (hs : sd < 2) (hf : f < 64) (ht : t < 64) (h : lgl bd sd rt ps f t k = true) : ded bd f t k = (((if ¬ bd t = 0 ∨ inp bd sd ps f t = true then 1 else 0) + (if inp bd sd ps f t = true then 2 else 0)) + (if ctl bd f t = true then 4 else 0)) + (if k = 0 then 0 else 8) := by
  obtain ⟨hg, hn, hk1, hkp, ho, hto⟩ := lgl_f h
  unfold ded
  rw [tkn_e hb hs hf ht hg, ict_e hf ht hg]
  by_cases hi : inp bd sd ps f t = true
  · obtain ⟨i1, i2, i3, i4, i5, i6⟩ := inp_n hs ht hg hi
    rw [if_pos hi, if_neg (by omega), if_neg i4, if_pos (Or.inr hi), if_pos hi]
  · rw [if_neg hi, if_pos rfl, if_neg hi]
    by_cases h0 : bd t = 0
    · rw [if_pos h0, if_neg (show ¬ (¬ bd t = 0 ∨ inp bd sd ps f t = true) from fun z => z.elim (fun w => w h0) hi)]
    · rw [if_neg h0, if_pos (Or.inl h0)]
theorem plb_next {bd : Nat → Nat} {sd rt ps f t k : Nat} (hb : ∀ q, q < 64 → bd q < 13) (hs : sd < 2) (hp : plb bd sd = true) (hf : f < 64) (ht : t < 64) (hk6 : k < 6) (h : lgl bd sd rt ps f t k = true) : plb (bhB bd sd ps f t k) (1 - sd) = true := by
  obtain ⟨h1, h2⟩ := lgl_pre h
  have k0 := bh_kgs (w := 0) hb hs (by decide) hf ht hk6 h1 (plb_k (by decide) hp)
  have k1 := bh_kgs (w := 1) hb hs (by decide) hf ht hk6 h1 (plb_k (by decide) hp)
  unfold plb
  rw [decide_eq_true k0, decide_eq_true k1, show 1 - (1 - sd) = sd by omega, h2]
  rfl
theorem bhP_lt {bd : Nat → Nat} {sd ps f t k : Nat} (hf : f < 64) (ht : t < 64) : bhP bd sd ps f t k < 65 := by unfold bhP; (repeat' split) <;> omega
theorem knC_e {bd : Nat → Nat} {sd rt ps f t k : Nat} (hb : ∀ q, q < 64 → bd q < 13) (hs : sd < 2) (hr : rt < 16) (hp : plb bd sd = true) (hf : f < 64) (ht : t < 64) (hk6 : k < 6) (h : lgl bd sd rt ps f t k = true) : knC bd sd rt f t k = knd bd sd rt ps f t k := by
  have hpn := plb_next hb hs hp hf ht hk6 h
  have hlt := bh_lt (ps := ps) (t := t) (k := k) hb hs hf hk6
  unfold knC knd
  rw [plB_e hb hs hf ht h, plR_e, pss_e hb hs hf ht h, ded_e hb hs hf ht h, kia_e hlt (by omega) (plb_k (by omega) hpn), tly_e hlt (by omega) (bhR_lt hr) (bhP_lt hf ht) hpn]
theorem cb1_e {bd : Nat → Nat} {sd rt ps y : Nat} (hb : ∀ q, q < 64 → bd q < 13) (hs : sd < 2) (hr : rt < 16) (hp : plb bd sd = true) (h : y ∈ legs bd sd rt ps) : cb1 bd sd rt y = cn1 (nB bd sd ps y) (1 - sd) (nR bd sd rt y) (nP bd sd ps y) := by
  obtain ⟨f, t, k, hf, ht, hk, e, hl⟩ := legs_of h
  obtain ⟨e1, e2, e3, e4, e5⟩ := nB_e (bd := bd) (sd := sd) (ps := ps) hf ht e
  have hpn := plb_next hb hs hp hf ht hk hl
  have hlt := bh_lt (ps := ps) (t := t) (k := k) hb hs hf hk
  unfold cb1 cn1 nR
  rw [e4, e5, e1, e2, e3, plB_e hb hs hf ht hl, plR_e, pss_e hb hs hf ht hl, tly_e hlt (by omega) (bhR_lt hr) (bhP_lt hf ht) hpn]
theorem cb2_e {bd : Nat → Nat} {sd rt ps y : Nat} (hb : ∀ q, q < 64 → bd q < 13) (hs : sd < 2) (hr : rt < 16) (hp : plb bd sd = true) (h : y ∈ legs bd sd rt ps) : cb2 bd sd rt y = cn2 (nB bd sd ps y) (1 - sd) (nR bd sd rt y) (nP bd sd ps y) := by
  obtain ⟨f, t, k, hf, ht, hk, e, hl⟩ := legs_of h
  obtain ⟨e1, e2, e3, e4, e5⟩ := nB_e (bd := bd) (sd := sd) (ps := ps) hf ht e
  have hpn := plb_next hb hs hp hf ht hk hl
  have hlt := bh_lt (ps := ps) (t := t) (k := k) hb hs hf hk
  unfold cb2 cn2 nR
  rw [e4, e5, e1, e2, e3, plB_e hb hs hf ht hl, plR_e, pss_e hb hs hf ht hl, fil_e hlt (by omega) (bhR_lt hr) (bhP_lt hf ht) hpn]
  exact congrArg List.sum (List.map_congr_left fun z hz => cb1_e hlt (by omega) (bhR_lt hr) hpn hz)

/-! pins -/
theorem pnN_sq (bd : Nat → Nat) (sd : Nat) : ∀ n, pnN bd sd n = sqN (pnq bd sd) n
  | 0 => rfl
  | n + 1 => by rw [pnN_s, pnN_sq bd sd n]; rfl
theorem pin_e {bd : Nat → Nat} {sd : Nat} (hb : ∀ q, q < 64 → bd q < 13) (hs : sd < 2) (hp : plb bd sd = true) : pinS bd sd = pnN bd sd 64 := by
  rw [pnN_sq]
  refine sqf_ext (f := pnq bd sd) fun s hs6 => ?_
  have hOK := (plb_ok hb hs hp).1
  generalize hKK : kgs bd sd = K at hOK
  have hOK' := hOK
  obtain ⟨-, -, hK, hku, hkk⟩ := hOK'
  have hv : 1 - sd < 2 := by omega
  have hmem : ∀ u q, u < 8 → q < 64 → (bt (lin bd sd u &&& ownS bd sd) q = true ↔ bt (lin bd sd u) q = true ∧ sdN (bd q) = sd) := fun u q _ hq => by rw [bt_and, Bool.and_eq_true, own_e (hb q hq) hs hq, decide_eq_true_eq]
  rw [Bool.eq_iff_iff]
  unfold pinS
  rw [svN_2]
  unfold pnq mor moq slq
  simp only [Bool.and_eq_true, Bool.not_eq_true', decide_eq_true_eq, decide_eq_false_iff_not, List.any_eq_true, List.mem_range, hKK]
  constructor
  · rintro ⟨u, hu, hh, hp1, hm⟩
    obtain ⟨hl, ho⟩ := (hmem u s hu hs6).mp hm
    obtain ⟨a, -, -, hone⟩ := pop_1.mp hp1
    have hone : ∀ q, q < 64 → bt (lin bd sd u) q = true → sdN (bd q) = sd → q = s := fun q hq c d => by rw [hone q hq ((hmem u q hu hq).mpr ⟨c, d⟩), hone s hs6 hm]
    obtain ⟨j, hj, ej, nj⟩ := (lin_b hb hs hu hs6 hK hku).mp hl
    obtain ⟨m, hm7, am, bm, cm⟩ := (hit_e hb hs hu hK hku).mp hh
    have hsv := slf_sd hv bm
    have hjm : j < m := by
      rcases Nat.lt_trichotomy j m with z | z | z
      · exact z
      · subst z; rw [ej, ho] at hsv; omega
      · exact absurd hsv (nj m z)
    obtain ⟨k, k3, k5, ek⟩ := slf_p bm
    have hin : ∀ i, i ≤ m → bt (lin bd sd u) (goN u (i + 1) K) = true := fun i hi => (lin_b hb hs hu (goN_lt (by omega) am (by omega)) hK hku).mpr ⟨i, by omega, rfl, fun i' hi' => cm i' (by omega)⟩
    have nts : goN u (m + 1) K ≠ s := fun z => by rw [z, ho] at hsv; omega
    refine ⟨ho, ?_, goN u (m + 1) K, am, ⟨hsv, ?_⟩, ?_, ?_⟩
    · intro z
      have : s = K := (hku s hs6).mp (by rw [kd_6 (hb s hs6) ho z]; omega)
      exact goN_ne hu hK hj (by rw [ej]; exact hs6) (by rw [ej]; exact this)
    · rw [ek, kd_e hv (by omega) (by omega)]; omega
    · cases hat : atk bd (goN u (m + 1) K) K
      · rfl
      · obtain ⟨w, hw, m', hm', e', -, c'⟩ := (atk_sl am hK hv k3 k5 ek).mp hat
        have e1 := wyf_e hw hK hm' am e'
        have e2 := wyf_e hu hK hm7 am rfl
        have e3 := (geoA hw hK hm' am e').2.1
        have e4 := (geoA hu hK hm7 am rfl).2.1
        have hwu : w = u := by omega
        have hmm : m' = m := by omega
        subst hwu; subst hmm
        have := c' j hjm
        rw [ej] at this
        rw [this, sd_0] at ho; omega
    · refine (atk_sl (g := upN bd s 0) am hK hv k3 k5 (by rw [upN_ne nts]; exact ek)).mpr ⟨u, hu, m, hm7, rfl, by rw [upN_ne nts]; exact bm, fun i hi => ?_⟩
      by_cases e : goN u (i + 1) K = s
      · rw [e, upN_eq]
      · rw [upN_ne e]
        exact sd_2 hs (fun z => e (hone _ (goN_lt (by omega) am (by omega)) (hin i (by omega)) z)) (cm i hi)
  · rintro ⟨ho, hk6, t, ht, ⟨hsv, h2, h6⟩, hna, hat⟩
    obtain ⟨k, k1, k2, ek⟩ := sd_of (hb t ht) hsv hv
    have hkd : kd (bd t) = k := by rw [ek]; exact kd_e hv k1 k2
    have nts : t ≠ s := fun z => by rw [z, ho] at hsv; omega
    obtain ⟨w, hw, m, hm7, em, bm, cm⟩ := (atk_sl (g := upN bd s 0) (k := k) ht hK hv (by omega) (by omega) (by rw [upN_ne nts]; exact ek)).mp hat
    rw [upN_ne nts] at bm
    have am : goN w (m + 1) K < 64 := by rw [em]; exact ht
    have hor : ∀ j, j < m → goN w (j + 1) K = s ∨ bd (goN w (j + 1) K) = 0 := fun j hj => by
      by_cases e : goN w (j + 1) K = s
      · exact Or.inl e
      · right; rw [← cm j hj, upN_ne e]
    have hex : ∃ j, j < m ∧ goN w (j + 1) K = s := by
      apply Classical.byContradiction
      intro hn
      have : atk bd t K = true := (atk_sl ht hK hv (by omega) (by omega) ek).mpr ⟨w, hw, m, hm7, em, bm, fun j hj => (hor j hj).elim (fun z => absurd ⟨j, hj, z⟩ hn) id⟩
      rw [hna] at this; cases this
    obtain ⟨j, hj, ej⟩ := hex
    have hth : ∀ i, i < m → sdN (bd (goN w (i + 1) K)) ≠ 1 - sd := fun i hi => by
      rcases hor i hi with z | z
      · rw [z, ho]; omega
      · rw [z, sd_0]; omega
    have hh : hit bd sd w = true := (hit_e hb hs hw hK hku).mpr ⟨m, hm7, am, by rw [em]; exact bm, hth⟩
    have hl : bt (lin bd sd w) s = true := (lin_b hb hs hw hs6 hK hku).mpr ⟨j, by omega, ej, fun i hi => hth i (by omega)⟩
    refine ⟨w, hw, hh, pop_1.mpr ⟨s, hs6, (hmem w s hw hs6).mpr ⟨hl, ho⟩, fun q hq hqm => ?_⟩, (hmem w s hw hs6).mpr ⟨hl, ho⟩⟩
    obtain ⟨hql, hqo⟩ := (hmem w q hw hq).mp hqm
    obtain ⟨i, hi, ei, ni⟩ := (lin_b hb hs hw hq hK hku).mp hql
    rcases Nat.lt_trichotomy i m with z | z | z
    · rcases hor i z with y | y
      · rw [← ei]; exact y
      · rw [ei] at y; rw [y, sd_0] at hqo; omega
    · subst z; rw [em] at ei; rw [← ei, hsv] at hqo; omega
    · exact absurd (show sdN (bd (goN w (m + 1) K)) = 1 - sd by rw [em]; exact hsv) (ni m z)
/-! how many moves -/
def sm (F : Nat → Nat) : Nat → Nat
  | 0 => 0
  | n + 1 => sm F n + F n
theorem sm_s (F : Nat → Nat) (n : Nat) : sm F (n + 1) = sm F n + F n := rfl
theorem sm_le {F G : Nat → Nat} : ∀ n, (∀ i, i < n → F i ≤ G i) → sm F n ≤ sm G n
  | 0, _ => Nat.le_refl 0
  | n + 1, h => Nat.add_le_add (sm_le n fun i hi => h i (by omega)) (h n (by omega))
theorem sm_add (F G : Nat → Nat) : ∀ n, sm (fun i => F i + G i) n = sm F n + sm G n
  | 0 => rfl
  | n + 1 => by rw [sm_s, sm_s, sm_s, sm_add F G n]; omega
theorem sm_mul (c : Nat) (F : Nat → Nat) : ∀ n, sm (fun i => c * F i) n = c * sm F n
  | 0 => rfl
  | n + 1 => by rw [sm_s, sm_s, sm_mul c F n, Nat.mul_add]
theorem sm_zero : ∀ n, sm (fun _ => 0) n = 0
  | 0 => rfl
  | n + 1 => by rw [sm_s, sm_zero n]
theorem sm_swap (F : Nat → Nat → Nat) (m : Nat) : ∀ n, sm (fun i => sm (fun j => F i j) m) n = sm (fun j => sm (fun i => F i j) n) m
  | 0 => by show 0 = _; exact (sm_zero m).symm
  | n + 1 => by
    rw [sm_s, sm_swap F m n, ← sm_add]
    rfl
theorem sm_sum (F : Nat → Nat) : ∀ n, ((List.range n).map F).sum = sm F n
  | 0 => rfl
  | n + 1 => by rw [List.range_succ, List.map_append, List.sum_append, sm_sum F n, sm_s]; simp
theorem sm_one (a : Nat) : ∀ n, sm (fun i => if i = a then 1 else 0) n ≤ 1 ∧ (n ≤ a → sm (fun i => if i = a then 1 else 0) n = 0)
  | 0 => ⟨by show 0 ≤ 1; omega, fun _ => rfl⟩
  | n + 1 => by
    obtain ⟨h1, h2⟩ := sm_one a n
    rw [sm_s]
    by_cases e : n = a
    · rw [if_pos e, h2 (by omega)]; exact ⟨by omega, fun z => by omega⟩
    · rw [if_neg e]; exact ⟨by omega, fun z => by rw [h2 (by omega)]⟩
def ctm (bd : Nat → Nat) (sd rt ps f t : Nat) : Nat := (Lft bd sd rt ps f t).length
theorem legs_sm (bd : Nat → Nat) (sd rt ps : Nat) : (legs bd sd rt ps).length = sm (fun f => sm (fun t => ctm bd sd rt ps f t) 64) 64 := by
  rw [legs_fm, len_fm, sm_sum]
  congr 1
  funext f
  rw [len_fm, sm_sum]
  rfl
theorem eek_len (bd : Nat → Nat) (sd rt ps f t k : Nat) : (eek bd sd rt ps f t k).length = if lgl bd sd rt ps f t k = true then 1 else 0 := by unfold eek; split <;> rfl
theorem ctm_e (bd : Nat → Nat) (sd rt ps f t : Nat) : ctm bd sd rt ps f t ≤ (if lst bd sd f t = true then 4 else 1) ∧ (ctm bd sd rt ps f t ≠ 0 → gos bd sd rt ps f t = true ∧ f ≠ t) := by
  have hlen : ctm bd sd rt ps f t = (eek bd sd rt ps f t 0).length + ((eek bd sd rt ps f t 1).length + ((eek bd sd rt ps f t 2).length + ((eek bd sd rt ps f t 3).length + ((eek bd sd rt ps f t 4).length + (eek bd sd rt ps f t 5).length)))) := by
    unfold ctm Lft
    simp only [List.length_append]
  constructor
  · rw [hlen]
    simp only [eek_len]
    rw [lgl_no (k := 1) (Or.inl rfl)]
    cases hl : lst bd sd f t
    · rw [lgl_no (k := 2) (Or.inr (by rw [hl]; decide)), lgl_no (k := 3) (Or.inr (by rw [hl]; decide)), lgl_no (k := 4) (Or.inr (by rw [hl]; decide)), lgl_no (k := 5) (Or.inr (by rw [hl]; decide))]
      simp only [Bool.false_eq_true, if_false]
      split <;> omega
    · rw [lgl_no (k := 0) (Or.inr (by rw [hl]; decide))]
      simp only [Bool.false_eq_true, if_false, if_true]
      (repeat' split) <;> omega
  · intro h
    apply Classical.byContradiction
    intro hn
    apply h
    rw [hlen]
    simp only [eek_len]
    have : ∀ k, lgl bd sd rt ps f t k = false := fun k => by
      cases e : lgl bd sd rt ps f t k
      · rfl
      · exact absurd ⟨(lgl_f e).1, (lgl_f e).2.1⟩ hn
    rw [this 0, this 1, this 2, this 3, this 4, this 5]
    rfl
def pmb (sd f t : Nat) : Bool := (decide (sd = 0 ∧ t = f + 8) || decide (sd ≠ 0 ∧ f = t + 8)) || pwg sd f t
def pm2 (sd f t : Nat) : Bool := decide (sd = 0 ∧ t = f + 16 ∧ f / 8 = 1) || decide (sd ≠ 0 ∧ f = t + 16 ∧ f / 8 = 6)
def lsb (sd t : Nat) : Bool := decide (t / 8 = if sd = 0 then 7 else 0)
def wt (k sd f t : Nat) : Nat := if k = 1 then (if pmb sd f t || pm2 sd f t then (if lsb sd t then 4 else 1) else 0) else if k = 2 then (if kng f t then 1 else 0) else if k = 6 then (if kgg f t || (decide (t = f + 2) || decide (f = t + 2)) then 1 else 0) else if lined f t then 1 else 0
theorem pw_go {bd : Nat → Nat} {sd rt ps f t : Nat} (hb : ∀ q, q < 64 → bd q < 13) (hs : sd < 2) (hf : f < 64) (hg : gos bd sd rt ps f t = true) (h1 : kd (bd f) = 1) : pmb sd f t = true ∨ (pm2 sd f t = true ∧ bd ((f + t) / 2) = 0) := by
  obtain ⟨o1, o2, o3⟩ := gos_of hg
  obtain ⟨j, j1, j2, e⟩ := sd_of (hb f hf) o1 hs
  have e : bd f = 6 * sd + 1 := by have := kd_e hs j1 j2; rw [← e] at this; omega
  rw [gos_1 o1 o2 o3 h1] at hg
  unfold pmb pm2
  simp only [Bool.or_eq_true, decide_eq_true_eq]
  by_cases s1 : st1 sd f t
  · left; left; exact s1
  · by_cases s2 : st2 sd f t
    · right
      rw [pgo_2 s1 s2] at hg
      simp only [Bool.and_eq_true, decide_eq_true_eq] at hg
      refine ⟨?_, hg.2.1⟩
      have h3 := hg.1
      unfold st2 at s2
      rcases s2 with ⟨z, y⟩ | ⟨z, y⟩
      · left; rw [if_pos z] at h3; exact ⟨z, y, h3⟩
      · right; rw [if_neg z] at h3; exact ⟨z, y, h3⟩
    · left; right
      rw [pgo_3 s1 s2, Bool.or_eq_true, Bool.and_eq_true, atk_pw hs e] at hg
      rcases hg with p | p
      · exact p.1
      · rw [← atk_pw hs e]; exact (tps_of p).2.2.1
theorem ctm_wt {bd : Nat → Nat} {sd rt ps f t : Nat} (hb : ∀ q, q < 64 → bd q < 13) (hs : sd < 2) (hf : f < 64) (ht : t < 64) : ctm bd sd rt ps f t ≤ wt (kd (bd f)) sd f t := by
  obtain ⟨c1, c2⟩ := ctm_e bd sd rt ps f t
  by_cases h0 : ctm bd sd rt ps f t = 0
  · rw [h0]; exact Nat.zero_le _
  · obtain ⟨hg, hn⟩ := c2 h0
    obtain ⟨o1, o2, o3⟩ := gos_of hg
    unfold wt
    by_cases h1 : kd (bd f) = 1
    · rw [if_pos h1]
      have hp : (pmb sd f t || pm2 sd f t) = true := by
        rcases pw_go hb hs hf hg h1 with z | z
        · rw [z]; rfl
        · rw [z.1]; simp
      rw [if_pos hp]
      have hl : lst bd sd f t = lsb sd t := by unfold lst lsb; rw [decide_eq_true h1, Bool.true_and]
      rw [hl] at c1
      exact c1
    · rw [if_neg h1]
      have hl : lst bd sd f t = false := by unfold lst; rw [decide_eq_false h1]; rfl
      rw [hl, if_neg (by decide)] at c1
      rw [gos_2 o1 o2 o3 h1] at hg
      by_cases h2 : kd (bd f) = 2
      · rw [if_pos h2]
        rw [decide_eq_false (show ¬ kd (bd f) = 6 by omega), Bool.false_and, Bool.or_false, atk_2 hn h2] at hg
        rw [if_pos (show kng f t = true from hg)]; exact c1
      · rw [if_neg h2]
        by_cases h6 : kd (bd f) = 6
        · rw [if_pos h6]
          rw [decide_eq_true h6, Bool.true_and, Bool.or_eq_true, atk_6 hn h6] at hg
          have : (kgg f t || (decide (t = f + 2) || decide (f = t + 2))) = true := by
            rcases hg with z | z
            · have : kgg f t = true := decide_eq_true ⟨hn, of_decide_eq_true z⟩
              rw [this]; rfl
            · unfold cas at z
              rw [Bool.and_eq_true, decide_eq_true_eq] at z
              rcases z.1.2 with y | y
              · rw [decide_eq_true y]; simp
              · rw [decide_eq_true y]; simp
          rw [if_pos this]; exact c1
        · rw [if_neg h6]
          rw [decide_eq_false h6, Bool.false_and, Bool.or_false] at hg
          have h00 : ¬ kd (bd f) = 0 := fun z => by rw [atk_0 (Or.inl z)] at hg; cases hg
          rw [atk_s h00 hn h1 h2 h6, Bool.and_eq_true] at hg
          rw [if_pos (gz_lined hn hg.1)]; exact c1
set_option maxRecDepth 100000 in
theorem wt_chk : ((List.range 8).all fun k => (List.range 2).all fun sd => (List.range 64).all fun f => decide (sm (fun t => wt k sd f t) 64 ≤ 27)) = true := by decide +kernel
theorem per_f {bd : Nat → Nat} {sd rt ps f : Nat} (hb : ∀ q, q < 64 → bd q < 13) (hs : sd < 2) (hf : f < 64) : sm (fun t => ctm bd sd rt ps f t) 64 ≤ 27 * if sdN (bd f) = sd then 1 else 0 := by
  by_cases ho : sdN (bd f) = sd
  · rw [if_pos ho]
    have h1 := sm_le 64 fun t ht => ctm_wt (rt := rt) (ps := ps) hb hs hf ht
    have hk := kd_lt (hb f hf)
    have h2 := of_decide_eq_true (all_lt (all_lt (all_lt wt_chk (show kd (bd f) < 8 by omega)) hs) hf)
    omega
  · rw [if_neg ho]
    have : sm (fun t => ctm bd sd rt ps f t) 64 ≤ sm (fun _ => 0) 64 := sm_le 64 fun t _ => by
      apply Classical.byContradiction
      intro hn
      have := (ctm_e bd sd rt ps f t).2 (by omega)
      exact ho (gos_of this.1).1
    rw [sm_zero] at this
    omega
def frs (bd : Nat → Nat) (w : Nat) : Nat → Nat → Nat
  | 0, _ => 64
  | n + 1, q => if bd (go1 w q) = 0 then frs bd w n (go1 w q) else go1 w q
theorem frs_e {bd : Nat → Nat} {w : Nat} : ∀ m n q, m < n → (∀ j, j < m → bd (goN w (j + 1) q) = 0) → bd (goN w (m + 1) q) ≠ 0 → frs bd w n q = goN w (m + 1) q
  | m, 0, q, h, _, _ => absurd h (Nat.not_lt_zero m)
  | 0, n + 1, q, _, _, h2 => by
    unfold frs
    rw [if_neg (show ¬ bd (go1 w q) = 0 from h2)]
    rfl
  | m + 1, n + 1, q, h, h1, h2 => by
    unfold frs
    rw [if_pos (show bd (go1 w q) = 0 from h1 0 (by omega))]
    exact frs_e m n (go1 w q) (by omega) (fun j hj => h1 (j + 1) (by omega)) h2
def lnN (bd : Nat → Nat) (f t : Nat) : Nat := if bd f ≠ 0 ∧ lined f t = true ∧ fre bd f t = true then 1 else 0
theorem lnN_le {bd : Nat → Nat} {f t : Nat} (hf : f < 64) (ht : t < 64) : lnN bd f t ≤ sm (fun w => if f = frs bd w 7 t then 1 else 0) 8 := by
  unfold lnN
  split
  · rename_i h
    obtain ⟨h1, h2, h3⟩ := h
    obtain ⟨w, m, hw, hm, hfar, e⟩ := geoB hf ht h2
    have h4 := (fre_w hw ht hm hf e).mp h3
    have h5 := frs_e m 7 t hm h4 (by rw [e]; exact h1)
    rw [e] at h5
    have key : ∀ n, w < n → 1 ≤ sm (fun w => if f = frs bd w 7 t then 1 else 0) n := by
      intro n
      induction n with
      | zero => intro z; omega
      | succ n ih =>
        intro z
        rw [sm_s]
        by_cases e : w = n
        · subst e; rw [if_pos h5.symm]; omega
        · have := ih (by omega); omega
    exact key 8 hw
  · exact Nat.zero_le _
theorem ln_sum {bd : Nat → Nat} {t : Nat} (ht : t < 64) : sm (fun f => lnN bd f t) 64 ≤ 8 := by
  have h1 := sm_le 64 fun f hf => lnN_le (bd := bd) hf ht
  rw [sm_swap] at h1
  have h2 : sm (fun w => sm (fun f => if f = frs bd w 7 t then 1 else 0) 64) 8 ≤ sm (fun _ => 1) 8 := sm_le 8 fun w _ => (sm_one (frs bd w 7 t) 64).1
  have h3 : sm (fun _ => 1) 8 = 8 := by decide
  omega
set_option maxRecDepth 100000 in
theorem ge_chk : ((List.range 2).all fun sd => (List.range 64).all fun f => (List.range 64).all fun t => (!(kgg f t || pmb sd f t) || (lined f t && decide (far f t = 1))) && (!(pm2 sd f t || decide (f = 4 + 56 * sd ∧ (t = f + 2 ∨ f = t + 2))) || (lined f t && (decide (far f t = 2) && (decide (pt f t 1 = (f + t) / 2) && (!pm2 sd f t || !lsb sd t)))))) = true := by decide +kernel
set_option maxRecDepth 100000 in
theorem gs_chk : ((List.range 2).all fun sd => (List.range 64).all fun t => decide (sm (fun f => if kng f t then 1 else 0) 64 ≤ 8) && decide (sm (fun f => if lsb sd t && pmb sd f t then 1 else 0) 64 ≤ if lsb sd t then 3 else 0)) = true := by decide +kernel
theorem gl_chk : ((List.range 2).all fun sd => decide (sm (fun t => if lsb sd t then 3 else 0) 64 = 24)) = true := by decide +kernel
theorem fre_1 {bd : Nat → Nat} {f t : Nat} (h : far f t = 1) : fre bd f t = true := by unfold fre; rw [h]; exact freN_1 bd f t
theorem fre_2 {bd : Nat → Nat} {f t : Nat} (h : far f t = 2) (h1 : bd (pt f t 1) = 0) : fre bd f t = true := by
  unfold fre
  rw [h, freN_s, freN_1, h1]
  rfl
theorem ctm_ln {bd : Nat → Nat} {sd rt ps f t : Nat} (hb : ∀ q, q < 64 → bd q < 13) (hs : sd < 2) (hf : f < 64) (ht : t < 64) : ctm bd sd rt ps f t ≤ ((if kng f t then 1 else 0) + lnN bd f t) + 3 * (if lsb sd t && pmb sd f t then 1 else 0) := by
  obtain ⟨c1, c2⟩ := ctm_e bd sd rt ps f t
  by_cases h0 : ctm bd sd rt ps f t = 0
  · rw [h0]; exact Nat.zero_le _
  · obtain ⟨hg, hn⟩ := c2 h0
    obtain ⟨o1, o2, o3⟩ := gos_of hg
    have hbf : bd f ≠ 0 := fun z => by rw [z, sd_0] at o1; omega
    have hge := all_lt (all_lt (all_lt ge_chk hs) hf) ht
    simp only [Bool.and_eq_true] at hge
    obtain ⟨ge1, ge2⟩ := hge
    have ge1 : (kgg f t || pmb sd f t) = true → lined f t = true ∧ far f t = 1 := fun z => by
      rw [z] at ge1
      simpa using ge1
    have ge2 : (pm2 sd f t || decide (f = 4 + 56 * sd ∧ (t = f + 2 ∨ f = t + 2))) = true → lined f t = true ∧ far f t = 2 ∧ pt f t 1 = (f + t) / 2 ∧ (pm2 sd f t = true → lsb sd t = false) := fun z => by
      rw [z] at ge2
      simp only [Bool.not_true, Bool.false_or, Bool.and_eq_true, decide_eq_true_eq] at ge2
      refine ⟨ge2.1, ge2.2.1, ge2.2.2.1, fun y => ?_⟩
      have := ge2.2.2.2
      rw [y] at this
      simpa using this
    have hln : lined f t = true → fre bd f t = true → lnN bd f t = 1 := fun a b => if_pos ⟨hbf, a, b⟩
    by_cases h1 : kd (bd f) = 1
    · have hl : lst bd sd f t = lsb sd t := by unfold lst lsb; rw [decide_eq_true h1, Bool.true_and]
      rw [hl] at c1
      rcases pw_go hb hs hf hg h1 with z | z
      · obtain ⟨a, b⟩ := ge1 (by rw [z]; simp)
        rw [hln a (fre_1 b), z, Bool.and_true]
        cases e : lsb sd t
        · rw [e] at c1; simp at c1 ⊢; omega
        · rw [e] at c1; simp at c1 ⊢; omega
      · obtain ⟨a, b, c, d⟩ := ge2 (by rw [z.1]; rfl)
        rw [hln a (fre_2 b (by rw [c]; exact z.2))]
        rw [d z.1] at c1
        simp at c1
        omega
    · have hl : lst bd sd f t = false := by unfold lst; rw [decide_eq_false h1]; rfl
      rw [hl, if_neg (by decide)] at c1
      rw [gos_2 o1 o2 o3 h1] at hg
      by_cases h2 : kd (bd f) = 2
      · rw [decide_eq_false (show ¬ kd (bd f) = 6 by omega), Bool.false_and, Bool.or_false, atk_2 hn h2] at hg
        rw [if_pos (show kng f t = true from hg)]; omega
      · by_cases h6 : kd (bd f) = 6
        · rw [decide_eq_true h6, Bool.true_and, Bool.or_eq_true, atk_6 hn h6] at hg
          rcases hg with z | z
          · have : kgg f t = true := decide_eq_true ⟨hn, of_decide_eq_true z⟩
            obtain ⟨a, b⟩ := ge1 (by rw [this]; rfl)
            rw [hln a (fre_1 b)]; omega
          · unfold cas at z
            rw [Bool.and_eq_true, decide_eq_true_eq, Bool.and_eq_true, Bool.and_eq_true] at z
            obtain ⟨a, b, c, d⟩ := ge2 (by rw [decide_eq_true z.1]; simp)
            obtain ⟨r1, r2, r3, r4⟩ := can_at hs z.1.1 z.1.2 z.2.1.1
            rw [hln a (fre_2 b (by rw [c]; exact r2))]; omega
        · rw [decide_eq_false h6, Bool.false_and, Bool.or_false] at hg
          have h00 : ¬ kd (bd f) = 0 := fun z => by rw [atk_0 (Or.inl z)] at hg; cases hg
          rw [atk_s h00 hn h1 h2 h6, Bool.and_eq_true] at hg
          rw [hln (gz_lined hn hg.1) hg.2]; omega
theorem per_t {bd : Nat → Nat} {sd rt ps t : Nat} (hb : ∀ q, q < 64 → bd q < 13) (hs : sd < 2) (ht : t < 64) : sm (fun f => ctm bd sd rt ps f t) 64 + 16 * (if sdN (bd t) = sd then 1 else 0) ≤ 16 + 3 * (if lsb sd t then 3 else 0) := by
  by_cases ho : sdN (bd t) = sd
  · rw [if_pos ho]
    have : sm (fun f => ctm bd sd rt ps f t) 64 ≤ sm (fun _ => 0) 64 := sm_le 64 fun f _ => by
      apply Classical.byContradiction
      intro hn
      have := (ctm_e bd sd rt ps f t).2 (by omega)
      exact (gos_of this.1).2.1 ho
    rw [sm_zero] at this
    omega
  · rw [if_neg ho]
    have h1 := sm_le 64 fun f hf => ctm_ln (rt := rt) (ps := ps) hb hs hf ht
    rw [sm_add, sm_add, sm_mul] at h1
    have h2 := ln_sum (bd := bd) ht
    have h3 := all_lt (all_lt gs_chk hs) ht
    simp only [Bool.and_eq_true, decide_eq_true_eq] at h3 h1
    omega
theorem len_ok : LenOK := by
  intro bd sd rt ps hb hs hps
  rw [legs_sm]
  have h1 := sm_le 64 fun f hf => per_f (rt := rt) (ps := ps) hb hs hf
  rw [sm_mul] at h1
  have h2 := sm_le 64 fun t ht => per_t (rt := rt) (ps := ps) hb hs ht
  rw [sm_add, sm_add, sm_mul, sm_mul, ← sm_swap] at h2
  have h3 := of_decide_eq_true (all_lt gl_chk hs)
  have h4 : sm (fun _ => 16) 64 = 1024 := by decide
  simp only [h4] at h2
  generalize sm (fun f => sm (fun t => ctm bd sd rt ps f t) 64) 64 = X at *
  generalize sm (fun i => if sdN (bd i) = sd then 1 else 0) 64 = N at *
  rw [h3] at h2
  omega

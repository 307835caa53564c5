/-! attacks, way by way -/
def slf (v w p : Nat) : Bool := decide (p = 6 * v + 5) || (if w < 4 then decide (p = 6 * v + 4) else decide (p = 6 * v + 3))
def sAt (g : Nat → Nat) (t v w : Nat) : Prop := ∃ m, m < 7 ∧ goN w (m + 1) t < 64 ∧ slf v w (g (goN w (m + 1) t)) = true ∧ ∀ j, j < m → g (goN w (j + 1) t) = 0
def pwg (v s t : Nat) : Bool := decide (ap (s % 8) (t % 8) = 1 ∧ if v = 0 then t / 8 = s / 8 + 1 else s / 8 = t / 8 + 1)
def kng (s t : Nat) : Bool := decide (ap (s % 8) (t % 8) * ap (s / 8) (t / 8) = 2)
def kgg (s t : Nat) : Bool := decide (s ≠ t ∧ ap (s % 8) (t % 8) < 2 ∧ ap (s / 8) (t / 8) < 2)
def lpf (v p s t : Nat) : Bool := (decide (p = 6 * v + 1) && pwg v s t) || ((decide (p = 6 * v + 2) && kng s t) || (decide (p = 6 * v + 6) && kgg s t))
def lAt (g : Nat → Nat) (t v : Nat) : Prop := ∃ s, s < 64 ∧ lpf v (g s) s t = true
set_option maxRecDepth 100000 in
theorem geoA_chk : ((List.range 8).all fun w => (List.range 64).all fun t => (List.range 7).all fun m => !decide (goN w (m + 1) t < 64) || (lined (goN w (m + 1) t) t && (decide (far (goN w (m + 1) t) t = m + 1) && (((List.range (m + 2)).all fun i => decide (pt (goN w (m + 1) t) t i = goN w (m + 1 - i) t)) && decide ((ap (goN w (m + 1) t % 8) (t % 8) = 0 ∨ ap (goN w (m + 1) t / 8) (t / 8) = 0) ↔ w < 4))))) = true := by decide +kernel
theorem geoA {w t m s : Nat} (hw : w < 8) (ht : t < 64) (hm : m < 7) (hs : s < 64) (e : goN w (m + 1) t = s) : lined s t = true ∧ far s t = m + 1 ∧ (∀ i, i ≤ m + 1 → pt s t i = goN w (m + 1 - i) t) ∧ ((ap (s % 8) (t % 8) = 0 ∨ ap (s / 8) (t / 8) = 0) ↔ w < 4) := by
  have h := all_lt (all_lt (all_lt geoA_chk hw) ht) hm
  rw [e, decide_eq_true hs] at h
  simp only [Bool.not_true, Bool.false_or, Bool.and_eq_true, decide_eq_true_eq] at h
  exact ⟨h.1, h.2.1, fun i hi => of_decide_eq_true (all_lt h.2.2.1 (by omega)), h.2.2.2⟩
set_option maxRecDepth 100000 in
theorem geoB_chk : ((List.range 64).all fun s => (List.range 64).all fun t => !lined s t || (List.range 8).any fun w => decide (goN w (far s t) t = s)) = true := by decide +kernel
theorem geoB {s t : Nat} (hs : s < 64) (ht : t < 64) (h : lined s t = true) : ∃ w m, w < 8 ∧ m < 7 ∧ far s t = m + 1 ∧ goN w (m + 1) t = s := by
  have h1 := all_lt (all_lt geoB_chk hs) ht
  rw [h] at h1
  simp only [Bool.not_true, Bool.false_or] at h1
  obtain ⟨w, hw, h2⟩ := List.any_eq_true.mp h1
  have h2 := of_decide_eq_true h2
  obtain ⟨-, -, h3, h4, -⟩ := pt_all hs ht h
  exact ⟨w, far s t - 1, List.mem_range.mp hw, by omega, by omega, by rw [show far s t - 1 + 1 = far s t by omega]; exact h2⟩
theorem lined_ne {s t : Nat} (h : lined s t = true) : s ≠ t := by
  unfold lined at h
  rw [Bool.and_eq_true] at h
  exact of_decide_eq_true h.1
/-- a line is free of pieces: as the way from its end -/
theorem fre_w {g : Nat → Nat} {w t m s : Nat} (hw : w < 8) (ht : t < 64) (hm : m < 7) (hs : s < 64) (e : goN w (m + 1) t = s) : fre g s t = true ↔ ∀ j, j < m → g (goN w (j + 1) t) = 0 := by
  obtain ⟨h1, h2, h3, h4⟩ := geoA hw ht hm hs e
  constructor
  · intro h j hj
    have := fre_at (i := m - j) h (by omega) (by omega)
    rw [h3 (m - j) (by omega), show m + 1 - (m - j) = j + 1 by omega] at this
    exact this
  · intro h
    unfold fre freN
    refine List.all_eq_true.mpr (fun i hi => ?_)
    have hi := List.mem_range.mp hi
    simp only [Bool.or_eq_true, decide_eq_true_eq, beq_iff_eq]
    by_cases e0 : i = 0
    · exact Or.inl e0
    · right
      rw [h3 i (by omega), show m + 1 - i = (m - i) + 1 by omega]
      exact h (m - i) (by omega)
theorem kd_e {v k : Nat} (hv : v < 2) (h1 : 1 ≤ k) (h2 : k ≤ 6) : kd (6 * v + k) = k := by unfold kd; split <;> omega
theorem sd_e {v k : Nat} (hv : v < 2) (h1 : 1 ≤ k) (h2 : k ≤ 6) : sdN (6 * v + k) = v := by unfold sdN; (repeat' split) <;> omega
theorem sd_of {v p : Nat} (hp : p < 13) (h : sdN p = v) (hv : v < 2) : ∃ k, 1 ≤ k ∧ k ≤ 6 ∧ p = 6 * v + k := by
  unfold sdN at h
  refine ⟨p - 6 * v, ?_⟩
  (repeat' split at h) <;> omega
theorem atk_sl {g : Nat → Nat} {s t v k : Nat} (hs : s < 64) (ht : t < 64) (hv : v < 2) (h3 : 3 ≤ k) (h5 : k ≤ 5) (e : g s = 6 * v + k) : atk g s t = true ↔ ∃ w, w < 8 ∧ ∃ m, m < 7 ∧ goN w (m + 1) t = s ∧ slf v w (g s) = true ∧ ∀ j, j < m → g (goN w (j + 1) t) = 0 := by
  have hk : kd (g s) = k := by rw [e]; exact kd_e hv (by omega) (by omega)
  have hsl : ∀ w, slf v w (g s) = true ↔ (if w < 4 then k ≠ 3 else k ≠ 4) := by
    intro w
    unfold slf
    rw [e]
    by_cases h : w < 4
    · simp only [if_pos h, Bool.or_eq_true, decide_eq_true_eq]; omega
    · simp only [if_neg h, Bool.or_eq_true, decide_eq_true_eq]; omega
  by_cases hn : s = t
  · rw [atk_0 (Or.inr hn)]
    exact ⟨fun h => absurd h (by decide), fun ⟨w, hw, m, hm, h, _⟩ => absurd hn (lined_ne (geoA hw ht hm hs h).1)⟩
  · rw [atk_s (by omega) hn (by omega) (by omega) (by omega), Bool.and_eq_true, hk]
    constructor
    · rintro ⟨h1, h2⟩
      obtain ⟨w, m, hw, hm, hf, hg⟩ := geoB hs ht (gz_lined hn h1)
      obtain ⟨a1, a2, a3, a4⟩ := geoA hw ht hm hs hg
      refine ⟨w, hw, m, hm, hg, (hsl w).mpr ?_, (fre_w hw ht hm hs hg).mp h2⟩
      unfold gz at h1
      by_cases hw4 : w < 4
      · rw [if_pos (a4.mpr hw4)] at h1
        rw [if_pos hw4]
        exact of_decide_eq_true h1
      · rw [if_neg (fun z => hw4 (a4.mp z))] at h1
        rw [if_neg hw4]
        exact (of_decide_eq_true h1).2
    · rintro ⟨w, hw, m, hm, hg, h1, h2⟩
      obtain ⟨a1, a2, a3, a4⟩ := geoA hw ht hm hs hg
      refine ⟨?_, (fre_w hw ht hm hs hg).mpr h2⟩
      have h1 := (hsl w).mp h1
      unfold gz
      by_cases hw4 : w < 4
      · rw [if_pos hw4] at h1
        rw [if_pos (a4.mpr hw4)]
        exact decide_eq_true h1
      · rw [if_neg hw4] at h1
        have hna := fun z => hw4 (a4.mp z)
        rw [if_neg hna]
        refine decide_eq_true ⟨?_, h1⟩
        unfold lined at a1
        simp only [Bool.and_eq_true, Bool.or_eq_true, decide_eq_true_eq] at a1
        rcases a1.2 with (h | h) | h
        · exact absurd (Or.inl (ap_0.mpr h)) hna
        · exact absurd (Or.inr (ap_0.mpr h)) hna
        · exact h
theorem atk_lp {g : Nat → Nat} {s t v k : Nat} (hv : v < 2) (hk : k = 1 ∨ k = 2 ∨ k = 6) (e : g s = 6 * v + k) : atk g s t = lpf v (g s) s t := by
  have hkd : kd (g s) = k := by rw [e]; exact kd_e hv (by omega) (by omega)
  unfold lpf
  by_cases hn : s = t
  · subst hn
    rw [atk_0 (Or.inr rfl)]
    have h0 : ∀ a : Nat, ap a a = 0 := fun a => ap_0.mpr rfl
    unfold pwg kng kgg
    simp [h0]
  · rcases hk with rfl | rfl | rfl
    · unfold atk
      rw [if_neg (by omega), if_pos hkd]
      rw [decide_eq_true (show g s = 6 * v + 1 from e), decide_eq_false (show ¬ g s = 6 * v + 2 by omega), decide_eq_false (show ¬ g s = 6 * v + 6 by omega)]
      unfold pwg
      simp only [Bool.true_and, Bool.false_and, Bool.or_false]
      refine decide_eq_decide.mpr (and_congr_right fun _ => ?_)
      by_cases h : v = 0
      · rw [if_pos (by omega), if_pos h]
      · rw [if_neg (by omega), if_neg h]
    · rw [atk_2 hn hkd]
      rw [decide_eq_false (show ¬ g s = 6 * v + 1 by omega), decide_eq_true (show g s = 6 * v + 2 from e), decide_eq_false (show ¬ g s = 6 * v + 6 by omega)]
      simp only [Bool.true_and, Bool.false_and, Bool.or_false, Bool.false_or]
      rfl
    · rw [atk_6 hn hkd]
      rw [decide_eq_false (show ¬ g s = 6 * v + 1 by omega), decide_eq_false (show ¬ g s = 6 * v + 2 by omega), decide_eq_true (show g s = 6 * v + 6 from e)]
      simp only [Bool.true_and, Bool.false_and, Bool.or_false, Bool.false_or]
      unfold kgg
      exact decide_eq_decide.mpr ⟨fun h => ⟨hn, h⟩, fun h => h.2⟩
theorem lpf_p {v p s t : Nat} (h : lpf v p s t = true) : p = 6 * v + 1 ∨ p = 6 * v + 2 ∨ p = 6 * v + 6 := by
  unfold lpf at h
  simp only [Bool.or_eq_true, Bool.and_eq_true, decide_eq_true_eq] at h
  rcases h with h | h | h
  · exact Or.inl h.1
  · exact Or.inr (Or.inl h.1)
  · exact Or.inr (Or.inr h.1)
theorem slf_p {v w p : Nat} (h : slf v w p = true) : ∃ k, 3 ≤ k ∧ k ≤ 5 ∧ p = 6 * v + k := by
  unfold slf at h
  simp only [Bool.or_eq_true, decide_eq_true_eq] at h
  rcases h with h | h
  · exact ⟨5, by omega, by omega, h⟩
  · split at h
    · exact ⟨4, by omega, by omega, of_decide_eq_true h⟩
    · exact ⟨3, by omega, by omega, of_decide_eq_true h⟩
/-- a square is attacked by a leaper or along a way -/
theorem isA_e {g : Nat → Nat} {t v : Nat} (hb : ∀ q, q < 64 → g q < 13) (hv : v < 2) (ht : t < 64) : isA g t v = true ↔ lAt g t v ∨ ∃ w, w < 8 ∧ sAt g t v w := by
  unfold isA anyN
  rw [List.any_eq_true]
  constructor
  · rintro ⟨s, hs, h⟩
    have hs := List.mem_range.mp hs
    rw [Bool.and_eq_true, decide_eq_true_eq] at h
    obtain ⟨k, k1, k2, e⟩ := sd_of (hb s hs) h.1 hv
    by_cases hk : k = 1 ∨ k = 2 ∨ k = 6
    · left
      exact ⟨s, hs, by rw [← atk_lp hv hk e]; exact h.2⟩
    · right
      obtain ⟨w, hw, m, hm, h1, h2, h3⟩ := (atk_sl hs ht hv (by omega) (by omega) e).mp h.2
      exact ⟨w, hw, m, hm, by rw [h1]; exact hs, by rw [h1]; exact h2, h3⟩
  · rintro (⟨s, hs, h⟩ | ⟨w, hw, m, hm, h1, h2, h3⟩)
    · have hp := lpf_p h
      obtain ⟨k, hk, e⟩ : ∃ k, (k = 1 ∨ k = 2 ∨ k = 6) ∧ g s = 6 * v + k := by
        rcases hp with e | e | e
        · exact ⟨1, by omega, e⟩
        · exact ⟨2, by omega, e⟩
        · exact ⟨6, by omega, e⟩
      refine ⟨s, List.mem_range.mpr hs, ?_⟩
      rw [Bool.and_eq_true, decide_eq_true_eq, atk_lp hv hk e]
      exact ⟨by rw [e]; exact sd_e hv (by omega) (by omega), h⟩
    · obtain ⟨k, k1, k2, e⟩ := slf_p h2
      refine ⟨_, List.mem_range.mpr h1, ?_⟩
      rw [Bool.and_eq_true, decide_eq_true_eq]
      exact ⟨by rw [e]; exact sd_e hv (by omega) (by omega), (atk_sl h1 ht hv k1 k2 e).mpr ⟨w, hw, m, hm, rfl, h2, h3⟩⟩
/-! what keeps unions -/
theorem bsl_or {x y : Int64} {k : Nat} (hk : k < 64) : bsl (x ||| y) (nI k) = bsl x (nI k) ||| bsl y (nI k) := bt_ext fun i hi => by
  rw [bt_or, bt_bsl hk hi, bt_bsl hk hi, bt_bsl hk hi, bt_or]; cases decide (k ≤ i) <;> simp
theorem bsr_or {x y : Int64} {k : Nat} (hk : k < 64) : bsr (x ||| y) (nI k) = bsr x (nI k) ||| bsr y (nI k) := bt_ext fun i hi => by
  rw [bt_or, bt_bsr hk, bt_bsr hk, bt_bsr hk, bt_or]
theorem and_or9 {x y z : Int64} : (x ||| y) &&& z = (x &&& z) ||| (y &&& z) := bt_ext fun i hi => by
  rw [bt_or, bt_and, bt_and, bt_and, bt_or]; cases bt z i <;> simp
theorem or4 {a b c d : Int64} : (a ||| b) ||| (c ||| d) = (a ||| c) ||| (b ||| d) := bt_ext fun i hi => by
  simp only [bt_or]; cases bt a i <;> cases bt b i <;> cases bt c i <;> cases bt d i <;> rfl
theorem opw_or (v : Nat) (x y : Int64) : opw (x ||| y) v = opw x v ||| opw y v := by
  unfold opw
  split
  · rw [and_or9, and_or9, bsl_or (by decide), bsl_or (by decide), or4]
  · rw [and_or9, and_or9, bsr_or (by decide), bsr_or (by decide), or4]
theorem okg_or (x y : Int64) : okg (x ||| y) = okg x ||| okg y := by
  unfold okg
  simp only [and_or9, bsl_or (show 1 < 64 by decide), bsl_or (show 2 < 64 by decide), bsl_or (show 8 < 64 by decide), bsl_or (show 16 < 64 by decide), bsr_or (show 1 < 64 by decide), bsr_or (show 2 < 64 by decide), bsr_or (show 8 < 64 by decide), bsr_or (show 16 < 64 by decide)]
  exact bt_ext fun i _ => by simp only [bt_or]; ac_rfl
theorem okn_or (x y : Int64) : okn (x ||| y) = okn x ||| okn y := by
  unfold okn
  simp only [and_or9, bsl_or (show 1 < 64 by decide), bsl_or (show 2 < 64 by decide), bsl_or (show 8 < 64 by decide), bsl_or (show 16 < 64 by decide), bsr_or (show 1 < 64 by decide), bsr_or (show 2 < 64 by decide), bsr_or (show 8 < 64 by decide), bsr_or (show 16 < 64 by decide)]
  exact bt_ext fun i _ => by simp only [bt_or]; ac_rfl
theorem lin_N {f : Int64 → Int64} (h0 : f 0 = 0) (hf : ∀ x y, f (x ||| y) = f x ||| f y) (p : Nat → Bool) (t : Nat) : ∀ n, (bt (f (sqN p n)) t = true ↔ ∃ s, s < n ∧ p s = true ∧ bt (f (bsl 1 (nI s))) t = true)
  | 0 => by
    show bt (f 0) t = true ↔ _
    rw [h0, bt_0]
    exact ⟨fun h => absurd h (by decide), fun ⟨s, h, _⟩ => absurd h (Nat.not_lt_zero s)⟩
  | n + 1 => by
    have ih := lin_N h0 hf p t n
    unfold sqN
    by_cases h : p n = true
    · rw [if_pos h, hf, bt_or, Bool.or_eq_true, ih]
      constructor
      · rintro (⟨s, h1, h2⟩ | h2)
        · exact ⟨s, by omega, h2⟩
        · exact ⟨n, by omega, h, h2⟩
      · rintro ⟨s, h1, h2, h3⟩
        by_cases e : s = n
        · subst e; exact Or.inr h3
        · exact Or.inl ⟨s, by omega, h2, h3⟩
    · rw [if_neg h, ih]
      constructor
      · rintro ⟨s, h1, h2⟩; exact ⟨s, by omega, h2⟩
      · rintro ⟨s, h1, h2, h3⟩
        by_cases e : s = n
        · subst e; exact absurd h2 h
        · exact ⟨s, by omega, h2, h3⟩
theorem sq_self (x : Int64) : x = sqN (bt x) 64 := sqf_ext (f := bt x) (fun _ _ => rfl)
theorem lin_e {f : Int64 → Int64} (h0 : f 0 = 0) (hf : ∀ x y, f (x ||| y) = f x ||| f y) (x : Int64) (t : Nat) : bt (f x) t = true ↔ ∃ s, s < 64 ∧ bt x s = true ∧ bt (f (bsl 1 (nI s))) t = true := by
  have := lin_N h0 hf (bt x) t 64
  rw [← sq_self] at this
  exact this
set_option maxRecDepth 100000 in
theorem opw_chk : ((List.range 2).all fun v => (List.range 64).all fun s => (List.range 64).all fun t => bt (opw (bsl 1 (nI s)) v) t == pwg v s t) = true := by decide +kernel
set_option maxRecDepth 100000 in
theorem okn_chk : ((List.range 64).all fun s => (List.range 64).all fun t => bt (okn (bsl 1 (nI s))) t == kng s t) = true := by decide +kernel
set_option maxRecDepth 100000 in
theorem okg_chk : ((List.range 64).all fun s => (List.range 64).all fun t => bt (okg (bsl 1 (nI s))) t == kgg s t) = true := by decide +kernel
theorem opw_1 {v s t : Nat} (hv : v < 2) (hs : s < 64) (ht : t < 64) : bt (opw (bsl 1 (nI s)) v) t = pwg v s t := by simpa using all_lt (all_lt (all_lt opw_chk hv) hs) ht
theorem okn_1 {s t : Nat} (hs : s < 64) (ht : t < 64) : bt (okn (bsl 1 (nI s))) t = kng s t := by simpa using all_lt (all_lt okn_chk hs) ht
theorem okg_1 {s t : Nat} (hs : s < 64) (ht : t < 64) : bt (okg (bsl 1 (nI s))) t = kgg s t := by simpa using all_lt (all_lt okg_chk hs) ht
theorem opw_e {x : Int64} {v t : Nat} (hv : v < 2) (ht : t < 64) : bt (opw x v) t = true ↔ ∃ s, s < 64 ∧ bt x s = true ∧ pwg v s t = true := by
  rw [lin_e (f := fun x => opw x v) (by have : v = 0 ∨ v = 1 := by omega
                                        rcases this with rfl | rfl <;> decide +kernel) (opw_or v) x t]
  exact ⟨fun ⟨s, h1, h2, h3⟩ => ⟨s, h1, h2, by rw [← opw_1 hv h1 ht]; exact h3⟩, fun ⟨s, h1, h2, h3⟩ => ⟨s, h1, h2, by show bt (opw _ v) t = true; rw [opw_1 hv h1 ht]; exact h3⟩⟩
theorem okn_e {x : Int64} {t : Nat} (ht : t < 64) : bt (okn x) t = true ↔ ∃ s, s < 64 ∧ bt x s = true ∧ kng s t = true := by
  rw [lin_e (f := okn) (by decide +kernel) okn_or x t]
  exact ⟨fun ⟨s, h1, h2, h3⟩ => ⟨s, h1, h2, by rw [← okn_1 h1 ht]; exact h3⟩, fun ⟨s, h1, h2, h3⟩ => ⟨s, h1, h2, by rw [okn_1 h1 ht]; exact h3⟩⟩
theorem okg_e {x : Int64} {t : Nat} (ht : t < 64) : bt (okg x) t = true ↔ ∃ s, s < 64 ∧ bt x s = true ∧ kgg s t = true := by
  rw [lin_e (f := okg) (by decide +kernel) okg_or x t]
  exact ⟨fun ⟨s, h1, h2, h3⟩ => ⟨s, h1, h2, by rw [← okg_1 h1 ht]; exact h3⟩, fun ⟨s, h1, h2, h3⟩ => ⟨s, h1, h2, by rw [okg_1 h1 ht]; exact h3⟩⟩
theorem sqs_bt {bd : Nat → Nat} {k q : Nat} (hq : q < 64) : bt (sqs bd k) q = decide (bd q = k) := bt_sqf hq
theorem atsN_e {bd : Nat → Nat} {v t : Nat} {full gone : Int64} : ∀ n, (bt (atsN bd v full gone n) t = true ↔ bt (ats0 bd v gone) t = true ∨ ∃ w, w < n ∧ bt (ray (if w < 4 then strS bd v else slaS bd v) full w) t = true)
  | 0 => ⟨fun h => Or.inl h, fun h => h.elim id (fun ⟨w, h, _⟩ => absurd h (Nat.not_lt_zero w))⟩
  | n + 1 => by
    show bt (atsN bd v full gone n ||| _) t = true ↔ _
    rw [bt_or, Bool.or_eq_true, atsN_e n]
    constructor
    · rintro ((h | ⟨w, h1, h2⟩) | h)
      · exact Or.inl h
      · exact Or.inr ⟨w, by omega, h2⟩
      · exact Or.inr ⟨n, by omega, h⟩
    · rintro (h | ⟨w, h1, h2⟩)
      · exact Or.inl (Or.inl h)
      · by_cases e : w = n
        · subst e; exact Or.inr h2
        · exact Or.inl (Or.inr ⟨w, by omega, h2⟩)
/-- what the class sees attacked is attacked on the board g -/
theorem ats_e {bd g : Nat → Nat} {v t : Nat} {full gone : Int64} (hg : ∀ q, q < 64 → g q < 13) (hv : v < 2) (ht : t < 64) (h1 : ∀ q, q < 64 → (bt full q = false ↔ g q = 0)) (h2 : ∀ q k, q < 64 → 2 ≤ k → k ≤ 6 → (bd q = 6 * v + k ↔ g q = 6 * v + k)) (h3 : ∀ q, q < 64 → ((bd q = 6 * v + 1 ∧ bt gone q = false) ↔ g q = 6 * v + 1)) : bt (ats bd v full gone) t = isA g t v := by
  rw [Bool.eq_iff_iff, isA_e hg hv ht]
  unfold ats
  rw [atsN_e]
  have hlp : bt (ats0 bd v gone) t = true ↔ lAt g t v := by
    unfold ats0 lAt lpf
    rw [bt_or, bt_or, Bool.or_eq_true, Bool.or_eq_true, opw_e hv ht, okn_e ht, okg_e ht]
    constructor
    · rintro ((⟨s, a, b, c⟩ | ⟨s, a, b, c⟩) | ⟨s, a, b, c⟩)
      · rw [bt_and, Bool.and_eq_true, sqs_bt a, decide_eq_true_eq, bt_not a, Bool.not_eq_true'] at b
        exact ⟨s, a, by rw [decide_eq_true ((h3 s a).mp b), c]; rfl⟩
      · rw [sqs_bt a, decide_eq_true_eq] at b
        exact ⟨s, a, by rw [decide_eq_true ((h2 s 2 a (by omega) (by omega)).mp b), c]; simp⟩
      · rw [sqs_bt a, decide_eq_true_eq] at b
        exact ⟨s, a, by rw [decide_eq_true ((h2 s 6 a (by omega) (by omega)).mp b), c]; simp⟩
    · rintro ⟨s, a, b⟩
      simp only [Bool.or_eq_true, Bool.and_eq_true, decide_eq_true_eq] at b
      rcases b with b | b | b
      · refine Or.inl (Or.inl ⟨s, a, ?_, b.2⟩)
        have := (h3 s a).mpr b.1
        rw [bt_and, Bool.and_eq_true, sqs_bt a, decide_eq_true_eq, bt_not a, Bool.not_eq_true']
        exact this
      · exact Or.inl (Or.inr ⟨s, a, by rw [sqs_bt a, decide_eq_true_eq]; exact (h2 s 2 a (by omega) (by omega)).mpr b.1, b.2⟩)
      · exact Or.inr ⟨s, a, by rw [sqs_bt a, decide_eq_true_eq]; exact (h2 s 6 a (by omega) (by omega)).mpr b.1, b.2⟩
  have hsl : ∀ w, w < 8 → (bt (ray (if w < 4 then strS bd v else slaS bd v) full w) t = true ↔ sAt g t v (opp w)) := by
    intro w hw
    rw [ray_e hw ht]
    have hs : ∀ q, q < 64 → (bt (if w < 4 then strS bd v else slaS bd v) q = true ↔ slf v (opp w) (g q) = true) := by
      intro q hq
      unfold slf strS slaS
      by_cases h4 : w < 4
      · rw [if_pos h4, if_pos ((opp_4 w hw).mpr h4), bt_or, Bool.or_eq_true, Bool.or_eq_true, sqs_bt hq, sqs_bt hq]
        simp only [decide_eq_true_eq]
        rw [h2 q 4 hq (by omega) (by omega), h2 q 5 hq (by omega) (by omega)]
        exact Or.comm
      · rw [if_neg h4, if_neg (fun z => h4 ((opp_4 w hw).mp z)), bt_or, Bool.or_eq_true, Bool.or_eq_true, sqs_bt hq, sqs_bt hq]
        simp only [decide_eq_true_eq]
        rw [h2 q 3 hq (by omega) (by omega), h2 q 5 hq (by omega) (by omega)]
        exact Or.comm
    constructor
    · rintro ⟨m, a, b, c, d⟩
      exact ⟨m, a, b, (hs _ b).mp c, fun j hj => (h1 _ (goN_lt (by omega) b (by omega))).mp (d j hj)⟩
    · rintro ⟨m, a, b, c, d⟩
      exact ⟨m, a, b, (hs _ b).mpr c, fun j hj => (h1 _ (goN_lt (by omega) b (by omega))).mpr (d j hj)⟩
  rw [hlp]
  refine or_congr_right ⟨?_, ?_⟩
  · rintro ⟨w, hw, h⟩; exact ⟨opp w, opp_lt w hw, (hsl w hw).mp h⟩
  · rintro ⟨w, hw, h⟩
    refine ⟨opp w, opp_lt w hw, (hsl _ (opp_lt w hw)).mpr ?_⟩
    rw [opp_opp w hw]; exact h

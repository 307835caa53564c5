/-! the class's list is the list -/
def eek (bd : Nat → Nat) (sd rt ps f t k : Nat) : List Nat := if lgl bd sd rt ps f t k = true then [f + 64 * t + 4096 * k] else []
def Lft (bd : Nat → Nat) (sd rt ps f t : Nat) : List Nat := eek bd sd rt ps f t 0 ++ (eek bd sd rt ps f t 1 ++ (eek bd sd rt ps f t 2 ++ (eek bd sd rt ps f t 3 ++ (eek bd sd rt ps f t 4 ++ eek bd sd rt ps f t 5))))
theorem eek_e {bd : Nat → Nat} {sd rt ps y k : Nat} (hk : k < 6) : (if lgx bd sd rt ps (6 * y + k) = true then [mvx (6 * y + k)] else []) = eek bd sd rt ps (y / 64) (y % 64) k := by
  unfold eek lgx mvx
  rw [show (6 * y + k) / 384 = y / 64 by omega, show (6 * y + k) / 6 % 64 = y % 64 by omega, show (6 * y + k) % 6 = k by omega]
theorem lgN_6 (bd : Nat → Nat) (sd rt ps y : Nat) : lgN bd sd rt ps (6 * (y + 1)) = lgN bd sd rt ps (6 * y) ++ Lft bd sd rt ps (y / 64) (y % 64) := by
  rw [show 6 * (y + 1) = 6 * y + 0 + 1 + 1 + 1 + 1 + 1 + 1 by omega, lgN_s, lgN_s, lgN_s, lgN_s, lgN_s, lgN_s]
  rw [show 6 * y + 0 + 1 + 1 + 1 + 1 + 1 = 6 * y + 5 by omega, show 6 * y + 0 + 1 + 1 + 1 + 1 = 6 * y + 4 by omega, show 6 * y + 0 + 1 + 1 + 1 = 6 * y + 3 by omega, show 6 * y + 0 + 1 + 1 = 6 * y + 2 by omega, show 6 * y + 0 + 1 = 6 * y + 1 by omega]
  rw [Nat.add_zero, show (if lgx bd sd rt ps (6 * y) = true then [mvx (6 * y)] else []) = eek bd sd rt ps (y / 64) (y % 64) 0 from eek_e (k := 0) (by decide), eek_e (by decide), eek_e (by decide), eek_e (by decide), eek_e (by decide), eek_e (by decide)]
  unfold Lft
  simp only [List.append_assoc]
theorem lgN_fm (bd : Nat → Nat) (sd rt ps : Nat) : ∀ n, lgN bd sd rt ps (6 * n) = (List.range n).flatMap fun y => Lft bd sd rt ps (y / 64) (y % 64)
  | 0 => rfl
  | n + 1 => by rw [lgN_6, lgN_fm bd sd rt ps n, List.range_succ, List.flatMap_append, List.flatMap_cons, List.flatMap_nil, List.append_nil]
theorem fm_congr {L : List Nat} {F G : Nat → List Nat} (h : ∀ x, x ∈ L → F x = G x) : L.flatMap F = L.flatMap G := by
  induction L with
  | nil => rfl
  | cons a L ih => rw [List.flatMap_cons, List.flatMap_cons, h a List.mem_cons_self, ih fun x hx => h x (List.mem_cons_of_mem _ hx)]
theorem fm_map {L : List Nat} {g : Nat → Nat} {F : Nat → List Nat} : (L.map g).flatMap F = L.flatMap fun x => F (g x) := by
  induction L with
  | nil => rfl
  | cons a L ih => rw [List.map_cons, List.flatMap_cons, List.flatMap_cons, ih]
theorem fm_filter {L : List Nat} {p : Nat → Bool} {F : Nat → List Nat} : (L.filter p).flatMap F = L.flatMap fun x => if p x = true then F x else [] := by
  induction L with
  | nil => rfl
  | cons a L ih =>
    rw [List.flatMap_cons]
    by_cases h : p a = true
    · rw [List.filter_cons_of_pos h, List.flatMap_cons, ih, if_pos h]
    · rw [List.filter_cons_of_neg h, ih, if_neg h, List.nil_append]
theorem rng64 (F : Nat → Nat → List Nat) : ∀ n, ((List.range (64 * n)).flatMap fun y => F (y / 64) (y % 64)) = (List.range n).flatMap fun f => (List.range 64).flatMap (F f)
  | 0 => rfl
  | n + 1 => by
    rw [show 64 * (n + 1) = 64 * n + 64 by omega, List.range_add, List.flatMap_append, rng64 F n, show List.range (n + 1) = List.range n ++ [n] from List.range_succ, List.flatMap_append, List.flatMap_cons, List.flatMap_nil, List.append_nil, fm_map]
    congr 1
    refine fm_congr fun x hx => ?_
    have := List.mem_range.mp hx
    rw [show (64 * n + x) / 64 = n by omega, show (64 * n + x) % 64 = x by omega]
theorem legs_fm (bd : Nat → Nat) (sd rt ps : Nat) : legs bd sd rt ps = (List.range 64).flatMap fun f => (List.range 64).flatMap fun t => Lft bd sd rt ps f t := by
  have h := lgN_fm bd sd rt ps 4096
  rw [show 4096 = 64 * 64 from rfl, rng64 (fun f t => Lft bd sd rt ps f t) 64] at h
  exact h
theorem lgl_no {bd : Nat → Nat} {sd rt ps f t k : Nat} (h : k = 1 ∨ lst bd sd f t ≠ decide (1 < k)) : lgl bd sd rt ps f t k = false := by
  cases e : lgl bd sd rt ps f t k
  · rfl
  · obtain ⟨-, -, p3, p4⟩ := pre_go (lgl_pre e).1
    rcases h with h | h
    · exact absurd h p3
    · exact absurd p4 h
theorem Lft_0 {bd : Nat → Nat} {sd rt ps f t : Nat} (h : ∀ k, k < 6 → lgl bd sd rt ps f t k = false) : Lft bd sd rt ps f t = [] := by
  unfold Lft eek
  rw [h 0 (by decide), h 1 (by decide), h 2 (by decide), h 3 (by decide), h 4 (by decide), h 5 (by decide)]
  rfl
theorem Lft_e {bd : Nat → Nat} {sd rt ps f t : Nat} (hb : ∀ q, q < 64 → bd q < 13) (hs : sd < 2) (hr : rt < 16) (hps : ps < 65) (hp : plb bd sd = true) (hf : f < 64) (ht : t < 64) : Lft bd sd rt ps f t = if bt (ownS bd sd) f = true then (if bt (tgt bd sd rt ps f) t = true then amv1 bd f t else []) else [] := by
  rw [own_e (hb f hf) hs hf]
  by_cases ho : sdN (bd f) = sd
  · rw [decide_eq_true ho, if_pos rfl]
    have hK := plb_k (w := sd) hs hp
    by_cases h1 : kd (bd f) = 1
    · cases hl : lst bd sd f t
      · have e0 := T2 (rt := rt) (k := 0) hb hs hps hp hf ht ho h1 (Or.inl rfl) (by rw [hl]; rfl)
        have en : ∀ k, 1 ≤ k → lgl bd sd rt ps f t k = false := fun k hk => lgl_no (by
          by_cases e : k = 1
          · exact Or.inl e
          · right; rw [hl, decide_eq_true (show 1 < k by omega)]; decide)
        by_cases htg : bt (tgt bd sd rt ps f) t = true
        · rw [if_pos htg]
          rw [htg] at e0
          have hns : ¬ (kd (bd f) = 1 ∧ lsr t = true) := by
            rintro ⟨-, hls⟩
            unfold lst at hl
            rw [decide_eq_true h1, Bool.true_and] at hl
            have hl := of_decide_eq_false hl
            have hl : (sd = 0 → t / 8 ≠ 7) ∧ (sd ≠ 0 → t / 8 ≠ 0) := ⟨fun z => by rw [if_pos z] at hl; exact hl, fun z => by rw [if_neg z] at hl; exact hl⟩
            unfold lsr at hls
            simp only [Bool.or_eq_true, decide_eq_true_eq] at hls
            obtain ⟨k, k1, k2, e⟩ := sd_of (hb f hf) ho hs
            have e : bd f = 6 * sd + 1 := by have := kd_e hs k1 k2; rw [← e] at this; omega
            obtain ⟨p1, -, -, -⟩ := pre_go (lgl_pre e0.symm).1
            obtain ⟨o1, o2, o3⟩ := gos_of p1
            rw [gos_1 o1 o2 o3 h1] at p1
            have hpw : ¬ pwg sd f t = true := fun z => by
              have := (of_decide_eq_true z).2
              split at this <;> omega
            by_cases s1 : st1 sd f t
            · unfold st1 at s1; omega
            · by_cases s2 : st2 sd f t
              · unfold st2 at s2; omega
              · rw [pgo_3 s1 s2, Bool.or_eq_true, Bool.and_eq_true, atk_pw hs e] at p1
                rcases p1 with p1 | p1
                · exact hpw p1.1
                · exact hpw (by rw [← atk_pw hs e]; exact (tps_of p1).2.2.1)
          unfold Lft eek amv1
          rw [if_neg hns, ← e0, en 1 (by decide), en 2 (by decide), en 3 (by decide), en 4 (by decide), en 5 (by decide)]
          simp
        · rw [if_neg htg]
          refine Lft_0 fun k _ => ?_
          by_cases e : k = 0
          · subst e; rw [← e0]; simpa using htg
          · exact en k (by omega)
      · have e2 : ∀ k, 2 ≤ k → k ≤ 5 → bt (tgt bd sd rt ps f) t = lgl bd sd rt ps f t k := fun k k2 k5 => T2 hb hs hps hp hf ht ho h1 (Or.inr ⟨k2, k5⟩) (by rw [hl, decide_eq_true (show 1 < k by omega)])
        have e0 : lgl bd sd rt ps f t 0 = false := lgl_no (Or.inr (by rw [hl]; decide))
        have e1 : lgl bd sd rt ps f t 1 = false := lgl_no (Or.inl rfl)
        by_cases htg : bt (tgt bd sd rt ps f) t = true
        · rw [if_pos htg]
          have hls : kd (bd f) = 1 ∧ lsr t = true := by
            refine ⟨h1, ?_⟩
            unfold lst at hl
            rw [decide_eq_true h1, Bool.true_and] at hl
            have hl := of_decide_eq_true hl
            unfold lsr
            simp only [Bool.or_eq_true, decide_eq_true_eq]
            split at hl <;> omega
          unfold Lft eek amv1
          rw [if_pos hls, e0, e1, ← e2 2 (by decide) (by decide), ← e2 3 (by decide) (by decide), ← e2 4 (by decide) (by decide), ← e2 5 (by decide) (by decide), htg]
          simp [prm, List.range_succ]
        · rw [if_neg htg]
          refine Lft_0 fun k hk => ?_
          have : k = 0 ∨ k = 1 ∨ 2 ≤ k := by omega
          rcases this with rfl | rfl | hk2
          · exact e0
          · exact e1
          · rw [← e2 k hk2 (by omega)]; simpa using htg
    · have e0 : bt (tgt bd sd rt ps f) t = lgl bd sd rt ps f t 0 := by
        by_cases h6 : kd (bd f) = 6
        · have : kgs bd sd = f := kgs_eq hK hf (kd_6 (hb f hf) ho h6)
          exact T3 hb hs hr hp this ht
        · exact T1 hb hs hp hf ht ho h1 h6
      have en : ∀ k, 1 ≤ k → lgl bd sd rt ps f t k = false := fun k hk => lgl_no (by
        by_cases e : k = 1
        · exact Or.inl e
        · right; unfold lst; rw [decide_eq_false h1, decide_eq_true (show 1 < k by omega)]; simp)
      by_cases htg : bt (tgt bd sd rt ps f) t = true
      · rw [if_pos htg]
        rw [htg] at e0
        unfold Lft eek amv1
        rw [if_neg (show ¬ (kd (bd f) = 1 ∧ lsr t = true) from fun z => h1 z.1), ← e0, en 1 (by decide), en 2 (by decide), en 3 (by decide), en 4 (by decide), en 5 (by decide)]
        simp
      · rw [if_neg htg]
        refine Lft_0 fun k _ => ?_
        by_cases e : k = 0
        · subst e; rw [← e0]; simpa using htg
        · exact en k (by omega)
  · rw [decide_eq_false ho, if_neg (by decide)]
    refine Lft_0 fun k _ => lgl_0 ?_
    unfold pre
    rw [gos_0 (Or.inl ho)]
    simp
/-- the class's list is the reference's -/
theorem fil_e {bd : Nat → Nat} {sd rt ps : Nat} (hb : ∀ q, q < 64 → bd q < 13) (hs : sd < 2) (hr : rt < 16) (hps : ps < 65) (hp : plb bd sd = true) : fil bd sd rt ps = legs bd sd rt ps := by
  rw [legs_fm]
  unfold fil bl
  rw [fm_filter]
  refine fm_congr fun f hf => ?_
  have hf := List.mem_range.mp hf
  unfold amv bl
  rw [fm_filter]
  by_cases ho : bt (ownS bd sd) f = true
  · rw [if_pos ho]
    refine fm_congr fun t ht => ?_
    rw [Lft_e hb hs hr hps hp hf (List.mem_range.mp ht), if_pos ho]
  · rw [if_neg ho]
    symm
    rw [List.flatMap_eq_nil_iff]
    intro t ht
    rw [Lft_e hb hs hr hps hp hf (List.mem_range.mp ht), if_neg ho]
set_option maxRecDepth 100000 in
theorem ls_chk : ((List.range 64).all fun t => bt (-72057594037927681) t == lsr t) = true := by decide +kernel
theorem pcn_s (p : Nat → Bool) (n : Nat) : pcn p (n + 1) = pcn p n + if p n = true then 1 else 0 := rfl
theorem amv_len (bd : Nat → Nat) (f : Nat) (p : Nat → Bool) : ∀ n, (((List.range n).filter p).flatMap (amv1 bd f)).length = pcn p n + if kd (bd f) = 1 then 3 * pcn (fun t => p t && lsr t) n else 0
  | 0 => by simp [pcn]
  | n + 1 => by
    rw [List.range_succ, List.filter_append, List.flatMap_append, List.length_append, amv_len bd f p n, pcn_s, pcn_s]
    by_cases h : p n = true
    · rw [List.filter_cons_of_pos h, List.filter_nil, List.flatMap_cons, List.flatMap_nil, List.append_nil, if_pos h]
      have hl : (amv1 bd f n).length = 1 + if kd (bd f) = 1 then (if lsr n = true then 3 else 0) else 0 := by
        unfold amv1 prm
        by_cases h1 : kd (bd f) = 1 <;> by_cases h2 : lsr n = true <;> simp [h1, h2]
      rw [hl, h, Bool.true_and]
      by_cases h1 : kd (bd f) = 1 <;> by_cases h2 : lsr n = true <;> simp [h1, h2] <;> omega
    · rw [List.filter_cons_of_neg h, List.filter_nil, List.flatMap_nil, List.length_nil, if_neg h]
      have : p n = false := by simpa using h
      rw [this]
      simp
theorem tl1_e (bd : Nat → Nat) (sd rt ps f : Nat) : (amv bd f (tgt bd sd rt ps f)).length = tl1 bd sd rt ps f := by
  unfold amv bl tl1
  rw [amv_len]
  have : pcn (fun t => bt (tgt bd sd rt ps f) t && lsr t) 64 = pop (tgt bd sd rt ps f &&& (-72057594037927681)) := pcn_congr 64 fun i hi => by
    rw [bt_and]
    have := all_lt ls_chk hi
    simp only [beq_iff_eq] at this
    rw [this]
  rw [this]
  rfl
theorem len_fm {L : List Nat} {F : Nat → List Nat} : (L.flatMap F).length = (L.map fun x => (F x).length).sum := by
  induction L with
  | nil => rfl
  | cons a L ih => rw [List.flatMap_cons, List.length_append, ih, List.map_cons, List.sum_cons]
theorem tly_f (bd : Nat → Nat) (sd rt ps : Nat) : tly bd sd rt ps = (fil bd sd rt ps).length := by
  unfold tly fil
  rw [len_fm]
  congr 1
  exact List.map_congr_left fun f _ => (tl1_e bd sd rt ps f).symm
theorem tly_e {bd : Nat → Nat} {sd rt ps : Nat} (hb : ∀ q, q < 64 → bd q < 13) (hs : sd < 2) (hr : rt < 16) (hps : ps < 65) (hp : plb bd sd = true) : tly bd sd rt ps = (legs bd sd rt ps).length := by rw [tly_f, fil_e hb hs hr hps hp]
/-! no move twice -/
theorem mvx_inj {x y : Nat} (hx : x < 24576) (hy : y < 24576) (h : mvx x = mvx y) : x = y := by
  have a : ∀ z, z < 24576 → mvx z % 64 = z / 384 ∧ mvx z / 64 % 64 = z / 6 % 64 ∧ mvx z / 4096 = z % 6 ∧ z = 384 * (z / 384) + 6 * (z / 6 % 64) + z % 6 := fun z hz => by
    have h1 : z / 384 < 64 := by omega
    have h2 : z / 6 % 64 < 64 := by omega
    have h3 : z % 6 < 6 := by omega
    have h4 : z = 384 * (z / 384) + 6 * (z / 6 % 64) + z % 6 := by omega
    unfold mvx
    generalize z / 384 = p at *
    generalize z / 6 % 64 = q at *
    generalize z % 6 = r at *
    exact ⟨by omega, by rw [show (p + 64 * q + 4096 * r) / 64 = q + 64 * r by omega]; omega, by omega, h4⟩
  have a1 := a x hx
  have a2 := a y hy
  rw [h] at a1
  omega
theorem lgN_nd (bd : Nat → Nat) (sd rt ps : Nat) : ∀ n, n ≤ 24576 → (lgN bd sd rt ps n).Nodup ∧ ∀ y ∈ lgN bd sd rt ps n, ∃ x, x < n ∧ y = mvx x
  | 0, _ => ⟨List.nodup_nil, fun y h => absurd h (List.not_mem_nil)⟩
  | n + 1, hn => by
    obtain ⟨h1, h2⟩ := lgN_nd bd sd rt ps n (by omega)
    rw [lgN_s]
    split
    · constructor
      · rw [List.nodup_append]
        refine ⟨h1, by simp, fun a ha b hb => ?_⟩
        rw [List.mem_singleton] at hb
        obtain ⟨x, hx, e⟩ := h2 a ha
        intro z
        rw [hb, e] at z
        have := mvx_inj (by omega) (by omega) z
        omega
      · intro y hy
        rw [List.mem_append, List.mem_singleton] at hy
        rcases hy with hy | hy
        · obtain ⟨x, hx, e⟩ := h2 y hy; exact ⟨x, by omega, e⟩
        · exact ⟨n, by omega, hy⟩
    · rw [List.append_nil]
      exact ⟨h1, fun y hy => by obtain ⟨x, hx, e⟩ := h2 y hy; exact ⟨x, by omega, e⟩⟩
theorem legs_nd (bd : Nat → Nat) (sd rt ps : Nat) : (legs bd sd rt ps).Nodup := (lgN_nd bd sd rt ps 24576 (Nat.le_refl _)).1
theorem plc_at {L : List Nat} {x : Int32} {i : Nat} (hi : nI (L.getD i 0) = x) (hu : ∀ j, j < L.length → nI (L.getD j 0) = x → j = i) : ∀ n, n ≤ L.length → i < n → plc L x n = nI i
  | 0, _, h => absurd h (Nat.not_lt_zero i)
  | n + 1, hn, h => by
    unfold plc
    by_cases e : nI (L.getD n 0) = x
    · rw [if_pos e, hu n (by omega) e]
    · rw [if_neg e]
      have : i ≠ n := fun z => e (by rw [← z]; exact hi)
      exact plc_at hi hu n (by omega) (by omega)
theorem plc_no {L : List Nat} {x : Int32} : ∀ n, (∀ j, j < n → nI (L.getD j 0) ≠ x) → plc L x n = -1
  | 0, _ => rfl
  | n + 1, h => by unfold plc; rw [if_neg (h n (by omega))]; exact plc_no n fun j hj => h j (by omega)
theorem fpl_at {L : List Nat} {x : Int32} {i : Nat} (hi : nI (L.getD i 0) = x) (hl : i < L.length) (hu : ∀ j, j < L.length → nI (L.getD j 0) = x → j = i) : ∀ m, m ≤ L.length → L.length - m ≤ i → fplN L x m = nI i
  | 0, _, h => by omega
  | m + 1, hm, h => by
    unfold fplN
    by_cases e : nI (L.getD (L.length - (m + 1)) 0) = x
    · rw [if_pos e, hu _ (by omega) e]
    · rw [if_neg e]
      have : i ≠ L.length - (m + 1) := fun z => e (by rw [← z]; exact hi)
      exact fpl_at hi hl hu m (by omega) (by omega)
theorem fpl_no {L : List Nat} {x : Int32} (h : ∀ j, j < L.length → nI (L.getD j 0) ≠ x) : ∀ m, m ≤ L.length → fplN L x m = -1
  | 0, _ => rfl
  | m + 1, hm => by unfold fplN; rw [if_neg (h _ (by omega))]; exact fpl_no h m (by omega)
theorem fpl_e {L : List Nat} {x : Int32} (hnd : L.Nodup) (hlt : ∀ y ∈ L, y < 24576) : fplN L x L.length = plc L x L.length := by
  by_cases h : ∃ i, i < L.length ∧ nI (L.getD i 0) = x
  · obtain ⟨i, hi, e⟩ := h
    have hu : ∀ j, j < L.length → nI (L.getD j 0) = x → j = i := by
      intro j hj e2
      have h1 := hlt _ (getD_mem hi)
      have h2 := hlt _ (getD_mem hj)
      have h3 : L.getD j 0 = L.getD i 0 := (nI_eq (by omega) (by omega)).mp (e2.trans e.symm)
      rw [List.getD_eq_getElem?_getD, List.getD_eq_getElem?_getD, List.getElem?_eq_getElem hi, List.getElem?_eq_getElem hj] at h3
      have hpw := List.pairwise_iff_getElem.mp hnd
      rcases Nat.lt_trichotomy j i with z | z | z
      · exact absurd h3 (hpw j i hj hi z)
      · exact z
      · exact absurd h3.symm (hpw i j hi hj z)
    rw [plc_at e hu L.length (Nat.le_refl _) hi, fpl_at e hi hu L.length (Nat.le_refl _) (by omega)]
  · have hn : ∀ j, j < L.length → nI (L.getD j 0) ≠ x := fun j hj z => h ⟨j, hj, z⟩
    rw [plc_no _ hn, fpl_no hn _ (Nat.le_refl _)]

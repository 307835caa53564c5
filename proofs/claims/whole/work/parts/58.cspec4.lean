/-! checks, pins and targets, as the class finds them -/
def pcn (p : Nat → Bool) : Nat → Nat
  | 0 => 0
  | n + 1 => pcn p n + if p n = true then 1 else 0
def pop (x : Int64) : Nat := pcn (bt x) 64
theorem pcn_le (p : Nat → Bool) : ∀ n, pcn p n ≤ n
  | 0 => Nat.le_refl 0
  | n + 1 => by have := pcn_le p n; unfold pcn; split <;> omega
theorem pop_le (x : Int64) : pop x ≤ 64 := pcn_le _ 64
theorem pcn_cg {p p' : Nat → Bool} : ∀ n, (∀ i, i < n → p i = p' i) → pcn p n = pcn p' n
  | 0, _ => rfl
  | n + 1, h => by unfold pcn; rw [pcn_cg n (fun i hi => h i (by omega)), h n (by omega)]
/-! Long.bitCount counts the bits: byte by byte -/
def vlB : List Nat → Nat
  | [] => 0
  | a :: L => a + 256 * vlB L
def mkB (m : Nat) : Nat → Nat
  | 0 => 0
  | n + 1 => m + 256 * mkB m n
def byB : Nat → Nat → List Nat
  | 0, _ => []
  | n + 1, x => x % 256 :: byB n (x / 256)
theorem vl_by : ∀ n x, x < 256 ^ n → vlB (byB n x) = x
  | 0, x, h => by rw [Nat.pow_zero] at h; show 0 = x; omega
  | n + 1, x, h => by
    show x % 256 + 256 * vlB (byB n (x / 256)) = x
    rw [vl_by n (x / 256) (by rw [Nat.pow_succ] at h; omega)]
    omega
theorem by_len : ∀ n x, (byB n x).length = n
  | 0, _ => rfl
  | n + 1, x => by show (byB n (x / 256)).length + 1 = n + 1; rw [by_len n]
theorem by_lt : ∀ n x, ∀ a ∈ byB n x, a < 256
  | 0, _, a, h => absurd h (List.not_mem_nil)
  | n + 1, x, a, h => by
    rcases List.mem_cons.mp h with e | e
    · rw [e]; omega
    · exact by_lt n _ a e
theorem and_b {p q p' q' : Nat} (h : q < 256) (h' : q' < 256) : (q + 256 * p) &&& (q' + 256 * p') = (q &&& q') + 256 * (p &&& p') := by
  apply Nat.eq_of_testBit_eq
  intro i
  have hq : q &&& q' < 256 := Nat.lt_of_le_of_lt Nat.and_le_left h
  rw [Nat.testBit_and, Nat.add_comm q, Nat.add_comm q', Nat.add_comm (q &&& q'), show 256 = 2 ^ 8 from rfl, Nat.testBit_two_pow_mul_add p h, Nat.testBit_two_pow_mul_add p' h', Nat.testBit_two_pow_mul_add (p &&& p') hq]
  split
  · rw [Nat.testBit_and]
  · rw [Nat.testBit_and]
def alB (a : Nat) : Nat := a - (a / 2 &&& 85)
def beB (a : Nat) : Nat := (a &&& 51) + (a / 4 &&& 51)
def gaB (a : Nat) : Nat := a + a / 16 &&& 15
theorem by1_chk : ((List.range 256).all fun a => decide (128 + a / 2 &&& 85 = a / 2 &&& 85) && (decide (64 + a / 4 &&& 51 = a / 4 &&& 51) && (decide (128 + a / 4 &&& 51 = a / 4 &&& 51) && (decide (192 + a / 4 &&& 51 = a / 4 &&& 51) && (decide (alB a < 256) && (decide (beB a < 256) && (decide (beB (alB a) % 16 ≤ 4) && decide (beB (alB a) / 16 ≤ 4)))))))) = true := by decide +kernel
theorem by2_chk : ((List.range 256).all fun a => (List.range 5).all fun r => !decide (a % 16 ≤ 4 ∧ a / 16 ≤ 4) || (decide ((a + a / 16) + 16 * r &&& 15 = gaB a) && decide ((a + a / 16) + 16 * r < 256))) = true := by decide +kernel
theorem by3_chk : ((List.range 256).all fun a => decide (gaB (beB (alB a)) = pcn (fun i => a.testBit i) 8)) = true := by decide +kernel
theorem stA : ∀ L : List Nat, (∀ a ∈ L, a < 256) → (vlB L / 2 &&& mkB 85 L.length) ≤ vlB L / 2 ∧ vlB L - (vlB L / 2 &&& mkB 85 L.length) = vlB (L.map alB)
  | [], _ => ⟨by decide, rfl⟩
  | a :: L, h => by
    have ha := h a List.mem_cons_self
    obtain ⟨h1, h2⟩ := stA L fun x hx => h x (List.mem_cons_of_mem _ hx)
    have t := all_lt by1_chk ha
    simp only [Bool.and_eq_true, decide_eq_true_eq] at t
    have e : (a + 256 * vlB L) / 2 = (128 * (vlB L % 2) + a / 2) + 256 * (vlB L / 2) := by omega
    have hlow : 128 * (vlB L % 2) + a / 2 &&& 85 = a / 2 &&& 85 := by
      have : vlB L % 2 = 0 ∨ vlB L % 2 = 1 := by omega
      rcases this with z | z <;> rw [z]
      · rw [Nat.mul_zero, Nat.zero_add]
      · exact t.1
    have hand : ((a + 256 * vlB L) / 2 &&& (85 + 256 * mkB 85 L.length)) = (a / 2 &&& 85) + 256 * (vlB L / 2 &&& mkB 85 L.length) := by rw [e, and_b (by omega) (by decide), hlow]
    have hal : a / 2 &&& 85 ≤ a / 2 := Nat.and_le_left
    refine ⟨?_, ?_⟩
    · show (a + 256 * vlB L) / 2 &&& (85 + 256 * mkB 85 L.length) ≤ (a + 256 * vlB L) / 2
      exact Nat.and_le_left
    · show (a + 256 * vlB L) - ((a + 256 * vlB L) / 2 &&& (85 + 256 * mkB 85 L.length)) = alB a + 256 * vlB (L.map alB)
      rw [hand, ← h2]
      unfold alB
      omega
theorem stB : ∀ L : List Nat, (∀ a ∈ L, a < 256) → (vlB L &&& mkB 51 L.length) + (vlB L / 4 &&& mkB 51 L.length) = vlB (L.map beB)
  | [], _ => rfl
  | a :: L, h => by
    have ha := h a List.mem_cons_self
    have h2 := stB L fun x hx => h x (List.mem_cons_of_mem _ hx)
    have t := all_lt by1_chk ha
    simp only [Bool.and_eq_true, decide_eq_true_eq] at t
    have e : (a + 256 * vlB L) / 4 = (64 * (vlB L % 4) + a / 4) + 256 * (vlB L / 4) := by omega
    have hlow : 64 * (vlB L % 4) + a / 4 &&& 51 = a / 4 &&& 51 := by
      have : vlB L % 4 = 0 ∨ vlB L % 4 = 1 ∨ vlB L % 4 = 2 ∨ vlB L % 4 = 3 := by omega
      rcases this with z | z | z | z <;> rw [z]
      · rw [Nat.mul_zero, Nat.zero_add]
      · exact t.2.1
      · exact t.2.2.1
      · exact t.2.2.2.1
    show ((a + 256 * vlB L) &&& (51 + 256 * mkB 51 L.length)) + ((a + 256 * vlB L) / 4 &&& (51 + 256 * mkB 51 L.length)) = beB a + 256 * vlB (L.map beB)
    rw [e, and_b ha (by decide), and_b (by omega) (by decide), hlow, ← h2]
    unfold beB
    omega
theorem vl_16 {L : List Nat} (h : ∀ a ∈ L, a < 256 ∧ a % 16 ≤ 4 ∧ a / 16 ≤ 4) : vlB L % 16 ≤ 4 := by
  cases L with
  | nil => decide
  | cons a L =>
    show (a + 256 * vlB L) % 16 ≤ 4
    have := h a List.mem_cons_self
    omega
theorem stC : ∀ L : List Nat, (∀ a ∈ L, a < 256 ∧ a % 16 ≤ 4 ∧ a / 16 ≤ 4) → (vlB L + vlB L / 16 &&& mkB 15 L.length) = vlB (L.map gaB)
  | [], _ => rfl
  | a :: L, h => by
    have ha := h a List.mem_cons_self
    have hL := fun x hx => h x (List.mem_cons_of_mem _ hx)
    have h2 := stC L hL
    have h16 := vl_16 hL
    have t := all_lt (all_lt by2_chk ha.1) (show vlB L % 16 < 5 by omega)
    rw [decide_eq_true ha.2] at t
    simp only [Bool.not_true, Bool.false_or, Bool.and_eq_true, decide_eq_true_eq] at t
    have e : (a + 256 * vlB L) + (a + 256 * vlB L) / 16 = ((a + a / 16) + 16 * (vlB L % 16)) + 256 * (vlB L + vlB L / 16) := by omega
    show ((a + 256 * vlB L) + (a + 256 * vlB L) / 16 &&& (15 + 256 * mkB 15 L.length)) = gaB a + 256 * vlB (L.map gaB)
    rw [e, and_b t.2 (by decide), t.1, h2]
theorem pcn_add (p : Nat → Bool) (m : Nat) : ∀ n, pcn p (m + n) = pcn p m + pcn (fun i => p (m + i)) n
  | 0 => rfl
  | n + 1 => by
    show pcn p (m + n) + _ = pcn p m + (pcn (fun i => p (m + i)) n + _)
    rw [pcn_add p m n, Nat.add_assoc]
    rfl
theorem pcn_vl : ∀ L : List Nat, (∀ a ∈ L, a < 256) → pcn (fun i => (vlB L).testBit i) (8 * L.length) = ((L.map alB).map beB |>.map gaB).sum
  | [], _ => rfl
  | a :: L, h => by
    have ha := h a List.mem_cons_self
    have h2 := pcn_vl L fun x hx => h x (List.mem_cons_of_mem _ hx)
    have t := of_decide_eq_true (all_lt by3_chk ha)
    have tb : ∀ i, (vlB (a :: L)).testBit i = if i < 8 then a.testBit i else (vlB L).testBit (i - 8) := fun i => by
      show (a + 256 * vlB L).testBit i = _
      rw [Nat.add_comm, show 256 = 2 ^ 8 from rfl, Nat.testBit_two_pow_mul_add _ ha]
    rw [List.length_cons, show 8 * (L.length + 1) = 8 + 8 * L.length by omega, pcn_add]
    simp only [List.map_cons, List.sum_cons]
    rw [← h2, t]
    congr 1
    · exact pcn_cg 8 fun i hi => by rw [tb, if_pos hi]
    · exact pcn_cg _ fun i hi => by rw [tb, if_neg (by omega), Nat.add_sub_cancel_left]
theorem bsr_n {x : Int64} {k : Nat} (hk : k < 64) : (bsr x (nI k)).toBitVec.toNat = x.toBitVec.toNat / 2 ^ k := by
  unfold bsr
  rw [UInt64.toBitVec_toInt64, UInt64.toBitVec_shiftRight, BitVec.ushiftRight_eq', wb_d9 k hk, BitVec.toNat_ushiftRight, Nat.shiftRight_eq_div_pow]
  rfl
theorem ga_le {L : List Nat} (h : ∀ a ∈ L, a < 256) : ∀ p ∈ ((L.map alB).map beB).map gaB, p ≤ 8 := by
  intro p hp
  simp only [List.map_map, List.mem_map] at hp
  obtain ⟨a, ha, rfl⟩ := hp
  have t := of_decide_eq_true (all_lt by3_chk (h a ha))
  show gaB (beB (alB a)) ≤ 8
  rw [t]
  exact pcn_le _ 8
theorem dv_1 {a b : Nat} (h : a ≤ 8) : (a + 256 * b) / 256 = b := by omega
theorem dv_2 {a b c : Nat} (h : a ≤ 16) (h2 : b ≤ 16) : (a + 256 * (b + 256 * c)) / 65536 = c := by omega
theorem dv_4 {a b c d e : Nat} (h : a ≤ 32) (h2 : b ≤ 32) (h3 : c ≤ 32) (h4 : d ≤ 32) : (a + 256 * (b + 256 * (c + 256 * (d + 256 * e)))) / 4294967296 = e := by omega
theorem md_2 {a b X Y : Nat} (h : a + b < 128) : ((a + 256 * X) + (b + 256 * Y)) % 128 = a + b := by omega
theorem bn_2 {a b B : Nat} (h : a ≤ 32) (h2 : b ≤ B) : a + 256 * b ≤ 32 + 256 * B := by omega
theorem lin_d (a b c d e f g h : Nat) : (a + 256 * (b + 256 * (c + 256 * (d + 256 * (e + 256 * (f + 256 * (g + 256 * (h + 256 * 0)))))))) + (b + 256 * (c + 256 * (d + 256 * (e + 256 * (f + 256 * (g + 256 * (h + 256 * 0))))))) = (a + b) + 256 * ((b + c) + 256 * ((c + d) + 256 * ((d + e) + 256 * ((e + f) + 256 * ((f + g) + 256 * ((g + h) + 256 * h)))))) := by omega
theorem lin_e9 (a b c d e f g h : Nat) : ((a + b) + 256 * ((b + c) + 256 * ((c + d) + 256 * ((d + e) + 256 * ((e + f) + 256 * ((f + g) + 256 * ((g + h) + 256 * h))))))) + ((c + d) + 256 * ((d + e) + 256 * ((e + f) + 256 * ((f + g) + 256 * ((g + h) + 256 * h))))) = (a + b + c + d) + 256 * ((b + c + d + e) + 256 * ((c + d + e + f) + 256 * ((d + e + f + g) + 256 * ((e + f + g + h) + 256 * ((f + g + h) + 256 * ((g + h) + 256 * h)))))) := by omega
theorem tr_e9 {X Y Z : Nat} (h : X / 65536 = Y) (h2 : X + Y = Z) : X + X / 65536 = Z := by rw [h]; exact h2
theorem fold_8 (p0 p1 p2 p3 p4 p5 p6 p7 : Nat) (h0 : p0 ≤ 8) (h1 : p1 ≤ 8) (h2 : p2 ≤ 8) (h3 : p3 ≤ 8) (h4 : p4 ≤ 8) (h5 : p5 ≤ 8) (h6 : p6 ≤ 8) (h7 : p7 ≤ 8) : ∃ d e g, vlB [p0, p1, p2, p3, p4, p5, p6, p7] + vlB [p0, p1, p2, p3, p4, p5, p6, p7] / 256 = d ∧ d + d / 65536 = e ∧ e + e / 4294967296 = g ∧ g % 128 = p0 + (p1 + (p2 + (p3 + (p4 + (p5 + (p6 + (p7 + 0))))))) ∧ e < 2 ^ 63 := by
  have e1 : vlB [p0, p1, p2, p3, p4, p5, p6, p7] / 256 = p1 + 256 * (p2 + 256 * (p3 + 256 * (p4 + 256 * (p5 + 256 * (p6 + 256 * (p7 + 256 * 0)))))) := dv_1 h0
  have e0 : vlB [p0, p1, p2, p3, p4, p5, p6, p7] = p0 + 256 * (p1 + 256 * (p2 + 256 * (p3 + 256 * (p4 + 256 * (p5 + 256 * (p6 + 256 * (p7 + 256 * 0))))))) := rfl
  have hd := lin_d p0 p1 p2 p3 p4 p5 p6 p7
  rw [← e0, ← e1] at hd
  have e2 := dv_2 (a := p0 + p1) (b := p1 + p2) (c := (p2 + p3) + 256 * ((p3 + p4) + 256 * ((p4 + p5) + 256 * ((p5 + p6) + 256 * ((p6 + p7) + 256 * p7))))) (Nat.add_le_add h0 h1) (Nat.add_le_add h1 h2)
  have he := lin_e9 p0 p1 p2 p3 p4 p5 p6 p7
  have he := tr_e9 e2 he
  have a32 : ∀ a b c d : Nat, a ≤ 8 → b ≤ 8 → c ≤ 8 → d ≤ 8 → a + b + c + d ≤ 32 := fun a b c d _ _ _ _ => by omega
  have e3 := dv_4 (a := p0 + p1 + p2 + p3) (b := p1 + p2 + p3 + p4) (c := p2 + p3 + p4 + p5) (d := p3 + p4 + p5 + p6) (e := (p4 + p5 + p6 + p7) + 256 * ((p5 + p6 + p7) + 256 * ((p6 + p7) + 256 * p7))) (a32 _ _ _ _ h0 h1 h2 h3) (a32 _ _ _ _ h1 h2 h3 h4) (a32 _ _ _ _ h2 h3 h4 h5) (a32 _ _ _ _ h3 h4 h5 h6)
  refine ⟨_, _, _, hd, he, rfl, ?_, ?_⟩
  · rw [e3, md_2 (by have := a32 _ _ _ _ h0 h1 h2 h3; have := a32 _ _ _ _ h4 h5 h6 h7; omega)]
    clear hd he e0 e1 e2 e3
    omega
  · clear hd he e0 e1 e2 e3
    have b7 : p7 ≤ 32 := Nat.le_trans h7 (by decide)
    have b6 := bn_2 (a := p6 + p7) (by omega) b7
    have b5 := bn_2 (a := p5 + p6 + p7) (by omega) b6
    have b4 := bn_2 (a32 _ _ _ _ h4 h5 h6 h7) b5
    have b3 := bn_2 (a32 _ _ _ _ h3 h4 h5 h6) b4
    have b2 := bn_2 (a32 _ _ _ _ h2 h3 h4 h5) b3
    have b1 := bn_2 (a32 _ _ _ _ h1 h2 h3 h4) b2
    have b0 := bn_2 (a32 _ _ _ _ h0 h1 h2 h3) b1
    exact Nat.lt_of_le_of_lt b0 (by decide)
theorem up_64 {d e g : Nat} (he : d + d / 65536 = e) (hg : e + e / 4294967296 = g) (h : e < 2 ^ 63) : d < 2 ^ 64 ∧ e < 2 ^ 64 ∧ g < 2 ^ 64 := by omega
theorem bcE_pop (x : Int64) : bcE x = nI (pop x) := by
  have hN : x.toBitVec.toNat < 256 ^ 8 := x.toBitVec.isLt
  have hv := vl_by 8 _ hN
  have hl := by_len 8 x.toBitVec.toNat
  have hlt := by_lt 8 x.toBitVec.toNat
  generalize hL : byB 8 x.toBitVec.toNat = L at *
  have m1 : mkB 85 8 = 6148914691236517205 := by decide
  have m2 : mkB 51 8 = 3689348814741910323 := by decide
  have m3 : mkB 15 8 = 1085102592571150095 := by decide
  have sA := stA L hlt
  rw [hl, m1, hv] at sA
  have hA : ∀ a ∈ L.map alB, a < 256 := fun a ha => by
    obtain ⟨b, hb, rfl⟩ := List.mem_map.mp ha
    have t := all_lt by1_chk (hlt b hb)
    simp only [Bool.and_eq_true, decide_eq_true_eq] at t
    exact t.2.2.2.2.1
  have sB := stB (L.map alB) hA
  rw [List.length_map, hl, m2] at sB
  have hB : ∀ a ∈ (L.map alB).map beB, a < 256 ∧ a % 16 ≤ 4 ∧ a / 16 ≤ 4 := fun a ha => by
    obtain ⟨c, hc, rfl⟩ := List.mem_map.mp ha
    obtain ⟨b, hb, rfl⟩ := List.mem_map.mp hc
    have t := all_lt by1_chk (hlt b hb)
    simp only [Bool.and_eq_true, decide_eq_true_eq] at t
    have t2 := all_lt by1_chk (hA _ hc)
    simp only [Bool.and_eq_true, decide_eq_true_eq] at t2
    exact ⟨t2.2.2.2.2.2.1, t.2.2.2.2.2.2.1, t.2.2.2.2.2.2.2⟩
  have sC := stC _ hB
  rw [List.length_map, List.length_map, hl, m3] at sC
  have c1 : (bc1 x).toBitVec.toNat = vlB (L.map alB) := by
    rw [← sA.2]
    unfold bc1
    rw [Int64.toBitVec_sub, BitVec.toNat_sub, Int64.toBitVec_and, BitVec.toNat_and, bsr_n (by decide), show (6148914691236517205 : Int64).toBitVec.toNat = 6148914691236517205 from rfl]
    have := sA.1
    rw [show 2 ^ 1 = 2 from rfl]
    omega
  have hAl : vlB (L.map alB) < 2 ^ 64 := by rw [← c1]; exact (bc1 x).toBitVec.isLt
  have c2 : (bc2 (bc1 x)).toBitVec.toNat = vlB ((L.map alB).map beB) := by
    rw [← sB]
    unfold bc2
    rw [Int64.toBitVec_add, BitVec.toNat_add, Int64.toBitVec_and, BitVec.toNat_and, Int64.toBitVec_and, BitVec.toNat_and, bsr_n (by decide), c1, show (3689348814741910323 : Int64).toBitVec.toNat = 3689348814741910323 from rfl, show 2 ^ 2 = 4 from rfl]
    have a1 : vlB (L.map alB) &&& 3689348814741910323 ≤ 3689348814741910323 := Nat.and_le_right
    have a2 : vlB (L.map alB) / 4 &&& 3689348814741910323 ≤ 3689348814741910323 := Nat.and_le_right
    exact Nat.mod_eq_of_lt (by omega)
  have hBl : vlB ((L.map alB).map beB) ≤ 7378697629483820646 := by
    rw [← sB]
    have a1 : vlB (L.map alB) &&& 3689348814741910323 ≤ 3689348814741910323 := Nat.and_le_right
    have a2 : vlB (L.map alB) / 4 &&& 3689348814741910323 ≤ 3689348814741910323 := Nat.and_le_right
    omega
  have c3 : (bc3 (bc2 (bc1 x))).toBitVec.toNat = vlB (((L.map alB).map beB).map gaB) := by
    rw [← sC]
    unfold bc3
    rw [Int64.toBitVec_and, BitVec.toNat_and, Int64.toBitVec_add, BitVec.toNat_add, bsr_n (by decide), c2, show (1085102592571150095 : Int64).toBitVec.toNat = 1085102592571150095 from rfl, show 2 ^ 4 = 16 from rfl, Nat.mod_eq_of_lt (by omega)]
  have hpop : pop x = (((L.map alB).map beB).map gaB).sum := by
    rw [← pcn_vl L hlt, hl, hv]
    exact pcn_cg 64 fun i _ => rfl
  have hga := ga_le hlt
  rw [hpop]
  have hlen : (((L.map alB).map beB).map gaB).length = 8 := by rw [List.length_map, List.length_map, List.length_map, hl]
  generalize ((L.map alB).map beB).map gaB = P at *
  match P, hlen, hga, c3 with
  | [p0, p1, p2, p3, p4, p5, p6, p7], _, hga, c3 =>
    obtain ⟨d, e, g, hd, he, hg, hm, hg64⟩ := fold_8 p0 p1 p2 p3 p4 p5 p6 p7 (hga _ (by simp)) (hga _ (by simp)) (hga _ (by simp)) (hga _ (by simp)) (hga _ (by simp)) (hga _ (by simp)) (hga _ (by simp)) (hga _ (by simp))
    obtain ⟨d64, e64, hg64⟩ := up_64 he hg hg64
    have c4 : (bc4 (bc3 (bc2 (bc1 x)))).toBitVec.toNat = d := by
      unfold bc4
      rw [Int64.toBitVec_add, BitVec.toNat_add, bsr_n (by decide), c3, show 2 ^ 8 = 256 from rfl, hd, Nat.mod_eq_of_lt d64]
    have c5 : (bc5 (bc4 (bc3 (bc2 (bc1 x))))).toBitVec.toNat = e := by
      unfold bc5
      rw [Int64.toBitVec_add, BitVec.toNat_add, bsr_n (by decide), c4, show 2 ^ 16 = 65536 from rfl, he, Nat.mod_eq_of_lt e64]
    have c6 : (bc6 (bc5 (bc4 (bc3 (bc2 (bc1 x)))))).toBitVec.toNat = g := by
      unfold bc6
      rw [Int64.toBitVec_add, BitVec.toNat_add, bsr_n (by decide), c5, show 2 ^ 32 = 4294967296 from rfl, hg, Nat.mod_eq_of_lt hg64]
    unfold bcE
    apply Int32.toBitVec_inj.mp
    apply BitVec.eq_of_toNat_eq
    rw [Int32.toBitVec_and, BitVec.toNat_and, Int64.toBitVec_toInt32, BitVec.signExtend_eq_setWidth_of_le _ (by decide), BitVec.toNat_setWidth, c6, show (nI 127).toBitVec.toNat = 2 ^ 7 - 1 from rfl, Nat.and_two_pow_sub_one_eq_mod]
    show g % 2 ^ 32 % 2 ^ 7 = (BitVec.ofNat 32 _).toNat
    rw [BitVec.toNat_ofNat]
    rw [show g % 2 ^ 32 % 2 ^ 7 = g % 128 from Nat.mod_mod_of_dvd g (by decide), hm]
    refine (Nat.mod_eq_of_lt (a := p0 + (p1 + (p2 + (p3 + (p4 + (p5 + (p6 + (p7 + 0)))))))) ?_).symm
    rw [← hm]
    exact Nat.lt_of_lt_of_le (Nat.mod_lt _ (by decide)) (by decide)
def ownS (bd : Nat → Nat) (sd : Nat) : Int64 := sosN bd sd 6
def thrS (bd : Nat → Nat) (sd : Nat) : Int64 := sosN bd (1 - sd) 6
def fulS (bd : Nat → Nat) (sd : Nat) : Int64 := ownS bd sd ||| thrS bd sd
def kngS (bd : Nat → Nat) (sd : Nat) : Int64 := sqs bd (6 * sd + 6)
def jlC (ow co l : Int64) : Int64 := if pop (l &&& ow) = 0 then co &&& l else co
def jlP (ow pn l : Int64) : Int64 := if pop (l &&& ow) = 1 then pn ||| (l &&& ow) else pn
def stE (bd : Nat → Nat) (e : Nat) : Int64 := sqs bd (e + 5) ||| sqs bd (e + 4)
def slE (bd : Nat → Nat) (e : Nat) : Int64 := sqs bd (e + 5) ||| sqs bd (e + 3)
def lin (bd : Nat → Nat) (sd w : Nat) : Int64 := ray (kngS bd sd) (thrS bd sd) w
def hit (bd : Nat → Nat) (sd w : Nat) : Bool := !decide (lin bd sd w &&& (if w < 4 then stE bd (6 * (1 - sd)) else slE bd (6 * (1 - sd))) = 0)
def svN (bd : Nat → Nat) (sd : Nat) : Nat → Int64 × Int64
  | 0 => (-1, 0)
  | n + 1 => if hit bd sd n = true then (jlC (ownS bd sd) (svN bd sd n).1 (lin bd sd n), jlP (ownS bd sd) (svN bd sd n).2 (lin bd sd n)) else svN bd sd n
def lep (bd : Nat → Nat) (sd : Nat) : Int64 := (okn (kngS bd sd) &&& sqs bd (6 * (1 - sd) + 2)) ||| (opw (kngS bd sd) sd &&& sqs bd (6 * (1 - sd) + 1))
def covS (bd : Nat → Nat) (sd : Nat) : Int64 := if lep bd sd = 0 then (svN bd sd 8).1 else (svN bd sd 8).1 &&& (if pop (lep bd sd) = 1 then lep bd sd else 0)
def pinS (bd : Nat → Nat) (sd : Nat) : Int64 := (svN bd sd 8).2

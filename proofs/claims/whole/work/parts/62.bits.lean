/-! lowest bits, and lists of bits -/
theorem bt_nat (x : Int64) (i : Nat) : bt x i = x.toBitVec.toNat.testBit i := by unfold bt; rfl
theorem nat_odd : ∀ n : Nat, n ≠ 0 → ∃ m q, n = 2 ^ m * (2 * q + 1) := by
  intro n
  induction n using Nat.strongRecOn with
  | _ n ih =>
    intro h
    by_cases e : n % 2 = 1
    · exact ⟨0, n / 2, by omega⟩
    · obtain ⟨m, q, hm⟩ := ih (n / 2) (by omega) (by omega)
      refine ⟨m + 1, q, ?_⟩
      rw [Nat.pow_succ, Nat.mul_comm (2 ^ m) 2, Nat.mul_assoc, ← hm]
      omega
theorem tb_odd (m q i : Nat) : (2 ^ m * (2 * q + 1)).testBit i = if i < m then false else if i = m then true else q.testBit (i - m - 1) := by
  have h := Nat.testBit_two_pow_mul_add (2 * q + 1) (b := 0) (i := m) (Nat.two_pow_pos m) i
  rw [Nat.add_zero] at h
  rw [h]
  by_cases h1 : i < m
  · rw [if_pos h1, if_pos h1]; exact Nat.zero_testBit i
  · rw [if_neg h1, if_neg h1]
    by_cases h2 : i = m
    · rw [if_pos h2, h2, Nat.sub_self, Nat.testBit_zero]; exact decide_eq_true (by omega)
    · rw [if_neg h2]
      obtain ⟨j, hj⟩ : ∃ j, i - m = j + 1 := ⟨i - m - 1, by omega⟩
      rw [hj, Nat.testBit_succ, show (2 * q + 1) / 2 = q by omega, Nat.add_sub_cancel]
theorem tb_oddp (m q i : Nat) : (2 ^ m * (2 * q + 1) - 1).testBit i = if i < m then true else if i = m then false else q.testBit (i - m - 1) := by
  have hp := Nat.two_pow_pos m
  have e : 2 ^ m * (2 * q + 1) - 1 = 2 ^ m * (2 * q) + (2 ^ m - 1) := by rw [Nat.mul_add, Nat.mul_one]; omega
  rw [e, Nat.testBit_two_pow_mul_add (2 * q) (b := 2 ^ m - 1) (i := m) (by omega) i]
  by_cases h1 : i < m
  · rw [if_pos h1, if_pos h1, Nat.testBit_two_pow_sub_one, decide_eq_true h1]
  · rw [if_neg h1, if_neg h1]
    by_cases h2 : i = m
    · rw [if_pos h2, h2, Nat.sub_self, Nat.testBit_zero]; exact decide_eq_false (by omega)
    · rw [if_neg h2]
      obtain ⟨j, hj⟩ : ∃ j, i - m = j + 1 := ⟨i - m - 1, by omega⟩
      rw [hj, Nat.testBit_succ, show 2 * q / 2 = q by omega, Nat.add_sub_cancel]
theorem low_bit {x : Int64} (h : x ≠ 0) : ∃ m, m < 64 ∧ bt x m = true ∧ (∀ i, i < m → bt x i = false) ∧ x &&& -x = bsl 1 (nI m) ∧ ∀ i, i < 64 → bt (x &&& (x - 1)) i = (bt x i && !decide (i = m)) := by
  have hn : x.toBitVec.toNat ≠ 0 := by
    intro z
    apply h
    apply Int64.toBitVec_inj.mp
    exact BitVec.eq_of_toNat_eq (by rw [z]; rfl)
  obtain ⟨m, q, hm⟩ := nat_odd _ hn
  have hlt : x.toBitVec.toNat < 2 ^ 64 := x.toBitVec.isLt
  have hm64 : m < 64 := by
    rcases Nat.lt_or_ge m 64 with h1 | h1
    · exact h1
    · have h2 : 2 ^ 64 ≤ 2 ^ m := Nat.pow_le_pow_right (by decide) h1
      have h3 : 2 ^ m * 1 ≤ 2 ^ m * (2 * q + 1) := Nat.mul_le_mul_left _ (by omega)
      omega
  have hx : ∀ i, bt x i = if i < m then false else if i = m then true else q.testBit (i - m - 1) := fun i => by rw [bt_nat, hm, tb_odd]
  have hsub : (x - 1).toBitVec.toNat = x.toBitVec.toNat - 1 := by
    rw [Int64.toBitVec_sub, BitVec.toNat_sub, show (1 : Int64).toBitVec.toNat = 1 from rfl]
    omega
  have hy : ∀ i, bt (x - 1) i = if i < m then true else if i = m then false else q.testBit (i - m - 1) := fun i => by rw [bt_nat, hsub, hm, tb_oddp]
  have hneg : -x = (x - 1) ^^^ (-1) := by
    apply Int64.toBitVec_inj.mp
    rw [Int64.toBitVec_neg, Int64.toBitVec_xor, Int64.toBitVec_sub, show (-1 : Int64).toBitVec = BitVec.allOnes 64 from rfl, BitVec.xor_allOnes, show (1 : Int64).toBitVec = 1#64 from rfl]
    apply BitVec.eq_of_toNat_eq
    have := x.toBitVec.isLt
    rw [BitVec.toNat_neg, BitVec.toNat_not, BitVec.toNat_sub, show (1#64).toNat = 1 from rfl]
    omega
  refine ⟨m, hm64, ?_, ?_, ?_, ?_⟩
  · rw [hx, if_neg (by omega), if_pos rfl]
  · intro i hi; rw [hx, if_pos hi]
  · apply bt_ext
    intro i hi
    rw [hneg, bt_and, bt_not hi, hx, hy, bt_1 hm64 hi]
    by_cases h1 : i < m
    · rw [if_pos h1, if_pos h1, decide_eq_false (by omega)]; rfl
    · rw [if_neg h1, if_neg h1]
      by_cases h2 : i = m
      · rw [if_pos h2, if_pos h2, decide_eq_true h2]; rfl
      · rw [if_neg h2, if_neg h2, decide_eq_false h2]; cases q.testBit (i - m - 1) <;> rfl
  · intro i hi
    rw [bt_and, hx, hy]
    by_cases h1 : i < m
    · rw [if_pos h1, if_pos h1]; rfl
    · rw [if_neg h1, if_neg h1]
      by_cases h2 : i = m
      · rw [if_pos h2, if_pos h2, decide_eq_true h2]; rfl
      · rw [if_neg h2, if_neg h2, decide_eq_false h2]; cases q.testBit (i - m - 1) <;> rfl
/-- the bits of a set, the least first -/
def bl (x : Int64) : List Nat := (List.range 64).filter (bt x)
theorem pcn_len (p : Nat → Bool) : ∀ n, pcn p n = ((List.range n).filter p).length
  | 0 => rfl
  | n + 1 => by
    unfold pcn
    rw [List.range_succ, List.filter_append, List.length_append, pcn_len p n]
    by_cases h : p n = true
    · rw [if_pos h, List.filter_cons_of_pos h]; rfl
    · rw [if_neg h, List.filter_cons_of_neg h]; rfl
theorem pop_len (x : Int64) : pop x = (bl x).length := pcn_len _ 64
theorem bl_mem {x : Int64} {i : Nat} : i ∈ bl x ↔ i < 64 ∧ bt x i = true := by unfold bl; rw [List.mem_filter, List.mem_range]
/-- the set without its i least bits -/
def rmb (x : Int64) : Nat → Int64
  | 0 => x
  | n + 1 => rmb x n &&& (rmb x n - 1)
theorem filter_low {p p' : Nat → Bool} {n m : Nat} (hm : m < n) (h1 : p m = true) (h2 : ∀ i, i < m → p i = false) (h3 : ∀ i, i < n → p' i = (p i && !decide (i = m))) : (List.range n).filter p = m :: (List.range n).filter p' := by
  have e : List.range n = List.range m ++ (m :: (List.range' (m + 1) (n - m - 1))) := by
    rw [List.range_eq_range', List.range_eq_range']
    have : n = m + (1 + (n - m - 1)) := by omega
    conv => lhs; rw [this]
    rw [← List.range'_append_1, ← List.range'_append_1]
    simp [List.range']
  have z : (List.range m).filter p = [] := List.filter_eq_nil_iff.mpr (fun a ha => by rw [h2 a (List.mem_range.mp ha)]; decide)
  have z' : (List.range m).filter p' = [] := List.filter_eq_nil_iff.mpr (fun a ha => by have hl := List.mem_range.mp ha; rw [h3 a (by omega), h2 a hl]; simp)
  rw [e, List.filter_append, List.filter_append, z, z', List.nil_append, List.nil_append, List.filter_cons_of_pos h1, List.filter_cons_of_neg (by rw [h3 m hm, decide_eq_true rfl]; simp)]
  congr 1
  apply List.filter_congr
  intro a ha
  have hr := List.mem_range'_1.mp ha
  rw [h3 a (by omega), decide_eq_false (by omega)]
  simp
theorem bl_low {x : Int64} (h : x ≠ 0) : ∃ m, m < 64 ∧ x &&& -x = bsl 1 (nI m) ∧ bl x = m :: bl (x &&& (x - 1)) := by
  obtain ⟨m, h1, h2, h3, h4, h5⟩ := low_bit h
  exact ⟨m, h1, h4, filter_low h1 h2 h3 h5⟩
theorem bl_0 : bl 0 = [] := by unfold bl; exact List.filter_eq_nil_iff.mpr (fun a _ => by rw [bt_0]; decide)
theorem bl_rmb (x : Int64) : ∀ i, bl (rmb x i) = (bl x).drop i
  | 0 => rfl
  | i + 1 => by
    show bl (rmb x i &&& (rmb x i - 1)) = _
    by_cases h : rmb x i = 0
    · have h1 := bl_rmb x i
      rw [h, bl_0] at h1
      rw [h, Int64.zero_and, bl_0, ← List.drop_drop, ← h1]; rfl
    · obtain ⟨m, -, -, h3⟩ := bl_low h
      have h1 := bl_rmb x i
      rw [h3] at h1
      rw [← List.drop_drop, ← h1]; rfl
set_option maxRecDepth 100000 in
theorem pop_chk : ((List.range 64).all fun m => pop (bsl 1 (nI m) - 1) == m) = true := by decide +kernel
theorem sq_low {x : Int64} {i : Nat} (h : i < pop x) : bcE ((rmb x i &&& -rmb x i) - 1) = nI ((bl x).getD i 0) ∧ (bl x).getD i 0 < 64 ∧ bt x ((bl x).getD i 0) = true ∧ rmb x i &&& -rmb x i = bsl 1 (nI ((bl x).getD i 0)) := by
  rw [pop_len] at h
  have hd := bl_rmb x i
  rw [List.drop_eq_getElem_cons h] at hd
  have hne : rmb x i ≠ 0 := by intro z; rw [z, bl_0] at hd; cases hd
  obtain ⟨m, h1, h2, h3⟩ := bl_low hne
  rw [h3] at hd
  have hm : m = (bl x)[i] := (List.cons.inj hd).1
  have hg : (bl x).getD i 0 = (bl x)[i] := by rw [List.getD_eq_getElem?_getD, List.getElem?_eq_getElem h]; rfl
  rw [hg, ← hm, h2, bcE_pop]
  have hp := all_lt pop_chk h1
  simp only [beq_iff_eq] at hp
  have hmem : m ∈ bl x := by rw [hm]; exact List.getElem_mem h
  exact ⟨congrArg nI hp, h1, (bl_mem.mp hmem).2, rfl⟩

theorem Bd_up {F : Nat → Int32} {bd : Nat → Nat} {sd rt ps q v : Nat} (h : Bd F 0 bd sd rt ps) (hq : q < 64) (hv : v < 13) : Bd (upd F q (nI v)) 0 (upN bd q v) sd rt ps := by
  obtain ⟨h1, h2, h3, h4, h5, h6, h7⟩ := h
  refine ⟨?_, ?_, h3, ?_, h5, ?_, h7⟩
  · have := Bp_in h1 hq hv; rwa [Nat.zero_add] at this
  · rw [pk_un (by omega)]; exact h2
  · rw [pk_un (by omega)]; exact h4
  · rw [pk_un (by omega)]; exact h6
def pt0 (x y : Int32) : Nat := if isq x = false then 1 else if y < 0 ∨ ¬ y ≤ nI 12 then 2 else 0
theorem pt0_0 {x y : Int32} (h : pt0 x y = 0) : ∃ q v, q < 64 ∧ v < 13 ∧ x = nI q ∧ y = nI v := by
  unfold pt0 at h
  split at h
  · omega
  · rename_i h1
    split at h
    · omega
    · rename_i h2
      have h3 : isq x = true := by cases e : isq x; exact absurd e h1; rfl
      obtain ⟨q, hq, rfl⟩ := isq_of h3
      obtain ⟨v, hv, rfl⟩ := nI_of (fun z => h2 (Or.inl z) : ¬ y < 0)
      refine ⟨q, v, hq, ?_, rfl, rfl⟩
      have := (nI_leI hv (show 12 < 2 ^ 31 by decide)).mp (Classical.byContradiction fun z => h2 (Or.inr z))
      omega
def st0 (x y z : Int32) : Nat := if x < 0 ∨ nI 1 < x ∨ y < 0 ∨ nI 15 < y ∨ z < (-1) ∨ ¬ z ≤ nI 63 then 1 else 0
theorem pI_of {z : Int32} (h1 : ¬ z < (-1)) (h2 : z ≤ nI 63) : ∃ n, n < 65 ∧ z = pI n := by
  by_cases h : z < 0
  · refine ⟨64, by decide, ?_⟩
    rw [pI_64]
    rw [Int32.lt_iff_toInt_lt] at h h1
    rw [← Int32.toInt_inj]
    have e1 : (-1 : Int32).toInt = -1 := rfl
    have e0 : (0 : Int32).toInt = 0 := rfl
    omega
  · obtain ⟨n, hn, rfl⟩ := nI_of h
    have := (nI_leI hn (show 63 < 2 ^ 31 by decide)).mp h2
    exact ⟨n, by omega, (pI_lt (by omega)).symm⟩
theorem st0_0 {x y z : Int32} (h : st0 x y z = 0) : ∃ a b n, a < 2 ∧ b < 16 ∧ n < 65 ∧ x = nI a ∧ y = nI b ∧ z = pI n := by
  unfold st0 at h
  split at h
  · omega
  · rename_i h1
    simp only [not_or] at h1
    obtain ⟨a1, a2, a3, a4, a5, a6⟩ := h1
    obtain ⟨a, ha, rfl⟩ := nI_of a1
    obtain ⟨b, hb, rfl⟩ := nI_of a3
    obtain ⟨n, hn, rfl⟩ := pI_of a5 (Classical.not_not.mp a6)
    have e1 : ¬ 1 < a := fun z => a2 ((nI_ltI (show 1 < 2 ^ 31 by decide) ha).mpr z)
    have e2 : ¬ 15 < b := fun z => a4 ((nI_ltI (show 15 < 2 ^ 31 by decide) hb).mpr z)
    exact ⟨a, b, n, by omega, by omega, hn, rfl, rfl, rfl⟩
theorem bg_s {G : Nat → Int32} {i : Nat} (hi : i < 8) (h : ∀ q, q < 64 → G q = nI (if q % 8 < i then bgn q else 0)) : ∀ q, q < 64 → upd (upd (upd (upd G i (nI (hmf i))) (8 + i) (nI 1)) (48 + i) (nI 7)) (56 + i) (nI (6 + hmf i)) q = nI (if q % 8 < i + 1 then bgn q else 0) := by
  intro q hq
  by_cases e1 : q = 56 + i
  · rw [e1, pk_us, if_pos (by omega)]; unfold bgn
    rw [if_neg (by omega), if_neg (by omega), if_neg (by omega), if_neg (by omega), show 56 + i - 56 = i by omega]
  · rw [pk_un e1]
    by_cases e2 : q = 48 + i
    · rw [e2, pk_us, if_pos (by omega)]; unfold bgn
      rw [if_neg (by omega), if_neg (by omega), if_neg (by omega), if_pos (by omega)]
    · rw [pk_un e2]
      by_cases e3 : q = 8 + i
      · rw [e3, pk_us, if_pos (by omega)]; unfold bgn
        rw [if_neg (by omega), if_pos (by omega)]
      · rw [pk_un e3]
        by_cases e4 : q = i
        · rw [e4, pk_us, if_pos (by omega)]; unfold bgn
          rw [if_pos (by omega)]
        · rw [pk_un e4, h q hq]
          by_cases e5 : q % 8 < i
          · rw [if_pos e5, if_pos (by omega)]
          · rw [if_neg e5]
            by_cases e6 : q % 8 < i + 1
            · rw [if_pos e6]; unfold bgn
              rw [if_neg (by omega), if_neg (by omega), if_pos (by omega)]
            · rw [if_neg e6]
theorem bgn_lt (q : Nat) (h : q < 64) : bgn q < 13 := by
  have h1 := hmf_lt q
  have h2 := hmf_lt (q - 56)
  unfold bgn
  (repeat' split) <;> omega
def lk3 (sd rt ps j : Nat) : Int32 := if j = 0 then nI sd else if j = 1 then nI rt else pI ps
def lk0 (sd rt ps : Nat) (mk x : Int32) : Int32 := if ¬ x < 0 ∧ ¬ nI 3 ≤ x then lk3 sd rt ps x.toNatClampNeg else if x = nI 3 then mk else (-1)
theorem lk3_at {F : Nat → Int32} {bd : Nat → Nat} {sd rt ps j : Nat} (h : Bd F 0 bd sd rt ps) (hj : j < 3) : F (64 + j) = lk3 sd rt ps j := by
  obtain ⟨-, h2, -, h4, -, h6, -⟩ := h
  have : j = 0 ∨ j = 1 ∨ j = 2 := by omega
  rw [Nat.zero_add] at h2 h4 h6
  rcases this with rfl | rfl | rfl
  · exact h2
  · exact h4
  · exact h6
/-- what a board's copy is -/
theorem Bd_cp {F G : Nat → Int32} {b c : Nat} {bd : Nat → Nat} {sd rt ps : Nat} (h : Bd F b bd sd rt ps) (hc : ∀ j, j < 67 → G (c + j) = F (b + j)) : Bd G c bd sd rt ps := by
  obtain ⟨h1, h2, h3, h4, h5, h6, h7⟩ := h
  exact ⟨fun q hq => by rw [hc q (by omega)]; exact h1 q hq, by rw [hc 64 (by decide)]; exact h2, h3, by rw [hc 65 (by decide)]; exact h4, h5, by rw [hc 66 (by decide)]; exact h6, h7⟩
theorem cpy_s {G f : Nat → Int32} {i : Nat} (h : ∀ j, j < i → G j = f j) : ∀ j, j < i + 1 → upd G i (f i) j = f j := by
  intro j hj
  by_cases e : j = i
  · rw [e, pk_us]
  · rw [pk_un e]; exact h j (by omega)
theorem cl_s {G : Nat → Int32} {i : Nat} (h : ∀ j, j < i → G j = nI 0) : ∀ j, j < i + 1 → upd G i (nI 0) j = nI 0 := cpy_s (f := fun _ => nI 0) h
theorem ndN_0 {bd : Nat → Nat} {sd : Nat} : ndN bd sd = 0 ↔ plb bd sd = true := by unfold ndN; split <;> simp_all
theorem Bd_st {F : Nat → Int32} {bd : Nat → Nat} {sd rt ps a b n : Nat} (h : Bd F 0 bd sd rt ps) (ha : a < 2) (hb : b < 16) (hn : n < 65) : Bd (upd (upd (upd F 64 (nI a)) 65 (nI b)) 66 (pI n)) 0 bd a b n :=
  ⟨fun q hq => by rw [pk_un (by omega), pk_un (by omega), pk_un (by omega)]; exact h.1 q hq, by rw [pk_un (by omega), pk_un (by omega)]; exact pk_us, ha, by rw [pk_un (by omega)]; exact pk_us, hb, pk_us, hn⟩

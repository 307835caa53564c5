def mvc (bd : Nat → Nat) (sd rt ps : Nat) (x : Int32) : Nat := if ndN bd sd = 0 then (if x < 0 ∨ ¬ x < nI (szN bd sd rt ps) then 2 else ndN bd sd) else ndN bd sd
theorem mvc_0 {bd : Nat → Nat} {sd rt ps : Nat} {x : Int32} (h : mvc bd sd rt ps x = 0) (hs : szN bd sd rt ps < 2 ^ 31) : ∃ j, j < szN bd sd rt ps ∧ x = nI j := by
  unfold mvc at h
  split at h
  · split at h
    · omega
    · rename_i h2
      have h3 : ¬ x < 0 := fun z => h2 (Or.inl z)
      have h4 : x < nI (szN bd sd rt ps) := Classical.byContradiction fun z => h2 (Or.inr z)
      obtain ⟨j, hj, rfl⟩ := nI_of h3
      exact ⟨j, (nI_ltI hj hs).mp h4, rfl⟩
  · omega
theorem plc_s (L : List Nat) (x : Int32) (n : Nat) : plc L x (n + 1) = if nI (L.getD n 0) = x then nI n else plc L x n := rfl

theorem kdc_0 {bd : Nat → Nat} {sd rt ps : Nat} {x : Int32} (h : kdc bd sd rt ps x = 0) : plb bd sd = true ∧ 0 ≤ plc (lgs bd sd rt ps) x (lgs bd sd rt ps).length := by
  unfold kdc at h
  split at h
  · rename_i h1
    split at h
    · rename_i h2; exact ⟨ndN_0.mp h1, h2⟩
    · omega
  · omega
theorem mkc_0 {bd : Nat → Nat} {sd rt ps n : Nat} {x : Int32} (h : mkc bd sd rt ps n x = 0) : plb bd sd = true ∧ 0 ≤ plc (lgs bd sd rt ps) x (lgs bd sd rt ps).length ∧ ¬ n = 200 := by
  unfold mkc at h
  split at h
  · rename_i h1
    split at h
    · rename_i h2
      split at h
      · omega
      · rename_i h3; exact ⟨ndN_0.mp h1, h2, h3⟩
    · omega
  · omega
theorem lnc_0 {bd : Nat → Nat} {sd : Nat} {x : Int32} (h : lnc bd sd x = 0) : plb bd sd = true ∧ ∃ d, d < 4 ∧ x = nI d := by
  unfold lnc at h
  split at h
  · rename_i h1
    split at h
    · omega
    · rename_i h2
      obtain ⟨d, hd, rfl⟩ := nI_of (fun z => h2 (Or.inl z) : ¬ x < 0)
      have := (nI_leI hd (show 3 < 2 ^ 31 by decide)).mp (Classical.byContradiction fun z => h2 (Or.inr z))
      exact ⟨ndN_0.mp h1, d, by omega, rfl⟩
  · omega
def cnD (bd : Nat → Nat) (sd rt ps d : Nat) : Nat := if d = 0 then 1 else if d = 1 then cn1 bd sd rt ps else if d = 2 then cn2 bd sd rt ps else cn3 bd sd rt ps
theorem cnD_23 {bd : Nat → Nat} {sd rt ps d : Nat} (h : 2 ≤ d) (h2 : d < 4) : cnD bd sd rt ps d = ((legs bd sd rt ps).map (fun y => if d = 2 then cn1 (nB bd sd ps y) (1 - sd) (nR bd sd rt y) (nP bd sd ps y) else cn2 (nB bd sd ps y) (1 - sd) (nR bd sd rt y) (nP bd sd ps y))).sum := by
  unfold cnD
  rw [if_neg (by omega), if_neg (by omega)]
  by_cases e : d = 2
  · simp only [if_pos e]; rfl
  · simp only [if_neg e]; rfl

theorem dX5_isPlayable_0 : decode cX5_isPlayable 0 = .ok (.aload_n 0, 1) := by decide +kernel
theorem dX5_isPlayable_1 : decode cX5_isPlayable 1 = .ok (.iconst 0, 1) := by decide +kernel
theorem dX5_isPlayable_2 : decode cX5_isPlayable 2 = .ok (.iconst 0, 1) := by decide +kernel
theorem dX5_isPlayable_3 : decode cX5_isPlayable 3 = .ok (.invokevirtual 57, 3) := by decide +kernel
theorem dX5_isPlayable_6 : decode cX5_isPlayable 6 = .ok (.ifCond .lt 33, 3) := by decide +kernel
theorem dX5_isPlayable_9 : decode cX5_isPlayable 9 = .ok (.aload_n 0, 1) := by decide +kernel
theorem dX5_isPlayable_10 : decode cX5_isPlayable 10 = .ok (.iconst 0, 1) := by decide +kernel
theorem dX5_isPlayable_11 : decode cX5_isPlayable 11 = .ok (.iconst 1, 1) := by decide +kernel
theorem dX5_isPlayable_12 : decode cX5_isPlayable 12 = .ok (.invokevirtual 57, 3) := by decide +kernel
theorem dX5_isPlayable_15 : decode cX5_isPlayable 15 = .ok (.ifCond .lt 24, 3) := by decide +kernel
theorem dX5_isPlayable_18 : decode cX5_isPlayable 18 = .ok (.aload_n 0, 1) := by decide +kernel
theorem dX5_isPlayable_19 : decode cX5_isPlayable 19 = .ok (.iconst 0, 1) := by decide +kernel
theorem dX5_isPlayable_20 : decode cX5_isPlayable 20 = .ok (.iconst 1, 1) := by decide +kernel
theorem dX5_isPlayable_21 : decode cX5_isPlayable 21 = .ok (.aload_n 0, 1) := by decide +kernel
theorem dX5_isPlayable_22 : decode cX5_isPlayable 22 = .ok (.getfield 7, 3) := by decide +kernel
theorem dX5_isPlayable_25 : decode cX5_isPlayable 25 = .ok (.bipush 64, 2) := by decide +kernel
theorem dX5_isPlayable_27 : decode cX5_isPlayable 27 = .ok (.iaload, 1) := by decide +kernel
theorem dX5_isPlayable_28 : decode cX5_isPlayable 28 = .ok (.isub, 1) := by decide +kernel
theorem dX5_isPlayable_29 : decode cX5_isPlayable 29 = .ok (.invokevirtual 63, 3) := by decide +kernel
theorem dX5_isPlayable_32 : decode cX5_isPlayable 32 = .ok (.ifCond .ne 7, 3) := by decide +kernel
theorem dX5_isPlayable_35 : decode cX5_isPlayable 35 = .ok (.iconst 1, 1) := by decide +kernel
theorem dX5_isPlayable_36 : decode cX5_isPlayable 36 = .ok (.goto 4, 3) := by decide +kernel
theorem dX5_isPlayable_39 : decode cX5_isPlayable 39 = .ok (.iconst 0, 1) := by decide +kernel
theorem dX5_isPlayable_40 : decode cX5_isPlayable 40 = .ok (.ireturn, 1) := by decide +kernel
theorem hd_X5_isPlayable : yX5_isPlayable.cls ≠ "java/lang/invoke/MethodHandle" ∧ yX5_isPlayable.cls ≠ "java/lang/invoke/VarHandle" ∧ (parseMethodDescriptor yX5_isPlayable.desc).map (fun d => d.parameters.length) = some 0 := by decide +kernel
set_option maxHeartbeats 4000000 in
set_option maxRecDepth 100000 in
/-- isPlayable -/
theorem c_X5_isPlayable (l : Launch) {D : va_G} {cI cJ : ClassId} {A : Nat → Prop} {hm b0 b1 b2 b3 : Nat} {th mk sz : Int32} {F mv kp li : Nat → Int32} (bd : Nat → Nat) (sd rt ps : Nat) (hBd : Bd F 0 bd sd rt ps) : Met l yX5_isPlayable (Cond.code yX5_isPlayable cX5_isPlayable 1 (some .boolean) :: wsL_law) (rK 4) (va_Pc [.ref hm] (IW D cI cJ A (rW cI hm b0 b1 b2 b3 th mk sz F mv kp li))) (vp_Si (fun r => r = bI (plb bd sd))) 0 0 (fun _ => False) := by
  refine entM (by decide) (Nat.le_of_ble_eq_true rfl) ?_
  intro p e s m below meth c ls S0 hr hlocks hG hnm hB hl
  have hx := S0.1
  have hb := S0.2.1
  have hown := S0.2.2.2.1
  have hl : lv_has ls 1 [(0, .ref hm)] := hl
  obtain ⟨hP, hD, hK, hA, hE⟩ := hB
  have hS : va_S A s.heap s.heap [] := va_S.rf
  obtain ⟨hBp, hsd, hs2, hrt, hr16, hps, hp65⟩ := id hBd
  have hk0 := kat_le bd 0 64 (by decide)
  have hg0 : ∀ w, kgs bd w ≤ 64 := fun w => by unfold kgs; by_cases h : kc bd w 64 = 1; (rw [if_pos h]; exact kat_le bd w 64 (by decide)); (rw [if_neg h]; exact Nat.le_refl _)
  refine lv_aload_n hx hb dX5_isPlayable_0 rfl (lv_at hl 0 rfl) ?_
  refine lv_iconst (v := (nI 0)) hx hb dX5_isPlayable_1 (by decide) ?_
  refine lv_iconst (v := (nI 0)) hx hb dX5_isPlayable_2 (by decide) ?_
  refine roI (rnV (As := [.int (nI 0), .int (nI 0)]) (rest := []) S0 (c_X5_kingOf l bd 0 0 (by decide) (by decide) hBp) wm_X5_57 wi_X5_kingOf ws_X5_kingOf wn_X5 wc_X5_kingOf hd_X5_kingOf ⟨rfl, rfl, by decide, by decide⟩ IW.blind (va_recv hK hP (ci := 4) (q0 := 0) rfl rfl) (IW.at hP hD hK hA hE hS) hl.1 (Nat.le_of_ble_eq_true rfl) dX5_isPlayable_3 rfl ⟨by decide, by decide⟩) (fun r_1 hr_1 => ?_)
  subst hr_1
  refine lv_if_lt (tgt := 39) hx hb dX5_isPlayable_6 (by decide) (fun c6 => ?_) (fun c6 => ?_)
  · skip
    rw [pI_neg (hg0 0)] at c6
    refine lv_iconst (v := (nI 0)) hx hb dX5_isPlayable_39 (by decide) ?_
    exact reZ (v := false) hx hb hr hlocks dX5_isPlayable_40 (congrArg bI (by unfold plb; first | (rw [decide_eq_false c6]; rfl) | (rw [decide_eq_true (Classical.byContradiction c6), decide_eq_false c15]; rfl) | (rw [decide_eq_true (Classical.byContradiction c6), decide_eq_true (Classical.byContradiction c15), c32]; rfl)))
  · skip
    rw [pI_neg (hg0 0)] at c6
    refine lv_aload_n hx hb dX5_isPlayable_9 rfl (lv_at hl 0 rfl) ?_
    refine lv_iconst (v := (nI 0)) hx hb dX5_isPlayable_10 (by decide) ?_
    refine lv_iconst (v := (nI 1)) hx hb dX5_isPlayable_11 (by decide) ?_
    refine roI (rnV (As := [.int (nI 0), .int (nI 1)]) (rest := []) S0 (c_X5_kingOf l bd 0 1 (by decide) (by decide) hBp) wm_X5_57 wi_X5_kingOf ws_X5_kingOf wn_X5 wc_X5_kingOf hd_X5_kingOf ⟨rfl, rfl, by decide, by decide⟩ IW.blind (va_recv hK hP (ci := 4) (q0 := 0) rfl rfl) (IW.at hP hD hK hA hE hS) hl.1 (Nat.le_of_ble_eq_true rfl) dX5_isPlayable_12 rfl ⟨by decide, by decide⟩) (fun r_2 hr_2 => ?_)
    subst hr_2
    refine lv_if_lt (tgt := 39) hx hb dX5_isPlayable_15 (by decide) (fun c15 => ?_) (fun c15 => ?_)
    · skip
      rw [pI_neg (hg0 1)] at c15
      refine lv_iconst (v := (nI 0)) hx hb dX5_isPlayable_39 (by decide) ?_
      exact reZ (v := false) hx hb hr hlocks dX5_isPlayable_40 (congrArg bI (by unfold plb; first | (rw [decide_eq_false c6]; rfl) | (rw [decide_eq_true (Classical.byContradiction c6), decide_eq_false c15]; rfl) | (rw [decide_eq_true (Classical.byContradiction c6), decide_eq_true (Classical.byContradiction c15), c32]; rfl)))
    · skip
      rw [pI_neg (hg0 1)] at c15
      have hka := kg_both (Classical.byContradiction c6) (Classical.byContradiction c15)
      refine lv_aload_n hx hb dX5_isPlayable_18 rfl (lv_at hl 0 rfl) ?_
      refine lv_iconst (v := (nI 0)) hx hb dX5_isPlayable_19 (by decide) ?_
      refine lv_iconst (v := (nI 1)) hx hb dX5_isPlayable_20 (by decide) ?_
      refine lv_aload_n hx hb dX5_isPlayable_21 rfl (lv_at hl 0 rfl) ?_
      refine va_get (D := D) (ci := 4) (v := .ref b0) (C := RX5) (T := TX5) (N := 7) hx hb hG wu_X5 hown hK hP 0 rfl rfl 1 (by decide) (hG _ wf_X5_7) (fun _ h9 => h9) rfl dX5_isPlayable_22 ?_
      refine lv_bipush (v := (nI 64)) hx hb dX5_isPlayable_25 (by decide) ?_
      refine va_iald hx hb hK hP 1 0 rfl rfl (vp_in_nI (by decide) (by decide)) dX5_isPlayable_27 ?_
      refine W.top (y := .int (F 64)) (congrArg (fun z => Value.int (F z)) (nI_clamp (by decide))) ?_
      refine W.top (y := .int (nI sd)) (congrArg Value.int hsd) ?_
      refine ln_isub hx hb dX5_isPlayable_28 (by omega) ?_
      refine roI (rnV (As := [.int (nI 0), .int (nI (1 - sd))]) (rest := []) S0 (c_X5_isChecked l bd 0 (1 - sd) (by decide) (by omega) hBp (hka _ (by omega))) wm_X5_63 wi_X5_isChecked ws_X5_isChecked wn_X5 wc_X5_isChecked hd_X5_isChecked ⟨rfl, rfl, by decide, by decide⟩ IW.blind (va_recv hK hP (ci := 4) (q0 := 0) rfl rfl) (IW.at hP hD hK hA hE hS) hl.1 (Nat.le_of_ble_eq_true rfl) dX5_isPlayable_29 rfl ⟨by decide, by decide⟩) (fun r_3 hr_3 => ?_)
      subst hr_3
      refine lb_if_ne (tgt := 39) hx hb dX5_isPlayable_32 (by decide) (fun c32 => ?_) (fun c32 => ?_)
      · skip
        refine lv_iconst (v := (nI 0)) hx hb dX5_isPlayable_39 (by decide) ?_
        exact reZ (v := false) hx hb hr hlocks dX5_isPlayable_40 (congrArg bI (by unfold plb; first | (rw [decide_eq_false c6]; rfl) | (rw [decide_eq_true (Classical.byContradiction c6), decide_eq_false c15]; rfl) | (rw [decide_eq_true (Classical.byContradiction c6), decide_eq_true (Classical.byContradiction c15), c32]; rfl)))
      · skip
        refine lv_iconst (v := (nI 1)) hx hb dX5_isPlayable_35 (by decide) ?_
        refine lv_goto (tgt := 40) hx hb dX5_isPlayable_36 (by decide) ?_
        exact reZ (v := true) hx hb hr hlocks dX5_isPlayable_40 (congrArg bI (by unfold plb; first | (rw [decide_eq_false c6]; rfl) | (rw [decide_eq_true (Classical.byContradiction c6), decide_eq_false c15]; rfl) | (rw [decide_eq_true (Classical.byContradiction c6), decide_eq_true (Classical.byContradiction c15), c32]; rfl)))
theorem dX5_playable_0 : decode cX5_playable 0 = .ok (.aload_n 0, 1) := by decide +kernel
theorem dX5_playable_1 : decode cX5_playable 1 = .ok (.iconst 0, 1) := by decide +kernel
theorem dX5_playable_2 : decode cX5_playable 2 = .ok (.putfield 22, 3) := by decide +kernel
theorem dX5_playable_5 : decode cX5_playable 5 = .ok (.aload_n 0, 1) := by decide +kernel
theorem dX5_playable_6 : decode cX5_playable 6 = .ok (.invokevirtual 67, 3) := by decide +kernel
theorem dX5_playable_9 : decode cX5_playable 9 = .ok (.ireturn, 1) := by decide +kernel
theorem hd_X5_playable : yX5_playable.cls ≠ "java/lang/invoke/MethodHandle" ∧ yX5_playable.cls ≠ "java/lang/invoke/VarHandle" ∧ (parseMethodDescriptor yX5_playable.desc).map (fun d => d.parameters.length) = some 0 := by decide +kernel
set_option maxHeartbeats 4000000 in
set_option maxRecDepth 100000 in
/-- playable -/
theorem c_X5_playable (l : Launch) {D : va_G} {cI cJ : ClassId} {A : Nat → Prop} {hm b0 b1 b2 b3 : Nat} {th mk sz : Int32} {F mv kp li : Nat → Int32} (bd : Nat → Nat) (sd rt ps : Nat) (hBd : Bd F 0 bd sd rt ps) : Met l yX5_playable (Cond.code yX5_playable cX5_playable 1 (some .boolean) :: wsL_law) (rK 5) (va_Pc [.ref hm] (IW D cI cJ A (rW cI hm b0 b1 b2 b3 th mk sz F mv kp li))) (va_Qi (fun r _ => r = bI (plb bd sd)) (fun (u : Unit) t => IW D cI cJ A (rW cI hm b0 b1 b2 b3 (nI 0) mk sz F mv kp li) t) A) 0 0 A := by
  refine entM (by decide) (Nat.le_of_ble_eq_true rfl) ?_
  intro p e s m below meth c ls S0 hr hlocks hG hnm hB hl
  have hx := S0.1
  have hb := S0.2.1
  have hown := S0.2.2.2.1
  have hl : lv_has ls 1 [(0, .ref hm)] := hl
  obtain ⟨hP, hD, hK, hA, hE⟩ := hB
  have hS : va_S A s.heap s.heap [] := va_S.rf
  refine lv_aload_n hx hb dX5_playable_0 rfl (lv_at hl 0 rfl) ?_
  refine lv_iconst (v := (nI 0)) hx hb dX5_playable_1 (by decide) ?_
  refine va_put (D := D) (ci := 4) (v := .int (nI 0)) (ty := .int) (C := RX5) (T := TX5) (N := 7) hx hb hG wu_X5 tyX5 tyX5_ok nmX5 hown hK hP hD hS 0 rfl rfl 0 (by decide) (hG _ wf_X5_22) (fun _ h9 => h9) rfl (by decide +kernel) rfl rfl (Nat.le_of_ble_eq_true rfl) dX5_playable_2 (fun H locs hP hD hS => ?_)
  have hP : va_P D classes (rW cI hm b0 b1 b2 b3 (nI 0) mk sz F mv kp li) H := hP
  have hD : va_D A (rW cI hm b0 b1 b2 b3 (nI 0) mk sz F mv kp li) := hD
  refine lv_aload_n hx hb dX5_playable_5 rfl (lv_at hl 0 rfl) ?_
  refine roI (rnV (As := []) (rest := []) S0 (c_X5_isPlayable l bd sd rt ps hBd) wm_X5_67 wi_X5_isPlayable ws_X5_isPlayable wn_X5 wc_X5_isPlayable hd_X5_isPlayable ⟨rfl, rfl, by decide, by decide⟩ IW.blind (va_recv hK hP (ci := 4) (q0 := 0) rfl rfl) (IW.at hP hD hK hA hE hS) hl.1 (Nat.le_of_ble_eq_true rfl) dX5_playable_6 rfl ⟨by decide, by decide⟩) (fun r_1 hr_1 => ?_)
  subst hr_1
  exact weZ (v := plb bd sd) (()) hx hb hr hlocks dX5_playable_9 rfl hP hD hK hA hE hS
theorem dX5_need_0 : decode cX5_need 0 = .ok (.aload_n 0, 1) := by decide +kernel
theorem dX5_need_1 : decode cX5_need 1 = .ok (.invokevirtual 67, 3) := by decide +kernel
theorem dX5_need_4 : decode cX5_need 4 = .ok (.istore_n 1, 1) := by decide +kernel
theorem dX5_need_5 : decode cX5_need 5 = .ok (.aload_n 0, 1) := by decide +kernel
theorem dX5_need_6 : decode cX5_need 6 = .ok (.iload_n 1, 1) := by decide +kernel
theorem dX5_need_7 : decode cX5_need 7 = .ok (.ifCond .eq 12, 3) := by decide +kernel
theorem dX5_need_10 : decode cX5_need 10 = .ok (.aload_n 0, 1) := by decide +kernel
theorem dX5_need_11 : decode cX5_need 11 = .ok (.iconst 0, 1) := by decide +kernel
theorem dX5_need_12 : decode cX5_need 12 = .ok (.iconst 0, 1) := by decide +kernel
theorem dX5_need_13 : decode cX5_need 13 = .ok (.invokevirtual 93, 3) := by decide +kernel
theorem dX5_need_16 : decode cX5_need 16 = .ok (.goto 4, 3) := by decide +kernel
theorem dX5_need_19 : decode cX5_need 19 = .ok (.iconst 0, 1) := by decide +kernel
theorem dX5_need_20 : decode cX5_need 20 = .ok (.putfield 96, 3) := by decide +kernel
theorem dX5_need_23 : decode cX5_need 23 = .ok (.iload_n 1, 1) := by decide +kernel
theorem dX5_need_24 : decode cX5_need 24 = .ok (.ifCond .eq 7, 3) := by decide +kernel
theorem dX5_need_27 : decode cX5_need 27 = .ok (.iconst 0, 1) := by decide +kernel
theorem dX5_need_28 : decode cX5_need 28 = .ok (.goto 4, 3) := by decide +kernel
theorem dX5_need_31 : decode cX5_need 31 = .ok (.iconst 1, 1) := by decide +kernel
theorem dX5_need_32 : decode cX5_need 32 = .ok (.ireturn, 1) := by decide +kernel
theorem hd_X5_need : yX5_need.cls ≠ "java/lang/invoke/MethodHandle" ∧ yX5_need.cls ≠ "java/lang/invoke/VarHandle" ∧ (parseMethodDescriptor yX5_need.desc).map (fun d => d.parameters.length) = some 0 := by decide +kernel
set_option maxHeartbeats 4000000 in
set_option maxRecDepth 100000 in
/-- need -/
theorem c_X5_need (l : Launch) {D : va_G} {cI cJ : ClassId} {A : Nat → Prop} {hm b0 b1 b2 b3 : Nat} {th mk sz : Int32} {F mv kp li : Nat → Int32} (bd : Nat → Nat) (sd rt ps : Nat) (hBd : Bd F 0 bd sd rt ps) (hLen : plb bd sd = true → (legs bd sd rt ps).length ≤ 1024) : Met l yX5_need (Cond.code yX5_need cX5_need 2 (some .int) :: wsL_law) (rK 7) (va_Pc [.ref hm] (IW D cI cJ A (rW cI hm b0 b1 b2 b3 th mk sz F mv kp li))) (va_Qi (fun r u => r = nI (ndN bd sd) ∧ Ag F u.1 67 ∧ LI u.2 (lgs bd sd rt ps)) (fun (u : (Nat → Int32) × (Nat → Int32)) t => IW D cI cJ A (rW cI hm b0 b1 b2 b3 th mk (nI (szN bd sd rt ps)) u.1 mv kp u.2) t) A) 0 0 A := by
  refine entM (by decide) (Nat.le_of_ble_eq_true rfl) ?_
  intro p e s m below meth c ls S0 hr hlocks hG hnm hB hl
  have hx := S0.1
  have hb := S0.2.1
  have hown := S0.2.2.2.1
  have hl : lv_has ls 2 [(0, .ref hm)] := hl
  obtain ⟨hP, hD, hK, hA, hE⟩ := hB
  have hS : va_S A s.heap s.heap [] := va_S.rf
  obtain ⟨hBp, hsd, hs2, hrt, hr16, hps, hp65⟩ := id hBd
  refine lv_aload_n hx hb dX5_need_0 rfl (lv_at hl 0 rfl) ?_
  refine roI (rnV (As := []) (rest := []) S0 (c_X5_isPlayable l bd sd rt ps hBd) wm_X5_67 wi_X5_isPlayable ws_X5_isPlayable wn_X5 wc_X5_isPlayable hd_X5_isPlayable ⟨rfl, rfl, by decide, by decide⟩ IW.blind (va_recv hK hP (ci := 4) (q0 := 0) rfl rfl) (IW.at hP hD hK hA hE hS) hl.1 (Nat.le_of_ble_eq_true rfl) dX5_need_1 rfl ⟨by decide, by decide⟩) (fun r_1 hr_1 => ?_)
  subst hr_1
  refine lv_istore_n (lv' := [(1, .int (bI (plb bd sd))), (0, .ref hm)]) hx hb dX5_need_4 rfl hl (by decide) rfl (fun ls hl => ?_)
  refine lv_aload_n hx hb dX5_need_5 rfl (lv_at hl 1 rfl) ?_
  refine lv_iload_n hx hb dX5_need_6 rfl (lv_at hl 0 rfl) ?_
  refine jnW (σ := (Nat → Int32) × (Nat → Int32)) (D := D) (A := A) (H0 := s.heap) 20 2 (fun x9 => [(1, .int (bI (plb bd sd))), (0, .ref hm)]) [.int (nI (szN bd sd rt ps)), .ref hm] (fun x9 => rW cI hm b0 b1 b2 b3 th mk sz x9.1 mv kp x9.2) (fun x9 => Ag F x9.1 67 ∧ LI x9.2 (lgs bd sd rt ps)) ?_ (fun hj_20 => ?_)
  · clear hP hD hS hl ls
    rintro ⟨G1, M1⟩ H locs hI hP hD hS ls hl
    try dsimp only at hI hP hD hl
    obtain ⟨hA1, hL1⟩ := hI
    refine va_put (D := D) (ci := 4) (v := .int (nI (szN bd sd rt ps))) (ty := .int) (C := RX5) (T := TX5) (N := 7) hx hb hG wu_X5 tyX5 tyX5_ok nmX5 hown hK hP hD hS 0 rfl rfl 5 (by decide) (hG _ wf_X5_96) (fun _ h9 => h9) rfl (by decide +kernel) rfl rfl (Nat.le_of_ble_eq_true rfl) dX5_need_20 (fun H locs hP hD hS => ?_)
    have hP : va_P D classes (rW cI hm b0 b1 b2 b3 th mk (nI (szN bd sd rt ps)) G1 mv kp M1) H := hP
    have hD : va_D A (rW cI hm b0 b1 b2 b3 th mk (nI (szN bd sd rt ps)) G1 mv kp M1) := hD
    refine lv_iload_n hx hb dX5_need_23 rfl (lv_at hl 0 rfl) ?_
    refine lb_if_eq (tgt := 31) hx hb dX5_need_24 (by decide) (fun c24 => ?_) (fun c24 => ?_)
    · skip
      refine lv_iconst (v := (nI 1)) hx hb dX5_need_31 (by decide) ?_
      exact weI ((G1, M1)) hx hb hr hlocks dX5_need_32 ⟨by unfold ndN; first | rw [if_pos c24] | rw [if_neg (show ¬ plb bd sd = true by rw [c24]; decide)], hA1, hL1⟩ hP hD hK hA hE hS
    · skip
      refine lv_iconst (v := (nI 0)) hx hb dX5_need_27 (by decide) ?_
      refine lv_goto (tgt := 32) hx hb dX5_need_28 (by decide) ?_
      exact weI ((G1, M1)) hx hb hr hlocks dX5_need_32 ⟨by unfold ndN; first | rw [if_pos c24] | rw [if_neg (show ¬ plb bd sd = true by rw [c24]; decide)], hA1, hL1⟩ hP hD hK hA hE hS
  · skip
    refine lb_if_eq (tgt := 19) hx hb dX5_need_7 (by decide) (fun c7 => ?_) (fun c7 => ?_)
    · skip
      refine lv_iconst (v := (nI 0)) hx hb dX5_need_19 (by decide) ?_
      refine W.top (y := .int (nI (szN bd sd rt ps))) (congrArg Value.int (congrArg nI (by unfold szN; first | rw [if_pos c7] | rw [if_neg (show ¬ plb bd sd = true by rw [c7]; decide)]))) ?_
      exact hj_20 (F, li) _ _ (by unfold lgs; first | (rw [if_pos c7]; exact ⟨hA9, hL9⟩) | (rw [if_neg (show ¬ plb bd sd = true by rw [c7]; decide)]; exact ⟨Ag.rf, LI_nil⟩)) hP hD hS ls (lv_sub hl [0, 1] rfl)
    · skip
      refine lv_aload_n hx hb dX5_need_10 rfl (lv_at hl 1 rfl) ?_
      refine lv_iconst (v := (nI 0)) hx hb dX5_need_11 (by decide) ?_
      refine lv_iconst (v := (nI 0)) hx hb dX5_need_12 (by decide) ?_
      refine chI (rnV (As := [.int (nI 0), .int (nI 0)]) (rest := [.ref hm]) S0 (c_X5_listed l bd sd rt ps 0 (by decide) hBd (plb_k hs2 c7) (hLen c7)) wm_X5_93 wi_X5_listed ws_X5_listed wn_X5 wc_X5_listed hd_X5_listed ⟨rfl, rfl, by decide, by decide⟩ IW.blind (va_recv hK hP (ci := 4) (q0 := 0) rfl rfl) (IW.at hP hD hK hA hE hS) hl.1 (Nat.le_of_ble_eq_true rfl) dX5_need_13 rfl ⟨by decide, by decide⟩) hS (fun r_2 u_3 H locs hu hP hD hS => ?_)
      obtain ⟨he9, hA9, hL9⟩ := hu
      subst he9
      have hP : va_P D classes (rW cI hm b0 b1 b2 b3 th mk sz u_3.1 mv kp u_3.2) H := hP
      have hD : va_D A (rW cI hm b0 b1 b2 b3 th mk sz u_3.1 mv kp u_3.2) := hD
      refine lv_goto (tgt := 20) hx hb dX5_need_16 (by decide) ?_
      refine W.top (y := .int (nI (szN bd sd rt ps))) (congrArg Value.int (congrArg nI (by unfold szN; first | rw [if_pos c7] | rw [if_neg (show ¬ plb bd sd = true by rw [c7]; decide)]))) ?_
      exact hj_20 (u_3.1, u_3.2) _ _ (by unfold lgs; first | (rw [if_pos c7]; exact ⟨hA9, hL9⟩) | (rw [if_neg (show ¬ plb bd sd = true by rw [c7]; decide)]; exact ⟨Ag.rf, LI_nil⟩)) hP hD hS ls (lv_sub hl [0, 1] rfl)
theorem dX5_thrown_0 : decode cX5_thrown 0 = .ok (.aload_n 0, 1) := by decide +kernel
theorem dX5_thrown_1 : decode cX5_thrown 1 = .ok (.getfield 22, 3) := by decide +kernel
theorem dX5_thrown_4 : decode cX5_thrown 4 = .ok (.ireturn, 1) := by decide +kernel
theorem hd_X5_thrown : yX5_thrown.cls ≠ "java/lang/invoke/MethodHandle" ∧ yX5_thrown.cls ≠ "java/lang/invoke/VarHandle" ∧ (parseMethodDescriptor yX5_thrown.desc).map (fun d => d.parameters.length) = some 0 := by decide +kernel
set_option maxHeartbeats 4000000 in
set_option maxRecDepth 100000 in
/-- thrown -/
theorem c_X5_thrown (l : Launch) {D : va_G} {cI cJ : ClassId} {A : Nat → Prop} {hm b0 b1 b2 b3 : Nat} {th mk sz : Int32} {F mv kp li : Nat → Int32}  : Met l yX5_thrown (Cond.code yX5_thrown cX5_thrown 1 (some .int) :: wsL_law) (rK 0) (va_Pc [.ref hm] (IW D cI cJ A (rW cI hm b0 b1 b2 b3 th mk sz F mv kp li))) (vp_Si (fun r => r = th)) 0 0 (fun _ => False) := by
  refine entM (by decide) (Nat.le_of_ble_eq_true rfl) ?_
  intro p e s m below meth c ls S0 hr hlocks hG hnm hB hl
  have hx := S0.1
  have hb := S0.2.1
  have hown := S0.2.2.2.1
  have hl : lv_has ls 1 [(0, .ref hm)] := hl
  obtain ⟨hP, hD, hK, hA, hE⟩ := hB
  have hS : va_S A s.heap s.heap [] := va_S.rf
  refine lv_aload_n hx hb dX5_thrown_0 rfl (lv_at hl 0 rfl) ?_
  refine va_get (D := D) (ci := 4) (v := .int th) (C := RX5) (T := TX5) (N := 7) hx hb hG wu_X5 hown hK hP 0 rfl rfl 0 (by decide) (hG _ wf_X5_22) (fun _ h9 => h9) rfl dX5_thrown_1 ?_
  exact reI hx hb hr hlocks dX5_thrown_4 rfl

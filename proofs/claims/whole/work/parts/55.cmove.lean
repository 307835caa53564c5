theorem dX2_takenSquare_0 : decode cX2_takenSquare 0 = .ok (.aload_n 0, 1) := by decide +kernel
theorem dX2_takenSquare_1 : decode cX2_takenSquare 1 = .ok (.iload_n 1, 1) := by decide +kernel
theorem dX2_takenSquare_2 : decode cX2_takenSquare 2 = .ok (.invokevirtual 105, 3) := by decide +kernel
theorem dX2_takenSquare_5 : decode cX2_takenSquare 5 = .ok (.invokestatic 127, 3) := by decide +kernel
theorem dX2_takenSquare_8 : decode cX2_takenSquare 8 = .ok (.iconst 1, 1) := by decide +kernel
theorem dX2_takenSquare_9 : decode cX2_takenSquare 9 = .ok (.if_icmp .ne 26, 3) := by decide +kernel
theorem dX2_takenSquare_12 : decode cX2_takenSquare 12 = .ok (.iload_n 1, 1) := by decide +kernel
theorem dX2_takenSquare_13 : decode cX2_takenSquare 13 = .ok (.bipush 7, 2) := by decide +kernel
theorem dX2_takenSquare_15 : decode cX2_takenSquare 15 = .ok (.iand, 1) := by decide +kernel
theorem dX2_takenSquare_16 : decode cX2_takenSquare 16 = .ok (.iload_n 2, 1) := by decide +kernel
theorem dX2_takenSquare_17 : decode cX2_takenSquare 17 = .ok (.bipush 7, 2) := by decide +kernel
theorem dX2_takenSquare_19 : decode cX2_takenSquare 19 = .ok (.iand, 1) := by decide +kernel
theorem dX2_takenSquare_20 : decode cX2_takenSquare 20 = .ok (.if_icmp .eq 15, 3) := by decide +kernel
theorem dX2_takenSquare_23 : decode cX2_takenSquare 23 = .ok (.aload_n 0, 1) := by decide +kernel
theorem dX2_takenSquare_24 : decode cX2_takenSquare 24 = .ok (.iload_n 2, 1) := by decide +kernel
theorem dX2_takenSquare_25 : decode cX2_takenSquare 25 = .ok (.invokevirtual 105, 3) := by decide +kernel
theorem dX2_takenSquare_28 : decode cX2_takenSquare 28 = .ok (.ifCond .ne 7, 3) := by decide +kernel
theorem dX2_takenSquare_31 : decode cX2_takenSquare 31 = .ok (.iconst 1, 1) := by decide +kernel
theorem dX2_takenSquare_32 : decode cX2_takenSquare 32 = .ok (.goto 4, 3) := by decide +kernel
theorem dX2_takenSquare_35 : decode cX2_takenSquare 35 = .ok (.iconst 0, 1) := by decide +kernel
theorem dX2_takenSquare_36 : decode cX2_takenSquare 36 = .ok (.istore_n 3, 1) := by decide +kernel
theorem dX2_takenSquare_37 : decode cX2_takenSquare 37 = .ok (.iload_n 3, 1) := by decide +kernel
theorem dX2_takenSquare_38 : decode cX2_takenSquare 38 = .ok (.ifCond .eq 15, 3) := by decide +kernel
theorem dX2_takenSquare_41 : decode cX2_takenSquare 41 = .ok (.iload_n 1, 1) := by decide +kernel
theorem dX2_takenSquare_42 : decode cX2_takenSquare 42 = .ok (.bipush 56, 2) := by decide +kernel
theorem dX2_takenSquare_44 : decode cX2_takenSquare 44 = .ok (.iand, 1) := by decide +kernel
theorem dX2_takenSquare_45 : decode cX2_takenSquare 45 = .ok (.iload_n 2, 1) := by decide +kernel
theorem dX2_takenSquare_46 : decode cX2_takenSquare 46 = .ok (.bipush 7, 2) := by decide +kernel
theorem dX2_takenSquare_48 : decode cX2_takenSquare 48 = .ok (.iand, 1) := by decide +kernel
theorem dX2_takenSquare_49 : decode cX2_takenSquare 49 = .ok (.iadd, 1) := by decide +kernel
theorem dX2_takenSquare_50 : decode cX2_takenSquare 50 = .ok (.goto 4, 3) := by decide +kernel
theorem dX2_takenSquare_53 : decode cX2_takenSquare 53 = .ok (.iload_n 2, 1) := by decide +kernel
theorem dX2_takenSquare_54 : decode cX2_takenSquare 54 = .ok (.ireturn, 1) := by decide +kernel
theorem hd_X2_takenSquare : yX2_takenSquare.cls ≠ "java/lang/invoke/MethodHandle" ∧ yX2_takenSquare.cls ≠ "java/lang/invoke/VarHandle" ∧ (parseMethodDescriptor yX2_takenSquare.desc).map (fun d => d.parameters.length) = some 2 := by decide +kernel
set_option maxHeartbeats 4000000 in
set_option maxRecDepth 100000 in
/-- takenSquare -/
theorem c_X2_takenSquare (l : Launch) {D : va_G} {cI cJ : ClassId} {A : Nat → Prop} {h0 h1 h2 a0 a1 a2 a3 h3 a4 h4 a5 : Nat} {kn op : Int32} {ow tr fu kg co pn : Int64} {si ri pa ma : Int32} {pcs : Nat → Int32} {sqa : Nat → Int64} {mvs los : Nat → Int32} {lsz : Int32} {lfs : Nat → Int32} {asz : Int32} {afs : Nat → Int32} (bd : Nat → Nat) (hCP : CP pcs sqa bd) (f t : Nat) (hf : f < 64) (ht : t < 64) : Met l yX2_takenSquare (Cond.code yX2_takenSquare cX2_takenSquare 4 (some .int) :: wsL_law) (rK 1) (va_Pc [.ref h2, .int (nI f), .int (nI t)] (IW D cI cJ A (cW cI cJ h0 h1 h2 a0 a1 a2 a3 h3 a4 h4 a5 kn op ow tr fu kg co pn si ri pa ma pcs sqa mvs los lsz lfs asz afs))) (vp_Si (fun r => r = nI (tkn bd f t))) 0 0 (fun _ => False) := by
  refine entM (by decide) (Nat.le_of_ble_eq_true rfl) ?_
  intro p e s m below meth c ls S0 hr hlocks hG hnm hB hl
  have hx := S0.1
  have hb := S0.2.1
  have hown := S0.2.2.2.1
  have hl : lv_has ls 4 [(0, .ref h2), (1, .int (nI f)), (2, .int (nI t))] := hl
  obtain ⟨hP, hD, hK, hA, hE⟩ := hB
  have hS : va_S A s.heap s.heap [] := va_S.rf
  have hfb := (hCP.1 f hf).2
  have htb := (hCP.1 t ht).2
  have hkf := kd_lt hfb
  refine lv_aload_n hx hb dX2_takenSquare_0 rfl (lv_at hl 0 rfl) ?_
  refine lv_iload_n hx hb dX2_takenSquare_1 rfl (lv_at hl 1 rfl) ?_
  refine roI (rnV (As := [.int (nI f)]) (rest := []) S0 (c_X2_pieceOn l bd hCP f (by omega)) wm_X2_105 wi_X2_pieceOn ws_X2_pieceOn wn_X2 wc_X2_pieceOn hd_X2_pieceOn ⟨rfl, rfl, by decide, by decide⟩ IW.blind (va_recv hK hP (ci := 1) (q0 := 2) rfl rfl) (IW.at hP hD hK hA hE hS) hl.1 (Nat.le_of_ble_eq_true rfl) dX2_takenSquare_2 rfl ⟨by decide, by decide⟩) (fun r_1 hr_1 => ?_)
  subst hr_1
  refine roI (rnSN (host := RX4) (As := [.int (nI (bd f))]) (rest := []) S0 (c_X4_typeOf l (bd f) (by omega)) (nl_X2_127 hE.1) wt_X4_typeOf wn_X4 wc_X4_typeOf hd_X4_typeOf ⟨rfl, rfl, by decide, by decide⟩ True.blind (fun _ _ _ => trivial) hl.1 (Nat.le_of_ble_eq_true rfl) dX2_takenSquare_5 rfl ⟨by decide, by decide⟩) (fun r_2 hr_2 => ?_)
  subst hr_2
  refine lv_iconst (v := (nI 1)) hx hb dX2_takenSquare_8 (by decide) ?_
  refine jnG 36 4 [(0, .ref h2), (1, .int (nI f)), (2, .int (nI t))] [.int (bI (decide (kd (bd f) = 1 ∧ ¬ f % 8 = t % 8 ∧ bd t = 0)))] ?_ (fun hj_36 => ?_)
  · intro ls hl
    refine lv_istore_n (lv' := [(3, .int (bI (decide (kd (bd f) = 1 ∧ ¬ f % 8 = t % 8 ∧ bd t = 0)))), (0, .ref h2), (1, .int (nI f)), (2, .int (nI t))]) hx hb dX2_takenSquare_36 rfl hl (by decide) rfl (fun ls hl => ?_)
    refine lv_iload_n hx hb dX2_takenSquare_37 rfl (lv_at hl 0 rfl) ?_
    refine lb_if_eq (tgt := 53) hx hb dX2_takenSquare_38 (by decide) (fun c38 => ?_) (fun c38 => ?_)
    · skip
      refine lv_iload_n hx hb dX2_takenSquare_53 rfl (lv_at hl 3 rfl) ?_
      exact reI hx hb hr hlocks dX2_takenSquare_54 (congrArg nI (by unfold tkn; first | rw [if_pos (of_decide_eq_true c38)] | rw [if_neg (of_decide_eq_false c38)]))
    · skip
      refine lv_iload_n hx hb dX2_takenSquare_41 rfl (lv_at hl 2 rfl) ?_
      refine lv_bipush (v := (nI 56)) hx hb dX2_takenSquare_42 (by decide) ?_
      refine lv_iand hx hb dX2_takenSquare_44 ?_
      refine W.top (y := .int (nI (f / 8 * 8))) (congrArg Value.int (a7 hf).2) ?_
      refine lv_iload_n hx hb dX2_takenSquare_45 rfl (lv_at hl 3 rfl) ?_
      refine lv_bipush (v := (nI 7)) hx hb dX2_takenSquare_46 (by decide) ?_
      refine lv_iand hx hb dX2_takenSquare_48 ?_
      refine W.top (y := .int (nI (t % 8))) (congrArg Value.int (a7 ht).1) ?_
      refine ln_iadd hx hb dX2_takenSquare_49 ?_
      refine lv_goto (tgt := 54) hx hb dX2_takenSquare_50 (by decide) ?_
      exact reI hx hb hr hlocks dX2_takenSquare_54 (congrArg nI (by unfold tkn; first | rw [if_pos (of_decide_eq_true c38)] | rw [if_neg (of_decide_eq_false c38)]))
  · skip
    refine ln_icmp_ne (tgt := 35) hx hb dX2_takenSquare_9 (by decide) (by omega) (by decide) (fun c9 => ?_) (fun c9 => ?_)
    · skip
      refine lv_iconst (v := (nI 0)) hx hb dX2_takenSquare_35 (by decide) ?_
      refine W.top (y := .int (bI (decide (kd (bd f) = 1 ∧ ¬ f % 8 = t % 8 ∧ bd t = 0)))) (congrArg Value.int (by first | (rw [decide_eq_true ⟨c9, c20, c28⟩]; rfl) | (rw [decide_eq_false (show ¬ (kd (bd f) = 1 ∧ ¬ f % 8 = t % 8 ∧ bd t = 0) by omega)]; rfl))) ?_
      exact hj_36 ls (lv_sub hl [0, 1, 2] rfl)
    · skip
      refine lv_iload_n hx hb dX2_takenSquare_12 rfl (lv_at hl 1 rfl) ?_
      refine lv_bipush (v := (nI 7)) hx hb dX2_takenSquare_13 (by decide) ?_
      refine lv_iand hx hb dX2_takenSquare_15 ?_
      refine W.top (y := .int (nI (f % 8))) (congrArg Value.int (a7 hf).1) ?_
      refine lv_iload_n hx hb dX2_takenSquare_16 rfl (lv_at hl 2 rfl) ?_
      refine lv_bipush (v := (nI 7)) hx hb dX2_takenSquare_17 (by decide) ?_
      refine lv_iand hx hb dX2_takenSquare_19 ?_
      refine W.top (y := .int (nI (t % 8))) (congrArg Value.int (a7 ht).1) ?_
      refine ln_icmp_eq (tgt := 35) hx hb dX2_takenSquare_20 (by decide) (by omega) (by omega) (fun c20 => ?_) (fun c20 => ?_)
      · skip
        refine lv_iconst (v := (nI 0)) hx hb dX2_takenSquare_35 (by decide) ?_
        refine W.top (y := .int (bI (decide (kd (bd f) = 1 ∧ ¬ f % 8 = t % 8 ∧ bd t = 0)))) (congrArg Value.int (by first | (rw [decide_eq_true ⟨c9, c20, c28⟩]; rfl) | (rw [decide_eq_false (show ¬ (kd (bd f) = 1 ∧ ¬ f % 8 = t % 8 ∧ bd t = 0) by omega)]; rfl))) ?_
        exact hj_36 ls (lv_sub hl [0, 1, 2] rfl)
      · skip
        refine lv_aload_n hx hb dX2_takenSquare_23 rfl (lv_at hl 0 rfl) ?_
        refine lv_iload_n hx hb dX2_takenSquare_24 rfl (lv_at hl 2 rfl) ?_
        refine roI (rnV (As := [.int (nI t)]) (rest := []) S0 (c_X2_pieceOn l bd hCP t (by omega)) wm_X2_105 wi_X2_pieceOn ws_X2_pieceOn wn_X2 wc_X2_pieceOn hd_X2_pieceOn ⟨rfl, rfl, by decide, by decide⟩ IW.blind (va_recv hK hP (ci := 1) (q0 := 2) rfl rfl) (IW.at hP hD hK hA hE hS) hl.1 (Nat.le_of_ble_eq_true rfl) dX2_takenSquare_25 rfl ⟨by decide, by decide⟩) (fun r_3 hr_3 => ?_)
        subst hr_3
        refine ln_if_ne (tgt := 35) hx hb dX2_takenSquare_28 (by decide) (by omega) (fun c28 => ?_) (fun c28 => ?_)
        · skip
          refine lv_iconst (v := (nI 0)) hx hb dX2_takenSquare_35 (by decide) ?_
          refine W.top (y := .int (bI (decide (kd (bd f) = 1 ∧ ¬ f % 8 = t % 8 ∧ bd t = 0)))) (congrArg Value.int (by first | (rw [decide_eq_true ⟨c9, c20, c28⟩]; rfl) | (rw [decide_eq_false (show ¬ (kd (bd f) = 1 ∧ ¬ f % 8 = t % 8 ∧ bd t = 0) by omega)]; rfl))) ?_
          exact hj_36 ls (lv_sub hl [0, 1, 2] rfl)
        · skip
          refine lv_iconst (v := (nI 1)) hx hb dX2_takenSquare_31 (by decide) ?_
          refine lv_goto (tgt := 36) hx hb dX2_takenSquare_32 (by decide) ?_
          refine W.top (y := .int (bI (decide (kd (bd f) = 1 ∧ ¬ f % 8 = t % 8 ∧ bd t = 0)))) (congrArg Value.int (by first | (rw [decide_eq_true ⟨c9, c20, c28⟩]; rfl) | (rw [decide_eq_false (show ¬ (kd (bd f) = 1 ∧ ¬ f % 8 = t % 8 ∧ bd t = 0) by omega)]; rfl))) ?_
          exact hj_36 ls (lv_sub hl [0, 1, 2] rfl)
theorem dX2_isCastling_0 : decode cX2_isCastling 0 = .ok (.aload_n 0, 1) := by decide +kernel
theorem dX2_isCastling_1 : decode cX2_isCastling 1 = .ok (.iload_n 1, 1) := by decide +kernel
theorem dX2_isCastling_2 : decode cX2_isCastling 2 = .ok (.invokevirtual 105, 3) := by decide +kernel
theorem dX2_isCastling_5 : decode cX2_isCastling 5 = .ok (.invokestatic 127, 3) := by decide +kernel
theorem dX2_isCastling_8 : decode cX2_isCastling 8 = .ok (.bipush 6, 2) := by decide +kernel
theorem dX2_isCastling_10 : decode cX2_isCastling 10 = .ok (.if_icmp .ne 21, 3) := by decide +kernel
theorem dX2_isCastling_13 : decode cX2_isCastling 13 = .ok (.iload_n 2, 1) := by decide +kernel
theorem dX2_isCastling_14 : decode cX2_isCastling 14 = .ok (.iload_n 1, 1) := by decide +kernel
theorem dX2_isCastling_15 : decode cX2_isCastling 15 = .ok (.isub, 1) := by decide +kernel
theorem dX2_isCastling_16 : decode cX2_isCastling 16 = .ok (.iconst 2, 1) := by decide +kernel
theorem dX2_isCastling_17 : decode cX2_isCastling 17 = .ok (.if_icmp .eq 10, 3) := by decide +kernel
theorem dX2_isCastling_20 : decode cX2_isCastling 20 = .ok (.iload_n 1, 1) := by decide +kernel
theorem dX2_isCastling_21 : decode cX2_isCastling 21 = .ok (.iload_n 2, 1) := by decide +kernel
theorem dX2_isCastling_22 : decode cX2_isCastling 22 = .ok (.isub, 1) := by decide +kernel
theorem dX2_isCastling_23 : decode cX2_isCastling 23 = .ok (.iconst 2, 1) := by decide +kernel
theorem dX2_isCastling_24 : decode cX2_isCastling 24 = .ok (.if_icmp .ne 7, 3) := by decide +kernel
theorem dX2_isCastling_27 : decode cX2_isCastling 27 = .ok (.iconst 1, 1) := by decide +kernel
theorem dX2_isCastling_28 : decode cX2_isCastling 28 = .ok (.goto 4, 3) := by decide +kernel
theorem dX2_isCastling_31 : decode cX2_isCastling 31 = .ok (.iconst 0, 1) := by decide +kernel
theorem dX2_isCastling_32 : decode cX2_isCastling 32 = .ok (.ireturn, 1) := by decide +kernel
theorem hd_X2_isCastling : yX2_isCastling.cls ≠ "java/lang/invoke/MethodHandle" ∧ yX2_isCastling.cls ≠ "java/lang/invoke/VarHandle" ∧ (parseMethodDescriptor yX2_isCastling.desc).map (fun d => d.parameters.length) = some 2 := by decide +kernel
set_option maxHeartbeats 4000000 in
set_option maxRecDepth 100000 in
/-- isCastling -/
theorem c_X2_isCastling (l : Launch) {D : va_G} {cI cJ : ClassId} {A : Nat → Prop} {h0 h1 h2 a0 a1 a2 a3 h3 a4 h4 a5 : Nat} {kn op : Int32} {ow tr fu kg co pn : Int64} {si ri pa ma : Int32} {pcs : Nat → Int32} {sqa : Nat → Int64} {mvs los : Nat → Int32} {lsz : Int32} {lfs : Nat → Int32} {asz : Int32} {afs : Nat → Int32} (bd : Nat → Nat) (hCP : CP pcs sqa bd) (f t : Nat) (hf : f < 64) (ht : t < 64) : Met l yX2_isCastling (Cond.code yX2_isCastling cX2_isCastling 3 (some .boolean) :: wsL_law) (rK 1) (va_Pc [.ref h2, .int (nI f), .int (nI t)] (IW D cI cJ A (cW cI cJ h0 h1 h2 a0 a1 a2 a3 h3 a4 h4 a5 kn op ow tr fu kg co pn si ri pa ma pcs sqa mvs los lsz lfs asz afs))) (vp_Si (fun r => r = bI (ict bd f t))) 0 0 (fun _ => False) := by
  refine entM (by decide) (Nat.le_of_ble_eq_true rfl) ?_
  intro p e s m below meth c ls S0 hr hlocks hG hnm hB hl
  have hx := S0.1
  have hb := S0.2.1
  have hown := S0.2.2.2.1
  have hl : lv_has ls 3 [(0, .ref h2), (1, .int (nI f)), (2, .int (nI t))] := hl
  obtain ⟨hP, hD, hK, hA, hE⟩ := hB
  have hS : va_S A s.heap s.heap [] := va_S.rf
  have hfb := (hCP.1 f hf).2
  have hkf := kd_lt hfb
  refine lv_aload_n hx hb dX2_isCastling_0 rfl (lv_at hl 0 rfl) ?_
  refine lv_iload_n hx hb dX2_isCastling_1 rfl (lv_at hl 1 rfl) ?_
  refine roI (rnV (As := [.int (nI f)]) (rest := []) S0 (c_X2_pieceOn l bd hCP f (by omega)) wm_X2_105 wi_X2_pieceOn ws_X2_pieceOn wn_X2 wc_X2_pieceOn hd_X2_pieceOn ⟨rfl, rfl, by decide, by decide⟩ IW.blind (va_recv hK hP (ci := 1) (q0 := 2) rfl rfl) (IW.at hP hD hK hA hE hS) hl.1 (Nat.le_of_ble_eq_true rfl) dX2_isCastling_2 rfl ⟨by decide, by decide⟩) (fun r_1 hr_1 => ?_)
  subst hr_1
  refine roI (rnSN (host := RX4) (As := [.int (nI (bd f))]) (rest := []) S0 (c_X4_typeOf l (bd f) (by omega)) (nl_X2_127 hE.1) wt_X4_typeOf wn_X4 wc_X4_typeOf hd_X4_typeOf ⟨rfl, rfl, by decide, by decide⟩ True.blind (fun _ _ _ => trivial) hl.1 (Nat.le_of_ble_eq_true rfl) dX2_isCastling_5 rfl ⟨by decide, by decide⟩) (fun r_2 hr_2 => ?_)
  subst hr_2
  refine lv_bipush (v := (nI 6)) hx hb dX2_isCastling_8 (by decide) ?_
  refine ln_icmp_ne (tgt := 31) hx hb dX2_isCastling_10 (by decide) (by omega) (by decide) (fun c10 => ?_) (fun c10 => ?_)
  · skip
    refine lv_iconst (v := (nI 0)) hx hb dX2_isCastling_31 (by decide) ?_
    exact reZ (v := false) hx hb hr hlocks dX2_isCastling_32 (congrArg bI (by unfold ict; first | (rw [decide_eq_false c10]; rfl) | (rw [decide_eq_true c10, decide_eq_true c17]; rfl) | (rw [decide_eq_true c10, decide_eq_false c17, decide_eq_true c24]; rfl) | (rw [decide_eq_true c10, decide_eq_false c17, decide_eq_false c24]; rfl)))
  · skip
    refine lv_iload_n hx hb dX2_isCastling_13 rfl (lv_at hl 2 rfl) ?_
    refine lv_iload_n hx hb dX2_isCastling_14 rfl (lv_at hl 1 rfl) ?_
    refine lv_isub hx hb dX2_isCastling_15 ?_
    refine lv_iconst (v := (nI 2)) hx hb dX2_isCastling_16 (by decide) ?_
    refine lv_icmp_eq (tgt := 27) hx hb dX2_isCastling_17 (by decide) (fun c17 => ?_) (fun c17 => ?_)
    · skip
      rw [(dif2 hf ht).1] at c17
      refine lv_iconst (v := (nI 1)) hx hb dX2_isCastling_27 (by decide) ?_
      refine lv_goto (tgt := 32) hx hb dX2_isCastling_28 (by decide) ?_
      exact reZ (v := true) hx hb hr hlocks dX2_isCastling_32 (congrArg bI (by unfold ict; first | (rw [decide_eq_false c10]; rfl) | (rw [decide_eq_true c10, decide_eq_true c17]; rfl) | (rw [decide_eq_true c10, decide_eq_false c17, decide_eq_true c24]; rfl) | (rw [decide_eq_true c10, decide_eq_false c17, decide_eq_false c24]; rfl)))
    · skip
      rw [(dif2 hf ht).1] at c17
      refine lv_iload_n hx hb dX2_isCastling_20 rfl (lv_at hl 1 rfl) ?_
      refine lv_iload_n hx hb dX2_isCastling_21 rfl (lv_at hl 2 rfl) ?_
      refine lv_isub hx hb dX2_isCastling_22 ?_
      refine lv_iconst (v := (nI 2)) hx hb dX2_isCastling_23 (by decide) ?_
      refine lv_icmp_ne (tgt := 31) hx hb dX2_isCastling_24 (by decide) (fun c24 => ?_) (fun c24 => ?_)
      · skip
        rw [(dif2 ht hf).1] at c24
        refine lv_iconst (v := (nI 0)) hx hb dX2_isCastling_31 (by decide) ?_
        exact reZ (v := false) hx hb hr hlocks dX2_isCastling_32 (congrArg bI (by unfold ict; first | (rw [decide_eq_false c10]; rfl) | (rw [decide_eq_true c10, decide_eq_true c17]; rfl) | (rw [decide_eq_true c10, decide_eq_false c17, decide_eq_true c24]; rfl) | (rw [decide_eq_true c10, decide_eq_false c17, decide_eq_false c24]; rfl)))
      · skip
        rw [(dif2 ht hf).1] at c24
        refine lv_iconst (v := (nI 1)) hx hb dX2_isCastling_27 (by decide) ?_
        refine lv_goto (tgt := 32) hx hb dX2_isCastling_28 (by decide) ?_
        exact reZ (v := true) hx hb hr hlocks dX2_isCastling_32 (congrArg bI (by unfold ict; first | (rw [decide_eq_false c10]; rfl) | (rw [decide_eq_true c10, decide_eq_true c17]; rfl) | (rw [decide_eq_true c10, decide_eq_false c17, decide_eq_true c24]; rfl) | (rw [decide_eq_true c10, decide_eq_false c17, decide_eq_false c24]; rfl)))
theorem dX2_rookCorner_0 : decode cX2_rookCorner 0 = .ok (.iload_n 1, 1) := by decide +kernel
theorem dX2_rookCorner_1 : decode cX2_rookCorner 1 = .ok (.iload_n 0, 1) := by decide +kernel
theorem dX2_rookCorner_2 : decode cX2_rookCorner 2 = .ok (.if_icmp .le 9, 3) := by decide +kernel
theorem dX2_rookCorner_5 : decode cX2_rookCorner 5 = .ok (.iload_n 0, 1) := by decide +kernel
theorem dX2_rookCorner_6 : decode cX2_rookCorner 6 = .ok (.iconst 3, 1) := by decide +kernel
theorem dX2_rookCorner_7 : decode cX2_rookCorner 7 = .ok (.iadd, 1) := by decide +kernel
theorem dX2_rookCorner_8 : decode cX2_rookCorner 8 = .ok (.goto 6, 3) := by decide +kernel
theorem dX2_rookCorner_11 : decode cX2_rookCorner 11 = .ok (.iload_n 0, 1) := by decide +kernel
theorem dX2_rookCorner_12 : decode cX2_rookCorner 12 = .ok (.iconst 4, 1) := by decide +kernel
theorem dX2_rookCorner_13 : decode cX2_rookCorner 13 = .ok (.isub, 1) := by decide +kernel
theorem dX2_rookCorner_14 : decode cX2_rookCorner 14 = .ok (.ireturn, 1) := by decide +kernel
theorem hd_X2_rookCorner : yX2_rookCorner.cls ≠ "java/lang/invoke/MethodHandle" ∧ yX2_rookCorner.cls ≠ "java/lang/invoke/VarHandle" ∧ (parseMethodDescriptor yX2_rookCorner.desc).map (fun d => d.parameters.length) = some 2 := by decide +kernel
set_option maxHeartbeats 4000000 in
set_option maxRecDepth 100000 in
/-- rookCorner -/
theorem c_X2_rookCorner (l : Launch) (f t : Nat) (hf : f < 64) (ht : t < 64) (h4 : t ≤ f → 4 ≤ f) : Met l yX2_rookCorner (Cond.code yX2_rookCorner cX2_rookCorner 2 (some .int) :: wsL_law) (rK 0) (va_Pc [.int (nI f), .int (nI t)] (fun _ => True)) (vp_Si (fun r => r = nI (rok f t))) 0 0 (fun _ => False) := by
  refine entM (by decide) (Nat.le_of_ble_eq_true rfl) ?_
  intro p e s m below meth c ls S0 hr hlocks hG hnm hB hl
  have hx := S0.1
  have hb := S0.2.1
  have hown := S0.2.2.2.1
  have hl : lv_has ls 2 [(0, .int (nI f)), (1, .int (nI t))] := hl
  refine lv_iload_n hx hb dX2_rookCorner_0 rfl (lv_at hl 1 rfl) ?_
  refine lv_iload_n hx hb dX2_rookCorner_1 rfl (lv_at hl 0 rfl) ?_
  refine ln_icmp_le (tgt := 11) hx hb dX2_rookCorner_2 (by decide) (by omega) (by omega) (fun c2 => ?_) (fun c2 => ?_)
  · skip
    have h49 := h4 c2
    refine lv_iload_n hx hb dX2_rookCorner_11 rfl (lv_at hl 0 rfl) ?_
    refine lv_iconst (v := (nI 4)) hx hb dX2_rookCorner_12 (by decide) ?_
    refine ln_isub hx hb dX2_rookCorner_13 (by omega) ?_
    exact reI hx hb hr hlocks dX2_rookCorner_14 (congrArg nI (by unfold rok; first | rw [if_pos (by omega)] | rw [if_neg (by omega)]))
  · skip
    refine lv_iload_n hx hb dX2_rookCorner_5 rfl (lv_at hl 0 rfl) ?_
    refine lv_iconst (v := (nI 3)) hx hb dX2_rookCorner_6 (by decide) ?_
    refine ln_iadd hx hb dX2_rookCorner_7 ?_
    refine lv_goto (tgt := 14) hx hb dX2_rookCorner_8 (by decide) ?_
    exact reI hx hb hr hlocks dX2_rookCorner_14 (congrArg nI (by unfold rok; first | rw [if_pos (by omega)] | rw [if_neg (by omega)]))
theorem dX2_rightsAt_0 : decode cX2_rightsAt 0 = .ok (.iload_n 0, 1) := by decide +kernel
theorem dX2_rightsAt_1 : decode cX2_rightsAt 1 = .ok (.lookupswitch 52 #[(0, 45), (7, 43), (56, 49), (63, 47)], 43) := by decide +kernel
theorem dX2_rightsAt_44 : decode cX2_rightsAt 44 = .ok (.iconst 1, 1) := by decide +kernel
theorem dX2_rightsAt_45 : decode cX2_rightsAt 45 = .ok (.ireturn, 1) := by decide +kernel
theorem dX2_rightsAt_46 : decode cX2_rightsAt 46 = .ok (.iconst 2, 1) := by decide +kernel
theorem dX2_rightsAt_47 : decode cX2_rightsAt 47 = .ok (.ireturn, 1) := by decide +kernel
theorem dX2_rightsAt_48 : decode cX2_rightsAt 48 = .ok (.iconst 4, 1) := by decide +kernel
theorem dX2_rightsAt_49 : decode cX2_rightsAt 49 = .ok (.ireturn, 1) := by decide +kernel
theorem dX2_rightsAt_50 : decode cX2_rightsAt 50 = .ok (.bipush 8, 2) := by decide +kernel
theorem dX2_rightsAt_52 : decode cX2_rightsAt 52 = .ok (.ireturn, 1) := by decide +kernel
theorem dX2_rightsAt_53 : decode cX2_rightsAt 53 = .ok (.iconst 0, 1) := by decide +kernel
theorem dX2_rightsAt_54 : decode cX2_rightsAt 54 = .ok (.ireturn, 1) := by decide +kernel
theorem hd_X2_rightsAt : yX2_rightsAt.cls ≠ "java/lang/invoke/MethodHandle" ∧ yX2_rightsAt.cls ≠ "java/lang/invoke/VarHandle" ∧ (parseMethodDescriptor yX2_rightsAt.desc).map (fun d => d.parameters.length) = some 1 := by decide +kernel
set_option maxHeartbeats 4000000 in
set_option maxRecDepth 100000 in
/-- rightsAt -/
theorem c_X2_rightsAt (l : Launch) (q : Nat) (hq : q < 64) : Met l yX2_rightsAt (Cond.code yX2_rightsAt cX2_rightsAt 1 (some .int) :: wsL_law) (rK 0) (va_Pc [.int (nI q)] (fun _ => True)) (vp_Si (fun r => r = nI (crn q))) 0 0 (fun _ => False) := by
  refine entM (by decide) (Nat.le_of_ble_eq_true rfl) ?_
  intro p e s m below meth c ls S0 hr hlocks hG hnm hB hl
  have hx := S0.1
  have hb := S0.2.1
  have hown := S0.2.2.2.1
  have hl : lv_has ls 1 [(0, .int (nI q))] := hl
  refine lv_iload_n hx hb dX2_rightsAt_0 rfl (lv_at hl 0 rfl) ?_
  by_cases hs_1_0 : q = 0
  · skip
    refine lv_lookup (off := 45) (tgt := 46) hx hb dX2_rightsAt_1 (by decide) (by rw [hs_1_0]; decide) (by decide) ?_
    refine lv_iconst (v := (nI 2)) hx hb dX2_rightsAt_46 (by decide) ?_
    exact reI hx hb hr hlocks dX2_rightsAt_47 (congrArg nI (by unfold crn; (repeat' split) <;> omega))
  by_cases hs_1_7 : q = 7
  · skip
    refine lv_lookup (off := 43) (tgt := 44) hx hb dX2_rightsAt_1 (by decide) (by rw [hs_1_7]; decide) (by decide) ?_
    refine lv_iconst (v := (nI 1)) hx hb dX2_rightsAt_44 (by decide) ?_
    exact reI hx hb hr hlocks dX2_rightsAt_45 (congrArg nI (by unfold crn; (repeat' split) <;> omega))
  by_cases hs_1_56 : q = 56
  · skip
    refine lv_lookup (off := 49) (tgt := 50) hx hb dX2_rightsAt_1 (by decide) (by rw [hs_1_56]; decide) (by decide) ?_
    refine lv_bipush (v := (nI 8)) hx hb dX2_rightsAt_50 (by decide) ?_
    exact reI hx hb hr hlocks dX2_rightsAt_52 (congrArg nI (by unfold crn; (repeat' split) <;> omega))
  by_cases hs_1_63 : q = 63
  · skip
    refine lv_lookup (off := 47) (tgt := 48) hx hb dX2_rightsAt_1 (by decide) (by rw [hs_1_63]; decide) (by decide) ?_
    refine lv_iconst (v := (nI 4)) hx hb dX2_rightsAt_48 (by decide) ?_
    exact reI hx hb hr hlocks dX2_rightsAt_49 (congrArg nI (by unfold crn; (repeat' split) <;> omega))
  refine lv_lookup (off := 52) (tgt := 53) hx hb dX2_rightsAt_1 (by decide) (by rw [nI_toInt (by omega)]; simp only [Op.lookupswitch.offset_cons, Op.lookupswitch.offset_nil]; rw [if_neg (by omega), if_neg (by omega), if_neg (by omega), if_neg (by omega)]) (by decide) ?_
  refine lv_iconst (v := (nI 0)) hx hb dX2_rightsAt_53 (by decide) ?_
  exact reI hx hb hr hlocks dX2_rightsAt_54 (congrArg nI (by unfold crn; (repeat' split) <;> omega))
theorem dX2_passedSquare_0 : decode cX2_passedSquare 0 = .ok (.iload_n 1, 1) := by decide +kernel
theorem dX2_passedSquare_1 : decode cX2_passedSquare 1 = .ok (.invokestatic 127, 3) := by decide +kernel
theorem dX2_passedSquare_4 : decode cX2_passedSquare 4 = .ok (.iconst 1, 1) := by decide +kernel
theorem dX2_passedSquare_5 : decode cX2_passedSquare 5 = .ok (.if_icmp .ne 19, 3) := by decide +kernel
theorem dX2_passedSquare_8 : decode cX2_passedSquare 8 = .ok (.iload_n 3, 1) := by decide +kernel
theorem dX2_passedSquare_9 : decode cX2_passedSquare 9 = .ok (.iload_n 2, 1) := by decide +kernel
theorem dX2_passedSquare_10 : decode cX2_passedSquare 10 = .ok (.isub, 1) := by decide +kernel
theorem dX2_passedSquare_11 : decode cX2_passedSquare 11 = .ok (.bipush 16, 2) := by decide +kernel
theorem dX2_passedSquare_13 : decode cX2_passedSquare 13 = .ok (.if_icmp .eq 13, 3) := by decide +kernel
theorem dX2_passedSquare_16 : decode cX2_passedSquare 16 = .ok (.iload_n 2, 1) := by decide +kernel
theorem dX2_passedSquare_17 : decode cX2_passedSquare 17 = .ok (.iload_n 3, 1) := by decide +kernel
theorem dX2_passedSquare_18 : decode cX2_passedSquare 18 = .ok (.isub, 1) := by decide +kernel
theorem dX2_passedSquare_19 : decode cX2_passedSquare 19 = .ok (.bipush 16, 2) := by decide +kernel
theorem dX2_passedSquare_21 : decode cX2_passedSquare 21 = .ok (.if_icmp .eq 5, 3) := by decide +kernel
theorem dX2_passedSquare_24 : decode cX2_passedSquare 24 = .ok (.iconst (-1), 1) := by decide +kernel
theorem dX2_passedSquare_25 : decode cX2_passedSquare 25 = .ok (.ireturn, 1) := by decide +kernel
theorem dX2_passedSquare_26 : decode cX2_passedSquare 26 = .ok (.iload_n 2, 1) := by decide +kernel
theorem dX2_passedSquare_27 : decode cX2_passedSquare 27 = .ok (.iload_n 3, 1) := by decide +kernel
theorem dX2_passedSquare_28 : decode cX2_passedSquare 28 = .ok (.iadd, 1) := by decide +kernel
theorem dX2_passedSquare_29 : decode cX2_passedSquare 29 = .ok (.iconst 2, 1) := by decide +kernel
theorem dX2_passedSquare_30 : decode cX2_passedSquare 30 = .ok (.idiv, 1) := by decide +kernel
theorem dX2_passedSquare_31 : decode cX2_passedSquare 31 = .ok (.istore 4, 2) := by decide +kernel
theorem dX2_passedSquare_33 : decode cX2_passedSquare 33 = .ok (.aload_n 0, 1) := by decide +kernel
theorem dX2_passedSquare_34 : decode cX2_passedSquare 34 = .ok (.bipush 6, 2) := by decide +kernel
theorem dX2_passedSquare_36 : decode cX2_passedSquare 36 = .ok (.iconst 1, 1) := by decide +kernel
theorem dX2_passedSquare_37 : decode cX2_passedSquare 37 = .ok (.aload_n 0, 1) := by decide +kernel
theorem dX2_passedSquare_38 : decode cX2_passedSquare 38 = .ok (.getfield 21, 3) := by decide +kernel
theorem dX2_passedSquare_41 : decode cX2_passedSquare 41 = .ok (.isub, 1) := by decide +kernel
theorem dX2_passedSquare_42 : decode cX2_passedSquare 42 = .ok (.imul, 1) := by decide +kernel
theorem dX2_passedSquare_43 : decode cX2_passedSquare 43 = .ok (.iconst 1, 1) := by decide +kernel
theorem dX2_passedSquare_44 : decode cX2_passedSquare 44 = .ok (.iadd, 1) := by decide +kernel
theorem dX2_passedSquare_45 : decode cX2_passedSquare 45 = .ok (.invokevirtual 61, 3) := by decide +kernel
theorem dX2_passedSquare_48 : decode cX2_passedSquare 48 = .ok (.lstore 5, 2) := by decide +kernel
theorem dX2_passedSquare_50 : decode cX2_passedSquare 50 = .ok (.lload 5, 2) := by decide +kernel
theorem dX2_passedSquare_52 : decode cX2_passedSquare 52 = .ok (.iconst 1, 1) := by decide +kernel
theorem dX2_passedSquare_53 : decode cX2_passedSquare 53 = .ok (.aload_n 0, 1) := by decide +kernel
theorem dX2_passedSquare_54 : decode cX2_passedSquare 54 = .ok (.getfield 21, 3) := by decide +kernel
theorem dX2_passedSquare_57 : decode cX2_passedSquare 57 = .ok (.isub, 1) := by decide +kernel
theorem dX2_passedSquare_58 : decode cX2_passedSquare 58 = .ok (.invokestatic 64, 3) := by decide +kernel
theorem dX2_passedSquare_61 : decode cX2_passedSquare 61 = .ok (.iload 4, 2) := by decide +kernel
theorem dX2_passedSquare_63 : decode cX2_passedSquare 63 = .ok (.invokestatic 57, 3) := by decide +kernel
theorem dX2_passedSquare_66 : decode cX2_passedSquare 66 = .ok (.land, 1) := by decide +kernel
theorem dX2_passedSquare_67 : decode cX2_passedSquare 67 = .ok (.lconst 0, 1) := by decide +kernel
theorem dX2_passedSquare_68 : decode cX2_passedSquare 68 = .ok (.lcmp, 1) := by decide +kernel
theorem dX2_passedSquare_69 : decode cX2_passedSquare 69 = .ok (.ifCond .eq 8, 3) := by decide +kernel
theorem dX2_passedSquare_72 : decode cX2_passedSquare 72 = .ok (.iload 4, 2) := by decide +kernel
theorem dX2_passedSquare_74 : decode cX2_passedSquare 74 = .ok (.goto 4, 3) := by decide +kernel
theorem dX2_passedSquare_77 : decode cX2_passedSquare 77 = .ok (.iconst (-1), 1) := by decide +kernel
theorem dX2_passedSquare_78 : decode cX2_passedSquare 78 = .ok (.ireturn, 1) := by decide +kernel
theorem hd_X2_passedSquare : yX2_passedSquare.cls ≠ "java/lang/invoke/MethodHandle" ∧ yX2_passedSquare.cls ≠ "java/lang/invoke/VarHandle" ∧ (parseMethodDescriptor yX2_passedSquare.desc).map (fun d => d.parameters.length) = some 3 := by decide +kernel
set_option maxHeartbeats 4000000 in
set_option maxRecDepth 100000 in
/-- passedSquare -/
theorem c_X2_passedSquare (l : Launch) {D : va_G} {cI cJ : ClassId} {A : Nat → Prop} {h0 h1 h2 a0 a1 a2 a3 h3 a4 h4 a5 : Nat} {kn op : Int32} {ow tr fu kg co pn : Int64} {ri pa ma : Int32} {pcs : Nat → Int32} {sqa : Nat → Int64} {mvs los : Nat → Int32} {lsz : Int32} {lfs : Nat → Int32} {asz : Int32} {afs : Nat → Int32} (bd : Nat → Nat) (hCP : CP pcs sqa bd) (sd k f t : Nat) (hs2 : sd < 2) (hk : k < 13) (hf : f < 64) (ht : t < 64) : Met l yX2_passedSquare (Cond.code yX2_passedSquare cX2_passedSquare 7 (some .int) :: wsL_law) (rK 1) (va_Pc [.ref h2, .int (nI k), .int (nI f), .int (nI t)] (IW D cI cJ A (cW cI cJ h0 h1 h2 a0 a1 a2 a3 h3 a4 h4 a5 kn op ow tr fu kg co pn (nI sd) ri pa ma pcs sqa mvs los lsz lfs asz afs))) (vp_Si (fun r => r = pI (pss bd sd k f t))) 0 0 (fun _ => False) := by
  refine entM (by decide) (Nat.le_of_ble_eq_true rfl) ?_
  intro p e s m below meth c ls S0 hr hlocks hG hnm hB hl
  have hx := S0.1
  have hb := S0.2.1
  have hown := S0.2.2.2.1
  have hl : lv_has ls 7 [(0, .ref h2), (1, .int (nI k)), (2, .int (nI f)), (3, .int (nI t))] := hl
  obtain ⟨hP, hD, hK, hA, hE⟩ := hB
  have hS : va_S A s.heap s.heap [] := va_S.rf
  have hkk := kd_lt hk
  refine lv_iload_n hx hb dX2_passedSquare_0 rfl (lv_at hl 1 rfl) ?_
  refine roI (rnSN (host := RX4) (As := [.int (nI k)]) (rest := []) S0 (c_X4_typeOf l k (by omega)) (nl_X2_127 hE.1) wt_X4_typeOf wn_X4 wc_X4_typeOf hd_X4_typeOf ⟨rfl, rfl, by decide, by decide⟩ True.blind (fun _ _ _ => trivial) hl.1 (Nat.le_of_ble_eq_true rfl) dX2_passedSquare_1 rfl ⟨by decide, by decide⟩) (fun r_1 hr_1 => ?_)
  subst hr_1
  refine lv_iconst (v := (nI 1)) hx hb dX2_passedSquare_4 (by decide) ?_
  refine ln_icmp_ne (tgt := 24) hx hb dX2_passedSquare_5 (by decide) (by omega) (by decide) (fun c5 => ?_) (fun c5 => ?_)
  · skip
    refine lv_iconst (v := (-1)) hx hb dX2_passedSquare_24 (by decide) ?_
    exact reI hx hb hr hlocks dX2_passedSquare_25 (by unfold pss; first | (rw [if_neg (show ¬ (kd k = 1 ∧ (t = f + 16 ∨ f = t + 16)) by omega)]; rfl))
  · skip
    refine lv_iload_n hx hb dX2_passedSquare_8 rfl (lv_at hl 3 rfl) ?_
    refine lv_iload_n hx hb dX2_passedSquare_9 rfl (lv_at hl 2 rfl) ?_
    refine lv_isub hx hb dX2_passedSquare_10 ?_
    refine lv_bipush (v := (nI 16)) hx hb dX2_passedSquare_11 (by decide) ?_
    refine jnH (t = f + 16 ∨ f = t + 16) 26 7 [(0, .ref h2), (1, .int (nI k)), (2, .int (nI f)), (3, .int (nI t))] [] ?_ (fun hj_26 => ?_)
    · intro hp_26 ls hl
      refine lv_iload_n hx hb dX2_passedSquare_26 rfl (lv_at hl 2 rfl) ?_
      refine lv_iload_n hx hb dX2_passedSquare_27 rfl (lv_at hl 3 rfl) ?_
      refine ln_iadd hx hb dX2_passedSquare_28 ?_
      refine lv_iconst (v := (nI 2)) hx hb dX2_passedSquare_29 (by decide) ?_
      refine ln_idiv hx hb dX2_passedSquare_30 (by omega) (by decide) (by decide) ?_
      refine lv_istore (lv' := [(4, .int (nI ((f + t) / 2))), (0, .ref h2), (1, .int (nI k)), (2, .int (nI f)), (3, .int (nI t))]) hx hb dX2_passedSquare_31 hl (by decide) rfl (fun ls hl => ?_)
      refine lv_aload_n hx hb dX2_passedSquare_33 rfl (lv_at hl 1 rfl) ?_
      refine lv_bipush (v := (nI 6)) hx hb dX2_passedSquare_34 (by decide) ?_
      refine lv_iconst (v := (nI 1)) hx hb dX2_passedSquare_36 (by decide) ?_
      refine lv_aload_n hx hb dX2_passedSquare_37 rfl (lv_at hl 1 rfl) ?_
      refine va_get (D := D) (ci := 1) (v := .int (nI sd)) (C := RX2) (T := TX2) (N := 8) hx hb hG wu_X2 hown hK hP 2 rfl rfl 2 (by decide) (hG _ wf_X2_21) (fun _ h9 => h9) rfl dX2_passedSquare_38 ?_
      refine ln_isub hx hb dX2_passedSquare_41 (by omega) ?_
      refine ln_imul hx hb dX2_passedSquare_42 ?_
      refine lv_iconst (v := (nI 1)) hx hb dX2_passedSquare_43 (by decide) ?_
      refine ln_iadd hx hb dX2_passedSquare_44 ?_
      refine roL (rnV (As := [.int (nI ((6 * (1 - sd)) + 1))]) (rest := []) S0 (c_X2_squaresOf l bd hCP ((6 * (1 - sd)) + 1) (by omega)) wm_X2_61 wi_X2_squaresOf ws_X2_squaresOf wn_X2 wc_X2_squaresOf hd_X2_squaresOf ⟨rfl, rfl, by decide, by decide⟩ IW.blind (va_recv hK hP (ci := 1) (q0 := 2) rfl rfl) (IW.at hP hD hK hA hE hS) hl.1 (Nat.le_of_ble_eq_true rfl) dX2_passedSquare_45 rfl ⟨by decide, by decide⟩) (fun r_2 hr_2 => ?_)
      subst hr_2
      refine lv_lstore (lv' := [(5, .long (sqs bd ((6 * (1 - sd)) + 1))), (4, .int (nI ((f + t) / 2))), (0, .ref h2), (1, .int (nI k)), (2, .int (nI f)), (3, .int (nI t))]) hx hb dX2_passedSquare_48 hl (by decide) rfl (fun ls hl => ?_)
      refine lv_lload hx hb dX2_passedSquare_50 (lv_at hl 0 rfl) ?_
      refine lv_iconst (v := (nI 1)) hx hb dX2_passedSquare_52 (by decide) ?_
      refine lv_aload_n hx hb dX2_passedSquare_53 rfl (lv_at hl 2 rfl) ?_
      refine va_get (D := D) (ci := 1) (v := .int (nI sd)) (C := RX2) (T := TX2) (N := 8) hx hb hG wu_X2 hown hK hP 2 rfl rfl 2 (by decide) (hG _ wf_X2_21) (fun _ h9 => h9) rfl dX2_passedSquare_54 ?_
      refine ln_isub hx hb dX2_passedSquare_57 (by omega) ?_
      refine roL (rnS (As := [.long (sqs bd ((6 * (1 - sd)) + 1)), .int (nI (1 - sd))]) (rest := []) S0 (c_X0_ofPawns l (sqs bd ((6 * (1 - sd)) + 1)) (1 - sd) (by omega)) wm_X2_64 wt_X0_ofPawns wn_X0 wc_X0_ofPawns hd_X0_ofPawns ⟨rfl, rfl, by decide, by decide⟩ True.blind (fun _ _ _ => trivial) hl.1 (Nat.le_of_ble_eq_true rfl) dX2_passedSquare_58 rfl ⟨by decide, by decide⟩) (fun r_3 hr_3 => ?_)
      subst hr_3
      refine lv_iload hx hb dX2_passedSquare_61 (lv_at hl 1 rfl) ?_
      refine roL (rnSN (host := RX4) (As := [.int (nI ((f + t) / 2))]) (rest := [.long (opw (sqs bd ((6 * (1 - sd)) + 1)) (1 - sd))]) S0 (c_X4_bit l (nI ((f + t) / 2))) (nl_X2_57 hE.1) wt_X4_bit wn_X4 wc_X4_bit hd_X4_bit ⟨rfl, rfl, by decide, by decide⟩ True.blind (fun _ _ _ => trivial) hl.1 (Nat.le_of_ble_eq_true rfl) dX2_passedSquare_63 rfl ⟨by decide, by decide⟩) (fun r_4 hr_4 => ?_)
      subst hr_4
      refine lv_land hx hb dX2_passedSquare_66 ?_
      refine lv_lconst (v := 0) hx hb dX2_passedSquare_67 (by decide) ?_
      refine W.lcmp hx hb dX2_passedSquare_68 ?_
      refine lc_if_eq (tgt := 77) hx hb dX2_passedSquare_69 (by decide) (fun c69 => ?_) (fun c69 => ?_)
      · skip
        refine lv_iconst (v := (-1)) hx hb dX2_passedSquare_77 (by decide) ?_
        exact reI hx hb hr hlocks dX2_passedSquare_78 (by unfold pss; rw [if_pos ⟨c5, hp_26⟩]; first | (rw [if_pos c69]; rfl) | (rw [if_neg c69, pI_lt (by omega)]))
      · skip
        refine lv_iload hx hb dX2_passedSquare_72 (lv_at hl 1 rfl) ?_
        refine lv_goto (tgt := 78) hx hb dX2_passedSquare_74 (by decide) ?_
        exact reI hx hb hr hlocks dX2_passedSquare_78 (by unfold pss; rw [if_pos ⟨c5, hp_26⟩]; first | (rw [if_pos c69]; rfl) | (rw [if_neg c69, pI_lt (by omega)]))
    · skip
      refine lv_icmp_eq (tgt := 26) hx hb dX2_passedSquare_13 (by decide) (fun c13 => ?_) (fun c13 => ?_)
      · skip
        rw [dif16 hf ht] at c13
        exact hj_26 (by omega) ls (lv_sub hl [0, 1, 2, 3] rfl)
      · skip
        rw [dif16 hf ht] at c13
        refine lv_iload_n hx hb dX2_passedSquare_16 rfl (lv_at hl 2 rfl) ?_
        refine lv_iload_n hx hb dX2_passedSquare_17 rfl (lv_at hl 3 rfl) ?_
        refine lv_isub hx hb dX2_passedSquare_18 ?_
        refine lv_bipush (v := (nI 16)) hx hb dX2_passedSquare_19 (by decide) ?_
        refine lv_icmp_eq (tgt := 26) hx hb dX2_passedSquare_21 (by decide) (fun c21 => ?_) (fun c21 => ?_)
        · skip
          rw [dif16 ht hf] at c21
          exact hj_26 (by omega) ls (lv_sub hl [0, 1, 2, 3] rfl)
        · skip
          rw [dif16 ht hf] at c21
          refine lv_iconst (v := (-1)) hx hb dX2_passedSquare_24 (by decide) ?_
          exact reI hx hb hr hlocks dX2_passedSquare_25 (by unfold pss; first | (rw [if_neg (show ¬ (kd k = 1 ∧ (t = f + 16 ∨ f = t + 16)) by omega)]; rfl))
theorem dX2_carry_0 : decode cX2_carry 0 = .ok (.aload_n 0, 1) := by decide +kernel
theorem dX2_carry_1 : decode cX2_carry 1 = .ok (.iload_n 2, 1) := by decide +kernel
theorem dX2_carry_2 : decode cX2_carry 2 = .ok (.aload_n 0, 1) := by decide +kernel
theorem dX2_carry_3 : decode cX2_carry 3 = .ok (.iload_n 1, 1) := by decide +kernel
theorem dX2_carry_4 : decode cX2_carry 4 = .ok (.invokevirtual 105, 3) := by decide +kernel
theorem dX2_carry_7 : decode cX2_carry 7 = .ok (.invokevirtual 40, 3) := by decide +kernel
theorem dX2_carry_10 : decode cX2_carry 10 = .ok (.aload_n 0, 1) := by decide +kernel
theorem dX2_carry_11 : decode cX2_carry 11 = .ok (.iload_n 1, 1) := by decide +kernel
theorem dX2_carry_12 : decode cX2_carry 12 = .ok (.iconst 0, 1) := by decide +kernel
theorem dX2_carry_13 : decode cX2_carry 13 = .ok (.invokevirtual 40, 3) := by decide +kernel
theorem dX2_carry_16 : decode cX2_carry 16 = .ok (.return_, 1) := by decide +kernel
theorem hd_X2_carry : yX2_carry.cls ≠ "java/lang/invoke/MethodHandle" ∧ yX2_carry.cls ≠ "java/lang/invoke/VarHandle" ∧ (parseMethodDescriptor yX2_carry.desc).map (fun d => d.parameters.length) = some 2 := by decide +kernel
set_option maxHeartbeats 4000000 in
set_option maxRecDepth 100000 in
/-- carry -/
theorem c_X2_carry (l : Launch) {D : va_G} {cI cJ : ClassId} {A : Nat → Prop} {h0 h1 h2 a0 a1 a2 a3 h3 a4 h4 a5 : Nat} {kn op : Int32} {ow tr fu kg co pn : Int64} {si ri pa ma : Int32} {pcs : Nat → Int32} {sqa : Nat → Int64} {mvs los : Nat → Int32} {lsz : Int32} {lfs : Nat → Int32} {asz : Int32} {afs : Nat → Int32} (bd : Nat → Nat) (hCP : CP pcs sqa bd) (q v : Nat) (hq : q < 64) (hv : v < 64) : Met l yX2_carry (Cond.code yX2_carry cX2_carry 3 none :: wsL_law) (rK 2) (va_Pc [.ref h2, .int (nI q), .int (nI v)] (IW D cI cJ A (cW cI cJ h0 h1 h2 a0 a1 a2 a3 h3 a4 h4 a5 kn op ow tr fu kg co pn si ri pa ma pcs sqa mvs los lsz lfs asz afs))) (va_Qv (fun u => CP u.1 u.2 (cry bd q v)) (fun (u : (Nat → Int32) × (Nat → Int64)) t9 => IW D cI cJ A (cW cI cJ h0 h1 h2 a0 a1 a2 a3 h3 a4 h4 a5 kn op ow tr fu kg co pn si ri pa ma u.1 u.2 mvs los lsz lfs asz afs) t9) A) 0 0 A := by
  refine entM (by decide) (Nat.le_of_ble_eq_true rfl) ?_
  intro p e s m below meth c ls S0 hr hlocks hG hnm hB hl
  have hx := S0.1
  have hb := S0.2.1
  have hown := S0.2.2.2.1
  have hl : lv_has ls 3 [(0, .ref h2), (1, .int (nI q)), (2, .int (nI v))] := hl
  obtain ⟨hP, hD, hK, hA, hE⟩ := hB
  have hS : va_S A s.heap s.heap [] := va_S.rf
  have hbq := (hCP.1 q hq).2
  refine lv_aload_n hx hb dX2_carry_0 rfl (lv_at hl 0 rfl) ?_
  refine lv_iload_n hx hb dX2_carry_1 rfl (lv_at hl 2 rfl) ?_
  refine lv_aload_n hx hb dX2_carry_2 rfl (lv_at hl 0 rfl) ?_
  refine lv_iload_n hx hb dX2_carry_3 rfl (lv_at hl 1 rfl) ?_
  refine roI (rnV (As := [.int (nI q)]) (rest := [.int (nI v), .ref h2]) S0 (c_X2_pieceOn l bd hCP q (by omega)) wm_X2_105 wi_X2_pieceOn ws_X2_pieceOn wn_X2 wc_X2_pieceOn hd_X2_pieceOn ⟨rfl, rfl, by decide, by decide⟩ IW.blind (va_recv hK hP (ci := 1) (q0 := 2) rfl rfl) (IW.at hP hD hK hA hE hS) hl.1 (Nat.le_of_ble_eq_true rfl) dX2_carry_4 rfl ⟨by decide, by decide⟩) (fun r_1 hr_1 => ?_)
  subst hr_1
  refine chV (rnV (As := [.int (nI v), .int (nI (bd q))]) (rest := []) S0 (c_X2_set l bd hCP v (bd q) (by omega) (by omega)) wm_X2_40 wi_X2_set ws_X2_set wn_X2 wc_X2_set hd_X2_set ⟨rfl, rfl, by decide, by decide⟩ IW.blind (va_recv hK hP (ci := 1) (q0 := 2) rfl rfl) (IW.at hP hD hK hA hE hS) hl.1 (Nat.le_of_ble_eq_true rfl) dX2_carry_7 rfl ⟨by decide, by decide⟩) hS (fun u1 H locs hu hP hD hS => ?_)
  have hC1 := hu
  have hP : va_P D classes (cW cI cJ h0 h1 h2 a0 a1 a2 a3 h3 a4 h4 a5 kn op ow tr fu kg co pn si ri pa ma u1.1 u1.2 mvs los lsz lfs asz afs) H := hP
  have hD : va_D A (cW cI cJ h0 h1 h2 a0 a1 a2 a3 h3 a4 h4 a5 kn op ow tr fu kg co pn si ri pa ma u1.1 u1.2 mvs los lsz lfs asz afs) := hD
  refine lv_aload_n hx hb dX2_carry_10 rfl (lv_at hl 0 rfl) ?_
  refine lv_iload_n hx hb dX2_carry_11 rfl (lv_at hl 1 rfl) ?_
  refine lv_iconst (v := (nI 0)) hx hb dX2_carry_12 (by decide) ?_
  refine chV (rnV (As := [.int (nI q), .int (nI 0)]) (rest := []) S0 (c_X2_set l (upN bd v (bd q)) hC1 q 0 (by omega) (by omega)) wm_X2_40 wi_X2_set ws_X2_set wn_X2 wc_X2_set hd_X2_set ⟨rfl, rfl, by decide, by decide⟩ IW.blind (va_recv hK hP (ci := 1) (q0 := 2) rfl rfl) (IW.at hP hD hK hA hE hS) hl.1 (Nat.le_of_ble_eq_true rfl) dX2_carry_13 rfl ⟨by decide, by decide⟩) hS (fun u2 H locs hu hP hD hS => ?_)
  have hC2 := hu
  have hP : va_P D classes (cW cI cJ h0 h1 h2 a0 a1 a2 a3 h3 a4 h4 a5 kn op ow tr fu kg co pn si ri pa ma u2.1 u2.2 mvs los lsz lfs asz afs) H := hP
  have hD : va_D A (cW cI cJ h0 h1 h2 a0 a1 a2 a3 h3 a4 h4 a5 kn op ow tr fu kg co pn si ri pa ma u2.1 u2.2 mvs los lsz lfs asz afs) := hD
  exact weV ((u2.1, u2.2)) hx hb hr hlocks dX2_carry_16 hC2 hP hD hK hA hE hS
theorem dX2_remember_0 : decode cX2_remember 0 = .ok (.aload_n 0, 1) := by decide +kernel
theorem dX2_remember_1 : decode cX2_remember 1 = .ok (.getfield 37, 3) := by decide +kernel
theorem dX2_remember_4 : decode cX2_remember 4 = .ok (.ifCond .lt 69, 3) := by decide +kernel
theorem dX2_remember_7 : decode cX2_remember 7 = .ok (.aload_n 0, 1) := by decide +kernel
theorem dX2_remember_8 : decode cX2_remember 8 = .ok (.getfield 37, 3) := by decide +kernel
theorem dX2_remember_11 : decode cX2_remember 11 = .ok (.sipush 204, 3) := by decide +kernel
theorem dX2_remember_14 : decode cX2_remember 14 = .ok (.if_icmp .ge 59, 3) := by decide +kernel
theorem dX2_remember_17 : decode cX2_remember 17 = .ok (.aload_n 0, 1) := by decide +kernel
theorem dX2_remember_18 : decode cX2_remember 18 = .ok (.getfield 31, 3) := by decide +kernel
theorem dX2_remember_21 : decode cX2_remember 21 = .ok (.aload_n 0, 1) := by decide +kernel
theorem dX2_remember_22 : decode cX2_remember 22 = .ok (.getfield 37, 3) := by decide +kernel
theorem dX2_remember_25 : decode cX2_remember 25 = .ok (.iload_n 1, 1) := by decide +kernel
theorem dX2_remember_26 : decode cX2_remember 26 = .ok (.iastore, 1) := by decide +kernel
theorem dX2_remember_27 : decode cX2_remember 27 = .ok (.aload_n 0, 1) := by decide +kernel
theorem dX2_remember_28 : decode cX2_remember 28 = .ok (.getfield 34, 3) := by decide +kernel
theorem dX2_remember_31 : decode cX2_remember 31 = .ok (.aload_n 0, 1) := by decide +kernel
theorem dX2_remember_32 : decode cX2_remember 32 = .ok (.getfield 37, 3) := by decide +kernel
theorem dX2_remember_35 : decode cX2_remember 35 = .ok (.aload_n 0, 1) := by decide +kernel
theorem dX2_remember_36 : decode cX2_remember 36 = .ok (.iload_n 2, 1) := by decide +kernel
theorem dX2_remember_37 : decode cX2_remember 37 = .ok (.invokevirtual 105, 3) := by decide +kernel
theorem dX2_remember_40 : decode cX2_remember 40 = .ok (.iload_n 2, 1) := by decide +kernel
theorem dX2_remember_41 : decode cX2_remember 41 = .ok (.iconst 4, 1) := by decide +kernel
theorem dX2_remember_42 : decode cX2_remember 42 = .ok (.ishl, 1) := by decide +kernel
theorem dX2_remember_43 : decode cX2_remember 43 = .ok (.ior, 1) := by decide +kernel
theorem dX2_remember_44 : decode cX2_remember 44 = .ok (.aload_n 0, 1) := by decide +kernel
theorem dX2_remember_45 : decode cX2_remember 45 = .ok (.getfield 25, 3) := by decide +kernel
theorem dX2_remember_48 : decode cX2_remember 48 = .ok (.bipush 10, 2) := by decide +kernel
theorem dX2_remember_50 : decode cX2_remember 50 = .ok (.ishl, 1) := by decide +kernel
theorem dX2_remember_51 : decode cX2_remember 51 = .ok (.ior, 1) := by decide +kernel
theorem dX2_remember_52 : decode cX2_remember 52 = .ok (.aload_n 0, 1) := by decide +kernel
theorem dX2_remember_53 : decode cX2_remember 53 = .ok (.getfield 28, 3) := by decide +kernel
theorem dX2_remember_56 : decode cX2_remember 56 = .ok (.iconst 1, 1) := by decide +kernel
theorem dX2_remember_57 : decode cX2_remember 57 = .ok (.iadd, 1) := by decide +kernel
theorem dX2_remember_58 : decode cX2_remember 58 = .ok (.bipush 14, 2) := by decide +kernel
theorem dX2_remember_60 : decode cX2_remember 60 = .ok (.ishl, 1) := by decide +kernel
theorem dX2_remember_61 : decode cX2_remember 61 = .ok (.ior, 1) := by decide +kernel
theorem dX2_remember_62 : decode cX2_remember 62 = .ok (.iastore, 1) := by decide +kernel
theorem dX2_remember_63 : decode cX2_remember 63 = .ok (.aload_n 0, 1) := by decide +kernel
theorem dX2_remember_64 : decode cX2_remember 64 = .ok (.dup, 1) := by decide +kernel
theorem dX2_remember_65 : decode cX2_remember 65 = .ok (.getfield 37, 3) := by decide +kernel
theorem dX2_remember_68 : decode cX2_remember 68 = .ok (.iconst 1, 1) := by decide +kernel
theorem dX2_remember_69 : decode cX2_remember 69 = .ok (.iadd, 1) := by decide +kernel
theorem dX2_remember_70 : decode cX2_remember 70 = .ok (.putfield 37, 3) := by decide +kernel
theorem dX2_remember_73 : decode cX2_remember 73 = .ok (.return_, 1) := by decide +kernel
theorem hd_X2_remember : yX2_remember.cls ≠ "java/lang/invoke/MethodHandle" ∧ yX2_remember.cls ≠ "java/lang/invoke/VarHandle" ∧ (parseMethodDescriptor yX2_remember.desc).map (fun d => d.parameters.length) = some 2 := by decide +kernel
set_option maxHeartbeats 4000000 in
set_option maxRecDepth 100000 in
/-- remember -/
theorem c_X2_remember (l : Launch) {D : va_G} {cI cJ : ClassId} {A : Nat → Prop} {h0 h1 h2 a0 a1 a2 a3 h3 a4 h4 a5 : Nat} {kn op : Int32} {ow tr fu kg co pn : Int64} {si : Int32} {pcs : Nat → Int32} {sqa : Nat → Int64} {mvs los : Nat → Int32} {lsz : Int32} {lfs : Nat → Int32} {asz : Int32} {afs : Nat → Int32} (bd : Nat → Nat) (hCP : CP pcs sqa bd) (rt ps n q : Nat) (hr16 : rt < 16) (hp65 : ps < 65) (hn : n < 204) (hq : q < 64) (x : Int32) : Met l yX2_remember (Cond.code yX2_remember cX2_remember 3 none :: wsL_law) (rK 1) (va_Pc [.ref h2, .int x, .int (nI q)] (IW D cI cJ A (cW cI cJ h0 h1 h2 a0 a1 a2 a3 h3 a4 h4 a5 kn op ow tr fu kg co pn si (nI rt) (pI ps) (nI n) pcs sqa mvs los lsz lfs asz afs))) (va_Qv (fun _ => True) (fun (u : Unit) t9 => IW D cI cJ A (cW cI cJ h0 h1 h2 a0 a1 a2 a3 h3 a4 h4 a5 kn op ow tr fu kg co pn si (nI rt) (pI ps) (nI (n + 1)) pcs sqa (upd mvs n x) (upd los n (losE (bd q) q rt ps)) lsz lfs asz afs) t9) A) 0 0 A := by
  refine entM (by decide) (Nat.le_of_ble_eq_true rfl) ?_
  intro p e s m below meth c ls S0 hr hlocks hG hnm hB hl
  have hx := S0.1
  have hb := S0.2.1
  have hown := S0.2.2.2.1
  have hl : lv_has ls 3 [(0, .ref h2), (1, .int x), (2, .int (nI q))] := hl
  obtain ⟨hP, hD, hK, hA, hE⟩ := hB
  have hS : va_S A s.heap s.heap [] := va_S.rf
  have hbq := (hCP.1 q hq).2
  refine lv_aload_n hx hb dX2_remember_0 rfl (lv_at hl 0 rfl) ?_
  refine va_get (D := D) (ci := 1) (v := .int (nI n)) (C := RX2) (T := TX2) (N := 8) hx hb hG wu_X2 hown hK hP 2 rfl rfl 7 (by decide) (hG _ wf_X2_37) (fun _ h9 => h9) rfl dX2_remember_1 ?_
  refine ln_if_lt (tgt := 73) hx hb dX2_remember_4 (by decide) (by omega) ?_
  refine lv_aload_n hx hb dX2_remember_7 rfl (lv_at hl 0 rfl) ?_
  refine va_get (D := D) (ci := 1) (v := .int (nI n)) (C := RX2) (T := TX2) (N := 8) hx hb hG wu_X2 hown hK hP 2 rfl rfl 7 (by decide) (hG _ wf_X2_37) (fun _ h9 => h9) rfl dX2_remember_8 ?_
  refine lv_sipush (v := (nI 204)) hx hb dX2_remember_11 (by decide) ?_
  refine ln_icmp_ge (tgt := 73) hx hb dX2_remember_14 (by decide) (by omega) (by decide) (fun c14 => ?_) (fun c14 => ?_)
  · skip
    exact absurd c14 (by omega)
  · skip
    refine lv_aload_n hx hb dX2_remember_17 rfl (lv_at hl 0 rfl) ?_
    refine va_get (D := D) (ci := 1) (v := .ref a2) (C := RX2) (T := TX2) (N := 8) hx hb hG wu_X2 hown hK hP 2 rfl rfl 5 (by decide) (hG _ wf_X2_31) (fun _ h9 => h9) rfl dX2_remember_18 ?_
    refine lv_aload_n hx hb dX2_remember_21 rfl (lv_at hl 0 rfl) ?_
    refine va_get (D := D) (ci := 1) (v := .int (nI n)) (C := RX2) (T := TX2) (N := 8) hx hb hG wu_X2 hown hK hP 2 rfl rfl 7 (by decide) (hG _ wf_X2_37) (fun _ h9 => h9) rfl dX2_remember_22 ?_
    refine lv_iload_n hx hb dX2_remember_25 rfl (lv_at hl 1 rfl) ?_
    refine va_iast hx hb hK hP hD hS 5 0 rfl rfl (vp_in_nI (by omega) (by decide)) dX2_remember_26 (fun H locs hP hD hS => ?_)
    rw [nI_clamp (show n < 2 ^ 31 by omega)] at hP hD
    have hP : va_P D classes (cW cI cJ h0 h1 h2 a0 a1 a2 a3 h3 a4 h4 a5 kn op ow tr fu kg co pn si (nI rt) (pI ps) (nI n) pcs sqa (upd mvs n x) los lsz lfs asz afs) H := hP
    have hD : va_D A (cW cI cJ h0 h1 h2 a0 a1 a2 a3 h3 a4 h4 a5 kn op ow tr fu kg co pn si (nI rt) (pI ps) (nI n) pcs sqa (upd mvs n x) los lsz lfs asz afs) := hD
    refine lv_aload_n hx hb dX2_remember_27 rfl (lv_at hl 0 rfl) ?_
    refine va_get (D := D) (ci := 1) (v := .ref a3) (C := RX2) (T := TX2) (N := 8) hx hb hG wu_X2 hown hK hP 2 rfl rfl 6 (by decide) (hG _ wf_X2_34) (fun _ h9 => h9) rfl dX2_remember_28 ?_
    refine lv_aload_n hx hb dX2_remember_31 rfl (lv_at hl 0 rfl) ?_
    refine va_get (D := D) (ci := 1) (v := .int (nI n)) (C := RX2) (T := TX2) (N := 8) hx hb hG wu_X2 hown hK hP 2 rfl rfl 7 (by decide) (hG _ wf_X2_37) (fun _ h9 => h9) rfl dX2_remember_32 ?_
    refine lv_aload_n hx hb dX2_remember_35 rfl (lv_at hl 0 rfl) ?_
    refine lv_iload_n hx hb dX2_remember_36 rfl (lv_at hl 2 rfl) ?_
    refine roI (rnV (As := [.int (nI q)]) (rest := [.int (nI n), .ref a3]) S0 (c_X2_pieceOn l bd hCP q (by omega)) wm_X2_105 wi_X2_pieceOn ws_X2_pieceOn wn_X2 wc_X2_pieceOn hd_X2_pieceOn ⟨rfl, rfl, by decide, by decide⟩ IW.blind (va_recv hK hP (ci := 1) (q0 := 2) rfl rfl) (IW.at hP hD hK hA hE hS) hl.1 (Nat.le_of_ble_eq_true rfl) dX2_remember_37 rfl ⟨by decide, by decide⟩) (fun r_2 hr_2 => ?_)
    subst hr_2
    refine lv_iload_n hx hb dX2_remember_40 rfl (lv_at hl 2 rfl) ?_
    refine lv_iconst (v := (nI 4)) hx hb dX2_remember_41 (by decide) ?_
    refine lv_ishl hx hb dX2_remember_42 ?_
    refine lv_ior hx hb dX2_remember_43 ?_
    refine lv_aload_n hx hb dX2_remember_44 rfl (lv_at hl 0 rfl) ?_
    refine va_get (D := D) (ci := 1) (v := .int (nI rt)) (C := RX2) (T := TX2) (N := 8) hx hb hG wu_X2 hown hK hP 2 rfl rfl 3 (by decide) (hG _ wf_X2_25) (fun _ h9 => h9) rfl dX2_remember_45 ?_
    refine lv_bipush (v := (nI 10)) hx hb dX2_remember_48 (by decide) ?_
    refine lv_ishl hx hb dX2_remember_50 ?_
    refine lv_ior hx hb dX2_remember_51 ?_
    refine lv_aload_n hx hb dX2_remember_52 rfl (lv_at hl 0 rfl) ?_
    refine va_get (D := D) (ci := 1) (v := .int (pI ps)) (C := RX2) (T := TX2) (N := 8) hx hb hG wu_X2 hown hK hP 2 rfl rfl 4 (by decide) (hG _ wf_X2_28) (fun _ h9 => h9) rfl dX2_remember_53 ?_
    refine lv_iconst (v := (nI 1)) hx hb dX2_remember_56 (by decide) ?_
    refine lv_iadd hx hb dX2_remember_57 ?_
    refine lv_bipush (v := (nI 14)) hx hb dX2_remember_58 (by decide) ?_
    refine lv_ishl hx hb dX2_remember_60 ?_
    refine lv_ior hx hb dX2_remember_61 ?_
    refine va_iast hx hb hK hP hD hS 6 0 rfl rfl (vp_in_nI (by omega) (by decide)) dX2_remember_62 (fun H locs hP hD hS => ?_)
    rw [nI_clamp (show n < 2 ^ 31 by omega)] at hP hD
    have hP : va_P D classes (cW cI cJ h0 h1 h2 a0 a1 a2 a3 h3 a4 h4 a5 kn op ow tr fu kg co pn si (nI rt) (pI ps) (nI n) pcs sqa (upd mvs n x) (upd los n ((((nI (bd q)) ||| ((nI q) <<< ((nI 4) &&& 31))) ||| ((nI rt) <<< ((nI 10) &&& 31))) ||| (((pI ps) + (nI 1)) <<< ((nI 14) &&& 31)))) lsz lfs asz afs) H := hP
    have hD : va_D A (cW cI cJ h0 h1 h2 a0 a1 a2 a3 h3 a4 h4 a5 kn op ow tr fu kg co pn si (nI rt) (pI ps) (nI n) pcs sqa (upd mvs n x) (upd los n ((((nI (bd q)) ||| ((nI q) <<< ((nI 4) &&& 31))) ||| ((nI rt) <<< ((nI 10) &&& 31))) ||| (((pI ps) + (nI 1)) <<< ((nI 14) &&& 31)))) lsz lfs asz afs) := hD
    refine lv_aload_n hx hb dX2_remember_63 rfl (lv_at hl 0 rfl) ?_
    refine lv_dup hx hb dX2_remember_64 rfl ?_
    refine va_get (D := D) (ci := 1) (v := .int (nI n)) (C := RX2) (T := TX2) (N := 8) hx hb hG wu_X2 hown hK hP 2 rfl rfl 7 (by decide) (hG _ wf_X2_37) (fun _ h9 => h9) rfl dX2_remember_65 ?_
    refine lv_iconst (v := (nI 1)) hx hb dX2_remember_68 (by decide) ?_
    refine ln_iadd hx hb dX2_remember_69 ?_
    refine va_put (D := D) (ci := 1) (v := .int (nI (n + 1))) (ty := .int) (C := RX2) (T := TX2) (N := 8) hx hb hG wu_X2 tyX2 tyX2_ok nmX2 hown hK hP hD hS 2 rfl rfl 7 (by decide) (hG _ wf_X2_37) (fun _ h9 => h9) rfl (by decide +kernel) rfl rfl (Nat.le_of_ble_eq_true rfl) dX2_remember_70 (fun H locs hP hD hS => ?_)
    have hP : va_P D classes (cW cI cJ h0 h1 h2 a0 a1 a2 a3 h3 a4 h4 a5 kn op ow tr fu kg co pn si (nI rt) (pI ps) (nI (n + 1)) pcs sqa (upd mvs n x) (upd los n ((((nI (bd q)) ||| ((nI q) <<< ((nI 4) &&& 31))) ||| ((nI rt) <<< ((nI 10) &&& 31))) ||| (((pI ps) + (nI 1)) <<< ((nI 14) &&& 31)))) lsz lfs asz afs) H := hP
    have hD : va_D A (cW cI cJ h0 h1 h2 a0 a1 a2 a3 h3 a4 h4 a5 kn op ow tr fu kg co pn si (nI rt) (pI ps) (nI (n + 1)) pcs sqa (upd mvs n x) (upd los n ((((nI (bd q)) ||| ((nI q) <<< ((nI 4) &&& 31))) ||| ((nI rt) <<< ((nI 10) &&& 31))) ||| (((pI ps) + (nI 1)) <<< ((nI 14) &&& 31)))) lsz lfs asz afs) := hD
    exact weV (()) hx hb hr hlocks dX2_remember_73 trivial hP hD hK hA hE hS

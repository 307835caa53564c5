theorem dX2_pieceOn_0 : decode cX2_pieceOn 0 = .ok (.iload_n 1, 1) := by decide +kernel
theorem dX2_pieceOn_1 : decode cX2_pieceOn 1 = .ok (.ifCond .lt 18, 3) := by decide +kernel
theorem dX2_pieceOn_4 : decode cX2_pieceOn 4 = .ok (.iload_n 1, 1) := by decide +kernel
theorem dX2_pieceOn_5 : decode cX2_pieceOn 5 = .ok (.bipush 64, 2) := by decide +kernel
theorem dX2_pieceOn_7 : decode cX2_pieceOn 7 = .ok (.if_icmp .ge 12, 3) := by decide +kernel
theorem dX2_pieceOn_10 : decode cX2_pieceOn 10 = .ok (.aload_n 0, 1) := by decide +kernel
theorem dX2_pieceOn_11 : decode cX2_pieceOn 11 = .ok (.getfield 9, 3) := by decide +kernel
theorem dX2_pieceOn_14 : decode cX2_pieceOn 14 = .ok (.iload_n 1, 1) := by decide +kernel
theorem dX2_pieceOn_15 : decode cX2_pieceOn 15 = .ok (.iaload, 1) := by decide +kernel
theorem dX2_pieceOn_16 : decode cX2_pieceOn 16 = .ok (.goto 4, 3) := by decide +kernel
theorem dX2_pieceOn_19 : decode cX2_pieceOn 19 = .ok (.iconst 0, 1) := by decide +kernel
theorem dX2_pieceOn_20 : decode cX2_pieceOn 20 = .ok (.ireturn, 1) := by decide +kernel
theorem hd_X2_pieceOn : yX2_pieceOn.cls ≠ "java/lang/invoke/MethodHandle" ∧ yX2_pieceOn.cls ≠ "java/lang/invoke/VarHandle" ∧ (parseMethodDescriptor yX2_pieceOn.desc).map (fun d => d.parameters.length) = some 1 := by decide +kernel
set_option maxHeartbeats 4000000 in
set_option maxRecDepth 100000 in
/-- pieceOn -/
theorem c_X2_pieceOn (l : Launch) {D : va_G} {cI cJ : ClassId} {A : Nat → Prop} {h0 h1 h2 a0 a1 a2 a3 h3 a4 h4 a5 : Nat} {kn op : Int32} {ow tr fu kg co pn : Int64} {si ri pa ma : Int32} {pcs : Nat → Int32} {sqa : Nat → Int64} {mvs los : Nat → Int32} {lsz : Int32} {lfs : Nat → Int32} {asz : Int32} {afs : Nat → Int32} (bd : Nat → Nat) (hCP : CP pcs sqa bd) (q : Nat) (hq : q < 64) : Met l yX2_pieceOn (Cond.code yX2_pieceOn cX2_pieceOn 2 (some .int) :: wsL_law) (rK 0) (va_Pc [.ref h2, .int (nI q)] (IW D cI cJ A (cW cI cJ h0 h1 h2 a0 a1 a2 a3 h3 a4 h4 a5 kn op ow tr fu kg co pn si ri pa ma pcs sqa mvs los lsz lfs asz afs))) (vp_Si (fun r => r = nI (bd q))) 0 0 (fun _ => False) := by
  refine entM (by decide) (Nat.le_of_ble_eq_true rfl) ?_
  intro p e s m below meth c ls S0 hr hlocks hG hnm hB hl
  have hx := S0.1
  have hb := S0.2.1
  have hown := S0.2.2.2.1
  have hl : lv_has ls 2 [(0, .ref h2), (1, .int (nI q))] := hl
  obtain ⟨hP, hD, hK, hA, hE⟩ := hB
  have hS : va_S A s.heap s.heap [] := va_S.rf
  refine lv_iload_n hx hb dX2_pieceOn_0 rfl (lv_at hl 1 rfl) ?_
  refine ln_if_lt (tgt := 19) hx hb dX2_pieceOn_1 (by decide) (by omega) ?_
  refine lv_iload_n hx hb dX2_pieceOn_4 rfl (lv_at hl 1 rfl) ?_
  refine lv_bipush (v := (nI 64)) hx hb dX2_pieceOn_5 (by decide) ?_
  refine ln_icmp_ge (tgt := 19) hx hb dX2_pieceOn_7 (by decide) (by omega) (by decide) (fun c7 => ?_) (fun c7 => ?_)
  · skip
    exact absurd c7 (by omega)
  · skip
    refine lv_aload_n hx hb dX2_pieceOn_10 rfl (lv_at hl 0 rfl) ?_
    refine va_get (D := D) (ci := 1) (v := .ref a0) (C := RX2) (T := TX2) (N := 8) hx hb hG wu_X2 hown hK hP 2 rfl rfl 0 (by decide) (hG _ wf_X2_9) (fun _ h9 => h9) rfl dX2_pieceOn_11 ?_
    refine lv_iload_n hx hb dX2_pieceOn_14 rfl (lv_at hl 1 rfl) ?_
    refine va_iald hx hb hK hP 3 0 rfl rfl (vp_in_nI (by omega) (by decide)) dX2_pieceOn_15 ?_
    refine W.top (y := .int (pcs q)) (congrArg (fun z => Value.int (pcs z)) (nI_clamp (by omega))) ?_
    refine W.top (y := .int (nI (bd q))) (congrArg Value.int (hCP.1 q hq).1) ?_
    refine lv_goto (tgt := 20) hx hb dX2_pieceOn_16 (by decide) ?_
    exact reI hx hb hr hlocks dX2_pieceOn_20 rfl
theorem dX2_squaresOf_0 : decode cX2_squaresOf 0 = .ok (.iload_n 1, 1) := by decide +kernel
theorem dX2_squaresOf_1 : decode cX2_squaresOf 1 = .ok (.ifCond .lt 18, 3) := by decide +kernel
theorem dX2_squaresOf_4 : decode cX2_squaresOf 4 = .ok (.iload_n 1, 1) := by decide +kernel
theorem dX2_squaresOf_5 : decode cX2_squaresOf 5 = .ok (.bipush 13, 2) := by decide +kernel
theorem dX2_squaresOf_7 : decode cX2_squaresOf 7 = .ok (.if_icmp .ge 12, 3) := by decide +kernel
theorem dX2_squaresOf_10 : decode cX2_squaresOf 10 = .ok (.aload_n 0, 1) := by decide +kernel
theorem dX2_squaresOf_11 : decode cX2_squaresOf 11 = .ok (.getfield 15, 3) := by decide +kernel
theorem dX2_squaresOf_14 : decode cX2_squaresOf 14 = .ok (.iload_n 1, 1) := by decide +kernel
theorem dX2_squaresOf_15 : decode cX2_squaresOf 15 = .ok (.laload, 1) := by decide +kernel
theorem dX2_squaresOf_16 : decode cX2_squaresOf 16 = .ok (.goto 4, 3) := by decide +kernel
theorem dX2_squaresOf_19 : decode cX2_squaresOf 19 = .ok (.lconst 0, 1) := by decide +kernel
theorem dX2_squaresOf_20 : decode cX2_squaresOf 20 = .ok (.lreturn, 1) := by decide +kernel
theorem hd_X2_squaresOf : yX2_squaresOf.cls ≠ "java/lang/invoke/MethodHandle" ∧ yX2_squaresOf.cls ≠ "java/lang/invoke/VarHandle" ∧ (parseMethodDescriptor yX2_squaresOf.desc).map (fun d => d.parameters.length) = some 1 := by decide +kernel
set_option maxHeartbeats 4000000 in
set_option maxRecDepth 100000 in
/-- squaresOf -/
theorem c_X2_squaresOf (l : Launch) {D : va_G} {cI cJ : ClassId} {A : Nat → Prop} {h0 h1 h2 a0 a1 a2 a3 h3 a4 h4 a5 : Nat} {kn op : Int32} {ow tr fu kg co pn : Int64} {si ri pa ma : Int32} {pcs : Nat → Int32} {sqa : Nat → Int64} {mvs los : Nat → Int32} {lsz : Int32} {lfs : Nat → Int32} {asz : Int32} {afs : Nat → Int32} (bd : Nat → Nat) (hCP : CP pcs sqa bd) (k : Nat) (hk : k < 13) : Met l yX2_squaresOf (Cond.code yX2_squaresOf cX2_squaresOf 2 (some .long) :: wsL_law) (rK 0) (va_Pc [.ref h2, .int (nI k)] (IW D cI cJ A (cW cI cJ h0 h1 h2 a0 a1 a2 a3 h3 a4 h4 a5 kn op ow tr fu kg co pn si ri pa ma pcs sqa mvs los lsz lfs asz afs))) (vp_Sl (fun r => r = sqs bd k)) 0 0 (fun _ => False) := by
  refine entM (by decide) (Nat.le_of_ble_eq_true rfl) ?_
  intro p e s m below meth c ls S0 hr hlocks hG hnm hB hl
  have hx := S0.1
  have hb := S0.2.1
  have hown := S0.2.2.2.1
  have hl : lv_has ls 2 [(0, .ref h2), (1, .int (nI k))] := hl
  obtain ⟨hP, hD, hK, hA, hE⟩ := hB
  have hS : va_S A s.heap s.heap [] := va_S.rf
  refine lv_iload_n hx hb dX2_squaresOf_0 rfl (lv_at hl 1 rfl) ?_
  refine ln_if_lt (tgt := 19) hx hb dX2_squaresOf_1 (by decide) (by omega) ?_
  refine lv_iload_n hx hb dX2_squaresOf_4 rfl (lv_at hl 1 rfl) ?_
  refine lv_bipush (v := (nI 13)) hx hb dX2_squaresOf_5 (by decide) ?_
  refine ln_icmp_ge (tgt := 19) hx hb dX2_squaresOf_7 (by decide) (by omega) (by decide) (fun c7 => ?_) (fun c7 => ?_)
  · skip
    exact absurd c7 (by omega)
  · skip
    refine lv_aload_n hx hb dX2_squaresOf_10 rfl (lv_at hl 0 rfl) ?_
    refine va_get (D := D) (ci := 1) (v := .ref a1) (C := RX2) (T := TX2) (N := 8) hx hb hG wu_X2 hown hK hP 2 rfl rfl 1 (by decide) (hG _ wf_X2_15) (fun _ h9 => h9) rfl dX2_squaresOf_11 ?_
    refine lv_iload_n hx hb dX2_squaresOf_14 rfl (lv_at hl 1 rfl) ?_
    refine va_lald hx hb hK hP 4 1 rfl rfl (vp_in_nI (by omega) (by decide)) dX2_squaresOf_15 ?_
    refine W.top (y := .long (sqa k)) (congrArg (fun z => Value.long (sqa z)) (nI_clamp (by omega))) ?_
    refine W.top (y := .long (sqs bd k)) (congrArg Value.long (hCP.2 k hk)) ?_
    refine lv_goto (tgt := 20) hx hb dX2_squaresOf_16 (by decide) ?_
    exact reL hx hb hr hlocks dX2_squaresOf_20 rfl
theorem dX2_squaresOfSide_0 : decode cX2_squaresOfSide 0 = .ok (.bipush 6, 2) := by decide +kernel
theorem dX2_squaresOfSide_2 : decode cX2_squaresOfSide 2 = .ok (.iload_n 1, 1) := by decide +kernel
theorem dX2_squaresOfSide_3 : decode cX2_squaresOfSide 3 = .ok (.imul, 1) := by decide +kernel
theorem dX2_squaresOfSide_4 : decode cX2_squaresOfSide 4 = .ok (.istore_n 2, 1) := by decide +kernel
theorem dX2_squaresOfSide_5 : decode cX2_squaresOfSide 5 = .ok (.lconst 0, 1) := by decide +kernel
theorem dX2_squaresOfSide_6 : decode cX2_squaresOfSide 6 = .ok (.lstore_n 3, 1) := by decide +kernel
theorem dX2_squaresOfSide_7 : decode cX2_squaresOfSide 7 = .ok (.iconst 1, 1) := by decide +kernel
theorem dX2_squaresOfSide_8 : decode cX2_squaresOfSide 8 = .ok (.istore 5, 2) := by decide +kernel
theorem dX2_squaresOfSide_10 : decode cX2_squaresOfSide 10 = .ok (.iload 5, 2) := by decide +kernel
theorem dX2_squaresOfSide_12 : decode cX2_squaresOfSide 12 = .ok (.bipush 6, 2) := by decide +kernel
theorem dX2_squaresOfSide_14 : decode cX2_squaresOfSide 14 = .ok (.if_icmp .gt 20, 3) := by decide +kernel
theorem dX2_squaresOfSide_17 : decode cX2_squaresOfSide 17 = .ok (.lload_n 3, 1) := by decide +kernel
theorem dX2_squaresOfSide_18 : decode cX2_squaresOfSide 18 = .ok (.aload_n 0, 1) := by decide +kernel
theorem dX2_squaresOfSide_19 : decode cX2_squaresOfSide 19 = .ok (.iload_n 2, 1) := by decide +kernel
theorem dX2_squaresOfSide_20 : decode cX2_squaresOfSide 20 = .ok (.iload 5, 2) := by decide +kernel
theorem dX2_squaresOfSide_22 : decode cX2_squaresOfSide 22 = .ok (.iadd, 1) := by decide +kernel
theorem dX2_squaresOfSide_23 : decode cX2_squaresOfSide 23 = .ok (.invokevirtual 61, 3) := by decide +kernel
theorem dX2_squaresOfSide_26 : decode cX2_squaresOfSide 26 = .ok (.lor, 1) := by decide +kernel
theorem dX2_squaresOfSide_27 : decode cX2_squaresOfSide 27 = .ok (.lstore_n 3, 1) := by decide +kernel
theorem dX2_squaresOfSide_28 : decode cX2_squaresOfSide 28 = .ok (.iinc 5 1, 3) := by decide +kernel
theorem dX2_squaresOfSide_31 : decode cX2_squaresOfSide 31 = .ok (.goto (-21), 3) := by decide +kernel
theorem dX2_squaresOfSide_34 : decode cX2_squaresOfSide 34 = .ok (.lload_n 3, 1) := by decide +kernel
theorem dX2_squaresOfSide_35 : decode cX2_squaresOfSide 35 = .ok (.lreturn, 1) := by decide +kernel
theorem hd_X2_squaresOfSide : yX2_squaresOfSide.cls ≠ "java/lang/invoke/MethodHandle" ∧ yX2_squaresOfSide.cls ≠ "java/lang/invoke/VarHandle" ∧ (parseMethodDescriptor yX2_squaresOfSide.desc).map (fun d => d.parameters.length) = some 1 := by decide +kernel
set_option maxHeartbeats 4000000 in
set_option maxRecDepth 100000 in
/-- squaresOfSide -/
theorem c_X2_squaresOfSide (l : Launch) {D : va_G} {cI cJ : ClassId} {A : Nat → Prop} {h0 h1 h2 a0 a1 a2 a3 h3 a4 h4 a5 : Nat} {kn op : Int32} {ow tr fu kg co pn : Int64} {si ri pa ma : Int32} {pcs : Nat → Int32} {sqa : Nat → Int64} {mvs los : Nat → Int32} {lsz : Int32} {lfs : Nat → Int32} {asz : Int32} {afs : Nat → Int32} (bd : Nat → Nat) (hCP : CP pcs sqa bd) (w : Nat) (hw : w < 2) : Met l yX2_squaresOfSide (Cond.code yX2_squaresOfSide cX2_squaresOfSide 6 (some .long) :: wsL_law) (rK 1) (va_Pc [.ref h2, .int (nI w)] (IW D cI cJ A (cW cI cJ h0 h1 h2 a0 a1 a2 a3 h3 a4 h4 a5 kn op ow tr fu kg co pn si ri pa ma pcs sqa mvs los lsz lfs asz afs))) (vp_Sl (fun r => r = sosN bd w 6)) 0 0 (fun _ => False) := by
  refine entM (by decide) (Nat.le_of_ble_eq_true rfl) ?_
  intro p e s m below meth c ls S0 hr hlocks hG hnm hB hl
  have hx := S0.1
  have hb := S0.2.1
  have hown := S0.2.2.2.1
  have hl : lv_has ls 6 [(0, .ref h2), (1, .int (nI w))] := hl
  obtain ⟨hP, hD, hK, hA, hE⟩ := hB
  have hS : va_S A s.heap s.heap [] := va_S.rf
  refine lv_bipush (v := (nI 6)) hx hb dX2_squaresOfSide_0 (by decide) ?_
  refine lv_iload_n hx hb dX2_squaresOfSide_2 rfl (lv_at hl 1 rfl) ?_
  refine ln_imul hx hb dX2_squaresOfSide_3 ?_
  refine lv_istore_n (lv' := [(2, .int (nI (6 * w))), (0, .ref h2), (1, .int (nI w))]) hx hb dX2_squaresOfSide_4 rfl hl (by decide) rfl (fun ls hl => ?_)
  refine lv_lconst (v := 0) hx hb dX2_squaresOfSide_5 (by decide) ?_
  refine W.top (y := .long (sosN bd w 0)) (congrArg Value.long rfl) ?_
  refine lv_lstore_n (lv' := [(3, .long (sosN bd w 0)), (2, .int (nI (6 * w))), (0, .ref h2), (1, .int (nI w))]) hx hb dX2_squaresOfSide_6 rfl hl (by decide) rfl (fun ls hl => ?_)
  refine lv_iconst (v := (nI 1)) hx hb dX2_squaresOfSide_7 (by decide) ?_
  refine W.top (y := .int (nI (0 + 1))) (congrArg Value.int rfl) ?_
  refine lv_istore (lv' := [(5, .int (nI (0 + 1))), (3, .long (sosN bd w 0)), (2, .int (nI (6 * w))), (0, .ref h2), (1, .int (nI w))]) hx hb dX2_squaresOfSide_8 hl (by decide) rfl (fun ls hl => ?_)
  refine lpR (σ := (Nat)) 10 6 [] (fun x9 => [(0, .ref h2), (1, .int (nI w)), (2, .int (nI (6 * w))), (3, .long (sosN bd w x9)), (5, .int (nI (x9 + 1)))]) (fun x9 => x9 ≤ 6) (fun x9 => 6 - x9) 0 (Nat.zero_le _) (lv_sub hl [3, 4, 2, 1, 0] rfl) ?_
  clear hl ls
  rintro i hI ih_10 ls hl
  try dsimp only at hI ih_10 hl
  refine lv_iload hx hb dX2_squaresOfSide_10 (lv_at hl 4 rfl) ?_
  refine lv_bipush (v := (nI 6)) hx hb dX2_squaresOfSide_12 (by decide) ?_
  refine ln_icmp_gt (tgt := 34) hx hb dX2_squaresOfSide_14 (by decide) (by omega) (by decide) (fun c14 => ?_) (fun c14 => ?_)
  · skip
    refine lv_lload_n hx hb dX2_squaresOfSide_34 rfl (lv_at hl 3 rfl) ?_
    exact reL hx hb hr hlocks dX2_squaresOfSide_35 (by rw [show i = 6 by omega])
  · skip
    refine lv_lload_n hx hb dX2_squaresOfSide_17 rfl (lv_at hl 3 rfl) ?_
    refine lv_aload_n hx hb dX2_squaresOfSide_18 rfl (lv_at hl 0 rfl) ?_
    refine lv_iload_n hx hb dX2_squaresOfSide_19 rfl (lv_at hl 2 rfl) ?_
    refine lv_iload hx hb dX2_squaresOfSide_20 (lv_at hl 4 rfl) ?_
    refine ln_iadd hx hb dX2_squaresOfSide_22 ?_
    refine roL (rnV (As := [.int (nI ((6 * w) + (i + 1)))]) (rest := [.long (sosN bd w i)]) S0 (c_X2_squaresOf l bd hCP ((6 * w) + (i + 1)) (by omega)) wm_X2_61 wi_X2_squaresOf ws_X2_squaresOf wn_X2 wc_X2_squaresOf hd_X2_squaresOf ⟨rfl, rfl, by decide, by decide⟩ IW.blind (va_recv hK hP (ci := 1) (q0 := 2) rfl rfl) (IW.at hP hD hK hA hE hS) hl.1 (Nat.le_of_ble_eq_true rfl) dX2_squaresOfSide_23 rfl ⟨by decide, by decide⟩) (fun r_1 hr_1 => ?_)
    subst hr_1
    refine lv_lor hx hb dX2_squaresOfSide_26 ?_
    refine W.top (y := .long (sosN bd w (i + 1))) (congrArg Value.long rfl) ?_
    refine lv_lstore_n (lv' := [(3, .long (sosN bd w (i + 1))), (0, .ref h2), (1, .int (nI w)), (2, .int (nI (6 * w))), (5, .int (nI (i + 1)))]) hx hb dX2_squaresOfSide_27 rfl hl (by decide) rfl (fun ls hl => ?_)
    refine lv_iinc (v := (nI ((i + 1) + 1))) (lv' := [(5, .int (nI ((i + 1) + 1))), (3, .long (sosN bd w (i + 1))), (0, .ref h2), (1, .int (nI w)), (2, .int (nI (6 * w)))]) hx hb dX2_squaresOfSide_28 hl (k := 4) rfl (show nI (i + 1) + Int32.ofInt 1 = nI ((i + 1) + 1) from nI_add _ 1) (by decide) rfl (fun ls hl => ?_)
    refine lv_goto (tgt := 10) hx hb dX2_squaresOfSide_31 (by decide) ?_
    exact ih_10 (i + 1) (by omega) (by (try dsimp only); omega) ls (lv_sub hl [2, 3, 4, 1, 0] rfl)
theorem dX2_attacksOf_0 : decode cX2_attacksOf 0 = .ok (.bipush 6, 2) := by decide +kernel
theorem dX2_attacksOf_2 : decode cX2_attacksOf 2 = .ok (.iload_n 1, 1) := by decide +kernel
theorem dX2_attacksOf_3 : decode cX2_attacksOf 3 = .ok (.imul, 1) := by decide +kernel
theorem dX2_attacksOf_4 : decode cX2_attacksOf 4 = .ok (.istore 6, 2) := by decide +kernel
theorem dX2_attacksOf_6 : decode cX2_attacksOf 6 = .ok (.aload_n 0, 1) := by decide +kernel
theorem dX2_attacksOf_7 : decode cX2_attacksOf 7 = .ok (.iload 6, 2) := by decide +kernel
theorem dX2_attacksOf_9 : decode cX2_attacksOf 9 = .ok (.iconst 5, 1) := by decide +kernel
theorem dX2_attacksOf_10 : decode cX2_attacksOf 10 = .ok (.iadd, 1) := by decide +kernel
theorem dX2_attacksOf_11 : decode cX2_attacksOf 11 = .ok (.invokevirtual 61, 3) := by decide +kernel
theorem dX2_attacksOf_14 : decode cX2_attacksOf 14 = .ok (.lstore 7, 2) := by decide +kernel
theorem dX2_attacksOf_16 : decode cX2_attacksOf 16 = .ok (.aload_n 0, 1) := by decide +kernel
theorem dX2_attacksOf_17 : decode cX2_attacksOf 17 = .ok (.iload 6, 2) := by decide +kernel
theorem dX2_attacksOf_19 : decode cX2_attacksOf 19 = .ok (.iconst 4, 1) := by decide +kernel
theorem dX2_attacksOf_20 : decode cX2_attacksOf 20 = .ok (.iadd, 1) := by decide +kernel
theorem dX2_attacksOf_21 : decode cX2_attacksOf 21 = .ok (.invokevirtual 61, 3) := by decide +kernel
theorem dX2_attacksOf_24 : decode cX2_attacksOf 24 = .ok (.lload 7, 2) := by decide +kernel
theorem dX2_attacksOf_26 : decode cX2_attacksOf 26 = .ok (.lor, 1) := by decide +kernel
theorem dX2_attacksOf_27 : decode cX2_attacksOf 27 = .ok (.lstore 9, 2) := by decide +kernel
theorem dX2_attacksOf_29 : decode cX2_attacksOf 29 = .ok (.aload_n 0, 1) := by decide +kernel
theorem dX2_attacksOf_30 : decode cX2_attacksOf 30 = .ok (.iload 6, 2) := by decide +kernel
theorem dX2_attacksOf_32 : decode cX2_attacksOf 32 = .ok (.iconst 3, 1) := by decide +kernel
theorem dX2_attacksOf_33 : decode cX2_attacksOf 33 = .ok (.iadd, 1) := by decide +kernel
theorem dX2_attacksOf_34 : decode cX2_attacksOf 34 = .ok (.invokevirtual 61, 3) := by decide +kernel
theorem dX2_attacksOf_37 : decode cX2_attacksOf 37 = .ok (.lload 7, 2) := by decide +kernel
theorem dX2_attacksOf_39 : decode cX2_attacksOf 39 = .ok (.lor, 1) := by decide +kernel
theorem dX2_attacksOf_40 : decode cX2_attacksOf 40 = .ok (.lstore 11, 2) := by decide +kernel
theorem dX2_attacksOf_42 : decode cX2_attacksOf 42 = .ok (.aload_n 0, 1) := by decide +kernel
theorem dX2_attacksOf_43 : decode cX2_attacksOf 43 = .ok (.iload 6, 2) := by decide +kernel
theorem dX2_attacksOf_45 : decode cX2_attacksOf 45 = .ok (.iconst 1, 1) := by decide +kernel
theorem dX2_attacksOf_46 : decode cX2_attacksOf 46 = .ok (.iadd, 1) := by decide +kernel
theorem dX2_attacksOf_47 : decode cX2_attacksOf 47 = .ok (.invokevirtual 61, 3) := by decide +kernel
theorem dX2_attacksOf_50 : decode cX2_attacksOf 50 = .ok (.lload 4, 2) := by decide +kernel
theorem dX2_attacksOf_52 : decode cX2_attacksOf 52 = .ok (.ldc2_w 19, 3) := by decide +kernel
theorem dX2_attacksOf_55 : decode cX2_attacksOf 55 = .ok (.lxor, 1) := by decide +kernel
theorem dX2_attacksOf_56 : decode cX2_attacksOf 56 = .ok (.land, 1) := by decide +kernel
theorem dX2_attacksOf_57 : decode cX2_attacksOf 57 = .ok (.iload_n 1, 1) := by decide +kernel
theorem dX2_attacksOf_58 : decode cX2_attacksOf 58 = .ok (.invokestatic 64, 3) := by decide +kernel
theorem dX2_attacksOf_61 : decode cX2_attacksOf 61 = .ok (.aload_n 0, 1) := by decide +kernel
theorem dX2_attacksOf_62 : decode cX2_attacksOf 62 = .ok (.iload 6, 2) := by decide +kernel
theorem dX2_attacksOf_64 : decode cX2_attacksOf 64 = .ok (.iconst 2, 1) := by decide +kernel
theorem dX2_attacksOf_65 : decode cX2_attacksOf 65 = .ok (.iadd, 1) := by decide +kernel
theorem dX2_attacksOf_66 : decode cX2_attacksOf 66 = .ok (.invokevirtual 61, 3) := by decide +kernel
theorem dX2_attacksOf_69 : decode cX2_attacksOf 69 = .ok (.invokestatic 70, 3) := by decide +kernel
theorem dX2_attacksOf_72 : decode cX2_attacksOf 72 = .ok (.lor, 1) := by decide +kernel
theorem dX2_attacksOf_73 : decode cX2_attacksOf 73 = .ok (.aload_n 0, 1) := by decide +kernel
theorem dX2_attacksOf_74 : decode cX2_attacksOf 74 = .ok (.iload 6, 2) := by decide +kernel
theorem dX2_attacksOf_76 : decode cX2_attacksOf 76 = .ok (.bipush 6, 2) := by decide +kernel
theorem dX2_attacksOf_78 : decode cX2_attacksOf 78 = .ok (.iadd, 1) := by decide +kernel
theorem dX2_attacksOf_79 : decode cX2_attacksOf 79 = .ok (.invokevirtual 61, 3) := by decide +kernel
theorem dX2_attacksOf_82 : decode cX2_attacksOf 82 = .ok (.invokestatic 74, 3) := by decide +kernel
theorem dX2_attacksOf_85 : decode cX2_attacksOf 85 = .ok (.lor, 1) := by decide +kernel
theorem dX2_attacksOf_86 : decode cX2_attacksOf 86 = .ok (.lstore 13, 2) := by decide +kernel
theorem dX2_attacksOf_88 : decode cX2_attacksOf 88 = .ok (.iconst 0, 1) := by decide +kernel
theorem dX2_attacksOf_89 : decode cX2_attacksOf 89 = .ok (.istore 15, 2) := by decide +kernel
theorem dX2_attacksOf_91 : decode cX2_attacksOf 91 = .ok (.iload 15, 2) := by decide +kernel
theorem dX2_attacksOf_93 : decode cX2_attacksOf 93 = .ok (.bipush 8, 2) := by decide +kernel
theorem dX2_attacksOf_95 : decode cX2_attacksOf 95 = .ok (.if_icmp .ge 33, 3) := by decide +kernel
theorem dX2_attacksOf_98 : decode cX2_attacksOf 98 = .ok (.lload 13, 2) := by decide +kernel
theorem dX2_attacksOf_100 : decode cX2_attacksOf 100 = .ok (.iload 15, 2) := by decide +kernel
theorem dX2_attacksOf_102 : decode cX2_attacksOf 102 = .ok (.iconst 4, 1) := by decide +kernel
theorem dX2_attacksOf_103 : decode cX2_attacksOf 103 = .ok (.if_icmp .ge 8, 3) := by decide +kernel
theorem dX2_attacksOf_106 : decode cX2_attacksOf 106 = .ok (.lload 9, 2) := by decide +kernel
theorem dX2_attacksOf_108 : decode cX2_attacksOf 108 = .ok (.goto 5, 3) := by decide +kernel
theorem dX2_attacksOf_111 : decode cX2_attacksOf 111 = .ok (.lload 11, 2) := by decide +kernel
theorem dX2_attacksOf_113 : decode cX2_attacksOf 113 = .ok (.lload_n 2, 1) := by decide +kernel
theorem dX2_attacksOf_114 : decode cX2_attacksOf 114 = .ok (.iload 15, 2) := by decide +kernel
theorem dX2_attacksOf_116 : decode cX2_attacksOf 116 = .ok (.invokestatic 77, 3) := by decide +kernel
theorem dX2_attacksOf_119 : decode cX2_attacksOf 119 = .ok (.lor, 1) := by decide +kernel
theorem dX2_attacksOf_120 : decode cX2_attacksOf 120 = .ok (.lstore 13, 2) := by decide +kernel
theorem dX2_attacksOf_122 : decode cX2_attacksOf 122 = .ok (.iinc 15 1, 3) := by decide +kernel
theorem dX2_attacksOf_125 : decode cX2_attacksOf 125 = .ok (.goto (-34), 3) := by decide +kernel
theorem dX2_attacksOf_128 : decode cX2_attacksOf 128 = .ok (.lload 13, 2) := by decide +kernel
theorem dX2_attacksOf_130 : decode cX2_attacksOf 130 = .ok (.lreturn, 1) := by decide +kernel
theorem hd_X2_attacksOf : yX2_attacksOf.cls ≠ "java/lang/invoke/MethodHandle" ∧ yX2_attacksOf.cls ≠ "java/lang/invoke/VarHandle" ∧ (parseMethodDescriptor yX2_attacksOf.desc).map (fun d => d.parameters.length) = some 3 := by decide +kernel
set_option maxHeartbeats 4000000 in
set_option maxRecDepth 100000 in
/-- attacksOf -/
theorem c_X2_attacksOf (l : Launch) {D : va_G} {cI cJ : ClassId} {A : Nat → Prop} {h0 h1 h2 a0 a1 a2 a3 h3 a4 h4 a5 : Nat} {kn op : Int32} {ow tr fu kg co pn : Int64} {si ri pa ma : Int32} {pcs : Nat → Int32} {sqa : Nat → Int64} {mvs los : Nat → Int32} {lsz : Int32} {lfs : Nat → Int32} {asz : Int32} {afs : Nat → Int32} (bd : Nat → Nat) (hCP : CP pcs sqa bd) (w : Nat) (hw : w < 2) (x y : Int64) : Met l yX2_attacksOf (Cond.code yX2_attacksOf cX2_attacksOf 16 (some .long) :: wsL_law) (rK 1) (va_Pc [.ref h2, .int (nI w), .long x, .long y] (IW D cI cJ A (cW cI cJ h0 h1 h2 a0 a1 a2 a3 h3 a4 h4 a5 kn op ow tr fu kg co pn si ri pa ma pcs sqa mvs los lsz lfs asz afs))) (vp_Sl (fun r => r = ats bd w x y)) 0 0 (fun _ => False) := by
  refine entM (by decide) (Nat.le_of_ble_eq_true rfl) ?_
  intro p e s m below meth c ls S0 hr hlocks hG hnm hB hl
  have hx := S0.1
  have hb := S0.2.1
  have hown := S0.2.2.2.1
  have hl : lv_has ls 16 [(0, .ref h2), (1, .int (nI w)), (2, .long x), (4, .long y)] := hl
  obtain ⟨hP, hD, hK, hA, hE⟩ := hB
  have hS : va_S A s.heap s.heap [] := va_S.rf
  refine lv_bipush (v := (nI 6)) hx hb dX2_attacksOf_0 (by decide) ?_
  refine lv_iload_n hx hb dX2_attacksOf_2 rfl (lv_at hl 1 rfl) ?_
  refine ln_imul hx hb dX2_attacksOf_3 ?_
  refine lv_istore (lv' := [(6, .int (nI (6 * w))), (0, .ref h2), (1, .int (nI w)), (2, .long x), (4, .long y)]) hx hb dX2_attacksOf_4 hl (by decide) rfl (fun ls hl => ?_)
  refine lv_aload_n hx hb dX2_attacksOf_6 rfl (lv_at hl 1 rfl) ?_
  refine lv_iload hx hb dX2_attacksOf_7 (lv_at hl 0 rfl) ?_
  refine lv_iconst (v := (nI 5)) hx hb dX2_attacksOf_9 (by decide) ?_
  refine ln_iadd hx hb dX2_attacksOf_10 ?_
  refine roL (rnV (As := [.int (nI ((6 * w) + 5))]) (rest := []) S0 (c_X2_squaresOf l bd hCP ((6 * w) + 5) (by omega)) wm_X2_61 wi_X2_squaresOf ws_X2_squaresOf wn_X2 wc_X2_squaresOf hd_X2_squaresOf ⟨rfl, rfl, by decide, by decide⟩ IW.blind (va_recv hK hP (ci := 1) (q0 := 2) rfl rfl) (IW.at hP hD hK hA hE hS) hl.1 (Nat.le_of_ble_eq_true rfl) dX2_attacksOf_11 rfl ⟨by decide, by decide⟩) (fun r_1 hr_1 => ?_)
  subst hr_1
  refine lv_lstore (lv' := [(7, .long (sqs bd ((6 * w) + 5))), (6, .int (nI (6 * w))), (0, .ref h2), (1, .int (nI w)), (2, .long x), (4, .long y)]) hx hb dX2_attacksOf_14 hl (by decide) rfl (fun ls hl => ?_)
  refine lv_aload_n hx hb dX2_attacksOf_16 rfl (lv_at hl 2 rfl) ?_
  refine lv_iload hx hb dX2_attacksOf_17 (lv_at hl 1 rfl) ?_
  refine lv_iconst (v := (nI 4)) hx hb dX2_attacksOf_19 (by decide) ?_
  refine ln_iadd hx hb dX2_attacksOf_20 ?_
  refine roL (rnV (As := [.int (nI ((6 * w) + 4))]) (rest := []) S0 (c_X2_squaresOf l bd hCP ((6 * w) + 4) (by omega)) wm_X2_61 wi_X2_squaresOf ws_X2_squaresOf wn_X2 wc_X2_squaresOf hd_X2_squaresOf ⟨rfl, rfl, by decide, by decide⟩ IW.blind (va_recv hK hP (ci := 1) (q0 := 2) rfl rfl) (IW.at hP hD hK hA hE hS) hl.1 (Nat.le_of_ble_eq_true rfl) dX2_attacksOf_21 rfl ⟨by decide, by decide⟩) (fun r_2 hr_2 => ?_)
  subst hr_2
  refine lv_lload hx hb dX2_attacksOf_24 (lv_at hl 0 rfl) ?_
  refine lv_lor hx hb dX2_attacksOf_26 ?_
  refine W.top (y := .long (strS bd w)) (congrArg Value.long rfl) ?_
  refine lv_lstore (lv' := [(9, .long (strS bd w)), (7, .long (sqs bd ((6 * w) + 5))), (6, .int (nI (6 * w))), (0, .ref h2), (1, .int (nI w)), (2, .long x), (4, .long y)]) hx hb dX2_attacksOf_27 hl (by decide) rfl (fun ls hl => ?_)
  refine lv_aload_n hx hb dX2_attacksOf_29 rfl (lv_at hl 3 rfl) ?_
  refine lv_iload hx hb dX2_attacksOf_30 (lv_at hl 2 rfl) ?_
  refine lv_iconst (v := (nI 3)) hx hb dX2_attacksOf_32 (by decide) ?_
  refine ln_iadd hx hb dX2_attacksOf_33 ?_
  refine roL (rnV (As := [.int (nI ((6 * w) + 3))]) (rest := []) S0 (c_X2_squaresOf l bd hCP ((6 * w) + 3) (by omega)) wm_X2_61 wi_X2_squaresOf ws_X2_squaresOf wn_X2 wc_X2_squaresOf hd_X2_squaresOf ⟨rfl, rfl, by decide, by decide⟩ IW.blind (va_recv hK hP (ci := 1) (q0 := 2) rfl rfl) (IW.at hP hD hK hA hE hS) hl.1 (Nat.le_of_ble_eq_true rfl) dX2_attacksOf_34 rfl ⟨by decide, by decide⟩) (fun r_3 hr_3 => ?_)
  subst hr_3
  refine lv_lload hx hb dX2_attacksOf_37 (lv_at hl 1 rfl) ?_
  refine lv_lor hx hb dX2_attacksOf_39 ?_
  refine W.top (y := .long (slaS bd w)) (congrArg Value.long rfl) ?_
  refine lv_lstore (lv' := [(11, .long (slaS bd w)), (9, .long (strS bd w)), (7, .long (sqs bd ((6 * w) + 5))), (6, .int (nI (6 * w))), (0, .ref h2), (1, .int (nI w)), (2, .long x), (4, .long y)]) hx hb dX2_attacksOf_40 hl (by decide) rfl (fun ls hl => ?_)
  refine lv_aload_n hx hb dX2_attacksOf_42 rfl (lv_at hl 4 rfl) ?_
  refine lv_iload hx hb dX2_attacksOf_43 (lv_at hl 3 rfl) ?_
  refine lv_iconst (v := (nI 1)) hx hb dX2_attacksOf_45 (by decide) ?_
  refine ln_iadd hx hb dX2_attacksOf_46 ?_
  refine roL (rnV (As := [.int (nI ((6 * w) + 1))]) (rest := []) S0 (c_X2_squaresOf l bd hCP ((6 * w) + 1) (by omega)) wm_X2_61 wi_X2_squaresOf ws_X2_squaresOf wn_X2 wc_X2_squaresOf hd_X2_squaresOf ⟨rfl, rfl, by decide, by decide⟩ IW.blind (va_recv hK hP (ci := 1) (q0 := 2) rfl rfl) (IW.at hP hD hK hA hE hS) hl.1 (Nat.le_of_ble_eq_true rfl) dX2_attacksOf_47 rfl ⟨by decide, by decide⟩) (fun r_4 hr_4 => ?_)
  subst hr_4
  refine lv_lload hx hb dX2_attacksOf_50 (lv_at hl 7 rfl) ?_
  refine lv_ldc2 (v := (-1)) hx hb hown (hG _ wk_X2_19) dX2_attacksOf_52 ?_
  refine lv_lxor hx hb dX2_attacksOf_55 ?_
  refine lv_land hx hb dX2_attacksOf_56 ?_
  refine lv_iload_n hx hb dX2_attacksOf_57 rfl (lv_at hl 5 rfl) ?_
  refine roL (rnS (As := [.long ((sqs bd ((6 * w) + 1)) &&& (y ^^^ (-1))), .int (nI w)]) (rest := []) S0 (c_X0_ofPawns l ((sqs bd ((6 * w) + 1)) &&& (y ^^^ (-1))) w (by omega)) wm_X2_64 wt_X0_ofPawns wn_X0 wc_X0_ofPawns hd_X0_ofPawns ⟨rfl, rfl, by decide, by decide⟩ True.blind (fun _ _ _ => trivial) hl.1 (Nat.le_of_ble_eq_true rfl) dX2_attacksOf_58 rfl ⟨by decide, by decide⟩) (fun r_5 hr_5 => ?_)
  subst hr_5
  refine lv_aload_n hx hb dX2_attacksOf_61 rfl (lv_at hl 4 rfl) ?_
  refine lv_iload hx hb dX2_attacksOf_62 (lv_at hl 3 rfl) ?_
  refine lv_iconst (v := (nI 2)) hx hb dX2_attacksOf_64 (by decide) ?_
  refine ln_iadd hx hb dX2_attacksOf_65 ?_
  refine roL (rnV (As := [.int (nI ((6 * w) + 2))]) (rest := [.long (opw ((sqs bd ((6 * w) + 1)) &&& (y ^^^ (-1))) w)]) S0 (c_X2_squaresOf l bd hCP ((6 * w) + 2) (by omega)) wm_X2_61 wi_X2_squaresOf ws_X2_squaresOf wn_X2 wc_X2_squaresOf hd_X2_squaresOf ⟨rfl, rfl, by decide, by decide⟩ IW.blind (va_recv hK hP (ci := 1) (q0 := 2) rfl rfl) (IW.at hP hD hK hA hE hS) hl.1 (Nat.le_of_ble_eq_true rfl) dX2_attacksOf_66 rfl ⟨by decide, by decide⟩) (fun r_6 hr_6 => ?_)
  subst hr_6
  refine roL (rnS (As := [.long (sqs bd ((6 * w) + 2))]) (rest := [.long (opw ((sqs bd ((6 * w) + 1)) &&& (y ^^^ (-1))) w)]) S0 (c_X0_ofKnights l (sqs bd ((6 * w) + 2))) wm_X2_70 wt_X0_ofKnights wn_X0 wc_X0_ofKnights hd_X0_ofKnights ⟨rfl, rfl, by decide, by decide⟩ True.blind (fun _ _ _ => trivial) hl.1 (Nat.le_of_ble_eq_true rfl) dX2_attacksOf_69 rfl ⟨by decide, by decide⟩) (fun r_7 hr_7 => ?_)
  subst hr_7
  refine lv_lor hx hb dX2_attacksOf_72 ?_
  refine lv_aload_n hx hb dX2_attacksOf_73 rfl (lv_at hl 4 rfl) ?_
  refine lv_iload hx hb dX2_attacksOf_74 (lv_at hl 3 rfl) ?_
  refine lv_bipush (v := (nI 6)) hx hb dX2_attacksOf_76 (by decide) ?_
  refine ln_iadd hx hb dX2_attacksOf_78 ?_
  refine roL (rnV (As := [.int (nI ((6 * w) + 6))]) (rest := [.long ((opw ((sqs bd ((6 * w) + 1)) &&& (y ^^^ (-1))) w) ||| (okn (sqs bd ((6 * w) + 2))))]) S0 (c_X2_squaresOf l bd hCP ((6 * w) + 6) (by omega)) wm_X2_61 wi_X2_squaresOf ws_X2_squaresOf wn_X2 wc_X2_squaresOf hd_X2_squaresOf ⟨rfl, rfl, by decide, by decide⟩ IW.blind (va_recv hK hP (ci := 1) (q0 := 2) rfl rfl) (IW.at hP hD hK hA hE hS) hl.1 (Nat.le_of_ble_eq_true rfl) dX2_attacksOf_79 rfl ⟨by decide, by decide⟩) (fun r_8 hr_8 => ?_)
  subst hr_8
  refine roL (rnS (As := [.long (sqs bd ((6 * w) + 6))]) (rest := [.long ((opw ((sqs bd ((6 * w) + 1)) &&& (y ^^^ (-1))) w) ||| (okn (sqs bd ((6 * w) + 2))))]) S0 (c_X0_ofKings l (sqs bd ((6 * w) + 6))) wm_X2_74 wt_X0_ofKings wn_X0 wc_X0_ofKings hd_X0_ofKings ⟨rfl, rfl, by decide, by decide⟩ True.blind (fun _ _ _ => trivial) hl.1 (Nat.le_of_ble_eq_true rfl) dX2_attacksOf_82 rfl ⟨by decide, by decide⟩) (fun r_9 hr_9 => ?_)
  subst hr_9
  refine lv_lor hx hb dX2_attacksOf_85 ?_
  refine W.top (y := .long (atsN bd w x y 0)) (congrArg Value.long rfl) ?_
  refine lv_lstore (lv' := [(13, .long (atsN bd w x y 0)), (11, .long (slaS bd w)), (9, .long (strS bd w)), (7, .long (sqs bd ((6 * w) + 5))), (6, .int (nI (6 * w))), (0, .ref h2), (1, .int (nI w)), (2, .long x), (4, .long y)]) hx hb dX2_attacksOf_86 hl (by decide) rfl (fun ls hl => ?_)
  refine lv_iconst (v := (nI 0)) hx hb dX2_attacksOf_88 (by decide) ?_
  refine lv_istore (lv' := [(15, .int (nI 0)), (13, .long (atsN bd w x y 0)), (11, .long (slaS bd w)), (9, .long (strS bd w)), (7, .long (sqs bd ((6 * w) + 5))), (6, .int (nI (6 * w))), (0, .ref h2), (1, .int (nI w)), (2, .long x), (4, .long y)]) hx hb dX2_attacksOf_89 hl (by decide) rfl (fun ls hl => ?_)
  refine lpR (σ := (Nat)) 91 16 [] (fun x9 => [(0, .ref h2), (2, .long x), (9, .long (strS bd w)), (11, .long (slaS bd w)), (13, .long (atsN bd w x y x9)), (15, .int (nI x9))]) (fun x9 => x9 ≤ 8) (fun x9 => 8 - x9) 0 (Nat.zero_le _) (lv_sub hl [6, 8, 3, 2, 1, 0] rfl) ?_
  clear hl ls
  rintro i hI ih_91 ls hl
  try dsimp only at hI ih_91 hl
  refine lv_iload hx hb dX2_attacksOf_91 (lv_at hl 5 rfl) ?_
  refine lv_bipush (v := (nI 8)) hx hb dX2_attacksOf_93 (by decide) ?_
  refine ln_icmp_ge (tgt := 128) hx hb dX2_attacksOf_95 (by decide) (by omega) (by decide) (fun c95 => ?_) (fun c95 => ?_)
  · skip
    refine lv_lload hx hb dX2_attacksOf_128 (lv_at hl 4 rfl) ?_
    exact reL hx hb hr hlocks dX2_attacksOf_130 (by rw [show i = 8 by omega]; rfl)
  · skip
    refine lv_lload hx hb dX2_attacksOf_98 (lv_at hl 4 rfl) ?_
    refine lv_iload hx hb dX2_attacksOf_100 (lv_at hl 5 rfl) ?_
    refine lv_iconst (v := (nI 4)) hx hb dX2_attacksOf_102 (by decide) ?_
    refine jnG 113 16 [(0, .ref h2), (2, .long x), (9, .long (strS bd w)), (11, .long (slaS bd w)), (13, .long (atsN bd w x y i)), (15, .int (nI i))] [.long (if i < 4 then strS bd w else slaS bd w), .long (atsN bd w x y i)] ?_ (fun hj_113 => ?_)
    · intro ls hl
      refine lv_lload_n hx hb dX2_attacksOf_113 rfl (lv_at hl 1 rfl) ?_
      refine lv_iload hx hb dX2_attacksOf_114 (lv_at hl 5 rfl) ?_
      refine roL (rnS (As := [.long (if i < 4 then strS bd w else slaS bd w), .long x, .int (nI i)]) (rest := [.long (atsN bd w x y i)]) S0 (c_X0_ray l (if i < 4 then strS bd w else slaS bd w) x i (by omega)) wm_X2_77 wt_X0_ray wn_X0 wc_X0_ray hd_X0_ray ⟨rfl, rfl, by decide, by decide⟩ EV.blind (EV.at hE hS) hl.1 (Nat.le_of_ble_eq_true rfl) dX2_attacksOf_116 rfl ⟨by decide, by decide⟩) (fun r_10 hr_10 => ?_)
      subst hr_10
      refine lv_lor hx hb dX2_attacksOf_119 ?_
      refine W.top (y := .long (atsN bd w x y (i + 1))) (congrArg Value.long rfl) ?_
      refine lv_lstore (lv' := [(13, .long (atsN bd w x y (i + 1))), (0, .ref h2), (2, .long x), (9, .long (strS bd w)), (11, .long (slaS bd w)), (15, .int (nI i))]) hx hb dX2_attacksOf_120 hl (by decide) rfl (fun ls hl => ?_)
      refine lv_iinc (v := (nI (i + 1))) (lv' := [(15, .int (nI (i + 1))), (13, .long (atsN bd w x y (i + 1))), (0, .ref h2), (2, .long x), (9, .long (strS bd w)), (11, .long (slaS bd w))]) hx hb dX2_attacksOf_122 hl (k := 5) rfl (show nI i + Int32.ofInt 1 = nI (i + 1) from nI_add _ 1) (by decide) rfl (fun ls hl => ?_)
      refine lv_goto (tgt := 91) hx hb dX2_attacksOf_125 (by decide) ?_
      exact ih_91 (i + 1) (by omega) (by (try dsimp only); omega) ls (lv_sub hl [2, 3, 4, 5, 1, 0] rfl)
    · skip
      refine ln_icmp_ge (tgt := 111) hx hb dX2_attacksOf_103 (by decide) (by omega) (by decide) (fun c103 => ?_) (fun c103 => ?_)
      · skip
        refine lv_lload hx hb dX2_attacksOf_111 (lv_at hl 3 rfl) ?_
        refine W.top (y := .long (if i < 4 then strS bd w else slaS bd w)) (congrArg Value.long (by first | rw [if_pos (show i < 4 by omega)] | rw [if_neg (show ¬ i < 4 by omega)])) ?_
        exact hj_113 ls (lv_sub hl [0, 1, 2, 3, 4, 5] rfl)
      · skip
        refine lv_lload hx hb dX2_attacksOf_106 (lv_at hl 2 rfl) ?_
        refine lv_goto (tgt := 113) hx hb dX2_attacksOf_108 (by decide) ?_
        refine W.top (y := .long (if i < 4 then strS bd w else slaS bd w)) (congrArg Value.long (by first | rw [if_pos (show i < 4 by omega)] | rw [if_neg (show ¬ i < 4 by omega)])) ?_
        exact hj_113 ls (lv_sub hl [0, 1, 2, 3, 4, 5] rfl)
theorem dX2_kingIsAttacked_0 : decode cX2_kingIsAttacked 0 = .ok (.aload_n 0, 1) := by decide +kernel
theorem dX2_kingIsAttacked_1 : decode cX2_kingIsAttacked 1 = .ok (.bipush 6, 2) := by decide +kernel
theorem dX2_kingIsAttacked_3 : decode cX2_kingIsAttacked 3 = .ok (.iload_n 1, 1) := by decide +kernel
theorem dX2_kingIsAttacked_4 : decode cX2_kingIsAttacked 4 = .ok (.imul, 1) := by decide +kernel
theorem dX2_kingIsAttacked_5 : decode cX2_kingIsAttacked 5 = .ok (.bipush 6, 2) := by decide +kernel
theorem dX2_kingIsAttacked_7 : decode cX2_kingIsAttacked 7 = .ok (.iadd, 1) := by decide +kernel
theorem dX2_kingIsAttacked_8 : decode cX2_kingIsAttacked 8 = .ok (.invokevirtual 61, 3) := by decide +kernel
theorem dX2_kingIsAttacked_11 : decode cX2_kingIsAttacked 11 = .ok (.lstore_n 2, 1) := by decide +kernel
theorem dX2_kingIsAttacked_12 : decode cX2_kingIsAttacked 12 = .ok (.aload_n 0, 1) := by decide +kernel
theorem dX2_kingIsAttacked_13 : decode cX2_kingIsAttacked 13 = .ok (.iconst 1, 1) := by decide +kernel
theorem dX2_kingIsAttacked_14 : decode cX2_kingIsAttacked 14 = .ok (.iload_n 1, 1) := by decide +kernel
theorem dX2_kingIsAttacked_15 : decode cX2_kingIsAttacked 15 = .ok (.isub, 1) := by decide +kernel
theorem dX2_kingIsAttacked_16 : decode cX2_kingIsAttacked 16 = .ok (.aload_n 0, 1) := by decide +kernel
theorem dX2_kingIsAttacked_17 : decode cX2_kingIsAttacked 17 = .ok (.iconst 0, 1) := by decide +kernel
theorem dX2_kingIsAttacked_18 : decode cX2_kingIsAttacked 18 = .ok (.invokevirtual 61, 3) := by decide +kernel
theorem dX2_kingIsAttacked_21 : decode cX2_kingIsAttacked 21 = .ok (.ldc2_w 19, 3) := by decide +kernel
theorem dX2_kingIsAttacked_24 : decode cX2_kingIsAttacked 24 = .ok (.lxor, 1) := by decide +kernel
theorem dX2_kingIsAttacked_25 : decode cX2_kingIsAttacked 25 = .ok (.lconst 0, 1) := by decide +kernel
theorem dX2_kingIsAttacked_26 : decode cX2_kingIsAttacked 26 = .ok (.invokevirtual 81, 3) := by decide +kernel
theorem dX2_kingIsAttacked_29 : decode cX2_kingIsAttacked 29 = .ok (.lload_n 2, 1) := by decide +kernel
theorem dX2_kingIsAttacked_30 : decode cX2_kingIsAttacked 30 = .ok (.land, 1) := by decide +kernel
theorem dX2_kingIsAttacked_31 : decode cX2_kingIsAttacked 31 = .ok (.lconst 0, 1) := by decide +kernel
theorem dX2_kingIsAttacked_32 : decode cX2_kingIsAttacked 32 = .ok (.lcmp, 1) := by decide +kernel
theorem dX2_kingIsAttacked_33 : decode cX2_kingIsAttacked 33 = .ok (.ifCond .eq 7, 3) := by decide +kernel
theorem dX2_kingIsAttacked_36 : decode cX2_kingIsAttacked 36 = .ok (.iconst 1, 1) := by decide +kernel
theorem dX2_kingIsAttacked_37 : decode cX2_kingIsAttacked 37 = .ok (.goto 4, 3) := by decide +kernel
theorem dX2_kingIsAttacked_40 : decode cX2_kingIsAttacked 40 = .ok (.iconst 0, 1) := by decide +kernel
theorem dX2_kingIsAttacked_41 : decode cX2_kingIsAttacked 41 = .ok (.ireturn, 1) := by decide +kernel
theorem hd_X2_kingIsAttacked : yX2_kingIsAttacked.cls ≠ "java/lang/invoke/MethodHandle" ∧ yX2_kingIsAttacked.cls ≠ "java/lang/invoke/VarHandle" ∧ (parseMethodDescriptor yX2_kingIsAttacked.desc).map (fun d => d.parameters.length) = some 1 := by decide +kernel
set_option maxHeartbeats 4000000 in
set_option maxRecDepth 100000 in
/-- kingIsAttacked -/
theorem c_X2_kingIsAttacked (l : Launch) {D : va_G} {cI cJ : ClassId} {A : Nat → Prop} {h0 h1 h2 a0 a1 a2 a3 h3 a4 h4 a5 : Nat} {kn op : Int32} {ow tr fu kg co pn : Int64} {si ri pa ma : Int32} {pcs : Nat → Int32} {sqa : Nat → Int64} {mvs los : Nat → Int32} {lsz : Int32} {lfs : Nat → Int32} {asz : Int32} {afs : Nat → Int32} (bd : Nat → Nat) (hCP : CP pcs sqa bd) (w : Nat) (hw : w < 2) : Met l yX2_kingIsAttacked (Cond.code yX2_kingIsAttacked cX2_kingIsAttacked 4 (some .boolean) :: wsL_law) (rK 2) (va_Pc [.ref h2, .int (nI w)] (IW D cI cJ A (cW cI cJ h0 h1 h2 a0 a1 a2 a3 h3 a4 h4 a5 kn op ow tr fu kg co pn si ri pa ma pcs sqa mvs los lsz lfs asz afs))) (vp_Si (fun r => r = bI (kia bd w))) 0 0 (fun _ => False) := by
  refine entM (by decide) (Nat.le_of_ble_eq_true rfl) ?_
  intro p e s m below meth c ls S0 hr hlocks hG hnm hB hl
  have hx := S0.1
  have hb := S0.2.1
  have hown := S0.2.2.2.1
  have hl : lv_has ls 4 [(0, .ref h2), (1, .int (nI w))] := hl
  obtain ⟨hP, hD, hK, hA, hE⟩ := hB
  have hS : va_S A s.heap s.heap [] := va_S.rf
  refine lv_aload_n hx hb dX2_kingIsAttacked_0 rfl (lv_at hl 0 rfl) ?_
  refine lv_bipush (v := (nI 6)) hx hb dX2_kingIsAttacked_1 (by decide) ?_
  refine lv_iload_n hx hb dX2_kingIsAttacked_3 rfl (lv_at hl 1 rfl) ?_
  refine ln_imul hx hb dX2_kingIsAttacked_4 ?_
  refine lv_bipush (v := (nI 6)) hx hb dX2_kingIsAttacked_5 (by decide) ?_
  refine ln_iadd hx hb dX2_kingIsAttacked_7 ?_
  refine roL (rnV (As := [.int (nI ((6 * w) + 6))]) (rest := []) S0 (c_X2_squaresOf l bd hCP ((6 * w) + 6) (by omega)) wm_X2_61 wi_X2_squaresOf ws_X2_squaresOf wn_X2 wc_X2_squaresOf hd_X2_squaresOf ⟨rfl, rfl, by decide, by decide⟩ IW.blind (va_recv hK hP (ci := 1) (q0 := 2) rfl rfl) (IW.at hP hD hK hA hE hS) hl.1 (Nat.le_of_ble_eq_true rfl) dX2_kingIsAttacked_8 rfl ⟨by decide, by decide⟩) (fun r_1 hr_1 => ?_)
  subst hr_1
  refine lv_lstore_n (lv' := [(2, .long (sqs bd ((6 * w) + 6))), (0, .ref h2), (1, .int (nI w))]) hx hb dX2_kingIsAttacked_11 rfl hl (by decide) rfl (fun ls hl => ?_)
  refine lv_aload_n hx hb dX2_kingIsAttacked_12 rfl (lv_at hl 1 rfl) ?_
  refine lv_iconst (v := (nI 1)) hx hb dX2_kingIsAttacked_13 (by decide) ?_
  refine lv_iload_n hx hb dX2_kingIsAttacked_14 rfl (lv_at hl 2 rfl) ?_
  refine ln_isub hx hb dX2_kingIsAttacked_15 (by omega) ?_
  refine lv_aload_n hx hb dX2_kingIsAttacked_16 rfl (lv_at hl 1 rfl) ?_
  refine lv_iconst (v := (nI 0)) hx hb dX2_kingIsAttacked_17 (by decide) ?_
  refine roL (rnV (As := [.int (nI 0)]) (rest := [.int (nI (1 - w)), .ref h2]) S0 (c_X2_squaresOf l bd hCP 0 (by omega)) wm_X2_61 wi_X2_squaresOf ws_X2_squaresOf wn_X2 wc_X2_squaresOf hd_X2_squaresOf ⟨rfl, rfl, by decide, by decide⟩ IW.blind (va_recv hK hP (ci := 1) (q0 := 2) rfl rfl) (IW.at hP hD hK hA hE hS) hl.1 (Nat.le_of_ble_eq_true rfl) dX2_kingIsAttacked_18 rfl ⟨by decide, by decide⟩) (fun r_2 hr_2 => ?_)
  subst hr_2
  refine lv_ldc2 (v := (-1)) hx hb hown (hG _ wk_X2_19) dX2_kingIsAttacked_21 ?_
  refine lv_lxor hx hb dX2_kingIsAttacked_24 ?_
  refine lv_lconst (v := 0) hx hb dX2_kingIsAttacked_25 (by decide) ?_
  refine roL (rnV (As := [.int (nI (1 - w)), .long ((sqs bd 0) ^^^ (-1)), .long 0]) (rest := []) S0 (c_X2_attacksOf l bd hCP (1 - w) (by omega) ((sqs bd 0) ^^^ (-1)) 0) wm_X2_81 wi_X2_attacksOf ws_X2_attacksOf wn_X2 wc_X2_attacksOf hd_X2_attacksOf ⟨rfl, rfl, by decide, by decide⟩ IW.blind (va_recv hK hP (ci := 1) (q0 := 2) rfl rfl) (IW.at hP hD hK hA hE hS) hl.1 (Nat.le_of_ble_eq_true rfl) dX2_kingIsAttacked_26 rfl ⟨by decide, by decide⟩) (fun r_3 hr_3 => ?_)
  subst hr_3
  refine lv_lload_n hx hb dX2_kingIsAttacked_29 rfl (lv_at hl 0 rfl) ?_
  refine lv_land hx hb dX2_kingIsAttacked_30 ?_
  refine lv_lconst (v := 0) hx hb dX2_kingIsAttacked_31 (by decide) ?_
  refine W.lcmp hx hb dX2_kingIsAttacked_32 ?_
  refine lc_if_eq (tgt := 40) hx hb dX2_kingIsAttacked_33 (by decide) (fun c33 => ?_) (fun c33 => ?_)
  · skip
    refine lv_iconst (v := (nI 0)) hx hb dX2_kingIsAttacked_40 (by decide) ?_
    exact reZ (v := false) hx hb hr hlocks dX2_kingIsAttacked_41 (congrArg bI (by unfold kia; first | (rw [decide_eq_true c33]; rfl) | (rw [decide_eq_false c33]; rfl)))
  · skip
    refine lv_iconst (v := (nI 1)) hx hb dX2_kingIsAttacked_36 (by decide) ?_
    refine lv_goto (tgt := 41) hx hb dX2_kingIsAttacked_37 (by decide) ?_
    exact reZ (v := true) hx hb hr hlocks dX2_kingIsAttacked_41 (congrArg bI (by unfold kia; first | (rw [decide_eq_true c33]; rfl) | (rw [decide_eq_false c33]; rfl)))
theorem dX2_canBePlayed_0 : decode cX2_canBePlayed 0 = .ok (.aload_n 0, 1) := by decide +kernel
theorem dX2_canBePlayed_1 : decode cX2_canBePlayed 1 = .ok (.bipush 6, 2) := by decide +kernel
theorem dX2_canBePlayed_3 : decode cX2_canBePlayed 3 = .ok (.invokevirtual 61, 3) := by decide +kernel
theorem dX2_canBePlayed_6 : decode cX2_canBePlayed 6 = .ok (.invokestatic 85, 3) := by decide +kernel
theorem dX2_canBePlayed_9 : decode cX2_canBePlayed 9 = .ok (.iconst 1, 1) := by decide +kernel
theorem dX2_canBePlayed_10 : decode cX2_canBePlayed 10 = .ok (.if_icmp .ne 33, 3) := by decide +kernel
theorem dX2_canBePlayed_13 : decode cX2_canBePlayed 13 = .ok (.aload_n 0, 1) := by decide +kernel
theorem dX2_canBePlayed_14 : decode cX2_canBePlayed 14 = .ok (.bipush 12, 2) := by decide +kernel
theorem dX2_canBePlayed_16 : decode cX2_canBePlayed 16 = .ok (.invokevirtual 61, 3) := by decide +kernel
theorem dX2_canBePlayed_19 : decode cX2_canBePlayed 19 = .ok (.invokestatic 85, 3) := by decide +kernel
theorem dX2_canBePlayed_22 : decode cX2_canBePlayed 22 = .ok (.iconst 1, 1) := by decide +kernel
theorem dX2_canBePlayed_23 : decode cX2_canBePlayed 23 = .ok (.if_icmp .ne 20, 3) := by decide +kernel
theorem dX2_canBePlayed_26 : decode cX2_canBePlayed 26 = .ok (.aload_n 0, 1) := by decide +kernel
theorem dX2_canBePlayed_27 : decode cX2_canBePlayed 27 = .ok (.iconst 1, 1) := by decide +kernel
theorem dX2_canBePlayed_28 : decode cX2_canBePlayed 28 = .ok (.aload_n 0, 1) := by decide +kernel
theorem dX2_canBePlayed_29 : decode cX2_canBePlayed 29 = .ok (.getfield 21, 3) := by decide +kernel
theorem dX2_canBePlayed_32 : decode cX2_canBePlayed 32 = .ok (.isub, 1) := by decide +kernel
theorem dX2_canBePlayed_33 : decode cX2_canBePlayed 33 = .ok (.invokevirtual 91, 3) := by decide +kernel
theorem dX2_canBePlayed_36 : decode cX2_canBePlayed 36 = .ok (.ifCond .ne 7, 3) := by decide +kernel
theorem dX2_canBePlayed_39 : decode cX2_canBePlayed 39 = .ok (.iconst 1, 1) := by decide +kernel
theorem dX2_canBePlayed_40 : decode cX2_canBePlayed 40 = .ok (.goto 4, 3) := by decide +kernel
theorem dX2_canBePlayed_43 : decode cX2_canBePlayed 43 = .ok (.iconst 0, 1) := by decide +kernel
theorem dX2_canBePlayed_44 : decode cX2_canBePlayed 44 = .ok (.ireturn, 1) := by decide +kernel
theorem hd_X2_canBePlayed : yX2_canBePlayed.cls ≠ "java/lang/invoke/MethodHandle" ∧ yX2_canBePlayed.cls ≠ "java/lang/invoke/VarHandle" ∧ (parseMethodDescriptor yX2_canBePlayed.desc).map (fun d => d.parameters.length) = some 0 := by decide +kernel
set_option maxHeartbeats 4000000 in
set_option maxRecDepth 100000 in
/-- canBePlayed -/
theorem c_X2_canBePlayed (l : Launch) {D : va_G} {cI cJ : ClassId} {A : Nat → Prop} {h0 h1 h2 a0 a1 a2 a3 h3 a4 h4 a5 : Nat} {kn op : Int32} {ow tr fu kg co pn : Int64} {ri pa ma : Int32} {pcs : Nat → Int32} {sqa : Nat → Int64} {mvs los : Nat → Int32} {lsz : Int32} {lfs : Nat → Int32} {asz : Int32} {afs : Nat → Int32} (bd : Nat → Nat) (hCP : CP pcs sqa bd) (sd : Nat) (hs2 : sd < 2) : Met l yX2_canBePlayed (Cond.code yX2_canBePlayed cX2_canBePlayed 1 (some .boolean) :: wsL_law) (rK 3) (va_Pc [.ref h2] (IW D cI cJ A (cW cI cJ h0 h1 h2 a0 a1 a2 a3 h3 a4 h4 a5 kn op ow tr fu kg co pn (nI sd) ri pa ma pcs sqa mvs los lsz lfs asz afs))) (vp_Si (fun r => r = bI (cbp bd sd))) 0 0 (fun _ => False) := by
  refine entM (by decide) (Nat.le_of_ble_eq_true rfl) ?_
  intro p e s m below meth c ls S0 hr hlocks hG hnm hB hl
  have hx := S0.1
  have hb := S0.2.1
  have hown := S0.2.2.2.1
  have hl : lv_has ls 1 [(0, .ref h2)] := hl
  obtain ⟨hP, hD, hK, hA, hE⟩ := hB
  have hS : va_S A s.heap s.heap [] := va_S.rf
  refine lv_aload_n hx hb dX2_canBePlayed_0 rfl (lv_at hl 0 rfl) ?_
  refine lv_bipush (v := (nI 6)) hx hb dX2_canBePlayed_1 (by decide) ?_
  refine roL (rnV (As := [.int (nI 6)]) (rest := []) S0 (c_X2_squaresOf l bd hCP 6 (by omega)) wm_X2_61 wi_X2_squaresOf ws_X2_squaresOf wn_X2 wc_X2_squaresOf hd_X2_squaresOf ⟨rfl, rfl, by decide, by decide⟩ IW.blind (va_recv hK hP (ci := 1) (q0 := 2) rfl rfl) (IW.at hP hD hK hA hE hS) hl.1 (Nat.le_of_ble_eq_true rfl) dX2_canBePlayed_3 rfl ⟨by decide, by decide⟩) (fun r_1 hr_1 => ?_)
  subst hr_1
  refine roI (rnS (As := [.long (sqs bd 6)]) (rest := []) S0 (c_J13_bitCount_95d88 l (sqs bd 6)) wm_X2_85 wt_J13_bitCount_95d88 wn_J13 wc_J13_bitCount_95d88 hd_J13_bitCount_95d88 ⟨rfl, rfl, by decide, by decide⟩ True.blind (fun _ _ _ => trivial) hl.1 (Nat.le_of_ble_eq_true rfl) dX2_canBePlayed_6 rfl ⟨by decide, by decide⟩) (fun r_2 hr_2 => ?_)
  subst hr_2
  refine lv_iconst (v := (nI 1)) hx hb dX2_canBePlayed_9 (by decide) ?_
  refine lv_icmp_ne (tgt := 43) hx hb dX2_canBePlayed_10 (by decide) (fun c10 => ?_) (fun c10 => ?_)
  · skip
    refine lv_iconst (v := (nI 0)) hx hb dX2_canBePlayed_43 (by decide) ?_
    exact reZ (v := false) hx hb hr hlocks dX2_canBePlayed_44 (congrArg bI (by unfold cbp; first | (rw [decide_eq_true c10, decide_eq_true c23, c36]; rfl) | (rw [decide_eq_true c10, decide_eq_false c23]; rfl) | (rw [decide_eq_false c10]; rfl)))
  · skip
    refine lv_aload_n hx hb dX2_canBePlayed_13 rfl (lv_at hl 0 rfl) ?_
    refine lv_bipush (v := (nI 12)) hx hb dX2_canBePlayed_14 (by decide) ?_
    refine roL (rnV (As := [.int (nI 12)]) (rest := []) S0 (c_X2_squaresOf l bd hCP 12 (by omega)) wm_X2_61 wi_X2_squaresOf ws_X2_squaresOf wn_X2 wc_X2_squaresOf hd_X2_squaresOf ⟨rfl, rfl, by decide, by decide⟩ IW.blind (va_recv hK hP (ci := 1) (q0 := 2) rfl rfl) (IW.at hP hD hK hA hE hS) hl.1 (Nat.le_of_ble_eq_true rfl) dX2_canBePlayed_16 rfl ⟨by decide, by decide⟩) (fun r_3 hr_3 => ?_)
    subst hr_3
    refine roI (rnS (As := [.long (sqs bd 12)]) (rest := []) S0 (c_J13_bitCount_95d88 l (sqs bd 12)) wm_X2_85 wt_J13_bitCount_95d88 wn_J13 wc_J13_bitCount_95d88 hd_J13_bitCount_95d88 ⟨rfl, rfl, by decide, by decide⟩ True.blind (fun _ _ _ => trivial) hl.1 (Nat.le_of_ble_eq_true rfl) dX2_canBePlayed_19 rfl ⟨by decide, by decide⟩) (fun r_4 hr_4 => ?_)
    subst hr_4
    refine lv_iconst (v := (nI 1)) hx hb dX2_canBePlayed_22 (by decide) ?_
    refine lv_icmp_ne (tgt := 43) hx hb dX2_canBePlayed_23 (by decide) (fun c23 => ?_) (fun c23 => ?_)
    · skip
      refine lv_iconst (v := (nI 0)) hx hb dX2_canBePlayed_43 (by decide) ?_
      exact reZ (v := false) hx hb hr hlocks dX2_canBePlayed_44 (congrArg bI (by unfold cbp; first | (rw [decide_eq_true c10, decide_eq_true c23, c36]; rfl) | (rw [decide_eq_true c10, decide_eq_false c23]; rfl) | (rw [decide_eq_false c10]; rfl)))
    · skip
      refine lv_aload_n hx hb dX2_canBePlayed_26 rfl (lv_at hl 0 rfl) ?_
      refine lv_iconst (v := (nI 1)) hx hb dX2_canBePlayed_27 (by decide) ?_
      refine lv_aload_n hx hb dX2_canBePlayed_28 rfl (lv_at hl 0 rfl) ?_
      refine va_get (D := D) (ci := 1) (v := .int (nI sd)) (C := RX2) (T := TX2) (N := 8) hx hb hG wu_X2 hown hK hP 2 rfl rfl 2 (by decide) (hG _ wf_X2_21) (fun _ h9 => h9) rfl dX2_canBePlayed_29 ?_
      refine ln_isub hx hb dX2_canBePlayed_32 (by omega) ?_
      refine roI (rnV (As := [.int (nI (1 - sd))]) (rest := []) S0 (c_X2_kingIsAttacked l bd hCP (1 - sd) (by omega)) wm_X2_91 wi_X2_kingIsAttacked ws_X2_kingIsAttacked wn_X2 wc_X2_kingIsAttacked hd_X2_kingIsAttacked ⟨rfl, rfl, by decide, by decide⟩ IW.blind (va_recv hK hP (ci := 1) (q0 := 2) rfl rfl) (IW.at hP hD hK hA hE hS) hl.1 (Nat.le_of_ble_eq_true rfl) dX2_canBePlayed_33 rfl ⟨by decide, by decide⟩) (fun r_5 hr_5 => ?_)
      subst hr_5
      refine lb_if_ne (tgt := 43) hx hb dX2_canBePlayed_36 (by decide) (fun c36 => ?_) (fun c36 => ?_)
      · skip
        refine lv_iconst (v := (nI 0)) hx hb dX2_canBePlayed_43 (by decide) ?_
        exact reZ (v := false) hx hb hr hlocks dX2_canBePlayed_44 (congrArg bI (by unfold cbp; first | (rw [decide_eq_true c10, decide_eq_true c23, c36]; rfl) | (rw [decide_eq_true c10, decide_eq_false c23]; rfl) | (rw [decide_eq_false c10]; rfl)))
      · skip
        refine lv_iconst (v := (nI 1)) hx hb dX2_canBePlayed_39 (by decide) ?_
        refine lv_goto (tgt := 44) hx hb dX2_canBePlayed_40 (by decide) ?_
        exact reZ (v := true) hx hb hr hlocks dX2_canBePlayed_44 (congrArg bI (by unfold cbp; first | (rw [decide_eq_true c10, decide_eq_true c23, c36]; rfl) | (rw [decide_eq_true c10, decide_eq_false c23]; rfl) | (rw [decide_eq_false c10]; rfl)))
theorem dX2_set_0 : decode cX2_set 0 = .ok (.iload_n 1, 1) := by decide +kernel
theorem dX2_set_1 : decode cX2_set 1 = .ok (.invokestatic 50, 3) := by decide +kernel
theorem dX2_set_4 : decode cX2_set 4 = .ok (.ifCond .eq 10, 3) := by decide +kernel
theorem dX2_set_7 : decode cX2_set 7 = .ok (.iload_n 2, 1) := by decide +kernel
theorem dX2_set_8 : decode cX2_set 8 = .ok (.invokestatic 54, 3) := by decide +kernel
theorem dX2_set_11 : decode cX2_set 11 = .ok (.ifCond .ne 4, 3) := by decide +kernel
theorem dX2_set_14 : decode cX2_set 14 = .ok (.return_, 1) := by decide +kernel
theorem dX2_set_15 : decode cX2_set 15 = .ok (.aload_n 0, 1) := by decide +kernel
theorem dX2_set_16 : decode cX2_set 16 = .ok (.getfield 9, 3) := by decide +kernel
theorem dX2_set_19 : decode cX2_set 19 = .ok (.iload_n 1, 1) := by decide +kernel
theorem dX2_set_20 : decode cX2_set 20 = .ok (.iaload, 1) := by decide +kernel
theorem dX2_set_21 : decode cX2_set 21 = .ok (.istore_n 3, 1) := by decide +kernel
theorem dX2_set_22 : decode cX2_set 22 = .ok (.iload_n 3, 1) := by decide +kernel
theorem dX2_set_23 : decode cX2_set 23 = .ok (.invokestatic 54, 3) := by decide +kernel
theorem dX2_set_26 : decode cX2_set 26 = .ok (.ifCond .eq 20, 3) := by decide +kernel
theorem dX2_set_29 : decode cX2_set 29 = .ok (.aload_n 0, 1) := by decide +kernel
theorem dX2_set_30 : decode cX2_set 30 = .ok (.getfield 15, 3) := by decide +kernel
theorem dX2_set_33 : decode cX2_set 33 = .ok (.iload_n 3, 1) := by decide +kernel
theorem dX2_set_34 : decode cX2_set 34 = .ok (.dup2, 1) := by decide +kernel
theorem dX2_set_35 : decode cX2_set 35 = .ok (.laload, 1) := by decide +kernel
theorem dX2_set_36 : decode cX2_set 36 = .ok (.iload_n 1, 1) := by decide +kernel
theorem dX2_set_37 : decode cX2_set 37 = .ok (.invokestatic 57, 3) := by decide +kernel
theorem dX2_set_40 : decode cX2_set 40 = .ok (.ldc2_w 19, 3) := by decide +kernel
theorem dX2_set_43 : decode cX2_set 43 = .ok (.lxor, 1) := by decide +kernel
theorem dX2_set_44 : decode cX2_set 44 = .ok (.land, 1) := by decide +kernel
theorem dX2_set_45 : decode cX2_set 45 = .ok (.lastore, 1) := by decide +kernel
theorem dX2_set_46 : decode cX2_set 46 = .ok (.aload_n 0, 1) := by decide +kernel
theorem dX2_set_47 : decode cX2_set 47 = .ok (.getfield 15, 3) := by decide +kernel
theorem dX2_set_50 : decode cX2_set 50 = .ok (.iload_n 2, 1) := by decide +kernel
theorem dX2_set_51 : decode cX2_set 51 = .ok (.dup2, 1) := by decide +kernel
theorem dX2_set_52 : decode cX2_set 52 = .ok (.laload, 1) := by decide +kernel
theorem dX2_set_53 : decode cX2_set 53 = .ok (.iload_n 1, 1) := by decide +kernel
theorem dX2_set_54 : decode cX2_set 54 = .ok (.invokestatic 57, 3) := by decide +kernel
theorem dX2_set_57 : decode cX2_set 57 = .ok (.lor, 1) := by decide +kernel
theorem dX2_set_58 : decode cX2_set 58 = .ok (.lastore, 1) := by decide +kernel
theorem dX2_set_59 : decode cX2_set 59 = .ok (.aload_n 0, 1) := by decide +kernel
theorem dX2_set_60 : decode cX2_set 60 = .ok (.getfield 9, 3) := by decide +kernel
theorem dX2_set_63 : decode cX2_set 63 = .ok (.iload_n 1, 1) := by decide +kernel
theorem dX2_set_64 : decode cX2_set 64 = .ok (.iload_n 2, 1) := by decide +kernel
theorem dX2_set_65 : decode cX2_set 65 = .ok (.iastore, 1) := by decide +kernel
theorem dX2_set_66 : decode cX2_set 66 = .ok (.return_, 1) := by decide +kernel
theorem hd_X2_set : yX2_set.cls ≠ "java/lang/invoke/MethodHandle" ∧ yX2_set.cls ≠ "java/lang/invoke/VarHandle" ∧ (parseMethodDescriptor yX2_set.desc).map (fun d => d.parameters.length) = some 2 := by decide +kernel
set_option maxHeartbeats 4000000 in
set_option maxRecDepth 100000 in
/-- set -/
theorem c_X2_set (l : Launch) {D : va_G} {cI cJ : ClassId} {A : Nat → Prop} {h0 h1 h2 a0 a1 a2 a3 h3 a4 h4 a5 : Nat} {kn op : Int32} {ow tr fu kg co pn : Int64} {si ri pa ma : Int32} {pcs : Nat → Int32} {sqa : Nat → Int64} {mvs los : Nat → Int32} {lsz : Int32} {lfs : Nat → Int32} {asz : Int32} {afs : Nat → Int32} (bd : Nat → Nat) (hCP : CP pcs sqa bd) (q v : Nat) (hq : q < 64) (hv : v < 13) : Met l yX2_set (Cond.code yX2_set cX2_set 4 none :: wsL_law) (rK 1) (va_Pc [.ref h2, .int (nI q), .int (nI v)] (IW D cI cJ A (cW cI cJ h0 h1 h2 a0 a1 a2 a3 h3 a4 h4 a5 kn op ow tr fu kg co pn si ri pa ma pcs sqa mvs los lsz lfs asz afs))) (va_Qv (fun u => CP u.1 u.2 (upN bd q v)) (fun (u : (Nat → Int32) × (Nat → Int64)) t9 => IW D cI cJ A (cW cI cJ h0 h1 h2 a0 a1 a2 a3 h3 a4 h4 a5 kn op ow tr fu kg co pn si ri pa ma u.1 u.2 mvs los lsz lfs asz afs) t9) A) 0 0 A := by
  refine entM (by decide) (Nat.le_of_ble_eq_true rfl) ?_
  intro p e s m below meth c ls S0 hr hlocks hG hnm hB hl
  have hx := S0.1
  have hb := S0.2.1
  have hown := S0.2.2.2.1
  have hl : lv_has ls 4 [(0, .ref h2), (1, .int (nI q)), (2, .int (nI v))] := hl
  obtain ⟨hP, hD, hK, hA, hE⟩ := hB
  have hS : va_S A s.heap s.heap [] := va_S.rf
  have hbq := (hCP.1 q hq).2
  refine lv_iload_n hx hb dX2_set_0 rfl (lv_at hl 1 rfl) ?_
  refine roI (rnSN (host := RX4) (As := [.int (nI q)]) (rest := []) S0 (c_X4_isSquare l (nI q)) (nl_X2_50 hE.1) wt_X4_isSquare wn_X4 wc_X4_isSquare hd_X4_isSquare ⟨rfl, rfl, by decide, by decide⟩ True.blind (fun _ _ _ => trivial) hl.1 (Nat.le_of_ble_eq_true rfl) dX2_set_1 rfl ⟨by decide, by decide⟩) (fun r_1 hr_1 => ?_)
  subst hr_1
  refine lb_if_eq (tgt := 14) hx hb dX2_set_4 (by decide) (fun c4 => ?_) (fun c4 => ?_)
  · skip
    exact absurd ((isq_t9 hq).symm.trans c4) (by decide)
  · skip
    refine lv_iload_n hx hb dX2_set_7 rfl (lv_at hl 2 rfl) ?_
    refine roI (rnSN (host := RX4) (As := [.int (nI v)]) (rest := []) S0 (c_X4_isPiece l (nI v)) (nl_X2_54 hE.1) wt_X4_isPiece wn_X4 wc_X4_isPiece hd_X4_isPiece ⟨rfl, rfl, by decide, by decide⟩ True.blind (fun _ _ _ => trivial) hl.1 (Nat.le_of_ble_eq_true rfl) dX2_set_8 rfl ⟨by decide, by decide⟩) (fun r_2 hr_2 => ?_)
    subst hr_2
    refine lb_if_ne (tgt := 15) hx hb dX2_set_11 (by decide) (fun c11 => ?_) (fun c11 => ?_)
    · skip
      refine lv_aload_n hx hb dX2_set_15 rfl (lv_at hl 0 rfl) ?_
      refine va_get (D := D) (ci := 1) (v := .ref a0) (C := RX2) (T := TX2) (N := 8) hx hb hG wu_X2 hown hK hP 2 rfl rfl 0 (by decide) (hG _ wf_X2_9) (fun _ h9 => h9) rfl dX2_set_16 ?_
      refine lv_iload_n hx hb dX2_set_19 rfl (lv_at hl 1 rfl) ?_
      refine va_iald hx hb hK hP 3 0 rfl rfl (vp_in_nI (by omega) (by decide)) dX2_set_20 ?_
      refine W.top (y := .int (pcs q)) (congrArg (fun z => Value.int (pcs z)) (nI_clamp (by omega))) ?_
      refine W.top (y := .int (nI (bd q))) (congrArg Value.int (hCP.1 q hq).1) ?_
      refine lv_istore_n (lv' := [(3, .int (nI (bd q))), (0, .ref h2), (1, .int (nI q)), (2, .int (nI v))]) hx hb dX2_set_21 rfl hl (by decide) rfl (fun ls hl => ?_)
      refine lv_iload_n hx hb dX2_set_22 rfl (lv_at hl 0 rfl) ?_
      refine roI (rnSN (host := RX4) (As := [.int (nI (bd q))]) (rest := []) S0 (c_X4_isPiece l (nI (bd q))) (nl_X2_54 hE.1) wt_X4_isPiece wn_X4 wc_X4_isPiece hd_X4_isPiece ⟨rfl, rfl, by decide, by decide⟩ True.blind (fun _ _ _ => trivial) hl.1 (Nat.le_of_ble_eq_true rfl) dX2_set_23 rfl ⟨by decide, by decide⟩) (fun r_3 hr_3 => ?_)
      subst hr_3
      refine lb_if_eq (tgt := 46) hx hb dX2_set_26 (by decide) (fun c26 => ?_) (fun c26 => ?_)
      · skip
        exact absurd ((isp_n hbq).symm.trans c26) (by decide)
      · skip
        refine lv_aload_n hx hb dX2_set_29 rfl (lv_at hl 1 rfl) ?_
        refine va_get (D := D) (ci := 1) (v := .ref a1) (C := RX2) (T := TX2) (N := 8) hx hb hG wu_X2 hown hK hP 2 rfl rfl 1 (by decide) (hG _ wf_X2_15) (fun _ h9 => h9) rfl dX2_set_30 ?_
        refine lv_iload_n hx hb dX2_set_33 rfl (lv_at hl 0 rfl) ?_
        refine lv_dup2_11 hx hb dX2_set_34 rfl rfl ?_
        refine va_lald hx hb hK hP 4 1 rfl rfl (vp_in_nI (by omega) (by decide)) dX2_set_35 ?_
        refine W.top (y := .long (sqa (bd q))) (congrArg (fun z => Value.long (sqa z)) (nI_clamp (by omega))) ?_
        refine lv_iload_n hx hb dX2_set_36 rfl (lv_at hl 2 rfl) ?_
        refine roL (rnSN (host := RX4) (As := [.int (nI q)]) (rest := [.long (sqa (bd q)), .int (nI (bd q)), .ref a1]) S0 (c_X4_bit l (nI q)) (nl_X2_57 hE.1) wt_X4_bit wn_X4 wc_X4_bit hd_X4_bit ⟨rfl, rfl, by decide, by decide⟩ True.blind (fun _ _ _ => trivial) hl.1 (Nat.le_of_ble_eq_true rfl) dX2_set_37 rfl ⟨by decide, by decide⟩) (fun r_4 hr_4 => ?_)
        subst hr_4
        refine lv_ldc2 (v := (-1)) hx hb hown (hG _ wk_X2_19) dX2_set_40 ?_
        refine lv_lxor hx hb dX2_set_43 ?_
        refine lv_land hx hb dX2_set_44 ?_
        refine va_last hx hb hK hP hD hS 4 1 rfl rfl (vp_in_nI (by omega) (by decide)) dX2_set_45 (fun H locs hP hD hS => ?_)
        rw [nI_clamp (show (bd q) < 2 ^ 31 by omega)] at hP hD
        have hP : va_P D classes (cW cI cJ h0 h1 h2 a0 a1 a2 a3 h3 a4 h4 a5 kn op ow tr fu kg co pn si ri pa ma pcs (vp_updL sqa (bd q) ((sqa (bd q)) &&& ((bsl 1 (nI q)) ^^^ (-1)))) mvs los lsz lfs asz afs) H := hP
        have hD : va_D A (cW cI cJ h0 h1 h2 a0 a1 a2 a3 h3 a4 h4 a5 kn op ow tr fu kg co pn si ri pa ma pcs (vp_updL sqa (bd q) ((sqa (bd q)) &&& ((bsl 1 (nI q)) ^^^ (-1)))) mvs los lsz lfs asz afs) := hD
        refine lv_aload_n hx hb dX2_set_46 rfl (lv_at hl 1 rfl) ?_
        refine va_get (D := D) (ci := 1) (v := .ref a1) (C := RX2) (T := TX2) (N := 8) hx hb hG wu_X2 hown hK hP 2 rfl rfl 1 (by decide) (hG _ wf_X2_15) (fun _ h9 => h9) rfl dX2_set_47 ?_
        refine lv_iload_n hx hb dX2_set_50 rfl (lv_at hl 3 rfl) ?_
        refine lv_dup2_11 hx hb dX2_set_51 rfl rfl ?_
        refine va_lald hx hb hK hP 4 1 rfl rfl (vp_in_nI (by omega) (by decide)) dX2_set_52 ?_
        refine W.top (y := .long ((vp_updL sqa (bd q) ((sqa (bd q)) &&& ((bsl 1 (nI q)) ^^^ (-1)))) v)) (congrArg (fun z => Value.long ((vp_updL sqa (bd q) ((sqa (bd q)) &&& ((bsl 1 (nI q)) ^^^ (-1)))) z)) (nI_clamp (by omega))) ?_
        refine lv_iload_n hx hb dX2_set_53 rfl (lv_at hl 2 rfl) ?_
        refine roL (rnSN (host := RX4) (As := [.int (nI q)]) (rest := [.long ((vp_updL sqa (bd q) ((sqa (bd q)) &&& ((bsl 1 (nI q)) ^^^ (-1)))) v), .int (nI v), .ref a1]) S0 (c_X4_bit l (nI q)) (nl_X2_57 hE.1) wt_X4_bit wn_X4 wc_X4_bit hd_X4_bit ⟨rfl, rfl, by decide, by decide⟩ True.blind (fun _ _ _ => trivial) hl.1 (Nat.le_of_ble_eq_true rfl) dX2_set_54 rfl ⟨by decide, by decide⟩) (fun r_5 hr_5 => ?_)
        subst hr_5
        refine lv_lor hx hb dX2_set_57 ?_
        refine va_last hx hb hK hP hD hS 4 1 rfl rfl (vp_in_nI (by omega) (by decide)) dX2_set_58 (fun H locs hP hD hS => ?_)
        rw [nI_clamp (show v < 2 ^ 31 by omega)] at hP hD
        have hP : va_P D classes (cW cI cJ h0 h1 h2 a0 a1 a2 a3 h3 a4 h4 a5 kn op ow tr fu kg co pn si ri pa ma pcs (vp_updL (vp_updL sqa (bd q) ((sqa (bd q)) &&& ((bsl 1 (nI q)) ^^^ (-1)))) v (((vp_updL sqa (bd q) ((sqa (bd q)) &&& ((bsl 1 (nI q)) ^^^ (-1)))) v) ||| (bsl 1 (nI q)))) mvs los lsz lfs asz afs) H := hP
        have hD : va_D A (cW cI cJ h0 h1 h2 a0 a1 a2 a3 h3 a4 h4 a5 kn op ow tr fu kg co pn si ri pa ma pcs (vp_updL (vp_updL sqa (bd q) ((sqa (bd q)) &&& ((bsl 1 (nI q)) ^^^ (-1)))) v (((vp_updL sqa (bd q) ((sqa (bd q)) &&& ((bsl 1 (nI q)) ^^^ (-1)))) v) ||| (bsl 1 (nI q)))) mvs los lsz lfs asz afs) := hD
        refine lv_aload_n hx hb dX2_set_59 rfl (lv_at hl 1 rfl) ?_
        refine va_get (D := D) (ci := 1) (v := .ref a0) (C := RX2) (T := TX2) (N := 8) hx hb hG wu_X2 hown hK hP 2 rfl rfl 0 (by decide) (hG _ wf_X2_9) (fun _ h9 => h9) rfl dX2_set_60 ?_
        refine lv_iload_n hx hb dX2_set_63 rfl (lv_at hl 2 rfl) ?_
        refine lv_iload_n hx hb dX2_set_64 rfl (lv_at hl 3 rfl) ?_
        refine va_iast hx hb hK hP hD hS 3 0 rfl rfl (vp_in_nI (by omega) (by decide)) dX2_set_65 (fun H locs hP hD hS => ?_)
        rw [nI_clamp (show q < 2 ^ 31 by omega)] at hP hD
        have hP : va_P D classes (cW cI cJ h0 h1 h2 a0 a1 a2 a3 h3 a4 h4 a5 kn op ow tr fu kg co pn si ri pa ma (upd pcs q (nI v)) (vp_updL (vp_updL sqa (bd q) ((sqa (bd q)) &&& ((bsl 1 (nI q)) ^^^ (-1)))) v (((vp_updL sqa (bd q) ((sqa (bd q)) &&& ((bsl 1 (nI q)) ^^^ (-1)))) v) ||| (bsl 1 (nI q)))) mvs los lsz lfs asz afs) H := hP
        have hD : va_D A (cW cI cJ h0 h1 h2 a0 a1 a2 a3 h3 a4 h4 a5 kn op ow tr fu kg co pn si ri pa ma (upd pcs q (nI v)) (vp_updL (vp_updL sqa (bd q) ((sqa (bd q)) &&& ((bsl 1 (nI q)) ^^^ (-1)))) v (((vp_updL sqa (bd q) ((sqa (bd q)) &&& ((bsl 1 (nI q)) ^^^ (-1)))) v) ||| (bsl 1 (nI q)))) mvs los lsz lfs asz afs) := hD
        exact weV ((upd pcs q (nI v), vp_updL (vp_updL sqa (bd q) ((sqa (bd q)) &&& ((bsl 1 (nI q)) ^^^ (-1)))) v (((vp_updL sqa (bd q) ((sqa (bd q)) &&& ((bsl 1 (nI q)) ^^^ (-1)))) v) ||| (bsl 1 (nI q))))) hx hb hr hlocks dX2_set_66 (CP_set hCP hq hv) hP hD hK hA hE hS
    · skip
      exact absurd ((isp_n hv).symm.trans c11) (by decide)

theorem dX3_pinLine_0 : decode cX3_pinLine 0 = .ok (.iconst 0, 1) := by decide +kernel
theorem dX3_pinLine_1 : decode cX3_pinLine 1 = .ok (.istore_n 3, 1) := by decide +kernel
theorem dX3_pinLine_2 : decode cX3_pinLine 2 = .ok (.iload_n 3, 1) := by decide +kernel
theorem dX3_pinLine_3 : decode cX3_pinLine 3 = .ok (.bipush 8, 2) := by decide +kernel
theorem dX3_pinLine_5 : decode cX3_pinLine 5 = .ok (.if_icmp .ge 35, 3) := by decide +kernel
theorem dX3_pinLine_8 : decode cX3_pinLine 8 = .ok (.aload_n 0, 1) := by decide +kernel
theorem dX3_pinLine_9 : decode cX3_pinLine 9 = .ok (.getfield 28, 3) := by decide +kernel
theorem dX3_pinLine_12 : decode cX3_pinLine 12 = .ok (.aload_n 0, 1) := by decide +kernel
theorem dX3_pinLine_13 : decode cX3_pinLine 13 = .ok (.getfield 22, 3) := by decide +kernel
theorem dX3_pinLine_16 : decode cX3_pinLine 16 = .ok (.iload_n 3, 1) := by decide +kernel
theorem dX3_pinLine_17 : decode cX3_pinLine 17 = .ok (.invokestatic 93, 3) := by decide +kernel
theorem dX3_pinLine_20 : decode cX3_pinLine 20 = .ok (.lstore 4, 2) := by decide +kernel
theorem dX3_pinLine_22 : decode cX3_pinLine 22 = .ok (.lload 4, 2) := by decide +kernel
theorem dX3_pinLine_24 : decode cX3_pinLine 24 = .ok (.lload_n 1, 1) := by decide +kernel
theorem dX3_pinLine_25 : decode cX3_pinLine 25 = .ok (.land, 1) := by decide +kernel
theorem dX3_pinLine_26 : decode cX3_pinLine 26 = .ok (.lconst 0, 1) := by decide +kernel
theorem dX3_pinLine_27 : decode cX3_pinLine 27 = .ok (.lcmp, 1) := by decide +kernel
theorem dX3_pinLine_28 : decode cX3_pinLine 28 = .ok (.ifCond .eq 6, 3) := by decide +kernel
theorem dX3_pinLine_31 : decode cX3_pinLine 31 = .ok (.lload 4, 2) := by decide +kernel
theorem dX3_pinLine_33 : decode cX3_pinLine 33 = .ok (.lreturn, 1) := by decide +kernel
theorem dX3_pinLine_34 : decode cX3_pinLine 34 = .ok (.iinc 3 1, 3) := by decide +kernel
theorem dX3_pinLine_37 : decode cX3_pinLine 37 = .ok (.goto (-35), 3) := by decide +kernel
theorem dX3_pinLine_40 : decode cX3_pinLine 40 = .ok (.lconst 0, 1) := by decide +kernel
theorem dX3_pinLine_41 : decode cX3_pinLine 41 = .ok (.lreturn, 1) := by decide +kernel
theorem hd_X3_pinLine : yX3_pinLine.cls ≠ "java/lang/invoke/MethodHandle" ∧ yX3_pinLine.cls ≠ "java/lang/invoke/VarHandle" ∧ (parseMethodDescriptor yX3_pinLine.desc).map (fun d => d.parameters.length) = some 1 := by decide +kernel
set_option maxHeartbeats 4000000 in
set_option maxRecDepth 100000 in
/-- pinLine -/
theorem c_X3_pinLine (l : Launch) {D : va_G} {cI cJ : ClassId} {A : Nat → Prop} {h0 h1 h2 a0 a1 a2 a3 h3 a4 h4 a5 : Nat} {kn op : Int32} {ma : Int32} {pcs : Nat → Int32} {sqa : Nat → Int64} {mvs los : Nat → Int32} {lsz : Int32} {lfs : Nat → Int32} {asz : Int32} {afs : Nat → Int32} (bd : Nat → Nat) (hCP : CP pcs sqa bd) (sd rt ps : Nat) (hs2 : sd < 2) (hr16 : rt < 16) (hp65 : ps < 65) (x : Int64) : Met l yX3_pinLine (Cond.code yX3_pinLine cX3_pinLine 6 (some .long) :: wsL_law) (rK 1) (va_Pc [.ref h1, .long x] (IW D cI cJ A (cW cI cJ h0 h1 h2 a0 a1 a2 a3 h3 a4 h4 a5 kn op (ownS bd sd) (thrS bd sd) (fulS bd sd) (kngS bd sd) (covS bd sd) (pinS bd sd) (nI sd) (nI rt) (pI ps) ma pcs sqa mvs los lsz lfs asz afs))) (vp_Sl (fun r => r = pli bd sd x)) 0 0 (fun _ => False) := by
  refine entM (by decide) (Nat.le_of_ble_eq_true rfl) ?_
  intro p e s m below meth c ls S0 hr hlocks hG hnm hB hl
  have hx := S0.1
  have hb := S0.2.1
  have hown := S0.2.2.2.1
  have hl : lv_has ls 6 [(0, .ref h1), (1, .long x)] := hl
  obtain ⟨hP, hD, hK, hA, hE⟩ := hB
  have hS : va_S A s.heap s.heap [] := va_S.rf
  refine lv_iconst (v := (nI 0)) hx hb dX3_pinLine_0 (by decide) ?_
  refine lv_istore_n (lv' := [(3, .int (nI 0)), (0, .ref h1), (1, .long x)]) hx hb dX3_pinLine_1 rfl hl (by decide) rfl (fun ls hl => ?_)
  refine lpR (σ := (Nat)) 2 6 [] (fun x9 => [(0, .ref h1), (1, .long x), (3, .int (nI x9))]) (fun x9 => x9 ≤ 8 ∧ pli bd sd x = pliN bd sd x (8 - x9)) (fun x9 => 8 - x9) 0 ⟨Nat.zero_le _, rfl⟩ (lv_sub hl [1, 2, 0] rfl) ?_
  clear hl ls
  rintro i hI ih_2 ls hl
  try dsimp only at hI ih_2 hl
  obtain ⟨hi, he⟩ := hI
  refine lv_iload_n hx hb dX3_pinLine_2 rfl (lv_at hl 2 rfl) ?_
  refine lv_bipush (v := (nI 8)) hx hb dX3_pinLine_3 (by decide) ?_
  refine ln_icmp_ge (tgt := 40) hx hb dX3_pinLine_5 (by decide) (by omega) (by decide) (fun c5 => ?_) (fun c5 => ?_)
  · skip
    refine lv_lconst (v := 0) hx hb dX3_pinLine_40 (by decide) ?_
    exact reL hx hb hr hlocks dX3_pinLine_41 (by rw [he, show i = 8 by omega]; rfl)
  · skip
    refine lv_aload_n hx hb dX3_pinLine_8 rfl (lv_at hl 0 rfl) ?_
    refine va_get (D := D) (ci := 2) (v := .long (kngS bd sd)) (C := RX3) (T := TX3) (N := 7) hx hb hG wu_X3 hown hK hP 1 rfl rfl 4 (by decide) (hG _ wf_X3_28) (fun _ h9 => h9) rfl dX3_pinLine_9 ?_
    refine lv_aload_n hx hb dX3_pinLine_12 rfl (lv_at hl 0 rfl) ?_
    refine va_get (D := D) (ci := 2) (v := .long (thrS bd sd)) (C := RX3) (T := TX3) (N := 7) hx hb hG wu_X3 hown hK hP 1 rfl rfl 2 (by decide) (hG _ wf_X3_22) (fun _ h9 => h9) rfl dX3_pinLine_13 ?_
    refine lv_iload_n hx hb dX3_pinLine_16 rfl (lv_at hl 2 rfl) ?_
    refine roL (rnS (As := [.long (kngS bd sd), .long (thrS bd sd), .int (nI i)]) (rest := []) S0 (c_X0_ray l (kngS bd sd) (thrS bd sd) i (by omega)) wm_X3_93 wt_X0_ray wn_X0 wc_X0_ray hd_X0_ray ⟨rfl, rfl, by decide, by decide⟩ EV.blind (EV.at hE hS) hl.1 (Nat.le_of_ble_eq_true rfl) dX3_pinLine_17 rfl ⟨by decide, by decide⟩) (fun r_1 hr_1 => ?_)
    subst hr_1
    refine W.top (y := .long (lin bd sd i)) (congrArg Value.long rfl) ?_
    refine lv_lstore (lv' := [(4, .long (lin bd sd i)), (0, .ref h1), (1, .long x), (3, .int (nI i))]) hx hb dX3_pinLine_20 hl (by decide) rfl (fun ls hl => ?_)
    refine lv_lload hx hb dX3_pinLine_22 (lv_at hl 0 rfl) ?_
    refine lv_lload_n hx hb dX3_pinLine_24 rfl (lv_at hl 2 rfl) ?_
    refine lv_land hx hb dX3_pinLine_25 ?_
    refine lv_lconst (v := 0) hx hb dX3_pinLine_26 (by decide) ?_
    refine W.lcmp hx hb dX3_pinLine_27 ?_
    refine lc_if_eq (tgt := 34) hx hb dX3_pinLine_28 (by decide) (fun c28 => ?_) (fun c28 => ?_)
    · skip
      refine lv_iinc (v := (nI (i + 1))) (lv' := [(3, .int (nI (i + 1))), (4, .long (lin bd sd i)), (0, .ref h1), (1, .long x)]) hx hb dX3_pinLine_34 hl (k := 3) rfl (show nI i + Int32.ofInt 1 = nI (i + 1) from nI_add _ 1) (by decide) rfl (fun ls hl => ?_)
      refine lv_goto (tgt := 2) hx hb dX3_pinLine_37 (by decide) ?_
      exact ih_2 (i + 1) ⟨by omega, by rw [he, pliN_i (by omega), if_pos c28]⟩ (by (try dsimp only); omega) ls (lv_sub hl [2, 3, 0] rfl)
    · skip
      refine lv_lload hx hb dX3_pinLine_31 (lv_at hl 0 rfl) ?_
      exact reL hx hb hr hlocks dX3_pinLine_33 (by rw [he, pliN_i (by omega), if_neg c28])
theorem dX3_pawnWays_0 : decode cX3_pawnWays 0 = .ok (.lload_n 1, 1) := by decide +kernel
theorem dX3_pawnWays_1 : decode cX3_pawnWays 1 = .ok (.aload_n 0, 1) := by decide +kernel
theorem dX3_pawnWays_2 : decode cX3_pawnWays 2 = .ok (.getfield 12, 3) := by decide +kernel
theorem dX3_pawnWays_5 : decode cX3_pawnWays 5 = .ok (.getfield 80, 3) := by decide +kernel
theorem dX3_pawnWays_8 : decode cX3_pawnWays 8 = .ok (.invokestatic 105, 3) := by decide +kernel
theorem dX3_pawnWays_11 : decode cX3_pawnWays 11 = .ok (.aload_n 0, 1) := by decide +kernel
theorem dX3_pawnWays_12 : decode cX3_pawnWays 12 = .ok (.getfield 22, 3) := by decide +kernel
theorem dX3_pawnWays_15 : decode cX3_pawnWays 15 = .ok (.land, 1) := by decide +kernel
theorem dX3_pawnWays_16 : decode cX3_pawnWays 16 = .ok (.lstore_n 3, 1) := by decide +kernel
theorem dX3_pawnWays_17 : decode cX3_pawnWays 17 = .ok (.aload_n 0, 1) := by decide +kernel
theorem dX3_pawnWays_18 : decode cX3_pawnWays 18 = .ok (.getfield 12, 3) := by decide +kernel
theorem dX3_pawnWays_21 : decode cX3_pawnWays 21 = .ok (.getfield 80, 3) := by decide +kernel
theorem dX3_pawnWays_24 : decode cX3_pawnWays 24 = .ok (.ifCond .ne 41, 3) := by decide +kernel
theorem dX3_pawnWays_27 : decode cX3_pawnWays 27 = .ok (.lload_n 1, 1) := by decide +kernel
theorem dX3_pawnWays_28 : decode cX3_pawnWays 28 = .ok (.bipush 8, 2) := by decide +kernel
theorem dX3_pawnWays_30 : decode cX3_pawnWays 30 = .ok (.lshl, 1) := by decide +kernel
theorem dX3_pawnWays_31 : decode cX3_pawnWays 31 = .ok (.aload_n 0, 1) := by decide +kernel
theorem dX3_pawnWays_32 : decode cX3_pawnWays 32 = .ok (.getfield 25, 3) := by decide +kernel
theorem dX3_pawnWays_35 : decode cX3_pawnWays 35 = .ok (.ldc2_w 89, 3) := by decide +kernel
theorem dX3_pawnWays_38 : decode cX3_pawnWays 38 = .ok (.lxor, 1) := by decide +kernel
theorem dX3_pawnWays_39 : decode cX3_pawnWays 39 = .ok (.land, 1) := by decide +kernel
theorem dX3_pawnWays_40 : decode cX3_pawnWays 40 = .ok (.lstore 5, 2) := by decide +kernel
theorem dX3_pawnWays_42 : decode cX3_pawnWays 42 = .ok (.lload 5, 2) := by decide +kernel
theorem dX3_pawnWays_44 : decode cX3_pawnWays 44 = .ok (.ldc2_w 129, 3) := by decide +kernel
theorem dX3_pawnWays_47 : decode cX3_pawnWays 47 = .ok (.land, 1) := by decide +kernel
theorem dX3_pawnWays_48 : decode cX3_pawnWays 48 = .ok (.bipush 8, 2) := by decide +kernel
theorem dX3_pawnWays_50 : decode cX3_pawnWays 50 = .ok (.lshl, 1) := by decide +kernel
theorem dX3_pawnWays_51 : decode cX3_pawnWays 51 = .ok (.aload_n 0, 1) := by decide +kernel
theorem dX3_pawnWays_52 : decode cX3_pawnWays 52 = .ok (.getfield 25, 3) := by decide +kernel
theorem dX3_pawnWays_55 : decode cX3_pawnWays 55 = .ok (.ldc2_w 89, 3) := by decide +kernel
theorem dX3_pawnWays_58 : decode cX3_pawnWays 58 = .ok (.lxor, 1) := by decide +kernel
theorem dX3_pawnWays_59 : decode cX3_pawnWays 59 = .ok (.land, 1) := by decide +kernel
theorem dX3_pawnWays_60 : decode cX3_pawnWays 60 = .ok (.lstore 7, 2) := by decide +kernel
theorem dX3_pawnWays_62 : decode cX3_pawnWays 62 = .ok (.goto 38, 3) := by decide +kernel
theorem dX3_pawnWays_65 : decode cX3_pawnWays 65 = .ok (.lload_n 1, 1) := by decide +kernel
theorem dX3_pawnWays_66 : decode cX3_pawnWays 66 = .ok (.bipush 8, 2) := by decide +kernel
theorem dX3_pawnWays_68 : decode cX3_pawnWays 68 = .ok (.lushr, 1) := by decide +kernel
theorem dX3_pawnWays_69 : decode cX3_pawnWays 69 = .ok (.aload_n 0, 1) := by decide +kernel
theorem dX3_pawnWays_70 : decode cX3_pawnWays 70 = .ok (.getfield 25, 3) := by decide +kernel
theorem dX3_pawnWays_73 : decode cX3_pawnWays 73 = .ok (.ldc2_w 89, 3) := by decide +kernel
theorem dX3_pawnWays_76 : decode cX3_pawnWays 76 = .ok (.lxor, 1) := by decide +kernel
theorem dX3_pawnWays_77 : decode cX3_pawnWays 77 = .ok (.land, 1) := by decide +kernel
theorem dX3_pawnWays_78 : decode cX3_pawnWays 78 = .ok (.lstore 5, 2) := by decide +kernel
theorem dX3_pawnWays_80 : decode cX3_pawnWays 80 = .ok (.lload 5, 2) := by decide +kernel
theorem dX3_pawnWays_82 : decode cX3_pawnWays 82 = .ok (.ldc2_w 131, 3) := by decide +kernel
theorem dX3_pawnWays_85 : decode cX3_pawnWays 85 = .ok (.land, 1) := by decide +kernel
theorem dX3_pawnWays_86 : decode cX3_pawnWays 86 = .ok (.bipush 8, 2) := by decide +kernel
theorem dX3_pawnWays_88 : decode cX3_pawnWays 88 = .ok (.lushr, 1) := by decide +kernel
theorem dX3_pawnWays_89 : decode cX3_pawnWays 89 = .ok (.aload_n 0, 1) := by decide +kernel
theorem dX3_pawnWays_90 : decode cX3_pawnWays 90 = .ok (.getfield 25, 3) := by decide +kernel
theorem dX3_pawnWays_93 : decode cX3_pawnWays 93 = .ok (.ldc2_w 89, 3) := by decide +kernel
theorem dX3_pawnWays_96 : decode cX3_pawnWays 96 = .ok (.lxor, 1) := by decide +kernel
theorem dX3_pawnWays_97 : decode cX3_pawnWays 97 = .ok (.land, 1) := by decide +kernel
theorem dX3_pawnWays_98 : decode cX3_pawnWays 98 = .ok (.lstore 7, 2) := by decide +kernel
theorem dX3_pawnWays_100 : decode cX3_pawnWays 100 = .ok (.lload_n 3, 1) := by decide +kernel
theorem dX3_pawnWays_101 : decode cX3_pawnWays 101 = .ok (.lload 5, 2) := by decide +kernel
theorem dX3_pawnWays_103 : decode cX3_pawnWays 103 = .ok (.lor, 1) := by decide +kernel
theorem dX3_pawnWays_104 : decode cX3_pawnWays 104 = .ok (.lload 7, 2) := by decide +kernel
theorem dX3_pawnWays_106 : decode cX3_pawnWays 106 = .ok (.lor, 1) := by decide +kernel
theorem dX3_pawnWays_107 : decode cX3_pawnWays 107 = .ok (.lreturn, 1) := by decide +kernel
theorem hd_X3_pawnWays : yX3_pawnWays.cls ≠ "java/lang/invoke/MethodHandle" ∧ yX3_pawnWays.cls ≠ "java/lang/invoke/VarHandle" ∧ (parseMethodDescriptor yX3_pawnWays.desc).map (fun d => d.parameters.length) = some 1 := by decide +kernel
set_option maxHeartbeats 4000000 in
set_option maxRecDepth 100000 in
/-- pawnWays -/
theorem c_X3_pawnWays (l : Launch) {D : va_G} {cI cJ : ClassId} {A : Nat → Prop} {h0 h1 h2 a0 a1 a2 a3 h3 a4 h4 a5 : Nat} {kn op : Int32} {ma : Int32} {pcs : Nat → Int32} {sqa : Nat → Int64} {mvs los : Nat → Int32} {lsz : Int32} {lfs : Nat → Int32} {asz : Int32} {afs : Nat → Int32} (bd : Nat → Nat) (hCP : CP pcs sqa bd) (sd rt ps : Nat) (hs2 : sd < 2) (hr16 : rt < 16) (hp65 : ps < 65) (x : Int64) : Met l yX3_pawnWays (Cond.code yX3_pawnWays cX3_pawnWays 9 (some .long) :: wsL_law) (rK 1) (va_Pc [.ref h1, .long x] (IW D cI cJ A (cW cI cJ h0 h1 h2 a0 a1 a2 a3 h3 a4 h4 a5 kn op (ownS bd sd) (thrS bd sd) (fulS bd sd) (kngS bd sd) (covS bd sd) (pinS bd sd) (nI sd) (nI rt) (pI ps) ma pcs sqa mvs los lsz lfs asz afs))) (vp_Sl (fun r => r = pwy bd sd x)) 0 0 (fun _ => False) := by
  refine entM (by decide) (Nat.le_of_ble_eq_true rfl) ?_
  intro p e s m below meth c ls S0 hr hlocks hG hnm hB hl
  have hx := S0.1
  have hb := S0.2.1
  have hown := S0.2.2.2.1
  have hl : lv_has ls 9 [(0, .ref h1), (1, .long x)] := hl
  obtain ⟨hP, hD, hK, hA, hE⟩ := hB
  have hS : va_S A s.heap s.heap [] := va_S.rf
  refine lv_lload_n hx hb dX3_pawnWays_0 rfl (lv_at hl 1 rfl) ?_
  refine lv_aload_n hx hb dX3_pawnWays_1 rfl (lv_at hl 0 rfl) ?_
  refine va_get (D := D) (ci := 2) (v := .ref h2) (C := RX3) (T := TX3) (N := 7) hx hb hG wu_X3 hown hK hP 1 rfl rfl 0 (by decide) (hG _ wf_X3_12) (fun _ h9 => h9) rfl dX3_pawnWays_2 ?_
  refine va_get (D := D) (ci := 1) (v := .int (nI sd)) (C := RX2) (T := TX2) (N := 8) hx hb hG wu_X2 hown hK hP 2 rfl rfl 2 (by decide) (hG _ wf_X3_80) (fun _ h9 => h9) rfl dX3_pawnWays_5 ?_
  refine roL (rnS (As := [.long x, .int (nI sd)]) (rest := []) S0 (c_X0_ofPawns l x sd (by omega)) wm_X3_105 wt_X0_ofPawns wn_X0 wc_X0_ofPawns hd_X0_ofPawns ⟨rfl, rfl, by decide, by decide⟩ True.blind (fun _ _ _ => trivial) hl.1 (Nat.le_of_ble_eq_true rfl) dX3_pawnWays_8 rfl ⟨by decide, by decide⟩) (fun r_1 hr_1 => ?_)
  subst hr_1
  refine lv_aload_n hx hb dX3_pawnWays_11 rfl (lv_at hl 0 rfl) ?_
  refine va_get (D := D) (ci := 2) (v := .long (thrS bd sd)) (C := RX3) (T := TX3) (N := 7) hx hb hG wu_X3 hown hK hP 1 rfl rfl 2 (by decide) (hG _ wf_X3_22) (fun _ h9 => h9) rfl dX3_pawnWays_12 ?_
  refine lv_land hx hb dX3_pawnWays_15 ?_
  refine lv_lstore_n (lv' := [(3, .long ((opw x sd) &&& (thrS bd sd))), (0, .ref h1), (1, .long x)]) hx hb dX3_pawnWays_16 rfl hl (by decide) rfl (fun ls hl => ?_)
  refine lv_aload_n hx hb dX3_pawnWays_17 rfl (lv_at hl 1 rfl) ?_
  refine va_get (D := D) (ci := 2) (v := .ref h2) (C := RX3) (T := TX3) (N := 7) hx hb hG wu_X3 hown hK hP 1 rfl rfl 0 (by decide) (hG _ wf_X3_12) (fun _ h9 => h9) rfl dX3_pawnWays_18 ?_
  refine va_get (D := D) (ci := 1) (v := .int (nI sd)) (C := RX2) (T := TX2) (N := 8) hx hb hG wu_X2 hown hK hP 2 rfl rfl 2 (by decide) (hG _ wf_X3_80) (fun _ h9 => h9) rfl dX3_pawnWays_21 ?_
  refine jnG 100 9 [(3, .long (opw x sd &&& thrS bd sd)), (5, .long (pw1 bd sd x)), (7, .long (pw2 bd sd x))] [] ?_ (fun hj_100 => ?_)
  · intro ls hl
    refine lv_lload_n hx hb dX3_pawnWays_100 rfl (lv_at hl 0 rfl) ?_
    refine lv_lload hx hb dX3_pawnWays_101 (lv_at hl 1 rfl) ?_
    refine lv_lor hx hb dX3_pawnWays_103 ?_
    refine lv_lload hx hb dX3_pawnWays_104 (lv_at hl 2 rfl) ?_
    refine lv_lor hx hb dX3_pawnWays_106 ?_
    exact reL hx hb hr hlocks dX3_pawnWays_107 rfl
  · skip
    refine ln_if_ne (tgt := 65) hx hb dX3_pawnWays_24 (by decide) (by omega) (fun c24 => ?_) (fun c24 => ?_)
    · skip
      refine lv_lload_n hx hb dX3_pawnWays_65 rfl (lv_at hl 2 rfl) ?_
      refine lv_bipush (v := (nI 8)) hx hb dX3_pawnWays_66 (by decide) ?_
      refine lv_lushr (v := bsr x (nI 8)) hx hb dX3_pawnWays_68 rfl ?_
      refine lv_aload_n hx hb dX3_pawnWays_69 rfl (lv_at hl 1 rfl) ?_
      refine va_get (D := D) (ci := 2) (v := .long (fulS bd sd)) (C := RX3) (T := TX3) (N := 7) hx hb hG wu_X3 hown hK hP 1 rfl rfl 3 (by decide) (hG _ wf_X3_25) (fun _ h9 => h9) rfl dX3_pawnWays_70 ?_
      refine lv_ldc2 (v := (-1)) hx hb hown (hG _ wk_X3_89) dX3_pawnWays_73 ?_
      refine lv_lxor hx hb dX3_pawnWays_76 ?_
      refine lv_land hx hb dX3_pawnWays_77 ?_
      refine W.top (y := .long (pw1 bd sd x)) (congrArg Value.long (by unfold pw1; rw [if_neg c24]; rfl)) ?_
      refine lv_lstore (lv' := [(5, .long (pw1 bd sd x)), (3, .long ((opw x sd) &&& (thrS bd sd))), (0, .ref h1), (1, .long x)]) hx hb dX3_pawnWays_78 hl (by decide) rfl (fun ls hl => ?_)
      refine lv_lload hx hb dX3_pawnWays_80 (lv_at hl 0 rfl) ?_
      refine lv_ldc2 (v := (280375465082880)) hx hb hown (hG _ wk_X3_131) dX3_pawnWays_82 ?_
      refine lv_land hx hb dX3_pawnWays_85 ?_
      refine lv_bipush (v := (nI 8)) hx hb dX3_pawnWays_86 (by decide) ?_
      refine lv_lushr (v := bsr ((pw1 bd sd x) &&& (280375465082880)) (nI 8)) hx hb dX3_pawnWays_88 rfl ?_
      refine lv_aload_n hx hb dX3_pawnWays_89 rfl (lv_at hl 2 rfl) ?_
      refine va_get (D := D) (ci := 2) (v := .long (fulS bd sd)) (C := RX3) (T := TX3) (N := 7) hx hb hG wu_X3 hown hK hP 1 rfl rfl 3 (by decide) (hG _ wf_X3_25) (fun _ h9 => h9) rfl dX3_pawnWays_90 ?_
      refine lv_ldc2 (v := (-1)) hx hb hown (hG _ wk_X3_89) dX3_pawnWays_93 ?_
      refine lv_lxor hx hb dX3_pawnWays_96 ?_
      refine lv_land hx hb dX3_pawnWays_97 ?_
      refine W.top (y := .long (pw2 bd sd x)) (congrArg Value.long (by unfold pw2; rw [if_neg c24]; rfl)) ?_
      refine lv_lstore (lv' := [(7, .long (pw2 bd sd x)), (5, .long (pw1 bd sd x)), (3, .long ((opw x sd) &&& (thrS bd sd))), (0, .ref h1), (1, .long x)]) hx hb dX3_pawnWays_98 hl (by decide) rfl (fun ls hl => ?_)
      have hl2 : lv_has ls 9 [(3, .long ((opw x sd) &&& (thrS bd sd))), (5, .long (pw1 bd sd x)), (7, .long (pw2 bd sd x))] := by
        exact lv_sub hl [2, 1, 0] rfl
      exact hj_100 ls (by have e9 : ([(3, .long ((opw x sd) &&& (thrS bd sd))), (5, .long (pw1 bd sd x)), (7, .long (pw2 bd sd x))] : List (Nat × Value)) = [(3, .long (opw x sd &&& thrS bd sd)), (5, .long (pw1 bd sd x)), (7, .long (pw2 bd sd x))] := (by first | rfl | simp_all); rw [← e9]; exact hl2)
    · skip
      refine lv_lload_n hx hb dX3_pawnWays_27 rfl (lv_at hl 2 rfl) ?_
      refine lv_bipush (v := (nI 8)) hx hb dX3_pawnWays_28 (by decide) ?_
      refine lv_lshl (v := bsl x (nI 8)) hx hb dX3_pawnWays_30 rfl ?_
      refine lv_aload_n hx hb dX3_pawnWays_31 rfl (lv_at hl 1 rfl) ?_
      refine va_get (D := D) (ci := 2) (v := .long (fulS bd sd)) (C := RX3) (T := TX3) (N := 7) hx hb hG wu_X3 hown hK hP 1 rfl rfl 3 (by decide) (hG _ wf_X3_25) (fun _ h9 => h9) rfl dX3_pawnWays_32 ?_
      refine lv_ldc2 (v := (-1)) hx hb hown (hG _ wk_X3_89) dX3_pawnWays_35 ?_
      refine lv_lxor hx hb dX3_pawnWays_38 ?_
      refine lv_land hx hb dX3_pawnWays_39 ?_
      refine W.top (y := .long (pw1 bd sd x)) (congrArg Value.long (by unfold pw1; rw [if_pos c24]; rfl)) ?_
      refine lv_lstore (lv' := [(5, .long (pw1 bd sd x)), (3, .long ((opw x sd) &&& (thrS bd sd))), (0, .ref h1), (1, .long x)]) hx hb dX3_pawnWays_40 hl (by decide) rfl (fun ls hl => ?_)
      refine lv_lload hx hb dX3_pawnWays_42 (lv_at hl 0 rfl) ?_
      refine lv_ldc2 (v := (16711680)) hx hb hown (hG _ wk_X3_129) dX3_pawnWays_44 ?_
      refine lv_land hx hb dX3_pawnWays_47 ?_
      refine lv_bipush (v := (nI 8)) hx hb dX3_pawnWays_48 (by decide) ?_
      refine lv_lshl (v := bsl ((pw1 bd sd x) &&& (16711680)) (nI 8)) hx hb dX3_pawnWays_50 rfl ?_
      refine lv_aload_n hx hb dX3_pawnWays_51 rfl (lv_at hl 2 rfl) ?_
      refine va_get (D := D) (ci := 2) (v := .long (fulS bd sd)) (C := RX3) (T := TX3) (N := 7) hx hb hG wu_X3 hown hK hP 1 rfl rfl 3 (by decide) (hG _ wf_X3_25) (fun _ h9 => h9) rfl dX3_pawnWays_52 ?_
      refine lv_ldc2 (v := (-1)) hx hb hown (hG _ wk_X3_89) dX3_pawnWays_55 ?_
      refine lv_lxor hx hb dX3_pawnWays_58 ?_
      refine lv_land hx hb dX3_pawnWays_59 ?_
      refine W.top (y := .long (pw2 bd sd x)) (congrArg Value.long (by unfold pw2; rw [if_pos c24]; rfl)) ?_
      refine lv_lstore (lv' := [(7, .long (pw2 bd sd x)), (5, .long (pw1 bd sd x)), (3, .long ((opw x sd) &&& (thrS bd sd))), (0, .ref h1), (1, .long x)]) hx hb dX3_pawnWays_60 hl (by decide) rfl (fun ls hl => ?_)
      refine lv_goto (tgt := 100) hx hb dX3_pawnWays_62 (by decide) ?_
      have hl2 : lv_has ls 9 [(3, .long ((opw x sd) &&& (thrS bd sd))), (5, .long (pw1 bd sd x)), (7, .long (pw2 bd sd x))] := by
        exact lv_sub hl [2, 1, 0] rfl
      exact hj_100 ls (by have e9 : ([(3, .long ((opw x sd) &&& (thrS bd sd))), (5, .long (pw1 bd sd x)), (7, .long (pw2 bd sd x))] : List (Nat × Value)) = [(3, .long (opw x sd &&& thrS bd sd)), (5, .long (pw1 bd sd x)), (7, .long (pw2 bd sd x))] := (by first | rfl | simp_all); rw [← e9]; exact hl2)
theorem dX3_passingTarget_0 : decode cX3_passingTarget 0 = .ok (.aload_n 0, 1) := by decide +kernel
theorem dX3_passingTarget_1 : decode cX3_passingTarget 1 = .ok (.getfield 12, 3) := by decide +kernel
theorem dX3_passingTarget_4 : decode cX3_passingTarget 4 = .ok (.getfield 133, 3) := by decide +kernel
theorem dX3_passingTarget_7 : decode cX3_passingTarget 7 = .ok (.iconst (-1), 1) := by decide +kernel
theorem dX3_passingTarget_8 : decode cX3_passingTarget 8 = .ok (.if_icmp .ne 5, 3) := by decide +kernel
theorem dX3_passingTarget_11 : decode cX3_passingTarget 11 = .ok (.lconst 0, 1) := by decide +kernel
theorem dX3_passingTarget_12 : decode cX3_passingTarget 12 = .ok (.lreturn, 1) := by decide +kernel
theorem dX3_passingTarget_13 : decode cX3_passingTarget 13 = .ok (.iconst 1, 1) := by decide +kernel
theorem dX3_passingTarget_14 : decode cX3_passingTarget 14 = .ok (.aload_n 0, 1) := by decide +kernel
theorem dX3_passingTarget_15 : decode cX3_passingTarget 15 = .ok (.getfield 12, 3) := by decide +kernel
theorem dX3_passingTarget_18 : decode cX3_passingTarget 18 = .ok (.getfield 80, 3) := by decide +kernel
theorem dX3_passingTarget_21 : decode cX3_passingTarget 21 = .ok (.isub, 1) := by decide +kernel
theorem dX3_passingTarget_22 : decode cX3_passingTarget 22 = .ok (.istore_n 3, 1) := by decide +kernel
theorem dX3_passingTarget_23 : decode cX3_passingTarget 23 = .ok (.aload_n 0, 1) := by decide +kernel
theorem dX3_passingTarget_24 : decode cX3_passingTarget 24 = .ok (.getfield 12, 3) := by decide +kernel
theorem dX3_passingTarget_27 : decode cX3_passingTarget 27 = .ok (.getfield 133, 3) := by decide +kernel
theorem dX3_passingTarget_30 : decode cX3_passingTarget 30 = .ok (.invokestatic 109, 3) := by decide +kernel
theorem dX3_passingTarget_33 : decode cX3_passingTarget 33 = .ok (.lstore 4, 2) := by decide +kernel
theorem dX3_passingTarget_35 : decode cX3_passingTarget 35 = .ok (.aload_n 0, 1) := by decide +kernel
theorem dX3_passingTarget_36 : decode cX3_passingTarget 36 = .ok (.getfield 12, 3) := by decide +kernel
theorem dX3_passingTarget_39 : decode cX3_passingTarget 39 = .ok (.getfield 80, 3) := by decide +kernel
theorem dX3_passingTarget_42 : decode cX3_passingTarget 42 = .ok (.ifCond .ne 11, 3) := by decide +kernel
theorem dX3_passingTarget_45 : decode cX3_passingTarget 45 = .ok (.lload 4, 2) := by decide +kernel
theorem dX3_passingTarget_47 : decode cX3_passingTarget 47 = .ok (.bipush 8, 2) := by decide +kernel
theorem dX3_passingTarget_49 : decode cX3_passingTarget 49 = .ok (.lushr, 1) := by decide +kernel
theorem dX3_passingTarget_50 : decode cX3_passingTarget 50 = .ok (.goto 8, 3) := by decide +kernel
theorem dX3_passingTarget_53 : decode cX3_passingTarget 53 = .ok (.lload 4, 2) := by decide +kernel
theorem dX3_passingTarget_55 : decode cX3_passingTarget 55 = .ok (.bipush 8, 2) := by decide +kernel
theorem dX3_passingTarget_57 : decode cX3_passingTarget 57 = .ok (.lshl, 1) := by decide +kernel
theorem dX3_passingTarget_58 : decode cX3_passingTarget 58 = .ok (.lstore 6, 2) := by decide +kernel
theorem dX3_passingTarget_60 : decode cX3_passingTarget 60 = .ok (.lload_n 1, 1) := by decide +kernel
theorem dX3_passingTarget_61 : decode cX3_passingTarget 61 = .ok (.aload_n 0, 1) := by decide +kernel
theorem dX3_passingTarget_62 : decode cX3_passingTarget 62 = .ok (.getfield 12, 3) := by decide +kernel
theorem dX3_passingTarget_65 : decode cX3_passingTarget 65 = .ok (.getfield 80, 3) := by decide +kernel
theorem dX3_passingTarget_68 : decode cX3_passingTarget 68 = .ok (.invokestatic 105, 3) := by decide +kernel
theorem dX3_passingTarget_71 : decode cX3_passingTarget 71 = .ok (.lload 4, 2) := by decide +kernel
theorem dX3_passingTarget_73 : decode cX3_passingTarget 73 = .ok (.land, 1) := by decide +kernel
theorem dX3_passingTarget_74 : decode cX3_passingTarget 74 = .ok (.aload_n 0, 1) := by decide +kernel
theorem dX3_passingTarget_75 : decode cX3_passingTarget 75 = .ok (.getfield 25, 3) := by decide +kernel
theorem dX3_passingTarget_78 : decode cX3_passingTarget 78 = .ok (.ldc2_w 89, 3) := by decide +kernel
theorem dX3_passingTarget_81 : decode cX3_passingTarget 81 = .ok (.lxor, 1) := by decide +kernel
theorem dX3_passingTarget_82 : decode cX3_passingTarget 82 = .ok (.land, 1) := by decide +kernel
theorem dX3_passingTarget_83 : decode cX3_passingTarget 83 = .ok (.lconst 0, 1) := by decide +kernel
theorem dX3_passingTarget_84 : decode cX3_passingTarget 84 = .ok (.lcmp, 1) := by decide +kernel
theorem dX3_passingTarget_85 : decode cX3_passingTarget 85 = .ok (.ifCond .eq 24, 3) := by decide +kernel
theorem dX3_passingTarget_88 : decode cX3_passingTarget 88 = .ok (.lload 6, 2) := by decide +kernel
theorem dX3_passingTarget_90 : decode cX3_passingTarget 90 = .ok (.aload_n 0, 1) := by decide +kernel
theorem dX3_passingTarget_91 : decode cX3_passingTarget 91 = .ok (.getfield 12, 3) := by decide +kernel
theorem dX3_passingTarget_94 : decode cX3_passingTarget 94 = .ok (.bipush 6, 2) := by decide +kernel
theorem dX3_passingTarget_96 : decode cX3_passingTarget 96 = .ok (.iload_n 3, 1) := by decide +kernel
theorem dX3_passingTarget_97 : decode cX3_passingTarget 97 = .ok (.imul, 1) := by decide +kernel
theorem dX3_passingTarget_98 : decode cX3_passingTarget 98 = .ok (.iconst 1, 1) := by decide +kernel
theorem dX3_passingTarget_99 : decode cX3_passingTarget 99 = .ok (.iadd, 1) := by decide +kernel
theorem dX3_passingTarget_100 : decode cX3_passingTarget 100 = .ok (.invokevirtual 86, 3) := by decide +kernel
theorem dX3_passingTarget_103 : decode cX3_passingTarget 103 = .ok (.land, 1) := by decide +kernel
theorem dX3_passingTarget_104 : decode cX3_passingTarget 104 = .ok (.lconst 0, 1) := by decide +kernel
theorem dX3_passingTarget_105 : decode cX3_passingTarget 105 = .ok (.lcmp, 1) := by decide +kernel
theorem dX3_passingTarget_106 : decode cX3_passingTarget 106 = .ok (.ifCond .ne 5, 3) := by decide +kernel
theorem dX3_passingTarget_109 : decode cX3_passingTarget 109 = .ok (.lconst 0, 1) := by decide +kernel
theorem dX3_passingTarget_110 : decode cX3_passingTarget 110 = .ok (.lreturn, 1) := by decide +kernel
theorem dX3_passingTarget_111 : decode cX3_passingTarget 111 = .ok (.aload_n 0, 1) := by decide +kernel
theorem dX3_passingTarget_112 : decode cX3_passingTarget 112 = .ok (.getfield 25, 3) := by decide +kernel
theorem dX3_passingTarget_115 : decode cX3_passingTarget 115 = .ok (.lload_n 1, 1) := by decide +kernel
theorem dX3_passingTarget_116 : decode cX3_passingTarget 116 = .ok (.ldc2_w 89, 3) := by decide +kernel
theorem dX3_passingTarget_119 : decode cX3_passingTarget 119 = .ok (.lxor, 1) := by decide +kernel
theorem dX3_passingTarget_120 : decode cX3_passingTarget 120 = .ok (.land, 1) := by decide +kernel
theorem dX3_passingTarget_121 : decode cX3_passingTarget 121 = .ok (.lload 6, 2) := by decide +kernel
theorem dX3_passingTarget_123 : decode cX3_passingTarget 123 = .ok (.ldc2_w 89, 3) := by decide +kernel
theorem dX3_passingTarget_126 : decode cX3_passingTarget 126 = .ok (.lxor, 1) := by decide +kernel
theorem dX3_passingTarget_127 : decode cX3_passingTarget 127 = .ok (.land, 1) := by decide +kernel
theorem dX3_passingTarget_128 : decode cX3_passingTarget 128 = .ok (.lload 4, 2) := by decide +kernel
theorem dX3_passingTarget_130 : decode cX3_passingTarget 130 = .ok (.lor, 1) := by decide +kernel
theorem dX3_passingTarget_131 : decode cX3_passingTarget 131 = .ok (.lstore 8, 2) := by decide +kernel
theorem dX3_passingTarget_133 : decode cX3_passingTarget 133 = .ok (.aload_n 0, 1) := by decide +kernel
theorem dX3_passingTarget_134 : decode cX3_passingTarget 134 = .ok (.getfield 12, 3) := by decide +kernel
theorem dX3_passingTarget_137 : decode cX3_passingTarget 137 = .ok (.iload_n 3, 1) := by decide +kernel
theorem dX3_passingTarget_138 : decode cX3_passingTarget 138 = .ok (.lload 8, 2) := by decide +kernel
theorem dX3_passingTarget_140 : decode cX3_passingTarget 140 = .ok (.lload 6, 2) := by decide +kernel
theorem dX3_passingTarget_142 : decode cX3_passingTarget 142 = .ok (.invokevirtual 136, 3) := by decide +kernel
theorem dX3_passingTarget_145 : decode cX3_passingTarget 145 = .ok (.aload_n 0, 1) := by decide +kernel
theorem dX3_passingTarget_146 : decode cX3_passingTarget 146 = .ok (.getfield 28, 3) := by decide +kernel
theorem dX3_passingTarget_149 : decode cX3_passingTarget 149 = .ok (.land, 1) := by decide +kernel
theorem dX3_passingTarget_150 : decode cX3_passingTarget 150 = .ok (.lconst 0, 1) := by decide +kernel
theorem dX3_passingTarget_151 : decode cX3_passingTarget 151 = .ok (.lcmp, 1) := by decide +kernel
theorem dX3_passingTarget_152 : decode cX3_passingTarget 152 = .ok (.ifCond .ne 8, 3) := by decide +kernel
theorem dX3_passingTarget_155 : decode cX3_passingTarget 155 = .ok (.lload 4, 2) := by decide +kernel
theorem dX3_passingTarget_157 : decode cX3_passingTarget 157 = .ok (.goto 4, 3) := by decide +kernel
theorem dX3_passingTarget_160 : decode cX3_passingTarget 160 = .ok (.lconst 0, 1) := by decide +kernel
theorem dX3_passingTarget_161 : decode cX3_passingTarget 161 = .ok (.lreturn, 1) := by decide +kernel
theorem hd_X3_passingTarget : yX3_passingTarget.cls ≠ "java/lang/invoke/MethodHandle" ∧ yX3_passingTarget.cls ≠ "java/lang/invoke/VarHandle" ∧ (parseMethodDescriptor yX3_passingTarget.desc).map (fun d => d.parameters.length) = some 1 := by decide +kernel
set_option maxHeartbeats 4000000 in
set_option maxRecDepth 100000 in
/-- passingTarget -/
theorem c_X3_passingTarget (l : Launch) {D : va_G} {cI cJ : ClassId} {A : Nat → Prop} {h0 h1 h2 a0 a1 a2 a3 h3 a4 h4 a5 : Nat} {kn op : Int32} {ma : Int32} {pcs : Nat → Int32} {sqa : Nat → Int64} {mvs los : Nat → Int32} {lsz : Int32} {lfs : Nat → Int32} {asz : Int32} {afs : Nat → Int32} (bd : Nat → Nat) (hCP : CP pcs sqa bd) (sd rt ps : Nat) (hs2 : sd < 2) (hr16 : rt < 16) (hp65 : ps < 65) (x : Int64) : Met l yX3_passingTarget (Cond.code yX3_passingTarget cX3_passingTarget 10 (some .long) :: wsL_law) (rK 2) (va_Pc [.ref h1, .long x] (IW D cI cJ A (cW cI cJ h0 h1 h2 a0 a1 a2 a3 h3 a4 h4 a5 kn op (ownS bd sd) (thrS bd sd) (fulS bd sd) (kngS bd sd) (covS bd sd) (pinS bd sd) (nI sd) (nI rt) (pI ps) ma pcs sqa mvs los lsz lfs asz afs))) (vp_Sl (fun r => r = pst bd sd ps x)) 0 0 (fun _ => False) := by
  refine entM (by decide) (Nat.le_of_ble_eq_true rfl) ?_
  intro p e s m below meth c ls S0 hr hlocks hG hnm hB hl
  have hx := S0.1
  have hb := S0.2.1
  have hown := S0.2.2.2.1
  have hl : lv_has ls 10 [(0, .ref h1), (1, .long x)] := hl
  obtain ⟨hP, hD, hK, hA, hE⟩ := hB
  have hS : va_S A s.heap s.heap [] := va_S.rf
  refine lv_aload_n hx hb dX3_passingTarget_0 rfl (lv_at hl 0 rfl) ?_
  refine va_get (D := D) (ci := 2) (v := .ref h2) (C := RX3) (T := TX3) (N := 7) hx hb hG wu_X3 hown hK hP 1 rfl rfl 0 (by decide) (hG _ wf_X3_12) (fun _ h9 => h9) rfl dX3_passingTarget_1 ?_
  refine va_get (D := D) (ci := 1) (v := .int (pI ps)) (C := RX2) (T := TX2) (N := 8) hx hb hG wu_X2 hown hK hP 2 rfl rfl 4 (by decide) (hG _ wf_X3_133) (fun _ h9 => h9) rfl dX3_passingTarget_4 ?_
  refine lv_iconst (v := (-1)) hx hb dX3_passingTarget_7 (by decide) ?_
  refine lv_icmp_ne (tgt := 13) hx hb dX3_passingTarget_8 (by decide) (fun c8 => ?_) (fun c8 => ?_)
  · skip
    rw [pI_m1 hp65] at c8
    have hp64 : ps < 64 := by omega
    refine lv_iconst (v := (nI 1)) hx hb dX3_passingTarget_13 (by decide) ?_
    refine lv_aload_n hx hb dX3_passingTarget_14 rfl (lv_at hl 0 rfl) ?_
    refine va_get (D := D) (ci := 2) (v := .ref h2) (C := RX3) (T := TX3) (N := 7) hx hb hG wu_X3 hown hK hP 1 rfl rfl 0 (by decide) (hG _ wf_X3_12) (fun _ h9 => h9) rfl dX3_passingTarget_15 ?_
    refine va_get (D := D) (ci := 1) (v := .int (nI sd)) (C := RX2) (T := TX2) (N := 8) hx hb hG wu_X2 hown hK hP 2 rfl rfl 2 (by decide) (hG _ wf_X3_80) (fun _ h9 => h9) rfl dX3_passingTarget_18 ?_
    refine ln_isub hx hb dX3_passingTarget_21 (by omega) ?_
    refine lv_istore_n (lv' := [(3, .int (nI (1 - sd))), (0, .ref h1), (1, .long x)]) hx hb dX3_passingTarget_22 rfl hl (by decide) rfl (fun ls hl => ?_)
    refine lv_aload_n hx hb dX3_passingTarget_23 rfl (lv_at hl 1 rfl) ?_
    refine va_get (D := D) (ci := 2) (v := .ref h2) (C := RX3) (T := TX3) (N := 7) hx hb hG wu_X3 hown hK hP 1 rfl rfl 0 (by decide) (hG _ wf_X3_12) (fun _ h9 => h9) rfl dX3_passingTarget_24 ?_
    refine va_get (D := D) (ci := 1) (v := .int (pI ps)) (C := RX2) (T := TX2) (N := 8) hx hb hG wu_X2 hown hK hP 2 rfl rfl 4 (by decide) (hG _ wf_X3_133) (fun _ h9 => h9) rfl dX3_passingTarget_27 ?_
    refine W.top (y := .int (nI ps)) (congrArg Value.int (pI_lt hp64)) ?_
    refine roL (rnSN (host := RX4) (As := [.int (nI ps)]) (rest := []) S0 (c_X4_bit l (nI ps)) (nl_X3_109 hE.1) wt_X4_bit wn_X4 wc_X4_bit hd_X4_bit ⟨rfl, rfl, by decide, by decide⟩ True.blind (fun _ _ _ => trivial) hl.1 (Nat.le_of_ble_eq_true rfl) dX3_passingTarget_30 rfl ⟨by decide, by decide⟩) (fun r_1 hr_1 => ?_)
    subst hr_1
    refine W.top (y := .long (bsl 1 (nI ps))) (congrArg Value.long rfl) ?_
    refine lv_lstore (lv' := [(4, .long (bsl 1 (nI ps))), (3, .int (nI (1 - sd))), (0, .ref h1), (1, .long x)]) hx hb dX3_passingTarget_33 hl (by decide) rfl (fun ls hl => ?_)
    refine lv_aload_n hx hb dX3_passingTarget_35 rfl (lv_at hl 2 rfl) ?_
    refine va_get (D := D) (ci := 2) (v := .ref h2) (C := RX3) (T := TX3) (N := 7) hx hb hG wu_X3 hown hK hP 1 rfl rfl 0 (by decide) (hG _ wf_X3_12) (fun _ h9 => h9) rfl dX3_passingTarget_36 ?_
    refine va_get (D := D) (ci := 1) (v := .int (nI sd)) (C := RX2) (T := TX2) (N := 8) hx hb hG wu_X2 hown hK hP 2 rfl rfl 2 (by decide) (hG _ wf_X3_80) (fun _ h9 => h9) rfl dX3_passingTarget_39 ?_
    refine jnG 58 10 [(4, .long (bsl 1 (nI ps))), (3, .int (nI (1 - sd))), (0, .ref h1), (1, .long x)] [.long (pbk sd ps)] ?_ (fun hj_58 => ?_)
    · intro ls hl
      refine lv_lstore (lv' := [(6, .long (pbk sd ps)), (4, .long (bsl 1 (nI ps))), (3, .int (nI (1 - sd))), (0, .ref h1), (1, .long x)]) hx hb dX3_passingTarget_58 hl (by decide) rfl (fun ls hl => ?_)
      refine lv_lload_n hx hb dX3_passingTarget_60 rfl (lv_at hl 4 rfl) ?_
      refine lv_aload_n hx hb dX3_passingTarget_61 rfl (lv_at hl 3 rfl) ?_
      refine va_get (D := D) (ci := 2) (v := .ref h2) (C := RX3) (T := TX3) (N := 7) hx hb hG wu_X3 hown hK hP 1 rfl rfl 0 (by decide) (hG _ wf_X3_12) (fun _ h9 => h9) rfl dX3_passingTarget_62 ?_
      refine va_get (D := D) (ci := 1) (v := .int (nI sd)) (C := RX2) (T := TX2) (N := 8) hx hb hG wu_X2 hown hK hP 2 rfl rfl 2 (by decide) (hG _ wf_X3_80) (fun _ h9 => h9) rfl dX3_passingTarget_65 ?_
      refine roL (rnS (As := [.long x, .int (nI sd)]) (rest := []) S0 (c_X0_ofPawns l x sd (by omega)) wm_X3_105 wt_X0_ofPawns wn_X0 wc_X0_ofPawns hd_X0_ofPawns ⟨rfl, rfl, by decide, by decide⟩ True.blind (fun _ _ _ => trivial) hl.1 (Nat.le_of_ble_eq_true rfl) dX3_passingTarget_68 rfl ⟨by decide, by decide⟩) (fun r_2 hr_2 => ?_)
      subst hr_2
      refine lv_lload hx hb dX3_passingTarget_71 (lv_at hl 1 rfl) ?_
      refine lv_land hx hb dX3_passingTarget_73 ?_
      refine lv_aload_n hx hb dX3_passingTarget_74 rfl (lv_at hl 3 rfl) ?_
      refine va_get (D := D) (ci := 2) (v := .long (fulS bd sd)) (C := RX3) (T := TX3) (N := 7) hx hb hG wu_X3 hown hK hP 1 rfl rfl 3 (by decide) (hG _ wf_X3_25) (fun _ h9 => h9) rfl dX3_passingTarget_75 ?_
      refine lv_ldc2 (v := (-1)) hx hb hown (hG _ wk_X3_89) dX3_passingTarget_78 ?_
      refine lv_lxor hx hb dX3_passingTarget_81 ?_
      refine lv_land hx hb dX3_passingTarget_82 ?_
      refine lv_lconst (v := 0) hx hb dX3_passingTarget_83 (by decide) ?_
      refine W.lcmp hx hb dX3_passingTarget_84 ?_
      refine lc_if_eq (tgt := 109) hx hb dX3_passingTarget_85 (by decide) (fun c85 => ?_) (fun c85 => ?_)
      · skip
        refine lv_lconst (v := 0) hx hb dX3_passingTarget_109 (by decide) ?_
        exact reL hx hb hr hlocks dX3_passingTarget_110 (by unfold pst; first | rw [if_pos (show ps = 64 ∨ (opw x sd &&& bsl 1 (nI ps)) &&& nfl bd sd = 0 ∨ pbk sd ps &&& sqs bd (6 * (1 - sd) + 1) = 0 from Or.inr (Or.inl c85))] | rw [if_pos (show ps = 64 ∨ (opw x sd &&& bsl 1 (nI ps)) &&& nfl bd sd = 0 ∨ pbk sd ps &&& sqs bd (6 * (1 - sd) + 1) = 0 from Or.inr (Or.inr c106))])
      · skip
        refine lv_lload hx hb dX3_passingTarget_88 (lv_at hl 0 rfl) ?_
        refine lv_aload_n hx hb dX3_passingTarget_90 rfl (lv_at hl 3 rfl) ?_
        refine va_get (D := D) (ci := 2) (v := .ref h2) (C := RX3) (T := TX3) (N := 7) hx hb hG wu_X3 hown hK hP 1 rfl rfl 0 (by decide) (hG _ wf_X3_12) (fun _ h9 => h9) rfl dX3_passingTarget_91 ?_
        refine lv_bipush (v := (nI 6)) hx hb dX3_passingTarget_94 (by decide) ?_
        refine lv_iload_n hx hb dX3_passingTarget_96 rfl (lv_at hl 2 rfl) ?_
        refine ln_imul hx hb dX3_passingTarget_97 ?_
        refine lv_iconst (v := (nI 1)) hx hb dX3_passingTarget_98 (by decide) ?_
        refine ln_iadd hx hb dX3_passingTarget_99 ?_
        refine roL (rnV (As := [.int (nI ((6 * (1 - sd)) + 1))]) (rest := [.long (pbk sd ps)]) S0 (c_X2_squaresOf l bd hCP ((6 * (1 - sd)) + 1) (by omega)) wm_X3_86 wi_X2_squaresOf ws_X2_squaresOf wn_X2 wc_X2_squaresOf hd_X2_squaresOf ⟨rfl, rfl, by decide, by decide⟩ IW.blind (va_recv hK hP (ci := 1) (q0 := 2) rfl rfl) (IW.at hP hD hK hA hE hS) hl.1 (Nat.le_of_ble_eq_true rfl) dX3_passingTarget_100 rfl ⟨by decide, by decide⟩) (fun r_3 hr_3 => ?_)
        subst hr_3
        refine lv_land hx hb dX3_passingTarget_103 ?_
        refine lv_lconst (v := 0) hx hb dX3_passingTarget_104 (by decide) ?_
        refine W.lcmp hx hb dX3_passingTarget_105 ?_
        refine lc_if_ne (tgt := 111) hx hb dX3_passingTarget_106 (by decide) (fun c106 => ?_) (fun c106 => ?_)
        · skip
          refine lv_aload_n hx hb dX3_passingTarget_111 rfl (lv_at hl 3 rfl) ?_
          refine va_get (D := D) (ci := 2) (v := .long (fulS bd sd)) (C := RX3) (T := TX3) (N := 7) hx hb hG wu_X3 hown hK hP 1 rfl rfl 3 (by decide) (hG _ wf_X3_25) (fun _ h9 => h9) rfl dX3_passingTarget_112 ?_
          refine lv_lload_n hx hb dX3_passingTarget_115 rfl (lv_at hl 4 rfl) ?_
          refine lv_ldc2 (v := (-1)) hx hb hown (hG _ wk_X3_89) dX3_passingTarget_116 ?_
          refine lv_lxor hx hb dX3_passingTarget_119 ?_
          refine lv_land hx hb dX3_passingTarget_120 ?_
          refine lv_lload hx hb dX3_passingTarget_121 (lv_at hl 0 rfl) ?_
          refine lv_ldc2 (v := (-1)) hx hb hown (hG _ wk_X3_89) dX3_passingTarget_123 ?_
          refine lv_lxor hx hb dX3_passingTarget_126 ?_
          refine lv_land hx hb dX3_passingTarget_127 ?_
          refine lv_lload hx hb dX3_passingTarget_128 (lv_at hl 1 rfl) ?_
          refine lv_lor hx hb dX3_passingTarget_130 ?_
          refine W.top (y := .long (pfl bd sd ps x)) (congrArg Value.long rfl) ?_
          refine lv_lstore (lv' := [(8, .long (pfl bd sd ps x)), (6, .long (pbk sd ps)), (4, .long (bsl 1 (nI ps))), (3, .int (nI (1 - sd))), (0, .ref h1), (1, .long x)]) hx hb dX3_passingTarget_131 hl (by decide) rfl (fun ls hl => ?_)
          refine lv_aload_n hx hb dX3_passingTarget_133 rfl (lv_at hl 4 rfl) ?_
          refine va_get (D := D) (ci := 2) (v := .ref h2) (C := RX3) (T := TX3) (N := 7) hx hb hG wu_X3 hown hK hP 1 rfl rfl 0 (by decide) (hG _ wf_X3_12) (fun _ h9 => h9) rfl dX3_passingTarget_134 ?_
          refine lv_iload_n hx hb dX3_passingTarget_137 rfl (lv_at hl 3 rfl) ?_
          refine lv_lload hx hb dX3_passingTarget_138 (lv_at hl 0 rfl) ?_
          refine lv_lload hx hb dX3_passingTarget_140 (lv_at hl 1 rfl) ?_
          refine roL (rnV (As := [.int (nI (1 - sd)), .long (pfl bd sd ps x), .long (pbk sd ps)]) (rest := []) S0 (c_X2_attacksOf l bd hCP (1 - sd) (by omega) (pfl bd sd ps x) (pbk sd ps)) wm_X3_136 wi_X2_attacksOf ws_X2_attacksOf wn_X2 wc_X2_attacksOf hd_X2_attacksOf ⟨rfl, rfl, by decide, by decide⟩ IW.blind (va_recv hK hP (ci := 1) (q0 := 2) rfl rfl) (IW.at hP hD hK hA hE hS) hl.1 (Nat.le_of_ble_eq_true rfl) dX3_passingTarget_142 rfl ⟨by decide, by decide⟩) (fun r_4 hr_4 => ?_)
          subst hr_4
          refine lv_aload_n hx hb dX3_passingTarget_145 rfl (lv_at hl 4 rfl) ?_
          refine va_get (D := D) (ci := 2) (v := .long (kngS bd sd)) (C := RX3) (T := TX3) (N := 7) hx hb hG wu_X3 hown hK hP 1 rfl rfl 4 (by decide) (hG _ wf_X3_28) (fun _ h9 => h9) rfl dX3_passingTarget_146 ?_
          refine lv_land hx hb dX3_passingTarget_149 ?_
          refine lv_lconst (v := 0) hx hb dX3_passingTarget_150 (by decide) ?_
          refine W.lcmp hx hb dX3_passingTarget_151 ?_
          refine lc_if_ne (tgt := 160) hx hb dX3_passingTarget_152 (by decide) (fun c152 => ?_) (fun c152 => ?_)
          · skip
            refine lv_lconst (v := 0) hx hb dX3_passingTarget_160 (by decide) ?_
            exact reL hx hb hr hlocks dX3_passingTarget_161 (by unfold pst; rw [if_neg (fun z => z.elim c8 (fun z => z.elim c85 c106))]; first | rw [if_pos c152] | rw [if_neg c152])
          · skip
            refine lv_lload hx hb dX3_passingTarget_155 (lv_at hl 2 rfl) ?_
            refine lv_goto (tgt := 161) hx hb dX3_passingTarget_157 (by decide) ?_
            exact reL hx hb hr hlocks dX3_passingTarget_161 (by unfold pst; rw [if_neg (fun z => z.elim c8 (fun z => z.elim c85 c106))]; first | rw [if_pos c152] | rw [if_neg c152])
        · skip
          refine lv_lconst (v := 0) hx hb dX3_passingTarget_109 (by decide) ?_
          exact reL hx hb hr hlocks dX3_passingTarget_110 (by unfold pst; first | rw [if_pos (show ps = 64 ∨ (opw x sd &&& bsl 1 (nI ps)) &&& nfl bd sd = 0 ∨ pbk sd ps &&& sqs bd (6 * (1 - sd) + 1) = 0 from Or.inr (Or.inl c85))] | rw [if_pos (show ps = 64 ∨ (opw x sd &&& bsl 1 (nI ps)) &&& nfl bd sd = 0 ∨ pbk sd ps &&& sqs bd (6 * (1 - sd) + 1) = 0 from Or.inr (Or.inr c106))])
    · skip
      refine ln_if_ne (tgt := 53) hx hb dX3_passingTarget_42 (by decide) (by omega) (fun c42 => ?_) (fun c42 => ?_)
      · skip
        refine lv_lload hx hb dX3_passingTarget_53 (lv_at hl 0 rfl) ?_
        refine lv_bipush (v := (nI 8)) hx hb dX3_passingTarget_55 (by decide) ?_
        refine lv_lshl (v := bsl (bsl 1 (nI ps)) (nI 8)) hx hb dX3_passingTarget_57 rfl ?_
        refine W.top (y := .long (pbk sd ps)) (congrArg Value.long (by unfold pbk; first | rw [if_pos c42] | rw [if_neg c42])) ?_
        exact hj_58 ls (lv_sub hl [0, 1, 2, 3] rfl)
      · skip
        refine lv_lload hx hb dX3_passingTarget_45 (lv_at hl 0 rfl) ?_
        refine lv_bipush (v := (nI 8)) hx hb dX3_passingTarget_47 (by decide) ?_
        refine lv_lushr (v := bsr (bsl 1 (nI ps)) (nI 8)) hx hb dX3_passingTarget_49 rfl ?_
        refine lv_goto (tgt := 58) hx hb dX3_passingTarget_50 (by decide) ?_
        refine W.top (y := .long (pbk sd ps)) (congrArg Value.long (by unfold pbk; first | rw [if_pos c42] | rw [if_neg c42])) ?_
        exact hj_58 ls (lv_sub hl [0, 1, 2, 3] rfl)
  · skip
    rw [pI_m1 hp65] at c8
    refine lv_lconst (v := 0) hx hb dX3_passingTarget_11 (by decide) ?_
    exact reL hx hb hr hlocks dX3_passingTarget_12 (by unfold pst; rw [if_pos (Or.inl c8)])
theorem dX3_castlingTargets_0 : decode cX3_castlingTargets 0 = .ok (.aload_n 0, 1) := by decide +kernel
theorem dX3_castlingTargets_1 : decode cX3_castlingTargets 1 = .ok (.getfield 12, 3) := by decide +kernel
theorem dX3_castlingTargets_4 : decode cX3_castlingTargets 4 = .ok (.getfield 80, 3) := by decide +kernel
theorem dX3_castlingTargets_7 : decode cX3_castlingTargets 7 = .ok (.istore_n 1, 1) := by decide +kernel
theorem dX3_castlingTargets_8 : decode cX3_castlingTargets 8 = .ok (.bipush 56, 2) := by decide +kernel
theorem dX3_castlingTargets_10 : decode cX3_castlingTargets 10 = .ok (.iload_n 1, 1) := by decide +kernel
theorem dX3_castlingTargets_11 : decode cX3_castlingTargets 11 = .ok (.imul, 1) := by decide +kernel
theorem dX3_castlingTargets_12 : decode cX3_castlingTargets 12 = .ok (.istore_n 2, 1) := by decide +kernel
theorem dX3_castlingTargets_13 : decode cX3_castlingTargets 13 = .ok (.aload_n 0, 1) := by decide +kernel
theorem dX3_castlingTargets_14 : decode cX3_castlingTargets 14 = .ok (.getfield 12, 3) := by decide +kernel
theorem dX3_castlingTargets_17 : decode cX3_castlingTargets 17 = .ok (.getfield 149, 3) := by decide +kernel
theorem dX3_castlingTargets_20 : decode cX3_castlingTargets 20 = .ok (.iconst 2, 1) := by decide +kernel
theorem dX3_castlingTargets_21 : decode cX3_castlingTargets 21 = .ok (.iload_n 1, 1) := by decide +kernel
theorem dX3_castlingTargets_22 : decode cX3_castlingTargets 22 = .ok (.imul, 1) := by decide +kernel
theorem dX3_castlingTargets_23 : decode cX3_castlingTargets 23 = .ok (.ishr, 1) := by decide +kernel
theorem dX3_castlingTargets_24 : decode cX3_castlingTargets 24 = .ok (.istore_n 3, 1) := by decide +kernel
theorem dX3_castlingTargets_25 : decode cX3_castlingTargets 25 = .ok (.iconst 4, 1) := by decide +kernel
theorem dX3_castlingTargets_26 : decode cX3_castlingTargets 26 = .ok (.iload_n 2, 1) := by decide +kernel
theorem dX3_castlingTargets_27 : decode cX3_castlingTargets 27 = .ok (.iadd, 1) := by decide +kernel
theorem dX3_castlingTargets_28 : decode cX3_castlingTargets 28 = .ok (.invokestatic 109, 3) := by decide +kernel
theorem dX3_castlingTargets_31 : decode cX3_castlingTargets 31 = .ok (.lstore 4, 2) := by decide +kernel
theorem dX3_castlingTargets_33 : decode cX3_castlingTargets 33 = .ok (.aload_n 0, 1) := by decide +kernel
theorem dX3_castlingTargets_34 : decode cX3_castlingTargets 34 = .ok (.getfield 12, 3) := by decide +kernel
theorem dX3_castlingTargets_37 : decode cX3_castlingTargets 37 = .ok (.bipush 6, 2) := by decide +kernel
theorem dX3_castlingTargets_39 : decode cX3_castlingTargets 39 = .ok (.iload_n 1, 1) := by decide +kernel
theorem dX3_castlingTargets_40 : decode cX3_castlingTargets 40 = .ok (.imul, 1) := by decide +kernel
theorem dX3_castlingTargets_41 : decode cX3_castlingTargets 41 = .ok (.iconst 4, 1) := by decide +kernel
theorem dX3_castlingTargets_42 : decode cX3_castlingTargets 42 = .ok (.iadd, 1) := by decide +kernel
theorem dX3_castlingTargets_43 : decode cX3_castlingTargets 43 = .ok (.invokevirtual 86, 3) := by decide +kernel
theorem dX3_castlingTargets_46 : decode cX3_castlingTargets 46 = .ok (.lstore 6, 2) := by decide +kernel
theorem dX3_castlingTargets_48 : decode cX3_castlingTargets 48 = .ok (.aload_n 0, 1) := by decide +kernel
theorem dX3_castlingTargets_49 : decode cX3_castlingTargets 49 = .ok (.getfield 28, 3) := by decide +kernel
theorem dX3_castlingTargets_52 : decode cX3_castlingTargets 52 = .ok (.lload 4, 2) := by decide +kernel
theorem dX3_castlingTargets_54 : decode cX3_castlingTargets 54 = .ok (.lcmp, 1) := by decide +kernel
theorem dX3_castlingTargets_55 : decode cX3_castlingTargets 55 = .ok (.ifCond .eq 5, 3) := by decide +kernel
theorem dX3_castlingTargets_58 : decode cX3_castlingTargets 58 = .ok (.lconst 0, 1) := by decide +kernel
theorem dX3_castlingTargets_59 : decode cX3_castlingTargets 59 = .ok (.lreturn, 1) := by decide +kernel
theorem dX3_castlingTargets_60 : decode cX3_castlingTargets 60 = .ok (.lconst 0, 1) := by decide +kernel
theorem dX3_castlingTargets_61 : decode cX3_castlingTargets 61 = .ok (.lstore 8, 2) := by decide +kernel
theorem dX3_castlingTargets_63 : decode cX3_castlingTargets 63 = .ok (.iload_n 3, 1) := by decide +kernel
theorem dX3_castlingTargets_64 : decode cX3_castlingTargets 64 = .ok (.iconst 1, 1) := by decide +kernel
theorem dX3_castlingTargets_65 : decode cX3_castlingTargets 65 = .ok (.iand, 1) := by decide +kernel
theorem dX3_castlingTargets_66 : decode cX3_castlingTargets 66 = .ok (.ifCond .eq 39, 3) := by decide +kernel
theorem dX3_castlingTargets_69 : decode cX3_castlingTargets 69 = .ok (.lload 6, 2) := by decide +kernel
theorem dX3_castlingTargets_71 : decode cX3_castlingTargets 71 = .ok (.lload 4, 2) := by decide +kernel
theorem dX3_castlingTargets_73 : decode cX3_castlingTargets 73 = .ok (.iconst 3, 1) := by decide +kernel
theorem dX3_castlingTargets_74 : decode cX3_castlingTargets 74 = .ok (.lshl, 1) := by decide +kernel
theorem dX3_castlingTargets_75 : decode cX3_castlingTargets 75 = .ok (.land, 1) := by decide +kernel
theorem dX3_castlingTargets_76 : decode cX3_castlingTargets 76 = .ok (.lconst 0, 1) := by decide +kernel
theorem dX3_castlingTargets_77 : decode cX3_castlingTargets 77 = .ok (.lcmp, 1) := by decide +kernel
theorem dX3_castlingTargets_78 : decode cX3_castlingTargets 78 = .ok (.ifCond .eq 27, 3) := by decide +kernel
theorem dX3_castlingTargets_81 : decode cX3_castlingTargets 81 = .ok (.aload_n 0, 1) := by decide +kernel
theorem dX3_castlingTargets_82 : decode cX3_castlingTargets 82 = .ok (.getfield 25, 3) := by decide +kernel
theorem dX3_castlingTargets_85 : decode cX3_castlingTargets 85 = .ok (.ldc2_w 152, 3) := by decide +kernel
theorem dX3_castlingTargets_88 : decode cX3_castlingTargets 88 = .ok (.iload_n 2, 1) := by decide +kernel
theorem dX3_castlingTargets_89 : decode cX3_castlingTargets 89 = .ok (.lshl, 1) := by decide +kernel
theorem dX3_castlingTargets_90 : decode cX3_castlingTargets 90 = .ok (.land, 1) := by decide +kernel
theorem dX3_castlingTargets_91 : decode cX3_castlingTargets 91 = .ok (.lconst 0, 1) := by decide +kernel
theorem dX3_castlingTargets_92 : decode cX3_castlingTargets 92 = .ok (.lcmp, 1) := by decide +kernel
theorem dX3_castlingTargets_93 : decode cX3_castlingTargets 93 = .ok (.ifCond .ne 12, 3) := by decide +kernel
theorem dX3_castlingTargets_96 : decode cX3_castlingTargets 96 = .ok (.lload 8, 2) := by decide +kernel
theorem dX3_castlingTargets_98 : decode cX3_castlingTargets 98 = .ok (.lload 4, 2) := by decide +kernel
theorem dX3_castlingTargets_100 : decode cX3_castlingTargets 100 = .ok (.iconst 2, 1) := by decide +kernel
theorem dX3_castlingTargets_101 : decode cX3_castlingTargets 101 = .ok (.lshl, 1) := by decide +kernel
theorem dX3_castlingTargets_102 : decode cX3_castlingTargets 102 = .ok (.lor, 1) := by decide +kernel
theorem dX3_castlingTargets_103 : decode cX3_castlingTargets 103 = .ok (.lstore 8, 2) := by decide +kernel
theorem dX3_castlingTargets_105 : decode cX3_castlingTargets 105 = .ok (.iload_n 3, 1) := by decide +kernel
theorem dX3_castlingTargets_106 : decode cX3_castlingTargets 106 = .ok (.iconst 2, 1) := by decide +kernel
theorem dX3_castlingTargets_107 : decode cX3_castlingTargets 107 = .ok (.iand, 1) := by decide +kernel
theorem dX3_castlingTargets_108 : decode cX3_castlingTargets 108 = .ok (.ifCond .eq 39, 3) := by decide +kernel
theorem dX3_castlingTargets_111 : decode cX3_castlingTargets 111 = .ok (.lload 6, 2) := by decide +kernel
theorem dX3_castlingTargets_113 : decode cX3_castlingTargets 113 = .ok (.lload 4, 2) := by decide +kernel
theorem dX3_castlingTargets_115 : decode cX3_castlingTargets 115 = .ok (.iconst 4, 1) := by decide +kernel
theorem dX3_castlingTargets_116 : decode cX3_castlingTargets 116 = .ok (.lushr, 1) := by decide +kernel
theorem dX3_castlingTargets_117 : decode cX3_castlingTargets 117 = .ok (.land, 1) := by decide +kernel
theorem dX3_castlingTargets_118 : decode cX3_castlingTargets 118 = .ok (.lconst 0, 1) := by decide +kernel
theorem dX3_castlingTargets_119 : decode cX3_castlingTargets 119 = .ok (.lcmp, 1) := by decide +kernel
theorem dX3_castlingTargets_120 : decode cX3_castlingTargets 120 = .ok (.ifCond .eq 27, 3) := by decide +kernel
theorem dX3_castlingTargets_123 : decode cX3_castlingTargets 123 = .ok (.aload_n 0, 1) := by decide +kernel
theorem dX3_castlingTargets_124 : decode cX3_castlingTargets 124 = .ok (.getfield 25, 3) := by decide +kernel
theorem dX3_castlingTargets_127 : decode cX3_castlingTargets 127 = .ok (.ldc2_w 154, 3) := by decide +kernel
theorem dX3_castlingTargets_130 : decode cX3_castlingTargets 130 = .ok (.iload_n 2, 1) := by decide +kernel
theorem dX3_castlingTargets_131 : decode cX3_castlingTargets 131 = .ok (.lshl, 1) := by decide +kernel
theorem dX3_castlingTargets_132 : decode cX3_castlingTargets 132 = .ok (.land, 1) := by decide +kernel
theorem dX3_castlingTargets_133 : decode cX3_castlingTargets 133 = .ok (.lconst 0, 1) := by decide +kernel
theorem dX3_castlingTargets_134 : decode cX3_castlingTargets 134 = .ok (.lcmp, 1) := by decide +kernel
theorem dX3_castlingTargets_135 : decode cX3_castlingTargets 135 = .ok (.ifCond .ne 12, 3) := by decide +kernel
theorem dX3_castlingTargets_138 : decode cX3_castlingTargets 138 = .ok (.lload 8, 2) := by decide +kernel
theorem dX3_castlingTargets_140 : decode cX3_castlingTargets 140 = .ok (.lload 4, 2) := by decide +kernel
theorem dX3_castlingTargets_142 : decode cX3_castlingTargets 142 = .ok (.iconst 2, 1) := by decide +kernel
theorem dX3_castlingTargets_143 : decode cX3_castlingTargets 143 = .ok (.lushr, 1) := by decide +kernel
theorem dX3_castlingTargets_144 : decode cX3_castlingTargets 144 = .ok (.lor, 1) := by decide +kernel
theorem dX3_castlingTargets_145 : decode cX3_castlingTargets 145 = .ok (.lstore 8, 2) := by decide +kernel
theorem dX3_castlingTargets_147 : decode cX3_castlingTargets 147 = .ok (.lload 8, 2) := by decide +kernel
theorem dX3_castlingTargets_149 : decode cX3_castlingTargets 149 = .ok (.lreturn, 1) := by decide +kernel
theorem hd_X3_castlingTargets : yX3_castlingTargets.cls ≠ "java/lang/invoke/MethodHandle" ∧ yX3_castlingTargets.cls ≠ "java/lang/invoke/VarHandle" ∧ (parseMethodDescriptor yX3_castlingTargets.desc).map (fun d => d.parameters.length) = some 0 := by decide +kernel
set_option maxHeartbeats 4000000 in
set_option maxRecDepth 100000 in
/-- castlingTargets -/
theorem c_X3_castlingTargets (l : Launch) {D : va_G} {cI cJ : ClassId} {A : Nat → Prop} {h0 h1 h2 a0 a1 a2 a3 h3 a4 h4 a5 : Nat} {kn op : Int32} {ma : Int32} {pcs : Nat → Int32} {sqa : Nat → Int64} {mvs los : Nat → Int32} {lsz : Int32} {lfs : Nat → Int32} {asz : Int32} {afs : Nat → Int32} (bd : Nat → Nat) (hCP : CP pcs sqa bd) (sd rt ps : Nat) (hs2 : sd < 2) (hr16 : rt < 16) (hp65 : ps < 65)  : Met l yX3_castlingTargets (Cond.code yX3_castlingTargets cX3_castlingTargets 10 (some .long) :: wsL_law) (rK 1) (va_Pc [.ref h1] (IW D cI cJ A (cW cI cJ h0 h1 h2 a0 a1 a2 a3 h3 a4 h4 a5 kn op (ownS bd sd) (thrS bd sd) (fulS bd sd) (kngS bd sd) (covS bd sd) (pinS bd sd) (nI sd) (nI rt) (pI ps) ma pcs sqa mvs los lsz lfs asz afs))) (vp_Sl (fun r => r = cst bd sd rt)) 0 0 (fun _ => False) := by
  refine entM (by decide) (Nat.le_of_ble_eq_true rfl) ?_
  intro p e s m below meth c ls S0 hr hlocks hG hnm hB hl
  have hx := S0.1
  have hb := S0.2.1
  have hown := S0.2.2.2.1
  have hl : lv_has ls 10 [(0, .ref h1)] := hl
  obtain ⟨hP, hD, hK, hA, hE⟩ := hB
  have hS : va_S A s.heap s.heap [] := va_S.rf
  obtain ⟨e1, -, -, e4⟩ := rs_e hr16 hs2
  obtain ⟨-, f2, f3, -⟩ := rs_e e4 hs2
  refine lv_aload_n hx hb dX3_castlingTargets_0 rfl (lv_at hl 0 rfl) ?_
  refine va_get (D := D) (ci := 2) (v := .ref h2) (C := RX3) (T := TX3) (N := 7) hx hb hG wu_X3 hown hK hP 1 rfl rfl 0 (by decide) (hG _ wf_X3_12) (fun _ h9 => h9) rfl dX3_castlingTargets_1 ?_
  refine va_get (D := D) (ci := 1) (v := .int (nI sd)) (C := RX2) (T := TX2) (N := 8) hx hb hG wu_X2 hown hK hP 2 rfl rfl 2 (by decide) (hG _ wf_X3_80) (fun _ h9 => h9) rfl dX3_castlingTargets_4 ?_
  refine lv_istore_n (lv' := [(1, .int (nI sd)), (0, .ref h1)]) hx hb dX3_castlingTargets_7 rfl hl (by decide) rfl (fun ls hl => ?_)
  refine lv_bipush (v := (nI 56)) hx hb dX3_castlingTargets_8 (by decide) ?_
  refine lv_iload_n hx hb dX3_castlingTargets_10 rfl (lv_at hl 0 rfl) ?_
  refine ln_imul hx hb dX3_castlingTargets_11 ?_
  refine lv_istore_n (lv' := [(2, .int (nI (56 * sd))), (1, .int (nI sd)), (0, .ref h1)]) hx hb dX3_castlingTargets_12 rfl hl (by decide) rfl (fun ls hl => ?_)
  refine lv_aload_n hx hb dX3_castlingTargets_13 rfl (lv_at hl 2 rfl) ?_
  refine va_get (D := D) (ci := 2) (v := .ref h2) (C := RX3) (T := TX3) (N := 7) hx hb hG wu_X3 hown hK hP 1 rfl rfl 0 (by decide) (hG _ wf_X3_12) (fun _ h9 => h9) rfl dX3_castlingTargets_14 ?_
  refine va_get (D := D) (ci := 1) (v := .int (nI rt)) (C := RX2) (T := TX2) (N := 8) hx hb hG wu_X2 hown hK hP 2 rfl rfl 3 (by decide) (hG _ wf_X3_149) (fun _ h9 => h9) rfl dX3_castlingTargets_17 ?_
  refine lv_iconst (v := (nI 2)) hx hb dX3_castlingTargets_20 (by decide) ?_
  refine lv_iload_n hx hb dX3_castlingTargets_21 rfl (lv_at hl 1 rfl) ?_
  refine ln_imul hx hb dX3_castlingTargets_22 ?_
  refine lv_ishr hx hb dX3_castlingTargets_23 ?_
  refine W.top (y := .int (nI (rt / 4 ^ sd))) (congrArg Value.int e1) ?_
  refine lv_istore_n (lv' := [(3, .int (nI (rt / 4 ^ sd))), (2, .int (nI (56 * sd))), (1, .int (nI sd)), (0, .ref h1)]) hx hb dX3_castlingTargets_24 rfl hl (by decide) rfl (fun ls hl => ?_)
  refine lv_iconst (v := (nI 4)) hx hb dX3_castlingTargets_25 (by decide) ?_
  refine lv_iload_n hx hb dX3_castlingTargets_26 rfl (lv_at hl 1 rfl) ?_
  refine ln_iadd hx hb dX3_castlingTargets_27 ?_
  refine roL (rnSN (host := RX4) (As := [.int (nI (4 + (56 * sd)))]) (rest := []) S0 (c_X4_bit l (nI (4 + (56 * sd)))) (nl_X3_109 hE.1) wt_X4_bit wn_X4 wc_X4_bit hd_X4_bit ⟨rfl, rfl, by decide, by decide⟩ True.blind (fun _ _ _ => trivial) hl.1 (Nat.le_of_ble_eq_true rfl) dX3_castlingTargets_28 rfl ⟨by decide, by decide⟩) (fun r_1 hr_1 => ?_)
  subst hr_1
  refine W.top (y := .long (hom sd)) (congrArg Value.long rfl) ?_
  refine lv_lstore (lv' := [(4, .long (hom sd)), (3, .int (nI (rt / 4 ^ sd))), (2, .int (nI (56 * sd))), (1, .int (nI sd)), (0, .ref h1)]) hx hb dX3_castlingTargets_31 hl (by decide) rfl (fun ls hl => ?_)
  refine lv_aload_n hx hb dX3_castlingTargets_33 rfl (lv_at hl 4 rfl) ?_
  refine va_get (D := D) (ci := 2) (v := .ref h2) (C := RX3) (T := TX3) (N := 7) hx hb hG wu_X3 hown hK hP 1 rfl rfl 0 (by decide) (hG _ wf_X3_12) (fun _ h9 => h9) rfl dX3_castlingTargets_34 ?_
  refine lv_bipush (v := (nI 6)) hx hb dX3_castlingTargets_37 (by decide) ?_
  refine lv_iload_n hx hb dX3_castlingTargets_39 rfl (lv_at hl 3 rfl) ?_
  refine ln_imul hx hb dX3_castlingTargets_40 ?_
  refine lv_iconst (v := (nI 4)) hx hb dX3_castlingTargets_41 (by decide) ?_
  refine ln_iadd hx hb dX3_castlingTargets_42 ?_
  refine roL (rnV (As := [.int (nI ((6 * sd) + 4))]) (rest := []) S0 (c_X2_squaresOf l bd hCP ((6 * sd) + 4) (by omega)) wm_X3_86 wi_X2_squaresOf ws_X2_squaresOf wn_X2 wc_X2_squaresOf hd_X2_squaresOf ⟨rfl, rfl, by decide, by decide⟩ IW.blind (va_recv hK hP (ci := 1) (q0 := 2) rfl rfl) (IW.at hP hD hK hA hE hS) hl.1 (Nat.le_of_ble_eq_true rfl) dX3_castlingTargets_43 rfl ⟨by decide, by decide⟩) (fun r_2 hr_2 => ?_)
  subst hr_2
  refine lv_lstore (lv' := [(6, .long (sqs bd ((6 * sd) + 4))), (4, .long (hom sd)), (3, .int (nI (rt / 4 ^ sd))), (2, .int (nI (56 * sd))), (1, .int (nI sd)), (0, .ref h1)]) hx hb dX3_castlingTargets_46 hl (by decide) rfl (fun ls hl => ?_)
  refine lv_aload_n hx hb dX3_castlingTargets_48 rfl (lv_at hl 5 rfl) ?_
  refine va_get (D := D) (ci := 2) (v := .long (kngS bd sd)) (C := RX3) (T := TX3) (N := 7) hx hb hG wu_X3 hown hK hP 1 rfl rfl 4 (by decide) (hG _ wf_X3_28) (fun _ h9 => h9) rfl dX3_castlingTargets_49 ?_
  refine lv_lload hx hb dX3_castlingTargets_52 (lv_at hl 1 rfl) ?_
  refine W.lcmp hx hb dX3_castlingTargets_54 ?_
  refine lc_if_eq (tgt := 60) hx hb dX3_castlingTargets_55 (by decide) (fun c55 => ?_) (fun c55 => ?_)
  · skip
    refine lv_lconst (v := 0) hx hb dX3_castlingTargets_60 (by decide) ?_
    refine lv_lstore (lv' := [(8, .long 0), (6, .long (sqs bd ((6 * sd) + 4))), (4, .long (hom sd)), (3, .int (nI (rt / 4 ^ sd))), (2, .int (nI (56 * sd))), (1, .int (nI sd)), (0, .ref h1)]) hx hb dX3_castlingTargets_61 hl (by decide) rfl (fun ls hl => ?_)
    refine lv_iload_n hx hb dX3_castlingTargets_63 rfl (lv_at hl 3 rfl) ?_
    refine lv_iconst (v := (nI 1)) hx hb dX3_castlingTargets_64 (by decide) ?_
    refine lv_iand hx hb dX3_castlingTargets_65 ?_
    refine W.top (y := .int (nI (rt / 4 ^ sd % 2))) (congrArg Value.int f2) ?_
    refine jnG 105 10 [(8, .long (ct1 bd sd rt)), (0, .ref h1), (2, .int (nI (56 * sd))), (3, .int (nI (rt / 4 ^ sd))), (4, .long (hom sd)), (6, .long (sqs bd (6 * sd + 4)))] [] ?_ (fun hj_105 => ?_)
    · intro ls hl
      refine lv_iload_n hx hb dX3_castlingTargets_105 rfl (lv_at hl 3 rfl) ?_
      refine lv_iconst (v := (nI 2)) hx hb dX3_castlingTargets_106 (by decide) ?_
      refine lv_iand hx hb dX3_castlingTargets_107 ?_
      refine W.top (y := .int (nI (rt / 4 ^ sd / 2 % 2 * 2))) (congrArg Value.int f3) ?_
      refine jnG 147 10 [(8, .long (ct2 bd sd rt))] [] ?_ (fun hj_147 => ?_)
      · intro ls hl
        refine lv_lload hx hb dX3_castlingTargets_147 (lv_at hl 0 rfl) ?_
        exact reL hx hb hr hlocks dX3_castlingTargets_149 (by unfold cst; rw [if_pos c55])
      · skip
        refine ln_if_eq (tgt := 147) hx hb dX3_castlingTargets_108 (by decide) (by omega) (fun c108 => ?_) (fun c108 => ?_)
        · skip
          rw [show (rt / 4 ^ sd / 2 % 2 * 2 = 0) = (rt / 4 ^ sd / 2 % 2 = 0) from propext ⟨fun h => by omega, fun h => by omega⟩] at c108
          have hl2 : lv_has ls 10 [(8, .long (ct1 bd sd rt))] := by
            exact lv_sub hl [0] rfl
          exact hj_147 ls (by have e9 : ([(8, .long (ct1 bd sd rt))] : List (Nat × Value)) = [(8, .long (ct2 bd sd rt))] := (by unfold ct2 ca2; first | (rw [decide_eq_true c108]; rfl) | (rw [decide_eq_false c108, decide_eq_true c120]; rfl) | (rw [decide_eq_false c108, decide_eq_false c120, decide_eq_false c135]; rfl) | (rw [decide_eq_false c108, decide_eq_false c120, decide_eq_true c135]; rfl)); rw [← e9]; exact hl2)
        · skip
          rw [show (rt / 4 ^ sd / 2 % 2 * 2 = 0) = (rt / 4 ^ sd / 2 % 2 = 0) from propext ⟨fun h => by omega, fun h => by omega⟩] at c108
          refine lv_lload hx hb dX3_castlingTargets_111 (lv_at hl 5 rfl) ?_
          refine lv_lload hx hb dX3_castlingTargets_113 (lv_at hl 4 rfl) ?_
          refine lv_iconst (v := (nI 4)) hx hb dX3_castlingTargets_115 (by decide) ?_
          refine lv_lushr (v := bsr (hom sd) (nI 4)) hx hb dX3_castlingTargets_116 rfl ?_
          refine lv_land hx hb dX3_castlingTargets_117 ?_
          refine lv_lconst (v := 0) hx hb dX3_castlingTargets_118 (by decide) ?_
          refine W.lcmp hx hb dX3_castlingTargets_119 ?_
          refine lc_if_eq (tgt := 147) hx hb dX3_castlingTargets_120 (by decide) (fun c120 => ?_) (fun c120 => ?_)
          · skip
            have hl2 : lv_has ls 10 [(8, .long (ct1 bd sd rt))] := by
              exact lv_sub hl [0] rfl
            exact hj_147 ls (by have e9 : ([(8, .long (ct1 bd sd rt))] : List (Nat × Value)) = [(8, .long (ct2 bd sd rt))] := (by unfold ct2 ca2; first | (rw [decide_eq_true c108]; rfl) | (rw [decide_eq_false c108, decide_eq_true c120]; rfl) | (rw [decide_eq_false c108, decide_eq_false c120, decide_eq_false c135]; rfl) | (rw [decide_eq_false c108, decide_eq_false c120, decide_eq_true c135]; rfl)); rw [← e9]; exact hl2)
          · skip
            refine lv_aload_n hx hb dX3_castlingTargets_123 rfl (lv_at hl 1 rfl) ?_
            refine va_get (D := D) (ci := 2) (v := .long (fulS bd sd)) (C := RX3) (T := TX3) (N := 7) hx hb hG wu_X3 hown hK hP 1 rfl rfl 3 (by decide) (hG _ wf_X3_25) (fun _ h9 => h9) rfl dX3_castlingTargets_124 ?_
            refine lv_ldc2 (v := (14)) hx hb hown (hG _ wk_X3_154) dX3_castlingTargets_127 ?_
            refine lv_iload_n hx hb dX3_castlingTargets_130 rfl (lv_at hl 2 rfl) ?_
            refine lv_lshl (v := bsl (14) (nI (56 * sd))) hx hb dX3_castlingTargets_131 rfl ?_
            refine lv_land hx hb dX3_castlingTargets_132 ?_
            refine lv_lconst (v := 0) hx hb dX3_castlingTargets_133 (by decide) ?_
            refine W.lcmp hx hb dX3_castlingTargets_134 ?_
            refine lc_if_ne (tgt := 147) hx hb dX3_castlingTargets_135 (by decide) (fun c135 => ?_) (fun c135 => ?_)
            · skip
              have hl2 : lv_has ls 10 [(8, .long (ct1 bd sd rt))] := by
                exact lv_sub hl [0] rfl
              exact hj_147 ls (by have e9 : ([(8, .long (ct1 bd sd rt))] : List (Nat × Value)) = [(8, .long (ct2 bd sd rt))] := (by unfold ct2 ca2; first | (rw [decide_eq_true c108]; rfl) | (rw [decide_eq_false c108, decide_eq_true c120]; rfl) | (rw [decide_eq_false c108, decide_eq_false c120, decide_eq_false c135]; rfl) | (rw [decide_eq_false c108, decide_eq_false c120, decide_eq_true c135]; rfl)); rw [← e9]; exact hl2)
            · skip
              refine lv_lload hx hb dX3_castlingTargets_138 (lv_at hl 0 rfl) ?_
              refine lv_lload hx hb dX3_castlingTargets_140 (lv_at hl 4 rfl) ?_
              refine lv_iconst (v := (nI 2)) hx hb dX3_castlingTargets_142 (by decide) ?_
              refine lv_lushr (v := bsr (hom sd) (nI 2)) hx hb dX3_castlingTargets_143 rfl ?_
              refine lv_lor hx hb dX3_castlingTargets_144 ?_
              refine lv_lstore (lv' := [(8, .long ((ct1 bd sd rt) ||| (bsr (hom sd) (nI 2)))), (0, .ref h1), (2, .int (nI (56 * sd))), (3, .int (nI (rt / 4 ^ sd))), (4, .long (hom sd)), (6, .long (sqs bd (6 * sd + 4)))]) hx hb dX3_castlingTargets_145 hl (by decide) rfl (fun ls hl => ?_)
              have hl2 : lv_has ls 10 [(8, .long ((ct1 bd sd rt) ||| (bsr (hom sd) (nI 2))))] := by
                exact lv_sub hl [0] rfl
              exact hj_147 ls (by have e9 : ([(8, .long ((ct1 bd sd rt) ||| (bsr (hom sd) (nI 2))))] : List (Nat × Value)) = [(8, .long (ct2 bd sd rt))] := (by unfold ct2 ca2; first | (rw [decide_eq_true c108]; rfl) | (rw [decide_eq_false c108, decide_eq_true c120]; rfl) | (rw [decide_eq_false c108, decide_eq_false c120, decide_eq_false c135]; rfl) | (rw [decide_eq_false c108, decide_eq_false c120, decide_eq_true c135]; rfl)); rw [← e9]; exact hl2)
    · skip
      refine ln_if_eq (tgt := 105) hx hb dX3_castlingTargets_66 (by decide) (by omega) (fun c66 => ?_) (fun c66 => ?_)
      · skip
        have hl2 : lv_has ls 10 [(8, .long 0), (0, .ref h1), (2, .int (nI (56 * sd))), (3, .int (nI (rt / 4 ^ sd))), (4, .long (hom sd)), (6, .long (sqs bd ((6 * sd) + 4)))] := by
          exact lv_sub hl [0, 6, 4, 3, 2, 1] rfl
        exact hj_105 ls (by have e9 : ([(8, .long 0), (0, .ref h1), (2, .int (nI (56 * sd))), (3, .int (nI (rt / 4 ^ sd))), (4, .long (hom sd)), (6, .long (sqs bd ((6 * sd) + 4)))] : List (Nat × Value)) = [(8, .long (ct1 bd sd rt)), (0, .ref h1), (2, .int (nI (56 * sd))), (3, .int (nI (rt / 4 ^ sd))), (4, .long (hom sd)), (6, .long (sqs bd (6 * sd + 4)))] := (by unfold ct1 ca1; first | (rw [decide_eq_true c66]; rfl) | (rw [decide_eq_false c66, decide_eq_true c78]; rfl) | (rw [decide_eq_false c66, decide_eq_false c78, decide_eq_false c93]; rfl) | (rw [decide_eq_false c66, decide_eq_false c78, decide_eq_true c93]; rfl)); rw [← e9]; exact hl2)
      · skip
        refine lv_lload hx hb dX3_castlingTargets_69 (lv_at hl 1 rfl) ?_
        refine lv_lload hx hb dX3_castlingTargets_71 (lv_at hl 2 rfl) ?_
        refine lv_iconst (v := (nI 3)) hx hb dX3_castlingTargets_73 (by decide) ?_
        refine lv_lshl (v := bsl (hom sd) (nI 3)) hx hb dX3_castlingTargets_74 rfl ?_
        refine lv_land hx hb dX3_castlingTargets_75 ?_
        refine lv_lconst (v := 0) hx hb dX3_castlingTargets_76 (by decide) ?_
        refine W.lcmp hx hb dX3_castlingTargets_77 ?_
        refine lc_if_eq (tgt := 105) hx hb dX3_castlingTargets_78 (by decide) (fun c78 => ?_) (fun c78 => ?_)
        · skip
          have hl2 : lv_has ls 10 [(8, .long 0), (0, .ref h1), (2, .int (nI (56 * sd))), (3, .int (nI (rt / 4 ^ sd))), (4, .long (hom sd)), (6, .long (sqs bd ((6 * sd) + 4)))] := by
            exact lv_sub hl [0, 6, 4, 3, 2, 1] rfl
          exact hj_105 ls (by have e9 : ([(8, .long 0), (0, .ref h1), (2, .int (nI (56 * sd))), (3, .int (nI (rt / 4 ^ sd))), (4, .long (hom sd)), (6, .long (sqs bd ((6 * sd) + 4)))] : List (Nat × Value)) = [(8, .long (ct1 bd sd rt)), (0, .ref h1), (2, .int (nI (56 * sd))), (3, .int (nI (rt / 4 ^ sd))), (4, .long (hom sd)), (6, .long (sqs bd (6 * sd + 4)))] := (by unfold ct1 ca1; first | (rw [decide_eq_true c66]; rfl) | (rw [decide_eq_false c66, decide_eq_true c78]; rfl) | (rw [decide_eq_false c66, decide_eq_false c78, decide_eq_false c93]; rfl) | (rw [decide_eq_false c66, decide_eq_false c78, decide_eq_true c93]; rfl)); rw [← e9]; exact hl2)
        · skip
          refine lv_aload_n hx hb dX3_castlingTargets_81 rfl (lv_at hl 6 rfl) ?_
          refine va_get (D := D) (ci := 2) (v := .long (fulS bd sd)) (C := RX3) (T := TX3) (N := 7) hx hb hG wu_X3 hown hK hP 1 rfl rfl 3 (by decide) (hG _ wf_X3_25) (fun _ h9 => h9) rfl dX3_castlingTargets_82 ?_
          refine lv_ldc2 (v := (96)) hx hb hown (hG _ wk_X3_152) dX3_castlingTargets_85 ?_
          refine lv_iload_n hx hb dX3_castlingTargets_88 rfl (lv_at hl 4 rfl) ?_
          refine lv_lshl (v := bsl (96) (nI (56 * sd))) hx hb dX3_castlingTargets_89 rfl ?_
          refine lv_land hx hb dX3_castlingTargets_90 ?_
          refine lv_lconst (v := 0) hx hb dX3_castlingTargets_91 (by decide) ?_
          refine W.lcmp hx hb dX3_castlingTargets_92 ?_
          refine lc_if_ne (tgt := 105) hx hb dX3_castlingTargets_93 (by decide) (fun c93 => ?_) (fun c93 => ?_)
          · skip
            have hl2 : lv_has ls 10 [(8, .long 0), (0, .ref h1), (2, .int (nI (56 * sd))), (3, .int (nI (rt / 4 ^ sd))), (4, .long (hom sd)), (6, .long (sqs bd ((6 * sd) + 4)))] := by
              exact lv_sub hl [0, 6, 4, 3, 2, 1] rfl
            exact hj_105 ls (by have e9 : ([(8, .long 0), (0, .ref h1), (2, .int (nI (56 * sd))), (3, .int (nI (rt / 4 ^ sd))), (4, .long (hom sd)), (6, .long (sqs bd ((6 * sd) + 4)))] : List (Nat × Value)) = [(8, .long (ct1 bd sd rt)), (0, .ref h1), (2, .int (nI (56 * sd))), (3, .int (nI (rt / 4 ^ sd))), (4, .long (hom sd)), (6, .long (sqs bd (6 * sd + 4)))] := (by unfold ct1 ca1; first | (rw [decide_eq_true c66]; rfl) | (rw [decide_eq_false c66, decide_eq_true c78]; rfl) | (rw [decide_eq_false c66, decide_eq_false c78, decide_eq_false c93]; rfl) | (rw [decide_eq_false c66, decide_eq_false c78, decide_eq_true c93]; rfl)); rw [← e9]; exact hl2)
          · skip
            refine lv_lload hx hb dX3_castlingTargets_96 (lv_at hl 0 rfl) ?_
            refine lv_lload hx hb dX3_castlingTargets_98 (lv_at hl 2 rfl) ?_
            refine lv_iconst (v := (nI 2)) hx hb dX3_castlingTargets_100 (by decide) ?_
            refine lv_lshl (v := bsl (hom sd) (nI 2)) hx hb dX3_castlingTargets_101 rfl ?_
            refine lv_lor hx hb dX3_castlingTargets_102 ?_
            refine lv_lstore (lv' := [(8, .long (0 ||| (bsl (hom sd) (nI 2)))), (6, .long (sqs bd ((6 * sd) + 4))), (4, .long (hom sd)), (3, .int (nI (rt / 4 ^ sd))), (2, .int (nI (56 * sd))), (1, .int (nI sd)), (0, .ref h1)]) hx hb dX3_castlingTargets_103 hl (by decide) rfl (fun ls hl => ?_)
            have hl2 : lv_has ls 10 [(8, .long (0 ||| (bsl (hom sd) (nI 2)))), (0, .ref h1), (2, .int (nI (56 * sd))), (3, .int (nI (rt / 4 ^ sd))), (4, .long (hom sd)), (6, .long (sqs bd ((6 * sd) + 4)))] := by
              exact lv_sub hl [0, 6, 4, 3, 2, 1] rfl
            exact hj_105 ls (by have e9 : ([(8, .long (0 ||| (bsl (hom sd) (nI 2)))), (0, .ref h1), (2, .int (nI (56 * sd))), (3, .int (nI (rt / 4 ^ sd))), (4, .long (hom sd)), (6, .long (sqs bd ((6 * sd) + 4)))] : List (Nat × Value)) = [(8, .long (ct1 bd sd rt)), (0, .ref h1), (2, .int (nI (56 * sd))), (3, .int (nI (rt / 4 ^ sd))), (4, .long (hom sd)), (6, .long (sqs bd (6 * sd + 4)))] := (by unfold ct1 ca1; first | (rw [decide_eq_true c66]; rfl) | (rw [decide_eq_false c66, decide_eq_true c78]; rfl) | (rw [decide_eq_false c66, decide_eq_false c78, decide_eq_false c93]; rfl) | (rw [decide_eq_false c66, decide_eq_false c78, decide_eq_true c93]; rfl)); rw [← e9]; exact hl2)
  · skip
    refine lv_lconst (v := 0) hx hb dX3_castlingTargets_58 (by decide) ?_
    exact reL hx hb hr hlocks dX3_castlingTargets_59 (by unfold cst; rw [if_neg c55])
theorem dX3_kingTargets_0 : decode cX3_kingTargets 0 = .ok (.aload_n 0, 1) := by decide +kernel
theorem dX3_kingTargets_1 : decode cX3_kingTargets 1 = .ok (.getfield 28, 3) := by decide +kernel
theorem dX3_kingTargets_4 : decode cX3_kingTargets 4 = .ok (.invokestatic 139, 3) := by decide +kernel
theorem dX3_kingTargets_7 : decode cX3_kingTargets 7 = .ok (.aload_n 0, 1) := by decide +kernel
theorem dX3_kingTargets_8 : decode cX3_kingTargets 8 = .ok (.getfield 18, 3) := by decide +kernel
theorem dX3_kingTargets_11 : decode cX3_kingTargets 11 = .ok (.ldc2_w 89, 3) := by decide +kernel
theorem dX3_kingTargets_14 : decode cX3_kingTargets 14 = .ok (.lxor, 1) := by decide +kernel
theorem dX3_kingTargets_15 : decode cX3_kingTargets 15 = .ok (.land, 1) := by decide +kernel
theorem dX3_kingTargets_16 : decode cX3_kingTargets 16 = .ok (.lstore_n 1, 1) := by decide +kernel
theorem dX3_kingTargets_17 : decode cX3_kingTargets 17 = .ok (.aload_n 0, 1) := by decide +kernel
theorem dX3_kingTargets_18 : decode cX3_kingTargets 18 = .ok (.invokevirtual 142, 3) := by decide +kernel
theorem dX3_kingTargets_21 : decode cX3_kingTargets 21 = .ok (.lstore_n 3, 1) := by decide +kernel
theorem dX3_kingTargets_22 : decode cX3_kingTargets 22 = .ok (.lload_n 1, 1) := by decide +kernel
theorem dX3_kingTargets_23 : decode cX3_kingTargets 23 = .ok (.lload_n 3, 1) := by decide +kernel
theorem dX3_kingTargets_24 : decode cX3_kingTargets 24 = .ok (.lor, 1) := by decide +kernel
theorem dX3_kingTargets_25 : decode cX3_kingTargets 25 = .ok (.lconst 0, 1) := by decide +kernel
theorem dX3_kingTargets_26 : decode cX3_kingTargets 26 = .ok (.lcmp, 1) := by decide +kernel
theorem dX3_kingTargets_27 : decode cX3_kingTargets 27 = .ok (.ifCond .ne 5, 3) := by decide +kernel
theorem dX3_kingTargets_30 : decode cX3_kingTargets 30 = .ok (.lconst 0, 1) := by decide +kernel
theorem dX3_kingTargets_31 : decode cX3_kingTargets 31 = .ok (.lreturn, 1) := by decide +kernel
theorem dX3_kingTargets_32 : decode cX3_kingTargets 32 = .ok (.aload_n 0, 1) := by decide +kernel
theorem dX3_kingTargets_33 : decode cX3_kingTargets 33 = .ok (.getfield 12, 3) := by decide +kernel
theorem dX3_kingTargets_36 : decode cX3_kingTargets 36 = .ok (.iconst 1, 1) := by decide +kernel
theorem dX3_kingTargets_37 : decode cX3_kingTargets 37 = .ok (.aload_n 0, 1) := by decide +kernel
theorem dX3_kingTargets_38 : decode cX3_kingTargets 38 = .ok (.getfield 12, 3) := by decide +kernel
theorem dX3_kingTargets_41 : decode cX3_kingTargets 41 = .ok (.getfield 80, 3) := by decide +kernel
theorem dX3_kingTargets_44 : decode cX3_kingTargets 44 = .ok (.isub, 1) := by decide +kernel
theorem dX3_kingTargets_45 : decode cX3_kingTargets 45 = .ok (.aload_n 0, 1) := by decide +kernel
theorem dX3_kingTargets_46 : decode cX3_kingTargets 46 = .ok (.getfield 25, 3) := by decide +kernel
theorem dX3_kingTargets_49 : decode cX3_kingTargets 49 = .ok (.aload_n 0, 1) := by decide +kernel
theorem dX3_kingTargets_50 : decode cX3_kingTargets 50 = .ok (.getfield 28, 3) := by decide +kernel
theorem dX3_kingTargets_53 : decode cX3_kingTargets 53 = .ok (.ldc2_w 89, 3) := by decide +kernel
theorem dX3_kingTargets_56 : decode cX3_kingTargets 56 = .ok (.lxor, 1) := by decide +kernel
theorem dX3_kingTargets_57 : decode cX3_kingTargets 57 = .ok (.land, 1) := by decide +kernel
theorem dX3_kingTargets_58 : decode cX3_kingTargets 58 = .ok (.lconst 0, 1) := by decide +kernel
theorem dX3_kingTargets_59 : decode cX3_kingTargets 59 = .ok (.invokevirtual 136, 3) := by decide +kernel
theorem dX3_kingTargets_62 : decode cX3_kingTargets 62 = .ok (.lstore 5, 2) := by decide +kernel
theorem dX3_kingTargets_64 : decode cX3_kingTargets 64 = .ok (.bipush 56, 2) := by decide +kernel
theorem dX3_kingTargets_66 : decode cX3_kingTargets 66 = .ok (.aload_n 0, 1) := by decide +kernel
theorem dX3_kingTargets_67 : decode cX3_kingTargets 67 = .ok (.getfield 12, 3) := by decide +kernel
theorem dX3_kingTargets_70 : decode cX3_kingTargets 70 = .ok (.getfield 80, 3) := by decide +kernel
theorem dX3_kingTargets_73 : decode cX3_kingTargets 73 = .ok (.imul, 1) := by decide +kernel
theorem dX3_kingTargets_74 : decode cX3_kingTargets 74 = .ok (.istore 7, 2) := by decide +kernel
theorem dX3_kingTargets_76 : decode cX3_kingTargets 76 = .ok (.iconst 4, 1) := by decide +kernel
theorem dX3_kingTargets_77 : decode cX3_kingTargets 77 = .ok (.iload 7, 2) := by decide +kernel
theorem dX3_kingTargets_79 : decode cX3_kingTargets 79 = .ok (.iadd, 1) := by decide +kernel
theorem dX3_kingTargets_80 : decode cX3_kingTargets 80 = .ok (.invokestatic 109, 3) := by decide +kernel
theorem dX3_kingTargets_83 : decode cX3_kingTargets 83 = .ok (.lstore 8, 2) := by decide +kernel
theorem dX3_kingTargets_85 : decode cX3_kingTargets 85 = .ok (.lload 5, 2) := by decide +kernel
theorem dX3_kingTargets_87 : decode cX3_kingTargets 87 = .ok (.ldc2_w 145, 3) := by decide +kernel
theorem dX3_kingTargets_90 : decode cX3_kingTargets 90 = .ok (.iload 7, 2) := by decide +kernel
theorem dX3_kingTargets_92 : decode cX3_kingTargets 92 = .ok (.lshl, 1) := by decide +kernel
theorem dX3_kingTargets_93 : decode cX3_kingTargets 93 = .ok (.land, 1) := by decide +kernel
theorem dX3_kingTargets_94 : decode cX3_kingTargets 94 = .ok (.lconst 0, 1) := by decide +kernel
theorem dX3_kingTargets_95 : decode cX3_kingTargets 95 = .ok (.lcmp, 1) := by decide +kernel
theorem dX3_kingTargets_96 : decode cX3_kingTargets 96 = .ok (.ifCond .eq 14, 3) := by decide +kernel
theorem dX3_kingTargets_99 : decode cX3_kingTargets 99 = .ok (.lload_n 3, 1) := by decide +kernel
theorem dX3_kingTargets_100 : decode cX3_kingTargets 100 = .ok (.lload 8, 2) := by decide +kernel
theorem dX3_kingTargets_102 : decode cX3_kingTargets 102 = .ok (.iconst 2, 1) := by decide +kernel
theorem dX3_kingTargets_103 : decode cX3_kingTargets 103 = .ok (.lshl, 1) := by decide +kernel
theorem dX3_kingTargets_104 : decode cX3_kingTargets 104 = .ok (.ldc2_w 89, 3) := by decide +kernel
theorem dX3_kingTargets_107 : decode cX3_kingTargets 107 = .ok (.lxor, 1) := by decide +kernel
theorem dX3_kingTargets_108 : decode cX3_kingTargets 108 = .ok (.land, 1) := by decide +kernel
theorem dX3_kingTargets_109 : decode cX3_kingTargets 109 = .ok (.lstore_n 3, 1) := by decide +kernel
theorem dX3_kingTargets_110 : decode cX3_kingTargets 110 = .ok (.lload 5, 2) := by decide +kernel
theorem dX3_kingTargets_112 : decode cX3_kingTargets 112 = .ok (.ldc2_w 147, 3) := by decide +kernel
theorem dX3_kingTargets_115 : decode cX3_kingTargets 115 = .ok (.iload 7, 2) := by decide +kernel
theorem dX3_kingTargets_117 : decode cX3_kingTargets 117 = .ok (.lshl, 1) := by decide +kernel
theorem dX3_kingTargets_118 : decode cX3_kingTargets 118 = .ok (.land, 1) := by decide +kernel
theorem dX3_kingTargets_119 : decode cX3_kingTargets 119 = .ok (.lconst 0, 1) := by decide +kernel
theorem dX3_kingTargets_120 : decode cX3_kingTargets 120 = .ok (.lcmp, 1) := by decide +kernel
theorem dX3_kingTargets_121 : decode cX3_kingTargets 121 = .ok (.ifCond .eq 14, 3) := by decide +kernel
theorem dX3_kingTargets_124 : decode cX3_kingTargets 124 = .ok (.lload_n 3, 1) := by decide +kernel
theorem dX3_kingTargets_125 : decode cX3_kingTargets 125 = .ok (.lload 8, 2) := by decide +kernel
theorem dX3_kingTargets_127 : decode cX3_kingTargets 127 = .ok (.iconst 2, 1) := by decide +kernel
theorem dX3_kingTargets_128 : decode cX3_kingTargets 128 = .ok (.lushr, 1) := by decide +kernel
theorem dX3_kingTargets_129 : decode cX3_kingTargets 129 = .ok (.ldc2_w 89, 3) := by decide +kernel
theorem dX3_kingTargets_132 : decode cX3_kingTargets 132 = .ok (.lxor, 1) := by decide +kernel
theorem dX3_kingTargets_133 : decode cX3_kingTargets 133 = .ok (.land, 1) := by decide +kernel
theorem dX3_kingTargets_134 : decode cX3_kingTargets 134 = .ok (.lstore_n 3, 1) := by decide +kernel
theorem dX3_kingTargets_135 : decode cX3_kingTargets 135 = .ok (.lload_n 1, 1) := by decide +kernel
theorem dX3_kingTargets_136 : decode cX3_kingTargets 136 = .ok (.lload 5, 2) := by decide +kernel
theorem dX3_kingTargets_138 : decode cX3_kingTargets 138 = .ok (.ldc2_w 89, 3) := by decide +kernel
theorem dX3_kingTargets_141 : decode cX3_kingTargets 141 = .ok (.lxor, 1) := by decide +kernel
theorem dX3_kingTargets_142 : decode cX3_kingTargets 142 = .ok (.land, 1) := by decide +kernel
theorem dX3_kingTargets_143 : decode cX3_kingTargets 143 = .ok (.lload_n 3, 1) := by decide +kernel
theorem dX3_kingTargets_144 : decode cX3_kingTargets 144 = .ok (.lor, 1) := by decide +kernel
theorem dX3_kingTargets_145 : decode cX3_kingTargets 145 = .ok (.lreturn, 1) := by decide +kernel
theorem hd_X3_kingTargets : yX3_kingTargets.cls ≠ "java/lang/invoke/MethodHandle" ∧ yX3_kingTargets.cls ≠ "java/lang/invoke/VarHandle" ∧ (parseMethodDescriptor yX3_kingTargets.desc).map (fun d => d.parameters.length) = some 0 := by decide +kernel
set_option maxHeartbeats 4000000 in
set_option maxRecDepth 100000 in
/-- kingTargets -/
theorem c_X3_kingTargets (l : Launch) {D : va_G} {cI cJ : ClassId} {A : Nat → Prop} {h0 h1 h2 a0 a1 a2 a3 h3 a4 h4 a5 : Nat} {kn op : Int32} {ma : Int32} {pcs : Nat → Int32} {sqa : Nat → Int64} {mvs los : Nat → Int32} {lsz : Int32} {lfs : Nat → Int32} {asz : Int32} {afs : Nat → Int32} (bd : Nat → Nat) (hCP : CP pcs sqa bd) (sd rt ps : Nat) (hs2 : sd < 2) (hr16 : rt < 16) (hp65 : ps < 65)  : Met l yX3_kingTargets (Cond.code yX3_kingTargets cX3_kingTargets 10 (some .long) :: wsL_law) (rK 2) (va_Pc [.ref h1] (IW D cI cJ A (cW cI cJ h0 h1 h2 a0 a1 a2 a3 h3 a4 h4 a5 kn op (ownS bd sd) (thrS bd sd) (fulS bd sd) (kngS bd sd) (covS bd sd) (pinS bd sd) (nI sd) (nI rt) (pI ps) ma pcs sqa mvs los lsz lfs asz afs))) (vp_Sl (fun r => r = ktg bd sd rt)) 0 0 (fun _ => False) := by
  refine entM (by decide) (Nat.le_of_ble_eq_true rfl) ?_
  intro p e s m below meth c ls S0 hr hlocks hG hnm hB hl
  have hx := S0.1
  have hb := S0.2.1
  have hown := S0.2.2.2.1
  have hl : lv_has ls 10 [(0, .ref h1)] := hl
  obtain ⟨hP, hD, hK, hA, hE⟩ := hB
  have hS : va_S A s.heap s.heap [] := va_S.rf
  refine lv_aload_n hx hb dX3_kingTargets_0 rfl (lv_at hl 0 rfl) ?_
  refine va_get (D := D) (ci := 2) (v := .long (kngS bd sd)) (C := RX3) (T := TX3) (N := 7) hx hb hG wu_X3 hown hK hP 1 rfl rfl 4 (by decide) (hG _ wf_X3_28) (fun _ h9 => h9) rfl dX3_kingTargets_1 ?_
  refine roL (rnS (As := [.long (kngS bd sd)]) (rest := []) S0 (c_X0_ofKings l (kngS bd sd)) wm_X3_139 wt_X0_ofKings wn_X0 wc_X0_ofKings hd_X0_ofKings ⟨rfl, rfl, by decide, by decide⟩ True.blind (fun _ _ _ => trivial) hl.1 (Nat.le_of_ble_eq_true rfl) dX3_kingTargets_4 rfl ⟨by decide, by decide⟩) (fun r_1 hr_1 => ?_)
  subst hr_1
  refine lv_aload_n hx hb dX3_kingTargets_7 rfl (lv_at hl 0 rfl) ?_
  refine va_get (D := D) (ci := 2) (v := .long (ownS bd sd)) (C := RX3) (T := TX3) (N := 7) hx hb hG wu_X3 hown hK hP 1 rfl rfl 1 (by decide) (hG _ wf_X3_18) (fun _ h9 => h9) rfl dX3_kingTargets_8 ?_
  refine lv_ldc2 (v := (-1)) hx hb hown (hG _ wk_X3_89) dX3_kingTargets_11 ?_
  refine lv_lxor hx hb dX3_kingTargets_14 ?_
  refine lv_land hx hb dX3_kingTargets_15 ?_
  refine W.top (y := .long (kst bd sd)) (congrArg Value.long rfl) ?_
  refine lv_lstore_n (lv' := [(1, .long (kst bd sd)), (0, .ref h1)]) hx hb dX3_kingTargets_16 rfl hl (by decide) rfl (fun ls hl => ?_)
  refine lv_aload_n hx hb dX3_kingTargets_17 rfl (lv_at hl 1 rfl) ?_
  refine roL (rnV (As := []) (rest := []) S0 (c_X3_castlingTargets l bd hCP sd rt ps hs2 hr16 hp65 ) wm_X3_142 wi_X3_castlingTargets ws_X3_castlingTargets wn_X3 wc_X3_castlingTargets hd_X3_castlingTargets ⟨rfl, rfl, by decide, by decide⟩ IW.blind (va_recv hK hP (ci := 2) (q0 := 1) rfl rfl) (IW.at hP hD hK hA hE hS) hl.1 (Nat.le_of_ble_eq_true rfl) dX3_kingTargets_18 rfl ⟨by decide, by decide⟩) (fun r_2 hr_2 => ?_)
  subst hr_2
  refine lv_lstore_n (lv' := [(3, .long (cst bd sd rt)), (1, .long (kst bd sd)), (0, .ref h1)]) hx hb dX3_kingTargets_21 rfl hl (by decide) rfl (fun ls hl => ?_)
  refine lv_lload_n hx hb dX3_kingTargets_22 rfl (lv_at hl 1 rfl) ?_
  refine lv_lload_n hx hb dX3_kingTargets_23 rfl (lv_at hl 0 rfl) ?_
  refine lv_lor hx hb dX3_kingTargets_24 ?_
  refine lv_lconst (v := 0) hx hb dX3_kingTargets_25 (by decide) ?_
  refine W.lcmp hx hb dX3_kingTargets_26 ?_
  refine lc_if_ne (tgt := 32) hx hb dX3_kingTargets_27 (by decide) (fun c27 => ?_) (fun c27 => ?_)
  · skip
    refine lv_aload_n hx hb dX3_kingTargets_32 rfl (lv_at hl 2 rfl) ?_
    refine va_get (D := D) (ci := 2) (v := .ref h2) (C := RX3) (T := TX3) (N := 7) hx hb hG wu_X3 hown hK hP 1 rfl rfl 0 (by decide) (hG _ wf_X3_12) (fun _ h9 => h9) rfl dX3_kingTargets_33 ?_
    refine lv_iconst (v := (nI 1)) hx hb dX3_kingTargets_36 (by decide) ?_
    refine lv_aload_n hx hb dX3_kingTargets_37 rfl (lv_at hl 2 rfl) ?_
    refine va_get (D := D) (ci := 2) (v := .ref h2) (C := RX3) (T := TX3) (N := 7) hx hb hG wu_X3 hown hK hP 1 rfl rfl 0 (by decide) (hG _ wf_X3_12) (fun _ h9 => h9) rfl dX3_kingTargets_38 ?_
    refine va_get (D := D) (ci := 1) (v := .int (nI sd)) (C := RX2) (T := TX2) (N := 8) hx hb hG wu_X2 hown hK hP 2 rfl rfl 2 (by decide) (hG _ wf_X3_80) (fun _ h9 => h9) rfl dX3_kingTargets_41 ?_
    refine ln_isub hx hb dX3_kingTargets_44 (by omega) ?_
    refine lv_aload_n hx hb dX3_kingTargets_45 rfl (lv_at hl 2 rfl) ?_
    refine va_get (D := D) (ci := 2) (v := .long (fulS bd sd)) (C := RX3) (T := TX3) (N := 7) hx hb hG wu_X3 hown hK hP 1 rfl rfl 3 (by decide) (hG _ wf_X3_25) (fun _ h9 => h9) rfl dX3_kingTargets_46 ?_
    refine lv_aload_n hx hb dX3_kingTargets_49 rfl (lv_at hl 2 rfl) ?_
    refine va_get (D := D) (ci := 2) (v := .long (kngS bd sd)) (C := RX3) (T := TX3) (N := 7) hx hb hG wu_X3 hown hK hP 1 rfl rfl 4 (by decide) (hG _ wf_X3_28) (fun _ h9 => h9) rfl dX3_kingTargets_50 ?_
    refine lv_ldc2 (v := (-1)) hx hb hown (hG _ wk_X3_89) dX3_kingTargets_53 ?_
    refine lv_lxor hx hb dX3_kingTargets_56 ?_
    refine lv_land hx hb dX3_kingTargets_57 ?_
    refine lv_lconst (v := 0) hx hb dX3_kingTargets_58 (by decide) ?_
    refine roL (rnV (As := [.int (nI (1 - sd)), .long ((fulS bd sd) &&& ((kngS bd sd) ^^^ (-1))), .long 0]) (rest := []) S0 (c_X2_attacksOf l bd hCP (1 - sd) (by omega) ((fulS bd sd) &&& ((kngS bd sd) ^^^ (-1))) 0) wm_X3_136 wi_X2_attacksOf ws_X2_attacksOf wn_X2 wc_X2_attacksOf hd_X2_attacksOf ⟨rfl, rfl, by decide, by decide⟩ IW.blind (va_recv hK hP (ci := 1) (q0 := 2) rfl rfl) (IW.at hP hD hK hA hE hS) hl.1 (Nat.le_of_ble_eq_true rfl) dX3_kingTargets_59 rfl ⟨by decide, by decide⟩) (fun r_3 hr_3 => ?_)
    subst hr_3
    refine W.top (y := .long (dgr bd sd)) (congrArg Value.long rfl) ?_
    refine lv_lstore (lv' := [(5, .long (dgr bd sd)), (3, .long (cst bd sd rt)), (1, .long (kst bd sd)), (0, .ref h1)]) hx hb dX3_kingTargets_62 hl (by decide) rfl (fun ls hl => ?_)
    refine lv_bipush (v := (nI 56)) hx hb dX3_kingTargets_64 (by decide) ?_
    refine lv_aload_n hx hb dX3_kingTargets_66 rfl (lv_at hl 3 rfl) ?_
    refine va_get (D := D) (ci := 2) (v := .ref h2) (C := RX3) (T := TX3) (N := 7) hx hb hG wu_X3 hown hK hP 1 rfl rfl 0 (by decide) (hG _ wf_X3_12) (fun _ h9 => h9) rfl dX3_kingTargets_67 ?_
    refine va_get (D := D) (ci := 1) (v := .int (nI sd)) (C := RX2) (T := TX2) (N := 8) hx hb hG wu_X2 hown hK hP 2 rfl rfl 2 (by decide) (hG _ wf_X3_80) (fun _ h9 => h9) rfl dX3_kingTargets_70 ?_
    refine ln_imul hx hb dX3_kingTargets_73 ?_
    refine lv_istore (lv' := [(7, .int (nI (56 * sd))), (5, .long (dgr bd sd)), (3, .long (cst bd sd rt)), (1, .long (kst bd sd)), (0, .ref h1)]) hx hb dX3_kingTargets_74 hl (by decide) rfl (fun ls hl => ?_)
    refine lv_iconst (v := (nI 4)) hx hb dX3_kingTargets_76 (by decide) ?_
    refine lv_iload hx hb dX3_kingTargets_77 (lv_at hl 0 rfl) ?_
    refine ln_iadd hx hb dX3_kingTargets_79 ?_
    refine roL (rnSN (host := RX4) (As := [.int (nI (4 + (56 * sd)))]) (rest := []) S0 (c_X4_bit l (nI (4 + (56 * sd)))) (nl_X3_109 hE.1) wt_X4_bit wn_X4 wc_X4_bit hd_X4_bit ⟨rfl, rfl, by decide, by decide⟩ True.blind (fun _ _ _ => trivial) hl.1 (Nat.le_of_ble_eq_true rfl) dX3_kingTargets_80 rfl ⟨by decide, by decide⟩) (fun r_4 hr_4 => ?_)
    subst hr_4
    refine W.top (y := .long (hom sd)) (congrArg Value.long rfl) ?_
    refine lv_lstore (lv' := [(8, .long (hom sd)), (7, .int (nI (56 * sd))), (5, .long (dgr bd sd)), (3, .long (cst bd sd rt)), (1, .long (kst bd sd)), (0, .ref h1)]) hx hb dX3_kingTargets_83 hl (by decide) rfl (fun ls hl => ?_)
    refine lv_lload hx hb dX3_kingTargets_85 (lv_at hl 2 rfl) ?_
    refine lv_ldc2 (v := (112)) hx hb hown (hG _ wk_X3_145) dX3_kingTargets_87 ?_
    refine lv_iload hx hb dX3_kingTargets_90 (lv_at hl 1 rfl) ?_
    refine lv_lshl (v := bsl (112) (nI (56 * sd))) hx hb dX3_kingTargets_92 rfl ?_
    refine lv_land hx hb dX3_kingTargets_93 ?_
    refine lv_lconst (v := 0) hx hb dX3_kingTargets_94 (by decide) ?_
    refine W.lcmp hx hb dX3_kingTargets_95 ?_
    refine jnG 110 10 [(3, .long (kc1 bd sd rt)), (0, .ref h1), (1, .long (kst bd sd)), (5, .long (dgr bd sd)), (7, .int (nI (56 * sd))), (8, .long (hom sd))] [] ?_ (fun hj_110 => ?_)
    · intro ls hl
      refine lv_lload hx hb dX3_kingTargets_110 (lv_at hl 3 rfl) ?_
      refine lv_ldc2 (v := (28)) hx hb hown (hG _ wk_X3_147) dX3_kingTargets_112 ?_
      refine lv_iload hx hb dX3_kingTargets_115 (lv_at hl 4 rfl) ?_
      refine lv_lshl (v := bsl (28) (nI (56 * sd))) hx hb dX3_kingTargets_117 rfl ?_
      refine lv_land hx hb dX3_kingTargets_118 ?_
      refine lv_lconst (v := 0) hx hb dX3_kingTargets_119 (by decide) ?_
      refine W.lcmp hx hb dX3_kingTargets_120 ?_
      refine jnG 135 10 [(3, .long (kc2 bd sd rt)), (1, .long (kst bd sd)), (5, .long (dgr bd sd))] [] ?_ (fun hj_135 => ?_)
      · intro ls hl
        refine lv_lload_n hx hb dX3_kingTargets_135 rfl (lv_at hl 1 rfl) ?_
        refine lv_lload hx hb dX3_kingTargets_136 (lv_at hl 2 rfl) ?_
        refine lv_ldc2 (v := (-1)) hx hb hown (hG _ wk_X3_89) dX3_kingTargets_138 ?_
        refine lv_lxor hx hb dX3_kingTargets_141 ?_
        refine lv_land hx hb dX3_kingTargets_142 ?_
        refine lv_lload_n hx hb dX3_kingTargets_143 rfl (lv_at hl 0 rfl) ?_
        refine lv_lor hx hb dX3_kingTargets_144 ?_
        exact reL hx hb hr hlocks dX3_kingTargets_145 (by unfold ktg; rw [if_neg c27])
      · skip
        refine lc_if_eq (tgt := 135) hx hb dX3_kingTargets_121 (by decide) (fun c121 => ?_) (fun c121 => ?_)
        · skip
          have hl2 : lv_has ls 10 [(3, .long (kc1 bd sd rt)), (1, .long (kst bd sd)), (5, .long (dgr bd sd))] := by
            exact lv_sub hl [0, 2, 3] rfl
          exact hj_135 ls (by have e9 : ([(3, .long (kc1 bd sd rt)), (1, .long (kst bd sd)), (5, .long (dgr bd sd))] : List (Nat × Value)) = [(3, .long (kc2 bd sd rt)), (1, .long (kst bd sd)), (5, .long (dgr bd sd))] := (by unfold kc2; first | rw [if_pos c121] | rw [if_neg c121]); rw [← e9]; exact hl2)
        · skip
          refine lv_lload_n hx hb dX3_kingTargets_124 rfl (lv_at hl 0 rfl) ?_
          refine lv_lload hx hb dX3_kingTargets_125 (lv_at hl 5 rfl) ?_
          refine lv_iconst (v := (nI 2)) hx hb dX3_kingTargets_127 (by decide) ?_
          refine lv_lushr (v := bsr (hom sd) (nI 2)) hx hb dX3_kingTargets_128 rfl ?_
          refine lv_ldc2 (v := (-1)) hx hb hown (hG _ wk_X3_89) dX3_kingTargets_129 ?_
          refine lv_lxor hx hb dX3_kingTargets_132 ?_
          refine lv_land hx hb dX3_kingTargets_133 ?_
          refine lv_lstore_n (lv' := [(3, .long ((kc1 bd sd rt) &&& ((bsr (hom sd) (nI 2)) ^^^ (-1)))), (0, .ref h1), (1, .long (kst bd sd)), (5, .long (dgr bd sd)), (7, .int (nI (56 * sd))), (8, .long (hom sd))]) hx hb dX3_kingTargets_134 rfl hl (by decide) rfl (fun ls hl => ?_)
          have hl2 : lv_has ls 10 [(3, .long ((kc1 bd sd rt) &&& ((bsr (hom sd) (nI 2)) ^^^ (-1)))), (1, .long (kst bd sd)), (5, .long (dgr bd sd))] := by
            exact lv_sub hl [0, 2, 3] rfl
          exact hj_135 ls (by have e9 : ([(3, .long ((kc1 bd sd rt) &&& ((bsr (hom sd) (nI 2)) ^^^ (-1)))), (1, .long (kst bd sd)), (5, .long (dgr bd sd))] : List (Nat × Value)) = [(3, .long (kc2 bd sd rt)), (1, .long (kst bd sd)), (5, .long (dgr bd sd))] := (by unfold kc2; first | rw [if_pos c121] | rw [if_neg c121]); rw [← e9]; exact hl2)
    · skip
      refine lc_if_eq (tgt := 110) hx hb dX3_kingTargets_96 (by decide) (fun c96 => ?_) (fun c96 => ?_)
      · skip
        have hl2 : lv_has ls 10 [(3, .long (cst bd sd rt)), (0, .ref h1), (1, .long (kst bd sd)), (5, .long (dgr bd sd)), (7, .int (nI (56 * sd))), (8, .long (hom sd))] := by
          exact lv_sub hl [3, 5, 4, 2, 1, 0] rfl
        exact hj_110 ls (by have e9 : ([(3, .long (cst bd sd rt)), (0, .ref h1), (1, .long (kst bd sd)), (5, .long (dgr bd sd)), (7, .int (nI (56 * sd))), (8, .long (hom sd))] : List (Nat × Value)) = [(3, .long (kc1 bd sd rt)), (0, .ref h1), (1, .long (kst bd sd)), (5, .long (dgr bd sd)), (7, .int (nI (56 * sd))), (8, .long (hom sd))] := (by unfold kc1; first | rw [if_pos c96] | rw [if_neg c96]); rw [← e9]; exact hl2)
      · skip
        refine lv_lload_n hx hb dX3_kingTargets_99 rfl (lv_at hl 3 rfl) ?_
        refine lv_lload hx hb dX3_kingTargets_100 (lv_at hl 0 rfl) ?_
        refine lv_iconst (v := (nI 2)) hx hb dX3_kingTargets_102 (by decide) ?_
        refine lv_lshl (v := bsl (hom sd) (nI 2)) hx hb dX3_kingTargets_103 rfl ?_
        refine lv_ldc2 (v := (-1)) hx hb hown (hG _ wk_X3_89) dX3_kingTargets_104 ?_
        refine lv_lxor hx hb dX3_kingTargets_107 ?_
        refine lv_land hx hb dX3_kingTargets_108 ?_
        refine lv_lstore_n (lv' := [(3, .long ((cst bd sd rt) &&& ((bsl (hom sd) (nI 2)) ^^^ (-1)))), (8, .long (hom sd)), (7, .int (nI (56 * sd))), (5, .long (dgr bd sd)), (1, .long (kst bd sd)), (0, .ref h1)]) hx hb dX3_kingTargets_109 rfl hl (by decide) rfl (fun ls hl => ?_)
        have hl2 : lv_has ls 10 [(3, .long ((cst bd sd rt) &&& ((bsl (hom sd) (nI 2)) ^^^ (-1)))), (0, .ref h1), (1, .long (kst bd sd)), (5, .long (dgr bd sd)), (7, .int (nI (56 * sd))), (8, .long (hom sd))] := by
          exact lv_sub hl [0, 5, 4, 3, 2, 1] rfl
        exact hj_110 ls (by have e9 : ([(3, .long ((cst bd sd rt) &&& ((bsl (hom sd) (nI 2)) ^^^ (-1)))), (0, .ref h1), (1, .long (kst bd sd)), (5, .long (dgr bd sd)), (7, .int (nI (56 * sd))), (8, .long (hom sd))] : List (Nat × Value)) = [(3, .long (kc1 bd sd rt)), (0, .ref h1), (1, .long (kst bd sd)), (5, .long (dgr bd sd)), (7, .int (nI (56 * sd))), (8, .long (hom sd))] := (by unfold kc1; first | rw [if_pos c96] | rw [if_neg c96]); rw [← e9]; exact hl2)
  · skip
    refine lv_lconst (v := 0) hx hb dX3_kingTargets_30 (by decide) ?_
    exact reL hx hb hr hlocks dX3_kingTargets_31 (by unfold ktg; rw [if_pos c27])
theorem dX3_targetsOf_0 : decode cX3_targetsOf 0 = .ok (.iload_n 1, 1) := by decide +kernel
theorem dX3_targetsOf_1 : decode cX3_targetsOf 1 = .ok (.invokestatic 109, 3) := by decide +kernel
theorem dX3_targetsOf_4 : decode cX3_targetsOf 4 = .ok (.lstore_n 2, 1) := by decide +kernel
theorem dX3_targetsOf_5 : decode cX3_targetsOf 5 = .ok (.aload_n 0, 1) := by decide +kernel
theorem dX3_targetsOf_6 : decode cX3_targetsOf 6 = .ok (.getfield 12, 3) := by decide +kernel
theorem dX3_targetsOf_9 : decode cX3_targetsOf 9 = .ok (.iload_n 1, 1) := by decide +kernel
theorem dX3_targetsOf_10 : decode cX3_targetsOf 10 = .ok (.invokevirtual 73, 3) := by decide +kernel
theorem dX3_targetsOf_13 : decode cX3_targetsOf 13 = .ok (.invokestatic 77, 3) := by decide +kernel
theorem dX3_targetsOf_16 : decode cX3_targetsOf 16 = .ok (.istore 4, 2) := by decide +kernel
theorem dX3_targetsOf_18 : decode cX3_targetsOf 18 = .ok (.iload 4, 2) := by decide +kernel
theorem dX3_targetsOf_20 : decode cX3_targetsOf 20 = .ok (.lookupswitch 60 #[(1, 36), (2, 46), (6, 55)], 36) := by decide +kernel
theorem dX3_targetsOf_56 : decode cX3_targetsOf 56 = .ok (.aload_n 0, 1) := by decide +kernel
theorem dX3_targetsOf_57 : decode cX3_targetsOf 57 = .ok (.lload_n 2, 1) := by decide +kernel
theorem dX3_targetsOf_58 : decode cX3_targetsOf 58 = .ok (.invokevirtual 112, 3) := by decide +kernel
theorem dX3_targetsOf_61 : decode cX3_targetsOf 61 = .ok (.lstore 5, 2) := by decide +kernel
theorem dX3_targetsOf_63 : decode cX3_targetsOf 63 = .ok (.goto 29, 3) := by decide +kernel
theorem dX3_targetsOf_66 : decode cX3_targetsOf 66 = .ok (.lload_n 2, 1) := by decide +kernel
theorem dX3_targetsOf_67 : decode cX3_targetsOf 67 = .ok (.invokestatic 101, 3) := by decide +kernel
theorem dX3_targetsOf_70 : decode cX3_targetsOf 70 = .ok (.lstore 5, 2) := by decide +kernel
theorem dX3_targetsOf_72 : decode cX3_targetsOf 72 = .ok (.goto 20, 3) := by decide +kernel
theorem dX3_targetsOf_75 : decode cX3_targetsOf 75 = .ok (.aload_n 0, 1) := by decide +kernel
theorem dX3_targetsOf_76 : decode cX3_targetsOf 76 = .ok (.invokevirtual 115, 3) := by decide +kernel
theorem dX3_targetsOf_79 : decode cX3_targetsOf 79 = .ok (.lreturn, 1) := by decide +kernel
theorem dX3_targetsOf_80 : decode cX3_targetsOf 80 = .ok (.iload 4, 2) := by decide +kernel
theorem dX3_targetsOf_82 : decode cX3_targetsOf 82 = .ok (.lload_n 2, 1) := by decide +kernel
theorem dX3_targetsOf_83 : decode cX3_targetsOf 83 = .ok (.aload_n 0, 1) := by decide +kernel
theorem dX3_targetsOf_84 : decode cX3_targetsOf 84 = .ok (.getfield 25, 3) := by decide +kernel
theorem dX3_targetsOf_87 : decode cX3_targetsOf 87 = .ok (.invokestatic 119, 3) := by decide +kernel
theorem dX3_targetsOf_90 : decode cX3_targetsOf 90 = .ok (.lstore 5, 2) := by decide +kernel
theorem dX3_targetsOf_92 : decode cX3_targetsOf 92 = .ok (.lload 5, 2) := by decide +kernel
theorem dX3_targetsOf_94 : decode cX3_targetsOf 94 = .ok (.aload_n 0, 1) := by decide +kernel
theorem dX3_targetsOf_95 : decode cX3_targetsOf 95 = .ok (.getfield 31, 3) := by decide +kernel
theorem dX3_targetsOf_98 : decode cX3_targetsOf 98 = .ok (.aload_n 0, 1) := by decide +kernel
theorem dX3_targetsOf_99 : decode cX3_targetsOf 99 = .ok (.getfield 18, 3) := by decide +kernel
theorem dX3_targetsOf_102 : decode cX3_targetsOf 102 = .ok (.ldc2_w 89, 3) := by decide +kernel
theorem dX3_targetsOf_105 : decode cX3_targetsOf 105 = .ok (.lxor, 1) := by decide +kernel
theorem dX3_targetsOf_106 : decode cX3_targetsOf 106 = .ok (.land, 1) := by decide +kernel
theorem dX3_targetsOf_107 : decode cX3_targetsOf 107 = .ok (.land, 1) := by decide +kernel
theorem dX3_targetsOf_108 : decode cX3_targetsOf 108 = .ok (.lstore 5, 2) := by decide +kernel
theorem dX3_targetsOf_110 : decode cX3_targetsOf 110 = .ok (.aload_n 0, 1) := by decide +kernel
theorem dX3_targetsOf_111 : decode cX3_targetsOf 111 = .ok (.getfield 34, 3) := by decide +kernel
theorem dX3_targetsOf_114 : decode cX3_targetsOf 114 = .ok (.lload_n 2, 1) := by decide +kernel
theorem dX3_targetsOf_115 : decode cX3_targetsOf 115 = .ok (.land, 1) := by decide +kernel
theorem dX3_targetsOf_116 : decode cX3_targetsOf 116 = .ok (.lconst 0, 1) := by decide +kernel
theorem dX3_targetsOf_117 : decode cX3_targetsOf 117 = .ok (.lcmp, 1) := by decide +kernel
theorem dX3_targetsOf_118 : decode cX3_targetsOf 118 = .ok (.ifCond .eq 13, 3) := by decide +kernel
theorem dX3_targetsOf_121 : decode cX3_targetsOf 121 = .ok (.lload 5, 2) := by decide +kernel
theorem dX3_targetsOf_123 : decode cX3_targetsOf 123 = .ok (.aload_n 0, 1) := by decide +kernel
theorem dX3_targetsOf_124 : decode cX3_targetsOf 124 = .ok (.lload_n 2, 1) := by decide +kernel
theorem dX3_targetsOf_125 : decode cX3_targetsOf 125 = .ok (.invokevirtual 123, 3) := by decide +kernel
theorem dX3_targetsOf_128 : decode cX3_targetsOf 128 = .ok (.land, 1) := by decide +kernel
theorem dX3_targetsOf_129 : decode cX3_targetsOf 129 = .ok (.lstore 5, 2) := by decide +kernel
theorem dX3_targetsOf_131 : decode cX3_targetsOf 131 = .ok (.iload 4, 2) := by decide +kernel
theorem dX3_targetsOf_133 : decode cX3_targetsOf 133 = .ok (.iconst 1, 1) := by decide +kernel
theorem dX3_targetsOf_134 : decode cX3_targetsOf 134 = .ok (.if_icmp .ne 14, 3) := by decide +kernel
theorem dX3_targetsOf_137 : decode cX3_targetsOf 137 = .ok (.lload 5, 2) := by decide +kernel
theorem dX3_targetsOf_139 : decode cX3_targetsOf 139 = .ok (.aload_n 0, 1) := by decide +kernel
theorem dX3_targetsOf_140 : decode cX3_targetsOf 140 = .ok (.lload_n 2, 1) := by decide +kernel
theorem dX3_targetsOf_141 : decode cX3_targetsOf 141 = .ok (.invokevirtual 126, 3) := by decide +kernel
theorem dX3_targetsOf_144 : decode cX3_targetsOf 144 = .ok (.lor, 1) := by decide +kernel
theorem dX3_targetsOf_145 : decode cX3_targetsOf 145 = .ok (.goto 5, 3) := by decide +kernel
theorem dX3_targetsOf_148 : decode cX3_targetsOf 148 = .ok (.lload 5, 2) := by decide +kernel
theorem dX3_targetsOf_150 : decode cX3_targetsOf 150 = .ok (.lreturn, 1) := by decide +kernel
theorem hd_X3_targetsOf : yX3_targetsOf.cls ≠ "java/lang/invoke/MethodHandle" ∧ yX3_targetsOf.cls ≠ "java/lang/invoke/VarHandle" ∧ (parseMethodDescriptor yX3_targetsOf.desc).map (fun d => d.parameters.length) = some 1 := by decide +kernel
set_option maxHeartbeats 4000000 in
set_option maxRecDepth 100000 in
/-- targetsOf -/
theorem c_X3_targetsOf (l : Launch) {D : va_G} {cI cJ : ClassId} {A : Nat → Prop} {h0 h1 h2 a0 a1 a2 a3 h3 a4 h4 a5 : Nat} {kn op : Int32} {ma : Int32} {pcs : Nat → Int32} {sqa : Nat → Int64} {mvs los : Nat → Int32} {lsz : Int32} {lfs : Nat → Int32} {asz : Int32} {afs : Nat → Int32} (bd : Nat → Nat) (hCP : CP pcs sqa bd) (sd rt ps : Nat) (hs2 : sd < 2) (hr16 : rt < 16) (hp65 : ps < 65) (f : Nat) (hf : f < 64) : Met l yX3_targetsOf (Cond.code yX3_targetsOf cX3_targetsOf 7 (some .long) :: wsL_law) (rK 3) (va_Pc [.ref h1, .int (nI f)] (IW D cI cJ A (cW cI cJ h0 h1 h2 a0 a1 a2 a3 h3 a4 h4 a5 kn op (ownS bd sd) (thrS bd sd) (fulS bd sd) (kngS bd sd) (covS bd sd) (pinS bd sd) (nI sd) (nI rt) (pI ps) ma pcs sqa mvs los lsz lfs asz afs))) (vp_Sl (fun r => r = tgt bd sd rt ps f)) 0 0 (fun _ => False) := by
  refine entM (by decide) (Nat.le_of_ble_eq_true rfl) ?_
  intro p e s m below meth c ls S0 hr hlocks hG hnm hB hl
  have hx := S0.1
  have hb := S0.2.1
  have hown := S0.2.2.2.1
  have hl : lv_has ls 7 [(0, .ref h1), (1, .int (nI f))] := hl
  obtain ⟨hP, hD, hK, hA, hE⟩ := hB
  have hS : va_S A s.heap s.heap [] := va_S.rf
  have hfb := (hCP.1 f hf).2
  have hkf := kd_lt hfb
  refine lv_iload_n hx hb dX3_targetsOf_0 rfl (lv_at hl 1 rfl) ?_
  refine roL (rnSN (host := RX4) (As := [.int (nI f)]) (rest := []) S0 (c_X4_bit l (nI f)) (nl_X3_109 hE.1) wt_X4_bit wn_X4 wc_X4_bit hd_X4_bit ⟨rfl, rfl, by decide, by decide⟩ True.blind (fun _ _ _ => trivial) hl.1 (Nat.le_of_ble_eq_true rfl) dX3_targetsOf_1 rfl ⟨by decide, by decide⟩) (fun r_1 hr_1 => ?_)
  subst hr_1
  refine lv_lstore_n (lv' := [(2, .long (bsl 1 (nI f))), (0, .ref h1), (1, .int (nI f))]) hx hb dX3_targetsOf_4 rfl hl (by decide) rfl (fun ls hl => ?_)
  refine lv_aload_n hx hb dX3_targetsOf_5 rfl (lv_at hl 1 rfl) ?_
  refine va_get (D := D) (ci := 2) (v := .ref h2) (C := RX3) (T := TX3) (N := 7) hx hb hG wu_X3 hown hK hP 1 rfl rfl 0 (by decide) (hG _ wf_X3_12) (fun _ h9 => h9) rfl dX3_targetsOf_6 ?_
  refine lv_iload_n hx hb dX3_targetsOf_9 rfl (lv_at hl 2 rfl) ?_
  refine roI (rnV (As := [.int (nI f)]) (rest := []) S0 (c_X2_pieceOn l bd hCP f (by omega)) wm_X3_73 wi_X2_pieceOn ws_X2_pieceOn wn_X2 wc_X2_pieceOn hd_X2_pieceOn ⟨rfl, rfl, by decide, by decide⟩ IW.blind (va_recv hK hP (ci := 1) (q0 := 2) rfl rfl) (IW.at hP hD hK hA hE hS) hl.1 (Nat.le_of_ble_eq_true rfl) dX3_targetsOf_10 rfl ⟨by decide, by decide⟩) (fun r_2 hr_2 => ?_)
  subst hr_2
  refine roI (rnSN (host := RX4) (As := [.int (nI (bd f))]) (rest := []) S0 (c_X4_typeOf l (bd f) (by omega)) (nl_X3_77 hE.1) wt_X4_typeOf wn_X4 wc_X4_typeOf hd_X4_typeOf ⟨rfl, rfl, by decide, by decide⟩ True.blind (fun _ _ _ => trivial) hl.1 (Nat.le_of_ble_eq_true rfl) dX3_targetsOf_13 rfl ⟨by decide, by decide⟩) (fun r_3 hr_3 => ?_)
  subst hr_3
  refine lv_istore (lv' := [(4, .int (nI (kd (bd f)))), (2, .long (bsl 1 (nI f))), (0, .ref h1), (1, .int (nI f))]) hx hb dX3_targetsOf_16 hl (by decide) rfl (fun ls hl => ?_)
  refine lv_iload hx hb dX3_targetsOf_18 (lv_at hl 0 rfl) ?_
  refine jnH (¬ kd (bd f) = 6) 92 7 [(5, .long (wys bd sd f)), (0, .ref h1), (2, .long (bsl 1 (nI f))), (4, .int (nI (kd (bd f))))] [] ?_ (fun hj_92 => ?_)
  · intro hp_92 ls hl
    refine lv_lload hx hb dX3_targetsOf_92 (lv_at hl 0 rfl) ?_
    refine lv_aload_n hx hb dX3_targetsOf_94 rfl (lv_at hl 1 rfl) ?_
    refine va_get (D := D) (ci := 2) (v := .long (covS bd sd)) (C := RX3) (T := TX3) (N := 7) hx hb hG wu_X3 hown hK hP 1 rfl rfl 5 (by decide) (hG _ wf_X3_31) (fun _ h9 => h9) rfl dX3_targetsOf_95 ?_
    refine lv_aload_n hx hb dX3_targetsOf_98 rfl (lv_at hl 1 rfl) ?_
    refine va_get (D := D) (ci := 2) (v := .long (ownS bd sd)) (C := RX3) (T := TX3) (N := 7) hx hb hG wu_X3 hown hK hP 1 rfl rfl 1 (by decide) (hG _ wf_X3_18) (fun _ h9 => h9) rfl dX3_targetsOf_99 ?_
    refine lv_ldc2 (v := (-1)) hx hb hown (hG _ wk_X3_89) dX3_targetsOf_102 ?_
    refine lv_lxor hx hb dX3_targetsOf_105 ?_
    refine lv_land hx hb dX3_targetsOf_106 ?_
    refine lv_land hx hb dX3_targetsOf_107 ?_
    refine W.top (y := .long (ww1 bd sd f)) (congrArg Value.long rfl) ?_
    refine lv_lstore (lv' := [(5, .long (ww1 bd sd f)), (0, .ref h1), (2, .long (bsl 1 (nI f))), (4, .int (nI (kd (bd f))))]) hx hb dX3_targetsOf_108 hl (by decide) rfl (fun ls hl => ?_)
    refine lv_aload_n hx hb dX3_targetsOf_110 rfl (lv_at hl 1 rfl) ?_
    refine va_get (D := D) (ci := 2) (v := .long (pinS bd sd)) (C := RX3) (T := TX3) (N := 7) hx hb hG wu_X3 hown hK hP 1 rfl rfl 6 (by decide) (hG _ wf_X3_34) (fun _ h9 => h9) rfl dX3_targetsOf_111 ?_
    refine lv_lload_n hx hb dX3_targetsOf_114 rfl (lv_at hl 2 rfl) ?_
    refine lv_land hx hb dX3_targetsOf_115 ?_
    refine lv_lconst (v := 0) hx hb dX3_targetsOf_116 (by decide) ?_
    refine W.lcmp hx hb dX3_targetsOf_117 ?_
    refine jnG 131 7 [(5, .long (ww2 bd sd f)), (0, .ref h1), (2, .long (bsl 1 (nI f))), (4, .int (nI (kd (bd f))))] [] ?_ (fun hj_131 => ?_)
    · intro ls hl
      refine lv_iload hx hb dX3_targetsOf_131 (lv_at hl 3 rfl) ?_
      refine lv_iconst (v := (nI 1)) hx hb dX3_targetsOf_133 (by decide) ?_
      refine ln_icmp_ne (tgt := 148) hx hb dX3_targetsOf_134 (by decide) (by omega) (by decide) (fun c134 => ?_) (fun c134 => ?_)
      · skip
        refine lv_lload hx hb dX3_targetsOf_148 (lv_at hl 0 rfl) ?_
        exact reL hx hb hr hlocks dX3_targetsOf_150 (by unfold tgt; rw [if_neg hp_92]; first | rw [if_pos c134] | rw [if_neg c134])
      · skip
        refine lv_lload hx hb dX3_targetsOf_137 (lv_at hl 0 rfl) ?_
        refine lv_aload_n hx hb dX3_targetsOf_139 rfl (lv_at hl 1 rfl) ?_
        refine lv_lload_n hx hb dX3_targetsOf_140 rfl (lv_at hl 2 rfl) ?_
        refine roL (rnV (As := [.long (bsl 1 (nI f))]) (rest := [.long (ww2 bd sd f)]) S0 (c_X3_passingTarget l bd hCP sd rt ps hs2 hr16 hp65 (bsl 1 (nI f))) wm_X3_126 wi_X3_passingTarget ws_X3_passingTarget wn_X3 wc_X3_passingTarget hd_X3_passingTarget ⟨rfl, rfl, by decide, by decide⟩ IW.blind (va_recv hK hP (ci := 2) (q0 := 1) rfl rfl) (IW.at hP hD hK hA hE hS) hl.1 (Nat.le_of_ble_eq_true rfl) dX3_targetsOf_141 rfl ⟨by decide, by decide⟩) (fun r_4 hr_4 => ?_)
        subst hr_4
        refine lv_lor hx hb dX3_targetsOf_144 ?_
        refine lv_goto (tgt := 150) hx hb dX3_targetsOf_145 (by decide) ?_
        exact reL hx hb hr hlocks dX3_targetsOf_150 (by unfold tgt; rw [if_neg hp_92]; first | rw [if_pos c134] | rw [if_neg c134])
    · skip
      refine lc_if_eq (tgt := 131) hx hb dX3_targetsOf_118 (by decide) (fun c118 => ?_) (fun c118 => ?_)
      · skip
        have hl2 : lv_has ls 7 [(5, .long (ww1 bd sd f)), (0, .ref h1), (2, .long (bsl 1 (nI f))), (4, .int (nI (kd (bd f))))] := by
          exact lv_sub hl [0, 1, 2, 3] rfl
        exact hj_131 ls (by have e9 : ([(5, .long (ww1 bd sd f)), (0, .ref h1), (2, .long (bsl 1 (nI f))), (4, .int (nI (kd (bd f))))] : List (Nat × Value)) = [(5, .long (ww2 bd sd f)), (0, .ref h1), (2, .long (bsl 1 (nI f))), (4, .int (nI (kd (bd f))))] := (by unfold ww2; first | rw [if_pos c118] | rw [if_neg c118]); rw [← e9]; exact hl2)
      · skip
        refine lv_lload hx hb dX3_targetsOf_121 (lv_at hl 0 rfl) ?_
        refine lv_aload_n hx hb dX3_targetsOf_123 rfl (lv_at hl 1 rfl) ?_
        refine lv_lload_n hx hb dX3_targetsOf_124 rfl (lv_at hl 2 rfl) ?_
        refine roL (rnV (As := [.long (bsl 1 (nI f))]) (rest := [.long (ww1 bd sd f)]) S0 (c_X3_pinLine l bd hCP sd rt ps hs2 hr16 hp65 (bsl 1 (nI f))) wm_X3_123 wi_X3_pinLine ws_X3_pinLine wn_X3 wc_X3_pinLine hd_X3_pinLine ⟨rfl, rfl, by decide, by decide⟩ IW.blind (va_recv hK hP (ci := 2) (q0 := 1) rfl rfl) (IW.at hP hD hK hA hE hS) hl.1 (Nat.le_of_ble_eq_true rfl) dX3_targetsOf_125 rfl ⟨by decide, by decide⟩) (fun r_5 hr_5 => ?_)
        subst hr_5
        refine lv_land hx hb dX3_targetsOf_128 ?_
        refine lv_lstore (lv' := [(5, .long ((ww1 bd sd f) &&& (pli bd sd (bsl 1 (nI f))))), (0, .ref h1), (2, .long (bsl 1 (nI f))), (4, .int (nI (kd (bd f))))]) hx hb dX3_targetsOf_129 hl (by decide) rfl (fun ls hl => ?_)
        have hl2 : lv_has ls 7 [(5, .long ((ww1 bd sd f) &&& (pli bd sd (bsl 1 (nI f))))), (0, .ref h1), (2, .long (bsl 1 (nI f))), (4, .int (nI (kd (bd f))))] := by
          exact lv_sub hl [0, 1, 2, 3] rfl
        exact hj_131 ls (by have e9 : ([(5, .long ((ww1 bd sd f) &&& (pli bd sd (bsl 1 (nI f))))), (0, .ref h1), (2, .long (bsl 1 (nI f))), (4, .int (nI (kd (bd f))))] : List (Nat × Value)) = [(5, .long (ww2 bd sd f)), (0, .ref h1), (2, .long (bsl 1 (nI f))), (4, .int (nI (kd (bd f))))] := (by unfold ww2; first | rw [if_pos c118] | rw [if_neg c118]); rw [← e9]; exact hl2)
  · skip
    by_cases hs_20_1 : kd (bd f) = 1
    · skip
      refine lv_lookup (off := 36) (tgt := 56) hx hb dX3_targetsOf_20 (by decide) (by rw [hs_20_1]; decide) (by decide) ?_
      refine lv_aload_n hx hb dX3_targetsOf_56 rfl (lv_at hl 2 rfl) ?_
      refine lv_lload_n hx hb dX3_targetsOf_57 rfl (lv_at hl 1 rfl) ?_
      refine roL (rnV (As := [.long (bsl 1 (nI f))]) (rest := []) S0 (c_X3_pawnWays l bd hCP sd rt ps hs2 hr16 hp65 (bsl 1 (nI f))) wm_X3_112 wi_X3_pawnWays ws_X3_pawnWays wn_X3 wc_X3_pawnWays hd_X3_pawnWays ⟨rfl, rfl, by decide, by decide⟩ IW.blind (va_recv hK hP (ci := 2) (q0 := 1) rfl rfl) (IW.at hP hD hK hA hE hS) hl.1 (Nat.le_of_ble_eq_true rfl) dX3_targetsOf_58 rfl ⟨by decide, by decide⟩) (fun r_6 hr_6 => ?_)
      subst hr_6
      refine W.top (y := .long (wys bd sd f)) (congrArg Value.long (by unfold wys; rw [if_pos hs_20_1])) ?_
      refine lv_lstore (lv' := [(5, .long (wys bd sd f)), (4, .int (nI (kd (bd f)))), (2, .long (bsl 1 (nI f))), (0, .ref h1), (1, .int (nI f))]) hx hb dX3_targetsOf_61 hl (by decide) rfl (fun ls hl => ?_)
      refine lv_goto (tgt := 92) hx hb dX3_targetsOf_63 (by decide) ?_
      exact hj_92 (by omega) ls (lv_sub hl [0, 3, 2, 1] rfl)
    by_cases hs_20_2 : kd (bd f) = 2
    · skip
      refine lv_lookup (off := 46) (tgt := 66) hx hb dX3_targetsOf_20 (by decide) (by rw [hs_20_2]; decide) (by decide) ?_
      refine lv_lload_n hx hb dX3_targetsOf_66 rfl (lv_at hl 1 rfl) ?_
      refine roL (rnS (As := [.long (bsl 1 (nI f))]) (rest := []) S0 (c_X0_ofKnights l (bsl 1 (nI f))) wm_X3_101 wt_X0_ofKnights wn_X0 wc_X0_ofKnights hd_X0_ofKnights ⟨rfl, rfl, by decide, by decide⟩ True.blind (fun _ _ _ => trivial) hl.1 (Nat.le_of_ble_eq_true rfl) dX3_targetsOf_67 rfl ⟨by decide, by decide⟩) (fun r_7 hr_7 => ?_)
      subst hr_7
      refine W.top (y := .long (wys bd sd f)) (congrArg Value.long (by unfold wys; rw [if_neg hs_20_1, if_pos hs_20_2])) ?_
      refine lv_lstore (lv' := [(5, .long (wys bd sd f)), (4, .int (nI (kd (bd f)))), (2, .long (bsl 1 (nI f))), (0, .ref h1), (1, .int (nI f))]) hx hb dX3_targetsOf_70 hl (by decide) rfl (fun ls hl => ?_)
      refine lv_goto (tgt := 92) hx hb dX3_targetsOf_72 (by decide) ?_
      exact hj_92 (by omega) ls (lv_sub hl [0, 3, 2, 1] rfl)
    by_cases hs_20_6 : kd (bd f) = 6
    · skip
      refine lv_lookup (off := 55) (tgt := 75) hx hb dX3_targetsOf_20 (by decide) (by rw [hs_20_6]; decide) (by decide) ?_
      refine lv_aload_n hx hb dX3_targetsOf_75 rfl (lv_at hl 2 rfl) ?_
      refine roL (rnV (As := []) (rest := []) S0 (c_X3_kingTargets l bd hCP sd rt ps hs2 hr16 hp65 ) wm_X3_115 wi_X3_kingTargets ws_X3_kingTargets wn_X3 wc_X3_kingTargets hd_X3_kingTargets ⟨rfl, rfl, by decide, by decide⟩ IW.blind (va_recv hK hP (ci := 2) (q0 := 1) rfl rfl) (IW.at hP hD hK hA hE hS) hl.1 (Nat.le_of_ble_eq_true rfl) dX3_targetsOf_76 rfl ⟨by decide, by decide⟩) (fun r_8 hr_8 => ?_)
      subst hr_8
      exact reL hx hb hr hlocks dX3_targetsOf_79 (by unfold tgt; rw [if_pos hs_20_6])
    refine lv_lookup (off := 60) (tgt := 80) hx hb dX3_targetsOf_20 (by decide) (by rw [nI_toInt (by omega)]; simp only [Op.lookupswitch.offset_cons, Op.lookupswitch.offset_nil]; rw [if_neg (by omega), if_neg (by omega), if_neg (by omega)]) (by decide) ?_
    refine lv_iload hx hb dX3_targetsOf_80 (lv_at hl 0 rfl) ?_
    refine lv_lload_n hx hb dX3_targetsOf_82 rfl (lv_at hl 1 rfl) ?_
    refine lv_aload_n hx hb dX3_targetsOf_83 rfl (lv_at hl 2 rfl) ?_
    refine va_get (D := D) (ci := 2) (v := .long (fulS bd sd)) (C := RX3) (T := TX3) (N := 7) hx hb hG wu_X3 hown hK hP 1 rfl rfl 3 (by decide) (hG _ wf_X3_25) (fun _ h9 => h9) rfl dX3_targetsOf_84 ?_
    refine roL (rnS (As := [.int (nI (kd (bd f))), .long (bsl 1 (nI f)), .long (fulS bd sd)]) (rest := []) S0 (c_X0_slide l (kd (bd f)) (by omega) (bsl 1 (nI f)) (fulS bd sd)) wm_X3_119 wt_X0_slide wn_X0 wc_X0_slide hd_X0_slide ⟨rfl, rfl, by decide, by decide⟩ EV.blind (EV.at hE hS) hl.1 (Nat.le_of_ble_eq_true rfl) dX3_targetsOf_87 rfl ⟨by decide, by decide⟩) (fun r_9 hr_9 => ?_)
    subst hr_9
    refine W.top (y := .long (wys bd sd f)) (congrArg Value.long (by unfold wys; rw [if_neg hs_20_1, if_neg hs_20_2])) ?_
    refine lv_lstore (lv' := [(5, .long (wys bd sd f)), (4, .int (nI (kd (bd f)))), (2, .long (bsl 1 (nI f))), (0, .ref h1), (1, .int (nI f))]) hx hb dX3_targetsOf_90 hl (by decide) rfl (fun ls hl => ?_)
    exact hj_92 (by omega) ls (lv_sub hl [0, 3, 2, 1] rfl)

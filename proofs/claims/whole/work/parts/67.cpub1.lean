theorem dX2_empty_0 : decode cX2_empty 0 = .ok (.iconst 0, 1) := by decide +kernel
theorem dX2_empty_1 : decode cX2_empty 1 = .ok (.istore_n 1, 1) := by decide +kernel
theorem dX2_empty_2 : decode cX2_empty 2 = .ok (.iload_n 1, 1) := by decide +kernel
theorem dX2_empty_3 : decode cX2_empty 3 = .ok (.bipush 64, 2) := by decide +kernel
theorem dX2_empty_5 : decode cX2_empty 5 = .ok (.if_icmp .ge 15, 3) := by decide +kernel
theorem dX2_empty_8 : decode cX2_empty 8 = .ok (.aload_n 0, 1) := by decide +kernel
theorem dX2_empty_9 : decode cX2_empty 9 = .ok (.iload_n 1, 1) := by decide +kernel
theorem dX2_empty_10 : decode cX2_empty 10 = .ok (.iconst 0, 1) := by decide +kernel
theorem dX2_empty_11 : decode cX2_empty 11 = .ok (.invokevirtual 40, 3) := by decide +kernel
theorem dX2_empty_14 : decode cX2_empty 14 = .ok (.iinc 1 1, 3) := by decide +kernel
theorem dX2_empty_17 : decode cX2_empty 17 = .ok (.goto (-15), 3) := by decide +kernel
theorem dX2_empty_20 : decode cX2_empty 20 = .ok (.aload_n 0, 1) := by decide +kernel
theorem dX2_empty_21 : decode cX2_empty 21 = .ok (.iconst 0, 1) := by decide +kernel
theorem dX2_empty_22 : decode cX2_empty 22 = .ok (.putfield 21, 3) := by decide +kernel
theorem dX2_empty_25 : decode cX2_empty 25 = .ok (.aload_n 0, 1) := by decide +kernel
theorem dX2_empty_26 : decode cX2_empty 26 = .ok (.iconst 0, 1) := by decide +kernel
theorem dX2_empty_27 : decode cX2_empty 27 = .ok (.putfield 25, 3) := by decide +kernel
theorem dX2_empty_30 : decode cX2_empty 30 = .ok (.aload_n 0, 1) := by decide +kernel
theorem dX2_empty_31 : decode cX2_empty 31 = .ok (.iconst (-1), 1) := by decide +kernel
theorem dX2_empty_32 : decode cX2_empty 32 = .ok (.putfield 28, 3) := by decide +kernel
theorem dX2_empty_35 : decode cX2_empty 35 = .ok (.return_, 1) := by decide +kernel
theorem hd_X2_empty : yX2_empty.cls ≠ "java/lang/invoke/MethodHandle" ∧ yX2_empty.cls ≠ "java/lang/invoke/VarHandle" ∧ (parseMethodDescriptor yX2_empty.desc).map (fun d => d.parameters.length) = some 0 := by decide +kernel
set_option maxHeartbeats 4000000 in
set_option maxRecDepth 100000 in
/-- empty -/
theorem c_X2_empty (l : Launch) {D : va_G} {cI cJ : ClassId} {A : Nat → Prop} {h0 h1 h2 a0 a1 a2 a3 h3 a4 h4 a5 : Nat} {kn op : Int32} {ow tr fu kg co pn : Int64} {si ri pa ma : Int32} {pcs : Nat → Int32} {sqa : Nat → Int64} {mvs los : Nat → Int32} {lsz : Int32} {lfs : Nat → Int32} {asz : Int32} {afs : Nat → Int32} (bd : Nat → Nat) (hCP : CP pcs sqa bd) : Met l yX2_empty (Cond.code yX2_empty cX2_empty 2 none :: wsL_law) (rK 2) (va_Pc [.ref h2] (IW D cI cJ A (cW cI cJ h0 h1 h2 a0 a1 a2 a3 h3 a4 h4 a5 kn op ow tr fu kg co pn si ri pa ma pcs sqa mvs los lsz lfs asz afs))) (va_Qv (fun u => CP u.1 u.2 (fun _ => 0)) (fun (u : (Nat → Int32) × (Nat → Int64)) t9 => IW D cI cJ A (cW cI cJ h0 h1 h2 a0 a1 a2 a3 h3 a4 h4 a5 kn op ow tr fu kg co pn (nI 0) (nI 0) (-1) ma u.1 u.2 mvs los lsz lfs asz afs) t9) A) 0 0 A := by
  refine entM (by decide) (Nat.le_of_ble_eq_true rfl) ?_
  intro p e s m below meth c ls S0 hr hlocks hG hnm hB hl
  have hx := S0.1
  have hb := S0.2.1
  have hown := S0.2.2.2.1
  have hl : lv_has ls 2 [(0, .ref h2)] := hl
  obtain ⟨hP, hD, hK, hA, hE⟩ := hB
  have hS : va_S A s.heap s.heap [] := va_S.rf
  refine lv_iconst (v := (nI 0)) hx hb dX2_empty_0 (by decide) ?_
  refine lv_istore_n (lv' := [(1, .int (nI 0)), (0, .ref h2)]) hx hb dX2_empty_1 rfl hl (by decide) rfl (fun ls hl => ?_)
  refine lpW (σ := (Nat) × (Nat → Int32) × (Nat → Int64)) 2 2 [] (fun x9 => [(0, .ref h2), (1, .int (nI x9.1))]) (fun x9 => cW cI cJ h0 h1 h2 a0 a1 a2 a3 h3 a4 h4 a5 kn op ow tr fu kg co pn si ri pa ma x9.2.1 x9.2.2 mvs los lsz lfs asz afs) (fun x9 => x9.1 ≤ 64 ∧ CP x9.2.1 x9.2.2 (emN bd x9.1)) (fun x9 => 64 - x9.1) (0, pcs, sqa) ⟨Nat.zero_le _, hCP⟩ (lv_sub hl [1, 0] rfl) hP hD hS ?_
  clear hP hD hS hl ls
  rintro ⟨i, p9, s9⟩ H locs hI hP hD hS ih_2 ls hl
  try dsimp only at hI ih_2 hl hP hD
  obtain ⟨hi, hC⟩ := hI
  refine lv_iload_n hx hb dX2_empty_2 rfl (lv_at hl 1 rfl) ?_
  refine lv_bipush (v := (nI 64)) hx hb dX2_empty_3 (by decide) ?_
  refine ln_icmp_ge (tgt := 20) hx hb dX2_empty_5 (by decide) (by omega) (by decide) (fun c5 => ?_) (fun c5 => ?_)
  · skip
    refine lv_aload_n hx hb dX2_empty_20 rfl (lv_at hl 0 rfl) ?_
    refine lv_iconst (v := (nI 0)) hx hb dX2_empty_21 (by decide) ?_
    refine va_put (D := D) (ci := 1) (v := .int (nI 0)) (ty := .int) (C := RX2) (T := TX2) (N := 8) hx hb hG wu_X2 tyX2 tyX2_ok nmX2 hown hK hP hD hS 2 rfl rfl 2 (by decide) (hG _ wf_X2_21) (fun _ h9 => h9) rfl (by decide +kernel) rfl rfl (Nat.le_of_ble_eq_true rfl) dX2_empty_22 (fun H locs hP hD hS => ?_)
    have hP : va_P D classes (cW cI cJ h0 h1 h2 a0 a1 a2 a3 h3 a4 h4 a5 kn op ow tr fu kg co pn (nI 0) ri pa ma p9 s9 mvs los lsz lfs asz afs) H := hP
    have hD : va_D A (cW cI cJ h0 h1 h2 a0 a1 a2 a3 h3 a4 h4 a5 kn op ow tr fu kg co pn (nI 0) ri pa ma p9 s9 mvs los lsz lfs asz afs) := hD
    refine lv_aload_n hx hb dX2_empty_25 rfl (lv_at hl 0 rfl) ?_
    refine lv_iconst (v := (nI 0)) hx hb dX2_empty_26 (by decide) ?_
    refine va_put (D := D) (ci := 1) (v := .int (nI 0)) (ty := .int) (C := RX2) (T := TX2) (N := 8) hx hb hG wu_X2 tyX2 tyX2_ok nmX2 hown hK hP hD hS 2 rfl rfl 3 (by decide) (hG _ wf_X2_25) (fun _ h9 => h9) rfl (by decide +kernel) rfl rfl (Nat.le_of_ble_eq_true rfl) dX2_empty_27 (fun H locs hP hD hS => ?_)
    have hP : va_P D classes (cW cI cJ h0 h1 h2 a0 a1 a2 a3 h3 a4 h4 a5 kn op ow tr fu kg co pn (nI 0) (nI 0) pa ma p9 s9 mvs los lsz lfs asz afs) H := hP
    have hD : va_D A (cW cI cJ h0 h1 h2 a0 a1 a2 a3 h3 a4 h4 a5 kn op ow tr fu kg co pn (nI 0) (nI 0) pa ma p9 s9 mvs los lsz lfs asz afs) := hD
    refine lv_aload_n hx hb dX2_empty_30 rfl (lv_at hl 0 rfl) ?_
    refine lv_iconst (v := (-1)) hx hb dX2_empty_31 (by decide) ?_
    refine va_put (D := D) (ci := 1) (v := .int (-1)) (ty := .int) (C := RX2) (T := TX2) (N := 8) hx hb hG wu_X2 tyX2 tyX2_ok nmX2 hown hK hP hD hS 2 rfl rfl 4 (by decide) (hG _ wf_X2_28) (fun _ h9 => h9) rfl (by decide +kernel) rfl rfl (Nat.le_of_ble_eq_true rfl) dX2_empty_32 (fun H locs hP hD hS => ?_)
    have hP : va_P D classes (cW cI cJ h0 h1 h2 a0 a1 a2 a3 h3 a4 h4 a5 kn op ow tr fu kg co pn (nI 0) (nI 0) (-1) ma p9 s9 mvs los lsz lfs asz afs) H := hP
    have hD : va_D A (cW cI cJ h0 h1 h2 a0 a1 a2 a3 h3 a4 h4 a5 kn op ow tr fu kg co pn (nI 0) (nI 0) (-1) ma p9 s9 mvs los lsz lfs asz afs) := hD
    exact weV ((p9, s9)) hx hb hr hlocks dX2_empty_35 (CP_congr (fun q hq => emN_at i q (by omega)) hC) hP hD hK hA hE hS
  · skip
    refine lv_aload_n hx hb dX2_empty_8 rfl (lv_at hl 0 rfl) ?_
    refine lv_iload_n hx hb dX2_empty_9 rfl (lv_at hl 1 rfl) ?_
    refine lv_iconst (v := (nI 0)) hx hb dX2_empty_10 (by decide) ?_
    refine chV (rnV (As := [.int (nI i), .int (nI 0)]) (rest := []) S0 (c_X2_set l (emN bd i) hC i 0 (by omega) (by omega)) wm_X2_40 wi_X2_set ws_X2_set wn_X2 wc_X2_set hd_X2_set ⟨rfl, rfl, by decide, by decide⟩ IW.blind (va_recv hK hP (ci := 1) (q0 := 2) rfl rfl) (IW.at hP hD hK hA hE hS) hl.1 (Nat.le_of_ble_eq_true rfl) dX2_empty_11 rfl ⟨by decide, by decide⟩) hS (fun u1 H locs hu hP hD hS => ?_)
    have hC1 := hu
    have hP : va_P D classes (cW cI cJ h0 h1 h2 a0 a1 a2 a3 h3 a4 h4 a5 kn op ow tr fu kg co pn si ri pa ma u1.1 u1.2 mvs los lsz lfs asz afs) H := hP
    have hD : va_D A (cW cI cJ h0 h1 h2 a0 a1 a2 a3 h3 a4 h4 a5 kn op ow tr fu kg co pn si ri pa ma u1.1 u1.2 mvs los lsz lfs asz afs) := hD
    refine lv_iinc (v := (nI (i + 1))) (lv' := [(1, .int (nI (i + 1))), (0, .ref h2)]) hx hb dX2_empty_14 hl (k := 1) rfl (show nI i + Int32.ofInt 1 = nI (i + 1) from nI_add _ 1) (by decide) rfl (fun ls hl => ?_)
    refine lv_goto (tgt := 2) hx hb dX2_empty_17 (by decide) ?_
    exact ih_2 ((i + 1), u1.1, u1.2) _ _ ⟨by omega, hC1⟩ (by (try dsimp only); omega) hP hD hS ls (lv_sub hl [1, 0] rfl)
theorem dX2_layOut_0 : decode cX2_layOut 0 = .ok (.aload_n 0, 1) := by decide +kernel
theorem dX2_layOut_1 : decode cX2_layOut 1 = .ok (.invokevirtual 44, 3) := by decide +kernel
theorem dX2_layOut_4 : decode cX2_layOut 4 = .ok (.iconst 0, 1) := by decide +kernel
theorem dX2_layOut_5 : decode cX2_layOut 5 = .ok (.istore_n 1, 1) := by decide +kernel
theorem dX2_layOut_6 : decode cX2_layOut 6 = .ok (.iload_n 1, 1) := by decide +kernel
theorem dX2_layOut_7 : decode cX2_layOut 7 = .ok (.getstatic 47, 3) := by decide +kernel
theorem dX2_layOut_10 : decode cX2_layOut 10 = .ok (.arraylength, 1) := by decide +kernel
theorem dX2_layOut_11 : decode cX2_layOut 11 = .ok (.if_icmp .ge 54, 3) := by decide +kernel
theorem dX2_layOut_14 : decode cX2_layOut 14 = .ok (.aload_n 0, 1) := by decide +kernel
theorem dX2_layOut_15 : decode cX2_layOut 15 = .ok (.iload_n 1, 1) := by decide +kernel
theorem dX2_layOut_16 : decode cX2_layOut 16 = .ok (.getstatic 47, 3) := by decide +kernel
theorem dX2_layOut_19 : decode cX2_layOut 19 = .ok (.iload_n 1, 1) := by decide +kernel
theorem dX2_layOut_20 : decode cX2_layOut 20 = .ok (.iaload, 1) := by decide +kernel
theorem dX2_layOut_21 : decode cX2_layOut 21 = .ok (.invokevirtual 40, 3) := by decide +kernel
theorem dX2_layOut_24 : decode cX2_layOut 24 = .ok (.aload_n 0, 1) := by decide +kernel
theorem dX2_layOut_25 : decode cX2_layOut 25 = .ok (.bipush 8, 2) := by decide +kernel
theorem dX2_layOut_27 : decode cX2_layOut 27 = .ok (.iload_n 1, 1) := by decide +kernel
theorem dX2_layOut_28 : decode cX2_layOut 28 = .ok (.iadd, 1) := by decide +kernel
theorem dX2_layOut_29 : decode cX2_layOut 29 = .ok (.iconst 1, 1) := by decide +kernel
theorem dX2_layOut_30 : decode cX2_layOut 30 = .ok (.invokevirtual 40, 3) := by decide +kernel
theorem dX2_layOut_33 : decode cX2_layOut 33 = .ok (.aload_n 0, 1) := by decide +kernel
theorem dX2_layOut_34 : decode cX2_layOut 34 = .ok (.bipush 48, 2) := by decide +kernel
theorem dX2_layOut_36 : decode cX2_layOut 36 = .ok (.iload_n 1, 1) := by decide +kernel
theorem dX2_layOut_37 : decode cX2_layOut 37 = .ok (.iadd, 1) := by decide +kernel
theorem dX2_layOut_38 : decode cX2_layOut 38 = .ok (.bipush 7, 2) := by decide +kernel
theorem dX2_layOut_40 : decode cX2_layOut 40 = .ok (.invokevirtual 40, 3) := by decide +kernel
theorem dX2_layOut_43 : decode cX2_layOut 43 = .ok (.aload_n 0, 1) := by decide +kernel
theorem dX2_layOut_44 : decode cX2_layOut 44 = .ok (.bipush 56, 2) := by decide +kernel
theorem dX2_layOut_46 : decode cX2_layOut 46 = .ok (.iload_n 1, 1) := by decide +kernel
theorem dX2_layOut_47 : decode cX2_layOut 47 = .ok (.iadd, 1) := by decide +kernel
theorem dX2_layOut_48 : decode cX2_layOut 48 = .ok (.bipush 6, 2) := by decide +kernel
theorem dX2_layOut_50 : decode cX2_layOut 50 = .ok (.getstatic 47, 3) := by decide +kernel
theorem dX2_layOut_53 : decode cX2_layOut 53 = .ok (.iload_n 1, 1) := by decide +kernel
theorem dX2_layOut_54 : decode cX2_layOut 54 = .ok (.iaload, 1) := by decide +kernel
theorem dX2_layOut_55 : decode cX2_layOut 55 = .ok (.iadd, 1) := by decide +kernel
theorem dX2_layOut_56 : decode cX2_layOut 56 = .ok (.invokevirtual 40, 3) := by decide +kernel
theorem dX2_layOut_59 : decode cX2_layOut 59 = .ok (.iinc 1 1, 3) := by decide +kernel
theorem dX2_layOut_62 : decode cX2_layOut 62 = .ok (.goto (-56), 3) := by decide +kernel
theorem dX2_layOut_65 : decode cX2_layOut 65 = .ok (.aload_n 0, 1) := by decide +kernel
theorem dX2_layOut_66 : decode cX2_layOut 66 = .ok (.bipush 15, 2) := by decide +kernel
theorem dX2_layOut_68 : decode cX2_layOut 68 = .ok (.putfield 25, 3) := by decide +kernel
theorem dX2_layOut_71 : decode cX2_layOut 71 = .ok (.return_, 1) := by decide +kernel
theorem hd_X2_layOut : yX2_layOut.cls ≠ "java/lang/invoke/MethodHandle" ∧ yX2_layOut.cls ≠ "java/lang/invoke/VarHandle" ∧ (parseMethodDescriptor yX2_layOut.desc).map (fun d => d.parameters.length) = some 0 := by decide +kernel
set_option maxHeartbeats 4000000 in
set_option maxRecDepth 100000 in
/-- layOut -/
theorem c_X2_layOut (l : Launch) {D : va_G} {cI cJ : ClassId} {A : Nat → Prop} {h0 h1 h2 a0 a1 a2 a3 h3 a4 h4 a5 : Nat} {kn op : Int32} {ow tr fu kg co pn : Int64} {si ri pa ma : Int32} {pcs : Nat → Int32} {sqa : Nat → Int64} {mvs los : Nat → Int32} {lsz : Int32} {lfs : Nat → Int32} {asz : Int32} {afs : Nat → Int32} (bd : Nat → Nat) (hCP : CP pcs sqa bd) : Met l yX2_layOut (Cond.code yX2_layOut cX2_layOut 2 none :: wsL_law) (rK 3) (va_Pc [.ref h2] (IW D cI cJ A (cW cI cJ h0 h1 h2 a0 a1 a2 a3 h3 a4 h4 a5 kn op ow tr fu kg co pn si ri pa ma pcs sqa mvs los lsz lfs asz afs))) (va_Qv (fun u => CP u.1 u.2 bgn) (fun (u : (Nat → Int32) × (Nat → Int64)) t9 => IW D cI cJ A (cW cI cJ h0 h1 h2 a0 a1 a2 a3 h3 a4 h4 a5 kn op ow tr fu kg co pn (nI 0) (nI 15) (-1) ma u.1 u.2 mvs los lsz lfs asz afs) t9) A) 0 0 A := by
  refine entM (by decide) (Nat.le_of_ble_eq_true rfl) ?_
  intro p e s m below meth c ls S0 hr hlocks hG hnm hB hl
  have hx := S0.1
  have hb := S0.2.1
  have hown := S0.2.2.2.1
  have hl : lv_has ls 2 [(0, .ref h2)] := hl
  obtain ⟨hP, hD, hK, hA, hE⟩ := hB
  have hS : va_S A s.heap s.heap [] := va_S.rf
  obtain ⟨tF, hZ_tF, hT_tF⟩ := hE.2.2.2.1
  refine lv_aload_n hx hb dX2_layOut_0 rfl (lv_at hl 0 rfl) ?_
  refine chV (rnV (As := []) (rest := []) S0 (c_X2_empty l bd hCP) wm_X2_44 wi_X2_empty ws_X2_empty wn_X2 wc_X2_empty hd_X2_empty ⟨rfl, rfl, by decide, by decide⟩ IW.blind (va_recv hK hP (ci := 1) (q0 := 2) rfl rfl) (IW.at hP hD hK hA hE hS) hl.1 (Nat.le_of_ble_eq_true rfl) dX2_layOut_1 rfl ⟨by decide, by decide⟩) hS (fun u0 H locs hu hP hD hS => ?_)
  have hC0 := hu
  have hP : va_P D classes (cW cI cJ h0 h1 h2 a0 a1 a2 a3 h3 a4 h4 a5 kn op ow tr fu kg co pn (nI 0) (nI 0) (-1) ma u0.1 u0.2 mvs los lsz lfs asz afs) H := hP
  have hD : va_D A (cW cI cJ h0 h1 h2 a0 a1 a2 a3 h3 a4 h4 a5 kn op ow tr fu kg co pn (nI 0) (nI 0) (-1) ma u0.1 u0.2 mvs los lsz lfs asz afs) := hD
  refine lv_iconst (v := (nI 0)) hx hb dX2_layOut_4 (by decide) ?_
  refine lv_istore_n (lv' := [(1, .int (nI 0)), (0, .ref h2)]) hx hb dX2_layOut_5 rfl hl (by decide) rfl (fun ls hl => ?_)
  refine lpW (σ := (Nat) × (Nat → Int32) × (Nat → Int64)) 6 2 [] (fun x9 => [(0, .ref h2), (1, .int (nI x9.1))]) (fun x9 => cW cI cJ h0 h1 h2 a0 a1 a2 a3 h3 a4 h4 a5 kn op ow tr fu kg co pn (nI 0) (nI 0) (-1) ma x9.2.1 x9.2.2 mvs los lsz lfs asz afs) (fun x9 => x9.1 ≤ 8 ∧ CP x9.2.1 x9.2.2 (lyN x9.1)) (fun x9 => 8 - x9.1) (0, u0.1, u0.2) ⟨Nat.zero_le _, hC0⟩ (lv_sub hl [1, 0] rfl) hP hD hS ?_
  clear hP hD hS hl ls
  rintro ⟨i, p9, s9⟩ H locs hI hP hD hS ih_6 ls hl
  try dsimp only at hI ih_6 hl hP hD
  obtain ⟨hi, hC⟩ := hI
  refine lv_iload_n hx hb dX2_layOut_6 rfl (lv_at hl 1 rfl) ?_
  refine va_gets hx hb hZ_tF hS hown (hG _ wf_X2_47) (fun _ h9 => h9) dX2_layOut_7 ?_
  refine va_tlen (v := nI 8) hx hb hT_tF hS rfl dX2_layOut_10 ?_
  refine ln_icmp_ge (tgt := 65) hx hb dX2_layOut_11 (by decide) (by omega) (by decide) (fun c11 => ?_) (fun c11 => ?_)
  · skip
    refine lv_aload_n hx hb dX2_layOut_65 rfl (lv_at hl 0 rfl) ?_
    refine lv_bipush (v := (nI 15)) hx hb dX2_layOut_66 (by decide) ?_
    refine va_put (D := D) (ci := 1) (v := .int (nI 15)) (ty := .int) (C := RX2) (T := TX2) (N := 8) hx hb hG wu_X2 tyX2 tyX2_ok nmX2 hown hK hP hD hS 2 rfl rfl 3 (by decide) (hG _ wf_X2_25) (fun _ h9 => h9) rfl (by decide +kernel) rfl rfl (Nat.le_of_ble_eq_true rfl) dX2_layOut_68 (fun H locs hP hD hS => ?_)
    have hP : va_P D classes (cW cI cJ h0 h1 h2 a0 a1 a2 a3 h3 a4 h4 a5 kn op ow tr fu kg co pn (nI 0) (nI 15) (-1) ma p9 s9 mvs los lsz lfs asz afs) H := hP
    have hD : va_D A (cW cI cJ h0 h1 h2 a0 a1 a2 a3 h3 a4 h4 a5 kn op ow tr fu kg co pn (nI 0) (nI 15) (-1) ma p9 s9 mvs los lsz lfs asz afs) := hD
    exact weV ((p9, s9)) hx hb hr hlocks dX2_layOut_71 (CP_congr ly_e (by rw [show 8 = i by omega]; exact hC)) hP hD hK hA hE hS
  · skip
    have hhm := hmf_lt i
    have hi8 : i < 8 := by omega
    refine lv_aload_n hx hb dX2_layOut_14 rfl (lv_at hl 0 rfl) ?_
    refine lv_iload_n hx hb dX2_layOut_15 rfl (lv_at hl 1 rfl) ?_
    refine va_gets hx hb hZ_tF hS hown (hG _ wf_X2_47) (fun _ h9 => h9) dX2_layOut_16 ?_
    refine lv_iload_n hx hb dX2_layOut_19 rfl (lv_at hl 1 rfl) ?_
    refine va_ti (v := .int (frL.getD i 0)) hx hb hT_tF hS (vp_in_nI (by omega) (by decide)) (congrArg frF (nI_clamp (by omega))) dX2_layOut_20 ?_
    refine W.top (y := .int (nI (hmf i))) (congrArg Value.int (frL_e hi8)) ?_
    refine chV (rnV (As := [.int (nI i), .int (nI (hmf i))]) (rest := []) S0 (c_X2_set l (lyN i) hC i (hmf i) (by omega) (by omega)) wm_X2_40 wi_X2_set ws_X2_set wn_X2 wc_X2_set hd_X2_set ⟨rfl, rfl, by decide, by decide⟩ IW.blind (va_recv hK hP (ci := 1) (q0 := 2) rfl rfl) (IW.at hP hD hK hA hE hS) hl.1 (Nat.le_of_ble_eq_true rfl) dX2_layOut_21 rfl ⟨by decide, by decide⟩) hS (fun u1 H locs hu hP hD hS => ?_)
    have hC1 := hu
    have hP : va_P D classes (cW cI cJ h0 h1 h2 a0 a1 a2 a3 h3 a4 h4 a5 kn op ow tr fu kg co pn (nI 0) (nI 0) (-1) ma u1.1 u1.2 mvs los lsz lfs asz afs) H := hP
    have hD : va_D A (cW cI cJ h0 h1 h2 a0 a1 a2 a3 h3 a4 h4 a5 kn op ow tr fu kg co pn (nI 0) (nI 0) (-1) ma u1.1 u1.2 mvs los lsz lfs asz afs) := hD
    refine lv_aload_n hx hb dX2_layOut_24 rfl (lv_at hl 0 rfl) ?_
    refine lv_bipush (v := (nI 8)) hx hb dX2_layOut_25 (by decide) ?_
    refine lv_iload_n hx hb dX2_layOut_27 rfl (lv_at hl 1 rfl) ?_
    refine ln_iadd hx hb dX2_layOut_28 ?_
    refine lv_iconst (v := (nI 1)) hx hb dX2_layOut_29 (by decide) ?_
    refine chV (rnV (As := [.int (nI (8 + i)), .int (nI 1)]) (rest := []) S0 (c_X2_set l (upN (lyN i) i (hmf i)) hC1 (8 + i) 1 (by omega) (by omega)) wm_X2_40 wi_X2_set ws_X2_set wn_X2 wc_X2_set hd_X2_set ⟨rfl, rfl, by decide, by decide⟩ IW.blind (va_recv hK hP (ci := 1) (q0 := 2) rfl rfl) (IW.at hP hD hK hA hE hS) hl.1 (Nat.le_of_ble_eq_true rfl) dX2_layOut_30 rfl ⟨by decide, by decide⟩) hS (fun u2 H locs hu hP hD hS => ?_)
    have hC2 := hu
    have hP : va_P D classes (cW cI cJ h0 h1 h2 a0 a1 a2 a3 h3 a4 h4 a5 kn op ow tr fu kg co pn (nI 0) (nI 0) (-1) ma u2.1 u2.2 mvs los lsz lfs asz afs) H := hP
    have hD : va_D A (cW cI cJ h0 h1 h2 a0 a1 a2 a3 h3 a4 h4 a5 kn op ow tr fu kg co pn (nI 0) (nI 0) (-1) ma u2.1 u2.2 mvs los lsz lfs asz afs) := hD
    refine lv_aload_n hx hb dX2_layOut_33 rfl (lv_at hl 0 rfl) ?_
    refine lv_bipush (v := (nI 48)) hx hb dX2_layOut_34 (by decide) ?_
    refine lv_iload_n hx hb dX2_layOut_36 rfl (lv_at hl 1 rfl) ?_
    refine ln_iadd hx hb dX2_layOut_37 ?_
    refine lv_bipush (v := (nI 7)) hx hb dX2_layOut_38 (by decide) ?_
    refine chV (rnV (As := [.int (nI (48 + i)), .int (nI 7)]) (rest := []) S0 (c_X2_set l (upN (upN (lyN i) i (hmf i)) (8 + i) 1) hC2 (48 + i) 7 (by omega) (by omega)) wm_X2_40 wi_X2_set ws_X2_set wn_X2 wc_X2_set hd_X2_set ⟨rfl, rfl, by decide, by decide⟩ IW.blind (va_recv hK hP (ci := 1) (q0 := 2) rfl rfl) (IW.at hP hD hK hA hE hS) hl.1 (Nat.le_of_ble_eq_true rfl) dX2_layOut_40 rfl ⟨by decide, by decide⟩) hS (fun u3 H locs hu hP hD hS => ?_)
    have hC3 := hu
    have hP : va_P D classes (cW cI cJ h0 h1 h2 a0 a1 a2 a3 h3 a4 h4 a5 kn op ow tr fu kg co pn (nI 0) (nI 0) (-1) ma u3.1 u3.2 mvs los lsz lfs asz afs) H := hP
    have hD : va_D A (cW cI cJ h0 h1 h2 a0 a1 a2 a3 h3 a4 h4 a5 kn op ow tr fu kg co pn (nI 0) (nI 0) (-1) ma u3.1 u3.2 mvs los lsz lfs asz afs) := hD
    refine lv_aload_n hx hb dX2_layOut_43 rfl (lv_at hl 0 rfl) ?_
    refine lv_bipush (v := (nI 56)) hx hb dX2_layOut_44 (by decide) ?_
    refine lv_iload_n hx hb dX2_layOut_46 rfl (lv_at hl 1 rfl) ?_
    refine ln_iadd hx hb dX2_layOut_47 ?_
    refine lv_bipush (v := (nI 6)) hx hb dX2_layOut_48 (by decide) ?_
    refine va_gets hx hb hZ_tF hS hown (hG _ wf_X2_47) (fun _ h9 => h9) dX2_layOut_50 ?_
    refine lv_iload_n hx hb dX2_layOut_53 rfl (lv_at hl 1 rfl) ?_
    refine va_ti (v := .int (frL.getD i 0)) hx hb hT_tF hS (vp_in_nI (by omega) (by decide)) (congrArg frF (nI_clamp (by omega))) dX2_layOut_54 ?_
    refine W.top (y := .int (nI (hmf i))) (congrArg Value.int (frL_e hi8)) ?_
    refine ln_iadd hx hb dX2_layOut_55 ?_
    refine chV (rnV (As := [.int (nI (56 + i)), .int (nI (6 + (hmf i)))]) (rest := []) S0 (c_X2_set l (upN (upN (upN (lyN i) i (hmf i)) (8 + i) 1) (48 + i) 7) hC3 (56 + i) (6 + (hmf i)) (by omega) (by omega)) wm_X2_40 wi_X2_set ws_X2_set wn_X2 wc_X2_set hd_X2_set ⟨rfl, rfl, by decide, by decide⟩ IW.blind (va_recv hK hP (ci := 1) (q0 := 2) rfl rfl) (IW.at hP hD hK hA hE hS) hl.1 (Nat.le_of_ble_eq_true rfl) dX2_layOut_56 rfl ⟨by decide, by decide⟩) hS (fun u4 H locs hu hP hD hS => ?_)
    have hC4 := hu
    have hP : va_P D classes (cW cI cJ h0 h1 h2 a0 a1 a2 a3 h3 a4 h4 a5 kn op ow tr fu kg co pn (nI 0) (nI 0) (-1) ma u4.1 u4.2 mvs los lsz lfs asz afs) H := hP
    have hD : va_D A (cW cI cJ h0 h1 h2 a0 a1 a2 a3 h3 a4 h4 a5 kn op ow tr fu kg co pn (nI 0) (nI 0) (-1) ma u4.1 u4.2 mvs los lsz lfs asz afs) := hD
    refine lv_iinc (v := (nI (i + 1))) (lv' := [(1, .int (nI (i + 1))), (0, .ref h2)]) hx hb dX2_layOut_59 hl (k := 1) rfl (show nI i + Int32.ofInt 1 = nI (i + 1) from nI_add _ 1) (by decide) rfl (fun ls hl => ?_)
    refine lv_goto (tgt := 6) hx hb dX2_layOut_62 (by decide) ?_
    exact ih_6 ((i + 1), u4.1, u4.2) _ _ ⟨by omega, hC4⟩ (by (try dsimp only); omega) hP hD hS ls (lv_sub hl [1, 0] rfl)
theorem dX4_setUpAnew_0 : decode cX4_setUpAnew 0 = .ok (.aload_n 0, 1) := by decide +kernel
theorem dX4_setUpAnew_1 : decode cX4_setUpAnew 1 = .ok (.getfield 20, 3) := by decide +kernel
theorem dX4_setUpAnew_4 : decode cX4_setUpAnew 4 = .ok (.iconst 0, 1) := by decide +kernel
theorem dX4_setUpAnew_5 : decode cX4_setUpAnew 5 = .ok (.putfield 138, 3) := by decide +kernel
theorem dX4_setUpAnew_8 : decode cX4_setUpAnew 8 = .ok (.aload_n 0, 1) := by decide +kernel
theorem dX4_setUpAnew_9 : decode cX4_setUpAnew 9 = .ok (.iconst 0, 1) := by decide +kernel
theorem dX4_setUpAnew_10 : decode cX4_setUpAnew 10 = .ok (.putfield 31, 3) := by decide +kernel
theorem dX4_setUpAnew_13 : decode cX4_setUpAnew 13 = .ok (.return_, 1) := by decide +kernel
theorem hd_X4_setUpAnew : yX4_setUpAnew.cls ≠ "java/lang/invoke/MethodHandle" ∧ yX4_setUpAnew.cls ≠ "java/lang/invoke/VarHandle" ∧ (parseMethodDescriptor yX4_setUpAnew.desc).map (fun d => d.parameters.length) = some 0 := by decide +kernel
set_option maxHeartbeats 4000000 in
set_option maxRecDepth 100000 in
/-- setUpAnew -/
theorem c_X4_setUpAnew (l : Launch) {D : va_G} {cI cJ : ClassId} {A : Nat → Prop} {h0 h1 h2 a0 a1 a2 a3 h3 a4 h4 a5 : Nat} {kn op : Int32} {ow tr fu kg co pn : Int64} {si ri pa ma : Int32} {pcs : Nat → Int32} {sqa : Nat → Int64} {mvs los : Nat → Int32} {lsz : Int32} {lfs : Nat → Int32} {asz : Int32} {afs : Nat → Int32}  : Met l yX4_setUpAnew (Cond.code yX4_setUpAnew cX4_setUpAnew 1 none :: wsL_law) (rK 0) (va_Pc [.ref h0] (IW D cI cJ A (cW cI cJ h0 h1 h2 a0 a1 a2 a3 h3 a4 h4 a5 kn op ow tr fu kg co pn si ri pa ma pcs sqa mvs los lsz lfs asz afs))) (va_Qv (fun _ => True) (fun (u : Unit) t9 => IW D cI cJ A (cW cI cJ h0 h1 h2 a0 a1 a2 a3 h3 a4 h4 a5 (bI false) op ow tr fu kg co pn si ri pa (nI 0) pcs sqa mvs los lsz lfs asz afs) t9) A) 0 0 A := by
  refine entM (by decide) (Nat.le_of_ble_eq_true rfl) ?_
  intro p e s m below meth c ls S0 hr hlocks hG hnm hB hl
  have hx := S0.1
  have hb := S0.2.1
  have hown := S0.2.2.2.1
  have hl : lv_has ls 1 [(0, .ref h0)] := hl
  obtain ⟨hP, hD, hK, hA, hE⟩ := hB
  have hS : va_S A s.heap s.heap [] := va_S.rf
  refine lv_aload_n hx hb dX4_setUpAnew_0 rfl (lv_at hl 0 rfl) ?_
  refine va_get (D := D) (ci := 3) (v := .ref h2) (C := RX4) (T := TX4) (N := 6) hx hb hG wu_X4 hown hK hP 0 rfl rfl 1 (by decide) (hG _ wf_X4_20) (fun _ h9 => h9) rfl dX4_setUpAnew_1 ?_
  refine lv_iconst (v := (nI 0)) hx hb dX4_setUpAnew_4 (by decide) ?_
  refine va_put (D := D) (ci := 1) (v := .int (nI 0)) (ty := .int) (C := RX2) (T := TX2) (N := 8) hx hb hG wu_X2 tyX2 tyX2_ok nmX2 hown hK hP hD hS 2 rfl rfl 7 (by decide) (hG _ wf_X4_138) (fun _ h9 => h9) rfl (by decide +kernel) rfl rfl (Nat.le_of_ble_eq_true rfl) dX4_setUpAnew_5 (fun H locs hP hD hS => ?_)
  have hP : va_P D classes (cW cI cJ h0 h1 h2 a0 a1 a2 a3 h3 a4 h4 a5 kn op ow tr fu kg co pn si ri pa (nI 0) pcs sqa mvs los lsz lfs asz afs) H := hP
  have hD : va_D A (cW cI cJ h0 h1 h2 a0 a1 a2 a3 h3 a4 h4 a5 kn op ow tr fu kg co pn si ri pa (nI 0) pcs sqa mvs los lsz lfs asz afs) := hD
  refine lv_aload_n hx hb dX4_setUpAnew_8 rfl (lv_at hl 0 rfl) ?_
  refine lv_iconst (v := (nI 0)) hx hb dX4_setUpAnew_9 (by decide) ?_
  refine va_put (D := D) (ci := 3) (v := .int (bI false)) (ty := .boolean) (C := RX4) (T := TX4) (N := 6) hx hb hG wu_X4 tyX4 tyX4_ok nmX4 hown hK hP hD hS 0 rfl rfl 4 (by decide) (hG _ wf_X4_31) (fun _ h9 => h9) rfl (by decide +kernel) rfl rfl (Nat.le_of_ble_eq_true rfl) dX4_setUpAnew_10 (fun H locs hP hD hS => ?_)
  have hP : va_P D classes (cW cI cJ h0 h1 h2 a0 a1 a2 a3 h3 a4 h4 a5 (bI false) op ow tr fu kg co pn si ri pa (nI 0) pcs sqa mvs los lsz lfs asz afs) H := hP
  have hD : va_D A (cW cI cJ h0 h1 h2 a0 a1 a2 a3 h3 a4 h4 a5 (bI false) op ow tr fu kg co pn si ri pa (nI 0) pcs sqa mvs los lsz lfs asz afs) := hD
  exact weV (()) hx hb hr hlocks dX4_setUpAnew_13 trivial hP hD hK hA hE hS
theorem dX4_clear_0 : decode cX4_clear 0 = .ok (.aload_n 0, 1) := by decide +kernel
theorem dX4_clear_1 : decode cX4_clear 1 = .ok (.getfield 20, 3) := by decide +kernel
theorem dX4_clear_4 : decode cX4_clear 4 = .ok (.invokevirtual 38, 3) := by decide +kernel
theorem dX4_clear_7 : decode cX4_clear 7 = .ok (.aload_n 0, 1) := by decide +kernel
theorem dX4_clear_8 : decode cX4_clear 8 = .ok (.invokevirtual 43, 3) := by decide +kernel
theorem dX4_clear_11 : decode cX4_clear 11 = .ok (.return_, 1) := by decide +kernel
theorem hd_X4_clear : yX4_clear.cls ≠ "java/lang/invoke/MethodHandle" ∧ yX4_clear.cls ≠ "java/lang/invoke/VarHandle" ∧ (parseMethodDescriptor yX4_clear.desc).map (fun d => d.parameters.length) = some 0 := by decide +kernel
set_option maxHeartbeats 4000000 in
set_option maxRecDepth 100000 in
/-- clear -/
theorem c_X4_clear (l : Launch) {D : va_G} {cI cJ : ClassId} {A : Nat → Prop} {h0 h1 h2 a0 a1 a2 a3 h3 a4 h4 a5 : Nat} {kn op : Int32} {ow tr fu kg co pn : Int64} {si ri pa ma : Int32} {pcs : Nat → Int32} {sqa : Nat → Int64} {mvs los : Nat → Int32} {lsz : Int32} {lfs : Nat → Int32} {asz : Int32} {afs : Nat → Int32} (bd : Nat → Nat) (hCP : CP pcs sqa bd) : Met l yX4_clear (Cond.code yX4_clear cX4_clear 1 none :: wsL_law) (rK 3) (va_Pc [.ref h0] (IW D cI cJ A (cW cI cJ h0 h1 h2 a0 a1 a2 a3 h3 a4 h4 a5 kn op ow tr fu kg co pn si ri pa ma pcs sqa mvs los lsz lfs asz afs))) (va_Qv (fun u => CP u.1 u.2 (fun _ => 0)) (fun (u : (Nat → Int32) × (Nat → Int64)) t9 => IW D cI cJ A (cW cI cJ h0 h1 h2 a0 a1 a2 a3 h3 a4 h4 a5 (bI false) op ow tr fu kg co pn (nI 0) (nI 0) (-1) (nI 0) u.1 u.2 mvs los lsz lfs asz afs) t9) A) 0 0 A := by
  refine entM (by decide) (Nat.le_of_ble_eq_true rfl) ?_
  intro p e s m below meth c ls S0 hr hlocks hG hnm hB hl
  have hx := S0.1
  have hb := S0.2.1
  have hown := S0.2.2.2.1
  have hl : lv_has ls 1 [(0, .ref h0)] := hl
  obtain ⟨hP, hD, hK, hA, hE⟩ := hB
  have hS : va_S A s.heap s.heap [] := va_S.rf
  refine lv_aload_n hx hb dX4_clear_0 rfl (lv_at hl 0 rfl) ?_
  refine va_get (D := D) (ci := 3) (v := .ref h2) (C := RX4) (T := TX4) (N := 6) hx hb hG wu_X4 hown hK hP 0 rfl rfl 1 (by decide) (hG _ wf_X4_20) (fun _ h9 => h9) rfl dX4_clear_1 ?_
  refine chV (rnV (As := []) (rest := []) S0 (c_X2_empty l bd hCP) wm_X4_38 wi_X2_empty ws_X2_empty wn_X2 wc_X2_empty hd_X2_empty ⟨rfl, rfl, by decide, by decide⟩ IW.blind (va_recv hK hP (ci := 1) (q0 := 2) rfl rfl) (IW.at hP hD hK hA hE hS) hl.1 (Nat.le_of_ble_eq_true rfl) dX4_clear_4 rfl ⟨by decide, by decide⟩) hS (fun u_2 H locs hu hP hD hS => ?_)
  have hC0 := hu
  have hP : va_P D classes (cW cI cJ h0 h1 h2 a0 a1 a2 a3 h3 a4 h4 a5 kn op ow tr fu kg co pn (nI 0) (nI 0) (-1) ma u_2.1 u_2.2 mvs los lsz lfs asz afs) H := hP
  have hD : va_D A (cW cI cJ h0 h1 h2 a0 a1 a2 a3 h3 a4 h4 a5 kn op ow tr fu kg co pn (nI 0) (nI 0) (-1) ma u_2.1 u_2.2 mvs los lsz lfs asz afs) := hD
  refine lv_aload_n hx hb dX4_clear_7 rfl (lv_at hl 0 rfl) ?_
  refine chV (rnV (As := []) (rest := []) S0 (c_X4_setUpAnew l ) wm_X4_43 wi_X4_setUpAnew ws_X4_setUpAnew wn_X4 wc_X4_setUpAnew hd_X4_setUpAnew ⟨rfl, rfl, by decide, by decide⟩ IW.blind (va_recv hK hP (ci := 3) (q0 := 0) rfl rfl) (IW.at hP hD hK hA hE hS) hl.1 (Nat.le_of_ble_eq_true rfl) dX4_clear_8 rfl ⟨by decide, by decide⟩) hS (fun u_4 H locs hu hP hD hS => ?_)
  have hP : va_P D classes (cW cI cJ h0 h1 h2 a0 a1 a2 a3 h3 a4 h4 a5 (bI false) op ow tr fu kg co pn (nI 0) (nI 0) (-1) (nI 0) u_2.1 u_2.2 mvs los lsz lfs asz afs) H := hP
  have hD : va_D A (cW cI cJ h0 h1 h2 a0 a1 a2 a3 h3 a4 h4 a5 (bI false) op ow tr fu kg co pn (nI 0) (nI 0) (-1) (nI 0) u_2.1 u_2.2 mvs los lsz lfs asz afs) := hD
  exact weV ((u_2.1, u_2.2)) hx hb hr hlocks dX4_clear_11 hC0 hP hD hK hA hE hS
theorem dX4_begin_0 : decode cX4_begin 0 = .ok (.aload_n 0, 1) := by decide +kernel
theorem dX4_begin_1 : decode cX4_begin 1 = .ok (.getfield 20, 3) := by decide +kernel
theorem dX4_begin_4 : decode cX4_begin 4 = .ok (.invokevirtual 46, 3) := by decide +kernel
theorem dX4_begin_7 : decode cX4_begin 7 = .ok (.aload_n 0, 1) := by decide +kernel
theorem dX4_begin_8 : decode cX4_begin 8 = .ok (.invokevirtual 43, 3) := by decide +kernel
theorem dX4_begin_11 : decode cX4_begin 11 = .ok (.return_, 1) := by decide +kernel
theorem hd_X4_begin : yX4_begin.cls ≠ "java/lang/invoke/MethodHandle" ∧ yX4_begin.cls ≠ "java/lang/invoke/VarHandle" ∧ (parseMethodDescriptor yX4_begin.desc).map (fun d => d.parameters.length) = some 0 := by decide +kernel
set_option maxHeartbeats 4000000 in
set_option maxRecDepth 100000 in
/-- begin -/
theorem c_X4_begin (l : Launch) {D : va_G} {cI cJ : ClassId} {A : Nat → Prop} {h0 h1 h2 a0 a1 a2 a3 h3 a4 h4 a5 : Nat} {kn op : Int32} {ow tr fu kg co pn : Int64} {si ri pa ma : Int32} {pcs : Nat → Int32} {sqa : Nat → Int64} {mvs los : Nat → Int32} {lsz : Int32} {lfs : Nat → Int32} {asz : Int32} {afs : Nat → Int32} (bd : Nat → Nat) (hCP : CP pcs sqa bd) : Met l yX4_begin (Cond.code yX4_begin cX4_begin 1 none :: wsL_law) (rK 4) (va_Pc [.ref h0] (IW D cI cJ A (cW cI cJ h0 h1 h2 a0 a1 a2 a3 h3 a4 h4 a5 kn op ow tr fu kg co pn si ri pa ma pcs sqa mvs los lsz lfs asz afs))) (va_Qv (fun u => CP u.1 u.2 bgn) (fun (u : (Nat → Int32) × (Nat → Int64)) t9 => IW D cI cJ A (cW cI cJ h0 h1 h2 a0 a1 a2 a3 h3 a4 h4 a5 (bI false) op ow tr fu kg co pn (nI 0) (nI 15) (-1) (nI 0) u.1 u.2 mvs los lsz lfs asz afs) t9) A) 0 0 A := by
  refine entM (by decide) (Nat.le_of_ble_eq_true rfl) ?_
  intro p e s m below meth c ls S0 hr hlocks hG hnm hB hl
  have hx := S0.1
  have hb := S0.2.1
  have hown := S0.2.2.2.1
  have hl : lv_has ls 1 [(0, .ref h0)] := hl
  obtain ⟨hP, hD, hK, hA, hE⟩ := hB
  have hS : va_S A s.heap s.heap [] := va_S.rf
  refine lv_aload_n hx hb dX4_begin_0 rfl (lv_at hl 0 rfl) ?_
  refine va_get (D := D) (ci := 3) (v := .ref h2) (C := RX4) (T := TX4) (N := 6) hx hb hG wu_X4 hown hK hP 0 rfl rfl 1 (by decide) (hG _ wf_X4_20) (fun _ h9 => h9) rfl dX4_begin_1 ?_
  refine chV (rnV (As := []) (rest := []) S0 (c_X2_layOut l bd hCP) wm_X4_46 wi_X2_layOut ws_X2_layOut wn_X2 wc_X2_layOut hd_X2_layOut ⟨rfl, rfl, by decide, by decide⟩ IW.blind (va_recv hK hP (ci := 1) (q0 := 2) rfl rfl) (IW.at hP hD hK hA hE hS) hl.1 (Nat.le_of_ble_eq_true rfl) dX4_begin_4 rfl ⟨by decide, by decide⟩) hS (fun u_2 H locs hu hP hD hS => ?_)
  have hC0 := hu
  have hP : va_P D classes (cW cI cJ h0 h1 h2 a0 a1 a2 a3 h3 a4 h4 a5 kn op ow tr fu kg co pn (nI 0) (nI 15) (-1) ma u_2.1 u_2.2 mvs los lsz lfs asz afs) H := hP
  have hD : va_D A (cW cI cJ h0 h1 h2 a0 a1 a2 a3 h3 a4 h4 a5 kn op ow tr fu kg co pn (nI 0) (nI 15) (-1) ma u_2.1 u_2.2 mvs los lsz lfs asz afs) := hD
  refine lv_aload_n hx hb dX4_begin_7 rfl (lv_at hl 0 rfl) ?_
  refine chV (rnV (As := []) (rest := []) S0 (c_X4_setUpAnew l ) wm_X4_43 wi_X4_setUpAnew ws_X4_setUpAnew wn_X4 wc_X4_setUpAnew hd_X4_setUpAnew ⟨rfl, rfl, by decide, by decide⟩ IW.blind (va_recv hK hP (ci := 3) (q0 := 0) rfl rfl) (IW.at hP hD hK hA hE hS) hl.1 (Nat.le_of_ble_eq_true rfl) dX4_begin_8 rfl ⟨by decide, by decide⟩) hS (fun u_4 H locs hu hP hD hS => ?_)
  have hP : va_P D classes (cW cI cJ h0 h1 h2 a0 a1 a2 a3 h3 a4 h4 a5 (bI false) op ow tr fu kg co pn (nI 0) (nI 15) (-1) (nI 0) u_2.1 u_2.2 mvs los lsz lfs asz afs) H := hP
  have hD : va_D A (cW cI cJ h0 h1 h2 a0 a1 a2 a3 h3 a4 h4 a5 (bI false) op ow tr fu kg co pn (nI 0) (nI 15) (-1) (nI 0) u_2.1 u_2.2 mvs los lsz lfs asz afs) := hD
  exact weV ((u_2.1, u_2.2)) hx hb hr hlocks dX4_begin_11 hC0 hP hD hK hA hE hS
theorem dX4_playable_0 : decode cX4_playable 0 = .ok (.aload_n 0, 1) := by decide +kernel
theorem dX4_playable_1 : decode cX4_playable 1 = .ok (.getfield 20, 3) := by decide +kernel
theorem dX4_playable_4 : decode cX4_playable 4 = .ok (.invokevirtual 88, 3) := by decide +kernel
theorem dX4_playable_7 : decode cX4_playable 7 = .ok (.ireturn, 1) := by decide +kernel
theorem hd_X4_playable : yX4_playable.cls ≠ "java/lang/invoke/MethodHandle" ∧ yX4_playable.cls ≠ "java/lang/invoke/VarHandle" ∧ (parseMethodDescriptor yX4_playable.desc).map (fun d => d.parameters.length) = some 0 := by decide +kernel
set_option maxHeartbeats 4000000 in
set_option maxRecDepth 100000 in
/-- playable -/
theorem c_X4_playable (l : Launch) {D : va_G} {cI cJ : ClassId} {A : Nat → Prop} {h0 h1 h2 a0 a1 a2 a3 h3 a4 h4 a5 : Nat} {kn op : Int32} {ow tr fu kg co pn : Int64} {ri pa ma : Int32} {pcs : Nat → Int32} {sqa : Nat → Int64} {mvs los : Nat → Int32} {lsz : Int32} {lfs : Nat → Int32} {asz : Int32} {afs : Nat → Int32} (bd : Nat → Nat) (hCP : CP pcs sqa bd) (sd : Nat) (hs2 : sd < 2) : Met l yX4_playable (Cond.code yX4_playable cX4_playable 1 (some .boolean) :: wsL_law) (rK 4) (va_Pc [.ref h0] (IW D cI cJ A (cW cI cJ h0 h1 h2 a0 a1 a2 a3 h3 a4 h4 a5 kn op ow tr fu kg co pn (nI sd) ri pa ma pcs sqa mvs los lsz lfs asz afs))) (vp_Si (fun r => r = bI (cbp bd sd))) 0 0 (fun _ => False) := by
  refine entM (by decide) (Nat.le_of_ble_eq_true rfl) ?_
  intro p e s m below meth c ls S0 hr hlocks hG hnm hB hl
  have hx := S0.1
  have hb := S0.2.1
  have hown := S0.2.2.2.1
  have hl : lv_has ls 1 [(0, .ref h0)] := hl
  obtain ⟨hP, hD, hK, hA, hE⟩ := hB
  have hS : va_S A s.heap s.heap [] := va_S.rf
  refine lv_aload_n hx hb dX4_playable_0 rfl (lv_at hl 0 rfl) ?_
  refine va_get (D := D) (ci := 3) (v := .ref h2) (C := RX4) (T := TX4) (N := 6) hx hb hG wu_X4 hown hK hP 0 rfl rfl 1 (by decide) (hG _ wf_X4_20) (fun _ h9 => h9) rfl dX4_playable_1 ?_
  refine roI (rnV (As := []) (rest := []) S0 (c_X2_canBePlayed l bd hCP sd hs2) wm_X4_88 wi_X2_canBePlayed ws_X2_canBePlayed wn_X2 wc_X2_canBePlayed hd_X2_canBePlayed ⟨rfl, rfl, by decide, by decide⟩ IW.blind (va_recv hK hP (ci := 1) (q0 := 2) rfl rfl) (IW.at hP hD hK hA hE hS) hl.1 (Nat.le_of_ble_eq_true rfl) dX4_playable_4 rfl ⟨by decide, by decide⟩) (fun r_1 hr_1 => ?_)
  subst hr_1
  exact reZ (v := cbp bd sd) hx hb hr hlocks dX4_playable_7 rfl
theorem dX4_at_0 : decode cX4_at 0 = .ok (.iload_n 1, 1) := by decide +kernel
theorem dX4_at_1 : decode cX4_at 1 = .ok (.invokestatic 49, 3) := by decide +kernel
theorem dX4_at_4 : decode cX4_at 4 = .ok (.ifCond .eq 14, 3) := by decide +kernel
theorem dX4_at_7 : decode cX4_at 7 = .ok (.aload_n 0, 1) := by decide +kernel
theorem dX4_at_8 : decode cX4_at 8 = .ok (.getfield 20, 3) := by decide +kernel
theorem dX4_at_11 : decode cX4_at 11 = .ok (.iload_n 1, 1) := by decide +kernel
theorem dX4_at_12 : decode cX4_at 12 = .ok (.invokevirtual 146, 3) := by decide +kernel
theorem dX4_at_15 : decode cX4_at 15 = .ok (.goto 4, 3) := by decide +kernel
theorem dX4_at_18 : decode cX4_at 18 = .ok (.iconst (-1), 1) := by decide +kernel
theorem dX4_at_19 : decode cX4_at 19 = .ok (.ireturn, 1) := by decide +kernel
theorem hd_X4_at : yX4_at.cls ≠ "java/lang/invoke/MethodHandle" ∧ yX4_at.cls ≠ "java/lang/invoke/VarHandle" ∧ (parseMethodDescriptor yX4_at.desc).map (fun d => d.parameters.length) = some 1 := by decide +kernel
set_option maxHeartbeats 4000000 in
set_option maxRecDepth 100000 in
/-- at -/
theorem c_X4_at (l : Launch) {D : va_G} {cI cJ : ClassId} {A : Nat → Prop} {h0 h1 h2 a0 a1 a2 a3 h3 a4 h4 a5 : Nat} {kn op : Int32} {ow tr fu kg co pn : Int64} {si ri pa ma : Int32} {pcs : Nat → Int32} {sqa : Nat → Int64} {mvs los : Nat → Int32} {lsz : Int32} {lfs : Nat → Int32} {asz : Int32} {afs : Nat → Int32} (bd : Nat → Nat) (hCP : CP pcs sqa bd) (x : Int32) : Met l yX4_at (Cond.code yX4_at cX4_at 2 (some .int) :: wsL_law) (rK 1) (va_Pc [.ref h0, .int x] (IW D cI cJ A (cW cI cJ h0 h1 h2 a0 a1 a2 a3 h3 a4 h4 a5 kn op ow tr fu kg co pn si ri pa ma pcs sqa mvs los lsz lfs asz afs))) (vp_Si (fun r => r = (if isq x = true then nI (bd x.toNatClampNeg) else -1))) 0 0 (fun _ => False) := by
  refine entM (by decide) (Nat.le_of_ble_eq_true rfl) ?_
  intro p e s m below meth c ls S0 hr hlocks hG hnm hB hl
  have hx := S0.1
  have hb := S0.2.1
  have hown := S0.2.2.2.1
  have hl : lv_has ls 2 [(0, .ref h0), (1, .int x)] := hl
  obtain ⟨hP, hD, hK, hA, hE⟩ := hB
  have hS : va_S A s.heap s.heap [] := va_S.rf
  refine lv_iload_n hx hb dX4_at_0 rfl (lv_at hl 1 rfl) ?_
  refine roI (rnS (As := [.int x]) (rest := []) S0 (c_X4_isSquare l x) wm_X4_49 wt_X4_isSquare wn_X4 wc_X4_isSquare hd_X4_isSquare ⟨rfl, rfl, by decide, by decide⟩ True.blind (fun _ _ _ => trivial) hl.1 (Nat.le_of_ble_eq_true rfl) dX4_at_1 rfl ⟨by decide, by decide⟩) (fun r_1 hr_1 => ?_)
  subst hr_1
  refine lb_if_eq (tgt := 18) hx hb dX4_at_4 (by decide) (fun c4 => ?_) (fun c4 => ?_)
  · skip
    refine lv_iconst (v := (-1)) hx hb dX4_at_18 (by decide) ?_
    exact reI hx hb hr hlocks dX4_at_19 (by first | (rw [if_pos c4, hx9, nI_clamp (by omega)]) | rw [if_neg (show ¬ isq x = true by rw [c4]; decide)])
  · skip
    obtain ⟨j9, hj9, hx9⟩ := isq_of c4
    refine lv_aload_n hx hb dX4_at_7 rfl (lv_at hl 0 rfl) ?_
    refine va_get (D := D) (ci := 3) (v := .ref h2) (C := RX4) (T := TX4) (N := 6) hx hb hG wu_X4 hown hK hP 0 rfl rfl 1 (by decide) (hG _ wf_X4_20) (fun _ h9 => h9) rfl dX4_at_8 ?_
    refine lv_iload_n hx hb dX4_at_11 rfl (lv_at hl 1 rfl) ?_
    refine W.top (y := .int (nI j9)) (congrArg Value.int hx9) ?_
    refine roI (rnV (As := [.int (nI j9)]) (rest := []) S0 (c_X2_pieceOn l bd hCP j9 (by omega)) wm_X4_146 wi_X2_pieceOn ws_X2_pieceOn wn_X2 wc_X2_pieceOn hd_X2_pieceOn ⟨rfl, rfl, by decide, by decide⟩ IW.blind (va_recv hK hP (ci := 1) (q0 := 2) rfl rfl) (IW.at hP hD hK hA hE hS) hl.1 (Nat.le_of_ble_eq_true rfl) dX4_at_12 rfl ⟨by decide, by decide⟩) (fun r_2 hr_2 => ?_)
    subst hr_2
    refine lv_goto (tgt := 19) hx hb dX4_at_15 (by decide) ?_
    exact reI hx hb hr hlocks dX4_at_19 (by first | (rw [if_pos c4, hx9, nI_clamp (by omega)]) | rw [if_neg (show ¬ isq x = true by rw [c4]; decide)])
theorem dX4_look_0 : decode cX4_look 0 = .ok (.iload_n 1, 1) := by decide +kernel
theorem dX4_look_1 : decode cX4_look 1 = .ok (.tableswitch 63 0 3 #[31, 39, 47, 55], 31) := by decide +kernel
theorem dX4_look_32 : decode cX4_look 32 = .ok (.aload_n 0, 1) := by decide +kernel
theorem dX4_look_33 : decode cX4_look 33 = .ok (.getfield 20, 3) := by decide +kernel
theorem dX4_look_36 : decode cX4_look 36 = .ok (.getfield 78, 3) := by decide +kernel
theorem dX4_look_39 : decode cX4_look 39 = .ok (.ireturn, 1) := by decide +kernel
theorem dX4_look_40 : decode cX4_look 40 = .ok (.aload_n 0, 1) := by decide +kernel
theorem dX4_look_41 : decode cX4_look 41 = .ok (.getfield 20, 3) := by decide +kernel
theorem dX4_look_44 : decode cX4_look 44 = .ok (.getfield 82, 3) := by decide +kernel
theorem dX4_look_47 : decode cX4_look 47 = .ok (.ireturn, 1) := by decide +kernel
theorem dX4_look_48 : decode cX4_look 48 = .ok (.aload_n 0, 1) := by decide +kernel
theorem dX4_look_49 : decode cX4_look 49 = .ok (.getfield 20, 3) := by decide +kernel
theorem dX4_look_52 : decode cX4_look 52 = .ok (.getfield 85, 3) := by decide +kernel
theorem dX4_look_55 : decode cX4_look 55 = .ok (.ireturn, 1) := by decide +kernel
theorem dX4_look_56 : decode cX4_look 56 = .ok (.aload_n 0, 1) := by decide +kernel
theorem dX4_look_57 : decode cX4_look 57 = .ok (.getfield 20, 3) := by decide +kernel
theorem dX4_look_60 : decode cX4_look 60 = .ok (.getfield 138, 3) := by decide +kernel
theorem dX4_look_63 : decode cX4_look 63 = .ok (.ireturn, 1) := by decide +kernel
theorem dX4_look_64 : decode cX4_look 64 = .ok (.iconst (-1), 1) := by decide +kernel
theorem dX4_look_65 : decode cX4_look 65 = .ok (.ireturn, 1) := by decide +kernel
theorem hd_X4_look : yX4_look.cls ≠ "java/lang/invoke/MethodHandle" ∧ yX4_look.cls ≠ "java/lang/invoke/VarHandle" ∧ (parseMethodDescriptor yX4_look.desc).map (fun d => d.parameters.length) = some 1 := by decide +kernel
set_option maxHeartbeats 4000000 in
set_option maxRecDepth 100000 in
/-- look -/
theorem c_X4_look (l : Launch) {D : va_G} {cI cJ : ClassId} {A : Nat → Prop} {h0 h1 h2 a0 a1 a2 a3 h3 a4 h4 a5 : Nat} {kn op : Int32} {ow tr fu kg co pn : Int64} {pa ma : Int32} {pcs : Nat → Int32} {sqa : Nat → Int64} {mvs los : Nat → Int32} {lsz : Int32} {lfs : Nat → Int32} {asz : Int32} {afs : Nat → Int32} (sd rt : Nat) (x : Int32) : Met l yX4_look (Cond.code yX4_look cX4_look 2 (some .int) :: wsL_law) (rK 0) (va_Pc [.ref h0, .int x] (IW D cI cJ A (cW cI cJ h0 h1 h2 a0 a1 a2 a3 h3 a4 h4 a5 kn op ow tr fu kg co pn (nI sd) (nI rt) pa ma pcs sqa mvs los lsz lfs asz afs))) (vp_Si (fun r => r = lkC sd rt pa ma x)) 0 0 (fun _ => False) := by
  refine entM (by decide) (Nat.le_of_ble_eq_true rfl) ?_
  intro p e s m below meth c ls S0 hr hlocks hG hnm hB hl
  have hx := S0.1
  have hb := S0.2.1
  have hown := S0.2.2.2.1
  have hl : lv_has ls 2 [(0, .ref h0), (1, .int x)] := hl
  obtain ⟨hP, hD, hK, hA, hE⟩ := hB
  have hS : va_S A s.heap s.heap [] := va_S.rf
  refine lv_iload_n hx hb dX4_look_0 rfl (lv_at hl 1 rfl) ?_
  by_cases hs_1_0 : x = nI 0
  · skip
    refine lv_tableIn (off := 31) (tgt := 32) hx hb dX4_look_1 (by rw [hs_1_0]; decide) (by rw [hs_1_0]; decide) (by rw [hs_1_0]; decide) (by decide) ?_
    refine lv_aload_n hx hb dX4_look_32 rfl (lv_at hl 0 rfl) ?_
    refine va_get (D := D) (ci := 3) (v := .ref h2) (C := RX4) (T := TX4) (N := 6) hx hb hG wu_X4 hown hK hP 0 rfl rfl 1 (by decide) (hG _ wf_X4_20) (fun _ h9 => h9) rfl dX4_look_33 ?_
    refine va_get (D := D) (ci := 1) (v := .int (nI sd)) (C := RX2) (T := TX2) (N := 8) hx hb hG wu_X2 hown hK hP 2 rfl rfl 2 (by decide) (hG _ wf_X4_78) (fun _ h9 => h9) rfl dX4_look_36 ?_
    exact reI hx hb hr hlocks dX4_look_39 (by unfold lkC; rw [if_pos hs_1_0])
  by_cases hs_1_1 : x = nI 1
  · skip
    refine lv_tableIn (off := 39) (tgt := 40) hx hb dX4_look_1 (by rw [hs_1_1]; decide) (by rw [hs_1_1]; decide) (by rw [hs_1_1]; decide) (by decide) ?_
    refine lv_aload_n hx hb dX4_look_40 rfl (lv_at hl 0 rfl) ?_
    refine va_get (D := D) (ci := 3) (v := .ref h2) (C := RX4) (T := TX4) (N := 6) hx hb hG wu_X4 hown hK hP 0 rfl rfl 1 (by decide) (hG _ wf_X4_20) (fun _ h9 => h9) rfl dX4_look_41 ?_
    refine va_get (D := D) (ci := 1) (v := .int (nI rt)) (C := RX2) (T := TX2) (N := 8) hx hb hG wu_X2 hown hK hP 2 rfl rfl 3 (by decide) (hG _ wf_X4_82) (fun _ h9 => h9) rfl dX4_look_44 ?_
    exact reI hx hb hr hlocks dX4_look_47 (by unfold lkC; rw [if_neg hs_1_0, if_pos hs_1_1])
  by_cases hs_1_2 : x = nI 2
  · skip
    refine lv_tableIn (off := 47) (tgt := 48) hx hb dX4_look_1 (by rw [hs_1_2]; decide) (by rw [hs_1_2]; decide) (by rw [hs_1_2]; decide) (by decide) ?_
    refine lv_aload_n hx hb dX4_look_48 rfl (lv_at hl 0 rfl) ?_
    refine va_get (D := D) (ci := 3) (v := .ref h2) (C := RX4) (T := TX4) (N := 6) hx hb hG wu_X4 hown hK hP 0 rfl rfl 1 (by decide) (hG _ wf_X4_20) (fun _ h9 => h9) rfl dX4_look_49 ?_
    refine va_get (D := D) (ci := 1) (v := .int pa) (C := RX2) (T := TX2) (N := 8) hx hb hG wu_X2 hown hK hP 2 rfl rfl 4 (by decide) (hG _ wf_X4_85) (fun _ h9 => h9) rfl dX4_look_52 ?_
    exact reI hx hb hr hlocks dX4_look_55 (by unfold lkC; rw [if_neg hs_1_0, if_neg hs_1_1, if_pos hs_1_2])
  by_cases hs_1_3 : x = nI 3
  · skip
    refine lv_tableIn (off := 55) (tgt := 56) hx hb dX4_look_1 (by rw [hs_1_3]; decide) (by rw [hs_1_3]; decide) (by rw [hs_1_3]; decide) (by decide) ?_
    refine lv_aload_n hx hb dX4_look_56 rfl (lv_at hl 0 rfl) ?_
    refine va_get (D := D) (ci := 3) (v := .ref h2) (C := RX4) (T := TX4) (N := 6) hx hb hG wu_X4 hown hK hP 0 rfl rfl 1 (by decide) (hG _ wf_X4_20) (fun _ h9 => h9) rfl dX4_look_57 ?_
    refine va_get (D := D) (ci := 1) (v := .int ma) (C := RX2) (T := TX2) (N := 8) hx hb hG wu_X2 hown hK hP 2 rfl rfl 7 (by decide) (hG _ wf_X4_138) (fun _ h9 => h9) rfl dX4_look_60 ?_
    exact reI hx hb hr hlocks dX4_look_63 (by unfold lkC; rw [if_neg hs_1_0, if_neg hs_1_1, if_neg hs_1_2, if_pos hs_1_3])
  refine lv_tableOut (tgt := 64) hx hb dX4_look_1 (tbl3 hs_1_0 hs_1_1 hs_1_2 hs_1_3) (by decide) ?_
  refine lv_iconst (v := (-1)) hx hb dX4_look_64 (by decide) ?_
  exact reI hx hb hr hlocks dX4_look_65 (by unfold lkC; rw [if_neg hs_1_0, if_neg hs_1_1, if_neg hs_1_2, if_neg hs_1_3])
theorem dX4_unmake_0 : decode cX4_unmake 0 = .ok (.aload_n 0, 1) := by decide +kernel
theorem dX4_unmake_1 : decode cX4_unmake 1 = .ok (.getfield 20, 3) := by decide +kernel
theorem dX4_unmake_4 : decode cX4_unmake 4 = .ok (.invokevirtual 129, 3) := by decide +kernel
theorem dX4_unmake_7 : decode cX4_unmake 7 = .ok (.istore_n 1, 1) := by decide +kernel
theorem dX4_unmake_8 : decode cX4_unmake 8 = .ok (.iload_n 1, 1) := by decide +kernel
theorem dX4_unmake_9 : decode cX4_unmake 9 = .ok (.iconst (-1), 1) := by decide +kernel
theorem dX4_unmake_10 : decode cX4_unmake 10 = .ok (.if_icmp .eq 8, 3) := by decide +kernel
theorem dX4_unmake_13 : decode cX4_unmake 13 = .ok (.aload_n 0, 1) := by decide +kernel
theorem dX4_unmake_14 : decode cX4_unmake 14 = .ok (.iconst 0, 1) := by decide +kernel
theorem dX4_unmake_15 : decode cX4_unmake 15 = .ok (.putfield 31, 3) := by decide +kernel
theorem dX4_unmake_18 : decode cX4_unmake 18 = .ok (.iload_n 1, 1) := by decide +kernel
theorem dX4_unmake_19 : decode cX4_unmake 19 = .ok (.ireturn, 1) := by decide +kernel
theorem hd_X4_unmake : yX4_unmake.cls ≠ "java/lang/invoke/MethodHandle" ∧ yX4_unmake.cls ≠ "java/lang/invoke/VarHandle" ∧ (parseMethodDescriptor yX4_unmake.desc).map (fun d => d.parameters.length) = some 0 := by decide +kernel
set_option maxHeartbeats 4000000 in
set_option maxRecDepth 100000 in
/-- unmake of nothing -/
theorem c_X4_unmake_0 (l : Launch) {D : va_G} {cI cJ : ClassId} {A : Nat → Prop} {h0 h1 h2 a0 a1 a2 a3 h3 a4 h4 a5 : Nat} {kn op : Int32} {ow tr fu kg co pn : Int64} {si ri pa : Int32} {pcs : Nat → Int32} {sqa : Nat → Int64} {mvs los : Nat → Int32} {lsz : Int32} {lfs : Nat → Int32} {asz : Int32} {afs : Nat → Int32}  : Met l yX4_unmake (Cond.code yX4_unmake cX4_unmake 2 (some .int) :: wsL_law) (rK 1) (va_Pc [.ref h0] (IW D cI cJ A (cW cI cJ h0 h1 h2 a0 a1 a2 a3 h3 a4 h4 a5 kn op ow tr fu kg co pn si ri pa (nI 0) pcs sqa mvs los lsz lfs asz afs))) (va_Qi (fun r _ => r = -1) (fun (u : Unit) t9 => IW D cI cJ A (cW cI cJ h0 h1 h2 a0 a1 a2 a3 h3 a4 h4 a5 kn op ow tr fu kg co pn si ri pa (nI 0) pcs sqa mvs los lsz lfs asz afs) t9) A) 0 0 A := by
  refine entM (by decide) (Nat.le_of_ble_eq_true rfl) ?_
  intro p e s m below meth c ls S0 hr hlocks hG hnm hB hl
  have hx := S0.1
  have hb := S0.2.1
  have hown := S0.2.2.2.1
  have hl : lv_has ls 2 [(0, .ref h0)] := hl
  obtain ⟨hP, hD, hK, hA, hE⟩ := hB
  have hS : va_S A s.heap s.heap [] := va_S.rf
  refine lv_aload_n hx hb dX4_unmake_0 rfl (lv_at hl 0 rfl) ?_
  refine va_get (D := D) (ci := 3) (v := .ref h2) (C := RX4) (T := TX4) (N := 6) hx hb hG wu_X4 hown hK hP 0 rfl rfl 1 (by decide) (hG _ wf_X4_20) (fun _ h9 => h9) rfl dX4_unmake_1 ?_
  refine chI (rnV (As := []) (rest := []) S0 (c_X2_takeBack_0 l) wm_X4_129 wi_X2_takeBack ws_X2_takeBack wn_X2 wc_X2_takeBack hd_X2_takeBack ⟨rfl, rfl, by decide, by decide⟩ IW.blind (va_recv hK hP (ci := 1) (q0 := 2) rfl rfl) (IW.at hP hD hK hA hE hS) hl.1 (Nat.le_of_ble_eq_true rfl) dX4_unmake_4 rfl ⟨by decide, by decide⟩) hS (fun r_1 u_2 H locs hu hP hD hS => ?_)
  subst hu
  have hP : va_P D classes (cW cI cJ h0 h1 h2 a0 a1 a2 a3 h3 a4 h4 a5 kn op ow tr fu kg co pn si ri pa (nI 0) pcs sqa mvs los lsz lfs asz afs) H := hP
  have hD : va_D A (cW cI cJ h0 h1 h2 a0 a1 a2 a3 h3 a4 h4 a5 kn op ow tr fu kg co pn si ri pa (nI 0) pcs sqa mvs los lsz lfs asz afs) := hD
  refine lv_istore_n (lv' := [(1, .int (-1)), (0, .ref h0)]) hx hb dX4_unmake_7 rfl hl (by decide) rfl (fun ls hl => ?_)
  refine lv_iload_n hx hb dX4_unmake_8 rfl (lv_at hl 0 rfl) ?_
  refine lv_iconst (v := (-1)) hx hb dX4_unmake_9 (by decide) ?_
  refine lv_icmp_eq (tgt := 18) hx hb dX4_unmake_10 (by decide) (fun c10 => ?_) (fun c10 => ?_)
  · skip
    refine lv_iload_n hx hb dX4_unmake_18 rfl (lv_at hl 0 rfl) ?_
    exact weI (()) hx hb hr hlocks dX4_unmake_19 rfl hP hD hK hA hE hS
  · skip
    exact absurd rfl c10
set_option maxHeartbeats 4000000 in
set_option maxRecDepth 100000 in
/-- unmake -/
theorem c_X4_unmake (l : Launch) {D : va_G} {cI cJ : ClassId} {A : Nat → Prop} {h0 h1 h2 a0 a1 a2 a3 h3 a4 h4 a5 : Nat} {kn op : Int32} {ow tr fu kg co pn : Int64} {ri pa : Int32} {pcs : Nat → Int32} {sqa : Nat → Int64} {mvs los : Nat → Int32} {lsz : Int32} {lfs : Nat → Int32} {asz : Int32} {afs : Nat → Int32} (bd : Nat → Nat) (hCP : CP pcs sqa bd) (s1 rt ps n q v : Nat) (hs1 : s1 < 2) (hr16 : rt < 16) (hp65 : ps < 65) (hn : n < 204) (hq : q < 64) (hv : v < 13) (f t k : Nat) (hf : f < 64) (ht : t < 64) (hk : k < 6) (hmv : mvs n = nI (f + 64 * t + 4096 * k)) (hlo : los n = losE v q rt ps) (hct : ict (tbB1 bd (1 - s1) f t k) f t = true → (t ≤ f → 4 ≤ f) ∧ rok f t < 64) : Met l yX4_unmake (Cond.code yX4_unmake cX4_unmake 2 (some .int) :: wsL_law) (rK 4) (va_Pc [.ref h0] (IW D cI cJ A (cW cI cJ h0 h1 h2 a0 a1 a2 a3 h3 a4 h4 a5 kn op ow tr fu kg co pn (nI s1) ri pa (nI (n + 1)) pcs sqa mvs los lsz lfs asz afs))) (va_Qi (fun r u => r = nI (f + 64 * t + 4096 * k) ∧ CP u.1 u.2 (tbB bd (1 - s1) f t k q v)) (fun (u : (Nat → Int32) × (Nat → Int64)) t9 => IW D cI cJ A (cW cI cJ h0 h1 h2 a0 a1 a2 a3 h3 a4 h4 a5 (bI false) op ow tr fu kg co pn (nI (1 - s1)) (nI rt) (pI ps) (nI n) u.1 u.2 mvs los lsz lfs asz afs) t9) A) 0 0 A := by
  refine entM (by decide) (Nat.le_of_ble_eq_true rfl) ?_
  intro p e s m below meth c ls S0 hr hlocks hG hnm hB hl
  have hx := S0.1
  have hb := S0.2.1
  have hown := S0.2.2.2.1
  have hl : lv_has ls 2 [(0, .ref h0)] := hl
  obtain ⟨hP, hD, hK, hA, hE⟩ := hB
  have hS : va_S A s.heap s.heap [] := va_S.rf
  refine lv_aload_n hx hb dX4_unmake_0 rfl (lv_at hl 0 rfl) ?_
  refine va_get (D := D) (ci := 3) (v := .ref h2) (C := RX4) (T := TX4) (N := 6) hx hb hG wu_X4 hown hK hP 0 rfl rfl 1 (by decide) (hG _ wf_X4_20) (fun _ h9 => h9) rfl dX4_unmake_1 ?_
  refine chI (rnV (As := []) (rest := []) S0 (c_X2_takeBack l bd hCP s1 rt ps n q v hs1 hr16 hp65 hn hq hv f t k hf ht hk hmv hlo hct) wm_X4_129 wi_X2_takeBack ws_X2_takeBack wn_X2 wc_X2_takeBack hd_X2_takeBack ⟨rfl, rfl, by decide, by decide⟩ IW.blind (va_recv hK hP (ci := 1) (q0 := 2) rfl rfl) (IW.at hP hD hK hA hE hS) hl.1 (Nat.le_of_ble_eq_true rfl) dX4_unmake_4 rfl ⟨by decide, by decide⟩) hS (fun r_1 u_2 H locs hu hP hD hS => ?_)
  obtain ⟨he9, hC9⟩ := hu
  subst he9
  have hP : va_P D classes (cW cI cJ h0 h1 h2 a0 a1 a2 a3 h3 a4 h4 a5 kn op ow tr fu kg co pn (nI (1 - s1)) (nI rt) (pI ps) (nI n) u_2.1 u_2.2 mvs los lsz lfs asz afs) H := hP
  have hD : va_D A (cW cI cJ h0 h1 h2 a0 a1 a2 a3 h3 a4 h4 a5 kn op ow tr fu kg co pn (nI (1 - s1)) (nI rt) (pI ps) (nI n) u_2.1 u_2.2 mvs los lsz lfs asz afs) := hD
  refine lv_istore_n (lv' := [(1, .int (nI (f + 64 * t + 4096 * k))), (0, .ref h0)]) hx hb dX4_unmake_7 rfl hl (by decide) rfl (fun ls hl => ?_)
  refine lv_iload_n hx hb dX4_unmake_8 rfl (lv_at hl 0 rfl) ?_
  refine lv_iconst (v := (-1)) hx hb dX4_unmake_9 (by decide) ?_
  refine lv_icmp_eq (tgt := 18) hx hb dX4_unmake_10 (by decide) (fun c10 => ?_) (fun c10 => ?_)
  · skip
    exact absurd c10 (nI_m1 (by omega))
  · skip
    refine lv_aload_n hx hb dX4_unmake_13 rfl (lv_at hl 1 rfl) ?_
    refine lv_iconst (v := (nI 0)) hx hb dX4_unmake_14 (by decide) ?_
    refine va_put (D := D) (ci := 3) (v := .int (bI false)) (ty := .boolean) (C := RX4) (T := TX4) (N := 6) hx hb hG wu_X4 tyX4 tyX4_ok nmX4 hown hK hP hD hS 0 rfl rfl 4 (by decide) (hG _ wf_X4_31) (fun _ h9 => h9) rfl (by decide +kernel) rfl rfl (Nat.le_of_ble_eq_true rfl) dX4_unmake_15 (fun H locs hP hD hS => ?_)
    have hP : va_P D classes (cW cI cJ h0 h1 h2 a0 a1 a2 a3 h3 a4 h4 a5 (bI false) op ow tr fu kg co pn (nI (1 - s1)) (nI rt) (pI ps) (nI n) u_2.1 u_2.2 mvs los lsz lfs asz afs) H := hP
    have hD : va_D A (cW cI cJ h0 h1 h2 a0 a1 a2 a3 h3 a4 h4 a5 (bI false) op ow tr fu kg co pn (nI (1 - s1)) (nI rt) (pI ps) (nI n) u_2.1 u_2.2 mvs los lsz lfs asz afs) := hD
    refine lv_iload_n hx hb dX4_unmake_18 rfl (lv_at hl 0 rfl) ?_
    exact weI ((u_2.1, u_2.2)) hx hb hr hlocks dX4_unmake_19 ⟨rfl, hC9⟩ hP hD hK hA hE hS

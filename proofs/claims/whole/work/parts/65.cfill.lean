theorem dX3_fill_0 : decode cX3_fill 0 = .ok (.aload_n 1, 1) := by decide +kernel
theorem dX3_fill_1 : decode cX3_fill 1 = .ok (.iconst 0, 1) := by decide +kernel
theorem dX3_fill_2 : decode cX3_fill 2 = .ok (.putfield 59, 3) := by decide +kernel
theorem dX3_fill_5 : decode cX3_fill 5 = .ok (.aload_n 0, 1) := by decide +kernel
theorem dX3_fill_6 : decode cX3_fill 6 = .ok (.invokevirtual 37, 3) := by decide +kernel
theorem dX3_fill_9 : decode cX3_fill 9 = .ok (.aload_n 0, 1) := by decide +kernel
theorem dX3_fill_10 : decode cX3_fill 10 = .ok (.getfield 18, 3) := by decide +kernel
theorem dX3_fill_13 : decode cX3_fill 13 = .ok (.lstore_n 2, 1) := by decide +kernel
theorem dX3_fill_14 : decode cX3_fill 14 = .ok (.lload_n 2, 1) := by decide +kernel
theorem dX3_fill_15 : decode cX3_fill 15 = .ok (.invokestatic 40, 3) := by decide +kernel
theorem dX3_fill_18 : decode cX3_fill 18 = .ok (.istore 4, 2) := by decide +kernel
theorem dX3_fill_20 : decode cX3_fill 20 = .ok (.iconst 0, 1) := by decide +kernel
theorem dX3_fill_21 : decode cX3_fill 21 = .ok (.istore 5, 2) := by decide +kernel
theorem dX3_fill_23 : decode cX3_fill 23 = .ok (.iload 5, 2) := by decide +kernel
theorem dX3_fill_25 : decode cX3_fill 25 = .ok (.iload 4, 2) := by decide +kernel
theorem dX3_fill_27 : decode cX3_fill 27 = .ok (.if_icmp .ge 37, 3) := by decide +kernel
theorem dX3_fill_30 : decode cX3_fill 30 = .ok (.lload_n 2, 1) := by decide +kernel
theorem dX3_fill_31 : decode cX3_fill 31 = .ok (.lload_n 2, 1) := by decide +kernel
theorem dX3_fill_32 : decode cX3_fill 32 = .ok (.lneg, 1) := by decide +kernel
theorem dX3_fill_33 : decode cX3_fill 33 = .ok (.land, 1) := by decide +kernel
theorem dX3_fill_34 : decode cX3_fill 34 = .ok (.invokestatic 46, 3) := by decide +kernel
theorem dX3_fill_37 : decode cX3_fill 37 = .ok (.istore 6, 2) := by decide +kernel
theorem dX3_fill_39 : decode cX3_fill 39 = .ok (.lload_n 2, 1) := by decide +kernel
theorem dX3_fill_40 : decode cX3_fill 40 = .ok (.lload_n 2, 1) := by decide +kernel
theorem dX3_fill_41 : decode cX3_fill 41 = .ok (.lconst 1, 1) := by decide +kernel
theorem dX3_fill_42 : decode cX3_fill 42 = .ok (.lsub, 1) := by decide +kernel
theorem dX3_fill_43 : decode cX3_fill 43 = .ok (.land, 1) := by decide +kernel
theorem dX3_fill_44 : decode cX3_fill 44 = .ok (.lstore_n 2, 1) := by decide +kernel
theorem dX3_fill_45 : decode cX3_fill 45 = .ok (.aload_n 0, 1) := by decide +kernel
theorem dX3_fill_46 : decode cX3_fill 46 = .ok (.aload_n 1, 1) := by decide +kernel
theorem dX3_fill_47 : decode cX3_fill 47 = .ok (.iload 6, 2) := by decide +kernel
theorem dX3_fill_49 : decode cX3_fill 49 = .ok (.aload_n 0, 1) := by decide +kernel
theorem dX3_fill_50 : decode cX3_fill 50 = .ok (.iload 6, 2) := by decide +kernel
theorem dX3_fill_52 : decode cX3_fill 52 = .ok (.invokevirtual 49, 3) := by decide +kernel
theorem dX3_fill_55 : decode cX3_fill 55 = .ok (.invokevirtual 65, 3) := by decide +kernel
theorem dX3_fill_58 : decode cX3_fill 58 = .ok (.iinc 5 1, 3) := by decide +kernel
theorem dX3_fill_61 : decode cX3_fill 61 = .ok (.goto (-38), 3) := by decide +kernel
theorem dX3_fill_64 : decode cX3_fill 64 = .ok (.return_, 1) := by decide +kernel
theorem hd_X3_fill : yX3_fill.cls ≠ "java/lang/invoke/MethodHandle" ∧ yX3_fill.cls ≠ "java/lang/invoke/VarHandle" ∧ (parseMethodDescriptor yX3_fill.desc).map (fun d => d.parameters.length) = some 1 := by decide +kernel
set_option maxHeartbeats 4000000 in
set_option maxRecDepth 100000 in
/-- fill -/
theorem c_X3_fill_L (l : Launch) {D : va_G} {cI cJ : ClassId} {A : Nat → Prop} {h0 h1 h2 a0 a1 a2 a3 h3 a4 h4 a5 : Nat} {kn op : Int32} {ow tr fu kg co pn : Int64} {ma : Int32} {pcs : Nat → Int32} {sqa : Nat → Int64} {mvs los : Nat → Int32} {lsz : Int32} {lfs : Nat → Int32} {asz : Int32} {afs : Nat → Int32} (bd : Nat → Nat) (hCP : CP pcs sqa bd) (sd rt ps : Nat) (hs2 : sd < 2) (hr16 : rt < 16) (hp65 : ps < 65) (hlen : (fil bd sd rt ps).length ≤ 700) : Met l yX3_fill (Cond.code yX3_fill cX3_fill 7 none :: wsL_law) (rK 4) (va_Pc [.ref h1, .ref h3] (IW D cI cJ A (cW cI cJ h0 h1 h2 a0 a1 a2 a3 h3 a4 h4 a5 kn op ow tr fu kg co pn (nI sd) (nI rt) (pI ps) ma pcs sqa mvs los lsz lfs asz afs))) (va_Qv (fun u => LI u (fil bd sd rt ps)) (fun (u : Nat → Int32) t9 => IW D cI cJ A (cW cI cJ h0 h1 h2 a0 a1 a2 a3 h3 a4 h4 a5 kn op (ownS bd sd) (thrS bd sd) (fulS bd sd) (kngS bd sd) (covS bd sd) (pinS bd sd) (nI sd) (nI rt) (pI ps) ma pcs sqa mvs los (nI (fil bd sd rt ps).length) u asz afs) t9) A) 0 0 A := by
  refine entM (by decide) (Nat.le_of_ble_eq_true rfl) ?_
  intro p e s m below meth c ls S0 hr hlocks hG hnm hB hl
  have hx := S0.1
  have hb := S0.2.1
  have hown := S0.2.2.2.1
  have hl : lv_has ls 7 [(0, .ref h1), (1, .ref h3)] := hl
  obtain ⟨hP, hD, hK, hA, hE⟩ := hB
  have hS : va_S A s.heap s.heap [] := va_S.rf
  have hpl := pop_le (ownS bd sd)
  have hll : ∀ j, j ≤ pop (ownS bd sd) → (fiT bd sd rt ps j).length ≤ 700 := fun j hj => Nat.le_trans (fiT_le hj) hlen
  refine lv_aload_n hx hb dX3_fill_0 rfl (lv_at hl 1 rfl) ?_
  refine lv_iconst (v := (nI 0)) hx hb dX3_fill_1 (by decide) ?_
  refine va_put (D := D) (ci := 0) (v := .int (nI 0)) (ty := .int) (C := RX1) (T := TX1) (N := 2) hx hb hG wu_X1 tyX1 tyX1_ok nmX1 hown hK hP hD hS 7 rfl rfl 1 (by decide) (hG _ wf_X3_59) (fun _ h9 => h9) rfl (by decide +kernel) rfl rfl (Nat.le_of_ble_eq_true rfl) dX3_fill_2 (fun H locs hP hD hS => ?_)
  have hP : va_P D classes (cW cI cJ h0 h1 h2 a0 a1 a2 a3 h3 a4 h4 a5 kn op ow tr fu kg co pn (nI sd) (nI rt) (pI ps) ma pcs sqa mvs los (nI 0) lfs asz afs) H := hP
  have hD : va_D A (cW cI cJ h0 h1 h2 a0 a1 a2 a3 h3 a4 h4 a5 kn op ow tr fu kg co pn (nI sd) (nI rt) (pI ps) ma pcs sqa mvs los (nI 0) lfs asz afs) := hD
  refine lv_aload_n hx hb dX3_fill_5 rfl (lv_at hl 0 rfl) ?_
  refine chV (rnV (As := []) (rest := []) S0 (c_X3_survey l bd hCP sd hs2) wm_X3_37 wi_X3_survey ws_X3_survey wn_X3 wc_X3_survey hd_X3_survey ⟨rfl, rfl, by decide, by decide⟩ IW.blind (va_recv hK hP (ci := 2) (q0 := 1) rfl rfl) (IW.at hP hD hK hA hE hS) hl.1 (Nat.le_of_ble_eq_true rfl) dX3_fill_6 rfl ⟨by decide, by decide⟩) hS (fun u_2 H locs hu hP hD hS => ?_)
  obtain ⟨hu1, hu2⟩ := hu
  rw [hu1, hu2] at hP hD
  have hP : va_P D classes (cW cI cJ h0 h1 h2 a0 a1 a2 a3 h3 a4 h4 a5 kn op (ownS bd sd) (thrS bd sd) (fulS bd sd) (kngS bd sd) (covS bd sd) (pinS bd sd) (nI sd) (nI rt) (pI ps) ma pcs sqa mvs los (nI 0) lfs asz afs) H := hP
  have hD : va_D A (cW cI cJ h0 h1 h2 a0 a1 a2 a3 h3 a4 h4 a5 kn op (ownS bd sd) (thrS bd sd) (fulS bd sd) (kngS bd sd) (covS bd sd) (pinS bd sd) (nI sd) (nI rt) (pI ps) ma pcs sqa mvs los (nI 0) lfs asz afs) := hD
  refine lv_aload_n hx hb dX3_fill_9 rfl (lv_at hl 0 rfl) ?_
  refine va_get (D := D) (ci := 2) (v := .long (ownS bd sd)) (C := RX3) (T := TX3) (N := 7) hx hb hG wu_X3 hown hK hP 1 rfl rfl 1 (by decide) (hG _ wf_X3_18) (fun _ h9 => h9) rfl dX3_fill_10 ?_
  refine W.top (y := .long (rmb (ownS bd sd) 0)) (congrArg Value.long rfl) ?_
  refine lv_lstore_n (lv' := [(2, .long (rmb (ownS bd sd) 0)), (0, .ref h1), (1, .ref h3)]) hx hb dX3_fill_13 rfl hl (by decide) rfl (fun ls hl => ?_)
  refine lv_lload_n hx hb dX3_fill_14 rfl (lv_at hl 0 rfl) ?_
  refine roI (rnS (As := [.long (rmb (ownS bd sd) 0)]) (rest := []) S0 (c_J13_bitCount_95d88 l (rmb (ownS bd sd) 0)) wm_X3_40 wt_J13_bitCount_95d88 wn_J13 wc_J13_bitCount_95d88 hd_J13_bitCount_95d88 ⟨rfl, rfl, by decide, by decide⟩ True.blind (fun _ _ _ => trivial) hl.1 (Nat.le_of_ble_eq_true rfl) dX3_fill_15 rfl ⟨by decide, by decide⟩) (fun r_3 hr_3 => ?_)
  subst hr_3
  refine W.top (y := .int (nI (pop (ownS bd sd)))) (congrArg Value.int (bcE_pop _)) ?_
  refine lv_istore (lv' := [(4, .int (nI (pop (ownS bd sd)))), (2, .long (rmb (ownS bd sd) 0)), (0, .ref h1), (1, .ref h3)]) hx hb dX3_fill_18 hl (by decide) rfl (fun ls hl => ?_)
  refine lv_iconst (v := (nI 0)) hx hb dX3_fill_20 (by decide) ?_
  refine lv_istore (lv' := [(5, .int (nI 0)), (4, .int (nI (pop (ownS bd sd)))), (2, .long (rmb (ownS bd sd) 0)), (0, .ref h1), (1, .ref h3)]) hx hb dX3_fill_21 hl (by decide) rfl (fun ls hl => ?_)
  refine lpW (σ := (Nat) × (Nat → Int32)) 23 7 [] (fun x9 => [(0, .ref h1), (1, .ref h3), (2, .long (rmb (ownS bd sd) x9.1)), (4, .int (nI (pop (ownS bd sd)))), (5, .int (nI x9.1))]) (fun x9 => cW cI cJ h0 h1 h2 a0 a1 a2 a3 h3 a4 h4 a5 kn op (ownS bd sd) (thrS bd sd) (fulS bd sd) (kngS bd sd) (covS bd sd) (pinS bd sd) (nI sd) (nI rt) (pI ps) ma pcs sqa mvs los (nI (fiT bd sd rt ps x9.1).length) x9.2 asz afs) (fun x9 => x9.1 ≤ pop (ownS bd sd) ∧ LI x9.2 (fiT bd sd rt ps x9.1)) (fun x9 => pop (ownS bd sd) - x9.1) (0, lfs) ⟨Nat.zero_le _, LI_nil⟩ (lv_sub hl [3, 4, 2, 1, 0] rfl) hP hD hS ?_
  clear hP hD hS hl ls
  rintro ⟨i, M⟩ H locs hI hP hD hS ih_23 ls hl
  try dsimp only at hI ih_23 hl hP hD
  obtain ⟨hi, hLI⟩ := hI
  have hl1 := hll i hi
  refine lv_iload hx hb dX3_fill_23 (lv_at hl 4 rfl) ?_
  refine lv_iload hx hb dX3_fill_25 (lv_at hl 3 rfl) ?_
  refine ln_icmp_ge (tgt := 64) hx hb dX3_fill_27 (by decide) (by omega) (by omega) (fun c27 => ?_) (fun c27 => ?_)
  · skip
    have hie : i = pop (ownS bd sd) := by omega
    rw [hie, fiT_all] at hP hD hLI
    exact weV (M) hx hb hr hlocks dX3_fill_64 hLI hP hD hK hA hE hS
  · skip
    have hi2 : i < pop (ownS bd sd) := by omega
    obtain ⟨q1, q2, q3, q4⟩ := sq_low hi2
    have hl2 := hll (i + 1) (by omega)
    have hls := fiT_s (rt := rt) (ps := ps) hi2
    generalize hf : (bl (ownS bd sd)).getD i 0 = f at q1 q2 q3 q4 hls
    rw [hls] at hl2
    refine lv_lload_n hx hb dX3_fill_30 rfl (lv_at hl 2 rfl) ?_
    refine lv_lload_n hx hb dX3_fill_31 rfl (lv_at hl 2 rfl) ?_
    refine lv_lneg hx hb dX3_fill_32 ?_
    refine lv_land hx hb dX3_fill_33 ?_
    refine roI (rnSN (host := RX4) (As := [.long ((rmb (ownS bd sd) i) &&& (-(rmb (ownS bd sd) i)))]) (rest := []) S0 (c_X4_squareOf l ((rmb (ownS bd sd) i) &&& (-(rmb (ownS bd sd) i)))) (nl_X3_46 hE.1) wt_X4_squareOf wn_X4 wc_X4_squareOf hd_X4_squareOf ⟨rfl, rfl, by decide, by decide⟩ True.blind (fun _ _ _ => trivial) hl.1 (Nat.le_of_ble_eq_true rfl) dX3_fill_34 rfl ⟨by decide, by decide⟩) (fun r_4 hr_4 => ?_)
    subst hr_4
    refine W.top (y := .int (nI f)) (congrArg Value.int q1) ?_
    refine lv_istore (lv' := [(6, .int (nI f)), (0, .ref h1), (1, .ref h3), (2, .long (rmb (ownS bd sd) i)), (4, .int (nI (pop (ownS bd sd)))), (5, .int (nI i))]) hx hb dX3_fill_37 hl (by decide) rfl (fun ls hl => ?_)
    refine lv_lload_n hx hb dX3_fill_39 rfl (lv_at hl 3 rfl) ?_
    refine lv_lload_n hx hb dX3_fill_40 rfl (lv_at hl 3 rfl) ?_
    refine lv_lconst (v := 1) hx hb dX3_fill_41 (by decide) ?_
    refine lv_lsub hx hb dX3_fill_42 ?_
    refine lv_land hx hb dX3_fill_43 ?_
    refine W.top (y := .long (rmb (ownS bd sd) (i + 1))) (congrArg Value.long rfl) ?_
    refine lv_lstore_n (lv' := [(2, .long (rmb (ownS bd sd) (i + 1))), (6, .int (nI f)), (0, .ref h1), (1, .ref h3), (4, .int (nI (pop (ownS bd sd)))), (5, .int (nI i))]) hx hb dX3_fill_44 rfl hl (by decide) rfl (fun ls hl => ?_)
    refine lv_aload_n hx hb dX3_fill_45 rfl (lv_at hl 2 rfl) ?_
    refine lv_aload_n hx hb dX3_fill_46 rfl (lv_at hl 3 rfl) ?_
    refine lv_iload hx hb dX3_fill_47 (lv_at hl 1 rfl) ?_
    refine lv_aload_n hx hb dX3_fill_49 rfl (lv_at hl 2 rfl) ?_
    refine lv_iload hx hb dX3_fill_50 (lv_at hl 1 rfl) ?_
    refine roL (rnV (As := [.int (nI f)]) (rest := [.int (nI f), .ref h3, .ref h1]) S0 (c_X3_targetsOf l bd hCP sd rt ps hs2 hr16 hp65 f (by omega)) wm_X3_49 wi_X3_targetsOf ws_X3_targetsOf wn_X3 wc_X3_targetsOf hd_X3_targetsOf ⟨rfl, rfl, by decide, by decide⟩ IW.blind (va_recv hK hP (ci := 2) (q0 := 1) rfl rfl) (IW.at hP hD hK hA hE hS) hl.1 (Nat.le_of_ble_eq_true rfl) dX3_fill_52 rfl ⟨by decide, by decide⟩) (fun r_5 hr_5 => ?_)
    subst hr_5
    refine chV (rnV (As := [.ref h3, .int (nI f), .long (tgt bd sd rt ps f)]) (rest := []) S0 (c_X3_addMoves_L l bd hCP f (by omega) (tgt bd sd rt ps f) (fiT bd sd rt ps i) hLI (by omega)) wm_X3_65 wi_X3_addMoves ws_X3_addMoves wn_X3 wc_X3_addMoves hd_X3_addMoves ⟨rfl, rfl, by decide, by decide⟩ IW.blind (va_recv hK hP (ci := 2) (q0 := 1) rfl rfl) (IW.at hP hD hK hA hE hS) hl.1 (Nat.le_of_ble_eq_true rfl) dX3_fill_55 rfl ⟨by decide, by decide⟩) hS (fun u5 H locs hu hP hD hS => ?_)
    have hLI := hu
    have hP : va_P D classes (cW cI cJ h0 h1 h2 a0 a1 a2 a3 h3 a4 h4 a5 kn op (ownS bd sd) (thrS bd sd) (fulS bd sd) (kngS bd sd) (covS bd sd) (pinS bd sd) (nI sd) (nI rt) (pI ps) ma pcs sqa mvs los (nI ((fiT bd sd rt ps i) ++ amv bd f (tgt bd sd rt ps f)).length) u5 asz afs) H := hP
    have hD : va_D A (cW cI cJ h0 h1 h2 a0 a1 a2 a3 h3 a4 h4 a5 kn op (ownS bd sd) (thrS bd sd) (fulS bd sd) (kngS bd sd) (covS bd sd) (pinS bd sd) (nI sd) (nI rt) (pI ps) ma pcs sqa mvs los (nI ((fiT bd sd rt ps i) ++ amv bd f (tgt bd sd rt ps f)).length) u5 asz afs) := hD
    rw [← hls] at hP hD hLI
    have hP : va_P D classes (cW cI cJ h0 h1 h2 a0 a1 a2 a3 h3 a4 h4 a5 kn op (ownS bd sd) (thrS bd sd) (fulS bd sd) (kngS bd sd) (covS bd sd) (pinS bd sd) (nI sd) (nI rt) (pI ps) ma pcs sqa mvs los (nI (fiT bd sd rt ps (i + 1)).length) u5 asz afs) H := hP
    have hD : va_D A (cW cI cJ h0 h1 h2 a0 a1 a2 a3 h3 a4 h4 a5 kn op (ownS bd sd) (thrS bd sd) (fulS bd sd) (kngS bd sd) (covS bd sd) (pinS bd sd) (nI sd) (nI rt) (pI ps) ma pcs sqa mvs los (nI (fiT bd sd rt ps (i + 1)).length) u5 asz afs) := hD
    refine lv_iinc (v := (nI (i + 1))) (lv' := [(5, .int (nI (i + 1))), (2, .long (rmb (ownS bd sd) (i + 1))), (6, .int (nI f)), (0, .ref h1), (1, .ref h3), (4, .int (nI (pop (ownS bd sd))))]) hx hb dX3_fill_58 hl (k := 5) rfl (show nI i + Int32.ofInt 1 = nI (i + 1) from nI_add _ 1) (by decide) rfl (fun ls hl => ?_)
    refine lv_goto (tgt := 23) hx hb dX3_fill_61 (by decide) ?_
    exact ih_23 ((i + 1), u5) _ _ ⟨by omega, hLI⟩ (by (try dsimp only); omega) hP hD hS ls (lv_sub hl [3, 4, 1, 5, 0] rfl)
set_option maxHeartbeats 4000000 in
set_option maxRecDepth 100000 in
/-- fill -/
theorem c_X3_fill_A (l : Launch) {D : va_G} {cI cJ : ClassId} {A : Nat → Prop} {h0 h1 h2 a0 a1 a2 a3 h3 a4 h4 a5 : Nat} {kn op : Int32} {ow tr fu kg co pn : Int64} {ma : Int32} {pcs : Nat → Int32} {sqa : Nat → Int64} {mvs los : Nat → Int32} {lsz : Int32} {lfs : Nat → Int32} {asz : Int32} {afs : Nat → Int32} (bd : Nat → Nat) (hCP : CP pcs sqa bd) (sd rt ps : Nat) (hs2 : sd < 2) (hr16 : rt < 16) (hp65 : ps < 65) (hlen : (fil bd sd rt ps).length ≤ 700) : Met l yX3_fill (Cond.code yX3_fill cX3_fill 7 none :: wsL_law) (rK 4) (va_Pc [.ref h1, .ref h4] (IW D cI cJ A (cW cI cJ h0 h1 h2 a0 a1 a2 a3 h3 a4 h4 a5 kn op ow tr fu kg co pn (nI sd) (nI rt) (pI ps) ma pcs sqa mvs los lsz lfs asz afs))) (va_Qv (fun u => LI u (fil bd sd rt ps)) (fun (u : Nat → Int32) t9 => IW D cI cJ A (cW cI cJ h0 h1 h2 a0 a1 a2 a3 h3 a4 h4 a5 kn op (ownS bd sd) (thrS bd sd) (fulS bd sd) (kngS bd sd) (covS bd sd) (pinS bd sd) (nI sd) (nI rt) (pI ps) ma pcs sqa mvs los lsz lfs (nI (fil bd sd rt ps).length) u) t9) A) 0 0 A := by
  refine entM (by decide) (Nat.le_of_ble_eq_true rfl) ?_
  intro p e s m below meth c ls S0 hr hlocks hG hnm hB hl
  have hx := S0.1
  have hb := S0.2.1
  have hown := S0.2.2.2.1
  have hl : lv_has ls 7 [(0, .ref h1), (1, .ref h4)] := hl
  obtain ⟨hP, hD, hK, hA, hE⟩ := hB
  have hS : va_S A s.heap s.heap [] := va_S.rf
  have hpl := pop_le (ownS bd sd)
  have hll : ∀ j, j ≤ pop (ownS bd sd) → (fiT bd sd rt ps j).length ≤ 700 := fun j hj => Nat.le_trans (fiT_le hj) hlen
  refine lv_aload_n hx hb dX3_fill_0 rfl (lv_at hl 1 rfl) ?_
  refine lv_iconst (v := (nI 0)) hx hb dX3_fill_1 (by decide) ?_
  refine va_put (D := D) (ci := 0) (v := .int (nI 0)) (ty := .int) (C := RX1) (T := TX1) (N := 2) hx hb hG wu_X1 tyX1 tyX1_ok nmX1 hown hK hP hD hS 9 rfl rfl 1 (by decide) (hG _ wf_X3_59) (fun _ h9 => h9) rfl (by decide +kernel) rfl rfl (Nat.le_of_ble_eq_true rfl) dX3_fill_2 (fun H locs hP hD hS => ?_)
  have hP : va_P D classes (cW cI cJ h0 h1 h2 a0 a1 a2 a3 h3 a4 h4 a5 kn op ow tr fu kg co pn (nI sd) (nI rt) (pI ps) ma pcs sqa mvs los lsz lfs (nI 0) afs) H := hP
  have hD : va_D A (cW cI cJ h0 h1 h2 a0 a1 a2 a3 h3 a4 h4 a5 kn op ow tr fu kg co pn (nI sd) (nI rt) (pI ps) ma pcs sqa mvs los lsz lfs (nI 0) afs) := hD
  refine lv_aload_n hx hb dX3_fill_5 rfl (lv_at hl 0 rfl) ?_
  refine chV (rnV (As := []) (rest := []) S0 (c_X3_survey l bd hCP sd hs2) wm_X3_37 wi_X3_survey ws_X3_survey wn_X3 wc_X3_survey hd_X3_survey ⟨rfl, rfl, by decide, by decide⟩ IW.blind (va_recv hK hP (ci := 2) (q0 := 1) rfl rfl) (IW.at hP hD hK hA hE hS) hl.1 (Nat.le_of_ble_eq_true rfl) dX3_fill_6 rfl ⟨by decide, by decide⟩) hS (fun u_2 H locs hu hP hD hS => ?_)
  obtain ⟨hu1, hu2⟩ := hu
  rw [hu1, hu2] at hP hD
  have hP : va_P D classes (cW cI cJ h0 h1 h2 a0 a1 a2 a3 h3 a4 h4 a5 kn op (ownS bd sd) (thrS bd sd) (fulS bd sd) (kngS bd sd) (covS bd sd) (pinS bd sd) (nI sd) (nI rt) (pI ps) ma pcs sqa mvs los lsz lfs (nI 0) afs) H := hP
  have hD : va_D A (cW cI cJ h0 h1 h2 a0 a1 a2 a3 h3 a4 h4 a5 kn op (ownS bd sd) (thrS bd sd) (fulS bd sd) (kngS bd sd) (covS bd sd) (pinS bd sd) (nI sd) (nI rt) (pI ps) ma pcs sqa mvs los lsz lfs (nI 0) afs) := hD
  refine lv_aload_n hx hb dX3_fill_9 rfl (lv_at hl 0 rfl) ?_
  refine va_get (D := D) (ci := 2) (v := .long (ownS bd sd)) (C := RX3) (T := TX3) (N := 7) hx hb hG wu_X3 hown hK hP 1 rfl rfl 1 (by decide) (hG _ wf_X3_18) (fun _ h9 => h9) rfl dX3_fill_10 ?_
  refine W.top (y := .long (rmb (ownS bd sd) 0)) (congrArg Value.long rfl) ?_
  refine lv_lstore_n (lv' := [(2, .long (rmb (ownS bd sd) 0)), (0, .ref h1), (1, .ref h4)]) hx hb dX3_fill_13 rfl hl (by decide) rfl (fun ls hl => ?_)
  refine lv_lload_n hx hb dX3_fill_14 rfl (lv_at hl 0 rfl) ?_
  refine roI (rnS (As := [.long (rmb (ownS bd sd) 0)]) (rest := []) S0 (c_J13_bitCount_95d88 l (rmb (ownS bd sd) 0)) wm_X3_40 wt_J13_bitCount_95d88 wn_J13 wc_J13_bitCount_95d88 hd_J13_bitCount_95d88 ⟨rfl, rfl, by decide, by decide⟩ True.blind (fun _ _ _ => trivial) hl.1 (Nat.le_of_ble_eq_true rfl) dX3_fill_15 rfl ⟨by decide, by decide⟩) (fun r_3 hr_3 => ?_)
  subst hr_3
  refine W.top (y := .int (nI (pop (ownS bd sd)))) (congrArg Value.int (bcE_pop _)) ?_
  refine lv_istore (lv' := [(4, .int (nI (pop (ownS bd sd)))), (2, .long (rmb (ownS bd sd) 0)), (0, .ref h1), (1, .ref h4)]) hx hb dX3_fill_18 hl (by decide) rfl (fun ls hl => ?_)
  refine lv_iconst (v := (nI 0)) hx hb dX3_fill_20 (by decide) ?_
  refine lv_istore (lv' := [(5, .int (nI 0)), (4, .int (nI (pop (ownS bd sd)))), (2, .long (rmb (ownS bd sd) 0)), (0, .ref h1), (1, .ref h4)]) hx hb dX3_fill_21 hl (by decide) rfl (fun ls hl => ?_)
  refine lpW (σ := (Nat) × (Nat → Int32)) 23 7 [] (fun x9 => [(0, .ref h1), (1, .ref h4), (2, .long (rmb (ownS bd sd) x9.1)), (4, .int (nI (pop (ownS bd sd)))), (5, .int (nI x9.1))]) (fun x9 => cW cI cJ h0 h1 h2 a0 a1 a2 a3 h3 a4 h4 a5 kn op (ownS bd sd) (thrS bd sd) (fulS bd sd) (kngS bd sd) (covS bd sd) (pinS bd sd) (nI sd) (nI rt) (pI ps) ma pcs sqa mvs los lsz lfs (nI (fiT bd sd rt ps x9.1).length) x9.2) (fun x9 => x9.1 ≤ pop (ownS bd sd) ∧ LI x9.2 (fiT bd sd rt ps x9.1)) (fun x9 => pop (ownS bd sd) - x9.1) (0, afs) ⟨Nat.zero_le _, LI_nil⟩ (lv_sub hl [3, 4, 2, 1, 0] rfl) hP hD hS ?_
  clear hP hD hS hl ls
  rintro ⟨i, M⟩ H locs hI hP hD hS ih_23 ls hl
  try dsimp only at hI ih_23 hl hP hD
  obtain ⟨hi, hLI⟩ := hI
  have hl1 := hll i hi
  refine lv_iload hx hb dX3_fill_23 (lv_at hl 4 rfl) ?_
  refine lv_iload hx hb dX3_fill_25 (lv_at hl 3 rfl) ?_
  refine ln_icmp_ge (tgt := 64) hx hb dX3_fill_27 (by decide) (by omega) (by omega) (fun c27 => ?_) (fun c27 => ?_)
  · skip
    have hie : i = pop (ownS bd sd) := by omega
    rw [hie, fiT_all] at hP hD hLI
    exact weV (M) hx hb hr hlocks dX3_fill_64 hLI hP hD hK hA hE hS
  · skip
    have hi2 : i < pop (ownS bd sd) := by omega
    obtain ⟨q1, q2, q3, q4⟩ := sq_low hi2
    have hl2 := hll (i + 1) (by omega)
    have hls := fiT_s (rt := rt) (ps := ps) hi2
    generalize hf : (bl (ownS bd sd)).getD i 0 = f at q1 q2 q3 q4 hls
    rw [hls] at hl2
    refine lv_lload_n hx hb dX3_fill_30 rfl (lv_at hl 2 rfl) ?_
    refine lv_lload_n hx hb dX3_fill_31 rfl (lv_at hl 2 rfl) ?_
    refine lv_lneg hx hb dX3_fill_32 ?_
    refine lv_land hx hb dX3_fill_33 ?_
    refine roI (rnSN (host := RX4) (As := [.long ((rmb (ownS bd sd) i) &&& (-(rmb (ownS bd sd) i)))]) (rest := []) S0 (c_X4_squareOf l ((rmb (ownS bd sd) i) &&& (-(rmb (ownS bd sd) i)))) (nl_X3_46 hE.1) wt_X4_squareOf wn_X4 wc_X4_squareOf hd_X4_squareOf ⟨rfl, rfl, by decide, by decide⟩ True.blind (fun _ _ _ => trivial) hl.1 (Nat.le_of_ble_eq_true rfl) dX3_fill_34 rfl ⟨by decide, by decide⟩) (fun r_4 hr_4 => ?_)
    subst hr_4
    refine W.top (y := .int (nI f)) (congrArg Value.int q1) ?_
    refine lv_istore (lv' := [(6, .int (nI f)), (0, .ref h1), (1, .ref h4), (2, .long (rmb (ownS bd sd) i)), (4, .int (nI (pop (ownS bd sd)))), (5, .int (nI i))]) hx hb dX3_fill_37 hl (by decide) rfl (fun ls hl => ?_)
    refine lv_lload_n hx hb dX3_fill_39 rfl (lv_at hl 3 rfl) ?_
    refine lv_lload_n hx hb dX3_fill_40 rfl (lv_at hl 3 rfl) ?_
    refine lv_lconst (v := 1) hx hb dX3_fill_41 (by decide) ?_
    refine lv_lsub hx hb dX3_fill_42 ?_
    refine lv_land hx hb dX3_fill_43 ?_
    refine W.top (y := .long (rmb (ownS bd sd) (i + 1))) (congrArg Value.long rfl) ?_
    refine lv_lstore_n (lv' := [(2, .long (rmb (ownS bd sd) (i + 1))), (6, .int (nI f)), (0, .ref h1), (1, .ref h4), (4, .int (nI (pop (ownS bd sd)))), (5, .int (nI i))]) hx hb dX3_fill_44 rfl hl (by decide) rfl (fun ls hl => ?_)
    refine lv_aload_n hx hb dX3_fill_45 rfl (lv_at hl 2 rfl) ?_
    refine lv_aload_n hx hb dX3_fill_46 rfl (lv_at hl 3 rfl) ?_
    refine lv_iload hx hb dX3_fill_47 (lv_at hl 1 rfl) ?_
    refine lv_aload_n hx hb dX3_fill_49 rfl (lv_at hl 2 rfl) ?_
    refine lv_iload hx hb dX3_fill_50 (lv_at hl 1 rfl) ?_
    refine roL (rnV (As := [.int (nI f)]) (rest := [.int (nI f), .ref h4, .ref h1]) S0 (c_X3_targetsOf l bd hCP sd rt ps hs2 hr16 hp65 f (by omega)) wm_X3_49 wi_X3_targetsOf ws_X3_targetsOf wn_X3 wc_X3_targetsOf hd_X3_targetsOf ⟨rfl, rfl, by decide, by decide⟩ IW.blind (va_recv hK hP (ci := 2) (q0 := 1) rfl rfl) (IW.at hP hD hK hA hE hS) hl.1 (Nat.le_of_ble_eq_true rfl) dX3_fill_52 rfl ⟨by decide, by decide⟩) (fun r_5 hr_5 => ?_)
    subst hr_5
    refine chV (rnV (As := [.ref h4, .int (nI f), .long (tgt bd sd rt ps f)]) (rest := []) S0 (c_X3_addMoves_A l bd hCP f (by omega) (tgt bd sd rt ps f) (fiT bd sd rt ps i) hLI (by omega)) wm_X3_65 wi_X3_addMoves ws_X3_addMoves wn_X3 wc_X3_addMoves hd_X3_addMoves ⟨rfl, rfl, by decide, by decide⟩ IW.blind (va_recv hK hP (ci := 2) (q0 := 1) rfl rfl) (IW.at hP hD hK hA hE hS) hl.1 (Nat.le_of_ble_eq_true rfl) dX3_fill_55 rfl ⟨by decide, by decide⟩) hS (fun u5 H locs hu hP hD hS => ?_)
    have hLI := hu
    have hP : va_P D classes (cW cI cJ h0 h1 h2 a0 a1 a2 a3 h3 a4 h4 a5 kn op (ownS bd sd) (thrS bd sd) (fulS bd sd) (kngS bd sd) (covS bd sd) (pinS bd sd) (nI sd) (nI rt) (pI ps) ma pcs sqa mvs los lsz lfs (nI ((fiT bd sd rt ps i) ++ amv bd f (tgt bd sd rt ps f)).length) u5) H := hP
    have hD : va_D A (cW cI cJ h0 h1 h2 a0 a1 a2 a3 h3 a4 h4 a5 kn op (ownS bd sd) (thrS bd sd) (fulS bd sd) (kngS bd sd) (covS bd sd) (pinS bd sd) (nI sd) (nI rt) (pI ps) ma pcs sqa mvs los lsz lfs (nI ((fiT bd sd rt ps i) ++ amv bd f (tgt bd sd rt ps f)).length) u5) := hD
    rw [← hls] at hP hD hLI
    have hP : va_P D classes (cW cI cJ h0 h1 h2 a0 a1 a2 a3 h3 a4 h4 a5 kn op (ownS bd sd) (thrS bd sd) (fulS bd sd) (kngS bd sd) (covS bd sd) (pinS bd sd) (nI sd) (nI rt) (pI ps) ma pcs sqa mvs los lsz lfs (nI (fiT bd sd rt ps (i + 1)).length) u5) H := hP
    have hD : va_D A (cW cI cJ h0 h1 h2 a0 a1 a2 a3 h3 a4 h4 a5 kn op (ownS bd sd) (thrS bd sd) (fulS bd sd) (kngS bd sd) (covS bd sd) (pinS bd sd) (nI sd) (nI rt) (pI ps) ma pcs sqa mvs los lsz lfs (nI (fiT bd sd rt ps (i + 1)).length) u5) := hD
    refine lv_iinc (v := (nI (i + 1))) (lv' := [(5, .int (nI (i + 1))), (2, .long (rmb (ownS bd sd) (i + 1))), (6, .int (nI f)), (0, .ref h1), (1, .ref h4), (4, .int (nI (pop (ownS bd sd))))]) hx hb dX3_fill_58 hl (k := 5) rfl (show nI i + Int32.ofInt 1 = nI (i + 1) from nI_add _ 1) (by decide) rfl (fun ls hl => ?_)
    refine lv_goto (tgt := 23) hx hb dX3_fill_61 (by decide) ?_
    exact ih_23 ((i + 1), u5) _ _ ⟨by omega, hLI⟩ (by (try dsimp only); omega) hP hD hS ls (lv_sub hl [3, 4, 1, 5, 0] rfl)
theorem dX3_tally_0 : decode cX3_tally 0 = .ok (.aload_n 0, 1) := by decide +kernel
theorem dX3_tally_1 : decode cX3_tally 1 = .ok (.invokevirtual 37, 3) := by decide +kernel
theorem dX3_tally_4 : decode cX3_tally 4 = .ok (.iconst 0, 1) := by decide +kernel
theorem dX3_tally_5 : decode cX3_tally 5 = .ok (.istore_n 1, 1) := by decide +kernel
theorem dX3_tally_6 : decode cX3_tally 6 = .ok (.aload_n 0, 1) := by decide +kernel
theorem dX3_tally_7 : decode cX3_tally 7 = .ok (.getfield 18, 3) := by decide +kernel
theorem dX3_tally_10 : decode cX3_tally 10 = .ok (.lstore_n 2, 1) := by decide +kernel
theorem dX3_tally_11 : decode cX3_tally 11 = .ok (.lload_n 2, 1) := by decide +kernel
theorem dX3_tally_12 : decode cX3_tally 12 = .ok (.invokestatic 40, 3) := by decide +kernel
theorem dX3_tally_15 : decode cX3_tally 15 = .ok (.istore 4, 2) := by decide +kernel
theorem dX3_tally_17 : decode cX3_tally 17 = .ok (.iconst 0, 1) := by decide +kernel
theorem dX3_tally_18 : decode cX3_tally 18 = .ok (.istore 5, 2) := by decide +kernel
theorem dX3_tally_20 : decode cX3_tally 20 = .ok (.iload 5, 2) := by decide +kernel
theorem dX3_tally_22 : decode cX3_tally 22 = .ok (.iload 4, 2) := by decide +kernel
theorem dX3_tally_24 : decode cX3_tally 24 = .ok (.if_icmp .ge 63, 3) := by decide +kernel
theorem dX3_tally_27 : decode cX3_tally 27 = .ok (.lload_n 2, 1) := by decide +kernel
theorem dX3_tally_28 : decode cX3_tally 28 = .ok (.lload_n 2, 1) := by decide +kernel
theorem dX3_tally_29 : decode cX3_tally 29 = .ok (.lneg, 1) := by decide +kernel
theorem dX3_tally_30 : decode cX3_tally 30 = .ok (.land, 1) := by decide +kernel
theorem dX3_tally_31 : decode cX3_tally 31 = .ok (.invokestatic 46, 3) := by decide +kernel
theorem dX3_tally_34 : decode cX3_tally 34 = .ok (.istore 6, 2) := by decide +kernel
theorem dX3_tally_36 : decode cX3_tally 36 = .ok (.lload_n 2, 1) := by decide +kernel
theorem dX3_tally_37 : decode cX3_tally 37 = .ok (.lload_n 2, 1) := by decide +kernel
theorem dX3_tally_38 : decode cX3_tally 38 = .ok (.lconst 1, 1) := by decide +kernel
theorem dX3_tally_39 : decode cX3_tally 39 = .ok (.lsub, 1) := by decide +kernel
theorem dX3_tally_40 : decode cX3_tally 40 = .ok (.land, 1) := by decide +kernel
theorem dX3_tally_41 : decode cX3_tally 41 = .ok (.lstore_n 2, 1) := by decide +kernel
theorem dX3_tally_42 : decode cX3_tally 42 = .ok (.aload_n 0, 1) := by decide +kernel
theorem dX3_tally_43 : decode cX3_tally 43 = .ok (.iload 6, 2) := by decide +kernel
theorem dX3_tally_45 : decode cX3_tally 45 = .ok (.invokevirtual 49, 3) := by decide +kernel
theorem dX3_tally_48 : decode cX3_tally 48 = .ok (.lstore 7, 2) := by decide +kernel
theorem dX3_tally_50 : decode cX3_tally 50 = .ok (.iload_n 1, 1) := by decide +kernel
theorem dX3_tally_51 : decode cX3_tally 51 = .ok (.lload 7, 2) := by decide +kernel
theorem dX3_tally_53 : decode cX3_tally 53 = .ok (.invokestatic 40, 3) := by decide +kernel
theorem dX3_tally_56 : decode cX3_tally 56 = .ok (.iadd, 1) := by decide +kernel
theorem dX3_tally_57 : decode cX3_tally 57 = .ok (.istore_n 1, 1) := by decide +kernel
theorem dX3_tally_58 : decode cX3_tally 58 = .ok (.aload_n 0, 1) := by decide +kernel
theorem dX3_tally_59 : decode cX3_tally 59 = .ok (.iload 6, 2) := by decide +kernel
theorem dX3_tally_61 : decode cX3_tally 61 = .ok (.invokevirtual 53, 3) := by decide +kernel
theorem dX3_tally_64 : decode cX3_tally 64 = .ok (.ifCond .eq 17, 3) := by decide +kernel
theorem dX3_tally_67 : decode cX3_tally 67 = .ok (.iload_n 1, 1) := by decide +kernel
theorem dX3_tally_68 : decode cX3_tally 68 = .ok (.iconst 3, 1) := by decide +kernel
theorem dX3_tally_69 : decode cX3_tally 69 = .ok (.lload 7, 2) := by decide +kernel
theorem dX3_tally_71 : decode cX3_tally 71 = .ok (.ldc2_w 57, 3) := by decide +kernel
theorem dX3_tally_74 : decode cX3_tally 74 = .ok (.land, 1) := by decide +kernel
theorem dX3_tally_75 : decode cX3_tally 75 = .ok (.invokestatic 40, 3) := by decide +kernel
theorem dX3_tally_78 : decode cX3_tally 78 = .ok (.imul, 1) := by decide +kernel
theorem dX3_tally_79 : decode cX3_tally 79 = .ok (.iadd, 1) := by decide +kernel
theorem dX3_tally_80 : decode cX3_tally 80 = .ok (.istore_n 1, 1) := by decide +kernel
theorem dX3_tally_81 : decode cX3_tally 81 = .ok (.iinc 5 1, 3) := by decide +kernel
theorem dX3_tally_84 : decode cX3_tally 84 = .ok (.goto (-64), 3) := by decide +kernel
theorem dX3_tally_87 : decode cX3_tally 87 = .ok (.iload_n 1, 1) := by decide +kernel
theorem dX3_tally_88 : decode cX3_tally 88 = .ok (.ireturn, 1) := by decide +kernel
theorem hd_X3_tally : yX3_tally.cls ≠ "java/lang/invoke/MethodHandle" ∧ yX3_tally.cls ≠ "java/lang/invoke/VarHandle" ∧ (parseMethodDescriptor yX3_tally.desc).map (fun d => d.parameters.length) = some 0 := by decide +kernel
set_option maxHeartbeats 4000000 in
set_option maxRecDepth 100000 in
/-- tally -/
theorem c_X3_tally (l : Launch) {D : va_G} {cI cJ : ClassId} {A : Nat → Prop} {h0 h1 h2 a0 a1 a2 a3 h3 a4 h4 a5 : Nat} {kn op : Int32} {ow tr fu kg co pn : Int64} {ma : Int32} {pcs : Nat → Int32} {sqa : Nat → Int64} {mvs los : Nat → Int32} {lsz : Int32} {lfs : Nat → Int32} {asz : Int32} {afs : Nat → Int32} (bd : Nat → Nat) (hCP : CP pcs sqa bd) (sd rt ps : Nat) (hs2 : sd < 2) (hr16 : rt < 16) (hp65 : ps < 65) : Met l yX3_tally (Cond.code yX3_tally cX3_tally 9 (some .int) :: wsL_law) (rK 4) (va_Pc [.ref h1] (IW D cI cJ A (cW cI cJ h0 h1 h2 a0 a1 a2 a3 h3 a4 h4 a5 kn op ow tr fu kg co pn (nI sd) (nI rt) (pI ps) ma pcs sqa mvs los lsz lfs asz afs))) (va_Qi (fun r _ => r = nI (tly bd sd rt ps)) (fun (u : Unit) t9 => IW D cI cJ A (cW cI cJ h0 h1 h2 a0 a1 a2 a3 h3 a4 h4 a5 kn op (ownS bd sd) (thrS bd sd) (fulS bd sd) (kngS bd sd) (covS bd sd) (pinS bd sd) (nI sd) (nI rt) (pI ps) ma pcs sqa mvs los lsz lfs asz afs) t9) A) 0 0 A := by
  refine entM (by decide) (Nat.le_of_ble_eq_true rfl) ?_
  intro p e s m below meth c ls S0 hr hlocks hG hnm hB hl
  have hx := S0.1
  have hb := S0.2.1
  have hown := S0.2.2.2.1
  have hl : lv_has ls 9 [(0, .ref h1)] := hl
  obtain ⟨hP, hD, hK, hA, hE⟩ := hB
  have hS : va_S A s.heap s.heap [] := va_S.rf
  have hpl := pop_le (ownS bd sd)
  refine lv_aload_n hx hb dX3_tally_0 rfl (lv_at hl 0 rfl) ?_
  refine chV (rnV (As := []) (rest := []) S0 (c_X3_survey l bd hCP sd hs2) wm_X3_37 wi_X3_survey ws_X3_survey wn_X3 wc_X3_survey hd_X3_survey ⟨rfl, rfl, by decide, by decide⟩ IW.blind (va_recv hK hP (ci := 2) (q0 := 1) rfl rfl) (IW.at hP hD hK hA hE hS) hl.1 (Nat.le_of_ble_eq_true rfl) dX3_tally_1 rfl ⟨by decide, by decide⟩) hS (fun u_2 H locs hu hP hD hS => ?_)
  obtain ⟨hu1, hu2⟩ := hu
  rw [hu1, hu2] at hP hD
  have hP : va_P D classes (cW cI cJ h0 h1 h2 a0 a1 a2 a3 h3 a4 h4 a5 kn op (ownS bd sd) (thrS bd sd) (fulS bd sd) (kngS bd sd) (covS bd sd) (pinS bd sd) (nI sd) (nI rt) (pI ps) ma pcs sqa mvs los lsz lfs asz afs) H := hP
  have hD : va_D A (cW cI cJ h0 h1 h2 a0 a1 a2 a3 h3 a4 h4 a5 kn op (ownS bd sd) (thrS bd sd) (fulS bd sd) (kngS bd sd) (covS bd sd) (pinS bd sd) (nI sd) (nI rt) (pI ps) ma pcs sqa mvs los lsz lfs asz afs) := hD
  refine lv_iconst (v := (nI 0)) hx hb dX3_tally_4 (by decide) ?_
  refine W.top (y := .int (nI (tlT bd sd rt ps 0))) (congrArg Value.int rfl) ?_
  refine lv_istore_n (lv' := [(1, .int (nI (tlT bd sd rt ps 0))), (0, .ref h1)]) hx hb dX3_tally_5 rfl hl (by decide) rfl (fun ls hl => ?_)
  refine lv_aload_n hx hb dX3_tally_6 rfl (lv_at hl 1 rfl) ?_
  refine va_get (D := D) (ci := 2) (v := .long (ownS bd sd)) (C := RX3) (T := TX3) (N := 7) hx hb hG wu_X3 hown hK hP 1 rfl rfl 1 (by decide) (hG _ wf_X3_18) (fun _ h9 => h9) rfl dX3_tally_7 ?_
  refine W.top (y := .long (rmb (ownS bd sd) 0)) (congrArg Value.long rfl) ?_
  refine lv_lstore_n (lv' := [(2, .long (rmb (ownS bd sd) 0)), (1, .int (nI (tlT bd sd rt ps 0))), (0, .ref h1)]) hx hb dX3_tally_10 rfl hl (by decide) rfl (fun ls hl => ?_)
  refine lv_lload_n hx hb dX3_tally_11 rfl (lv_at hl 0 rfl) ?_
  refine roI (rnS (As := [.long (rmb (ownS bd sd) 0)]) (rest := []) S0 (c_J13_bitCount_95d88 l (rmb (ownS bd sd) 0)) wm_X3_40 wt_J13_bitCount_95d88 wn_J13 wc_J13_bitCount_95d88 hd_J13_bitCount_95d88 ⟨rfl, rfl, by decide, by decide⟩ True.blind (fun _ _ _ => trivial) hl.1 (Nat.le_of_ble_eq_true rfl) dX3_tally_12 rfl ⟨by decide, by decide⟩) (fun r_3 hr_3 => ?_)
  subst hr_3
  refine W.top (y := .int (nI (pop (ownS bd sd)))) (congrArg Value.int (bcE_pop _)) ?_
  refine lv_istore (lv' := [(4, .int (nI (pop (ownS bd sd)))), (2, .long (rmb (ownS bd sd) 0)), (1, .int (nI (tlT bd sd rt ps 0))), (0, .ref h1)]) hx hb dX3_tally_15 hl (by decide) rfl (fun ls hl => ?_)
  refine lv_iconst (v := (nI 0)) hx hb dX3_tally_17 (by decide) ?_
  refine lv_istore (lv' := [(5, .int (nI 0)), (4, .int (nI (pop (ownS bd sd)))), (2, .long (rmb (ownS bd sd) 0)), (1, .int (nI (tlT bd sd rt ps 0))), (0, .ref h1)]) hx hb dX3_tally_18 hl (by decide) rfl (fun ls hl => ?_)
  refine lpW (σ := (Nat)) 20 9 [] (fun x9 => [(0, .ref h1), (1, .int (nI (tlT bd sd rt ps x9))), (2, .long (rmb (ownS bd sd) x9)), (4, .int (nI (pop (ownS bd sd)))), (5, .int (nI x9))]) (fun x9 => cW cI cJ h0 h1 h2 a0 a1 a2 a3 h3 a4 h4 a5 kn op (ownS bd sd) (thrS bd sd) (fulS bd sd) (kngS bd sd) (covS bd sd) (pinS bd sd) (nI sd) (nI rt) (pI ps) ma pcs sqa mvs los lsz lfs asz afs) (fun x9 => x9 ≤ pop (ownS bd sd)) (fun x9 => pop (ownS bd sd) - x9) 0 (Nat.zero_le _) (lv_sub hl [4, 3, 2, 1, 0] rfl) hP hD hS ?_
  clear hP hD hS hl ls
  rintro i H locs hI hP hD hS ih_20 ls hl
  try dsimp only at hI ih_20 hl hP hD
  have htl := tlT_le (rt := rt) (ps := ps) i hI
  refine lv_iload hx hb dX3_tally_20 (lv_at hl 4 rfl) ?_
  refine lv_iload hx hb dX3_tally_22 (lv_at hl 3 rfl) ?_
  refine ln_icmp_ge (tgt := 87) hx hb dX3_tally_24 (by decide) (by omega) (by omega) (fun c24 => ?_) (fun c24 => ?_)
  · skip
    refine lv_iload_n hx hb dX3_tally_87 rfl (lv_at hl 1 rfl) ?_
    exact weI (()) hx hb hr hlocks dX3_tally_88 (congrArg nI (by rw [show i = pop (ownS bd sd) by omega]; unfold tlT tly; rw [pop_len, List.take_length])) hP hD hK hA hE hS
  · skip
    have hi2 : i < pop (ownS bd sd) := by omega
    obtain ⟨q1, q2, q3, q4⟩ := sq_low hi2
    have hls := tlT_s (rt := rt) (ps := ps) hi2
    generalize hf : (bl (ownS bd sd)).getD i 0 = f at q1 q2 q3 q4 hls
    have hp1 := pop_le (tgt bd sd rt ps f)
    have hp2 := pop_le (tgt bd sd rt ps f &&& (-72057594037927681))
    refine lv_lload_n hx hb dX3_tally_27 rfl (lv_at hl 2 rfl) ?_
    refine lv_lload_n hx hb dX3_tally_28 rfl (lv_at hl 2 rfl) ?_
    refine lv_lneg hx hb dX3_tally_29 ?_
    refine lv_land hx hb dX3_tally_30 ?_
    refine roI (rnSN (host := RX4) (As := [.long ((rmb (ownS bd sd) i) &&& (-(rmb (ownS bd sd) i)))]) (rest := []) S0 (c_X4_squareOf l ((rmb (ownS bd sd) i) &&& (-(rmb (ownS bd sd) i)))) (nl_X3_46 hE.1) wt_X4_squareOf wn_X4 wc_X4_squareOf hd_X4_squareOf ⟨rfl, rfl, by decide, by decide⟩ True.blind (fun _ _ _ => trivial) hl.1 (Nat.le_of_ble_eq_true rfl) dX3_tally_31 rfl ⟨by decide, by decide⟩) (fun r_4 hr_4 => ?_)
    subst hr_4
    refine W.top (y := .int (nI f)) (congrArg Value.int q1) ?_
    refine lv_istore (lv' := [(6, .int (nI f)), (0, .ref h1), (1, .int (nI (tlT bd sd rt ps i))), (2, .long (rmb (ownS bd sd) i)), (4, .int (nI (pop (ownS bd sd)))), (5, .int (nI i))]) hx hb dX3_tally_34 hl (by decide) rfl (fun ls hl => ?_)
    refine lv_lload_n hx hb dX3_tally_36 rfl (lv_at hl 3 rfl) ?_
    refine lv_lload_n hx hb dX3_tally_37 rfl (lv_at hl 3 rfl) ?_
    refine lv_lconst (v := 1) hx hb dX3_tally_38 (by decide) ?_
    refine lv_lsub hx hb dX3_tally_39 ?_
    refine lv_land hx hb dX3_tally_40 ?_
    refine W.top (y := .long (rmb (ownS bd sd) (i + 1))) (congrArg Value.long rfl) ?_
    refine lv_lstore_n (lv' := [(2, .long (rmb (ownS bd sd) (i + 1))), (6, .int (nI f)), (0, .ref h1), (1, .int (nI (tlT bd sd rt ps i))), (4, .int (nI (pop (ownS bd sd)))), (5, .int (nI i))]) hx hb dX3_tally_41 rfl hl (by decide) rfl (fun ls hl => ?_)
    refine lv_aload_n hx hb dX3_tally_42 rfl (lv_at hl 2 rfl) ?_
    refine lv_iload hx hb dX3_tally_43 (lv_at hl 1 rfl) ?_
    refine roL (rnV (As := [.int (nI f)]) (rest := []) S0 (c_X3_targetsOf l bd hCP sd rt ps hs2 hr16 hp65 f (by omega)) wm_X3_49 wi_X3_targetsOf ws_X3_targetsOf wn_X3 wc_X3_targetsOf hd_X3_targetsOf ⟨rfl, rfl, by decide, by decide⟩ IW.blind (va_recv hK hP (ci := 2) (q0 := 1) rfl rfl) (IW.at hP hD hK hA hE hS) hl.1 (Nat.le_of_ble_eq_true rfl) dX3_tally_45 rfl ⟨by decide, by decide⟩) (fun r_5 hr_5 => ?_)
    subst hr_5
    refine lv_lstore (lv' := [(7, .long (tgt bd sd rt ps f)), (2, .long (rmb (ownS bd sd) (i + 1))), (6, .int (nI f)), (0, .ref h1), (1, .int (nI (tlT bd sd rt ps i))), (4, .int (nI (pop (ownS bd sd)))), (5, .int (nI i))]) hx hb dX3_tally_48 hl (by decide) rfl (fun ls hl => ?_)
    refine lv_iload_n hx hb dX3_tally_50 rfl (lv_at hl 4 rfl) ?_
    refine lv_lload hx hb dX3_tally_51 (lv_at hl 0 rfl) ?_
    refine roI (rnS (As := [.long (tgt bd sd rt ps f)]) (rest := [.int (nI (tlT bd sd rt ps i))]) S0 (c_J13_bitCount_95d88 l (tgt bd sd rt ps f)) wm_X3_40 wt_J13_bitCount_95d88 wn_J13 wc_J13_bitCount_95d88 hd_J13_bitCount_95d88 ⟨rfl, rfl, by decide, by decide⟩ True.blind (fun _ _ _ => trivial) hl.1 (Nat.le_of_ble_eq_true rfl) dX3_tally_53 rfl ⟨by decide, by decide⟩) (fun r_6 hr_6 => ?_)
    subst hr_6
    refine W.top (y := .int (nI (pop (tgt bd sd rt ps f)))) (congrArg Value.int (bcE_pop _)) ?_
    refine ln_iadd hx hb dX3_tally_56 ?_
    refine lv_istore_n (lv' := [(1, .int (nI ((tlT bd sd rt ps i) + (pop (tgt bd sd rt ps f))))), (7, .long (tgt bd sd rt ps f)), (2, .long (rmb (ownS bd sd) (i + 1))), (6, .int (nI f)), (0, .ref h1), (4, .int (nI (pop (ownS bd sd)))), (5, .int (nI i))]) hx hb dX3_tally_57 rfl hl (by decide) rfl (fun ls hl => ?_)
    refine lv_aload_n hx hb dX3_tally_58 rfl (lv_at hl 4 rfl) ?_
    refine lv_iload hx hb dX3_tally_59 (lv_at hl 3 rfl) ?_
    refine roI (rnV (As := [.int (nI f)]) (rest := []) S0 (c_X3_isPawn l bd hCP f (by omega)) wm_X3_53 wi_X3_isPawn ws_X3_isPawn wn_X3 wc_X3_isPawn hd_X3_isPawn ⟨rfl, rfl, by decide, by decide⟩ IW.blind (va_recv hK hP (ci := 2) (q0 := 1) rfl rfl) (IW.at hP hD hK hA hE hS) hl.1 (Nat.le_of_ble_eq_true rfl) dX3_tally_61 rfl ⟨by decide, by decide⟩) (fun r_7 hr_7 => ?_)
    subst hr_7
    refine jnG 81 9 [(0, .ref h1), (1, .int (nI (tlT bd sd rt ps (i + 1)))), (2, .long (rmb (ownS bd sd) (i + 1))), (4, .int (nI (pop (ownS bd sd)))), (5, .int (nI i))] [] ?_ (fun hj_81 => ?_)
    · intro ls hl
      refine lv_iinc (v := (nI (i + 1))) (lv' := [(5, .int (nI (i + 1))), (0, .ref h1), (1, .int (nI (tlT bd sd rt ps (i + 1)))), (2, .long (rmb (ownS bd sd) (i + 1))), (4, .int (nI (pop (ownS bd sd))))]) hx hb dX3_tally_81 hl (k := 4) rfl (show nI i + Int32.ofInt 1 = nI (i + 1) from nI_add _ 1) (by decide) rfl (fun ls hl => ?_)
      refine lv_goto (tgt := 20) hx hb dX3_tally_84 (by decide) ?_
      exact ih_20 (i + 1) _ _ (by omega) (by (try dsimp only); omega) hP hD hS ls (lv_sub hl [1, 2, 3, 4, 0] rfl)
    · skip
      refine lb_if_eq (tgt := 81) hx hb dX3_tally_64 (by decide) (fun c64 => ?_) (fun c64 => ?_)
      · skip
        have c64n : ¬ kd (bd f) = 1 := of_decide_eq_false c64
        have hl2 : lv_has ls 9 [(0, .ref h1), (1, .int (nI ((tlT bd sd rt ps i) + (pop (tgt bd sd rt ps f))))), (2, .long (rmb (ownS bd sd) (i + 1))), (4, .int (nI (pop (ownS bd sd)))), (5, .int (nI i))] := by
          exact lv_sub hl [4, 0, 2, 5, 6] rfl
        exact hj_81 ls (by have e9 : ([(0, .ref h1), (1, .int (nI ((tlT bd sd rt ps i) + (pop (tgt bd sd rt ps f))))), (2, .long (rmb (ownS bd sd) (i + 1))), (4, .int (nI (pop (ownS bd sd)))), (5, .int (nI i))] : List (Nat × Value)) = [(0, .ref h1), (1, .int (nI (tlT bd sd rt ps (i + 1)))), (2, .long (rmb (ownS bd sd) (i + 1))), (4, .int (nI (pop (ownS bd sd)))), (5, .int (nI i))] := (by rw [hls]; unfold tl1; first | rw [if_pos c64p, Nat.add_assoc] | (rw [if_neg c64n]; rfl)); rw [← e9]; exact hl2)
      · skip
        have c64p : kd (bd f) = 1 := of_decide_eq_true c64
        refine lv_iload_n hx hb dX3_tally_67 rfl (lv_at hl 0 rfl) ?_
        refine lv_iconst (v := (nI 3)) hx hb dX3_tally_68 (by decide) ?_
        refine lv_lload hx hb dX3_tally_69 (lv_at hl 1 rfl) ?_
        refine lv_ldc2 (v := (-72057594037927681)) hx hb hown (hG _ wk_X3_57) dX3_tally_71 ?_
        refine lv_land hx hb dX3_tally_74 ?_
        refine roI (rnS (As := [.long ((tgt bd sd rt ps f) &&& (-72057594037927681))]) (rest := [.int (nI 3), .int (nI ((tlT bd sd rt ps i) + (pop (tgt bd sd rt ps f))))]) S0 (c_J13_bitCount_95d88 l ((tgt bd sd rt ps f) &&& (-72057594037927681))) wm_X3_40 wt_J13_bitCount_95d88 wn_J13 wc_J13_bitCount_95d88 hd_J13_bitCount_95d88 ⟨rfl, rfl, by decide, by decide⟩ True.blind (fun _ _ _ => trivial) hl.1 (Nat.le_of_ble_eq_true rfl) dX3_tally_75 rfl ⟨by decide, by decide⟩) (fun r_8 hr_8 => ?_)
        subst hr_8
        refine W.top (y := .int (nI (pop (tgt bd sd rt ps f &&& (-72057594037927681))))) (congrArg Value.int (bcE_pop _)) ?_
        refine ln_imul hx hb dX3_tally_78 ?_
        refine ln_iadd hx hb dX3_tally_79 ?_
        refine lv_istore_n (lv' := [(1, .int (nI (((tlT bd sd rt ps i) + (pop (tgt bd sd rt ps f))) + (3 * (pop (tgt bd sd rt ps f &&& (-72057594037927681))))))), (7, .long (tgt bd sd rt ps f)), (2, .long (rmb (ownS bd sd) (i + 1))), (6, .int (nI f)), (0, .ref h1), (4, .int (nI (pop (ownS bd sd)))), (5, .int (nI i))]) hx hb dX3_tally_80 rfl hl (by decide) rfl (fun ls hl => ?_)
        have hl2 : lv_has ls 9 [(0, .ref h1), (1, .int (nI (((tlT bd sd rt ps i) + (pop (tgt bd sd rt ps f))) + (3 * (pop (tgt bd sd rt ps f &&& (-72057594037927681))))))), (2, .long (rmb (ownS bd sd) (i + 1))), (4, .int (nI (pop (ownS bd sd)))), (5, .int (nI i))] := by
          exact lv_sub hl [4, 0, 2, 5, 6] rfl
        exact hj_81 ls (by have e9 : ([(0, .ref h1), (1, .int (nI (((tlT bd sd rt ps i) + (pop (tgt bd sd rt ps f))) + (3 * (pop (tgt bd sd rt ps f &&& (-72057594037927681))))))), (2, .long (rmb (ownS bd sd) (i + 1))), (4, .int (nI (pop (ownS bd sd)))), (5, .int (nI i))] : List (Nat × Value)) = [(0, .ref h1), (1, .int (nI (tlT bd sd rt ps (i + 1)))), (2, .long (rmb (ownS bd sd) (i + 1))), (4, .int (nI (pop (ownS bd sd)))), (5, .int (nI i))] := (by rw [hls]; unfold tl1; first | rw [if_pos c64p, Nat.add_assoc] | (rw [if_neg c64n]; rfl)); rw [← e9]; exact hl2)

theorem dX4_needList_0 : decode cX4_needList 0 = .ok (.aload_n 0, 1) := by decide +kernel
theorem dX4_needList_1 : decode cX4_needList 1 = .ok (.getfield 31, 3) := by decide +kernel
theorem dX4_needList_4 : decode cX4_needList 4 = .ok (.ifCond .ne 45, 3) := by decide +kernel
theorem dX4_needList_7 : decode cX4_needList 7 = .ok (.aload_n 0, 1) := by decide +kernel
theorem dX4_needList_8 : decode cX4_needList 8 = .ok (.aload_n 0, 1) := by decide +kernel
theorem dX4_needList_9 : decode cX4_needList 9 = .ok (.getfield 20, 3) := by decide +kernel
theorem dX4_needList_12 : decode cX4_needList 12 = .ok (.invokevirtual 88, 3) := by decide +kernel
theorem dX4_needList_15 : decode cX4_needList 15 = .ok (.putfield 35, 3) := by decide +kernel
theorem dX4_needList_18 : decode cX4_needList 18 = .ok (.aload_n 0, 1) := by decide +kernel
theorem dX4_needList_19 : decode cX4_needList 19 = .ok (.getfield 24, 3) := by decide +kernel
theorem dX4_needList_22 : decode cX4_needList 22 = .ok (.iconst 0, 1) := by decide +kernel
theorem dX4_needList_23 : decode cX4_needList 23 = .ok (.putfield 95, 3) := by decide +kernel
theorem dX4_needList_26 : decode cX4_needList 26 = .ok (.aload_n 0, 1) := by decide +kernel
theorem dX4_needList_27 : decode cX4_needList 27 = .ok (.getfield 35, 3) := by decide +kernel
theorem dX4_needList_30 : decode cX4_needList 30 = .ok (.ifCond .eq 14, 3) := by decide +kernel
theorem dX4_needList_33 : decode cX4_needList 33 = .ok (.aload_n 0, 1) := by decide +kernel
theorem dX4_needList_34 : decode cX4_needList 34 = .ok (.getfield 12, 3) := by decide +kernel
theorem dX4_needList_37 : decode cX4_needList 37 = .ok (.aload_n 0, 1) := by decide +kernel
theorem dX4_needList_38 : decode cX4_needList 38 = .ok (.getfield 24, 3) := by decide +kernel
theorem dX4_needList_41 : decode cX4_needList 41 = .ok (.invokevirtual 153, 3) := by decide +kernel
theorem dX4_needList_44 : decode cX4_needList 44 = .ok (.aload_n 0, 1) := by decide +kernel
theorem dX4_needList_45 : decode cX4_needList 45 = .ok (.iconst 1, 1) := by decide +kernel
theorem dX4_needList_46 : decode cX4_needList 46 = .ok (.putfield 31, 3) := by decide +kernel
theorem dX4_needList_49 : decode cX4_needList 49 = .ok (.aload_n 0, 1) := by decide +kernel
theorem dX4_needList_50 : decode cX4_needList 50 = .ok (.getfield 35, 3) := by decide +kernel
theorem dX4_needList_53 : decode cX4_needList 53 = .ok (.ifCond .ne 13, 3) := by decide +kernel
theorem dX4_needList_56 : decode cX4_needList 56 = .ok (.new 157, 3) := by decide +kernel
theorem dX4_needList_59 : decode cX4_needList 59 = .ok (.dup, 1) := by decide +kernel
theorem dX4_needList_60 : decode cX4_needList 60 = .ok (.ldc 159, 2) := by decide +kernel
theorem dX4_needList_62 : decode cX4_needList 62 = .ok (.invokespecial 161, 3) := by decide +kernel
theorem dX4_needList_65 : decode cX4_needList 65 = .ok (.athrow, 1) := by decide +kernel
theorem dX4_needList_66 : decode cX4_needList 66 = .ok (.return_, 1) := by decide +kernel
theorem hd_X4_needList : yX4_needList.cls ≠ "java/lang/invoke/MethodHandle" ∧ yX4_needList.cls ≠ "java/lang/invoke/VarHandle" ∧ (parseMethodDescriptor yX4_needList.desc).map (fun d => d.parameters.length) = some 0 := by decide +kernel
set_option maxHeartbeats 4000000 in
set_option maxRecDepth 100000 in
/-- needList -/
theorem c_X4_needList (l : Launch) {D : va_G} {cI cJ : ClassId} {A : Nat → Prop} {h0 h1 h2 a0 a1 a2 a3 h3 a4 h4 a5 : Nat} {ow tr fu kg co pn : Int64} {ma : Int32} {pcs : Nat → Int32} {sqa : Nat → Int64} {mvs los : Nat → Int32} {lsz : Int32} {lfs : Nat → Int32} {asz : Int32} {afs : Nat → Int32} (bd : Nat → Nat) (hCP : CP pcs sqa bd) (sd rt ps : Nat) (hs2 : sd < 2) (hr16 : rt < 16) (hp65 : ps < 65) (kb ob : Bool) (hKL : KLp kb ob lsz lfs bd sd rt ps) (hpl : cbp bd sd = true) (hlen : (fil bd sd rt ps).length ≤ 700) : Met l yX4_needList (Cond.code yX4_needList cX4_needList 1 none :: wsL_law) (rK 5) (va_Pc [.ref h0] (IW D cI cJ A (cW cI cJ h0 h1 h2 a0 a1 a2 a3 h3 a4 h4 a5 (bI kb) (bI ob) ow tr fu kg co pn (nI sd) (nI rt) (pI ps) ma pcs sqa mvs los lsz lfs asz afs))) (va_Qv (fun u => LI u.1 (fil bd sd rt ps)) (fun (u : (Nat → Int32) × Int64 × Int64 × Int64 × Int64 × Int64 × Int64) t9 => IW D cI cJ A (cW cI cJ h0 h1 h2 a0 a1 a2 a3 h3 a4 h4 a5 (bI true) (bI true) u.2.1 u.2.2.1 u.2.2.2.1 u.2.2.2.2.1 u.2.2.2.2.2.1 u.2.2.2.2.2.2 (nI sd) (nI rt) (pI ps) ma pcs sqa mvs los (nI (fil bd sd rt ps).length) u.1 asz afs) t9) A) 0 0 A := by
  refine entM (by decide) (Nat.le_of_ble_eq_true rfl) ?_
  intro p e s m below meth c ls S0 hr hlocks hG hnm hB hl
  have hx := S0.1
  have hb := S0.2.1
  have hown := S0.2.2.2.1
  have hl : lv_has ls 1 [(0, .ref h0)] := hl
  obtain ⟨hP, hD, hK, hA, hE⟩ := hB
  have hS : va_S A s.heap s.heap [] := va_S.rf
  refine lv_aload_n hx hb dX4_needList_0 rfl (lv_at hl 0 rfl) ?_
  refine va_get (D := D) (ci := 3) (v := .int (bI kb)) (C := RX4) (T := TX4) (N := 6) hx hb hG wu_X4 hown hK hP 0 rfl rfl 4 (by decide) (hG _ wf_X4_31) (fun _ h9 => h9) rfl dX4_needList_1 ?_
  refine jnW (σ := (Nat → Int32) × (Int64) × (Int64) × (Int64) × (Int64) × (Int64) × (Int64)) (D := D) (A := A) (H0 := s.heap) 49 1 (fun x9 => [(0, .ref h0)]) [] (fun x9 => cW cI cJ h0 h1 h2 a0 a1 a2 a3 h3 a4 h4 a5 (bI true) (bI true) x9.2.1 x9.2.2.1 x9.2.2.2.1 x9.2.2.2.2.1 x9.2.2.2.2.2.1 x9.2.2.2.2.2.2 (nI sd) (nI rt) (pI ps) ma pcs sqa mvs los (nI (fil bd sd rt ps).length) x9.1 asz afs) (fun x9 => LI x9.1 (fil bd sd rt ps)) ?_ (fun hj_49 => ?_)
  · clear hP hD hS
    try clear hl
    try clear ls
    rintro ⟨M9, ow9, tr9, fu9, kg9, co9, pn9⟩ H locs hI hP hD hS ls hl
    try dsimp only at hI hP hD hl
    have hLI := hI
    refine lv_aload_n hx hb dX4_needList_49 rfl (lv_at hl 0 rfl) ?_
    refine va_get (D := D) (ci := 3) (v := .int (bI true)) (C := RX4) (T := TX4) (N := 6) hx hb hG wu_X4 hown hK hP 0 rfl rfl 5 (by decide) (hG _ wf_X4_35) (fun _ h9 => h9) rfl dX4_needList_50 ?_
    refine lb_if_ne (tgt := 66) hx hb dX4_needList_53 (by decide) (fun c53 => ?_) (fun c53 => ?_)
    · skip
      exact weV ((M9, ow9, tr9, fu9, kg9, co9, pn9)) hx hb hr hlocks dX4_needList_66 hLI hP hD hK hA hE hS
    · skip
      exact absurd c53 (by decide)
  · skip
    refine lb_if_ne (tgt := 49) hx hb dX4_needList_4 (by decide) (fun c4 => ?_) (fun c4 => ?_)
    · skip
      obtain ⟨ho, hls⟩ := hKL c4
      rw [hpl] at ho
      obtain ⟨hz, hLI⟩ := hls ho
      rw [c4, ho, hz] at hP hD
      exact hj_49 (lfs, ow, tr, fu, kg, co, pn) _ _ hLI hP hD hS ls (lv_sub hl [0] rfl)
    · skip
      refine lv_aload_n hx hb dX4_needList_7 rfl (lv_at hl 0 rfl) ?_
      refine lv_aload_n hx hb dX4_needList_8 rfl (lv_at hl 0 rfl) ?_
      refine va_get (D := D) (ci := 3) (v := .ref h2) (C := RX4) (T := TX4) (N := 6) hx hb hG wu_X4 hown hK hP 0 rfl rfl 1 (by decide) (hG _ wf_X4_20) (fun _ h9 => h9) rfl dX4_needList_9 ?_
      refine roI (rnV (As := []) (rest := [.ref h0]) S0 (c_X2_canBePlayed l bd hCP sd hs2) wm_X4_88 wi_X2_canBePlayed ws_X2_canBePlayed wn_X2 wc_X2_canBePlayed hd_X2_canBePlayed ⟨rfl, rfl, by decide, by decide⟩ IW.blind (va_recv hK hP (ci := 1) (q0 := 2) rfl rfl) (IW.at hP hD hK hA hE hS) hl.1 (Nat.le_of_ble_eq_true rfl) dX4_needList_12 rfl ⟨by decide, by decide⟩) (fun r_1 hr_1 => ?_)
      subst hr_1
      refine W.top (y := .int (bI true)) (congrArg Value.int (congrArg bI hpl)) ?_
      refine va_put (D := D) (ci := 3) (v := .int (bI true)) (ty := .boolean) (C := RX4) (T := TX4) (N := 6) hx hb hG wu_X4 tyX4 tyX4_ok nmX4 hown hK hP hD hS 0 rfl rfl 5 (by decide) (hG _ wf_X4_35) (fun _ h9 => h9) rfl (by decide +kernel) rfl rfl (Nat.le_of_ble_eq_true rfl) dX4_needList_15 (fun H locs hP hD hS => ?_)
      have hP : va_P D classes (cW cI cJ h0 h1 h2 a0 a1 a2 a3 h3 a4 h4 a5 (bI kb) (bI true) ow tr fu kg co pn (nI sd) (nI rt) (pI ps) ma pcs sqa mvs los lsz lfs asz afs) H := hP
      have hD : va_D A (cW cI cJ h0 h1 h2 a0 a1 a2 a3 h3 a4 h4 a5 (bI kb) (bI true) ow tr fu kg co pn (nI sd) (nI rt) (pI ps) ma pcs sqa mvs los lsz lfs asz afs) := hD
      refine lv_aload_n hx hb dX4_needList_18 rfl (lv_at hl 0 rfl) ?_
      refine va_get (D := D) (ci := 3) (v := .ref h3) (C := RX4) (T := TX4) (N := 6) hx hb hG wu_X4 hown hK hP 0 rfl rfl 2 (by decide) (hG _ wf_X4_24) (fun _ h9 => h9) rfl dX4_needList_19 ?_
      refine lv_iconst (v := (nI 0)) hx hb dX4_needList_22 (by decide) ?_
      refine va_put (D := D) (ci := 0) (v := .int (nI 0)) (ty := .int) (C := RX1) (T := TX1) (N := 2) hx hb hG wu_X1 tyX1 tyX1_ok nmX1 hown hK hP hD hS 7 rfl rfl 1 (by decide) (hG _ wf_X4_95) (fun _ h9 => h9) rfl (by decide +kernel) rfl rfl (Nat.le_of_ble_eq_true rfl) dX4_needList_23 (fun H locs hP hD hS => ?_)
      have hP : va_P D classes (cW cI cJ h0 h1 h2 a0 a1 a2 a3 h3 a4 h4 a5 (bI kb) (bI true) ow tr fu kg co pn (nI sd) (nI rt) (pI ps) ma pcs sqa mvs los (nI 0) lfs asz afs) H := hP
      have hD : va_D A (cW cI cJ h0 h1 h2 a0 a1 a2 a3 h3 a4 h4 a5 (bI kb) (bI true) ow tr fu kg co pn (nI sd) (nI rt) (pI ps) ma pcs sqa mvs los (nI 0) lfs asz afs) := hD
      refine lv_aload_n hx hb dX4_needList_26 rfl (lv_at hl 0 rfl) ?_
      refine va_get (D := D) (ci := 3) (v := .int (bI true)) (C := RX4) (T := TX4) (N := 6) hx hb hG wu_X4 hown hK hP 0 rfl rfl 5 (by decide) (hG _ wf_X4_35) (fun _ h9 => h9) rfl dX4_needList_27 ?_
      refine lb_if_eq (tgt := 44) hx hb dX4_needList_30 (by decide) (fun c30 => ?_) (fun c30 => ?_)
      · skip
        exact absurd c30 (by decide)
      · skip
        refine lv_aload_n hx hb dX4_needList_33 rfl (lv_at hl 0 rfl) ?_
        refine va_get (D := D) (ci := 3) (v := .ref h1) (C := RX4) (T := TX4) (N := 6) hx hb hG wu_X4 hown hK hP 0 rfl rfl 0 (by decide) (hG _ wf_X4_12) (fun _ h9 => h9) rfl dX4_needList_34 ?_
        refine lv_aload_n hx hb dX4_needList_37 rfl (lv_at hl 0 rfl) ?_
        refine va_get (D := D) (ci := 3) (v := .ref h3) (C := RX4) (T := TX4) (N := 6) hx hb hG wu_X4 hown hK hP 0 rfl rfl 2 (by decide) (hG _ wf_X4_24) (fun _ h9 => h9) rfl dX4_needList_38 ?_
        refine chV (rnV (As := [.ref h3]) (rest := []) S0 (c_X3_fill_L l bd hCP sd rt ps hs2 hr16 hp65 hlen) wm_X4_153 wi_X3_fill ws_X3_fill wn_X3 wc_X3_fill hd_X3_fill ⟨rfl, rfl, by decide, by decide⟩ IW.blind (va_recv hK hP (ci := 2) (q0 := 1) rfl rfl) (IW.at hP hD hK hA hE hS) hl.1 (Nat.le_of_ble_eq_true rfl) dX4_needList_41 rfl ⟨by decide, by decide⟩) hS (fun u_3 H locs hu hP hD hS => ?_)
        have hLI := hu
        have hP : va_P D classes (cW cI cJ h0 h1 h2 a0 a1 a2 a3 h3 a4 h4 a5 (bI kb) (bI true) (ownS bd sd) (thrS bd sd) (fulS bd sd) (kngS bd sd) (covS bd sd) (pinS bd sd) (nI sd) (nI rt) (pI ps) ma pcs sqa mvs los (nI (fil bd sd rt ps).length) u_3 asz afs) H := hP
        have hD : va_D A (cW cI cJ h0 h1 h2 a0 a1 a2 a3 h3 a4 h4 a5 (bI kb) (bI true) (ownS bd sd) (thrS bd sd) (fulS bd sd) (kngS bd sd) (covS bd sd) (pinS bd sd) (nI sd) (nI rt) (pI ps) ma pcs sqa mvs los (nI (fil bd sd rt ps).length) u_3 asz afs) := hD
        refine lv_aload_n hx hb dX4_needList_44 rfl (lv_at hl 0 rfl) ?_
        refine lv_iconst (v := (nI 1)) hx hb dX4_needList_45 (by decide) ?_
        refine va_put (D := D) (ci := 3) (v := .int (bI true)) (ty := .boolean) (C := RX4) (T := TX4) (N := 6) hx hb hG wu_X4 tyX4 tyX4_ok nmX4 hown hK hP hD hS 0 rfl rfl 4 (by decide) (hG _ wf_X4_31) (fun _ h9 => h9) rfl (by decide +kernel) rfl rfl (Nat.le_of_ble_eq_true rfl) dX4_needList_46 (fun H locs hP hD hS => ?_)
        have hP : va_P D classes (cW cI cJ h0 h1 h2 a0 a1 a2 a3 h3 a4 h4 a5 (bI true) (bI true) (ownS bd sd) (thrS bd sd) (fulS bd sd) (kngS bd sd) (covS bd sd) (pinS bd sd) (nI sd) (nI rt) (pI ps) ma pcs sqa mvs los (nI (fil bd sd rt ps).length) u_3 asz afs) H := hP
        have hD : va_D A (cW cI cJ h0 h1 h2 a0 a1 a2 a3 h3 a4 h4 a5 (bI true) (bI true) (ownS bd sd) (thrS bd sd) (fulS bd sd) (kngS bd sd) (covS bd sd) (pinS bd sd) (nI sd) (nI rt) (pI ps) ma pcs sqa mvs los (nI (fil bd sd rt ps).length) u_3 asz afs) := hD
        exact hj_49 (u_3, (ownS bd sd), (thrS bd sd), (fulS bd sd), (kngS bd sd), (covS bd sd), (pinS bd sd)) _ _ hLI hP hD hS ls (lv_sub hl [0] rfl)
theorem dX4_count_0 : decode cX4_count 0 = .ok (.aload_n 0, 1) := by decide +kernel
theorem dX4_count_1 : decode cX4_count 1 = .ok (.invokevirtual 92, 3) := by decide +kernel
theorem dX4_count_4 : decode cX4_count 4 = .ok (.aload_n 0, 1) := by decide +kernel
theorem dX4_count_5 : decode cX4_count 5 = .ok (.getfield 24, 3) := by decide +kernel
theorem dX4_count_8 : decode cX4_count 8 = .ok (.getfield 95, 3) := by decide +kernel
theorem dX4_count_11 : decode cX4_count 11 = .ok (.ireturn, 1) := by decide +kernel
theorem hd_X4_count : yX4_count.cls ≠ "java/lang/invoke/MethodHandle" ∧ yX4_count.cls ≠ "java/lang/invoke/VarHandle" ∧ (parseMethodDescriptor yX4_count.desc).map (fun d => d.parameters.length) = some 0 := by decide +kernel
set_option maxHeartbeats 4000000 in
set_option maxRecDepth 100000 in
/-- count -/
theorem c_X4_count (l : Launch) {D : va_G} {cI cJ : ClassId} {A : Nat → Prop} {h0 h1 h2 a0 a1 a2 a3 h3 a4 h4 a5 : Nat} {ow tr fu kg co pn : Int64} {ma : Int32} {pcs : Nat → Int32} {sqa : Nat → Int64} {mvs los : Nat → Int32} {lsz : Int32} {lfs : Nat → Int32} {asz : Int32} {afs : Nat → Int32} (bd : Nat → Nat) (hCP : CP pcs sqa bd) (sd rt ps : Nat) (hs2 : sd < 2) (hr16 : rt < 16) (hp65 : ps < 65) (kb ob : Bool) (hKL : KLp kb ob lsz lfs bd sd rt ps) (hpl : cbp bd sd = true) (hlen : (fil bd sd rt ps).length ≤ 700) : Met l yX4_count (Cond.code yX4_count cX4_count 1 (some .int) :: wsL_law) (rK 6) (va_Pc [.ref h0] (IW D cI cJ A (cW cI cJ h0 h1 h2 a0 a1 a2 a3 h3 a4 h4 a5 (bI kb) (bI ob) ow tr fu kg co pn (nI sd) (nI rt) (pI ps) ma pcs sqa mvs los lsz lfs asz afs))) (va_Qi (fun r u => r = nI (fil bd sd rt ps).length ∧ LI u.1 (fil bd sd rt ps)) (fun (u : (Nat → Int32) × Int64 × Int64 × Int64 × Int64 × Int64 × Int64) t9 => IW D cI cJ A (cW cI cJ h0 h1 h2 a0 a1 a2 a3 h3 a4 h4 a5 (bI true) (bI true) u.2.1 u.2.2.1 u.2.2.2.1 u.2.2.2.2.1 u.2.2.2.2.2.1 u.2.2.2.2.2.2 (nI sd) (nI rt) (pI ps) ma pcs sqa mvs los (nI (fil bd sd rt ps).length) u.1 asz afs) t9) A) 0 0 A := by
  refine entM (by decide) (Nat.le_of_ble_eq_true rfl) ?_
  intro p e s m below meth c ls S0 hr hlocks hG hnm hB hl
  have hx := S0.1
  have hb := S0.2.1
  have hown := S0.2.2.2.1
  have hl : lv_has ls 1 [(0, .ref h0)] := hl
  obtain ⟨hP, hD, hK, hA, hE⟩ := hB
  have hS : va_S A s.heap s.heap [] := va_S.rf
  refine lv_aload_n hx hb dX4_count_0 rfl (lv_at hl 0 rfl) ?_
  refine chV (rnV (As := []) (rest := []) S0 (c_X4_needList l bd hCP sd rt ps hs2 hr16 hp65 kb ob hKL hpl hlen) wm_X4_92 wi_X4_needList ws_X4_needList wn_X4 wc_X4_needList hd_X4_needList ⟨rfl, rfl, by decide, by decide⟩ IW.blind (va_recv hK hP (ci := 3) (q0 := 0) rfl rfl) (IW.at hP hD hK hA hE hS) hl.1 (Nat.le_of_ble_eq_true rfl) dX4_count_1 rfl ⟨by decide, by decide⟩) hS (fun u_2 H locs hu hP hD hS => ?_)
  have hLI := hu
  have hP : va_P D classes (cW cI cJ h0 h1 h2 a0 a1 a2 a3 h3 a4 h4 a5 (bI true) (bI true) u_2.2.1 u_2.2.2.1 u_2.2.2.2.1 u_2.2.2.2.2.1 u_2.2.2.2.2.2.1 u_2.2.2.2.2.2.2 (nI sd) (nI rt) (pI ps) ma pcs sqa mvs los (nI (fil bd sd rt ps).length) u_2.1 asz afs) H := hP
  have hD : va_D A (cW cI cJ h0 h1 h2 a0 a1 a2 a3 h3 a4 h4 a5 (bI true) (bI true) u_2.2.1 u_2.2.2.1 u_2.2.2.2.1 u_2.2.2.2.2.1 u_2.2.2.2.2.2.1 u_2.2.2.2.2.2.2 (nI sd) (nI rt) (pI ps) ma pcs sqa mvs los (nI (fil bd sd rt ps).length) u_2.1 asz afs) := hD
  refine lv_aload_n hx hb dX4_count_4 rfl (lv_at hl 0 rfl) ?_
  refine va_get (D := D) (ci := 3) (v := .ref h3) (C := RX4) (T := TX4) (N := 6) hx hb hG wu_X4 hown hK hP 0 rfl rfl 2 (by decide) (hG _ wf_X4_24) (fun _ h9 => h9) rfl dX4_count_5 ?_
  refine va_get (D := D) (ci := 0) (v := .int (nI ((fil bd sd rt ps).length))) (C := RX1) (T := TX1) (N := 2) hx hb hG wu_X1 hown hK hP 7 rfl rfl 1 (by decide) (hG _ wf_X4_95) (fun _ h9 => h9) rfl dX4_count_8 ?_
  exact weI ((u_2.1, u_2.2.1, u_2.2.2.1, u_2.2.2.2.1, u_2.2.2.2.2.1, u_2.2.2.2.2.2.1, u_2.2.2.2.2.2.2)) hx hb hr hlocks dX4_count_11 ⟨rfl, hLI⟩ hP hD hK hA hE hS
theorem dX4_move_0 : decode cX4_move 0 = .ok (.aload_n 0, 1) := by decide +kernel
theorem dX4_move_1 : decode cX4_move 1 = .ok (.invokevirtual 92, 3) := by decide +kernel
theorem dX4_move_4 : decode cX4_move 4 = .ok (.iload_n 1, 1) := by decide +kernel
theorem dX4_move_5 : decode cX4_move 5 = .ok (.ifCond .lt 14, 3) := by decide +kernel
theorem dX4_move_8 : decode cX4_move 8 = .ok (.iload_n 1, 1) := by decide +kernel
theorem dX4_move_9 : decode cX4_move 9 = .ok (.aload_n 0, 1) := by decide +kernel
theorem dX4_move_10 : decode cX4_move 10 = .ok (.getfield 24, 3) := by decide +kernel
theorem dX4_move_13 : decode cX4_move 13 = .ok (.getfield 95, 3) := by decide +kernel
theorem dX4_move_16 : decode cX4_move 16 = .ok (.if_icmp .lt 13, 3) := by decide +kernel
theorem dX4_move_19 : decode cX4_move 19 = .ok (.new 53, 3) := by decide +kernel
theorem dX4_move_22 : decode cX4_move 22 = .ok (.dup, 1) := by decide +kernel
theorem dX4_move_23 : decode cX4_move 23 = .ok (.ldc 98, 2) := by decide +kernel
theorem dX4_move_25 : decode cX4_move 25 = .ok (.invokespecial 57, 3) := by decide +kernel
theorem dX4_move_28 : decode cX4_move 28 = .ok (.athrow, 1) := by decide +kernel
theorem dX4_move_29 : decode cX4_move 29 = .ok (.aload_n 0, 1) := by decide +kernel
theorem dX4_move_30 : decode cX4_move 30 = .ok (.getfield 24, 3) := by decide +kernel
theorem dX4_move_33 : decode cX4_move 33 = .ok (.iload_n 1, 1) := by decide +kernel
theorem dX4_move_34 : decode cX4_move 34 = .ok (.invokevirtual 100, 3) := by decide +kernel
theorem dX4_move_37 : decode cX4_move 37 = .ok (.ireturn, 1) := by decide +kernel
theorem hd_X4_move : yX4_move.cls ≠ "java/lang/invoke/MethodHandle" ∧ yX4_move.cls ≠ "java/lang/invoke/VarHandle" ∧ (parseMethodDescriptor yX4_move.desc).map (fun d => d.parameters.length) = some 1 := by decide +kernel
set_option maxHeartbeats 4000000 in
set_option maxRecDepth 100000 in
/-- move -/
theorem c_X4_move (l : Launch) {D : va_G} {cI cJ : ClassId} {A : Nat → Prop} {h0 h1 h2 a0 a1 a2 a3 h3 a4 h4 a5 : Nat} {ow tr fu kg co pn : Int64} {ma : Int32} {pcs : Nat → Int32} {sqa : Nat → Int64} {mvs los : Nat → Int32} {lsz : Int32} {lfs : Nat → Int32} {asz : Int32} {afs : Nat → Int32} (bd : Nat → Nat) (hCP : CP pcs sqa bd) (sd rt ps : Nat) (hs2 : sd < 2) (hr16 : rt < 16) (hp65 : ps < 65) (kb ob : Bool) (hKL : KLp kb ob lsz lfs bd sd rt ps) (hpl : cbp bd sd = true) (hlen : (fil bd sd rt ps).length ≤ 700) (j : Nat) (hj : j < (fil bd sd rt ps).length) : Met l yX4_move (Cond.code yX4_move cX4_move 2 (some .int) :: wsL_law) (rK 6) (va_Pc [.ref h0, .int (nI j)] (IW D cI cJ A (cW cI cJ h0 h1 h2 a0 a1 a2 a3 h3 a4 h4 a5 (bI kb) (bI ob) ow tr fu kg co pn (nI sd) (nI rt) (pI ps) ma pcs sqa mvs los lsz lfs asz afs))) (va_Qi (fun r u => r = nI ((fil bd sd rt ps).getD j 0) ∧ LI u.1 (fil bd sd rt ps)) (fun (u : (Nat → Int32) × Int64 × Int64 × Int64 × Int64 × Int64 × Int64) t9 => IW D cI cJ A (cW cI cJ h0 h1 h2 a0 a1 a2 a3 h3 a4 h4 a5 (bI true) (bI true) u.2.1 u.2.2.1 u.2.2.2.1 u.2.2.2.2.1 u.2.2.2.2.2.1 u.2.2.2.2.2.2 (nI sd) (nI rt) (pI ps) ma pcs sqa mvs los (nI (fil bd sd rt ps).length) u.1 asz afs) t9) A) 0 0 A := by
  refine entM (by decide) (Nat.le_of_ble_eq_true rfl) ?_
  intro p e s m below meth c ls S0 hr hlocks hG hnm hB hl
  have hx := S0.1
  have hb := S0.2.1
  have hown := S0.2.2.2.1
  have hl : lv_has ls 2 [(0, .ref h0), (1, .int (nI j))] := hl
  obtain ⟨hP, hD, hK, hA, hE⟩ := hB
  have hS : va_S A s.heap s.heap [] := va_S.rf
  refine lv_aload_n hx hb dX4_move_0 rfl (lv_at hl 0 rfl) ?_
  refine chV (rnV (As := []) (rest := []) S0 (c_X4_needList l bd hCP sd rt ps hs2 hr16 hp65 kb ob hKL hpl hlen) wm_X4_92 wi_X4_needList ws_X4_needList wn_X4 wc_X4_needList hd_X4_needList ⟨rfl, rfl, by decide, by decide⟩ IW.blind (va_recv hK hP (ci := 3) (q0 := 0) rfl rfl) (IW.at hP hD hK hA hE hS) hl.1 (Nat.le_of_ble_eq_true rfl) dX4_move_1 rfl ⟨by decide, by decide⟩) hS (fun u_2 H locs hu hP hD hS => ?_)
  have hLI := hu
  have hP : va_P D classes (cW cI cJ h0 h1 h2 a0 a1 a2 a3 h3 a4 h4 a5 (bI true) (bI true) u_2.2.1 u_2.2.2.1 u_2.2.2.2.1 u_2.2.2.2.2.1 u_2.2.2.2.2.2.1 u_2.2.2.2.2.2.2 (nI sd) (nI rt) (pI ps) ma pcs sqa mvs los (nI (fil bd sd rt ps).length) u_2.1 asz afs) H := hP
  have hD : va_D A (cW cI cJ h0 h1 h2 a0 a1 a2 a3 h3 a4 h4 a5 (bI true) (bI true) u_2.2.1 u_2.2.2.1 u_2.2.2.2.1 u_2.2.2.2.2.1 u_2.2.2.2.2.2.1 u_2.2.2.2.2.2.2 (nI sd) (nI rt) (pI ps) ma pcs sqa mvs los (nI (fil bd sd rt ps).length) u_2.1 asz afs) := hD
  refine lv_iload_n hx hb dX4_move_4 rfl (lv_at hl 1 rfl) ?_
  refine ln_if_lt (tgt := 19) hx hb dX4_move_5 (by decide) (by omega) ?_
  refine lv_iload_n hx hb dX4_move_8 rfl (lv_at hl 1 rfl) ?_
  refine lv_aload_n hx hb dX4_move_9 rfl (lv_at hl 0 rfl) ?_
  refine va_get (D := D) (ci := 3) (v := .ref h3) (C := RX4) (T := TX4) (N := 6) hx hb hG wu_X4 hown hK hP 0 rfl rfl 2 (by decide) (hG _ wf_X4_24) (fun _ h9 => h9) rfl dX4_move_10 ?_
  refine va_get (D := D) (ci := 0) (v := .int (nI ((fil bd sd rt ps).length))) (C := RX1) (T := TX1) (N := 2) hx hb hG wu_X1 hown hK hP 7 rfl rfl 1 (by decide) (hG _ wf_X4_95) (fun _ h9 => h9) rfl dX4_move_13 ?_
  refine ln_icmp_lt (tgt := 29) hx hb dX4_move_16 (by decide) (by omega) (by omega) (fun c16 => ?_) (fun c16 => ?_)
  · skip
    refine lv_aload_n hx hb dX4_move_29 rfl (lv_at hl 0 rfl) ?_
    refine va_get (D := D) (ci := 3) (v := .ref h3) (C := RX4) (T := TX4) (N := 6) hx hb hG wu_X4 hown hK hP 0 rfl rfl 2 (by decide) (hG _ wf_X4_24) (fun _ h9 => h9) rfl dX4_move_30 ?_
    refine lv_iload_n hx hb dX4_move_33 rfl (lv_at hl 1 rfl) ?_
    refine roI (rnV (As := [.int (nI j)]) (rest := []) S0 (c_X1_get l (fil bd sd rt ps).length j (by omega) (by omega)) wm_X4_100 wi_X1_get ws_X1_get wn_X1 wc_X1_get hd_X1_get ⟨rfl, rfl, by decide, by decide⟩ IW.blind (va_recv hK hP (ci := 0) (q0 := 7) rfl rfl) (IW.at (ws := mW cI h3 a4 (nI (fil bd sd rt ps).length) u_2.1) (hP.sub [7, 8] rfl) (hD.sub [7, 8] (by decide) rfl) hK hA hE hS) hl.1 (Nat.le_of_ble_eq_true rfl) dX4_move_34 rfl ⟨by decide, by decide⟩) (fun r_4 hr_4 => ?_)
    subst hr_4
    refine W.top (y := .int (nI ((fil bd sd rt ps).getD j 0))) (congrArg Value.int (hLI j hj)) ?_
    exact weI ((u_2.1, u_2.2.1, u_2.2.2.1, u_2.2.2.2.1, u_2.2.2.2.2.1, u_2.2.2.2.2.2.1, u_2.2.2.2.2.2.2)) hx hb hr hlocks dX4_move_37 ⟨rfl, hLI⟩ hP hD hK hA hE hS
  · skip
    exact absurd c16 (by omega)
theorem dX4_place_0 : decode cX4_place 0 = .ok (.aload_n 0, 1) := by decide +kernel
theorem dX4_place_1 : decode cX4_place 1 = .ok (.invokevirtual 92, 3) := by decide +kernel
theorem dX4_place_4 : decode cX4_place 4 = .ok (.aload_n 0, 1) := by decide +kernel
theorem dX4_place_5 : decode cX4_place 5 = .ok (.getfield 24, 3) := by decide +kernel
theorem dX4_place_8 : decode cX4_place 8 = .ok (.iload_n 1, 1) := by decide +kernel
theorem dX4_place_9 : decode cX4_place 9 = .ok (.invokevirtual 104, 3) := by decide +kernel
theorem dX4_place_12 : decode cX4_place 12 = .ok (.ireturn, 1) := by decide +kernel
theorem hd_X4_place : yX4_place.cls ≠ "java/lang/invoke/MethodHandle" ∧ yX4_place.cls ≠ "java/lang/invoke/VarHandle" ∧ (parseMethodDescriptor yX4_place.desc).map (fun d => d.parameters.length) = some 1 := by decide +kernel
set_option maxHeartbeats 4000000 in
set_option maxRecDepth 100000 in
/-- place -/
theorem c_X4_place (l : Launch) {D : va_G} {cI cJ : ClassId} {A : Nat → Prop} {h0 h1 h2 a0 a1 a2 a3 h3 a4 h4 a5 : Nat} {ow tr fu kg co pn : Int64} {ma : Int32} {pcs : Nat → Int32} {sqa : Nat → Int64} {mvs los : Nat → Int32} {lsz : Int32} {lfs : Nat → Int32} {asz : Int32} {afs : Nat → Int32} (bd : Nat → Nat) (hCP : CP pcs sqa bd) (sd rt ps : Nat) (hs2 : sd < 2) (hr16 : rt < 16) (hp65 : ps < 65) (kb ob : Bool) (hKL : KLp kb ob lsz lfs bd sd rt ps) (hpl : cbp bd sd = true) (hlen : (fil bd sd rt ps).length ≤ 700) (x : Int32) : Met l yX4_place (Cond.code yX4_place cX4_place 2 (some .int) :: wsL_law) (rK 6) (va_Pc [.ref h0, .int x] (IW D cI cJ A (cW cI cJ h0 h1 h2 a0 a1 a2 a3 h3 a4 h4 a5 (bI kb) (bI ob) ow tr fu kg co pn (nI sd) (nI rt) (pI ps) ma pcs sqa mvs los lsz lfs asz afs))) (va_Qi (fun r u => r = fplN (fil bd sd rt ps) x (fil bd sd rt ps).length ∧ LI u.1 (fil bd sd rt ps)) (fun (u : (Nat → Int32) × Int64 × Int64 × Int64 × Int64 × Int64 × Int64) t9 => IW D cI cJ A (cW cI cJ h0 h1 h2 a0 a1 a2 a3 h3 a4 h4 a5 (bI true) (bI true) u.2.1 u.2.2.1 u.2.2.2.1 u.2.2.2.2.1 u.2.2.2.2.2.1 u.2.2.2.2.2.2 (nI sd) (nI rt) (pI ps) ma pcs sqa mvs los (nI (fil bd sd rt ps).length) u.1 asz afs) t9) A) 0 0 A := by
  refine entM (by decide) (Nat.le_of_ble_eq_true rfl) ?_
  intro p e s m below meth c ls S0 hr hlocks hG hnm hB hl
  have hx := S0.1
  have hb := S0.2.1
  have hown := S0.2.2.2.1
  have hl : lv_has ls 2 [(0, .ref h0), (1, .int x)] := hl
  obtain ⟨hP, hD, hK, hA, hE⟩ := hB
  have hS : va_S A s.heap s.heap [] := va_S.rf
  refine lv_aload_n hx hb dX4_place_0 rfl (lv_at hl 0 rfl) ?_
  refine chV (rnV (As := []) (rest := []) S0 (c_X4_needList l bd hCP sd rt ps hs2 hr16 hp65 kb ob hKL hpl hlen) wm_X4_92 wi_X4_needList ws_X4_needList wn_X4 wc_X4_needList hd_X4_needList ⟨rfl, rfl, by decide, by decide⟩ IW.blind (va_recv hK hP (ci := 3) (q0 := 0) rfl rfl) (IW.at hP hD hK hA hE hS) hl.1 (Nat.le_of_ble_eq_true rfl) dX4_place_1 rfl ⟨by decide, by decide⟩) hS (fun u_2 H locs hu hP hD hS => ?_)
  have hLI := hu
  have hP : va_P D classes (cW cI cJ h0 h1 h2 a0 a1 a2 a3 h3 a4 h4 a5 (bI true) (bI true) u_2.2.1 u_2.2.2.1 u_2.2.2.2.1 u_2.2.2.2.2.1 u_2.2.2.2.2.2.1 u_2.2.2.2.2.2.2 (nI sd) (nI rt) (pI ps) ma pcs sqa mvs los (nI (fil bd sd rt ps).length) u_2.1 asz afs) H := hP
  have hD : va_D A (cW cI cJ h0 h1 h2 a0 a1 a2 a3 h3 a4 h4 a5 (bI true) (bI true) u_2.2.1 u_2.2.2.1 u_2.2.2.2.1 u_2.2.2.2.2.1 u_2.2.2.2.2.2.1 u_2.2.2.2.2.2.2 (nI sd) (nI rt) (pI ps) ma pcs sqa mvs los (nI (fil bd sd rt ps).length) u_2.1 asz afs) := hD
  refine lv_aload_n hx hb dX4_place_4 rfl (lv_at hl 0 rfl) ?_
  refine va_get (D := D) (ci := 3) (v := .ref h3) (C := RX4) (T := TX4) (N := 6) hx hb hG wu_X4 hown hK hP 0 rfl rfl 2 (by decide) (hG _ wf_X4_24) (fun _ h9 => h9) rfl dX4_place_5 ?_
  refine lv_iload_n hx hb dX4_place_8 rfl (lv_at hl 1 rfl) ?_
  refine roI (rnV (As := [.int x]) (rest := []) S0 (c_X1_placeOf l (fil bd sd rt ps) hLI hlen x) wm_X4_104 wi_X1_placeOf ws_X1_placeOf wn_X1 wc_X1_placeOf hd_X1_placeOf ⟨rfl, rfl, by decide, by decide⟩ IW.blind (va_recv hK hP (ci := 0) (q0 := 7) rfl rfl) (IW.at (ws := mW cI h3 a4 (nI (fil bd sd rt ps).length) u_2.1) (hP.sub [7, 8] rfl) (hD.sub [7, 8] (by decide) rfl) hK hA hE hS) hl.1 (Nat.le_of_ble_eq_true rfl) dX4_place_9 rfl ⟨by decide, by decide⟩) (fun r_3 hr_3 => ?_)
  subst hr_3
  exact weI ((u_2.1, u_2.2.1, u_2.2.2.1, u_2.2.2.2.1, u_2.2.2.2.2.1, u_2.2.2.2.2.2.1, u_2.2.2.2.2.2.2)) hx hb hr hlocks dX4_place_12 ⟨rfl, hLI⟩ hP hD hK hA hE hS
theorem dX4_on_0 : decode cX4_on 0 = .ok (.aload_n 0, 1) := by decide +kernel
theorem dX4_on_1 : decode cX4_on 1 = .ok (.invokevirtual 92, 3) := by decide +kernel
theorem dX4_on_4 : decode cX4_on 4 = .ok (.iconst 0, 1) := by decide +kernel
theorem dX4_on_5 : decode cX4_on 5 = .ok (.istore_n 3, 1) := by decide +kernel
theorem dX4_on_6 : decode cX4_on 6 = .ok (.iconst 0, 1) := by decide +kernel
theorem dX4_on_7 : decode cX4_on 7 = .ok (.istore 4, 2) := by decide +kernel
theorem dX4_on_9 : decode cX4_on 9 = .ok (.iload 4, 2) := by decide +kernel
theorem dX4_on_11 : decode cX4_on 11 = .ok (.aload_n 0, 1) := by decide +kernel
theorem dX4_on_12 : decode cX4_on 12 = .ok (.getfield 24, 3) := by decide +kernel
theorem dX4_on_15 : decode cX4_on 15 = .ok (.getfield 95, 3) := by decide +kernel
theorem dX4_on_18 : decode cX4_on 18 = .ok (.if_icmp .ge 48, 3) := by decide +kernel
theorem dX4_on_21 : decode cX4_on 21 = .ok (.aload_n 0, 1) := by decide +kernel
theorem dX4_on_22 : decode cX4_on 22 = .ok (.getfield 24, 3) := by decide +kernel
theorem dX4_on_25 : decode cX4_on 25 = .ok (.iload 4, 2) := by decide +kernel
theorem dX4_on_27 : decode cX4_on 27 = .ok (.invokevirtual 100, 3) := by decide +kernel
theorem dX4_on_30 : decode cX4_on 30 = .ok (.istore 5, 2) := by decide +kernel
theorem dX4_on_32 : decode cX4_on 32 = .ok (.iload_n 2, 1) := by decide +kernel
theorem dX4_on_33 : decode cX4_on 33 = .ok (.ifCond .eq 11, 3) := by decide +kernel
theorem dX4_on_36 : decode cX4_on 36 = .ok (.iload 5, 2) := by decide +kernel
theorem dX4_on_38 : decode cX4_on 38 = .ok (.invokestatic 107, 3) := by decide +kernel
theorem dX4_on_41 : decode cX4_on 41 = .ok (.goto 8, 3) := by decide +kernel
theorem dX4_on_44 : decode cX4_on 44 = .ok (.iload 5, 2) := by decide +kernel
theorem dX4_on_46 : decode cX4_on 46 = .ok (.invokestatic 110, 3) := by decide +kernel
theorem dX4_on_49 : decode cX4_on 49 = .ok (.istore 6, 2) := by decide +kernel
theorem dX4_on_51 : decode cX4_on 51 = .ok (.iload 6, 2) := by decide +kernel
theorem dX4_on_53 : decode cX4_on 53 = .ok (.iload_n 1, 1) := by decide +kernel
theorem dX4_on_54 : decode cX4_on 54 = .ok (.if_icmp .ne 6, 3) := by decide +kernel
theorem dX4_on_57 : decode cX4_on 57 = .ok (.iinc 3 1, 3) := by decide +kernel
theorem dX4_on_60 : decode cX4_on 60 = .ok (.iinc 4 1, 3) := by decide +kernel
theorem dX4_on_63 : decode cX4_on 63 = .ok (.goto (-54), 3) := by decide +kernel
theorem dX4_on_66 : decode cX4_on 66 = .ok (.iload_n 3, 1) := by decide +kernel
theorem dX4_on_67 : decode cX4_on 67 = .ok (.ireturn, 1) := by decide +kernel
theorem hd_X4_on : yX4_on.cls ≠ "java/lang/invoke/MethodHandle" ∧ yX4_on.cls ≠ "java/lang/invoke/VarHandle" ∧ (parseMethodDescriptor yX4_on.desc).map (fun d => d.parameters.length) = some 2 := by decide +kernel
set_option maxHeartbeats 4000000 in
set_option maxRecDepth 100000 in
/-- on -/
theorem c_X4_on (l : Launch) {D : va_G} {cI cJ : ClassId} {A : Nat → Prop} {h0 h1 h2 a0 a1 a2 a3 h3 a4 h4 a5 : Nat} {ow tr fu kg co pn : Int64} {ma : Int32} {pcs : Nat → Int32} {sqa : Nat → Int64} {mvs los : Nat → Int32} {lsz : Int32} {lfs : Nat → Int32} {asz : Int32} {afs : Nat → Int32} (bd : Nat → Nat) (hCP : CP pcs sqa bd) (sd rt ps : Nat) (hs2 : sd < 2) (hr16 : rt < 16) (hp65 : ps < 65) (kb ob : Bool) (hKL : KLp kb ob lsz lfs bd sd rt ps) (hpl : cbp bd sd = true) (hlen : (fil bd sd rt ps).length ≤ 700) (hml : ∀ y ∈ (fil bd sd rt ps), y < 24576) (x : Int32) (w : Bool) : Met l yX4_on (Cond.code yX4_on cX4_on 7 (some .int) :: wsL_law) (rK 6) (va_Pc [.ref h0, .int x, .int (bI w)] (IW D cI cJ A (cW cI cJ h0 h1 h2 a0 a1 a2 a3 h3 a4 h4 a5 (bI kb) (bI ob) ow tr fu kg co pn (nI sd) (nI rt) (pI ps) ma pcs sqa mvs los lsz lfs asz afs))) (va_Qi (fun r u => r = nI (onc (fil bd sd rt ps) x w (fil bd sd rt ps).length) ∧ LI u.1 (fil bd sd rt ps)) (fun (u : (Nat → Int32) × Int64 × Int64 × Int64 × Int64 × Int64 × Int64) t9 => IW D cI cJ A (cW cI cJ h0 h1 h2 a0 a1 a2 a3 h3 a4 h4 a5 (bI true) (bI true) u.2.1 u.2.2.1 u.2.2.2.1 u.2.2.2.2.1 u.2.2.2.2.2.1 u.2.2.2.2.2.2 (nI sd) (nI rt) (pI ps) ma pcs sqa mvs los (nI (fil bd sd rt ps).length) u.1 asz afs) t9) A) 0 0 A := by
  refine entM (by decide) (Nat.le_of_ble_eq_true rfl) ?_
  intro p e s m below meth c ls S0 hr hlocks hG hnm hB hl
  have hx := S0.1
  have hb := S0.2.1
  have hown := S0.2.2.2.1
  have hl : lv_has ls 7 [(0, .ref h0), (1, .int x), (2, .int (bI w))] := hl
  obtain ⟨hP, hD, hK, hA, hE⟩ := hB
  have hS : va_S A s.heap s.heap [] := va_S.rf
  refine lv_aload_n hx hb dX4_on_0 rfl (lv_at hl 0 rfl) ?_
  refine chV (rnV (As := []) (rest := []) S0 (c_X4_needList l bd hCP sd rt ps hs2 hr16 hp65 kb ob hKL hpl hlen) wm_X4_92 wi_X4_needList ws_X4_needList wn_X4 wc_X4_needList hd_X4_needList ⟨rfl, rfl, by decide, by decide⟩ IW.blind (va_recv hK hP (ci := 3) (q0 := 0) rfl rfl) (IW.at hP hD hK hA hE hS) hl.1 (Nat.le_of_ble_eq_true rfl) dX4_on_1 rfl ⟨by decide, by decide⟩) hS (fun u1 H locs hu hP hD hS => ?_)
  have hLI := hu
  have hP : va_P D classes (cW cI cJ h0 h1 h2 a0 a1 a2 a3 h3 a4 h4 a5 (bI true) (bI true) u1.2.1 u1.2.2.1 u1.2.2.2.1 u1.2.2.2.2.1 u1.2.2.2.2.2.1 u1.2.2.2.2.2.2 (nI sd) (nI rt) (pI ps) ma pcs sqa mvs los (nI (fil bd sd rt ps).length) u1.1 asz afs) H := hP
  have hD : va_D A (cW cI cJ h0 h1 h2 a0 a1 a2 a3 h3 a4 h4 a5 (bI true) (bI true) u1.2.1 u1.2.2.1 u1.2.2.2.1 u1.2.2.2.2.1 u1.2.2.2.2.2.1 u1.2.2.2.2.2.2 (nI sd) (nI rt) (pI ps) ma pcs sqa mvs los (nI (fil bd sd rt ps).length) u1.1 asz afs) := hD
  refine lv_iconst (v := (nI 0)) hx hb dX4_on_4 (by decide) ?_
  refine W.top (y := .int (nI (onc (fil bd sd rt ps) x w 0))) (congrArg Value.int rfl) ?_
  refine lv_istore_n (lv' := [(3, .int (nI (onc (fil bd sd rt ps) x w 0))), (0, .ref h0), (1, .int x), (2, .int (bI w))]) hx hb dX4_on_5 rfl hl (by decide) rfl (fun ls hl => ?_)
  refine lv_iconst (v := (nI 0)) hx hb dX4_on_6 (by decide) ?_
  refine lv_istore (lv' := [(4, .int (nI 0)), (3, .int (nI (onc (fil bd sd rt ps) x w 0))), (0, .ref h0), (1, .int x), (2, .int (bI w))]) hx hb dX4_on_7 hl (by decide) rfl (fun ls hl => ?_)
  refine lpW (σ := (Nat)) 9 7 [] (fun x9 => [(0, .ref h0), (1, .int x), (2, .int (bI w)), (3, .int (nI (onc (fil bd sd rt ps) x w x9))), (4, .int (nI x9))]) (fun x9 => cW cI cJ h0 h1 h2 a0 a1 a2 a3 h3 a4 h4 a5 (bI true) (bI true) u1.2.1 u1.2.2.1 u1.2.2.2.1 u1.2.2.2.2.1 u1.2.2.2.2.2.1 u1.2.2.2.2.2.2 (nI sd) (nI rt) (pI ps) ma pcs sqa mvs los (nI (fil bd sd rt ps).length) u1.1 asz afs) (fun x9 => x9 ≤ (fil bd sd rt ps).length) (fun x9 => (fil bd sd rt ps).length - x9) 0 (Nat.zero_le _) (lv_sub hl [2, 3, 4, 1, 0] rfl) hP hD hS ?_
  clear hP hD hS hl ls
  rintro i H locs hI hP hD hS ih_9 ls hl
  try dsimp only at hI ih_9 hl hP hD
  have hon := onc_le (fil bd sd rt ps) x w i
  refine lv_iload hx hb dX4_on_9 (lv_at hl 4 rfl) ?_
  refine lv_aload_n hx hb dX4_on_11 rfl (lv_at hl 0 rfl) ?_
  refine va_get (D := D) (ci := 3) (v := .ref h3) (C := RX4) (T := TX4) (N := 6) hx hb hG wu_X4 hown hK hP 0 rfl rfl 2 (by decide) (hG _ wf_X4_24) (fun _ h9 => h9) rfl dX4_on_12 ?_
  refine va_get (D := D) (ci := 0) (v := .int (nI ((fil bd sd rt ps).length))) (C := RX1) (T := TX1) (N := 2) hx hb hG wu_X1 hown hK hP 7 rfl rfl 1 (by decide) (hG _ wf_X4_95) (fun _ h9 => h9) rfl dX4_on_15 ?_
  refine ln_icmp_ge (tgt := 66) hx hb dX4_on_18 (by decide) (by omega) (by omega) (fun c18 => ?_) (fun c18 => ?_)
  · skip
    refine lv_iload_n hx hb dX4_on_66 rfl (lv_at hl 3 rfl) ?_
    exact weI ((u1.1, u1.2.1, u1.2.2.1, u1.2.2.2.1, u1.2.2.2.2.1, u1.2.2.2.2.2.1, u1.2.2.2.2.2.2)) hx hb hr hlocks dX4_on_67 ⟨by rw [show i = (fil bd sd rt ps).length by omega], hLI⟩ hP hD hK hA hE hS
  · skip
    have hi2 : i < (fil bd sd rt ps).length := by omega
    have hv8 : (fil bd sd rt ps).getD i 0 < 24576 := getD_lt hml (by decide)
    refine lv_aload_n hx hb dX4_on_21 rfl (lv_at hl 0 rfl) ?_
    refine va_get (D := D) (ci := 3) (v := .ref h3) (C := RX4) (T := TX4) (N := 6) hx hb hG wu_X4 hown hK hP 0 rfl rfl 2 (by decide) (hG _ wf_X4_24) (fun _ h9 => h9) rfl dX4_on_22 ?_
    refine lv_iload hx hb dX4_on_25 (lv_at hl 4 rfl) ?_
    refine roI (rnV (As := [.int (nI i)]) (rest := []) S0 (c_X1_get l (fil bd sd rt ps).length i (by omega) (by omega)) wm_X4_100 wi_X1_get ws_X1_get wn_X1 wc_X1_get hd_X1_get ⟨rfl, rfl, by decide, by decide⟩ IW.blind (va_recv hK hP (ci := 0) (q0 := 7) rfl rfl) (IW.at (ws := mW cI h3 a4 (nI (fil bd sd rt ps).length) u1.1) (hP.sub [7, 8] rfl) (hD.sub [7, 8] (by decide) rfl) hK hA hE hS) hl.1 (Nat.le_of_ble_eq_true rfl) dX4_on_27 rfl ⟨by decide, by decide⟩) (fun r_2 hr_2 => ?_)
    subst hr_2
    refine W.top (y := .int (nI ((fil bd sd rt ps).getD i 0))) (congrArg Value.int (hLI i hi2)) ?_
    refine lv_istore (lv' := [(5, .int (nI ((fil bd sd rt ps).getD i 0))), (0, .ref h0), (1, .int x), (2, .int (bI w)), (3, .int (nI (onc (fil bd sd rt ps) x w i))), (4, .int (nI i))]) hx hb dX4_on_30 hl (by decide) rfl (fun ls hl => ?_)
    refine lv_iload_n hx hb dX4_on_32 rfl (lv_at hl 3 rfl) ?_
    refine jnG 49 7 [(5, .int (nI ((fil bd sd rt ps).getD i 0))), (0, .ref h0), (1, .int x), (2, .int (bI w)), (3, .int (nI (onc (fil bd sd rt ps) x w i))), (4, .int (nI i))] [.int (nI (if w = true then (fil bd sd rt ps).getD i 0 % 64 else (fil bd sd rt ps).getD i 0 / 64 % 64))] ?_ (fun hj_49 => ?_)
    · intro ls hl
      refine lv_istore (lv' := [(6, .int (nI (if w = true then (fil bd sd rt ps).getD i 0 % 64 else (fil bd sd rt ps).getD i 0 / 64 % 64))), (5, .int (nI ((fil bd sd rt ps).getD i 0))), (0, .ref h0), (1, .int x), (2, .int (bI w)), (3, .int (nI (onc (fil bd sd rt ps) x w i))), (4, .int (nI i))]) hx hb dX4_on_49 hl (by decide) rfl (fun ls hl => ?_)
      refine lv_iload hx hb dX4_on_51 (lv_at hl 0 rfl) ?_
      refine lv_iload_n hx hb dX4_on_53 rfl (lv_at hl 3 rfl) ?_
      refine jnG 60 7 [(0, .ref h0), (1, .int x), (2, .int (bI w)), (3, .int (nI (onc (fil bd sd rt ps) x w (i + 1)))), (4, .int (nI i))] [] ?_ (fun hj_60 => ?_)
      · intro ls hl
        refine lv_iinc (v := (nI (i + 1))) (lv' := [(4, .int (nI (i + 1))), (0, .ref h0), (1, .int x), (2, .int (bI w)), (3, .int (nI (onc (fil bd sd rt ps) x w (i + 1))))]) hx hb dX4_on_60 hl (k := 4) rfl (show nI i + Int32.ofInt 1 = nI (i + 1) from nI_add _ 1) (by decide) rfl (fun ls hl => ?_)
        refine lv_goto (tgt := 9) hx hb dX4_on_63 (by decide) ?_
        exact ih_9 (i + 1) _ _ (by omega) (by (try dsimp only); omega) hP hD hS ls (lv_sub hl [1, 2, 3, 4, 0] rfl)
      · skip
        refine lv_icmp_ne (tgt := 60) hx hb dX4_on_54 (by decide) (fun c54 => ?_) (fun c54 => ?_)
        · skip
          have hl2 : lv_has ls 7 [(0, .ref h0), (1, .int x), (2, .int (bI w)), (3, .int (nI (onc (fil bd sd rt ps) x w i))), (4, .int (nI i))] := by
            exact lv_sub hl [2, 3, 4, 5, 6] rfl
          exact hj_60 ls (by have e9 : ([(0, .ref h0), (1, .int x), (2, .int (bI w)), (3, .int (nI (onc (fil bd sd rt ps) x w i))), (4, .int (nI i))] : List (Nat × Value)) = [(0, .ref h0), (1, .int x), (2, .int (bI w)), (3, .int (nI (onc (fil bd sd rt ps) x w (i + 1)))), (4, .int (nI i))] := (by rw [onc_s]; first | (rw [if_neg c54]; rfl) | rw [if_pos c54]); rw [← e9]; exact hl2)
        · skip
          refine lv_iinc (v := (nI ((onc (fil bd sd rt ps) x w i) + 1))) (lv' := [(3, .int (nI ((onc (fil bd sd rt ps) x w i) + 1))), (6, .int (nI (if w = true then (fil bd sd rt ps).getD i 0 % 64 else (fil bd sd rt ps).getD i 0 / 64 % 64))), (5, .int (nI ((fil bd sd rt ps).getD i 0))), (0, .ref h0), (1, .int x), (2, .int (bI w)), (4, .int (nI i))]) hx hb dX4_on_57 hl (k := 5) rfl (show nI (onc (fil bd sd rt ps) x w i) + Int32.ofInt 1 = nI ((onc (fil bd sd rt ps) x w i) + 1) from nI_add _ 1) (by decide) rfl (fun ls hl => ?_)
          have hl2 : lv_has ls 7 [(0, .ref h0), (1, .int x), (2, .int (bI w)), (3, .int (nI ((onc (fil bd sd rt ps) x w i) + 1))), (4, .int (nI i))] := by
            exact lv_sub hl [3, 4, 5, 0, 6] rfl
          exact hj_60 ls (by have e9 : ([(0, .ref h0), (1, .int x), (2, .int (bI w)), (3, .int (nI ((onc (fil bd sd rt ps) x w i) + 1))), (4, .int (nI i))] : List (Nat × Value)) = [(0, .ref h0), (1, .int x), (2, .int (bI w)), (3, .int (nI (onc (fil bd sd rt ps) x w (i + 1)))), (4, .int (nI i))] := (by rw [onc_s]; first | (rw [if_neg c54]; rfl) | rw [if_pos c54]); rw [← e9]; exact hl2)
    · skip
      refine lb_if_eq (tgt := 44) hx hb dX4_on_33 (by decide) (fun c33 => ?_) (fun c33 => ?_)
      · skip
        refine lv_iload hx hb dX4_on_44 (lv_at hl 0 rfl) ?_
        refine roI (rnS (As := [.int (nI ((fil bd sd rt ps).getD i 0))]) (rest := []) S0 (c_X4_toOf l (nI ((fil bd sd rt ps).getD i 0))) wm_X4_110 wt_X4_toOf wn_X4 wc_X4_toOf hd_X4_toOf ⟨rfl, rfl, by decide, by decide⟩ True.blind (fun _ _ _ => trivial) hl.1 (Nat.le_of_ble_eq_true rfl) dX4_on_46 rfl ⟨by decide, by decide⟩) (fun r_3 hr_3 => ?_)
        subst hr_3
        refine W.top (y := .int (nI ((fil bd sd rt ps).getD i 0 / 64 % 64))) (congrArg Value.int (to9 hv8)) ?_
        refine W.top (y := .int (nI (if w = true then (fil bd sd rt ps).getD i 0 % 64 else (fil bd sd rt ps).getD i 0 / 64 % 64))) (congrArg Value.int (congrArg nI (by first | rw [if_pos c33] | rw [if_neg (show ¬ w = true by rw [c33]; decide)]))) ?_
        exact hj_49 ls (lv_sub hl [0, 1, 2, 3, 4, 5] rfl)
      · skip
        refine lv_iload hx hb dX4_on_36 (lv_at hl 0 rfl) ?_
        refine roI (rnS (As := [.int (nI ((fil bd sd rt ps).getD i 0))]) (rest := []) S0 (c_X4_fromOf l (nI ((fil bd sd rt ps).getD i 0))) wm_X4_107 wt_X4_fromOf wn_X4 wc_X4_fromOf hd_X4_fromOf ⟨rfl, rfl, by decide, by decide⟩ True.blind (fun _ _ _ => trivial) hl.1 (Nat.le_of_ble_eq_true rfl) dX4_on_38 rfl ⟨by decide, by decide⟩) (fun r_4 hr_4 => ?_)
        subst hr_4
        refine W.top (y := .int (nI ((fil bd sd rt ps).getD i 0 % 64))) (congrArg Value.int (fr9 hv8)) ?_
        refine lv_goto (tgt := 49) hx hb dX4_on_41 (by decide) ?_
        refine W.top (y := .int (nI (if w = true then (fil bd sd rt ps).getD i 0 % 64 else (fil bd sd rt ps).getD i 0 / 64 % 64))) (congrArg Value.int (congrArg nI (by first | rw [if_pos c33] | rw [if_neg (show ¬ w = true by rw [c33]; decide)]))) ?_
        exact hj_49 ls (lv_sub hl [0, 1, 2, 3, 4, 5] rfl)
theorem dX4_check_0 : decode cX4_check 0 = .ok (.aload_n 0, 1) := by decide +kernel
theorem dX4_check_1 : decode cX4_check 1 = .ok (.invokevirtual 92, 3) := by decide +kernel
theorem dX4_check_4 : decode cX4_check 4 = .ok (.aload_n 0, 1) := by decide +kernel
theorem dX4_check_5 : decode cX4_check 5 = .ok (.getfield 20, 3) := by decide +kernel
theorem dX4_check_8 : decode cX4_check 8 = .ok (.aload_n 0, 1) := by decide +kernel
theorem dX4_check_9 : decode cX4_check 9 = .ok (.getfield 20, 3) := by decide +kernel
theorem dX4_check_12 : decode cX4_check 12 = .ok (.getfield 78, 3) := by decide +kernel
theorem dX4_check_15 : decode cX4_check 15 = .ok (.invokevirtual 122, 3) := by decide +kernel
theorem dX4_check_18 : decode cX4_check 18 = .ok (.ireturn, 1) := by decide +kernel
theorem hd_X4_check : yX4_check.cls ≠ "java/lang/invoke/MethodHandle" ∧ yX4_check.cls ≠ "java/lang/invoke/VarHandle" ∧ (parseMethodDescriptor yX4_check.desc).map (fun d => d.parameters.length) = some 0 := by decide +kernel
set_option maxHeartbeats 4000000 in
set_option maxRecDepth 100000 in
/-- check -/
theorem c_X4_check (l : Launch) {D : va_G} {cI cJ : ClassId} {A : Nat → Prop} {h0 h1 h2 a0 a1 a2 a3 h3 a4 h4 a5 : Nat} {ow tr fu kg co pn : Int64} {ma : Int32} {pcs : Nat → Int32} {sqa : Nat → Int64} {mvs los : Nat → Int32} {lsz : Int32} {lfs : Nat → Int32} {asz : Int32} {afs : Nat → Int32} (bd : Nat → Nat) (hCP : CP pcs sqa bd) (sd rt ps : Nat) (hs2 : sd < 2) (hr16 : rt < 16) (hp65 : ps < 65) (kb ob : Bool) (hKL : KLp kb ob lsz lfs bd sd rt ps) (hpl : cbp bd sd = true) (hlen : (fil bd sd rt ps).length ≤ 700) : Met l yX4_check (Cond.code yX4_check cX4_check 1 (some .boolean) :: wsL_law) (rK 6) (va_Pc [.ref h0] (IW D cI cJ A (cW cI cJ h0 h1 h2 a0 a1 a2 a3 h3 a4 h4 a5 (bI kb) (bI ob) ow tr fu kg co pn (nI sd) (nI rt) (pI ps) ma pcs sqa mvs los lsz lfs asz afs))) (va_Qi (fun r u => r = bI (kia bd sd) ∧ LI u.1 (fil bd sd rt ps)) (fun (u : (Nat → Int32) × Int64 × Int64 × Int64 × Int64 × Int64 × Int64) t9 => IW D cI cJ A (cW cI cJ h0 h1 h2 a0 a1 a2 a3 h3 a4 h4 a5 (bI true) (bI true) u.2.1 u.2.2.1 u.2.2.2.1 u.2.2.2.2.1 u.2.2.2.2.2.1 u.2.2.2.2.2.2 (nI sd) (nI rt) (pI ps) ma pcs sqa mvs los (nI (fil bd sd rt ps).length) u.1 asz afs) t9) A) 0 0 A := by
  refine entM (by decide) (Nat.le_of_ble_eq_true rfl) ?_
  intro p e s m below meth c ls S0 hr hlocks hG hnm hB hl
  have hx := S0.1
  have hb := S0.2.1
  have hown := S0.2.2.2.1
  have hl : lv_has ls 1 [(0, .ref h0)] := hl
  obtain ⟨hP, hD, hK, hA, hE⟩ := hB
  have hS : va_S A s.heap s.heap [] := va_S.rf
  refine lv_aload_n hx hb dX4_check_0 rfl (lv_at hl 0 rfl) ?_
  refine chV (rnV (As := []) (rest := []) S0 (c_X4_needList l bd hCP sd rt ps hs2 hr16 hp65 kb ob hKL hpl hlen) wm_X4_92 wi_X4_needList ws_X4_needList wn_X4 wc_X4_needList hd_X4_needList ⟨rfl, rfl, by decide, by decide⟩ IW.blind (va_recv hK hP (ci := 3) (q0 := 0) rfl rfl) (IW.at hP hD hK hA hE hS) hl.1 (Nat.le_of_ble_eq_true rfl) dX4_check_1 rfl ⟨by decide, by decide⟩) hS (fun u_2 H locs hu hP hD hS => ?_)
  have hLI := hu
  have hP : va_P D classes (cW cI cJ h0 h1 h2 a0 a1 a2 a3 h3 a4 h4 a5 (bI true) (bI true) u_2.2.1 u_2.2.2.1 u_2.2.2.2.1 u_2.2.2.2.2.1 u_2.2.2.2.2.2.1 u_2.2.2.2.2.2.2 (nI sd) (nI rt) (pI ps) ma pcs sqa mvs los (nI (fil bd sd rt ps).length) u_2.1 asz afs) H := hP
  have hD : va_D A (cW cI cJ h0 h1 h2 a0 a1 a2 a3 h3 a4 h4 a5 (bI true) (bI true) u_2.2.1 u_2.2.2.1 u_2.2.2.2.1 u_2.2.2.2.2.1 u_2.2.2.2.2.2.1 u_2.2.2.2.2.2.2 (nI sd) (nI rt) (pI ps) ma pcs sqa mvs los (nI (fil bd sd rt ps).length) u_2.1 asz afs) := hD
  refine lv_aload_n hx hb dX4_check_4 rfl (lv_at hl 0 rfl) ?_
  refine va_get (D := D) (ci := 3) (v := .ref h2) (C := RX4) (T := TX4) (N := 6) hx hb hG wu_X4 hown hK hP 0 rfl rfl 1 (by decide) (hG _ wf_X4_20) (fun _ h9 => h9) rfl dX4_check_5 ?_
  refine lv_aload_n hx hb dX4_check_8 rfl (lv_at hl 0 rfl) ?_
  refine va_get (D := D) (ci := 3) (v := .ref h2) (C := RX4) (T := TX4) (N := 6) hx hb hG wu_X4 hown hK hP 0 rfl rfl 1 (by decide) (hG _ wf_X4_20) (fun _ h9 => h9) rfl dX4_check_9 ?_
  refine va_get (D := D) (ci := 1) (v := .int (nI sd)) (C := RX2) (T := TX2) (N := 8) hx hb hG wu_X2 hown hK hP 2 rfl rfl 2 (by decide) (hG _ wf_X4_78) (fun _ h9 => h9) rfl dX4_check_12 ?_
  refine roI (rnV (As := [.int (nI sd)]) (rest := []) S0 (c_X2_kingIsAttacked l bd hCP sd (by omega)) wm_X4_122 wi_X2_kingIsAttacked ws_X2_kingIsAttacked wn_X2 wc_X2_kingIsAttacked hd_X2_kingIsAttacked ⟨rfl, rfl, by decide, by decide⟩ IW.blind (va_recv hK hP (ci := 1) (q0 := 2) rfl rfl) (IW.at hP hD hK hA hE hS) hl.1 (Nat.le_of_ble_eq_true rfl) dX4_check_15 rfl ⟨by decide, by decide⟩) (fun r_3 hr_3 => ?_)
  subst hr_3
  exact weZ (v := kia bd sd) ((u_2.1, u_2.2.1, u_2.2.2.1, u_2.2.2.2.1, u_2.2.2.2.2.1, u_2.2.2.2.2.2.1, u_2.2.2.2.2.2.2)) hx hb hr hlocks dX4_check_18 ⟨rfl, hLI⟩ hP hD hK hA hE hS
theorem dX4_pinned_0 : decode cX4_pinned 0 = .ok (.aload_n 0, 1) := by decide +kernel
theorem dX4_pinned_1 : decode cX4_pinned 1 = .ok (.invokevirtual 92, 3) := by decide +kernel
theorem dX4_pinned_4 : decode cX4_pinned 4 = .ok (.aload_n 0, 1) := by decide +kernel
theorem dX4_pinned_5 : decode cX4_pinned 5 = .ok (.getfield 12, 3) := by decide +kernel
theorem dX4_pinned_8 : decode cX4_pinned 8 = .ok (.invokevirtual 149, 3) := by decide +kernel
theorem dX4_pinned_11 : decode cX4_pinned 11 = .ok (.lreturn, 1) := by decide +kernel
theorem hd_X4_pinned : yX4_pinned.cls ≠ "java/lang/invoke/MethodHandle" ∧ yX4_pinned.cls ≠ "java/lang/invoke/VarHandle" ∧ (parseMethodDescriptor yX4_pinned.desc).map (fun d => d.parameters.length) = some 0 := by decide +kernel
set_option maxHeartbeats 4000000 in
set_option maxRecDepth 100000 in
/-- pinned -/
theorem c_X4_pinned (l : Launch) {D : va_G} {cI cJ : ClassId} {A : Nat → Prop} {h0 h1 h2 a0 a1 a2 a3 h3 a4 h4 a5 : Nat} {ow tr fu kg co pn : Int64} {ma : Int32} {pcs : Nat → Int32} {sqa : Nat → Int64} {mvs los : Nat → Int32} {lsz : Int32} {lfs : Nat → Int32} {asz : Int32} {afs : Nat → Int32} (bd : Nat → Nat) (hCP : CP pcs sqa bd) (sd rt ps : Nat) (hs2 : sd < 2) (hr16 : rt < 16) (hp65 : ps < 65) (kb ob : Bool) (hKL : KLp kb ob lsz lfs bd sd rt ps) (hpl : cbp bd sd = true) (hlen : (fil bd sd rt ps).length ≤ 700) : Met l yX4_pinned (Cond.code yX4_pinned cX4_pinned 1 (some .long) :: wsL_law) (rK 6) (va_Pc [.ref h0] (IW D cI cJ A (cW cI cJ h0 h1 h2 a0 a1 a2 a3 h3 a4 h4 a5 (bI kb) (bI ob) ow tr fu kg co pn (nI sd) (nI rt) (pI ps) ma pcs sqa mvs los lsz lfs asz afs))) (va_Ql (fun r u => r = pinS bd sd ∧ LI u.1 (fil bd sd rt ps)) (fun (u : (Nat → Int32) × Int64 × Int64 × Int64 × Int64 × Int64 × Int64) t9 => IW D cI cJ A (cW cI cJ h0 h1 h2 a0 a1 a2 a3 h3 a4 h4 a5 (bI true) (bI true) u.2.1 u.2.2.1 u.2.2.2.1 u.2.2.2.2.1 u.2.2.2.2.2.1 u.2.2.2.2.2.2 (nI sd) (nI rt) (pI ps) ma pcs sqa mvs los (nI (fil bd sd rt ps).length) u.1 asz afs) t9) A) 0 0 A := by
  refine entM (by decide) (Nat.le_of_ble_eq_true rfl) ?_
  intro p e s m below meth c ls S0 hr hlocks hG hnm hB hl
  have hx := S0.1
  have hb := S0.2.1
  have hown := S0.2.2.2.1
  have hl : lv_has ls 1 [(0, .ref h0)] := hl
  obtain ⟨hP, hD, hK, hA, hE⟩ := hB
  have hS : va_S A s.heap s.heap [] := va_S.rf
  refine lv_aload_n hx hb dX4_pinned_0 rfl (lv_at hl 0 rfl) ?_
  refine chV (rnV (As := []) (rest := []) S0 (c_X4_needList l bd hCP sd rt ps hs2 hr16 hp65 kb ob hKL hpl hlen) wm_X4_92 wi_X4_needList ws_X4_needList wn_X4 wc_X4_needList hd_X4_needList ⟨rfl, rfl, by decide, by decide⟩ IW.blind (va_recv hK hP (ci := 3) (q0 := 0) rfl rfl) (IW.at hP hD hK hA hE hS) hl.1 (Nat.le_of_ble_eq_true rfl) dX4_pinned_1 rfl ⟨by decide, by decide⟩) hS (fun u_2 H locs hu hP hD hS => ?_)
  have hLI := hu
  have hP : va_P D classes (cW cI cJ h0 h1 h2 a0 a1 a2 a3 h3 a4 h4 a5 (bI true) (bI true) u_2.2.1 u_2.2.2.1 u_2.2.2.2.1 u_2.2.2.2.2.1 u_2.2.2.2.2.2.1 u_2.2.2.2.2.2.2 (nI sd) (nI rt) (pI ps) ma pcs sqa mvs los (nI (fil bd sd rt ps).length) u_2.1 asz afs) H := hP
  have hD : va_D A (cW cI cJ h0 h1 h2 a0 a1 a2 a3 h3 a4 h4 a5 (bI true) (bI true) u_2.2.1 u_2.2.2.1 u_2.2.2.2.1 u_2.2.2.2.2.1 u_2.2.2.2.2.2.1 u_2.2.2.2.2.2.2 (nI sd) (nI rt) (pI ps) ma pcs sqa mvs los (nI (fil bd sd rt ps).length) u_2.1 asz afs) := hD
  refine lv_aload_n hx hb dX4_pinned_4 rfl (lv_at hl 0 rfl) ?_
  refine va_get (D := D) (ci := 3) (v := .ref h1) (C := RX4) (T := TX4) (N := 6) hx hb hG wu_X4 hown hK hP 0 rfl rfl 0 (by decide) (hG _ wf_X4_12) (fun _ h9 => h9) rfl dX4_pinned_5 ?_
  refine chL (rnV (As := []) (rest := []) S0 (c_X3_pinnedSquares l bd hCP sd hs2) wm_X4_149 wi_X3_pinnedSquares ws_X3_pinnedSquares wn_X3 wc_X3_pinnedSquares hd_X3_pinnedSquares ⟨rfl, rfl, by decide, by decide⟩ IW.blind (va_recv hK hP (ci := 2) (q0 := 1) rfl rfl) (IW.at hP hD hK hA hE hS) hl.1 (Nat.le_of_ble_eq_true rfl) dX4_pinned_8 rfl ⟨by decide, by decide⟩) hS (fun r_3 u_4 H locs hu hP hD hS => ?_)
  subst hu
  have hP : va_P D classes (cW cI cJ h0 h1 h2 a0 a1 a2 a3 h3 a4 h4 a5 (bI true) (bI true) (ownS bd sd) (thrS bd sd) (fulS bd sd) (kngS bd sd) (covS bd sd) (pinS bd sd) (nI sd) (nI rt) (pI ps) ma pcs sqa mvs los (nI (fil bd sd rt ps).length) u_2.1 asz afs) H := hP
  have hD : va_D A (cW cI cJ h0 h1 h2 a0 a1 a2 a3 h3 a4 h4 a5 (bI true) (bI true) (ownS bd sd) (thrS bd sd) (fulS bd sd) (kngS bd sd) (covS bd sd) (pinS bd sd) (nI sd) (nI rt) (pI ps) ma pcs sqa mvs los (nI (fil bd sd rt ps).length) u_2.1 asz afs) := hD
  exact weL ((u_2.1, (ownS bd sd), (thrS bd sd), (fulS bd sd), (kngS bd sd), (covS bd sd), (pinS bd sd))) hx hb hr hlocks dX4_pinned_11 ⟨rfl, hLI⟩ hP hD hK hA hE hS
theorem dX4_put_0 : decode cX4_put 0 = .ok (.iload_n 1, 1) := by decide +kernel
theorem dX4_put_1 : decode cX4_put 1 = .ok (.invokestatic 49, 3) := by decide +kernel
theorem dX4_put_4 : decode cX4_put 4 = .ok (.ifCond .ne 13, 3) := by decide +kernel
theorem dX4_put_7 : decode cX4_put 7 = .ok (.new 53, 3) := by decide +kernel
theorem dX4_put_10 : decode cX4_put 10 = .ok (.dup, 1) := by decide +kernel
theorem dX4_put_11 : decode cX4_put 11 = .ok (.ldc 55, 2) := by decide +kernel
theorem dX4_put_13 : decode cX4_put 13 = .ok (.invokespecial 57, 3) := by decide +kernel
theorem dX4_put_16 : decode cX4_put 16 = .ok (.athrow, 1) := by decide +kernel
theorem dX4_put_17 : decode cX4_put 17 = .ok (.iload_n 2, 1) := by decide +kernel
theorem dX4_put_18 : decode cX4_put 18 = .ok (.invokestatic 60, 3) := by decide +kernel
theorem dX4_put_21 : decode cX4_put 21 = .ok (.ifCond .ne 13, 3) := by decide +kernel
theorem dX4_put_24 : decode cX4_put 24 = .ok (.new 63, 3) := by decide +kernel
theorem dX4_put_27 : decode cX4_put 27 = .ok (.dup, 1) := by decide +kernel
theorem dX4_put_28 : decode cX4_put 28 = .ok (.ldc 65, 2) := by decide +kernel
theorem dX4_put_30 : decode cX4_put 30 = .ok (.invokespecial 67, 3) := by decide +kernel
theorem dX4_put_33 : decode cX4_put 33 = .ok (.athrow, 1) := by decide +kernel
theorem dX4_put_34 : decode cX4_put 34 = .ok (.aload_n 0, 1) := by decide +kernel
theorem dX4_put_35 : decode cX4_put 35 = .ok (.getfield 20, 3) := by decide +kernel
theorem dX4_put_38 : decode cX4_put 38 = .ok (.iload_n 1, 1) := by decide +kernel
theorem dX4_put_39 : decode cX4_put 39 = .ok (.iload_n 2, 1) := by decide +kernel
theorem dX4_put_40 : decode cX4_put 40 = .ok (.invokevirtual 68, 3) := by decide +kernel
theorem dX4_put_43 : decode cX4_put 43 = .ok (.aload_n 0, 1) := by decide +kernel
theorem dX4_put_44 : decode cX4_put 44 = .ok (.invokevirtual 43, 3) := by decide +kernel
theorem dX4_put_47 : decode cX4_put 47 = .ok (.return_, 1) := by decide +kernel
theorem hd_X4_put : yX4_put.cls ≠ "java/lang/invoke/MethodHandle" ∧ yX4_put.cls ≠ "java/lang/invoke/VarHandle" ∧ (parseMethodDescriptor yX4_put.desc).map (fun d => d.parameters.length) = some 2 := by decide +kernel
set_option maxHeartbeats 4000000 in
set_option maxRecDepth 100000 in
/-- put -/
theorem c_X4_put (l : Launch) {D : va_G} {cI cJ : ClassId} {A : Nat → Prop} {h0 h1 h2 a0 a1 a2 a3 h3 a4 h4 a5 : Nat} {kn op : Int32} {ow tr fu kg co pn : Int64} {si ri pa ma : Int32} {pcs : Nat → Int32} {sqa : Nat → Int64} {mvs los : Nat → Int32} {lsz : Int32} {lfs : Nat → Int32} {asz : Int32} {afs : Nat → Int32} (bd : Nat → Nat) (hCP : CP pcs sqa bd) (q v : Nat) (hq : q < 64) (hv : v < 13) : Met l yX4_put (Cond.code yX4_put cX4_put 3 none :: wsL_law) (rK 3) (va_Pc [.ref h0, .int (nI q), .int (nI v)] (IW D cI cJ A (cW cI cJ h0 h1 h2 a0 a1 a2 a3 h3 a4 h4 a5 kn op ow tr fu kg co pn si ri pa ma pcs sqa mvs los lsz lfs asz afs))) (va_Qv (fun u => CP u.1 u.2 (upN bd q v)) (fun (u : (Nat → Int32) × (Nat → Int64)) t9 => IW D cI cJ A (cW cI cJ h0 h1 h2 a0 a1 a2 a3 h3 a4 h4 a5 (bI false) op ow tr fu kg co pn si ri pa (nI 0) u.1 u.2 mvs los lsz lfs asz afs) t9) A) 0 0 A := by
  refine entM (by decide) (Nat.le_of_ble_eq_true rfl) ?_
  intro p e s m below meth c ls S0 hr hlocks hG hnm hB hl
  have hx := S0.1
  have hb := S0.2.1
  have hown := S0.2.2.2.1
  have hl : lv_has ls 3 [(0, .ref h0), (1, .int (nI q)), (2, .int (nI v))] := hl
  obtain ⟨hP, hD, hK, hA, hE⟩ := hB
  have hS : va_S A s.heap s.heap [] := va_S.rf
  refine lv_iload_n hx hb dX4_put_0 rfl (lv_at hl 1 rfl) ?_
  refine roI (rnS (As := [.int (nI q)]) (rest := []) S0 (c_X4_isSquare l (nI q)) wm_X4_49 wt_X4_isSquare wn_X4 wc_X4_isSquare hd_X4_isSquare ⟨rfl, rfl, by decide, by decide⟩ True.blind (fun _ _ _ => trivial) hl.1 (Nat.le_of_ble_eq_true rfl) dX4_put_1 rfl ⟨by decide, by decide⟩) (fun r_1 hr_1 => ?_)
  subst hr_1
  refine lb_if_ne (tgt := 17) hx hb dX4_put_4 (by decide) (fun c4 => ?_) (fun c4 => ?_)
  · skip
    refine lv_iload_n hx hb dX4_put_17 rfl (lv_at hl 2 rfl) ?_
    refine roI (rnS (As := [.int (nI v)]) (rest := []) S0 (c_X4_isPiece l (nI v)) wm_X4_60 wt_X4_isPiece wn_X4 wc_X4_isPiece hd_X4_isPiece ⟨rfl, rfl, by decide, by decide⟩ True.blind (fun _ _ _ => trivial) hl.1 (Nat.le_of_ble_eq_true rfl) dX4_put_18 rfl ⟨by decide, by decide⟩) (fun r_2 hr_2 => ?_)
    subst hr_2
    refine lb_if_ne (tgt := 34) hx hb dX4_put_21 (by decide) (fun c21 => ?_) (fun c21 => ?_)
    · skip
      refine lv_aload_n hx hb dX4_put_34 rfl (lv_at hl 0 rfl) ?_
      refine va_get (D := D) (ci := 3) (v := .ref h2) (C := RX4) (T := TX4) (N := 6) hx hb hG wu_X4 hown hK hP 0 rfl rfl 1 (by decide) (hG _ wf_X4_20) (fun _ h9 => h9) rfl dX4_put_35 ?_
      refine lv_iload_n hx hb dX4_put_38 rfl (lv_at hl 1 rfl) ?_
      refine lv_iload_n hx hb dX4_put_39 rfl (lv_at hl 2 rfl) ?_
      refine chV (rnV (As := [.int (nI q), .int (nI v)]) (rest := []) S0 (c_X2_set l bd hCP q v (by omega) (by omega)) wm_X4_68 wi_X2_set ws_X2_set wn_X2 wc_X2_set hd_X2_set ⟨rfl, rfl, by decide, by decide⟩ IW.blind (va_recv hK hP (ci := 1) (q0 := 2) rfl rfl) (IW.at hP hD hK hA hE hS) hl.1 (Nat.le_of_ble_eq_true rfl) dX4_put_40 rfl ⟨by decide, by decide⟩) hS (fun u1 H locs hu hP hD hS => ?_)
      have hC1 := hu
      have hP : va_P D classes (cW cI cJ h0 h1 h2 a0 a1 a2 a3 h3 a4 h4 a5 kn op ow tr fu kg co pn si ri pa ma u1.1 u1.2 mvs los lsz lfs asz afs) H := hP
      have hD : va_D A (cW cI cJ h0 h1 h2 a0 a1 a2 a3 h3 a4 h4 a5 kn op ow tr fu kg co pn si ri pa ma u1.1 u1.2 mvs los lsz lfs asz afs) := hD
      refine lv_aload_n hx hb dX4_put_43 rfl (lv_at hl 0 rfl) ?_
      refine chV (rnV (As := []) (rest := []) S0 (c_X4_setUpAnew l ) wm_X4_43 wi_X4_setUpAnew ws_X4_setUpAnew wn_X4 wc_X4_setUpAnew hd_X4_setUpAnew ⟨rfl, rfl, by decide, by decide⟩ IW.blind (va_recv hK hP (ci := 3) (q0 := 0) rfl rfl) (IW.at hP hD hK hA hE hS) hl.1 (Nat.le_of_ble_eq_true rfl) dX4_put_44 rfl ⟨by decide, by decide⟩) hS (fun u_5 H locs hu hP hD hS => ?_)
      have hP : va_P D classes (cW cI cJ h0 h1 h2 a0 a1 a2 a3 h3 a4 h4 a5 (bI false) op ow tr fu kg co pn si ri pa (nI 0) u1.1 u1.2 mvs los lsz lfs asz afs) H := hP
      have hD : va_D A (cW cI cJ h0 h1 h2 a0 a1 a2 a3 h3 a4 h4 a5 (bI false) op ow tr fu kg co pn si ri pa (nI 0) u1.1 u1.2 mvs los lsz lfs asz afs) := hD
      exact weV ((u1.1, u1.2)) hx hb hr hlocks dX4_put_47 hC1 hP hD hK hA hE hS
    · skip
      exact absurd ((isp_n hv).symm.trans c21) (by decide)
  · skip
    exact absurd ((isq_t9 hq).symm.trans c4) (by decide)
theorem dX4_state_0 : decode cX4_state 0 = .ok (.iload_n 1, 1) := by decide +kernel
theorem dX4_state_1 : decode cX4_state 1 = .ok (.ifCond .eq 18, 3) := by decide +kernel
theorem dX4_state_4 : decode cX4_state 4 = .ok (.iload_n 1, 1) := by decide +kernel
theorem dX4_state_5 : decode cX4_state 5 = .ok (.iconst 1, 1) := by decide +kernel
theorem dX4_state_6 : decode cX4_state 6 = .ok (.if_icmp .eq 13, 3) := by decide +kernel
theorem dX4_state_9 : decode cX4_state 9 = .ok (.new 63, 3) := by decide +kernel
theorem dX4_state_12 : decode cX4_state 12 = .ok (.dup, 1) := by decide +kernel
theorem dX4_state_13 : decode cX4_state 13 = .ok (.ldc 72, 2) := by decide +kernel
theorem dX4_state_15 : decode cX4_state 15 = .ok (.invokespecial 67, 3) := by decide +kernel
theorem dX4_state_18 : decode cX4_state 18 = .ok (.athrow, 1) := by decide +kernel
theorem dX4_state_19 : decode cX4_state 19 = .ok (.iload_n 2, 1) := by decide +kernel
theorem dX4_state_20 : decode cX4_state 20 = .ok (.ifCond .lt 9, 3) := by decide +kernel
theorem dX4_state_23 : decode cX4_state 23 = .ok (.iload_n 2, 1) := by decide +kernel
theorem dX4_state_24 : decode cX4_state 24 = .ok (.bipush 15, 2) := by decide +kernel
theorem dX4_state_26 : decode cX4_state 26 = .ok (.if_icmp .le 13, 3) := by decide +kernel
theorem dX4_state_29 : decode cX4_state 29 = .ok (.new 63, 3) := by decide +kernel
theorem dX4_state_32 : decode cX4_state 32 = .ok (.dup, 1) := by decide +kernel
theorem dX4_state_33 : decode cX4_state 33 = .ok (.ldc 74, 2) := by decide +kernel
theorem dX4_state_35 : decode cX4_state 35 = .ok (.invokespecial 67, 3) := by decide +kernel
theorem dX4_state_38 : decode cX4_state 38 = .ok (.athrow, 1) := by decide +kernel
theorem dX4_state_39 : decode cX4_state 39 = .ok (.iload_n 3, 1) := by decide +kernel
theorem dX4_state_40 : decode cX4_state 40 = .ok (.iconst (-1), 1) := by decide +kernel
theorem dX4_state_41 : decode cX4_state 41 = .ok (.if_icmp .eq 20, 3) := by decide +kernel
theorem dX4_state_44 : decode cX4_state 44 = .ok (.iload_n 3, 1) := by decide +kernel
theorem dX4_state_45 : decode cX4_state 45 = .ok (.invokestatic 49, 3) := by decide +kernel
theorem dX4_state_48 : decode cX4_state 48 = .ok (.ifCond .ne 13, 3) := by decide +kernel
theorem dX4_state_51 : decode cX4_state 51 = .ok (.new 63, 3) := by decide +kernel
theorem dX4_state_54 : decode cX4_state 54 = .ok (.dup, 1) := by decide +kernel
theorem dX4_state_55 : decode cX4_state 55 = .ok (.ldc 76, 2) := by decide +kernel
theorem dX4_state_57 : decode cX4_state 57 = .ok (.invokespecial 67, 3) := by decide +kernel
theorem dX4_state_60 : decode cX4_state 60 = .ok (.athrow, 1) := by decide +kernel
theorem dX4_state_61 : decode cX4_state 61 = .ok (.aload_n 0, 1) := by decide +kernel
theorem dX4_state_62 : decode cX4_state 62 = .ok (.getfield 20, 3) := by decide +kernel
theorem dX4_state_65 : decode cX4_state 65 = .ok (.iload_n 1, 1) := by decide +kernel
theorem dX4_state_66 : decode cX4_state 66 = .ok (.putfield 78, 3) := by decide +kernel
theorem dX4_state_69 : decode cX4_state 69 = .ok (.aload_n 0, 1) := by decide +kernel
theorem dX4_state_70 : decode cX4_state 70 = .ok (.getfield 20, 3) := by decide +kernel
theorem dX4_state_73 : decode cX4_state 73 = .ok (.iload_n 2, 1) := by decide +kernel
theorem dX4_state_74 : decode cX4_state 74 = .ok (.putfield 82, 3) := by decide +kernel
theorem dX4_state_77 : decode cX4_state 77 = .ok (.aload_n 0, 1) := by decide +kernel
theorem dX4_state_78 : decode cX4_state 78 = .ok (.getfield 20, 3) := by decide +kernel
theorem dX4_state_81 : decode cX4_state 81 = .ok (.iload_n 3, 1) := by decide +kernel
theorem dX4_state_82 : decode cX4_state 82 = .ok (.putfield 85, 3) := by decide +kernel
theorem dX4_state_85 : decode cX4_state 85 = .ok (.aload_n 0, 1) := by decide +kernel
theorem dX4_state_86 : decode cX4_state 86 = .ok (.invokevirtual 43, 3) := by decide +kernel
theorem dX4_state_89 : decode cX4_state 89 = .ok (.return_, 1) := by decide +kernel
theorem hd_X4_state : yX4_state.cls ≠ "java/lang/invoke/MethodHandle" ∧ yX4_state.cls ≠ "java/lang/invoke/VarHandle" ∧ (parseMethodDescriptor yX4_state.desc).map (fun d => d.parameters.length) = some 3 := by decide +kernel
set_option maxHeartbeats 4000000 in
set_option maxRecDepth 100000 in
/-- state -/
theorem c_X4_state (l : Launch) {D : va_G} {cI cJ : ClassId} {A : Nat → Prop} {h0 h1 h2 a0 a1 a2 a3 h3 a4 h4 a5 : Nat} {kn op : Int32} {ow tr fu kg co pn : Int64} {si ri pa ma : Int32} {pcs : Nat → Int32} {sqa : Nat → Int64} {mvs los : Nat → Int32} {lsz : Int32} {lfs : Nat → Int32} {asz : Int32} {afs : Nat → Int32} (a b n : Nat) (ha : a < 2) (hb9 : b < 16) (hn : n < 65) : Met l yX4_state (Cond.code yX4_state cX4_state 4 none :: wsL_law) (rK 1) (va_Pc [.ref h0, .int (nI a), .int (nI b), .int (pI n)] (IW D cI cJ A (cW cI cJ h0 h1 h2 a0 a1 a2 a3 h3 a4 h4 a5 kn op ow tr fu kg co pn si ri pa ma pcs sqa mvs los lsz lfs asz afs))) (va_Qv (fun _ => True) (fun (u : Unit) t9 => IW D cI cJ A (cW cI cJ h0 h1 h2 a0 a1 a2 a3 h3 a4 h4 a5 (bI false) op ow tr fu kg co pn (nI a) (nI b) (pI n) (nI 0) pcs sqa mvs los lsz lfs asz afs) t9) A) 0 0 A := by
  refine entM (by decide) (Nat.le_of_ble_eq_true rfl) ?_
  intro p e s m below meth c ls S0 hr hlocks hG hnm hB hl
  have hx := S0.1
  have hb := S0.2.1
  have hown := S0.2.2.2.1
  have hl : lv_has ls 4 [(0, .ref h0), (1, .int (nI a)), (2, .int (nI b)), (3, .int (pI n))] := hl
  obtain ⟨hP, hD, hK, hA, hE⟩ := hB
  have hS : va_S A s.heap s.heap [] := va_S.rf
  refine lv_iload_n hx hb dX4_state_0 rfl (lv_at hl 1 rfl) ?_
  refine jnG 19 4 [(0, .ref h0), (1, .int (nI a)), (2, .int (nI b)), (3, .int (pI n))] [] ?_ (fun hj_19 => ?_)
  · intro ls hl
    refine lv_iload_n hx hb dX4_state_19 rfl (lv_at hl 2 rfl) ?_
    refine ln_if_lt (tgt := 29) hx hb dX4_state_20 (by decide) (by omega) ?_
    refine lv_iload_n hx hb dX4_state_23 rfl (lv_at hl 2 rfl) ?_
    refine lv_bipush (v := (nI 15)) hx hb dX4_state_24 (by decide) ?_
    refine ln_icmp_le (tgt := 39) hx hb dX4_state_26 (by decide) (by omega) (by decide) (fun c26 => ?_) (fun c26 => ?_)
    · skip
      refine lv_iload_n hx hb dX4_state_39 rfl (lv_at hl 3 rfl) ?_
      refine lv_iconst (v := (-1)) hx hb dX4_state_40 (by decide) ?_
      refine jnG 61 4 [(0, .ref h0), (1, .int (nI a)), (2, .int (nI b)), (3, .int (pI n))] [] ?_ (fun hj_61 => ?_)
      · intro ls hl
        refine lv_aload_n hx hb dX4_state_61 rfl (lv_at hl 0 rfl) ?_
        refine va_get (D := D) (ci := 3) (v := .ref h2) (C := RX4) (T := TX4) (N := 6) hx hb hG wu_X4 hown hK hP 0 rfl rfl 1 (by decide) (hG _ wf_X4_20) (fun _ h9 => h9) rfl dX4_state_62 ?_
        refine lv_iload_n hx hb dX4_state_65 rfl (lv_at hl 1 rfl) ?_
        refine va_put (D := D) (ci := 1) (v := .int (nI a)) (ty := .int) (C := RX2) (T := TX2) (N := 8) hx hb hG wu_X2 tyX2 tyX2_ok nmX2 hown hK hP hD hS 2 rfl rfl 2 (by decide) (hG _ wf_X4_78) (fun _ h9 => h9) rfl (by decide +kernel) rfl rfl (Nat.le_of_ble_eq_true rfl) dX4_state_66 (fun H locs hP hD hS => ?_)
        have hP : va_P D classes (cW cI cJ h0 h1 h2 a0 a1 a2 a3 h3 a4 h4 a5 kn op ow tr fu kg co pn (nI a) ri pa ma pcs sqa mvs los lsz lfs asz afs) H := hP
        have hD : va_D A (cW cI cJ h0 h1 h2 a0 a1 a2 a3 h3 a4 h4 a5 kn op ow tr fu kg co pn (nI a) ri pa ma pcs sqa mvs los lsz lfs asz afs) := hD
        refine lv_aload_n hx hb dX4_state_69 rfl (lv_at hl 0 rfl) ?_
        refine va_get (D := D) (ci := 3) (v := .ref h2) (C := RX4) (T := TX4) (N := 6) hx hb hG wu_X4 hown hK hP 0 rfl rfl 1 (by decide) (hG _ wf_X4_20) (fun _ h9 => h9) rfl dX4_state_70 ?_
        refine lv_iload_n hx hb dX4_state_73 rfl (lv_at hl 2 rfl) ?_
        refine va_put (D := D) (ci := 1) (v := .int (nI b)) (ty := .int) (C := RX2) (T := TX2) (N := 8) hx hb hG wu_X2 tyX2 tyX2_ok nmX2 hown hK hP hD hS 2 rfl rfl 3 (by decide) (hG _ wf_X4_82) (fun _ h9 => h9) rfl (by decide +kernel) rfl rfl (Nat.le_of_ble_eq_true rfl) dX4_state_74 (fun H locs hP hD hS => ?_)
        have hP : va_P D classes (cW cI cJ h0 h1 h2 a0 a1 a2 a3 h3 a4 h4 a5 kn op ow tr fu kg co pn (nI a) (nI b) pa ma pcs sqa mvs los lsz lfs asz afs) H := hP
        have hD : va_D A (cW cI cJ h0 h1 h2 a0 a1 a2 a3 h3 a4 h4 a5 kn op ow tr fu kg co pn (nI a) (nI b) pa ma pcs sqa mvs los lsz lfs asz afs) := hD
        refine lv_aload_n hx hb dX4_state_77 rfl (lv_at hl 0 rfl) ?_
        refine va_get (D := D) (ci := 3) (v := .ref h2) (C := RX4) (T := TX4) (N := 6) hx hb hG wu_X4 hown hK hP 0 rfl rfl 1 (by decide) (hG _ wf_X4_20) (fun _ h9 => h9) rfl dX4_state_78 ?_
        refine lv_iload_n hx hb dX4_state_81 rfl (lv_at hl 3 rfl) ?_
        refine va_put (D := D) (ci := 1) (v := .int (pI n)) (ty := .int) (C := RX2) (T := TX2) (N := 8) hx hb hG wu_X2 tyX2 tyX2_ok nmX2 hown hK hP hD hS 2 rfl rfl 4 (by decide) (hG _ wf_X4_85) (fun _ h9 => h9) rfl (by decide +kernel) rfl rfl (Nat.le_of_ble_eq_true rfl) dX4_state_82 (fun H locs hP hD hS => ?_)
        have hP : va_P D classes (cW cI cJ h0 h1 h2 a0 a1 a2 a3 h3 a4 h4 a5 kn op ow tr fu kg co pn (nI a) (nI b) (pI n) ma pcs sqa mvs los lsz lfs asz afs) H := hP
        have hD : va_D A (cW cI cJ h0 h1 h2 a0 a1 a2 a3 h3 a4 h4 a5 kn op ow tr fu kg co pn (nI a) (nI b) (pI n) ma pcs sqa mvs los lsz lfs asz afs) := hD
        refine lv_aload_n hx hb dX4_state_85 rfl (lv_at hl 0 rfl) ?_
        refine chV (rnV (As := []) (rest := []) S0 (c_X4_setUpAnew l ) wm_X4_43 wi_X4_setUpAnew ws_X4_setUpAnew wn_X4 wc_X4_setUpAnew hd_X4_setUpAnew ⟨rfl, rfl, by decide, by decide⟩ IW.blind (va_recv hK hP (ci := 3) (q0 := 0) rfl rfl) (IW.at hP hD hK hA hE hS) hl.1 (Nat.le_of_ble_eq_true rfl) dX4_state_86 rfl ⟨by decide, by decide⟩) hS (fun u_3 H locs hu hP hD hS => ?_)
        have hP : va_P D classes (cW cI cJ h0 h1 h2 a0 a1 a2 a3 h3 a4 h4 a5 (bI false) op ow tr fu kg co pn (nI a) (nI b) (pI n) (nI 0) pcs sqa mvs los lsz lfs asz afs) H := hP
        have hD : va_D A (cW cI cJ h0 h1 h2 a0 a1 a2 a3 h3 a4 h4 a5 (bI false) op ow tr fu kg co pn (nI a) (nI b) (pI n) (nI 0) pcs sqa mvs los lsz lfs asz afs) := hD
        exact weV (()) hx hb hr hlocks dX4_state_89 trivial hP hD hK hA hE hS
      · skip
        refine lv_icmp_eq (tgt := 61) hx hb dX4_state_41 (by decide) (fun c41 => ?_) (fun c41 => ?_)
        · skip
          rw [pI_m1 hn] at c41
          exact hj_61 ls (lv_sub hl [0, 1, 2, 3] rfl)
        · skip
          rw [pI_m1 hn] at c41
          refine lv_iload_n hx hb dX4_state_44 rfl (lv_at hl 3 rfl) ?_
          refine roI (rnS (As := [.int (pI n)]) (rest := []) S0 (c_X4_isSquare l (pI n)) wm_X4_49 wt_X4_isSquare wn_X4 wc_X4_isSquare hd_X4_isSquare ⟨rfl, rfl, by decide, by decide⟩ True.blind (fun _ _ _ => trivial) hl.1 (Nat.le_of_ble_eq_true rfl) dX4_state_45 rfl ⟨by decide, by decide⟩) (fun r_4 hr_4 => ?_)
          subst hr_4
          refine lb_if_ne (tgt := 61) hx hb dX4_state_48 (by decide) (fun c48 => ?_) (fun c48 => ?_)
          · skip
            exact hj_61 ls (lv_sub hl [0, 1, 2, 3] rfl)
          · skip
            exact absurd ((isq_pI (show n < 64 by omega)).symm.trans c48) (by decide)
    · skip
      exact absurd c26 (by omega)
  · skip
    refine ln_if_eq (tgt := 19) hx hb dX4_state_1 (by decide) (by omega) (fun c1 => ?_) (fun c1 => ?_)
    · skip
      exact hj_19 ls (lv_sub hl [0, 1, 2, 3] rfl)
    · skip
      refine lv_iload_n hx hb dX4_state_4 rfl (lv_at hl 1 rfl) ?_
      refine lv_iconst (v := (nI 1)) hx hb dX4_state_5 (by decide) ?_
      refine ln_icmp_eq (tgt := 19) hx hb dX4_state_6 (by decide) (by omega) (by decide) (fun c6 => ?_) (fun c6 => ?_)
      · skip
        exact hj_19 ls (lv_sub hl [0, 1, 2, 3] rfl)
      · skip
        exact absurd (show a = 1 by omega) c6

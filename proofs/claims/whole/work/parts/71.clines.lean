theorem dX4_lines_0 : decode cX4_lines 0 = .ok (.aload_n 0, 1) := by decide +kernel
theorem dX4_lines_1 : decode cX4_lines 1 = .ok (.invokevirtual 92, 3) := by decide +kernel
theorem dX4_lines_4 : decode cX4_lines 4 = .ok (.iload_n 1, 1) := by decide +kernel
theorem dX4_lines_5 : decode cX4_lines 5 = .ok (.ifCond .lt 8, 3) := by decide +kernel
theorem dX4_lines_8 : decode cX4_lines 8 = .ok (.iload_n 1, 1) := by decide +kernel
theorem dX4_lines_9 : decode cX4_lines 9 = .ok (.iconst 3, 1) := by decide +kernel
theorem dX4_lines_10 : decode cX4_lines 10 = .ok (.if_icmp .le 13, 3) := by decide +kernel
theorem dX4_lines_13 : decode cX4_lines 13 = .ok (.new 63, 3) := by decide +kernel
theorem dX4_lines_16 : decode cX4_lines 16 = .ok (.dup, 1) := by decide +kernel
theorem dX4_lines_17 : decode cX4_lines 17 = .ok (.ldc 132, 2) := by decide +kernel
theorem dX4_lines_19 : decode cX4_lines 19 = .ok (.invokespecial 67, 3) := by decide +kernel
theorem dX4_lines_22 : decode cX4_lines 22 = .ok (.athrow, 1) := by decide +kernel
theorem dX4_lines_23 : decode cX4_lines 23 = .ok (.iload_n 1, 1) := by decide +kernel
theorem dX4_lines_24 : decode cX4_lines 24 = .ok (.ifCond .ne 5, 3) := by decide +kernel
theorem dX4_lines_27 : decode cX4_lines 27 = .ok (.lconst 1, 1) := by decide +kernel
theorem dX4_lines_28 : decode cX4_lines 28 = .ok (.lreturn, 1) := by decide +kernel
theorem dX4_lines_29 : decode cX4_lines 29 = .ok (.iload_n 1, 1) := by decide +kernel
theorem dX4_lines_30 : decode cX4_lines 30 = .ok (.iconst 1, 1) := by decide +kernel
theorem dX4_lines_31 : decode cX4_lines 31 = .ok (.if_icmp .ne 14, 3) := by decide +kernel
theorem dX4_lines_34 : decode cX4_lines 34 = .ok (.aload_n 0, 1) := by decide +kernel
theorem dX4_lines_35 : decode cX4_lines 35 = .ok (.getfield 24, 3) := by decide +kernel
theorem dX4_lines_38 : decode cX4_lines 38 = .ok (.getfield 95, 3) := by decide +kernel
theorem dX4_lines_41 : decode cX4_lines 41 = .ok (.i2l, 1) := by decide +kernel
theorem dX4_lines_42 : decode cX4_lines 42 = .ok (.goto 14, 3) := by decide +kernel
theorem dX4_lines_45 : decode cX4_lines 45 = .ok (.aload_n 0, 1) := by decide +kernel
theorem dX4_lines_46 : decode cX4_lines 46 = .ok (.aload_n 0, 1) := by decide +kernel
theorem dX4_lines_47 : decode cX4_lines 47 = .ok (.getfield 24, 3) := by decide +kernel
theorem dX4_lines_50 : decode cX4_lines 50 = .ok (.iload_n 1, 1) := by decide +kernel
theorem dX4_lines_51 : decode cX4_lines 51 = .ok (.iconst 1, 1) := by decide +kernel
theorem dX4_lines_52 : decode cX4_lines 52 = .ok (.isub, 1) := by decide +kernel
theorem dX4_lines_53 : decode cX4_lines 53 = .ok (.invokevirtual 134, 3) := by decide +kernel
theorem dX4_lines_56 : decode cX4_lines 56 = .ok (.lreturn, 1) := by decide +kernel
theorem hd_X4_lines : yX4_lines.cls ≠ "java/lang/invoke/MethodHandle" ∧ yX4_lines.cls ≠ "java/lang/invoke/VarHandle" ∧ (parseMethodDescriptor yX4_lines.desc).map (fun d => d.parameters.length) = some 1 := by decide +kernel
set_option maxHeartbeats 4000000 in
set_option maxRecDepth 100000 in
/-- lines 0 -/
theorem c_X4_lines_0 (l : Launch) {D : va_G} {cI cJ : ClassId} {A : Nat → Prop} {h0 h1 h2 a0 a1 a2 a3 h3 a4 h4 a5 : Nat} {ow tr fu kg co pn : Int64} {pcs : Nat → Int32} {sqa : Nat → Int64} {mvs los : Nat → Int32} {lsz : Int32} {lfs : Nat → Int32} {asz : Int32} {afs : Nat → Int32} (bd : Nat → Nat) (hCP : CP pcs sqa bd) (sd rt ps : Nat) (hs2 : sd < 2) (hr16 : rt < 16) (hp65 : ps < 65) (kb ob : Bool) (hKL : KLp kb ob lsz lfs bd sd rt ps) (hpl : cbp bd sd = true) (hlen : (fil bd sd rt ps).length ≤ 700) (n : Nat) (hn : n ≤ 200) : Met l yX4_lines (Cond.code yX4_lines cX4_lines 2 (some .long) :: wsL_law) (rK 7) (va_Pc [.ref h0, .int (nI 0)] (IW D cI cJ A (cW cI cJ h0 h1 h2 a0 a1 a2 a3 h3 a4 h4 a5 (bI kb) (bI ob) ow tr fu kg co pn (nI sd) (nI rt) (pI ps) (nI n) pcs sqa mvs los lsz lfs asz afs))) (va_Ql (fun r u => r = lN (1) ∧ CP u.1 u.2.1 bd ∧ (∀ j, j < n → u.2.2.1 j = mvs j ∧ u.2.2.2.1 j = los j) ∧ LI u.2.2.2.2.2.2.1 (fil bd sd rt ps)) (fun (u : (Nat → Int32) × (Nat → Int64) × (Nat → Int32) × (Nat → Int32) × Int32 × (Nat → Int32) × (Nat → Int32) × Int64 × Int64 × Int64 × Int64 × Int64 × Int64) t9 => IW D cI cJ A (cW cI cJ h0 h1 h2 a0 a1 a2 a3 h3 a4 h4 a5 (bI true) (bI true) u.2.2.2.2.2.2.2.1 u.2.2.2.2.2.2.2.2.1 u.2.2.2.2.2.2.2.2.2.1 u.2.2.2.2.2.2.2.2.2.2.1 u.2.2.2.2.2.2.2.2.2.2.2.1 u.2.2.2.2.2.2.2.2.2.2.2.2 (nI sd) (nI rt) (pI ps) (nI n) u.1 u.2.1 u.2.2.1 u.2.2.2.1 (nI (fil bd sd rt ps).length) u.2.2.2.2.2.2.1 u.2.2.2.2.1 u.2.2.2.2.2.1) t9) A) 0 0 A := by
  refine entM (by decide) (Nat.le_of_ble_eq_true rfl) ?_
  intro p e s m below meth c ls S0 hr hlocks hG hnm hB hl
  have hx := S0.1
  have hb := S0.2.1
  have hown := S0.2.2.2.1
  have hl : lv_has ls 2 [(0, .ref h0), (1, .int (nI 0))] := hl
  obtain ⟨hP, hD, hK, hA, hE⟩ := hB
  have hS : va_S A s.heap s.heap [] := va_S.rf
  refine lv_aload_n hx hb dX4_lines_0 rfl (lv_at hl 0 rfl) ?_
  refine chV (rnV (As := []) (rest := []) S0 (c_X4_needList l bd hCP sd rt ps hs2 hr16 hp65 kb ob hKL hpl hlen) wm_X4_92 wi_X4_needList ws_X4_needList wn_X4 wc_X4_needList hd_X4_needList ⟨rfl, rfl, by decide, by decide⟩ IW.blind (va_recv hK hP (ci := 3) (q0 := 0) rfl rfl) (IW.at hP hD hK hA hE hS) hl.1 (Nat.le_of_ble_eq_true rfl) dX4_lines_1 rfl ⟨by decide, by decide⟩) hS (fun u1 H locs hu hP hD hS => ?_)
  have hLI := hu
  have hP : va_P D classes (cW cI cJ h0 h1 h2 a0 a1 a2 a3 h3 a4 h4 a5 (bI true) (bI true) u1.2.1 u1.2.2.1 u1.2.2.2.1 u1.2.2.2.2.1 u1.2.2.2.2.2.1 u1.2.2.2.2.2.2 (nI sd) (nI rt) (pI ps) (nI n) pcs sqa mvs los (nI (fil bd sd rt ps).length) u1.1 asz afs) H := hP
  have hD : va_D A (cW cI cJ h0 h1 h2 a0 a1 a2 a3 h3 a4 h4 a5 (bI true) (bI true) u1.2.1 u1.2.2.1 u1.2.2.2.1 u1.2.2.2.2.1 u1.2.2.2.2.2.1 u1.2.2.2.2.2.2 (nI sd) (nI rt) (pI ps) (nI n) pcs sqa mvs los (nI (fil bd sd rt ps).length) u1.1 asz afs) := hD
  refine lv_iload_n hx hb dX4_lines_4 rfl (lv_at hl 1 rfl) ?_
  refine ln_if_lt (tgt := 13) hx hb dX4_lines_5 (by decide) (by decide) ?_
  refine lv_iload_n hx hb dX4_lines_8 rfl (lv_at hl 1 rfl) ?_
  refine lv_iconst (v := (nI 3)) hx hb dX4_lines_9 (by decide) ?_
  refine ln_icmp_le (tgt := 23) hx hb dX4_lines_10 (by decide) (by decide) (by decide) (fun c10 => ?_) (fun c10 => ?_)
  · skip
    refine lv_iload_n hx hb dX4_lines_23 rfl (lv_at hl 1 rfl) ?_
    refine ln_if_ne (tgt := 29) hx hb dX4_lines_24 (by decide) (by decide) (fun c24 => ?_) (fun c24 => ?_)
    · skip
      exact absurd c24 (by omega)
    · skip
      refine lv_lconst (v := 1) hx hb dX4_lines_27 (by decide) ?_
      exact weL ((pcs, sqa, mvs, los, asz, afs, u1.1, u1.2.1, u1.2.2.1, u1.2.2.2.1, u1.2.2.2.2.1, u1.2.2.2.2.2.1, u1.2.2.2.2.2.2)) hx hb hr hlocks dX4_lines_28 ⟨rfl, hCP, fun _ _ => ⟨rfl, rfl⟩, hLI⟩ hP hD hK hA hE hS
  · skip
    exact absurd c10 (by omega)
set_option maxHeartbeats 4000000 in
set_option maxRecDepth 100000 in
/-- lines 1 -/
theorem c_X4_lines_1 (l : Launch) {D : va_G} {cI cJ : ClassId} {A : Nat → Prop} {h0 h1 h2 a0 a1 a2 a3 h3 a4 h4 a5 : Nat} {ow tr fu kg co pn : Int64} {pcs : Nat → Int32} {sqa : Nat → Int64} {mvs los : Nat → Int32} {lsz : Int32} {lfs : Nat → Int32} {asz : Int32} {afs : Nat → Int32} (bd : Nat → Nat) (hCP : CP pcs sqa bd) (sd rt ps : Nat) (hs2 : sd < 2) (hr16 : rt < 16) (hp65 : ps < 65) (kb ob : Bool) (hKL : KLp kb ob lsz lfs bd sd rt ps) (hpl : cbp bd sd = true) (hlen : (fil bd sd rt ps).length ≤ 700) (n : Nat) (hn : n ≤ 200) : Met l yX4_lines (Cond.code yX4_lines cX4_lines 2 (some .long) :: wsL_law) (rK 7) (va_Pc [.ref h0, .int (nI 1)] (IW D cI cJ A (cW cI cJ h0 h1 h2 a0 a1 a2 a3 h3 a4 h4 a5 (bI kb) (bI ob) ow tr fu kg co pn (nI sd) (nI rt) (pI ps) (nI n) pcs sqa mvs los lsz lfs asz afs))) (va_Ql (fun r u => r = lN ((fil bd sd rt ps).length) ∧ CP u.1 u.2.1 bd ∧ (∀ j, j < n → u.2.2.1 j = mvs j ∧ u.2.2.2.1 j = los j) ∧ LI u.2.2.2.2.2.2.1 (fil bd sd rt ps)) (fun (u : (Nat → Int32) × (Nat → Int64) × (Nat → Int32) × (Nat → Int32) × Int32 × (Nat → Int32) × (Nat → Int32) × Int64 × Int64 × Int64 × Int64 × Int64 × Int64) t9 => IW D cI cJ A (cW cI cJ h0 h1 h2 a0 a1 a2 a3 h3 a4 h4 a5 (bI true) (bI true) u.2.2.2.2.2.2.2.1 u.2.2.2.2.2.2.2.2.1 u.2.2.2.2.2.2.2.2.2.1 u.2.2.2.2.2.2.2.2.2.2.1 u.2.2.2.2.2.2.2.2.2.2.2.1 u.2.2.2.2.2.2.2.2.2.2.2.2 (nI sd) (nI rt) (pI ps) (nI n) u.1 u.2.1 u.2.2.1 u.2.2.2.1 (nI (fil bd sd rt ps).length) u.2.2.2.2.2.2.1 u.2.2.2.2.1 u.2.2.2.2.2.1) t9) A) 0 0 A := by
  refine entM (by decide) (Nat.le_of_ble_eq_true rfl) ?_
  intro p e s m below meth c ls S0 hr hlocks hG hnm hB hl
  have hx := S0.1
  have hb := S0.2.1
  have hown := S0.2.2.2.1
  have hl : lv_has ls 2 [(0, .ref h0), (1, .int (nI 1))] := hl
  obtain ⟨hP, hD, hK, hA, hE⟩ := hB
  have hS : va_S A s.heap s.heap [] := va_S.rf
  refine lv_aload_n hx hb dX4_lines_0 rfl (lv_at hl 0 rfl) ?_
  refine chV (rnV (As := []) (rest := []) S0 (c_X4_needList l bd hCP sd rt ps hs2 hr16 hp65 kb ob hKL hpl hlen) wm_X4_92 wi_X4_needList ws_X4_needList wn_X4 wc_X4_needList hd_X4_needList ⟨rfl, rfl, by decide, by decide⟩ IW.blind (va_recv hK hP (ci := 3) (q0 := 0) rfl rfl) (IW.at hP hD hK hA hE hS) hl.1 (Nat.le_of_ble_eq_true rfl) dX4_lines_1 rfl ⟨by decide, by decide⟩) hS (fun u1 H locs hu hP hD hS => ?_)
  have hLI := hu
  have hP : va_P D classes (cW cI cJ h0 h1 h2 a0 a1 a2 a3 h3 a4 h4 a5 (bI true) (bI true) u1.2.1 u1.2.2.1 u1.2.2.2.1 u1.2.2.2.2.1 u1.2.2.2.2.2.1 u1.2.2.2.2.2.2 (nI sd) (nI rt) (pI ps) (nI n) pcs sqa mvs los (nI (fil bd sd rt ps).length) u1.1 asz afs) H := hP
  have hD : va_D A (cW cI cJ h0 h1 h2 a0 a1 a2 a3 h3 a4 h4 a5 (bI true) (bI true) u1.2.1 u1.2.2.1 u1.2.2.2.1 u1.2.2.2.2.1 u1.2.2.2.2.2.1 u1.2.2.2.2.2.2 (nI sd) (nI rt) (pI ps) (nI n) pcs sqa mvs los (nI (fil bd sd rt ps).length) u1.1 asz afs) := hD
  refine lv_iload_n hx hb dX4_lines_4 rfl (lv_at hl 1 rfl) ?_
  refine ln_if_lt (tgt := 13) hx hb dX4_lines_5 (by decide) (by decide) ?_
  refine lv_iload_n hx hb dX4_lines_8 rfl (lv_at hl 1 rfl) ?_
  refine lv_iconst (v := (nI 3)) hx hb dX4_lines_9 (by decide) ?_
  refine ln_icmp_le (tgt := 23) hx hb dX4_lines_10 (by decide) (by decide) (by decide) (fun c10 => ?_) (fun c10 => ?_)
  · skip
    refine lv_iload_n hx hb dX4_lines_23 rfl (lv_at hl 1 rfl) ?_
    refine ln_if_ne (tgt := 29) hx hb dX4_lines_24 (by decide) (by decide) (fun c24 => ?_) (fun c24 => ?_)
    · skip
      refine lv_iload_n hx hb dX4_lines_29 rfl (lv_at hl 1 rfl) ?_
      refine lv_iconst (v := (nI 1)) hx hb dX4_lines_30 (by decide) ?_
      refine ln_icmp_ne (tgt := 45) hx hb dX4_lines_31 (by decide) (by decide) (by decide) (fun c31 => ?_) (fun c31 => ?_)
      · skip
        exact absurd c31 (by omega)
      · skip
        refine lv_aload_n hx hb dX4_lines_34 rfl (lv_at hl 0 rfl) ?_
        refine va_get (D := D) (ci := 3) (v := .ref h3) (C := RX4) (T := TX4) (N := 6) hx hb hG wu_X4 hown hK hP 0 rfl rfl 2 (by decide) (hG _ wf_X4_24) (fun _ h9 => h9) rfl dX4_lines_35 ?_
        refine va_get (D := D) (ci := 0) (v := .int (nI ((fil bd sd rt ps).length))) (C := RX1) (T := TX1) (N := 2) hx hb hG wu_X1 hown hK hP 7 rfl rfl 1 (by decide) (hG _ wf_X4_95) (fun _ h9 => h9) rfl dX4_lines_38 ?_
        refine lv_i2l hx hb dX4_lines_41 rfl ?_
        refine W.top (y := .long (lN (fil bd sd rt ps).length)) (congrArg Value.long (nI_l (by omega))) ?_
        refine lv_goto (tgt := 56) hx hb dX4_lines_42 (by decide) ?_
        exact weL ((pcs, sqa, mvs, los, asz, afs, u1.1, u1.2.1, u1.2.2.1, u1.2.2.2.1, u1.2.2.2.2.1, u1.2.2.2.2.2.1, u1.2.2.2.2.2.2)) hx hb hr hlocks dX4_lines_56 ⟨rfl, hCP, fun _ _ => ⟨rfl, rfl⟩, hLI⟩ hP hD hK hA hE hS
    · skip
      exact absurd c24 (by omega)
  · skip
    exact absurd c10 (by omega)
set_option maxHeartbeats 4000000 in
set_option maxRecDepth 100000 in
/-- lines 2 -/
theorem c_X4_lines_2 (l : Launch) {D : va_G} {cI cJ : ClassId} {A : Nat → Prop} {h0 h1 h2 a0 a1 a2 a3 h3 a4 h4 a5 : Nat} {ow tr fu kg co pn : Int64} {pcs : Nat → Int32} {sqa : Nat → Int64} {mvs los : Nat → Int32} {lsz : Int32} {lfs : Nat → Int32} {asz : Int32} {afs : Nat → Int32} (bd : Nat → Nat) (hCP : CP pcs sqa bd) (sd rt ps : Nat) (hs2 : sd < 2) (hr16 : rt < 16) (hp65 : ps < 65) (kb ob : Bool) (hKL : KLp kb ob lsz lfs bd sd rt ps) (hpl : cbp bd sd = true) (hlen : (fil bd sd rt ps).length ≤ 700) (n : Nat) (hn : n ≤ 200) (hall : ∀ y ∈ (fil bd sd rt ps), GMy bd sd y) : Met l yX4_lines (Cond.code yX4_lines cX4_lines 2 (some .long) :: wsL_law) (rK 7) (va_Pc [.ref h0, .int (nI 2)] (IW D cI cJ A (cW cI cJ h0 h1 h2 a0 a1 a2 a3 h3 a4 h4 a5 (bI kb) (bI ob) ow tr fu kg co pn (nI sd) (nI rt) (pI ps) (nI n) pcs sqa mvs los lsz lfs asz afs))) (va_Ql (fun r u => r = lN (((fil bd sd rt ps).map (cb1 bd sd rt)).sum) ∧ CP u.1 u.2.1 bd ∧ (∀ j, j < n → u.2.2.1 j = mvs j ∧ u.2.2.2.1 j = los j) ∧ LI u.2.2.2.2.2.2.1 (fil bd sd rt ps)) (fun (u : (Nat → Int32) × (Nat → Int64) × (Nat → Int32) × (Nat → Int32) × Int32 × (Nat → Int32) × (Nat → Int32) × Int64 × Int64 × Int64 × Int64 × Int64 × Int64) t9 => IW D cI cJ A (cW cI cJ h0 h1 h2 a0 a1 a2 a3 h3 a4 h4 a5 (bI true) (bI true) u.2.2.2.2.2.2.2.1 u.2.2.2.2.2.2.2.2.1 u.2.2.2.2.2.2.2.2.2.1 u.2.2.2.2.2.2.2.2.2.2.1 u.2.2.2.2.2.2.2.2.2.2.2.1 u.2.2.2.2.2.2.2.2.2.2.2.2 (nI sd) (nI rt) (pI ps) (nI n) u.1 u.2.1 u.2.2.1 u.2.2.2.1 (nI (fil bd sd rt ps).length) u.2.2.2.2.2.2.1 u.2.2.2.2.1 u.2.2.2.2.2.1) t9) A) 0 0 A := by
  refine entM (by decide) (Nat.le_of_ble_eq_true rfl) ?_
  intro p e s m below meth c ls S0 hr hlocks hG hnm hB hl
  have hx := S0.1
  have hb := S0.2.1
  have hown := S0.2.2.2.1
  have hl : lv_has ls 2 [(0, .ref h0), (1, .int (nI 2))] := hl
  obtain ⟨hP, hD, hK, hA, hE⟩ := hB
  have hS : va_S A s.heap s.heap [] := va_S.rf
  refine lv_aload_n hx hb dX4_lines_0 rfl (lv_at hl 0 rfl) ?_
  refine chV (rnV (As := []) (rest := []) S0 (c_X4_needList l bd hCP sd rt ps hs2 hr16 hp65 kb ob hKL hpl hlen) wm_X4_92 wi_X4_needList ws_X4_needList wn_X4 wc_X4_needList hd_X4_needList ⟨rfl, rfl, by decide, by decide⟩ IW.blind (va_recv hK hP (ci := 3) (q0 := 0) rfl rfl) (IW.at hP hD hK hA hE hS) hl.1 (Nat.le_of_ble_eq_true rfl) dX4_lines_1 rfl ⟨by decide, by decide⟩) hS (fun u1 H locs hu hP hD hS => ?_)
  have hLI := hu
  have hP : va_P D classes (cW cI cJ h0 h1 h2 a0 a1 a2 a3 h3 a4 h4 a5 (bI true) (bI true) u1.2.1 u1.2.2.1 u1.2.2.2.1 u1.2.2.2.2.1 u1.2.2.2.2.2.1 u1.2.2.2.2.2.2 (nI sd) (nI rt) (pI ps) (nI n) pcs sqa mvs los (nI (fil bd sd rt ps).length) u1.1 asz afs) H := hP
  have hD : va_D A (cW cI cJ h0 h1 h2 a0 a1 a2 a3 h3 a4 h4 a5 (bI true) (bI true) u1.2.1 u1.2.2.1 u1.2.2.2.1 u1.2.2.2.2.1 u1.2.2.2.2.2.1 u1.2.2.2.2.2.2 (nI sd) (nI rt) (pI ps) (nI n) pcs sqa mvs los (nI (fil bd sd rt ps).length) u1.1 asz afs) := hD
  refine lv_iload_n hx hb dX4_lines_4 rfl (lv_at hl 1 rfl) ?_
  refine ln_if_lt (tgt := 13) hx hb dX4_lines_5 (by decide) (by decide) ?_
  refine lv_iload_n hx hb dX4_lines_8 rfl (lv_at hl 1 rfl) ?_
  refine lv_iconst (v := (nI 3)) hx hb dX4_lines_9 (by decide) ?_
  refine ln_icmp_le (tgt := 23) hx hb dX4_lines_10 (by decide) (by decide) (by decide) (fun c10 => ?_) (fun c10 => ?_)
  · skip
    refine lv_iload_n hx hb dX4_lines_23 rfl (lv_at hl 1 rfl) ?_
    refine ln_if_ne (tgt := 29) hx hb dX4_lines_24 (by decide) (by decide) (fun c24 => ?_) (fun c24 => ?_)
    · skip
      refine lv_iload_n hx hb dX4_lines_29 rfl (lv_at hl 1 rfl) ?_
      refine lv_iconst (v := (nI 1)) hx hb dX4_lines_30 (by decide) ?_
      refine ln_icmp_ne (tgt := 45) hx hb dX4_lines_31 (by decide) (by decide) (by decide) (fun c31 => ?_) (fun c31 => ?_)
      · skip
        refine lv_aload_n hx hb dX4_lines_45 rfl (lv_at hl 0 rfl) ?_
        refine lv_aload_n hx hb dX4_lines_46 rfl (lv_at hl 0 rfl) ?_
        refine va_get (D := D) (ci := 3) (v := .ref h3) (C := RX4) (T := TX4) (N := 6) hx hb hG wu_X4 hown hK hP 0 rfl rfl 2 (by decide) (hG _ wf_X4_24) (fun _ h9 => h9) rfl dX4_lines_47 ?_
        refine lv_iload_n hx hb dX4_lines_50 rfl (lv_at hl 1 rfl) ?_
        refine lv_iconst (v := (nI 1)) hx hb dX4_lines_51 (by decide) ?_
        refine ln_isub hx hb dX4_lines_52 (by omega) ?_
        refine W.top (y := .int (nI 1)) (congrArg Value.int rfl) ?_
        refine chL (rnV (As := [.ref h3, .int (nI 1)]) (rest := []) S0 (c_X4_countBehind_L1 l bd hCP sd rt ps hs2 hr16 hp65 n (by omega) (fil bd sd rt ps) hLI hlen hall) wm_X4_134 wi_X4_countBehind ws_X4_countBehind wn_X4 wc_X4_countBehind hd_X4_countBehind ⟨rfl, rfl, by decide, by decide⟩ IW.blind (va_recv hK hP (ci := 3) (q0 := 0) rfl rfl) (IW.at hP hD hK hA hE hS) hl.1 (Nat.le_of_ble_eq_true rfl) dX4_lines_53 rfl ⟨by decide, by decide⟩) hS (fun r_3 u2 H locs hu hP hD hS => ?_)
        obtain ⟨he9, hC5, hk5⟩ := hu
        subst he9
        have hP : va_P D classes (cW cI cJ h0 h1 h2 a0 a1 a2 a3 h3 a4 h4 a5 (bI true) (bI true) u2.2.2.2.2.1 u2.2.2.2.2.2.1 u2.2.2.2.2.2.2.1 u2.2.2.2.2.2.2.2.1 u2.2.2.2.2.2.2.2.2.1 u2.2.2.2.2.2.2.2.2.2 (nI sd) (nI rt) (pI ps) (nI n) u2.1 u2.2.1 u2.2.2.1 u2.2.2.2.1 (nI (fil bd sd rt ps).length) u1.1 asz afs) H := hP
        have hD : va_D A (cW cI cJ h0 h1 h2 a0 a1 a2 a3 h3 a4 h4 a5 (bI true) (bI true) u2.2.2.2.2.1 u2.2.2.2.2.2.1 u2.2.2.2.2.2.2.1 u2.2.2.2.2.2.2.2.1 u2.2.2.2.2.2.2.2.2.1 u2.2.2.2.2.2.2.2.2.2 (nI sd) (nI rt) (pI ps) (nI n) u2.1 u2.2.1 u2.2.2.1 u2.2.2.2.1 (nI (fil bd sd rt ps).length) u1.1 asz afs) := hD
        exact weL ((u2.1, u2.2.1, u2.2.2.1, u2.2.2.2.1, asz, afs, u1.1, u2.2.2.2.2.1, u2.2.2.2.2.2.1, u2.2.2.2.2.2.2.1, u2.2.2.2.2.2.2.2.1, u2.2.2.2.2.2.2.2.2.1, u2.2.2.2.2.2.2.2.2.2)) hx hb hr hlocks dX4_lines_56 ⟨rfl, hC5, hk5, hLI⟩ hP hD hK hA hE hS
      · skip
        exact absurd c31 (by omega)
    · skip
      exact absurd c24 (by omega)
  · skip
    exact absurd c10 (by omega)
set_option maxHeartbeats 4000000 in
set_option maxRecDepth 100000 in
/-- lines 3 -/
theorem c_X4_lines_3 (l : Launch) {D : va_G} {cI cJ : ClassId} {A : Nat → Prop} {h0 h1 h2 a0 a1 a2 a3 h3 a4 h4 a5 : Nat} {ow tr fu kg co pn : Int64} {pcs : Nat → Int32} {sqa : Nat → Int64} {mvs los : Nat → Int32} {lsz : Int32} {lfs : Nat → Int32} {asz : Int32} {afs : Nat → Int32} (bd : Nat → Nat) (hCP : CP pcs sqa bd) (sd rt ps : Nat) (hs2 : sd < 2) (hr16 : rt < 16) (hp65 : ps < 65) (kb ob : Bool) (hKL : KLp kb ob lsz lfs bd sd rt ps) (hpl : cbp bd sd = true) (hlen : (fil bd sd rt ps).length ≤ 700) (n : Nat) (hn : n ≤ 200) (hall : ∀ f t k, (f + 64 * t + 4096 * k) ∈ (fil bd sd rt ps) → f < 64 → t < 64 → k < 6 → GM bd sd f t k ∧ (fil (plB bd sd f t k) (1 - sd) (plR bd sd rt f t) (pss (plB bd sd f t k) sd (bd f) f t)).length ≤ 700 ∧ ∀ y ∈ fil (plB bd sd f t k) (1 - sd) (plR bd sd rt f t) (pss (plB bd sd f t k) sd (bd f) f t), GMy (plB bd sd f t k) (1 - sd) y) (hdec : ∀ y ∈ (fil bd sd rt ps), ∃ f t k, f < 64 ∧ t < 64 ∧ k < 6 ∧ y = f + 64 * t + 4096 * k) : Met l yX4_lines (Cond.code yX4_lines cX4_lines 2 (some .long) :: wsL_law) (rK 7) (va_Pc [.ref h0, .int (nI 3)] (IW D cI cJ A (cW cI cJ h0 h1 h2 a0 a1 a2 a3 h3 a4 h4 a5 (bI kb) (bI ob) ow tr fu kg co pn (nI sd) (nI rt) (pI ps) (nI n) pcs sqa mvs los lsz lfs asz afs))) (va_Ql (fun r u => r = lN (((fil bd sd rt ps).map (cb2 bd sd rt)).sum) ∧ CP u.1 u.2.1 bd ∧ (∀ j, j < n → u.2.2.1 j = mvs j ∧ u.2.2.2.1 j = los j) ∧ LI u.2.2.2.2.2.2.1 (fil bd sd rt ps)) (fun (u : (Nat → Int32) × (Nat → Int64) × (Nat → Int32) × (Nat → Int32) × Int32 × (Nat → Int32) × (Nat → Int32) × Int64 × Int64 × Int64 × Int64 × Int64 × Int64) t9 => IW D cI cJ A (cW cI cJ h0 h1 h2 a0 a1 a2 a3 h3 a4 h4 a5 (bI true) (bI true) u.2.2.2.2.2.2.2.1 u.2.2.2.2.2.2.2.2.1 u.2.2.2.2.2.2.2.2.2.1 u.2.2.2.2.2.2.2.2.2.2.1 u.2.2.2.2.2.2.2.2.2.2.2.1 u.2.2.2.2.2.2.2.2.2.2.2.2 (nI sd) (nI rt) (pI ps) (nI n) u.1 u.2.1 u.2.2.1 u.2.2.2.1 (nI (fil bd sd rt ps).length) u.2.2.2.2.2.2.1 u.2.2.2.2.1 u.2.2.2.2.2.1) t9) A) 0 0 A := by
  refine entM (by decide) (Nat.le_of_ble_eq_true rfl) ?_
  intro p e s m below meth c ls S0 hr hlocks hG hnm hB hl
  have hx := S0.1
  have hb := S0.2.1
  have hown := S0.2.2.2.1
  have hl : lv_has ls 2 [(0, .ref h0), (1, .int (nI 3))] := hl
  obtain ⟨hP, hD, hK, hA, hE⟩ := hB
  have hS : va_S A s.heap s.heap [] := va_S.rf
  refine lv_aload_n hx hb dX4_lines_0 rfl (lv_at hl 0 rfl) ?_
  refine chV (rnV (As := []) (rest := []) S0 (c_X4_needList l bd hCP sd rt ps hs2 hr16 hp65 kb ob hKL hpl hlen) wm_X4_92 wi_X4_needList ws_X4_needList wn_X4 wc_X4_needList hd_X4_needList ⟨rfl, rfl, by decide, by decide⟩ IW.blind (va_recv hK hP (ci := 3) (q0 := 0) rfl rfl) (IW.at hP hD hK hA hE hS) hl.1 (Nat.le_of_ble_eq_true rfl) dX4_lines_1 rfl ⟨by decide, by decide⟩) hS (fun u1 H locs hu hP hD hS => ?_)
  have hLI := hu
  have hP : va_P D classes (cW cI cJ h0 h1 h2 a0 a1 a2 a3 h3 a4 h4 a5 (bI true) (bI true) u1.2.1 u1.2.2.1 u1.2.2.2.1 u1.2.2.2.2.1 u1.2.2.2.2.2.1 u1.2.2.2.2.2.2 (nI sd) (nI rt) (pI ps) (nI n) pcs sqa mvs los (nI (fil bd sd rt ps).length) u1.1 asz afs) H := hP
  have hD : va_D A (cW cI cJ h0 h1 h2 a0 a1 a2 a3 h3 a4 h4 a5 (bI true) (bI true) u1.2.1 u1.2.2.1 u1.2.2.2.1 u1.2.2.2.2.1 u1.2.2.2.2.2.1 u1.2.2.2.2.2.2 (nI sd) (nI rt) (pI ps) (nI n) pcs sqa mvs los (nI (fil bd sd rt ps).length) u1.1 asz afs) := hD
  refine lv_iload_n hx hb dX4_lines_4 rfl (lv_at hl 1 rfl) ?_
  refine ln_if_lt (tgt := 13) hx hb dX4_lines_5 (by decide) (by decide) ?_
  refine lv_iload_n hx hb dX4_lines_8 rfl (lv_at hl 1 rfl) ?_
  refine lv_iconst (v := (nI 3)) hx hb dX4_lines_9 (by decide) ?_
  refine ln_icmp_le (tgt := 23) hx hb dX4_lines_10 (by decide) (by decide) (by decide) (fun c10 => ?_) (fun c10 => ?_)
  · skip
    refine lv_iload_n hx hb dX4_lines_23 rfl (lv_at hl 1 rfl) ?_
    refine ln_if_ne (tgt := 29) hx hb dX4_lines_24 (by decide) (by decide) (fun c24 => ?_) (fun c24 => ?_)
    · skip
      refine lv_iload_n hx hb dX4_lines_29 rfl (lv_at hl 1 rfl) ?_
      refine lv_iconst (v := (nI 1)) hx hb dX4_lines_30 (by decide) ?_
      refine ln_icmp_ne (tgt := 45) hx hb dX4_lines_31 (by decide) (by decide) (by decide) (fun c31 => ?_) (fun c31 => ?_)
      · skip
        refine lv_aload_n hx hb dX4_lines_45 rfl (lv_at hl 0 rfl) ?_
        refine lv_aload_n hx hb dX4_lines_46 rfl (lv_at hl 0 rfl) ?_
        refine va_get (D := D) (ci := 3) (v := .ref h3) (C := RX4) (T := TX4) (N := 6) hx hb hG wu_X4 hown hK hP 0 rfl rfl 2 (by decide) (hG _ wf_X4_24) (fun _ h9 => h9) rfl dX4_lines_47 ?_
        refine lv_iload_n hx hb dX4_lines_50 rfl (lv_at hl 1 rfl) ?_
        refine lv_iconst (v := (nI 1)) hx hb dX4_lines_51 (by decide) ?_
        refine ln_isub hx hb dX4_lines_52 (by omega) ?_
        refine W.top (y := .int (nI 2)) (congrArg Value.int rfl) ?_
        refine chL (rnV (As := [.ref h3, .int (nI 2)]) (rest := []) S0 (c_X4_countBehind_L2 l bd hCP sd rt ps hs2 hr16 hp65 n (by omega) (fil bd sd rt ps) hLI hlen hall hdec) wm_X4_134 wi_X4_countBehind ws_X4_countBehind wn_X4 wc_X4_countBehind hd_X4_countBehind ⟨rfl, rfl, by decide, by decide⟩ IW.blind (va_recv hK hP (ci := 3) (q0 := 0) rfl rfl) (IW.at hP hD hK hA hE hS) hl.1 (Nat.le_of_ble_eq_true rfl) dX4_lines_53 rfl ⟨by decide, by decide⟩) hS (fun r_3 u2 H locs hu hP hD hS => ?_)
        obtain ⟨he9, hC5, hk5⟩ := hu
        subst he9
        have hP : va_P D classes (cW cI cJ h0 h1 h2 a0 a1 a2 a3 h3 a4 h4 a5 (bI true) (bI true) u2.2.2.2.2.2.2.1 u2.2.2.2.2.2.2.2.1 u2.2.2.2.2.2.2.2.2.1 u2.2.2.2.2.2.2.2.2.2.1 u2.2.2.2.2.2.2.2.2.2.2.1 u2.2.2.2.2.2.2.2.2.2.2.2 (nI sd) (nI rt) (pI ps) (nI n) u2.1 u2.2.1 u2.2.2.1 u2.2.2.2.1 (nI (fil bd sd rt ps).length) u1.1 u2.2.2.2.2.1 u2.2.2.2.2.2.1) H := hP
        have hD : va_D A (cW cI cJ h0 h1 h2 a0 a1 a2 a3 h3 a4 h4 a5 (bI true) (bI true) u2.2.2.2.2.2.2.1 u2.2.2.2.2.2.2.2.1 u2.2.2.2.2.2.2.2.2.1 u2.2.2.2.2.2.2.2.2.2.1 u2.2.2.2.2.2.2.2.2.2.2.1 u2.2.2.2.2.2.2.2.2.2.2.2 (nI sd) (nI rt) (pI ps) (nI n) u2.1 u2.2.1 u2.2.2.1 u2.2.2.2.1 (nI (fil bd sd rt ps).length) u1.1 u2.2.2.2.2.1 u2.2.2.2.2.2.1) := hD
        exact weL ((u2.1, u2.2.1, u2.2.2.1, u2.2.2.2.1, u2.2.2.2.2.1, u2.2.2.2.2.2.1, u1.1, u2.2.2.2.2.2.2.1, u2.2.2.2.2.2.2.2.1, u2.2.2.2.2.2.2.2.2.1, u2.2.2.2.2.2.2.2.2.2.1, u2.2.2.2.2.2.2.2.2.2.2.1, u2.2.2.2.2.2.2.2.2.2.2.2)) hx hb hr hlocks dX4_lines_56 ⟨rfl, hC5, hk5, hLI⟩ hP hD hK hA hE hS
      · skip
        exact absurd c31 (by omega)
    · skip
      exact absurd c24 (by omega)
  · skip
    exact absurd c10 (by omega)

theorem dX4_kind_0 : decode cX4_kind 0 = .ok (.aload_n 0, 1) := by decide +kernel
theorem dX4_kind_1 : decode cX4_kind 1 = .ok (.invokevirtual 92, 3) := by decide +kernel
theorem dX4_kind_4 : decode cX4_kind 4 = .ok (.aload_n 0, 1) := by decide +kernel
theorem dX4_kind_5 : decode cX4_kind 5 = .ok (.getfield 24, 3) := by decide +kernel
theorem dX4_kind_8 : decode cX4_kind 8 = .ok (.iload_n 1, 1) := by decide +kernel
theorem dX4_kind_9 : decode cX4_kind 9 = .ok (.invokevirtual 104, 3) := by decide +kernel
theorem dX4_kind_12 : decode cX4_kind 12 = .ok (.iconst (-1), 1) := by decide +kernel
theorem dX4_kind_13 : decode cX4_kind 13 = .ok (.if_icmp .ne 13, 3) := by decide +kernel
theorem dX4_kind_16 : decode cX4_kind 16 = .ok (.new 63, 3) := by decide +kernel
theorem dX4_kind_19 : decode cX4_kind 19 = .ok (.dup, 1) := by decide +kernel
theorem dX4_kind_20 : decode cX4_kind 20 = .ok (.ldc 113, 2) := by decide +kernel
theorem dX4_kind_22 : decode cX4_kind 22 = .ok (.invokespecial 67, 3) := by decide +kernel
theorem dX4_kind_25 : decode cX4_kind 25 = .ok (.athrow, 1) := by decide +kernel
theorem dX4_kind_26 : decode cX4_kind 26 = .ok (.aload_n 0, 1) := by decide +kernel
theorem dX4_kind_27 : decode cX4_kind 27 = .ok (.getfield 20, 3) := by decide +kernel
theorem dX4_kind_30 : decode cX4_kind 30 = .ok (.iload_n 1, 1) := by decide +kernel
theorem dX4_kind_31 : decode cX4_kind 31 = .ok (.invokevirtual 115, 3) := by decide +kernel
theorem dX4_kind_34 : decode cX4_kind 34 = .ok (.istore_n 2, 1) := by decide +kernel
theorem dX4_kind_35 : decode cX4_kind 35 = .ok (.aload_n 0, 1) := by decide +kernel
theorem dX4_kind_36 : decode cX4_kind 36 = .ok (.getfield 20, 3) := by decide +kernel
theorem dX4_kind_39 : decode cX4_kind 39 = .ok (.iload_n 1, 1) := by decide +kernel
theorem dX4_kind_40 : decode cX4_kind 40 = .ok (.invokevirtual 118, 3) := by decide +kernel
theorem dX4_kind_43 : decode cX4_kind 43 = .ok (.aload_n 0, 1) := by decide +kernel
theorem dX4_kind_44 : decode cX4_kind 44 = .ok (.getfield 20, 3) := by decide +kernel
theorem dX4_kind_47 : decode cX4_kind 47 = .ok (.aload_n 0, 1) := by decide +kernel
theorem dX4_kind_48 : decode cX4_kind 48 = .ok (.getfield 20, 3) := by decide +kernel
theorem dX4_kind_51 : decode cX4_kind 51 = .ok (.getfield 78, 3) := by decide +kernel
theorem dX4_kind_54 : decode cX4_kind 54 = .ok (.invokevirtual 122, 3) := by decide +kernel
theorem dX4_kind_57 : decode cX4_kind 57 = .ok (.ifCond .eq 6, 3) := by decide +kernel
theorem dX4_kind_60 : decode cX4_kind 60 = .ok (.iinc 2 16, 3) := by decide +kernel
theorem dX4_kind_63 : decode cX4_kind 63 = .ok (.aload_n 0, 1) := by decide +kernel
theorem dX4_kind_64 : decode cX4_kind 64 = .ok (.getfield 12, 3) := by decide +kernel
theorem dX4_kind_67 : decode cX4_kind 67 = .ok (.invokevirtual 125, 3) := by decide +kernel
theorem dX4_kind_70 : decode cX4_kind 70 = .ok (.ifCond .ne 6, 3) := by decide +kernel
theorem dX4_kind_73 : decode cX4_kind 73 = .ok (.iinc 2 32, 3) := by decide +kernel
theorem dX4_kind_76 : decode cX4_kind 76 = .ok (.aload_n 0, 1) := by decide +kernel
theorem dX4_kind_77 : decode cX4_kind 77 = .ok (.getfield 20, 3) := by decide +kernel
theorem dX4_kind_80 : decode cX4_kind 80 = .ok (.invokevirtual 129, 3) := by decide +kernel
theorem dX4_kind_83 : decode cX4_kind 83 = .ok (.pop, 1) := by decide +kernel
theorem dX4_kind_84 : decode cX4_kind 84 = .ok (.iload_n 2, 1) := by decide +kernel
theorem dX4_kind_85 : decode cX4_kind 85 = .ok (.ireturn, 1) := by decide +kernel
theorem hd_X4_kind : yX4_kind.cls ≠ "java/lang/invoke/MethodHandle" ∧ yX4_kind.cls ≠ "java/lang/invoke/VarHandle" ∧ (parseMethodDescriptor yX4_kind.desc).map (fun d => d.parameters.length) = some 1 := by decide +kernel
set_option maxHeartbeats 4000000 in
set_option maxRecDepth 100000 in
/-- kind -/
theorem c_X4_kind (l : Launch) {D : va_G} {cI cJ : ClassId} {A : Nat → Prop} {h0 h1 h2 a0 a1 a2 a3 h3 a4 h4 a5 : Nat} {ow tr fu kg co pn : Int64} {pcs : Nat → Int32} {sqa : Nat → Int64} {mvs los : Nat → Int32} {lsz : Int32} {lfs : Nat → Int32} {asz : Int32} {afs : Nat → Int32} (bd : Nat → Nat) (hCP : CP pcs sqa bd) (sd rt ps : Nat) (hs2 : sd < 2) (hr16 : rt < 16) (hp65 : ps < 65) (kb ob : Bool) (hKL : KLp kb ob lsz lfs bd sd rt ps) (hpl : cbp bd sd = true) (hlen : (fil bd sd rt ps).length ≤ 700) (n : Nat) (hn : n ≤ 200) (f t k : Nat) (hGM : GM bd sd f t k) (hin : ¬ fplN (fil bd sd rt ps) (nI (f + 64 * t + 4096 * k)) (fil bd sd rt ps).length = (-1)) : Met l yX4_kind (Cond.code yX4_kind cX4_kind 3 (some .int) :: wsL_law) (rK 6) (va_Pc [.ref h0, .int (nI (f + 64 * t + 4096 * k))] (IW D cI cJ A (cW cI cJ h0 h1 h2 a0 a1 a2 a3 h3 a4 h4 a5 (bI kb) (bI ob) ow tr fu kg co pn (nI sd) (nI rt) (pI ps) (nI n) pcs sqa mvs los lsz lfs asz afs))) (va_Qi (fun r u => r = nI (knC bd sd rt f t k) ∧ CP u.1 u.2.1 bd ∧ (∀ j, j < n → u.2.2.1 j = mvs j ∧ u.2.2.2.1 j = los j) ∧ LI u.2.2.2.2.1 (fil bd sd rt ps)) (fun (u : (Nat → Int32) × (Nat → Int64) × (Nat → Int32) × (Nat → Int32) × (Nat → Int32) × Int64 × Int64 × Int64 × Int64 × Int64 × Int64) t9 => IW D cI cJ A (cW cI cJ h0 h1 h2 a0 a1 a2 a3 h3 a4 h4 a5 (bI true) (bI true) u.2.2.2.2.2.1 u.2.2.2.2.2.2.1 u.2.2.2.2.2.2.2.1 u.2.2.2.2.2.2.2.2.1 u.2.2.2.2.2.2.2.2.2.1 u.2.2.2.2.2.2.2.2.2.2 (nI sd) (nI rt) (pI ps) (nI n) u.1 u.2.1 u.2.2.1 u.2.2.2.1 (nI (fil bd sd rt ps).length) u.2.2.2.2.1 asz afs) t9) A) 0 0 A := by
  refine entM (by decide) (Nat.le_of_ble_eq_true rfl) ?_
  intro p e s m below meth c ls S0 hr hlocks hG hnm hB hl
  have hx := S0.1
  have hb := S0.2.1
  have hown := S0.2.2.2.1
  have hl : lv_has ls 3 [(0, .ref h0), (1, .int (nI (f + 64 * t + 4096 * k)))] := hl
  obtain ⟨hP, hD, hK, hA, hE⟩ := hB
  have hS : va_S A s.heap s.heap [] := va_S.rf
  obtain ⟨hf, ht, hk, hct, hct2, hid⟩ := hGM
  have hss : 1 - (1 - sd) = sd := by omega
  have hdl := ded_le bd f t k
  have hr2 := plR_lt (bd := bd) (sd := sd) (f := f) (t := t) hr16
  have hp2 := pss_lt (g := (plB bd sd f t k)) (sd := sd) (k := bd f) hf ht
  have htl := tly_le (plB bd sd f t k) (1 - sd) (plR bd sd rt f t) (pss (plB bd sd f t k) sd (bd f) f t)
  refine lv_aload_n hx hb dX4_kind_0 rfl (lv_at hl 0 rfl) ?_
  refine chV (rnV (As := []) (rest := []) S0 (c_X4_needList l bd hCP sd rt ps hs2 hr16 hp65 kb ob hKL hpl hlen) wm_X4_92 wi_X4_needList ws_X4_needList wn_X4 wc_X4_needList hd_X4_needList ⟨rfl, rfl, by decide, by decide⟩ IW.blind (va_recv hK hP (ci := 3) (q0 := 0) rfl rfl) (IW.at hP hD hK hA hE hS) hl.1 (Nat.le_of_ble_eq_true rfl) dX4_kind_1 rfl ⟨by decide, by decide⟩) hS (fun u1 H locs hu hP hD hS => ?_)
  have hLI := hu
  have hP : va_P D classes (cW cI cJ h0 h1 h2 a0 a1 a2 a3 h3 a4 h4 a5 (bI true) (bI true) u1.2.1 u1.2.2.1 u1.2.2.2.1 u1.2.2.2.2.1 u1.2.2.2.2.2.1 u1.2.2.2.2.2.2 (nI sd) (nI rt) (pI ps) (nI n) pcs sqa mvs los (nI (fil bd sd rt ps).length) u1.1 asz afs) H := hP
  have hD : va_D A (cW cI cJ h0 h1 h2 a0 a1 a2 a3 h3 a4 h4 a5 (bI true) (bI true) u1.2.1 u1.2.2.1 u1.2.2.2.1 u1.2.2.2.2.1 u1.2.2.2.2.2.1 u1.2.2.2.2.2.2 (nI sd) (nI rt) (pI ps) (nI n) pcs sqa mvs los (nI (fil bd sd rt ps).length) u1.1 asz afs) := hD
  refine lv_aload_n hx hb dX4_kind_4 rfl (lv_at hl 0 rfl) ?_
  refine va_get (D := D) (ci := 3) (v := .ref h3) (C := RX4) (T := TX4) (N := 6) hx hb hG wu_X4 hown hK hP 0 rfl rfl 2 (by decide) (hG _ wf_X4_24) (fun _ h9 => h9) rfl dX4_kind_5 ?_
  refine lv_iload_n hx hb dX4_kind_8 rfl (lv_at hl 1 rfl) ?_
  refine roI (rnV (As := [.int (nI (f + 64 * t + 4096 * k))]) (rest := []) S0 (c_X1_placeOf l (fil bd sd rt ps) hLI hlen (nI (f + 64 * t + 4096 * k))) wm_X4_104 wi_X1_placeOf ws_X1_placeOf wn_X1 wc_X1_placeOf hd_X1_placeOf ⟨rfl, rfl, by decide, by decide⟩ IW.blind (va_recv hK hP (ci := 0) (q0 := 7) rfl rfl) (IW.at (ws := mW cI h3 a4 (nI (fil bd sd rt ps).length) u1.1) (hP.sub [7, 8] rfl) (hD.sub [7, 8] (by decide) rfl) hK hA hE hS) hl.1 (Nat.le_of_ble_eq_true rfl) dX4_kind_9 rfl ⟨by decide, by decide⟩) (fun r_2 hr_2 => ?_)
  subst hr_2
  refine lv_iconst (v := (-1)) hx hb dX4_kind_12 (by decide) ?_
  refine lv_icmp_ne (tgt := 26) hx hb dX4_kind_13 (by decide) (fun c13 => ?_) (fun c13 => ?_)
  · skip
    refine lv_aload_n hx hb dX4_kind_26 rfl (lv_at hl 0 rfl) ?_
    refine va_get (D := D) (ci := 3) (v := .ref h2) (C := RX4) (T := TX4) (N := 6) hx hb hG wu_X4 hown hK hP 0 rfl rfl 1 (by decide) (hG _ wf_X4_20) (fun _ h9 => h9) rfl dX4_kind_27 ?_
    refine lv_iload_n hx hb dX4_kind_30 rfl (lv_at hl 1 rfl) ?_
    refine roI (rnV (As := [.int (nI (f + 64 * t + 4096 * k))]) (rest := []) S0 (c_X2_deedsOf l bd hCP f t k hf ht hk) wm_X4_115 wi_X2_deedsOf ws_X2_deedsOf wn_X2 wc_X2_deedsOf hd_X2_deedsOf ⟨rfl, rfl, by decide, by decide⟩ IW.blind (va_recv hK hP (ci := 1) (q0 := 2) rfl rfl) (IW.at hP hD hK hA hE hS) hl.1 (Nat.le_of_ble_eq_true rfl) dX4_kind_31 rfl ⟨by decide, by decide⟩) (fun r_3 hr_3 => ?_)
    subst hr_3
    refine lv_istore_n (lv' := [(2, .int (nI (ded bd f t k))), (0, .ref h0), (1, .int (nI (f + 64 * t + 4096 * k)))]) hx hb dX4_kind_34 rfl hl (by decide) rfl (fun ls hl => ?_)
    refine lv_aload_n hx hb dX4_kind_35 rfl (lv_at hl 1 rfl) ?_
    refine va_get (D := D) (ci := 3) (v := .ref h2) (C := RX4) (T := TX4) (N := 6) hx hb hG wu_X4 hown hK hP 0 rfl rfl 1 (by decide) (hG _ wf_X4_20) (fun _ h9 => h9) rfl dX4_kind_36 ?_
    refine lv_iload_n hx hb dX4_kind_39 rfl (lv_at hl 2 rfl) ?_
    refine chV (rnV (As := [.int (nI (f + 64 * t + 4096 * k))]) (rest := []) S0 (c_X2_play l bd hCP sd rt ps n hs2 hr16 hp65 (by omega) f t k hf ht hk hct) wm_X4_118 wi_X2_play ws_X2_play wn_X2 wc_X2_play hd_X2_play ⟨rfl, rfl, by decide, by decide⟩ IW.blind (va_recv hK hP (ci := 1) (q0 := 2) rfl rfl) (IW.at hP hD hK hA hE hS) hl.1 (Nat.le_of_ble_eq_true rfl) dX4_kind_40 rfl ⟨by decide, by decide⟩) hS (fun u2 H locs hu hP hD hS => ?_)
    have hC1 := hu
    have hP : va_P D classes (cW cI cJ h0 h1 h2 a0 a1 a2 a3 h3 a4 h4 a5 (bI true) (bI true) u1.2.1 u1.2.2.1 u1.2.2.2.1 u1.2.2.2.2.1 u1.2.2.2.2.2.1 u1.2.2.2.2.2.2 (nI (1 - sd)) (nI (plR bd sd rt f t)) (pI (pss (plB bd sd f t k) sd (bd f) f t)) (nI (n + 1)) u2.1 u2.2 (upd mvs n (nI (f + 64 * t + 4096 * k))) (upd los n (losE (bd (tkn bd f t)) (tkn bd f t) rt ps)) (nI (fil bd sd rt ps).length) u1.1 asz afs) H := hP
    have hD : va_D A (cW cI cJ h0 h1 h2 a0 a1 a2 a3 h3 a4 h4 a5 (bI true) (bI true) u1.2.1 u1.2.2.1 u1.2.2.2.1 u1.2.2.2.2.1 u1.2.2.2.2.2.1 u1.2.2.2.2.2.2 (nI (1 - sd)) (nI (plR bd sd rt f t)) (pI (pss (plB bd sd f t k) sd (bd f) f t)) (nI (n + 1)) u2.1 u2.2 (upd mvs n (nI (f + 64 * t + 4096 * k))) (upd los n (losE (bd (tkn bd f t)) (tkn bd f t) rt ps)) (nI (fil bd sd rt ps).length) u1.1 asz afs) := hD
    refine lv_aload_n hx hb dX4_kind_43 rfl (lv_at hl 1 rfl) ?_
    refine va_get (D := D) (ci := 3) (v := .ref h2) (C := RX4) (T := TX4) (N := 6) hx hb hG wu_X4 hown hK hP 0 rfl rfl 1 (by decide) (hG _ wf_X4_20) (fun _ h9 => h9) rfl dX4_kind_44 ?_
    refine lv_aload_n hx hb dX4_kind_47 rfl (lv_at hl 1 rfl) ?_
    refine va_get (D := D) (ci := 3) (v := .ref h2) (C := RX4) (T := TX4) (N := 6) hx hb hG wu_X4 hown hK hP 0 rfl rfl 1 (by decide) (hG _ wf_X4_20) (fun _ h9 => h9) rfl dX4_kind_48 ?_
    refine va_get (D := D) (ci := 1) (v := .int (nI (1 - sd))) (C := RX2) (T := TX2) (N := 8) hx hb hG wu_X2 hown hK hP 2 rfl rfl 2 (by decide) (hG _ wf_X4_78) (fun _ h9 => h9) rfl dX4_kind_51 ?_
    refine roI (rnV (As := [.int (nI (1 - sd))]) (rest := []) S0 (c_X2_kingIsAttacked l (plB bd sd f t k) hC1 (1 - sd) (by omega)) wm_X4_122 wi_X2_kingIsAttacked ws_X2_kingIsAttacked wn_X2 wc_X2_kingIsAttacked hd_X2_kingIsAttacked ⟨rfl, rfl, by decide, by decide⟩ IW.blind (va_recv hK hP (ci := 1) (q0 := 2) rfl rfl) (IW.at hP hD hK hA hE hS) hl.1 (Nat.le_of_ble_eq_true rfl) dX4_kind_54 rfl ⟨by decide, by decide⟩) (fun r_5 hr_5 => ?_)
    subst hr_5
    refine jnG 63 3 [(0, .ref h0), (2, .int (nI (ded bd f t k + if kia (plB bd sd f t k) (1 - sd) = true then 16 else 0)))] [] ?_ (fun hj_63 => ?_)
    · intro ls hl
      refine lv_aload_n hx hb dX4_kind_63 rfl (lv_at hl 0 rfl) ?_
      refine va_get (D := D) (ci := 3) (v := .ref h1) (C := RX4) (T := TX4) (N := 6) hx hb hG wu_X4 hown hK hP 0 rfl rfl 0 (by decide) (hG _ wf_X4_12) (fun _ h9 => h9) rfl dX4_kind_64 ?_
      refine chI (rnV (As := []) (rest := []) S0 (c_X3_tally l (plB bd sd f t k) hC1 (1 - sd) (plR bd sd rt f t) (pss (plB bd sd f t k) sd (bd f) f t) (by omega) hr2 hp2) wm_X4_125 wi_X3_tally ws_X3_tally wn_X3 wc_X3_tally hd_X3_tally ⟨rfl, rfl, by decide, by decide⟩ IW.blind (va_recv hK hP (ci := 2) (q0 := 1) rfl rfl) (IW.at hP hD hK hA hE hS) hl.1 (Nat.le_of_ble_eq_true rfl) dX4_kind_67 rfl ⟨by decide, by decide⟩) hS (fun r_6 u3 H locs hu hP hD hS => ?_)
      subst hu
      have hP : va_P D classes (cW cI cJ h0 h1 h2 a0 a1 a2 a3 h3 a4 h4 a5 (bI true) (bI true) (ownS (plB bd sd f t k) (1 - sd)) (thrS (plB bd sd f t k) (1 - sd)) (fulS (plB bd sd f t k) (1 - sd)) (kngS (plB bd sd f t k) (1 - sd)) (covS (plB bd sd f t k) (1 - sd)) (pinS (plB bd sd f t k) (1 - sd)) (nI (1 - sd)) (nI (plR bd sd rt f t)) (pI (pss (plB bd sd f t k) sd (bd f) f t)) (nI (n + 1)) u2.1 u2.2 (upd mvs n (nI (f + 64 * t + 4096 * k))) (upd los n (losE (bd (tkn bd f t)) (tkn bd f t) rt ps)) (nI (fil bd sd rt ps).length) u1.1 asz afs) H := hP
      have hD : va_D A (cW cI cJ h0 h1 h2 a0 a1 a2 a3 h3 a4 h4 a5 (bI true) (bI true) (ownS (plB bd sd f t k) (1 - sd)) (thrS (plB bd sd f t k) (1 - sd)) (fulS (plB bd sd f t k) (1 - sd)) (kngS (plB bd sd f t k) (1 - sd)) (covS (plB bd sd f t k) (1 - sd)) (pinS (plB bd sd f t k) (1 - sd)) (nI (1 - sd)) (nI (plR bd sd rt f t)) (pI (pss (plB bd sd f t k) sd (bd f) f t)) (nI (n + 1)) u2.1 u2.2 (upd mvs n (nI (f + 64 * t + 4096 * k))) (upd los n (losE (bd (tkn bd f t)) (tkn bd f t) rt ps)) (nI (fil bd sd rt ps).length) u1.1 asz afs) := hD
      refine jnG 76 3 [(0, .ref h0), (2, .int (nI (knC bd sd rt f t k)))] [] ?_ (fun hj_76 => ?_)
      · intro ls hl
        refine lv_aload_n hx hb dX4_kind_76 rfl (lv_at hl 0 rfl) ?_
        refine va_get (D := D) (ci := 3) (v := .ref h2) (C := RX4) (T := TX4) (N := 6) hx hb hG wu_X4 hown hK hP 0 rfl rfl 1 (by decide) (hG _ wf_X4_20) (fun _ h9 => h9) rfl dX4_kind_77 ?_
        refine chI (rnV (As := []) (rest := []) S0 (c_X2_takeBack l (plB bd sd f t k) hC1 (1 - sd) rt ps n (tkn bd f t) (bd (tkn bd f t)) (by omega) hr16 hp65 (by omega) (tkn_lt hf ht) (hCP.1 _ (tkn_lt hf ht)).2 f t k hf ht hk pk_us pk_us (by rw [hss]; exact hct2)) wm_X4_129 wi_X2_takeBack ws_X2_takeBack wn_X2 wc_X2_takeBack hd_X2_takeBack ⟨rfl, rfl, by decide, by decide⟩ IW.blind (va_recv hK hP (ci := 1) (q0 := 2) rfl rfl) (IW.at hP hD hK hA hE hS) hl.1 (Nat.le_of_ble_eq_true rfl) dX4_kind_80 rfl ⟨by decide, by decide⟩) hS (fun r_7 u4 H locs hu hP hD hS => ?_)
        obtain ⟨he9, hC2⟩ := hu
        subst he9
        have hP : va_P D classes (cW cI cJ h0 h1 h2 a0 a1 a2 a3 h3 a4 h4 a5 (bI true) (bI true) (ownS (plB bd sd f t k) (1 - sd)) (thrS (plB bd sd f t k) (1 - sd)) (fulS (plB bd sd f t k) (1 - sd)) (kngS (plB bd sd f t k) (1 - sd)) (covS (plB bd sd f t k) (1 - sd)) (pinS (plB bd sd f t k) (1 - sd)) (nI (1 - (1 - sd))) (nI rt) (pI ps) (nI n) u4.1 u4.2 (upd mvs n (nI (f + 64 * t + 4096 * k))) (upd los n (losE (bd (tkn bd f t)) (tkn bd f t) rt ps)) (nI (fil bd sd rt ps).length) u1.1 asz afs) H := hP
        have hD : va_D A (cW cI cJ h0 h1 h2 a0 a1 a2 a3 h3 a4 h4 a5 (bI true) (bI true) (ownS (plB bd sd f t k) (1 - sd)) (thrS (plB bd sd f t k) (1 - sd)) (fulS (plB bd sd f t k) (1 - sd)) (kngS (plB bd sd f t k) (1 - sd)) (covS (plB bd sd f t k) (1 - sd)) (pinS (plB bd sd f t k) (1 - sd)) (nI (1 - (1 - sd))) (nI rt) (pI ps) (nI n) u4.1 u4.2 (upd mvs n (nI (f + 64 * t + 4096 * k))) (upd los n (losE (bd (tkn bd f t)) (tkn bd f t) rt ps)) (nI (fil bd sd rt ps).length) u1.1 asz afs) := hD
        have hC3 : CP _ _ bd := CP_congr (by rw [hss]; exact hid) hC2
        rw [hss] at hP hD
        have hP : va_P D classes (cW cI cJ h0 h1 h2 a0 a1 a2 a3 h3 a4 h4 a5 (bI true) (bI true) (ownS (plB bd sd f t k) (1 - sd)) (thrS (plB bd sd f t k) (1 - sd)) (fulS (plB bd sd f t k) (1 - sd)) (kngS (plB bd sd f t k) (1 - sd)) (covS (plB bd sd f t k) (1 - sd)) (pinS (plB bd sd f t k) (1 - sd)) (nI sd) (nI rt) (pI ps) (nI n) u4.1 u4.2 (upd mvs n (nI (f + 64 * t + 4096 * k))) (upd los n (losE (bd (tkn bd f t)) (tkn bd f t) rt ps)) (nI (fil bd sd rt ps).length) u1.1 asz afs) H := hP
        have hD : va_D A (cW cI cJ h0 h1 h2 a0 a1 a2 a3 h3 a4 h4 a5 (bI true) (bI true) (ownS (plB bd sd f t k) (1 - sd)) (thrS (plB bd sd f t k) (1 - sd)) (fulS (plB bd sd f t k) (1 - sd)) (kngS (plB bd sd f t k) (1 - sd)) (covS (plB bd sd f t k) (1 - sd)) (pinS (plB bd sd f t k) (1 - sd)) (nI sd) (nI rt) (pI ps) (nI n) u4.1 u4.2 (upd mvs n (nI (f + 64 * t + 4096 * k))) (upd los n (losE (bd (tkn bd f t)) (tkn bd f t) rt ps)) (nI (fil bd sd rt ps).length) u1.1 asz afs) := hD
        refine lv_pop hx hb dX4_kind_83 rfl ?_
        refine lv_iload_n hx hb dX4_kind_84 rfl (lv_at hl 1 rfl) ?_
        exact weI ((u4.1, u4.2, (upd mvs n (nI (f + 64 * t + 4096 * k))), (upd los n (losE (bd (tkn bd f t)) (tkn bd f t) rt ps)), u1.1, (ownS (plB bd sd f t k) (1 - sd)), (thrS (plB bd sd f t k) (1 - sd)), (fulS (plB bd sd f t k) (1 - sd)), (kngS (plB bd sd f t k) (1 - sd)), (covS (plB bd sd f t k) (1 - sd)), (pinS (plB bd sd f t k) (1 - sd)))) hx hb hr hlocks dX4_kind_85 ⟨rfl, hC3, fun j hj => ⟨pk_un (by omega), pk_un (by omega)⟩, hLI⟩ hP hD hK hA hE hS
      · skip
        refine ln_if_ne (tgt := 76) hx hb dX4_kind_70 (by decide) (by omega) (fun c70 => ?_) (fun c70 => ?_)
        · skip
          have hl2 : lv_has ls 3 [(0, .ref h0), (2, .int (nI (ded bd f t k + if kia (plB bd sd f t k) (1 - sd) = true then 16 else 0)))] := by
            exact lv_sub hl [0, 1] rfl
          exact hj_76 ls (by have e9 : ([(0, .ref h0), (2, .int (nI (ded bd f t k + if kia (plB bd sd f t k) (1 - sd) = true then 16 else 0)))] : List (Nat × Value)) = [(0, .ref h0), (2, .int (nI (knC bd sd rt f t k)))] := (by unfold knC; first | rw [if_pos c70] | (rw [if_neg c70]; rfl)); rw [← e9]; exact hl2)
        · skip
          refine lv_iinc (v := (nI ((ded bd f t k + if kia (plB bd sd f t k) (1 - sd) = true then 16 else 0) + 32))) (lv' := [(2, .int (nI ((ded bd f t k + if kia (plB bd sd f t k) (1 - sd) = true then 16 else 0) + 32))), (0, .ref h0)]) hx hb dX4_kind_73 hl (k := 1) rfl (show nI (ded bd f t k + if kia (plB bd sd f t k) (1 - sd) = true then 16 else 0) + Int32.ofInt 32 = nI ((ded bd f t k + if kia (plB bd sd f t k) (1 - sd) = true then 16 else 0) + 32) from nI_add _ 32) (by decide) rfl (fun ls hl => ?_)
          have hl2 : lv_has ls 3 [(0, .ref h0), (2, .int (nI ((ded bd f t k + if kia (plB bd sd f t k) (1 - sd) = true then 16 else 0) + 32)))] := by
            exact lv_sub hl [1, 0] rfl
          exact hj_76 ls (by have e9 : ([(0, .ref h0), (2, .int (nI ((ded bd f t k + if kia (plB bd sd f t k) (1 - sd) = true then 16 else 0) + 32)))] : List (Nat × Value)) = [(0, .ref h0), (2, .int (nI (knC bd sd rt f t k)))] := (by unfold knC; first | rw [if_pos c70] | (rw [if_neg c70]; rfl)); rw [← e9]; exact hl2)
    · skip
      refine lb_if_eq (tgt := 63) hx hb dX4_kind_57 (by decide) (fun c57 => ?_) (fun c57 => ?_)
      · skip
        have hl2 : lv_has ls 3 [(0, .ref h0), (2, .int (nI (ded bd f t k)))] := by
          exact lv_sub hl [1, 0] rfl
        exact hj_63 ls (by have e9 : ([(0, .ref h0), (2, .int (nI (ded bd f t k)))] : List (Nat × Value)) = [(0, .ref h0), (2, .int (nI (ded bd f t k + if kia (plB bd sd f t k) (1 - sd) = true then 16 else 0)))] := (by first | rw [if_pos c57] | (rw [if_neg (show ¬ kia (plB bd sd f t k) (1 - sd) = true by rw [c57]; decide)]; rfl)); rw [← e9]; exact hl2)
      · skip
        refine lv_iinc (v := (nI ((ded bd f t k) + 16))) (lv' := [(2, .int (nI ((ded bd f t k) + 16))), (0, .ref h0), (1, .int (nI (f + 64 * t + 4096 * k)))]) hx hb dX4_kind_60 hl (k := 0) rfl (show nI (ded bd f t k) + Int32.ofInt 16 = nI ((ded bd f t k) + 16) from nI_add _ 16) (by decide) rfl (fun ls hl => ?_)
        have hl2 : lv_has ls 3 [(0, .ref h0), (2, .int (nI ((ded bd f t k) + 16)))] := by
          exact lv_sub hl [1, 0] rfl
        exact hj_63 ls (by have e9 : ([(0, .ref h0), (2, .int (nI ((ded bd f t k) + 16)))] : List (Nat × Value)) = [(0, .ref h0), (2, .int (nI (ded bd f t k + if kia (plB bd sd f t k) (1 - sd) = true then 16 else 0)))] := (by first | rw [if_pos c57] | (rw [if_neg (show ¬ kia (plB bd sd f t k) (1 - sd) = true by rw [c57]; decide)]; rfl)); rw [← e9]; exact hl2)
  · skip
    exact absurd c13 hin
theorem dX4_make_0 : decode cX4_make 0 = .ok (.aload_n 0, 1) := by decide +kernel
theorem dX4_make_1 : decode cX4_make 1 = .ok (.invokevirtual 92, 3) := by decide +kernel
theorem dX4_make_4 : decode cX4_make 4 = .ok (.aload_n 0, 1) := by decide +kernel
theorem dX4_make_5 : decode cX4_make 5 = .ok (.getfield 24, 3) := by decide +kernel
theorem dX4_make_8 : decode cX4_make 8 = .ok (.iload_n 1, 1) := by decide +kernel
theorem dX4_make_9 : decode cX4_make 9 = .ok (.invokevirtual 104, 3) := by decide +kernel
theorem dX4_make_12 : decode cX4_make 12 = .ok (.iconst (-1), 1) := by decide +kernel
theorem dX4_make_13 : decode cX4_make 13 = .ok (.if_icmp .ne 13, 3) := by decide +kernel
theorem dX4_make_16 : decode cX4_make 16 = .ok (.new 63, 3) := by decide +kernel
theorem dX4_make_19 : decode cX4_make 19 = .ok (.dup, 1) := by decide +kernel
theorem dX4_make_20 : decode cX4_make 20 = .ok (.ldc 113, 2) := by decide +kernel
theorem dX4_make_22 : decode cX4_make 22 = .ok (.invokespecial 67, 3) := by decide +kernel
theorem dX4_make_25 : decode cX4_make 25 = .ok (.athrow, 1) := by decide +kernel
theorem dX4_make_26 : decode cX4_make 26 = .ok (.aload_n 0, 1) := by decide +kernel
theorem dX4_make_27 : decode cX4_make 27 = .ok (.getfield 20, 3) := by decide +kernel
theorem dX4_make_30 : decode cX4_make 30 = .ok (.getfield 138, 3) := by decide +kernel
theorem dX4_make_33 : decode cX4_make 33 = .ok (.sipush 200, 3) := by decide +kernel
theorem dX4_make_36 : decode cX4_make 36 = .ok (.if_icmp .lt 13, 3) := by decide +kernel
theorem dX4_make_39 : decode cX4_make 39 = .ok (.new 141, 3) := by decide +kernel
theorem dX4_make_42 : decode cX4_make 42 = .ok (.dup, 1) := by decide +kernel
theorem dX4_make_43 : decode cX4_make 43 = .ok (.ldc 143, 2) := by decide +kernel
theorem dX4_make_45 : decode cX4_make 45 = .ok (.invokespecial 145, 3) := by decide +kernel
theorem dX4_make_48 : decode cX4_make 48 = .ok (.athrow, 1) := by decide +kernel
theorem dX4_make_49 : decode cX4_make 49 = .ok (.aload_n 0, 1) := by decide +kernel
theorem dX4_make_50 : decode cX4_make 50 = .ok (.getfield 20, 3) := by decide +kernel
theorem dX4_make_53 : decode cX4_make 53 = .ok (.iload_n 1, 1) := by decide +kernel
theorem dX4_make_54 : decode cX4_make 54 = .ok (.invokevirtual 118, 3) := by decide +kernel
theorem dX4_make_57 : decode cX4_make 57 = .ok (.aload_n 0, 1) := by decide +kernel
theorem dX4_make_58 : decode cX4_make 58 = .ok (.iconst 0, 1) := by decide +kernel
theorem dX4_make_59 : decode cX4_make 59 = .ok (.putfield 31, 3) := by decide +kernel
theorem dX4_make_62 : decode cX4_make 62 = .ok (.aload_n 0, 1) := by decide +kernel
theorem dX4_make_63 : decode cX4_make 63 = .ok (.invokevirtual 92, 3) := by decide +kernel
theorem dX4_make_66 : decode cX4_make 66 = .ok (.aload_n 0, 1) := by decide +kernel
theorem dX4_make_67 : decode cX4_make 67 = .ok (.getfield 24, 3) := by decide +kernel
theorem dX4_make_70 : decode cX4_make 70 = .ok (.getfield 95, 3) := by decide +kernel
theorem dX4_make_73 : decode cX4_make 73 = .ok (.ireturn, 1) := by decide +kernel
theorem hd_X4_make : yX4_make.cls ≠ "java/lang/invoke/MethodHandle" ∧ yX4_make.cls ≠ "java/lang/invoke/VarHandle" ∧ (parseMethodDescriptor yX4_make.desc).map (fun d => d.parameters.length) = some 1 := by decide +kernel
set_option maxHeartbeats 4000000 in
set_option maxRecDepth 100000 in
/-- make -/
theorem c_X4_make (l : Launch) {D : va_G} {cI cJ : ClassId} {A : Nat → Prop} {h0 h1 h2 a0 a1 a2 a3 h3 a4 h4 a5 : Nat} {ow tr fu kg co pn : Int64} {pcs : Nat → Int32} {sqa : Nat → Int64} {mvs los : Nat → Int32} {lsz : Int32} {lfs : Nat → Int32} {asz : Int32} {afs : Nat → Int32} (bd : Nat → Nat) (hCP : CP pcs sqa bd) (sd rt ps : Nat) (hs2 : sd < 2) (hr16 : rt < 16) (hp65 : ps < 65) (kb ob : Bool) (hKL : KLp kb ob lsz lfs bd sd rt ps) (hpl : cbp bd sd = true) (hlen : (fil bd sd rt ps).length ≤ 700) (n : Nat) (hn : n < 200) (f t k : Nat) (hGM : GM bd sd f t k) (hin : ¬ fplN (fil bd sd rt ps) (nI (f + 64 * t + 4096 * k)) (fil bd sd rt ps).length = (-1)) (hpl2 : cbp (plB bd sd f t k) (1 - sd) = true) (hlen2 : (fil (plB bd sd f t k) (1 - sd) (plR bd sd rt f t) (pss (plB bd sd f t k) sd (bd f) f t)).length ≤ 700) : Met l yX4_make (Cond.code yX4_make cX4_make 2 (some .int) :: wsL_law) (rK 6) (va_Pc [.ref h0, .int (nI (f + 64 * t + 4096 * k))] (IW D cI cJ A (cW cI cJ h0 h1 h2 a0 a1 a2 a3 h3 a4 h4 a5 (bI kb) (bI ob) ow tr fu kg co pn (nI sd) (nI rt) (pI ps) (nI n) pcs sqa mvs los lsz lfs asz afs))) (va_Qi (fun r u => r = nI (fil (plB bd sd f t k) (1 - sd) (plR bd sd rt f t) (pss (plB bd sd f t k) sd (bd f) f t)).length ∧ CP u.1 u.2.1 (plB bd sd f t k) ∧ u.2.2.1 = upd mvs n (nI (f + 64 * t + 4096 * k)) ∧ u.2.2.2.1 = upd los n (losE (bd (tkn bd f t)) (tkn bd f t) rt ps) ∧ LI u.2.2.2.2.1 (fil (plB bd sd f t k) (1 - sd) (plR bd sd rt f t) (pss (plB bd sd f t k) sd (bd f) f t))) (fun (u : (Nat → Int32) × (Nat → Int64) × (Nat → Int32) × (Nat → Int32) × (Nat → Int32) × Int64 × Int64 × Int64 × Int64 × Int64 × Int64) t9 => IW D cI cJ A (cW cI cJ h0 h1 h2 a0 a1 a2 a3 h3 a4 h4 a5 (bI true) (bI true) u.2.2.2.2.2.1 u.2.2.2.2.2.2.1 u.2.2.2.2.2.2.2.1 u.2.2.2.2.2.2.2.2.1 u.2.2.2.2.2.2.2.2.2.1 u.2.2.2.2.2.2.2.2.2.2 (nI (1 - sd)) (nI (plR bd sd rt f t)) (pI (pss (plB bd sd f t k) sd (bd f) f t)) (nI (n + 1)) u.1 u.2.1 u.2.2.1 u.2.2.2.1 (nI (fil (plB bd sd f t k) (1 - sd) (plR bd sd rt f t) (pss (plB bd sd f t k) sd (bd f) f t)).length) u.2.2.2.2.1 asz afs) t9) A) 0 0 A := by
  refine entM (by decide) (Nat.le_of_ble_eq_true rfl) ?_
  intro p e s m below meth c ls S0 hr hlocks hG hnm hB hl
  have hx := S0.1
  have hb := S0.2.1
  have hown := S0.2.2.2.1
  have hl : lv_has ls 2 [(0, .ref h0), (1, .int (nI (f + 64 * t + 4096 * k)))] := hl
  obtain ⟨hP, hD, hK, hA, hE⟩ := hB
  have hS : va_S A s.heap s.heap [] := va_S.rf
  obtain ⟨hf, ht, hk, hct, hct2, hid⟩ := hGM
  have hss : 1 - (1 - sd) = sd := by omega
  have hr2 := plR_lt (bd := bd) (sd := sd) (f := f) (t := t) hr16
  have hp2 := pss_lt (g := (plB bd sd f t k)) (sd := sd) (k := bd f) hf ht
  refine lv_aload_n hx hb dX4_make_0 rfl (lv_at hl 0 rfl) ?_
  refine chV (rnV (As := []) (rest := []) S0 (c_X4_needList l bd hCP sd rt ps hs2 hr16 hp65 kb ob hKL hpl hlen) wm_X4_92 wi_X4_needList ws_X4_needList wn_X4 wc_X4_needList hd_X4_needList ⟨rfl, rfl, by decide, by decide⟩ IW.blind (va_recv hK hP (ci := 3) (q0 := 0) rfl rfl) (IW.at hP hD hK hA hE hS) hl.1 (Nat.le_of_ble_eq_true rfl) dX4_make_1 rfl ⟨by decide, by decide⟩) hS (fun u1 H locs hu hP hD hS => ?_)
  have hLI := hu
  have hP : va_P D classes (cW cI cJ h0 h1 h2 a0 a1 a2 a3 h3 a4 h4 a5 (bI true) (bI true) u1.2.1 u1.2.2.1 u1.2.2.2.1 u1.2.2.2.2.1 u1.2.2.2.2.2.1 u1.2.2.2.2.2.2 (nI sd) (nI rt) (pI ps) (nI n) pcs sqa mvs los (nI (fil bd sd rt ps).length) u1.1 asz afs) H := hP
  have hD : va_D A (cW cI cJ h0 h1 h2 a0 a1 a2 a3 h3 a4 h4 a5 (bI true) (bI true) u1.2.1 u1.2.2.1 u1.2.2.2.1 u1.2.2.2.2.1 u1.2.2.2.2.2.1 u1.2.2.2.2.2.2 (nI sd) (nI rt) (pI ps) (nI n) pcs sqa mvs los (nI (fil bd sd rt ps).length) u1.1 asz afs) := hD
  refine lv_aload_n hx hb dX4_make_4 rfl (lv_at hl 0 rfl) ?_
  refine va_get (D := D) (ci := 3) (v := .ref h3) (C := RX4) (T := TX4) (N := 6) hx hb hG wu_X4 hown hK hP 0 rfl rfl 2 (by decide) (hG _ wf_X4_24) (fun _ h9 => h9) rfl dX4_make_5 ?_
  refine lv_iload_n hx hb dX4_make_8 rfl (lv_at hl 1 rfl) ?_
  refine roI (rnV (As := [.int (nI (f + 64 * t + 4096 * k))]) (rest := []) S0 (c_X1_placeOf l (fil bd sd rt ps) hLI hlen (nI (f + 64 * t + 4096 * k))) wm_X4_104 wi_X1_placeOf ws_X1_placeOf wn_X1 wc_X1_placeOf hd_X1_placeOf ⟨rfl, rfl, by decide, by decide⟩ IW.blind (va_recv hK hP (ci := 0) (q0 := 7) rfl rfl) (IW.at (ws := mW cI h3 a4 (nI (fil bd sd rt ps).length) u1.1) (hP.sub [7, 8] rfl) (hD.sub [7, 8] (by decide) rfl) hK hA hE hS) hl.1 (Nat.le_of_ble_eq_true rfl) dX4_make_9 rfl ⟨by decide, by decide⟩) (fun r_2 hr_2 => ?_)
  subst hr_2
  refine lv_iconst (v := (-1)) hx hb dX4_make_12 (by decide) ?_
  refine lv_icmp_ne (tgt := 26) hx hb dX4_make_13 (by decide) (fun c13 => ?_) (fun c13 => ?_)
  · skip
    refine lv_aload_n hx hb dX4_make_26 rfl (lv_at hl 0 rfl) ?_
    refine va_get (D := D) (ci := 3) (v := .ref h2) (C := RX4) (T := TX4) (N := 6) hx hb hG wu_X4 hown hK hP 0 rfl rfl 1 (by decide) (hG _ wf_X4_20) (fun _ h9 => h9) rfl dX4_make_27 ?_
    refine va_get (D := D) (ci := 1) (v := .int (nI n)) (C := RX2) (T := TX2) (N := 8) hx hb hG wu_X2 hown hK hP 2 rfl rfl 7 (by decide) (hG _ wf_X4_138) (fun _ h9 => h9) rfl dX4_make_30 ?_
    refine lv_sipush (v := (nI 200)) hx hb dX4_make_33 (by decide) ?_
    refine ln_icmp_lt (tgt := 49) hx hb dX4_make_36 (by decide) (by omega) (by decide) (fun c36 => ?_) (fun c36 => ?_)
    · skip
      refine lv_aload_n hx hb dX4_make_49 rfl (lv_at hl 0 rfl) ?_
      refine va_get (D := D) (ci := 3) (v := .ref h2) (C := RX4) (T := TX4) (N := 6) hx hb hG wu_X4 hown hK hP 0 rfl rfl 1 (by decide) (hG _ wf_X4_20) (fun _ h9 => h9) rfl dX4_make_50 ?_
      refine lv_iload_n hx hb dX4_make_53 rfl (lv_at hl 1 rfl) ?_
      refine chV (rnV (As := [.int (nI (f + 64 * t + 4096 * k))]) (rest := []) S0 (c_X2_play l bd hCP sd rt ps n hs2 hr16 hp65 (by omega) f t k hf ht hk hct) wm_X4_118 wi_X2_play ws_X2_play wn_X2 wc_X2_play hd_X2_play ⟨rfl, rfl, by decide, by decide⟩ IW.blind (va_recv hK hP (ci := 1) (q0 := 2) rfl rfl) (IW.at hP hD hK hA hE hS) hl.1 (Nat.le_of_ble_eq_true rfl) dX4_make_54 rfl ⟨by decide, by decide⟩) hS (fun u2 H locs hu hP hD hS => ?_)
      have hC1 := hu
      have hP : va_P D classes (cW cI cJ h0 h1 h2 a0 a1 a2 a3 h3 a4 h4 a5 (bI true) (bI true) u1.2.1 u1.2.2.1 u1.2.2.2.1 u1.2.2.2.2.1 u1.2.2.2.2.2.1 u1.2.2.2.2.2.2 (nI (1 - sd)) (nI (plR bd sd rt f t)) (pI (pss (plB bd sd f t k) sd (bd f) f t)) (nI (n + 1)) u2.1 u2.2 (upd mvs n (nI (f + 64 * t + 4096 * k))) (upd los n (losE (bd (tkn bd f t)) (tkn bd f t) rt ps)) (nI (fil bd sd rt ps).length) u1.1 asz afs) H := hP
      have hD : va_D A (cW cI cJ h0 h1 h2 a0 a1 a2 a3 h3 a4 h4 a5 (bI true) (bI true) u1.2.1 u1.2.2.1 u1.2.2.2.1 u1.2.2.2.2.1 u1.2.2.2.2.2.1 u1.2.2.2.2.2.2 (nI (1 - sd)) (nI (plR bd sd rt f t)) (pI (pss (plB bd sd f t k) sd (bd f) f t)) (nI (n + 1)) u2.1 u2.2 (upd mvs n (nI (f + 64 * t + 4096 * k))) (upd los n (losE (bd (tkn bd f t)) (tkn bd f t) rt ps)) (nI (fil bd sd rt ps).length) u1.1 asz afs) := hD
      refine lv_aload_n hx hb dX4_make_57 rfl (lv_at hl 0 rfl) ?_
      refine lv_iconst (v := (nI 0)) hx hb dX4_make_58 (by decide) ?_
      refine va_put (D := D) (ci := 3) (v := .int (bI false)) (ty := .boolean) (C := RX4) (T := TX4) (N := 6) hx hb hG wu_X4 tyX4 tyX4_ok nmX4 hown hK hP hD hS 0 rfl rfl 4 (by decide) (hG _ wf_X4_31) (fun _ h9 => h9) rfl (by decide +kernel) rfl rfl (Nat.le_of_ble_eq_true rfl) dX4_make_59 (fun H locs hP hD hS => ?_)
      have hP : va_P D classes (cW cI cJ h0 h1 h2 a0 a1 a2 a3 h3 a4 h4 a5 (bI false) (bI true) u1.2.1 u1.2.2.1 u1.2.2.2.1 u1.2.2.2.2.1 u1.2.2.2.2.2.1 u1.2.2.2.2.2.2 (nI (1 - sd)) (nI (plR bd sd rt f t)) (pI (pss (plB bd sd f t k) sd (bd f) f t)) (nI (n + 1)) u2.1 u2.2 (upd mvs n (nI (f + 64 * t + 4096 * k))) (upd los n (losE (bd (tkn bd f t)) (tkn bd f t) rt ps)) (nI (fil bd sd rt ps).length) u1.1 asz afs) H := hP
      have hD : va_D A (cW cI cJ h0 h1 h2 a0 a1 a2 a3 h3 a4 h4 a5 (bI false) (bI true) u1.2.1 u1.2.2.1 u1.2.2.2.1 u1.2.2.2.2.1 u1.2.2.2.2.2.1 u1.2.2.2.2.2.2 (nI (1 - sd)) (nI (plR bd sd rt f t)) (pI (pss (plB bd sd f t k) sd (bd f) f t)) (nI (n + 1)) u2.1 u2.2 (upd mvs n (nI (f + 64 * t + 4096 * k))) (upd los n (losE (bd (tkn bd f t)) (tkn bd f t) rt ps)) (nI (fil bd sd rt ps).length) u1.1 asz afs) := hD
      refine lv_aload_n hx hb dX4_make_62 rfl (lv_at hl 0 rfl) ?_
      refine chV (rnV (As := []) (rest := []) S0 (c_X4_needList l (plB bd sd f t k) hC1 (1 - sd) (plR bd sd rt f t) (pss (plB bd sd f t k) sd (bd f) f t) (by omega) hr2 hp2 false true (fun z => absurd z (by decide)) hpl2 hlen2) wm_X4_92 wi_X4_needList ws_X4_needList wn_X4 wc_X4_needList hd_X4_needList ⟨rfl, rfl, by decide, by decide⟩ IW.blind (va_recv hK hP (ci := 3) (q0 := 0) rfl rfl) (IW.at hP hD hK hA hE hS) hl.1 (Nat.le_of_ble_eq_true rfl) dX4_make_63 rfl ⟨by decide, by decide⟩) hS (fun u3 H locs hu hP hD hS => ?_)
      have hLI2 := hu
      have hP : va_P D classes (cW cI cJ h0 h1 h2 a0 a1 a2 a3 h3 a4 h4 a5 (bI true) (bI true) u3.2.1 u3.2.2.1 u3.2.2.2.1 u3.2.2.2.2.1 u3.2.2.2.2.2.1 u3.2.2.2.2.2.2 (nI (1 - sd)) (nI (plR bd sd rt f t)) (pI (pss (plB bd sd f t k) sd (bd f) f t)) (nI (n + 1)) u2.1 u2.2 (upd mvs n (nI (f + 64 * t + 4096 * k))) (upd los n (losE (bd (tkn bd f t)) (tkn bd f t) rt ps)) (nI (fil (plB bd sd f t k) (1 - sd) (plR bd sd rt f t) (pss (plB bd sd f t k) sd (bd f) f t)).length) u3.1 asz afs) H := hP
      have hD : va_D A (cW cI cJ h0 h1 h2 a0 a1 a2 a3 h3 a4 h4 a5 (bI true) (bI true) u3.2.1 u3.2.2.1 u3.2.2.2.1 u3.2.2.2.2.1 u3.2.2.2.2.2.1 u3.2.2.2.2.2.2 (nI (1 - sd)) (nI (plR bd sd rt f t)) (pI (pss (plB bd sd f t k) sd (bd f) f t)) (nI (n + 1)) u2.1 u2.2 (upd mvs n (nI (f + 64 * t + 4096 * k))) (upd los n (losE (bd (tkn bd f t)) (tkn bd f t) rt ps)) (nI (fil (plB bd sd f t k) (1 - sd) (plR bd sd rt f t) (pss (plB bd sd f t k) sd (bd f) f t)).length) u3.1 asz afs) := hD
      refine lv_aload_n hx hb dX4_make_66 rfl (lv_at hl 0 rfl) ?_
      refine va_get (D := D) (ci := 3) (v := .ref h3) (C := RX4) (T := TX4) (N := 6) hx hb hG wu_X4 hown hK hP 0 rfl rfl 2 (by decide) (hG _ wf_X4_24) (fun _ h9 => h9) rfl dX4_make_67 ?_
      refine va_get (D := D) (ci := 0) (v := .int (nI ((fil (plB bd sd f t k) (1 - sd) (plR bd sd rt f t) (pss (plB bd sd f t k) sd (bd f) f t)).length))) (C := RX1) (T := TX1) (N := 2) hx hb hG wu_X1 hown hK hP 7 rfl rfl 1 (by decide) (hG _ wf_X4_95) (fun _ h9 => h9) rfl dX4_make_70 ?_
      exact weI ((u2.1, u2.2, (upd mvs n (nI (f + 64 * t + 4096 * k))), (upd los n (losE (bd (tkn bd f t)) (tkn bd f t) rt ps)), u3.1, u3.2.1, u3.2.2.1, u3.2.2.2.1, u3.2.2.2.2.1, u3.2.2.2.2.2.1, u3.2.2.2.2.2.2)) hx hb hr hlocks dX4_make_73 ⟨rfl, hC1, rfl, rfl, hLI2⟩ hP hD hK hA hE hS
    · skip
      exact absurd c36 (by omega)
  · skip
    exact absurd c13 hin
theorem dX4_countBehind_0 : decode cX4_countBehind 0 = .ok (.lconst 0, 1) := by decide +kernel
theorem dX4_countBehind_1 : decode cX4_countBehind 1 = .ok (.lstore_n 3, 1) := by decide +kernel
theorem dX4_countBehind_2 : decode cX4_countBehind 2 = .ok (.iconst 0, 1) := by decide +kernel
theorem dX4_countBehind_3 : decode cX4_countBehind 3 = .ok (.istore 5, 2) := by decide +kernel
theorem dX4_countBehind_5 : decode cX4_countBehind 5 = .ok (.iload 5, 2) := by decide +kernel
theorem dX4_countBehind_7 : decode cX4_countBehind 7 = .ok (.aload_n 1, 1) := by decide +kernel
theorem dX4_countBehind_8 : decode cX4_countBehind 8 = .ok (.getfield 95, 3) := by decide +kernel
theorem dX4_countBehind_11 : decode cX4_countBehind 11 = .ok (.if_icmp .ge 72, 3) := by decide +kernel
theorem dX4_countBehind_14 : decode cX4_countBehind 14 = .ok (.aload_n 0, 1) := by decide +kernel
theorem dX4_countBehind_15 : decode cX4_countBehind 15 = .ok (.getfield 20, 3) := by decide +kernel
theorem dX4_countBehind_18 : decode cX4_countBehind 18 = .ok (.aload_n 1, 1) := by decide +kernel
theorem dX4_countBehind_19 : decode cX4_countBehind 19 = .ok (.iload 5, 2) := by decide +kernel
theorem dX4_countBehind_21 : decode cX4_countBehind 21 = .ok (.invokevirtual 100, 3) := by decide +kernel
theorem dX4_countBehind_24 : decode cX4_countBehind 24 = .ok (.invokevirtual 118, 3) := by decide +kernel
theorem dX4_countBehind_27 : decode cX4_countBehind 27 = .ok (.iload_n 2, 1) := by decide +kernel
theorem dX4_countBehind_28 : decode cX4_countBehind 28 = .ok (.iconst 1, 1) := by decide +kernel
theorem dX4_countBehind_29 : decode cX4_countBehind 29 = .ok (.if_icmp .le 29, 3) := by decide +kernel
theorem dX4_countBehind_32 : decode cX4_countBehind 32 = .ok (.aload_n 0, 1) := by decide +kernel
theorem dX4_countBehind_33 : decode cX4_countBehind 33 = .ok (.getfield 12, 3) := by decide +kernel
theorem dX4_countBehind_36 : decode cX4_countBehind 36 = .ok (.aload_n 0, 1) := by decide +kernel
theorem dX4_countBehind_37 : decode cX4_countBehind 37 = .ok (.getfield 28, 3) := by decide +kernel
theorem dX4_countBehind_40 : decode cX4_countBehind 40 = .ok (.invokevirtual 153, 3) := by decide +kernel
theorem dX4_countBehind_43 : decode cX4_countBehind 43 = .ok (.lload_n 3, 1) := by decide +kernel
theorem dX4_countBehind_44 : decode cX4_countBehind 44 = .ok (.aload_n 0, 1) := by decide +kernel
theorem dX4_countBehind_45 : decode cX4_countBehind 45 = .ok (.aload_n 0, 1) := by decide +kernel
theorem dX4_countBehind_46 : decode cX4_countBehind 46 = .ok (.getfield 28, 3) := by decide +kernel
theorem dX4_countBehind_49 : decode cX4_countBehind 49 = .ok (.iconst 1, 1) := by decide +kernel
theorem dX4_countBehind_50 : decode cX4_countBehind 50 = .ok (.invokevirtual 134, 3) := by decide +kernel
theorem dX4_countBehind_53 : decode cX4_countBehind 53 = .ok (.ladd, 1) := by decide +kernel
theorem dX4_countBehind_54 : decode cX4_countBehind 54 = .ok (.lstore_n 3, 1) := by decide +kernel
theorem dX4_countBehind_55 : decode cX4_countBehind 55 = .ok (.goto 14, 3) := by decide +kernel
theorem dX4_countBehind_58 : decode cX4_countBehind 58 = .ok (.lload_n 3, 1) := by decide +kernel
theorem dX4_countBehind_59 : decode cX4_countBehind 59 = .ok (.aload_n 0, 1) := by decide +kernel
theorem dX4_countBehind_60 : decode cX4_countBehind 60 = .ok (.getfield 12, 3) := by decide +kernel
theorem dX4_countBehind_63 : decode cX4_countBehind 63 = .ok (.invokevirtual 125, 3) := by decide +kernel
theorem dX4_countBehind_66 : decode cX4_countBehind 66 = .ok (.i2l, 1) := by decide +kernel
theorem dX4_countBehind_67 : decode cX4_countBehind 67 = .ok (.ladd, 1) := by decide +kernel
theorem dX4_countBehind_68 : decode cX4_countBehind 68 = .ok (.lstore_n 3, 1) := by decide +kernel
theorem dX4_countBehind_69 : decode cX4_countBehind 69 = .ok (.aload_n 0, 1) := by decide +kernel
theorem dX4_countBehind_70 : decode cX4_countBehind 70 = .ok (.getfield 20, 3) := by decide +kernel
theorem dX4_countBehind_73 : decode cX4_countBehind 73 = .ok (.invokevirtual 129, 3) := by decide +kernel
theorem dX4_countBehind_76 : decode cX4_countBehind 76 = .ok (.pop, 1) := by decide +kernel
theorem dX4_countBehind_77 : decode cX4_countBehind 77 = .ok (.iinc 5 1, 3) := by decide +kernel
theorem dX4_countBehind_80 : decode cX4_countBehind 80 = .ok (.goto (-75), 3) := by decide +kernel
theorem dX4_countBehind_83 : decode cX4_countBehind 83 = .ok (.lload_n 3, 1) := by decide +kernel
theorem dX4_countBehind_84 : decode cX4_countBehind 84 = .ok (.lreturn, 1) := by decide +kernel
theorem hd_X4_countBehind : yX4_countBehind.cls ≠ "java/lang/invoke/MethodHandle" ∧ yX4_countBehind.cls ≠ "java/lang/invoke/VarHandle" ∧ (parseMethodDescriptor yX4_countBehind.desc).map (fun d => d.parameters.length) = some 2 := by decide +kernel
set_option maxHeartbeats 4000000 in
set_option maxRecDepth 100000 in
/-- countBehind, depth 1 -/
theorem c_X4_countBehind_L1 (l : Launch) {D : va_G} {cI cJ : ClassId} {A : Nat → Prop} {h0 h1 h2 a0 a1 a2 a3 h3 a4 h4 a5 : Nat} {kn op : Int32} {ow tr fu kg co pn : Int64} {pcs : Nat → Int32} {sqa : Nat → Int64} {mvs los : Nat → Int32} {lfs : Nat → Int32} {asz : Int32} {afs : Nat → Int32} (bd : Nat → Nat) (hCP : CP pcs sqa bd) (sd rt ps : Nat) (hs2 : sd < 2) (hr16 : rt < 16) (hp65 : ps < 65) (n : Nat) (hn : n ≤ 202) (L : List Nat) (hL : LI lfs L) (hlen : L.length ≤ 700) (hall : ∀ y ∈ L, GMy bd sd y) : Met l yX4_countBehind (Cond.code yX4_countBehind cX4_countBehind 6 (some .long) :: wsL_law) (rK 5) (va_Pc [.ref h0, .ref h3, .int (nI 1)] (IW D cI cJ A (cW cI cJ h0 h1 h2 a0 a1 a2 a3 h3 a4 h4 a5 kn op ow tr fu kg co pn (nI sd) (nI rt) (pI ps) (nI n) pcs sqa mvs los (nI L.length) lfs asz afs))) (va_Ql (fun r u => r = lN (L.map (cb1 bd sd rt)).sum ∧ CP u.1 u.2.1 bd ∧ ∀ j, j < n → u.2.2.1 j = mvs j ∧ u.2.2.2.1 j = los j) (fun (u : (Nat → Int32) × (Nat → Int64) × (Nat → Int32) × (Nat → Int32) × Int64 × Int64 × Int64 × Int64 × Int64 × Int64) t9 => IW D cI cJ A (cW cI cJ h0 h1 h2 a0 a1 a2 a3 h3 a4 h4 a5 kn op u.2.2.2.2.1 u.2.2.2.2.2.1 u.2.2.2.2.2.2.1 u.2.2.2.2.2.2.2.1 u.2.2.2.2.2.2.2.2.1 u.2.2.2.2.2.2.2.2.2 (nI sd) (nI rt) (pI ps) (nI n) u.1 u.2.1 u.2.2.1 u.2.2.2.1 (nI L.length) lfs asz afs) t9) A) 0 0 A := by
  refine entM (by decide) (Nat.le_of_ble_eq_true rfl) ?_
  intro p e s m below meth c ls S0 hr hlocks hG hnm hB hl
  have hx := S0.1
  have hb := S0.2.1
  have hown := S0.2.2.2.1
  have hl : lv_has ls 6 [(0, .ref h0), (1, .ref h3), (2, .int (nI 1))] := hl
  obtain ⟨hP, hD, hK, hA, hE⟩ := hB
  have hS : va_S A s.heap s.heap [] := va_S.rf
  have hss : 1 - (1 - sd) = sd := by omega
  refine lv_lconst (v := 0) hx hb dX4_countBehind_0 (by decide) ?_
  refine W.top (y := .long (lN (smT L (cb1 bd sd rt) 0))) (congrArg Value.long rfl) ?_
  refine lv_lstore_n (lv' := [(3, .long (lN (smT L (cb1 bd sd rt) 0))), (0, .ref h0), (1, .ref h3), (2, .int (nI 1))]) hx hb dX4_countBehind_1 rfl hl (by decide) rfl (fun ls hl => ?_)
  refine lv_iconst (v := (nI 0)) hx hb dX4_countBehind_2 (by decide) ?_
  refine lv_istore (lv' := [(5, .int (nI 0)), (3, .long (lN (smT L (cb1 bd sd rt) 0))), (0, .ref h0), (1, .ref h3), (2, .int (nI 1))]) hx hb dX4_countBehind_3 hl (by decide) rfl (fun ls hl => ?_)
  refine lpW (σ := (Nat) × (Nat → Int32) × (Nat → Int64) × (Nat → Int32) × (Nat → Int32) × (Int64) × (Int64) × (Int64) × (Int64) × (Int64) × (Int64)) 5 6 [] (fun x9 => [(0, .ref h0), (1, .ref h3), (2, .int (nI 1)), (3, .long (lN (smT L (cb1 bd sd rt) x9.1))), (5, .int (nI x9.1))]) (fun x9 => cW cI cJ h0 h1 h2 a0 a1 a2 a3 h3 a4 h4 a5 kn op x9.2.2.2.2.2.1 x9.2.2.2.2.2.2.1 x9.2.2.2.2.2.2.2.1 x9.2.2.2.2.2.2.2.2.1 x9.2.2.2.2.2.2.2.2.2.1 x9.2.2.2.2.2.2.2.2.2.2 (nI sd) (nI rt) (pI ps) (nI n) x9.2.1 x9.2.2.1 x9.2.2.2.1 x9.2.2.2.2.1 (nI L.length) lfs asz afs) (fun x9 => x9.1 ≤ L.length ∧ CP x9.2.1 x9.2.2.1 bd ∧ ∀ j, j < n → x9.2.2.2.1 j = mvs j ∧ x9.2.2.2.2.1 j = los j) (fun x9 => L.length - x9.1) (0, pcs, sqa, mvs, los, ow, tr, fu, kg, co, pn) ⟨Nat.zero_le _, hCP, fun _ _ => ⟨rfl, rfl⟩⟩ (lv_sub hl [2, 3, 4, 1, 0] rfl) hP hD hS ?_
  clear hP hD hS hl ls
  rintro ⟨i, p9, q9, m9, o9, ow9, tr9, fu9, kg9, co9, pn9⟩ H locs hI hP hD hS ih_5 ls hl
  try dsimp only at hI ih_5 hl hP hD
  clear hCP
  obtain ⟨hi, hCP, hkeep⟩ := hI
  refine lv_iload hx hb dX4_countBehind_5 (lv_at hl 4 rfl) ?_
  refine lv_aload_n hx hb dX4_countBehind_7 rfl (lv_at hl 1 rfl) ?_
  refine va_get (D := D) (ci := 0) (v := .int (nI L.length)) (C := RX1) (T := TX1) (N := 2) hx hb hG wu_X1 hown hK hP 7 rfl rfl 1 (by decide) (hG _ wf_X4_95) (fun _ h9 => h9) rfl dX4_countBehind_8 ?_
  refine ln_icmp_ge (tgt := 83) hx hb dX4_countBehind_11 (by decide) (by omega) (by omega) (fun c11 => ?_) (fun c11 => ?_)
  · skip
    refine lv_lload_n hx hb dX4_countBehind_83 rfl (lv_at hl 3 rfl) ?_
    exact weL ((p9, q9, m9, o9, ow9, tr9, fu9, kg9, co9, pn9)) hx hb hr hlocks dX4_countBehind_84 ⟨by rw [show i = L.length by omega, smT_all], hCP, hkeep⟩ hP hD hK hA hE hS
  · skip
    have hi2 : i < L.length := by omega
    obtain ⟨f, t, k, hy, hGM⟩ := hall _ (getD_mem hi2)
    obtain ⟨hf, ht, hk, hct, hct2, hid⟩ := hGM
    obtain ⟨y1, y2, y3, -, -⟩ := nB_e (bd := bd) (sd := sd) (ps := ps) hf ht hy
    have hr2 := plR_lt (bd := bd) (sd := sd) (f := f) (t := t) hr16
    have hp2 := pss_lt (g := (plB bd sd f t k)) (sd := sd) (k := bd f) hf ht
    have htl := tly_le (plB bd sd f t k) (1 - sd) (plR bd sd rt f t) (pss (plB bd sd f t k) sd (bd f) f t)
    refine lv_aload_n hx hb dX4_countBehind_14 rfl (lv_at hl 0 rfl) ?_
    refine va_get (D := D) (ci := 3) (v := .ref h2) (C := RX4) (T := TX4) (N := 6) hx hb hG wu_X4 hown hK hP 0 rfl rfl 1 (by decide) (hG _ wf_X4_20) (fun _ h9 => h9) rfl dX4_countBehind_15 ?_
    refine lv_aload_n hx hb dX4_countBehind_18 rfl (lv_at hl 1 rfl) ?_
    refine lv_iload hx hb dX4_countBehind_19 (lv_at hl 4 rfl) ?_
    refine roI (rnV (As := [.int (nI i)]) (rest := [.ref h2]) S0 (c_X1_get l L.length i (by omega) (by omega)) wm_X4_100 wi_X1_get ws_X1_get wn_X1 wc_X1_get hd_X1_get ⟨rfl, rfl, by decide, by decide⟩ IW.blind (va_recv hK hP (ci := 0) (q0 := 7) rfl rfl) (IW.at (ws := mW cI h3 a4 (nI L.length) lfs) (hP.sub [7, 8] rfl) (hD.sub [7, 8] (by decide) rfl) hK hA hE hS) hl.1 (Nat.le_of_ble_eq_true rfl) dX4_countBehind_21 rfl ⟨by decide, by decide⟩) (fun r_1 hr_1 => ?_)
    subst hr_1
    refine W.top (y := .int (nI (f + 64 * t + 4096 * k))) (congrArg Value.int ((hL i hi2).trans (congrArg nI hy))) ?_
    refine chV (rnV (As := [.int (nI (f + 64 * t + 4096 * k))]) (rest := []) S0 (c_X2_play l bd hCP sd rt ps n hs2 hr16 hp65 (by omega) f t k hf ht hk hct) wm_X4_118 wi_X2_play ws_X2_play wn_X2 wc_X2_play hd_X2_play ⟨rfl, rfl, by decide, by decide⟩ IW.blind (va_recv hK hP (ci := 1) (q0 := 2) rfl rfl) (IW.at hP hD hK hA hE hS) hl.1 (Nat.le_of_ble_eq_true rfl) dX4_countBehind_24 rfl ⟨by decide, by decide⟩) hS (fun u2 H locs hu hP hD hS => ?_)
    have hC1 := hu
    have hP : va_P D classes (cW cI cJ h0 h1 h2 a0 a1 a2 a3 h3 a4 h4 a5 kn op ow9 tr9 fu9 kg9 co9 pn9 (nI (1 - sd)) (nI (plR bd sd rt f t)) (pI (pss (plB bd sd f t k) sd (bd f) f t)) (nI (n + 1)) u2.1 u2.2 (upd m9 n (nI (f + 64 * t + 4096 * k))) (upd o9 n (losE (bd (tkn bd f t)) (tkn bd f t) rt ps)) (nI L.length) lfs asz afs) H := hP
    have hD : va_D A (cW cI cJ h0 h1 h2 a0 a1 a2 a3 h3 a4 h4 a5 kn op ow9 tr9 fu9 kg9 co9 pn9 (nI (1 - sd)) (nI (plR bd sd rt f t)) (pI (pss (plB bd sd f t k) sd (bd f) f t)) (nI (n + 1)) u2.1 u2.2 (upd m9 n (nI (f + 64 * t + 4096 * k))) (upd o9 n (losE (bd (tkn bd f t)) (tkn bd f t) rt ps)) (nI L.length) lfs asz afs) := hD
    refine lv_iload_n hx hb dX4_countBehind_27 rfl (lv_at hl 2 rfl) ?_
    refine lv_iconst (v := (nI 1)) hx hb dX4_countBehind_28 (by decide) ?_
    refine ln_icmp_le (tgt := 58) hx hb dX4_countBehind_29 (by decide) (by decide) (by decide) (fun c29 => ?_) (fun c29 => ?_)
    · skip
      refine lv_lload_n hx hb dX4_countBehind_58 rfl (lv_at hl 3 rfl) ?_
      refine lv_aload_n hx hb dX4_countBehind_59 rfl (lv_at hl 0 rfl) ?_
      refine va_get (D := D) (ci := 3) (v := .ref h1) (C := RX4) (T := TX4) (N := 6) hx hb hG wu_X4 hown hK hP 0 rfl rfl 0 (by decide) (hG _ wf_X4_12) (fun _ h9 => h9) rfl dX4_countBehind_60 ?_
      refine chI (rnV (As := []) (rest := [.long (lN (smT L (cb1 bd sd rt) i))]) S0 (c_X3_tally l (plB bd sd f t k) hC1 (1 - sd) (plR bd sd rt f t) (pss (plB bd sd f t k) sd (bd f) f t) (by omega) hr2 hp2) wm_X4_125 wi_X3_tally ws_X3_tally wn_X3 wc_X3_tally hd_X3_tally ⟨rfl, rfl, by decide, by decide⟩ IW.blind (va_recv hK hP (ci := 2) (q0 := 1) rfl rfl) (IW.at hP hD hK hA hE hS) hl.1 (Nat.le_of_ble_eq_true rfl) dX4_countBehind_63 rfl ⟨by decide, by decide⟩) hS (fun r_3 u3 H locs hu hP hD hS => ?_)
      subst hu
      have hP : va_P D classes (cW cI cJ h0 h1 h2 a0 a1 a2 a3 h3 a4 h4 a5 kn op (ownS (plB bd sd f t k) (1 - sd)) (thrS (plB bd sd f t k) (1 - sd)) (fulS (plB bd sd f t k) (1 - sd)) (kngS (plB bd sd f t k) (1 - sd)) (covS (plB bd sd f t k) (1 - sd)) (pinS (plB bd sd f t k) (1 - sd)) (nI (1 - sd)) (nI (plR bd sd rt f t)) (pI (pss (plB bd sd f t k) sd (bd f) f t)) (nI (n + 1)) u2.1 u2.2 (upd m9 n (nI (f + 64 * t + 4096 * k))) (upd o9 n (losE (bd (tkn bd f t)) (tkn bd f t) rt ps)) (nI L.length) lfs asz afs) H := hP
      have hD : va_D A (cW cI cJ h0 h1 h2 a0 a1 a2 a3 h3 a4 h4 a5 kn op (ownS (plB bd sd f t k) (1 - sd)) (thrS (plB bd sd f t k) (1 - sd)) (fulS (plB bd sd f t k) (1 - sd)) (kngS (plB bd sd f t k) (1 - sd)) (covS (plB bd sd f t k) (1 - sd)) (pinS (plB bd sd f t k) (1 - sd)) (nI (1 - sd)) (nI (plR bd sd rt f t)) (pI (pss (plB bd sd f t k) sd (bd f) f t)) (nI (n + 1)) u2.1 u2.2 (upd m9 n (nI (f + 64 * t + 4096 * k))) (upd o9 n (losE (bd (tkn bd f t)) (tkn bd f t) rt ps)) (nI L.length) lfs asz afs) := hD
      refine lv_i2l hx hb dX4_countBehind_66 rfl ?_
      refine W.top (y := .long (lN (tly (plB bd sd f t k) (1 - sd) (plR bd sd rt f t) (pss (plB bd sd f t k) sd (bd f) f t)))) (congrArg Value.long (nI_l (by omega))) ?_
      refine lv_ladd hx hb dX4_countBehind_67 ?_
      refine W.top (y := .long (lN (smT L (cb1 bd sd rt) (i + 1)))) (congrArg Value.long (by rw [lN_add, smT_s hi2]; unfold cb1; rw [y1, y2, y3])) ?_
      refine lv_lstore_n (lv' := [(3, .long (lN (smT L (cb1 bd sd rt) (i + 1)))), (0, .ref h0), (1, .ref h3), (2, .int (nI 1)), (5, .int (nI i))]) hx hb dX4_countBehind_68 rfl hl (by decide) rfl (fun ls hl => ?_)
      refine lv_aload_n hx hb dX4_countBehind_69 rfl (lv_at hl 1 rfl) ?_
      refine va_get (D := D) (ci := 3) (v := .ref h2) (C := RX4) (T := TX4) (N := 6) hx hb hG wu_X4 hown hK hP 0 rfl rfl 1 (by decide) (hG _ wf_X4_20) (fun _ h9 => h9) rfl dX4_countBehind_70 ?_
      refine chI (rnV (As := []) (rest := []) S0 (c_X2_takeBack l (plB bd sd f t k) hC1 (1 - sd) rt ps n (tkn bd f t) (bd (tkn bd f t)) (by omega) hr16 hp65 (by omega) (tkn_lt hf ht) (hCP.1 _ (tkn_lt hf ht)).2 f t k hf ht hk pk_us pk_us (by rw [hss]; exact hct2)) wm_X4_129 wi_X2_takeBack ws_X2_takeBack wn_X2 wc_X2_takeBack hd_X2_takeBack ⟨rfl, rfl, by decide, by decide⟩ IW.blind (va_recv hK hP (ci := 1) (q0 := 2) rfl rfl) (IW.at hP hD hK hA hE hS) hl.1 (Nat.le_of_ble_eq_true rfl) dX4_countBehind_73 rfl ⟨by decide, by decide⟩) hS (fun r_4 u4 H locs hu hP hD hS => ?_)
      obtain ⟨he9, hC2⟩ := hu
      subst he9
      have hP : va_P D classes (cW cI cJ h0 h1 h2 a0 a1 a2 a3 h3 a4 h4 a5 kn op (ownS (plB bd sd f t k) (1 - sd)) (thrS (plB bd sd f t k) (1 - sd)) (fulS (plB bd sd f t k) (1 - sd)) (kngS (plB bd sd f t k) (1 - sd)) (covS (plB bd sd f t k) (1 - sd)) (pinS (plB bd sd f t k) (1 - sd)) (nI (1 - (1 - sd))) (nI rt) (pI ps) (nI n) u4.1 u4.2 (upd m9 n (nI (f + 64 * t + 4096 * k))) (upd o9 n (losE (bd (tkn bd f t)) (tkn bd f t) rt ps)) (nI L.length) lfs asz afs) H := hP
      have hD : va_D A (cW cI cJ h0 h1 h2 a0 a1 a2 a3 h3 a4 h4 a5 kn op (ownS (plB bd sd f t k) (1 - sd)) (thrS (plB bd sd f t k) (1 - sd)) (fulS (plB bd sd f t k) (1 - sd)) (kngS (plB bd sd f t k) (1 - sd)) (covS (plB bd sd f t k) (1 - sd)) (pinS (plB bd sd f t k) (1 - sd)) (nI (1 - (1 - sd))) (nI rt) (pI ps) (nI n) u4.1 u4.2 (upd m9 n (nI (f + 64 * t + 4096 * k))) (upd o9 n (losE (bd (tkn bd f t)) (tkn bd f t) rt ps)) (nI L.length) lfs asz afs) := hD
      have hC3 : CP _ _ bd := CP_congr (by rw [hss]; exact hid) hC2
      rw [hss] at hP hD
      have hP : va_P D classes (cW cI cJ h0 h1 h2 a0 a1 a2 a3 h3 a4 h4 a5 kn op (ownS (plB bd sd f t k) (1 - sd)) (thrS (plB bd sd f t k) (1 - sd)) (fulS (plB bd sd f t k) (1 - sd)) (kngS (plB bd sd f t k) (1 - sd)) (covS (plB bd sd f t k) (1 - sd)) (pinS (plB bd sd f t k) (1 - sd)) (nI sd) (nI rt) (pI ps) (nI n) u4.1 u4.2 (upd m9 n (nI (f + 64 * t + 4096 * k))) (upd o9 n (losE (bd (tkn bd f t)) (tkn bd f t) rt ps)) (nI L.length) lfs asz afs) H := hP
      have hD : va_D A (cW cI cJ h0 h1 h2 a0 a1 a2 a3 h3 a4 h4 a5 kn op (ownS (plB bd sd f t k) (1 - sd)) (thrS (plB bd sd f t k) (1 - sd)) (fulS (plB bd sd f t k) (1 - sd)) (kngS (plB bd sd f t k) (1 - sd)) (covS (plB bd sd f t k) (1 - sd)) (pinS (plB bd sd f t k) (1 - sd)) (nI sd) (nI rt) (pI ps) (nI n) u4.1 u4.2 (upd m9 n (nI (f + 64 * t + 4096 * k))) (upd o9 n (losE (bd (tkn bd f t)) (tkn bd f t) rt ps)) (nI L.length) lfs asz afs) := hD
      refine lv_pop hx hb dX4_countBehind_76 rfl ?_
      refine lv_iinc (v := (nI (i + 1))) (lv' := [(5, .int (nI (i + 1))), (3, .long (lN (smT L (cb1 bd sd rt) (i + 1)))), (0, .ref h0), (1, .ref h3), (2, .int (nI 1))]) hx hb dX4_countBehind_77 hl (k := 4) rfl (show nI i + Int32.ofInt 1 = nI (i + 1) from nI_add _ 1) (by decide) rfl (fun ls hl => ?_)
      refine lv_goto (tgt := 5) hx hb dX4_countBehind_80 (by decide) ?_
      exact ih_5 ((i + 1), u4.1, u4.2, (upd m9 n (nI (f + 64 * t + 4096 * k))), (upd o9 n (losE (bd (tkn bd f t)) (tkn bd f t) rt ps)), (ownS (plB bd sd f t k) (1 - sd)), (thrS (plB bd sd f t k) (1 - sd)), (fulS (plB bd sd f t k) (1 - sd)), (kngS (plB bd sd f t k) (1 - sd)), (covS (plB bd sd f t k) (1 - sd)), (pinS (plB bd sd f t k) (1 - sd))) _ _ ⟨by omega, hC3, fun j hj => ⟨(pk_un (by omega)).trans (hkeep j hj).1, (pk_un (by omega)).trans (hkeep j hj).2⟩⟩ (by (try dsimp only); omega) hP hD hS ls (lv_sub hl [2, 3, 4, 1, 0] rfl)
    · skip
      exact absurd c29 (by omega)
set_option maxHeartbeats 4000000 in
set_option maxRecDepth 100000 in
/-- countBehind, depth 1 -/
theorem c_X4_countBehind_A1 (l : Launch) {D : va_G} {cI cJ : ClassId} {A : Nat → Prop} {h0 h1 h2 a0 a1 a2 a3 h3 a4 h4 a5 : Nat} {kn op : Int32} {ow tr fu kg co pn : Int64} {pcs : Nat → Int32} {sqa : Nat → Int64} {mvs los : Nat → Int32} {lsz : Int32} {lfs : Nat → Int32} {afs : Nat → Int32} (bd : Nat → Nat) (hCP : CP pcs sqa bd) (sd rt ps : Nat) (hs2 : sd < 2) (hr16 : rt < 16) (hp65 : ps < 65) (n : Nat) (hn : n ≤ 202) (L : List Nat) (hL : LI afs L) (hlen : L.length ≤ 700) (hall : ∀ y ∈ L, GMy bd sd y) : Met l yX4_countBehind (Cond.code yX4_countBehind cX4_countBehind 6 (some .long) :: wsL_law) (rK 5) (va_Pc [.ref h0, .ref h4, .int (nI 1)] (IW D cI cJ A (cW cI cJ h0 h1 h2 a0 a1 a2 a3 h3 a4 h4 a5 kn op ow tr fu kg co pn (nI sd) (nI rt) (pI ps) (nI n) pcs sqa mvs los lsz lfs (nI L.length) afs))) (va_Ql (fun r u => r = lN (L.map (cb1 bd sd rt)).sum ∧ CP u.1 u.2.1 bd ∧ ∀ j, j < n → u.2.2.1 j = mvs j ∧ u.2.2.2.1 j = los j) (fun (u : (Nat → Int32) × (Nat → Int64) × (Nat → Int32) × (Nat → Int32) × Int64 × Int64 × Int64 × Int64 × Int64 × Int64) t9 => IW D cI cJ A (cW cI cJ h0 h1 h2 a0 a1 a2 a3 h3 a4 h4 a5 kn op u.2.2.2.2.1 u.2.2.2.2.2.1 u.2.2.2.2.2.2.1 u.2.2.2.2.2.2.2.1 u.2.2.2.2.2.2.2.2.1 u.2.2.2.2.2.2.2.2.2 (nI sd) (nI rt) (pI ps) (nI n) u.1 u.2.1 u.2.2.1 u.2.2.2.1 lsz lfs (nI L.length) afs) t9) A) 0 0 A := by
  refine entM (by decide) (Nat.le_of_ble_eq_true rfl) ?_
  intro p e s m below meth c ls S0 hr hlocks hG hnm hB hl
  have hx := S0.1
  have hb := S0.2.1
  have hown := S0.2.2.2.1
  have hl : lv_has ls 6 [(0, .ref h0), (1, .ref h4), (2, .int (nI 1))] := hl
  obtain ⟨hP, hD, hK, hA, hE⟩ := hB
  have hS : va_S A s.heap s.heap [] := va_S.rf
  have hss : 1 - (1 - sd) = sd := by omega
  refine lv_lconst (v := 0) hx hb dX4_countBehind_0 (by decide) ?_
  refine W.top (y := .long (lN (smT L (cb1 bd sd rt) 0))) (congrArg Value.long rfl) ?_
  refine lv_lstore_n (lv' := [(3, .long (lN (smT L (cb1 bd sd rt) 0))), (0, .ref h0), (1, .ref h4), (2, .int (nI 1))]) hx hb dX4_countBehind_1 rfl hl (by decide) rfl (fun ls hl => ?_)
  refine lv_iconst (v := (nI 0)) hx hb dX4_countBehind_2 (by decide) ?_
  refine lv_istore (lv' := [(5, .int (nI 0)), (3, .long (lN (smT L (cb1 bd sd rt) 0))), (0, .ref h0), (1, .ref h4), (2, .int (nI 1))]) hx hb dX4_countBehind_3 hl (by decide) rfl (fun ls hl => ?_)
  refine lpW (σ := (Nat) × (Nat → Int32) × (Nat → Int64) × (Nat → Int32) × (Nat → Int32) × (Int64) × (Int64) × (Int64) × (Int64) × (Int64) × (Int64)) 5 6 [] (fun x9 => [(0, .ref h0), (1, .ref h4), (2, .int (nI 1)), (3, .long (lN (smT L (cb1 bd sd rt) x9.1))), (5, .int (nI x9.1))]) (fun x9 => cW cI cJ h0 h1 h2 a0 a1 a2 a3 h3 a4 h4 a5 kn op x9.2.2.2.2.2.1 x9.2.2.2.2.2.2.1 x9.2.2.2.2.2.2.2.1 x9.2.2.2.2.2.2.2.2.1 x9.2.2.2.2.2.2.2.2.2.1 x9.2.2.2.2.2.2.2.2.2.2 (nI sd) (nI rt) (pI ps) (nI n) x9.2.1 x9.2.2.1 x9.2.2.2.1 x9.2.2.2.2.1 lsz lfs (nI L.length) afs) (fun x9 => x9.1 ≤ L.length ∧ CP x9.2.1 x9.2.2.1 bd ∧ ∀ j, j < n → x9.2.2.2.1 j = mvs j ∧ x9.2.2.2.2.1 j = los j) (fun x9 => L.length - x9.1) (0, pcs, sqa, mvs, los, ow, tr, fu, kg, co, pn) ⟨Nat.zero_le _, hCP, fun _ _ => ⟨rfl, rfl⟩⟩ (lv_sub hl [2, 3, 4, 1, 0] rfl) hP hD hS ?_
  clear hP hD hS hl ls
  rintro ⟨i, p9, q9, m9, o9, ow9, tr9, fu9, kg9, co9, pn9⟩ H locs hI hP hD hS ih_5 ls hl
  try dsimp only at hI ih_5 hl hP hD
  clear hCP
  obtain ⟨hi, hCP, hkeep⟩ := hI
  refine lv_iload hx hb dX4_countBehind_5 (lv_at hl 4 rfl) ?_
  refine lv_aload_n hx hb dX4_countBehind_7 rfl (lv_at hl 1 rfl) ?_
  refine va_get (D := D) (ci := 0) (v := .int (nI L.length)) (C := RX1) (T := TX1) (N := 2) hx hb hG wu_X1 hown hK hP 9 rfl rfl 1 (by decide) (hG _ wf_X4_95) (fun _ h9 => h9) rfl dX4_countBehind_8 ?_
  refine ln_icmp_ge (tgt := 83) hx hb dX4_countBehind_11 (by decide) (by omega) (by omega) (fun c11 => ?_) (fun c11 => ?_)
  · skip
    refine lv_lload_n hx hb dX4_countBehind_83 rfl (lv_at hl 3 rfl) ?_
    exact weL ((p9, q9, m9, o9, ow9, tr9, fu9, kg9, co9, pn9)) hx hb hr hlocks dX4_countBehind_84 ⟨by rw [show i = L.length by omega, smT_all], hCP, hkeep⟩ hP hD hK hA hE hS
  · skip
    have hi2 : i < L.length := by omega
    obtain ⟨f, t, k, hy, hGM⟩ := hall _ (getD_mem hi2)
    obtain ⟨hf, ht, hk, hct, hct2, hid⟩ := hGM
    obtain ⟨y1, y2, y3, -, -⟩ := nB_e (bd := bd) (sd := sd) (ps := ps) hf ht hy
    have hr2 := plR_lt (bd := bd) (sd := sd) (f := f) (t := t) hr16
    have hp2 := pss_lt (g := (plB bd sd f t k)) (sd := sd) (k := bd f) hf ht
    have htl := tly_le (plB bd sd f t k) (1 - sd) (plR bd sd rt f t) (pss (plB bd sd f t k) sd (bd f) f t)
    refine lv_aload_n hx hb dX4_countBehind_14 rfl (lv_at hl 0 rfl) ?_
    refine va_get (D := D) (ci := 3) (v := .ref h2) (C := RX4) (T := TX4) (N := 6) hx hb hG wu_X4 hown hK hP 0 rfl rfl 1 (by decide) (hG _ wf_X4_20) (fun _ h9 => h9) rfl dX4_countBehind_15 ?_
    refine lv_aload_n hx hb dX4_countBehind_18 rfl (lv_at hl 1 rfl) ?_
    refine lv_iload hx hb dX4_countBehind_19 (lv_at hl 4 rfl) ?_
    refine roI (rnV (As := [.int (nI i)]) (rest := [.ref h2]) S0 (c_X1_get l L.length i (by omega) (by omega)) wm_X4_100 wi_X1_get ws_X1_get wn_X1 wc_X1_get hd_X1_get ⟨rfl, rfl, by decide, by decide⟩ IW.blind (va_recv hK hP (ci := 0) (q0 := 9) rfl rfl) (IW.at (ws := mW cI h4 a5 (nI L.length) afs) (hP.sub [9, 10] rfl) (hD.sub [9, 10] (by decide) rfl) hK hA hE hS) hl.1 (Nat.le_of_ble_eq_true rfl) dX4_countBehind_21 rfl ⟨by decide, by decide⟩) (fun r_1 hr_1 => ?_)
    subst hr_1
    refine W.top (y := .int (nI (f + 64 * t + 4096 * k))) (congrArg Value.int ((hL i hi2).trans (congrArg nI hy))) ?_
    refine chV (rnV (As := [.int (nI (f + 64 * t + 4096 * k))]) (rest := []) S0 (c_X2_play l bd hCP sd rt ps n hs2 hr16 hp65 (by omega) f t k hf ht hk hct) wm_X4_118 wi_X2_play ws_X2_play wn_X2 wc_X2_play hd_X2_play ⟨rfl, rfl, by decide, by decide⟩ IW.blind (va_recv hK hP (ci := 1) (q0 := 2) rfl rfl) (IW.at hP hD hK hA hE hS) hl.1 (Nat.le_of_ble_eq_true rfl) dX4_countBehind_24 rfl ⟨by decide, by decide⟩) hS (fun u2 H locs hu hP hD hS => ?_)
    have hC1 := hu
    have hP : va_P D classes (cW cI cJ h0 h1 h2 a0 a1 a2 a3 h3 a4 h4 a5 kn op ow9 tr9 fu9 kg9 co9 pn9 (nI (1 - sd)) (nI (plR bd sd rt f t)) (pI (pss (plB bd sd f t k) sd (bd f) f t)) (nI (n + 1)) u2.1 u2.2 (upd m9 n (nI (f + 64 * t + 4096 * k))) (upd o9 n (losE (bd (tkn bd f t)) (tkn bd f t) rt ps)) lsz lfs (nI L.length) afs) H := hP
    have hD : va_D A (cW cI cJ h0 h1 h2 a0 a1 a2 a3 h3 a4 h4 a5 kn op ow9 tr9 fu9 kg9 co9 pn9 (nI (1 - sd)) (nI (plR bd sd rt f t)) (pI (pss (plB bd sd f t k) sd (bd f) f t)) (nI (n + 1)) u2.1 u2.2 (upd m9 n (nI (f + 64 * t + 4096 * k))) (upd o9 n (losE (bd (tkn bd f t)) (tkn bd f t) rt ps)) lsz lfs (nI L.length) afs) := hD
    refine lv_iload_n hx hb dX4_countBehind_27 rfl (lv_at hl 2 rfl) ?_
    refine lv_iconst (v := (nI 1)) hx hb dX4_countBehind_28 (by decide) ?_
    refine ln_icmp_le (tgt := 58) hx hb dX4_countBehind_29 (by decide) (by decide) (by decide) (fun c29 => ?_) (fun c29 => ?_)
    · skip
      refine lv_lload_n hx hb dX4_countBehind_58 rfl (lv_at hl 3 rfl) ?_
      refine lv_aload_n hx hb dX4_countBehind_59 rfl (lv_at hl 0 rfl) ?_
      refine va_get (D := D) (ci := 3) (v := .ref h1) (C := RX4) (T := TX4) (N := 6) hx hb hG wu_X4 hown hK hP 0 rfl rfl 0 (by decide) (hG _ wf_X4_12) (fun _ h9 => h9) rfl dX4_countBehind_60 ?_
      refine chI (rnV (As := []) (rest := [.long (lN (smT L (cb1 bd sd rt) i))]) S0 (c_X3_tally l (plB bd sd f t k) hC1 (1 - sd) (plR bd sd rt f t) (pss (plB bd sd f t k) sd (bd f) f t) (by omega) hr2 hp2) wm_X4_125 wi_X3_tally ws_X3_tally wn_X3 wc_X3_tally hd_X3_tally ⟨rfl, rfl, by decide, by decide⟩ IW.blind (va_recv hK hP (ci := 2) (q0 := 1) rfl rfl) (IW.at hP hD hK hA hE hS) hl.1 (Nat.le_of_ble_eq_true rfl) dX4_countBehind_63 rfl ⟨by decide, by decide⟩) hS (fun r_3 u3 H locs hu hP hD hS => ?_)
      subst hu
      have hP : va_P D classes (cW cI cJ h0 h1 h2 a0 a1 a2 a3 h3 a4 h4 a5 kn op (ownS (plB bd sd f t k) (1 - sd)) (thrS (plB bd sd f t k) (1 - sd)) (fulS (plB bd sd f t k) (1 - sd)) (kngS (plB bd sd f t k) (1 - sd)) (covS (plB bd sd f t k) (1 - sd)) (pinS (plB bd sd f t k) (1 - sd)) (nI (1 - sd)) (nI (plR bd sd rt f t)) (pI (pss (plB bd sd f t k) sd (bd f) f t)) (nI (n + 1)) u2.1 u2.2 (upd m9 n (nI (f + 64 * t + 4096 * k))) (upd o9 n (losE (bd (tkn bd f t)) (tkn bd f t) rt ps)) lsz lfs (nI L.length) afs) H := hP
      have hD : va_D A (cW cI cJ h0 h1 h2 a0 a1 a2 a3 h3 a4 h4 a5 kn op (ownS (plB bd sd f t k) (1 - sd)) (thrS (plB bd sd f t k) (1 - sd)) (fulS (plB bd sd f t k) (1 - sd)) (kngS (plB bd sd f t k) (1 - sd)) (covS (plB bd sd f t k) (1 - sd)) (pinS (plB bd sd f t k) (1 - sd)) (nI (1 - sd)) (nI (plR bd sd rt f t)) (pI (pss (plB bd sd f t k) sd (bd f) f t)) (nI (n + 1)) u2.1 u2.2 (upd m9 n (nI (f + 64 * t + 4096 * k))) (upd o9 n (losE (bd (tkn bd f t)) (tkn bd f t) rt ps)) lsz lfs (nI L.length) afs) := hD
      refine lv_i2l hx hb dX4_countBehind_66 rfl ?_
      refine W.top (y := .long (lN (tly (plB bd sd f t k) (1 - sd) (plR bd sd rt f t) (pss (plB bd sd f t k) sd (bd f) f t)))) (congrArg Value.long (nI_l (by omega))) ?_
      refine lv_ladd hx hb dX4_countBehind_67 ?_
      refine W.top (y := .long (lN (smT L (cb1 bd sd rt) (i + 1)))) (congrArg Value.long (by rw [lN_add, smT_s hi2]; unfold cb1; rw [y1, y2, y3])) ?_
      refine lv_lstore_n (lv' := [(3, .long (lN (smT L (cb1 bd sd rt) (i + 1)))), (0, .ref h0), (1, .ref h4), (2, .int (nI 1)), (5, .int (nI i))]) hx hb dX4_countBehind_68 rfl hl (by decide) rfl (fun ls hl => ?_)
      refine lv_aload_n hx hb dX4_countBehind_69 rfl (lv_at hl 1 rfl) ?_
      refine va_get (D := D) (ci := 3) (v := .ref h2) (C := RX4) (T := TX4) (N := 6) hx hb hG wu_X4 hown hK hP 0 rfl rfl 1 (by decide) (hG _ wf_X4_20) (fun _ h9 => h9) rfl dX4_countBehind_70 ?_
      refine chI (rnV (As := []) (rest := []) S0 (c_X2_takeBack l (plB bd sd f t k) hC1 (1 - sd) rt ps n (tkn bd f t) (bd (tkn bd f t)) (by omega) hr16 hp65 (by omega) (tkn_lt hf ht) (hCP.1 _ (tkn_lt hf ht)).2 f t k hf ht hk pk_us pk_us (by rw [hss]; exact hct2)) wm_X4_129 wi_X2_takeBack ws_X2_takeBack wn_X2 wc_X2_takeBack hd_X2_takeBack ⟨rfl, rfl, by decide, by decide⟩ IW.blind (va_recv hK hP (ci := 1) (q0 := 2) rfl rfl) (IW.at hP hD hK hA hE hS) hl.1 (Nat.le_of_ble_eq_true rfl) dX4_countBehind_73 rfl ⟨by decide, by decide⟩) hS (fun r_4 u4 H locs hu hP hD hS => ?_)
      obtain ⟨he9, hC2⟩ := hu
      subst he9
      have hP : va_P D classes (cW cI cJ h0 h1 h2 a0 a1 a2 a3 h3 a4 h4 a5 kn op (ownS (plB bd sd f t k) (1 - sd)) (thrS (plB bd sd f t k) (1 - sd)) (fulS (plB bd sd f t k) (1 - sd)) (kngS (plB bd sd f t k) (1 - sd)) (covS (plB bd sd f t k) (1 - sd)) (pinS (plB bd sd f t k) (1 - sd)) (nI (1 - (1 - sd))) (nI rt) (pI ps) (nI n) u4.1 u4.2 (upd m9 n (nI (f + 64 * t + 4096 * k))) (upd o9 n (losE (bd (tkn bd f t)) (tkn bd f t) rt ps)) lsz lfs (nI L.length) afs) H := hP
      have hD : va_D A (cW cI cJ h0 h1 h2 a0 a1 a2 a3 h3 a4 h4 a5 kn op (ownS (plB bd sd f t k) (1 - sd)) (thrS (plB bd sd f t k) (1 - sd)) (fulS (plB bd sd f t k) (1 - sd)) (kngS (plB bd sd f t k) (1 - sd)) (covS (plB bd sd f t k) (1 - sd)) (pinS (plB bd sd f t k) (1 - sd)) (nI (1 - (1 - sd))) (nI rt) (pI ps) (nI n) u4.1 u4.2 (upd m9 n (nI (f + 64 * t + 4096 * k))) (upd o9 n (losE (bd (tkn bd f t)) (tkn bd f t) rt ps)) lsz lfs (nI L.length) afs) := hD
      have hC3 : CP _ _ bd := CP_congr (by rw [hss]; exact hid) hC2
      rw [hss] at hP hD
      have hP : va_P D classes (cW cI cJ h0 h1 h2 a0 a1 a2 a3 h3 a4 h4 a5 kn op (ownS (plB bd sd f t k) (1 - sd)) (thrS (plB bd sd f t k) (1 - sd)) (fulS (plB bd sd f t k) (1 - sd)) (kngS (plB bd sd f t k) (1 - sd)) (covS (plB bd sd f t k) (1 - sd)) (pinS (plB bd sd f t k) (1 - sd)) (nI sd) (nI rt) (pI ps) (nI n) u4.1 u4.2 (upd m9 n (nI (f + 64 * t + 4096 * k))) (upd o9 n (losE (bd (tkn bd f t)) (tkn bd f t) rt ps)) lsz lfs (nI L.length) afs) H := hP
      have hD : va_D A (cW cI cJ h0 h1 h2 a0 a1 a2 a3 h3 a4 h4 a5 kn op (ownS (plB bd sd f t k) (1 - sd)) (thrS (plB bd sd f t k) (1 - sd)) (fulS (plB bd sd f t k) (1 - sd)) (kngS (plB bd sd f t k) (1 - sd)) (covS (plB bd sd f t k) (1 - sd)) (pinS (plB bd sd f t k) (1 - sd)) (nI sd) (nI rt) (pI ps) (nI n) u4.1 u4.2 (upd m9 n (nI (f + 64 * t + 4096 * k))) (upd o9 n (losE (bd (tkn bd f t)) (tkn bd f t) rt ps)) lsz lfs (nI L.length) afs) := hD
      refine lv_pop hx hb dX4_countBehind_76 rfl ?_
      refine lv_iinc (v := (nI (i + 1))) (lv' := [(5, .int (nI (i + 1))), (3, .long (lN (smT L (cb1 bd sd rt) (i + 1)))), (0, .ref h0), (1, .ref h4), (2, .int (nI 1))]) hx hb dX4_countBehind_77 hl (k := 4) rfl (show nI i + Int32.ofInt 1 = nI (i + 1) from nI_add _ 1) (by decide) rfl (fun ls hl => ?_)
      refine lv_goto (tgt := 5) hx hb dX4_countBehind_80 (by decide) ?_
      exact ih_5 ((i + 1), u4.1, u4.2, (upd m9 n (nI (f + 64 * t + 4096 * k))), (upd o9 n (losE (bd (tkn bd f t)) (tkn bd f t) rt ps)), (ownS (plB bd sd f t k) (1 - sd)), (thrS (plB bd sd f t k) (1 - sd)), (fulS (plB bd sd f t k) (1 - sd)), (kngS (plB bd sd f t k) (1 - sd)), (covS (plB bd sd f t k) (1 - sd)), (pinS (plB bd sd f t k) (1 - sd))) _ _ ⟨by omega, hC3, fun j hj => ⟨(pk_un (by omega)).trans (hkeep j hj).1, (pk_un (by omega)).trans (hkeep j hj).2⟩⟩ (by (try dsimp only); omega) hP hD hS ls (lv_sub hl [2, 3, 4, 1, 0] rfl)
    · skip
      exact absurd c29 (by omega)
set_option maxHeartbeats 4000000 in
set_option maxRecDepth 100000 in
/-- countBehind, depth 2 -/
theorem c_X4_countBehind_L2 (l : Launch) {D : va_G} {cI cJ : ClassId} {A : Nat → Prop} {h0 h1 h2 a0 a1 a2 a3 h3 a4 h4 a5 : Nat} {kn op : Int32} {ow tr fu kg co pn : Int64} {pcs : Nat → Int32} {sqa : Nat → Int64} {mvs los : Nat → Int32} {lfs : Nat → Int32} {asz : Int32} {afs : Nat → Int32} (bd : Nat → Nat) (hCP : CP pcs sqa bd) (sd rt ps : Nat) (hs2 : sd < 2) (hr16 : rt < 16) (hp65 : ps < 65) (n : Nat) (hn : n ≤ 201) (L : List Nat) (hL : LI lfs L) (hlen : L.length ≤ 700) (hall : ∀ f t k, (f + 64 * t + 4096 * k) ∈ L → f < 64 → t < 64 → k < 6 → GM bd sd f t k ∧ (fil (plB bd sd f t k) (1 - sd) (plR bd sd rt f t) (pss (plB bd sd f t k) sd (bd f) f t)).length ≤ 700 ∧ ∀ y ∈ fil (plB bd sd f t k) (1 - sd) (plR bd sd rt f t) (pss (plB bd sd f t k) sd (bd f) f t), GMy (plB bd sd f t k) (1 - sd) y) (hdec : ∀ y ∈ L, ∃ f t k, f < 64 ∧ t < 64 ∧ k < 6 ∧ y = f + 64 * t + 4096 * k) : Met l yX4_countBehind (Cond.code yX4_countBehind cX4_countBehind 6 (some .long) :: wsL_law) (rK 6) (va_Pc [.ref h0, .ref h3, .int (nI 2)] (IW D cI cJ A (cW cI cJ h0 h1 h2 a0 a1 a2 a3 h3 a4 h4 a5 kn op ow tr fu kg co pn (nI sd) (nI rt) (pI ps) (nI n) pcs sqa mvs los (nI L.length) lfs asz afs))) (va_Ql (fun r u => r = lN (L.map (cb2 bd sd rt)).sum ∧ CP u.1 u.2.1 bd ∧ ∀ j, j < n → u.2.2.1 j = mvs j ∧ u.2.2.2.1 j = los j) (fun (u : (Nat → Int32) × (Nat → Int64) × (Nat → Int32) × (Nat → Int32) × Int32 × (Nat → Int32) × Int64 × Int64 × Int64 × Int64 × Int64 × Int64) t9 => IW D cI cJ A (cW cI cJ h0 h1 h2 a0 a1 a2 a3 h3 a4 h4 a5 kn op u.2.2.2.2.2.2.1 u.2.2.2.2.2.2.2.1 u.2.2.2.2.2.2.2.2.1 u.2.2.2.2.2.2.2.2.2.1 u.2.2.2.2.2.2.2.2.2.2.1 u.2.2.2.2.2.2.2.2.2.2.2 (nI sd) (nI rt) (pI ps) (nI n) u.1 u.2.1 u.2.2.1 u.2.2.2.1 (nI L.length) lfs u.2.2.2.2.1 u.2.2.2.2.2.1) t9) A) 0 0 A := by
  refine entM (by decide) (Nat.le_of_ble_eq_true rfl) ?_
  intro p e s m below meth c ls S0 hr hlocks hG hnm hB hl
  have hx := S0.1
  have hb := S0.2.1
  have hown := S0.2.2.2.1
  have hl : lv_has ls 6 [(0, .ref h0), (1, .ref h3), (2, .int (nI 2))] := hl
  obtain ⟨hP, hD, hK, hA, hE⟩ := hB
  have hS : va_S A s.heap s.heap [] := va_S.rf
  have hss : 1 - (1 - sd) = sd := by omega
  refine lv_lconst (v := 0) hx hb dX4_countBehind_0 (by decide) ?_
  refine W.top (y := .long (lN (smT L (cb2 bd sd rt) 0))) (congrArg Value.long rfl) ?_
  refine lv_lstore_n (lv' := [(3, .long (lN (smT L (cb2 bd sd rt) 0))), (0, .ref h0), (1, .ref h3), (2, .int (nI 2))]) hx hb dX4_countBehind_1 rfl hl (by decide) rfl (fun ls hl => ?_)
  refine lv_iconst (v := (nI 0)) hx hb dX4_countBehind_2 (by decide) ?_
  refine lv_istore (lv' := [(5, .int (nI 0)), (3, .long (lN (smT L (cb2 bd sd rt) 0))), (0, .ref h0), (1, .ref h3), (2, .int (nI 2))]) hx hb dX4_countBehind_3 hl (by decide) rfl (fun ls hl => ?_)
  refine lpW (σ := (Nat) × (Nat → Int32) × (Nat → Int64) × (Nat → Int32) × (Nat → Int32) × (Int32) × (Nat → Int32) × (Int64) × (Int64) × (Int64) × (Int64) × (Int64) × (Int64)) 5 6 [] (fun x9 => [(0, .ref h0), (1, .ref h3), (2, .int (nI 2)), (3, .long (lN (smT L (cb2 bd sd rt) x9.1))), (5, .int (nI x9.1))]) (fun x9 => cW cI cJ h0 h1 h2 a0 a1 a2 a3 h3 a4 h4 a5 kn op x9.2.2.2.2.2.2.2.1 x9.2.2.2.2.2.2.2.2.1 x9.2.2.2.2.2.2.2.2.2.1 x9.2.2.2.2.2.2.2.2.2.2.1 x9.2.2.2.2.2.2.2.2.2.2.2.1 x9.2.2.2.2.2.2.2.2.2.2.2.2 (nI sd) (nI rt) (pI ps) (nI n) x9.2.1 x9.2.2.1 x9.2.2.2.1 x9.2.2.2.2.1 (nI L.length) lfs x9.2.2.2.2.2.1 x9.2.2.2.2.2.2.1) (fun x9 => x9.1 ≤ L.length ∧ CP x9.2.1 x9.2.2.1 bd ∧ ∀ j, j < n → x9.2.2.2.1 j = mvs j ∧ x9.2.2.2.2.1 j = los j) (fun x9 => L.length - x9.1) (0, pcs, sqa, mvs, los, asz, afs, ow, tr, fu, kg, co, pn) ⟨Nat.zero_le _, hCP, fun _ _ => ⟨rfl, rfl⟩⟩ (lv_sub hl [2, 3, 4, 1, 0] rfl) hP hD hS ?_
  clear hP hD hS hl ls
  rintro ⟨i, p9, q9, m9, o9, z9, f9, ow9, tr9, fu9, kg9, co9, pn9⟩ H locs hI hP hD hS ih_5 ls hl
  try dsimp only at hI ih_5 hl hP hD
  clear hCP
  obtain ⟨hi, hCP, hkeep⟩ := hI
  refine lv_iload hx hb dX4_countBehind_5 (lv_at hl 4 rfl) ?_
  refine lv_aload_n hx hb dX4_countBehind_7 rfl (lv_at hl 1 rfl) ?_
  refine va_get (D := D) (ci := 0) (v := .int (nI L.length)) (C := RX1) (T := TX1) (N := 2) hx hb hG wu_X1 hown hK hP 7 rfl rfl 1 (by decide) (hG _ wf_X4_95) (fun _ h9 => h9) rfl dX4_countBehind_8 ?_
  refine ln_icmp_ge (tgt := 83) hx hb dX4_countBehind_11 (by decide) (by omega) (by omega) (fun c11 => ?_) (fun c11 => ?_)
  · skip
    refine lv_lload_n hx hb dX4_countBehind_83 rfl (lv_at hl 3 rfl) ?_
    exact weL ((p9, q9, m9, o9, z9, f9, ow9, tr9, fu9, kg9, co9, pn9)) hx hb hr hlocks dX4_countBehind_84 ⟨by rw [show i = L.length by omega, smT_all], hCP, hkeep⟩ hP hD hK hA hE hS
  · skip
    have hi2 : i < L.length := by omega
    have hmm := getD_mem hi2
    obtain ⟨f, t, k, hf, ht, hk, hy⟩ := hdec _ hmm
    obtain ⟨hGM, hlen2, hall2⟩ := hall f t k (by rw [← hy]; exact hmm) hf ht hk
    obtain ⟨-, -, -, hct, hct2, hid⟩ := hGM
    obtain ⟨y1, y2, y3, -, -⟩ := nB_e (bd := bd) (sd := sd) (ps := ps) hf ht hy
    have hr2 := plR_lt (bd := bd) (sd := sd) (f := f) (t := t) hr16
    have hp2 := pss_lt (g := (plB bd sd f t k)) (sd := sd) (k := bd f) hf ht
    refine lv_aload_n hx hb dX4_countBehind_14 rfl (lv_at hl 0 rfl) ?_
    refine va_get (D := D) (ci := 3) (v := .ref h2) (C := RX4) (T := TX4) (N := 6) hx hb hG wu_X4 hown hK hP 0 rfl rfl 1 (by decide) (hG _ wf_X4_20) (fun _ h9 => h9) rfl dX4_countBehind_15 ?_
    refine lv_aload_n hx hb dX4_countBehind_18 rfl (lv_at hl 1 rfl) ?_
    refine lv_iload hx hb dX4_countBehind_19 (lv_at hl 4 rfl) ?_
    refine roI (rnV (As := [.int (nI i)]) (rest := [.ref h2]) S0 (c_X1_get l L.length i (by omega) (by omega)) wm_X4_100 wi_X1_get ws_X1_get wn_X1 wc_X1_get hd_X1_get ⟨rfl, rfl, by decide, by decide⟩ IW.blind (va_recv hK hP (ci := 0) (q0 := 7) rfl rfl) (IW.at (ws := mW cI h3 a4 (nI L.length) lfs) (hP.sub [7, 8] rfl) (hD.sub [7, 8] (by decide) rfl) hK hA hE hS) hl.1 (Nat.le_of_ble_eq_true rfl) dX4_countBehind_21 rfl ⟨by decide, by decide⟩) (fun r_1 hr_1 => ?_)
    subst hr_1
    refine W.top (y := .int (nI (f + 64 * t + 4096 * k))) (congrArg Value.int ((hL i hi2).trans (congrArg nI hy))) ?_
    refine chV (rnV (As := [.int (nI (f + 64 * t + 4096 * k))]) (rest := []) S0 (c_X2_play l bd hCP sd rt ps n hs2 hr16 hp65 (by omega) f t k hf ht hk hct) wm_X4_118 wi_X2_play ws_X2_play wn_X2 wc_X2_play hd_X2_play ⟨rfl, rfl, by decide, by decide⟩ IW.blind (va_recv hK hP (ci := 1) (q0 := 2) rfl rfl) (IW.at hP hD hK hA hE hS) hl.1 (Nat.le_of_ble_eq_true rfl) dX4_countBehind_24 rfl ⟨by decide, by decide⟩) hS (fun u2 H locs hu hP hD hS => ?_)
    have hC1 := hu
    have hP : va_P D classes (cW cI cJ h0 h1 h2 a0 a1 a2 a3 h3 a4 h4 a5 kn op ow9 tr9 fu9 kg9 co9 pn9 (nI (1 - sd)) (nI (plR bd sd rt f t)) (pI (pss (plB bd sd f t k) sd (bd f) f t)) (nI (n + 1)) u2.1 u2.2 (upd m9 n (nI (f + 64 * t + 4096 * k))) (upd o9 n (losE (bd (tkn bd f t)) (tkn bd f t) rt ps)) (nI L.length) lfs z9 f9) H := hP
    have hD : va_D A (cW cI cJ h0 h1 h2 a0 a1 a2 a3 h3 a4 h4 a5 kn op ow9 tr9 fu9 kg9 co9 pn9 (nI (1 - sd)) (nI (plR bd sd rt f t)) (pI (pss (plB bd sd f t k) sd (bd f) f t)) (nI (n + 1)) u2.1 u2.2 (upd m9 n (nI (f + 64 * t + 4096 * k))) (upd o9 n (losE (bd (tkn bd f t)) (tkn bd f t) rt ps)) (nI L.length) lfs z9 f9) := hD
    refine lv_iload_n hx hb dX4_countBehind_27 rfl (lv_at hl 2 rfl) ?_
    refine lv_iconst (v := (nI 1)) hx hb dX4_countBehind_28 (by decide) ?_
    refine ln_icmp_le (tgt := 58) hx hb dX4_countBehind_29 (by decide) (by decide) (by decide) (fun c29 => ?_) (fun c29 => ?_)
    · skip
      exact absurd c29 (by omega)
    · skip
      refine lv_aload_n hx hb dX4_countBehind_32 rfl (lv_at hl 0 rfl) ?_
      refine va_get (D := D) (ci := 3) (v := .ref h1) (C := RX4) (T := TX4) (N := 6) hx hb hG wu_X4 hown hK hP 0 rfl rfl 0 (by decide) (hG _ wf_X4_12) (fun _ h9 => h9) rfl dX4_countBehind_33 ?_
      refine lv_aload_n hx hb dX4_countBehind_36 rfl (lv_at hl 0 rfl) ?_
      refine va_get (D := D) (ci := 3) (v := .ref h4) (C := RX4) (T := TX4) (N := 6) hx hb hG wu_X4 hown hK hP 0 rfl rfl 3 (by decide) (hG _ wf_X4_28) (fun _ h9 => h9) rfl dX4_countBehind_37 ?_
      refine chV (rnV (As := [.ref h4]) (rest := []) S0 (c_X3_fill_A l (plB bd sd f t k) hC1 (1 - sd) (plR bd sd rt f t) (pss (plB bd sd f t k) sd (bd f) f t) (by omega) hr2 hp2 hlen2) wm_X4_153 wi_X3_fill ws_X3_fill wn_X3 wc_X3_fill hd_X3_fill ⟨rfl, rfl, by decide, by decide⟩ IW.blind (va_recv hK hP (ci := 2) (q0 := 1) rfl rfl) (IW.at hP hD hK hA hE hS) hl.1 (Nat.le_of_ble_eq_true rfl) dX4_countBehind_40 rfl ⟨by decide, by decide⟩) hS (fun u3 H locs hu hP hD hS => ?_)
      have hLI2 := hu
      have hP : va_P D classes (cW cI cJ h0 h1 h2 a0 a1 a2 a3 h3 a4 h4 a5 kn op (ownS (plB bd sd f t k) (1 - sd)) (thrS (plB bd sd f t k) (1 - sd)) (fulS (plB bd sd f t k) (1 - sd)) (kngS (plB bd sd f t k) (1 - sd)) (covS (plB bd sd f t k) (1 - sd)) (pinS (plB bd sd f t k) (1 - sd)) (nI (1 - sd)) (nI (plR bd sd rt f t)) (pI (pss (plB bd sd f t k) sd (bd f) f t)) (nI (n + 1)) u2.1 u2.2 (upd m9 n (nI (f + 64 * t + 4096 * k))) (upd o9 n (losE (bd (tkn bd f t)) (tkn bd f t) rt ps)) (nI L.length) lfs (nI (fil (plB bd sd f t k) (1 - sd) (plR bd sd rt f t) (pss (plB bd sd f t k) sd (bd f) f t)).length) u3) H := hP
      have hD : va_D A (cW cI cJ h0 h1 h2 a0 a1 a2 a3 h3 a4 h4 a5 kn op (ownS (plB bd sd f t k) (1 - sd)) (thrS (plB bd sd f t k) (1 - sd)) (fulS (plB bd sd f t k) (1 - sd)) (kngS (plB bd sd f t k) (1 - sd)) (covS (plB bd sd f t k) (1 - sd)) (pinS (plB bd sd f t k) (1 - sd)) (nI (1 - sd)) (nI (plR bd sd rt f t)) (pI (pss (plB bd sd f t k) sd (bd f) f t)) (nI (n + 1)) u2.1 u2.2 (upd m9 n (nI (f + 64 * t + 4096 * k))) (upd o9 n (losE (bd (tkn bd f t)) (tkn bd f t) rt ps)) (nI L.length) lfs (nI (fil (plB bd sd f t k) (1 - sd) (plR bd sd rt f t) (pss (plB bd sd f t k) sd (bd f) f t)).length) u3) := hD
      refine lv_lload_n hx hb dX4_countBehind_43 rfl (lv_at hl 3 rfl) ?_
      refine lv_aload_n hx hb dX4_countBehind_44 rfl (lv_at hl 0 rfl) ?_
      refine lv_aload_n hx hb dX4_countBehind_45 rfl (lv_at hl 0 rfl) ?_
      refine va_get (D := D) (ci := 3) (v := .ref h4) (C := RX4) (T := TX4) (N := 6) hx hb hG wu_X4 hown hK hP 0 rfl rfl 3 (by decide) (hG _ wf_X4_28) (fun _ h9 => h9) rfl dX4_countBehind_46 ?_
      refine lv_iconst (v := (nI 1)) hx hb dX4_countBehind_49 (by decide) ?_
      refine chL (rnV (As := [.ref h4, .int (nI 1)]) (rest := [.long (lN (smT L (cb2 bd sd rt) i))]) S0 (c_X4_countBehind_A1 l (plB bd sd f t k) hC1 (1 - sd) (plR bd sd rt f t) (pss (plB bd sd f t k) sd (bd f) f t) (by omega) hr2 hp2 (n + 1) (by omega) (fil (plB bd sd f t k) (1 - sd) (plR bd sd rt f t) (pss (plB bd sd f t k) sd (bd f) f t)) hLI2 hlen2 hall2) wm_X4_134 wi_X4_countBehind ws_X4_countBehind wn_X4 wc_X4_countBehind hd_X4_countBehind ⟨rfl, rfl, by decide, by decide⟩ IW.blind (va_recv hK hP (ci := 3) (q0 := 0) rfl rfl) (IW.at hP hD hK hA hE hS) hl.1 (Nat.le_of_ble_eq_true rfl) dX4_countBehind_50 rfl ⟨by decide, by decide⟩) hS (fun r_4 u4 H locs hu hP hD hS => ?_)
      obtain ⟨he9, hC5, hk5⟩ := hu
      subst he9
      have hP : va_P D classes (cW cI cJ h0 h1 h2 a0 a1 a2 a3 h3 a4 h4 a5 kn op u4.2.2.2.2.1 u4.2.2.2.2.2.1 u4.2.2.2.2.2.2.1 u4.2.2.2.2.2.2.2.1 u4.2.2.2.2.2.2.2.2.1 u4.2.2.2.2.2.2.2.2.2 (nI (1 - sd)) (nI (plR bd sd rt f t)) (pI (pss (plB bd sd f t k) sd (bd f) f t)) (nI (n + 1)) u4.1 u4.2.1 u4.2.2.1 u4.2.2.2.1 (nI L.length) lfs (nI (fil (plB bd sd f t k) (1 - sd) (plR bd sd rt f t) (pss (plB bd sd f t k) sd (bd f) f t)).length) u3) H := hP
      have hD : va_D A (cW cI cJ h0 h1 h2 a0 a1 a2 a3 h3 a4 h4 a5 kn op u4.2.2.2.2.1 u4.2.2.2.2.2.1 u4.2.2.2.2.2.2.1 u4.2.2.2.2.2.2.2.1 u4.2.2.2.2.2.2.2.2.1 u4.2.2.2.2.2.2.2.2.2 (nI (1 - sd)) (nI (plR bd sd rt f t)) (pI (pss (plB bd sd f t k) sd (bd f) f t)) (nI (n + 1)) u4.1 u4.2.1 u4.2.2.1 u4.2.2.2.1 (nI L.length) lfs (nI (fil (plB bd sd f t k) (1 - sd) (plR bd sd rt f t) (pss (plB bd sd f t k) sd (bd f) f t)).length) u3) := hD
      refine lv_ladd hx hb dX4_countBehind_53 ?_
      refine W.top (y := .long (lN (smT L (cb2 bd sd rt) (i + 1)))) (congrArg Value.long (by rw [lN_add, smT_s hi2]; unfold cb2; rw [y1, y2, y3])) ?_
      refine lv_lstore_n (lv' := [(3, .long (lN (smT L (cb2 bd sd rt) (i + 1)))), (0, .ref h0), (1, .ref h3), (2, .int (nI 2)), (5, .int (nI i))]) hx hb dX4_countBehind_54 rfl hl (by decide) rfl (fun ls hl => ?_)
      refine lv_goto (tgt := 69) hx hb dX4_countBehind_55 (by decide) ?_
      refine lv_aload_n hx hb dX4_countBehind_69 rfl (lv_at hl 1 rfl) ?_
      refine va_get (D := D) (ci := 3) (v := .ref h2) (C := RX4) (T := TX4) (N := 6) hx hb hG wu_X4 hown hK hP 0 rfl rfl 1 (by decide) (hG _ wf_X4_20) (fun _ h9 => h9) rfl dX4_countBehind_70 ?_
      refine chI (rnV (As := []) (rest := []) S0 (c_X2_takeBack l (plB bd sd f t k) hC5 (1 - sd) rt ps n (tkn bd f t) (bd (tkn bd f t)) (by omega) hr16 hp65 (by omega) (tkn_lt hf ht) (hCP.1 _ (tkn_lt hf ht)).2 f t k hf ht hk ((hk5 n (by omega)).1.trans pk_us) ((hk5 n (by omega)).2.trans pk_us) (by rw [hss]; exact hct2)) wm_X4_129 wi_X2_takeBack ws_X2_takeBack wn_X2 wc_X2_takeBack hd_X2_takeBack ⟨rfl, rfl, by decide, by decide⟩ IW.blind (va_recv hK hP (ci := 1) (q0 := 2) rfl rfl) (IW.at hP hD hK hA hE hS) hl.1 (Nat.le_of_ble_eq_true rfl) dX4_countBehind_73 rfl ⟨by decide, by decide⟩) hS (fun r_5 u5 H locs hu hP hD hS => ?_)
      obtain ⟨he9, hC2⟩ := hu
      subst he9
      have hP : va_P D classes (cW cI cJ h0 h1 h2 a0 a1 a2 a3 h3 a4 h4 a5 kn op u4.2.2.2.2.1 u4.2.2.2.2.2.1 u4.2.2.2.2.2.2.1 u4.2.2.2.2.2.2.2.1 u4.2.2.2.2.2.2.2.2.1 u4.2.2.2.2.2.2.2.2.2 (nI (1 - (1 - sd))) (nI rt) (pI ps) (nI n) u5.1 u5.2 u4.2.2.1 u4.2.2.2.1 (nI L.length) lfs (nI (fil (plB bd sd f t k) (1 - sd) (plR bd sd rt f t) (pss (plB bd sd f t k) sd (bd f) f t)).length) u3) H := hP
      have hD : va_D A (cW cI cJ h0 h1 h2 a0 a1 a2 a3 h3 a4 h4 a5 kn op u4.2.2.2.2.1 u4.2.2.2.2.2.1 u4.2.2.2.2.2.2.1 u4.2.2.2.2.2.2.2.1 u4.2.2.2.2.2.2.2.2.1 u4.2.2.2.2.2.2.2.2.2 (nI (1 - (1 - sd))) (nI rt) (pI ps) (nI n) u5.1 u5.2 u4.2.2.1 u4.2.2.2.1 (nI L.length) lfs (nI (fil (plB bd sd f t k) (1 - sd) (plR bd sd rt f t) (pss (plB bd sd f t k) sd (bd f) f t)).length) u3) := hD
      have hC3 : CP _ _ bd := CP_congr (by rw [hss]; exact hid) hC2
      rw [hss] at hP hD
      have hP : va_P D classes (cW cI cJ h0 h1 h2 a0 a1 a2 a3 h3 a4 h4 a5 kn op u4.2.2.2.2.1 u4.2.2.2.2.2.1 u4.2.2.2.2.2.2.1 u4.2.2.2.2.2.2.2.1 u4.2.2.2.2.2.2.2.2.1 u4.2.2.2.2.2.2.2.2.2 (nI sd) (nI rt) (pI ps) (nI n) u5.1 u5.2 u4.2.2.1 u4.2.2.2.1 (nI L.length) lfs (nI (fil (plB bd sd f t k) (1 - sd) (plR bd sd rt f t) (pss (plB bd sd f t k) sd (bd f) f t)).length) u3) H := hP
      have hD : va_D A (cW cI cJ h0 h1 h2 a0 a1 a2 a3 h3 a4 h4 a5 kn op u4.2.2.2.2.1 u4.2.2.2.2.2.1 u4.2.2.2.2.2.2.1 u4.2.2.2.2.2.2.2.1 u4.2.2.2.2.2.2.2.2.1 u4.2.2.2.2.2.2.2.2.2 (nI sd) (nI rt) (pI ps) (nI n) u5.1 u5.2 u4.2.2.1 u4.2.2.2.1 (nI L.length) lfs (nI (fil (plB bd sd f t k) (1 - sd) (plR bd sd rt f t) (pss (plB bd sd f t k) sd (bd f) f t)).length) u3) := hD
      refine lv_pop hx hb dX4_countBehind_76 rfl ?_
      refine lv_iinc (v := (nI (i + 1))) (lv' := [(5, .int (nI (i + 1))), (3, .long (lN (smT L (cb2 bd sd rt) (i + 1)))), (0, .ref h0), (1, .ref h3), (2, .int (nI 2))]) hx hb dX4_countBehind_77 hl (k := 4) rfl (show nI i + Int32.ofInt 1 = nI (i + 1) from nI_add _ 1) (by decide) rfl (fun ls hl => ?_)
      refine lv_goto (tgt := 5) hx hb dX4_countBehind_80 (by decide) ?_
      exact ih_5 ((i + 1), u5.1, u5.2, u4.2.2.1, u4.2.2.2.1, (nI (fil (plB bd sd f t k) (1 - sd) (plR bd sd rt f t) (pss (plB bd sd f t k) sd (bd f) f t)).length), u3, u4.2.2.2.2.1, u4.2.2.2.2.2.1, u4.2.2.2.2.2.2.1, u4.2.2.2.2.2.2.2.1, u4.2.2.2.2.2.2.2.2.1, u4.2.2.2.2.2.2.2.2.2) _ _ ⟨by omega, hC3, fun j hj => ⟨((hk5 j (by omega)).1.trans (pk_un (by omega))).trans (hkeep j hj).1, ((hk5 j (by omega)).2.trans (pk_un (by omega))).trans (hkeep j hj).2⟩⟩ (by (try dsimp only); omega) hP hD hS ls (lv_sub hl [2, 3, 4, 1, 0] rfl)

/-! the other wrappers -/
theorem nx_fil {bd : Nat → Nat} {sd rt ps f t k : Nat} (hb : ∀ q, q < 64 → bd q < 13) (hs : sd < 2) (hr : rt < 16) (hp : plb bd sd = true) (hf : f < 64) (ht : t < 64) (hk : k < 6) (hl : lgl bd sd rt ps f t k = true) : fil (plB bd sd f t k) (1 - sd) (plR bd sd rt f t) (pss (plB bd sd f t k) sd (bd f) f t) = legs (bhB bd sd ps f t k) (1 - sd) (bhR bd sd rt f t) (bhP bd sd ps f t k) := by
  rw [plB_e hb hs hf ht hl, plR_e, pss_e hb hs hf ht hl, fil_e (bh_lt hb hs hf hk) (by omega) (bhR_lt hr) (bhP_lt hf ht) (plb_next hb hs hp hf ht hk hl)]
theorem nx_cbp {bd : Nat → Nat} {sd rt ps f t k : Nat} (hb : ∀ q, q < 64 → bd q < 13) (hs : sd < 2) (hr : rt < 16) (hp : plb bd sd = true) (hf : f < 64) (ht : t < 64) (hk : k < 6) (hl : lgl bd sd rt ps f t k = true) : cbp (plB bd sd f t k) (1 - sd) = true := by
  rw [plB_e hb hs hf ht hl]
  exact (cbp_e (bh_lt hb hs hf hk) (by omega)).trans (plb_next hb hs hp hf ht hk hl)
theorem nx_len {bd : Nat → Nat} {sd rt ps f t k : Nat} (hb : ∀ q, q < 64 → bd q < 13) (hs : sd < 2) (hr : rt < 16) (hp : plb bd sd = true) (hf : f < 64) (ht : t < 64) (hk : k < 6) (hl : lgl bd sd rt ps f t k = true) : (fil (plB bd sd f t k) (1 - sd) (plR bd sd rt f t) (pss (plB bd sd f t k) sd (bd f) f t)).length ≤ 700 := by
  rw [nx_fil hb hs hr hp hf ht hk hl]
  exact len_ok _ _ _ _ (bh_lt hb hs hf hk) (by omega) (bhP_lt hf ht)
theorem gm_all {bd : Nat → Nat} {sd rt ps : Nat} (hb : ∀ q, q < 64 → bd q < 13) (hs : sd < 2) : ∀ y ∈ legs bd sd rt ps, GMy bd sd y := fun y hy => by
  obtain ⟨f, t, k, hf, ht, hk, e, hl⟩ := legs_of hy
  exact ⟨f, t, k, e, GM_e hb hs hf ht hk hl⟩
theorem nx_gm {bd : Nat → Nat} {sd rt ps f t k : Nat} (hb : ∀ q, q < 64 → bd q < 13) (hs : sd < 2) (hr : rt < 16) (hp : plb bd sd = true) (hf : f < 64) (ht : t < 64) (hk : k < 6) (hl : lgl bd sd rt ps f t k = true) : ∀ y ∈ fil (plB bd sd f t k) (1 - sd) (plR bd sd rt f t) (pss (plB bd sd f t k) sd (bd f) f t), GMy (plB bd sd f t k) (1 - sd) y := by
  rw [nx_fil hb hs hr hp hf ht hk hl, plB_e hb hs hf ht hl]
  exact gm_all (bh_lt hb hs hf hk) (by omega)
theorem lg_mem {bd : Nat → Nat} {sd rt ps f t k : Nat} (hf : f < 64) (ht : t < 64) (hk : k < 6) (h : (f + 64 * t + 4096 * k) ∈ legs bd sd rt ps) : lgl bd sd rt ps f t k = true := by
  obtain ⟨f2, t2, k2, hf2, ht2, hk2, e, hl⟩ := legs_of h
  obtain ⟨rfl, rfl, rfl⟩ : f = f2 ∧ t = t2 ∧ k = k2 := by omega
  exact hl
theorem cn2_e {bd : Nat → Nat} {sd rt ps : Nat} (hb : ∀ q, q < 64 → bd q < 13) (hs : sd < 2) (hr : rt < 16) (hp : plb bd sd = true) : ((legs bd sd rt ps).map (cb1 bd sd rt)).sum = cn2 bd sd rt ps := congrArg List.sum (List.map_congr_left fun z hz => cb1_e hb hs hr hp hz)
theorem cn3_e {bd : Nat → Nat} {sd rt ps : Nat} (hb : ∀ q, q < 64 → bd q < 13) (hs : sd < 2) (hr : rt < 16) (hp : plb bd sd = true) : ((legs bd sd rt ps).map (cb2 bd sd rt)).sum = cn3 bd sd rt ps := congrArg List.sum (List.map_congr_left fun z hz => cb2_e hb hs hr hp hz)
theorem dL_check_0 : decode cL_check 0 = .ok (.aload_n 1, 1) := by decide +kernel
theorem dL_check_1 : decode cL_check 1 = .ok (.iconst 0, 1) := by decide +kernel
theorem dL_check_2 : decode cL_check 2 = .ok (.aload_n 0, 1) := by decide +kernel
theorem dL_check_3 : decode cL_check 3 = .ok (.invokevirtual 50, 3) := by decide +kernel
theorem dL_check_6 : decode cL_check 6 = .ok (.ifCond .eq 7, 3) := by decide +kernel
theorem dL_check_9 : decode cL_check 9 = .ok (.lconst 1, 1) := by decide +kernel
theorem dL_check_10 : decode cL_check 10 = .ok (.goto 4, 3) := by decide +kernel
theorem dL_check_13 : decode cL_check 13 = .ok (.lconst 0, 1) := by decide +kernel
theorem dL_check_14 : decode cL_check 14 = .ok (.lastore, 1) := by decide +kernel
theorem dL_check_15 : decode cL_check 15 = .ok (.goto 6, 3) := by decide +kernel
theorem dL_check_18 : decode cL_check 18 = .ok (.astore_n 2, 1) := by decide +kernel
theorem dL_check_19 : decode cL_check 19 = .ok (.iconst 1, 1) := by decide +kernel
theorem dL_check_20 : decode cL_check 20 = .ok (.ireturn, 1) := by decide +kernel
theorem dL_check_21 : decode cL_check 21 = .ok (.iconst 0, 1) := by decide +kernel
theorem dL_check_22 : decode cL_check 22 = .ok (.ireturn, 1) := by decide +kernel
set_option maxHeartbeats 4000000 in
set_option maxRecDepth 100000 in
theorem c_L_check (l : Launch) (hlt : l.stackTraces = false) {D : va_G} {cI cJ : ClassId} {A : Nat → Prop} {h0 h1 h2 a0 a1 a2 a3 h3 a4 h4 a5 : Nat} (x : CS) {ho : Nat} (o : Nat → Int64) (bd : Nat → Nat) (sd rt ps n : Nat) (hs2 : sd < 2) (hr16 : rt < 16) (hp65 : ps < 65) (hn : n ≤ 200) (hI : CI x bd sd rt ps n)  : Met l yL_check (Cond.codeWith yL_check cL_check 3 (some .int) [(0, 15, 18, 25)] :: wsL_law) (rX 9) (va_Pc [.ref h0, .ref ho] (XW D cI cJ A (cV cI cJ h0 h1 h2 a0 a1 a2 a3 h3 a4 h4 a5 x ++ oW cJ ho o))) (va_Qi (fun r u => r = nI (ndN bd sd) ∧ CI u.1 bd sd rt ps n ∧ Kp x u.1 n ∧ (ndN bd sd = 0 → u.2 0 = (if isA bd (kgs bd sd) (1 - sd) = true then 1 else 0))) (fun (u : CS × (Nat → Int64)) t9 => IW D cI cJ A (cV cI cJ h0 h1 h2 a0 a1 a2 a3 h3 a4 h4 a5 u.1 ++ oW cJ ho u.2) t9) A) 1 6 A := by
  refine entH (by decide) (Nat.le_of_ble_eq_true rfl) ?_
  intro p e s m below meth c ls S0 hr hlocks hG htb hB hl
  have hx := S0.1
  have hb := S0.2.1
  have hown := S0.2.2.2.1
  have hl : lv_has ls 3 [(0, .ref h0), (1, .ref ho)] := hl
  obtain ⟨⟨hP, hD, hK, hA, hE⟩, hX⟩ := hB
  have hS : va_S A s.heap s.heap [] := va_S.rf
  obtain ⟨⟨kn, op, ow, tr, fu, kg, co, pn⟩, ⟨si, ri, pa, ma⟩, ⟨pcs, sqa, mvs, los⟩, lsz, lfs, asz, afs⟩ := x
  obtain ⟨hCP, e1, e2, e3, e4, kb, ob, e5, e6, hKL⟩ := hI
  dsimp only at hCP e1 e2 e3 e4 e5 e6 hKL hP hD
  subst e1 e2 e3 e4 e5 e6
  have hb9 : ∀ q, q < 64 → bd q < 13 := fun q hq => (hCP.1 q hq).2
  have hP : va_P D classes (cW cI cJ h0 h1 h2 a0 a1 a2 a3 h3 a4 h4 a5 (bI kb) (bI ob) ow tr fu kg co pn (nI sd) (nI rt) (pI ps) (nI n) pcs sqa mvs los lsz lfs asz afs ++ oW cJ ho o) s.heap := hP
  have hD : va_D A (cW cI cJ h0 h1 h2 a0 a1 a2 a3 h3 a4 h4 a5 (bI kb) (bI ob) ow tr fu kg co pn (nI sd) (nI rt) (pI ps) (nI n) pcs sqa mvs los lsz lfs asz afs ++ oW cJ ho o) := hD
  refine lv_aload_n hx hb dL_check_0 rfl (lv_at hl 1 rfl) ?_
  refine lv_iconst (v := nI 0) hx hb dL_check_1 (by decide) ?_
  refine lv_aload_n hx hb dL_check_2 rfl (lv_at hl 0 rfl) ?_
  by_cases hp : plb bd sd = true
  · skip
    have hc : cbp bd sd = true := (cbp_e hb9 hs2).trans hp
    have hfe : fil bd sd rt ps = legs bd sd rt ps := fil_e hb9 hs2 hr16 hp65 hp
    have hlen : (fil bd sd rt ps).length ≤ 700 := by rw [hfe]; exact len_ok bd sd rt ps hb9 hs2 hp65
    have hlg : lgs bd sd rt ps = legs bd sd rt ps := if_pos hp
    have hnd : ndN bd sd = 0 := if_pos hp
    have hsz : szN bd sd rt ps = (legs bd sd rt ps).length := if_pos hp
    refine ftI (A := A) (wc := cW cI cJ h0 h1 h2 a0 a1 a2 a3 h3 a4 h4 a5 (bI kb) (bI ob) ow tr fu kg co pn (nI sd) (nI rt) (pI ps) (nI n) pcs sqa mvs los lsz lfs asz afs) (wr := oW cJ ho o) (rnV (As := []) (rest := [.int (nI 0), .ref ho]) S0 (c_X4_check l (A := va_A (cW cI cJ h0 h1 h2 a0 a1 a2 a3 h3 a4 h4 a5 (bI kb) (bI ob) ow tr fu kg co pn (nI sd) (nI rt) (pI ps) (nI n) pcs sqa mvs los lsz lfs asz afs) s.heap.size) bd hCP sd rt ps hs2 hr16 hp65 kb ob hKL hc hlen) wm_L_50 wi_X4_check ws_X4_check wn_X4 wc_X4_check hd_X4_check ⟨rfl, rfl, by decide, by decide⟩ IW.blind (va_recv hK hP (ci := 3) (q0 := 0) rfl rfl) (IW.cut hP hD hK hA hE hS) hl.1 (Nat.le_of_ble_eq_true rfl) dL_check_3 rfl ⟨by decide, by decide⟩) hP hD hA hS (fun r u H locs hu hP hD hS => ?_)
    obtain ⟨rfl, hLI⟩ := hu
    have hki := kia_e hb9 hs2 (plb_k hs2 hp)
    refine lb_if_eq (tgt := 13) hx hb dL_check_6 (by decide) (fun c6 => ?_) (fun c6 => ?_)
    · skip
      refine lv_lconst (v := 0) hx hb dL_check_13 (by decide) ?_
      refine va_last hx hb hK hP hD hS 11 1 rfl rfl (vp_in_nI (by decide) (by decide)) dL_check_14 (fun H locs hP hD hS => ?_)
      refine lv_goto (tgt := 21) hx hb dL_check_15 (by decide) ?_
      refine lv_iconst (v := nI 0) hx hb dL_check_21 (by decide) ?_
      refine W.widen (k := 1) (n := 6) (by decide) (by decide) ?_
      exact weX (((bI true, bI true, u.2.1, u.2.2.1, u.2.2.2.1, u.2.2.2.2.1, u.2.2.2.2.2.1, u.2.2.2.2.2.2), (nI sd, nI rt, pI ps, nI n), (pcs, sqa, mvs, los), nI (fil bd sd rt ps).length, u.1, asz, afs), vp_updL o (nI 0).toNatClampNeg 0) hx hb hr hlocks dL_check_22 (⟨by rw [hnd], ⟨hCP, rfl, rfl, rfl, rfl, true, true, rfl, rfl, KLp.yes hc hLI⟩, Kp.rf _ _, fun _ => by refine (ov0 o 0).trans ?_; rw [if_neg (show ¬ isA bd (kgs bd sd) (1 - sd) = true by rw [← hki, c6]; decide)]⟩) hP hD hK hA hE hS
    · skip
      refine lv_lconst (v := 1) hx hb dL_check_9 (by decide) ?_
      refine lv_goto (tgt := 14) hx hb dL_check_10 (by decide) ?_
      refine va_last hx hb hK hP hD hS 11 1 rfl rfl (vp_in_nI (by decide) (by decide)) dL_check_14 (fun H locs hP hD hS => ?_)
      refine lv_goto (tgt := 21) hx hb dL_check_15 (by decide) ?_
      refine lv_iconst (v := nI 0) hx hb dL_check_21 (by decide) ?_
      refine W.widen (k := 1) (n := 6) (by decide) (by decide) ?_
      exact weX (((bI true, bI true, u.2.1, u.2.2.1, u.2.2.2.1, u.2.2.2.2.1, u.2.2.2.2.2.1, u.2.2.2.2.2.2), (nI sd, nI rt, pI ps, nI n), (pcs, sqa, mvs, los), nI (fil bd sd rt ps).length, u.1, asz, afs), vp_updL o (nI 0).toNatClampNeg 1) hx hb hr hlocks dL_check_22 (⟨by rw [hnd], ⟨hCP, rfl, rfl, rfl, rfl, true, true, rfl, rfl, KLp.yes hc hLI⟩, Kp.rf _ _, fun _ => by refine (ov0 o 1).trans ?_; rw [if_pos (hki.symm.trans c6)]⟩) hP hD hK hA hE hS
  · skip
    have hc : cbp bd sd = false := (cbp_e hb9 hs2).trans (by simpa using hp)
    have hnd : ndN bd sd = 1 := if_neg hp
    refine ftX (A := A) (wc := cW cI cJ h0 h1 h2 a0 a1 a2 a3 h3 a4 h4 a5 (bI kb) (bI ob) ow tr fu kg co pn (nI sd) (nI rt) (pI ps) (nI n) pcs sqa mvs los lsz lfs asz afs) (wr := oW cJ ho o) (rnVX (As := []) (rest := [.int (nI 0), .ref ho]) S0 (nlX l hlt (A := va_A (cW cI cJ h0 h1 h2 a0 a1 a2 a3 h3 a4 h4 a5 (bI kb) (bI ob) ow tr fu kg co pn (nI sd) (nI rt) (pI ps) (nI n) pcs sqa mvs los lsz lfs asz afs) s.heap.size) bd hCP sd rt ps hs2 hr16 hp65 kb ob hKL hc (y := yX4_check) (cc := cX4_check) (maxL := 1) (ret := (some .boolean)) (by decide) (Nat.le_of_ble_eq_true rfl) rfl dX4_check_0 dX4_check_1) wm_L_50 wi_X4_check ws_X4_check wn_X4 wc_X4_check hd_X4_check ⟨rfl, rfl, by decide, by decide⟩ XW.blind (va_recv hK hP (ci := 3) (q0 := 0) rfl rfl) (XW.cut hP hD hK hA hE hX hS) hl.1 (Nat.le_of_ble_eq_true rfl) dL_check_3 rfl ⟨by decide, by decide⟩) hP hD hA hS (fun ce q9 u H locs hp9 hP hD hS hc1 hc2 hc3 => ?_)
    have hLI := hp9
    refine vx_catch hown ([]) ⟨0, 15, 18, 25⟩ (tableOf []) (htb.trans rfl) (fun _ h => nomatch h) (by decide) (by decide) (hG _ wl_L_25) (va_Nw.use rfl hX.c3) hc1 hc2 hc3 ?_
    refine lv_astore_n (lv' := [(2, .ref q9), (0, .ref h0), (1, .ref ho)]) hx hb dL_check_18 rfl hl (by decide) rfl (fun ls hl => ?_)
    refine lv_iconst (v := nI 1) hx hb dL_check_19 (by decide) ?_
    exact weX ((((bI true, bI false, ow, tr, fu, kg, co, pn), (nI sd, nI rt, pI ps, nI n), (pcs, sqa, mvs, los), u, lfs, asz, afs), o)) hx hb hr hlocks dL_check_20 (⟨by rw [hnd], ⟨hCP, rfl, rfl, rfl, rfl, true, false, rfl, rfl, KLp.no hc⟩, Kp.rf _ _, fun z => absurd (hnd.symm.trans z) (by decide)⟩) hP hD hK hA hE hS
theorem dL_move_0 : decode cL_move 0 = .ok (.aload_n 2, 1) := by decide +kernel
theorem dL_move_1 : decode cL_move 1 = .ok (.iconst 0, 1) := by decide +kernel
theorem dL_move_2 : decode cL_move 2 = .ok (.aload_n 0, 1) := by decide +kernel
theorem dL_move_3 : decode cL_move 3 = .ok (.iload_n 1, 1) := by decide +kernel
theorem dL_move_4 : decode cL_move 4 = .ok (.invokevirtual 27, 3) := by decide +kernel
theorem dL_move_7 : decode cL_move 7 = .ok (.i2l, 1) := by decide +kernel
theorem dL_move_8 : decode cL_move 8 = .ok (.lastore, 1) := by decide +kernel
theorem dL_move_9 : decode cL_move 9 = .ok (.goto 9, 3) := by decide +kernel
theorem dL_move_12 : decode cL_move 12 = .ok (.astore_n 3, 1) := by decide +kernel
theorem dL_move_13 : decode cL_move 13 = .ok (.iconst 1, 1) := by decide +kernel
theorem dL_move_14 : decode cL_move 14 = .ok (.ireturn, 1) := by decide +kernel
theorem dL_move_15 : decode cL_move 15 = .ok (.astore_n 3, 1) := by decide +kernel
theorem dL_move_16 : decode cL_move 16 = .ok (.iconst 2, 1) := by decide +kernel
theorem dL_move_17 : decode cL_move 17 = .ok (.ireturn, 1) := by decide +kernel
theorem dL_move_18 : decode cL_move 18 = .ok (.iconst 0, 1) := by decide +kernel
theorem dL_move_19 : decode cL_move 19 = .ok (.ireturn, 1) := by decide +kernel
set_option maxHeartbeats 4000000 in
set_option maxRecDepth 100000 in
theorem c_L_move (l : Launch) (hlt : l.stackTraces = false) {D : va_G} {cI cJ : ClassId} {A : Nat → Prop} {h0 h1 h2 a0 a1 a2 a3 h3 a4 h4 a5 : Nat} (x : CS) {ho : Nat} (o : Nat → Int64) (bd : Nat → Nat) (sd rt ps n : Nat) (hs2 : sd < 2) (hr16 : rt < 16) (hp65 : ps < 65) (hn : n ≤ 200) (hI : CI x bd sd rt ps n) (v : Int32) : Met l yL_move (Cond.codeWith yL_move cL_move 4 (some .int) [(0, 9, 12, 25), (0, 9, 15, 13)] :: wsL_law) (rX 9) (va_Pc [.ref h0, .int v, .ref ho] (XW D cI cJ A (cV cI cJ h0 h1 h2 a0 a1 a2 a3 h3 a4 h4 a5 x ++ oW cJ ho o))) (va_Qi (fun r u => r = nI (mvc bd sd rt ps v) ∧ CI u.1 bd sd rt ps n ∧ Kp x u.1 n ∧ (mvc bd sd rt ps v = 0 → u.2 0 = (nI ((lgs bd sd rt ps).getD v.toNatClampNeg 0)).toInt64)) (fun (u : CS × (Nat → Int64)) t9 => IW D cI cJ A (cV cI cJ h0 h1 h2 a0 a1 a2 a3 h3 a4 h4 a5 u.1 ++ oW cJ ho u.2) t9) A) 1 6 A := by
  refine entH (by decide) (Nat.le_of_ble_eq_true rfl) ?_
  intro p e s m below meth c ls S0 hr hlocks hG htb hB hl
  have hx := S0.1
  have hb := S0.2.1
  have hown := S0.2.2.2.1
  have hl : lv_has ls 4 [(0, .ref h0), (1, .int v), (2, .ref ho)] := hl
  obtain ⟨⟨hP, hD, hK, hA, hE⟩, hX⟩ := hB
  have hS : va_S A s.heap s.heap [] := va_S.rf
  obtain ⟨⟨kn, op, ow, tr, fu, kg, co, pn⟩, ⟨si, ri, pa, ma⟩, ⟨pcs, sqa, mvs, los⟩, lsz, lfs, asz, afs⟩ := x
  obtain ⟨hCP, e1, e2, e3, e4, kb, ob, e5, e6, hKL⟩ := hI
  dsimp only at hCP e1 e2 e3 e4 e5 e6 hKL hP hD
  subst e1 e2 e3 e4 e5 e6
  have hb9 : ∀ q, q < 64 → bd q < 13 := fun q hq => (hCP.1 q hq).2
  have hP : va_P D classes (cW cI cJ h0 h1 h2 a0 a1 a2 a3 h3 a4 h4 a5 (bI kb) (bI ob) ow tr fu kg co pn (nI sd) (nI rt) (pI ps) (nI n) pcs sqa mvs los lsz lfs asz afs ++ oW cJ ho o) s.heap := hP
  have hD : va_D A (cW cI cJ h0 h1 h2 a0 a1 a2 a3 h3 a4 h4 a5 (bI kb) (bI ob) ow tr fu kg co pn (nI sd) (nI rt) (pI ps) (nI n) pcs sqa mvs los lsz lfs asz afs ++ oW cJ ho o) := hD
  refine lv_aload_n hx hb dL_move_0 rfl (lv_at hl 2 rfl) ?_
  refine lv_iconst (v := nI 0) hx hb dL_move_1 (by decide) ?_
  refine lv_aload_n hx hb dL_move_2 rfl (lv_at hl 0 rfl) ?_
  refine lv_iload_n hx hb dL_move_3 rfl (lv_at hl 1 rfl) ?_
  by_cases hp : plb bd sd = true
  · skip
    have hc : cbp bd sd = true := (cbp_e hb9 hs2).trans hp
    have hfe : fil bd sd rt ps = legs bd sd rt ps := fil_e hb9 hs2 hr16 hp65 hp
    have hlen : (fil bd sd rt ps).length ≤ 700 := by rw [hfe]; exact len_ok bd sd rt ps hb9 hs2 hp65
    have hlg : lgs bd sd rt ps = legs bd sd rt ps := if_pos hp
    have hnd : ndN bd sd = 0 := if_pos hp
    have hsz : szN bd sd rt ps = (legs bd sd rt ps).length := if_pos hp
    by_cases hq : v < 0 ∨ ¬ v < nI (szN bd sd rt ps)
    · skip
      have hcd : mvc bd sd rt ps v = 2 := by unfold mvc; rw [if_pos hnd, if_pos hq]
      refine ftX (A := A) (wc := cW cI cJ h0 h1 h2 a0 a1 a2 a3 h3 a4 h4 a5 (bI kb) (bI ob) ow tr fu kg co pn (nI sd) (nI rt) (pI ps) (nI n) pcs sqa mvs los lsz lfs asz afs) (wr := oW cJ ho o) (rnVX (As := [.int v]) (rest := [.int (nI 0), .ref ho]) S0 (x_X4_move_2 l hlt (A := va_A (cW cI cJ h0 h1 h2 a0 a1 a2 a3 h3 a4 h4 a5 (bI kb) (bI ob) ow tr fu kg co pn (nI sd) (nI rt) (pI ps) (nI n) pcs sqa mvs los lsz lfs asz afs) s.heap.size) bd hCP sd rt ps hs2 hr16 hp65 kb ob hKL hc hlen v (by rw [hsz] at hq; rw [hfe]; exact hq)) wm_L_27 wi_X4_move ws_X4_move wn_X4 wc_X4_move hd_X4_move ⟨rfl, rfl, by decide, by decide⟩ XW.blind (va_recv hK hP (ci := 3) (q0 := 0) rfl rfl) (XW.cut hP hD hK hA hE hX hS) hl.1 (Nat.le_of_ble_eq_true rfl) dL_move_4 rfl ⟨by decide, by decide⟩) hP hD hA hS (fun ce q9 u H locs hp9 hP hD hS hc1 hc2 hc3 => ?_)
      have hLI := hp9
      refine vx_catch hown (tableOf [(0, 9, 12, 25)]) ⟨0, 9, 15, 13⟩ (tableOf []) (htb.trans rfl) (fun z h => (List.mem_cons.mp h).elim (fun h => h ▸ (Or.inr ⟨by decide, _, hG _ wl_L_25, hX.n2⟩)) (fun h => nomatch h)) (by decide) (by decide) (hG _ wl_L_13) (va_Nw.use rfl hX.c1) hc1 hc2 hc3 ?_
      refine lv_astore_n (lv' := [(3, .ref q9), (0, .ref h0), (1, .int v), (2, .ref ho)]) hx hb dL_move_15 rfl hl (by decide) rfl (fun ls hl => ?_)
      refine lv_iconst (v := nI 2) hx hb dL_move_16 (by decide) ?_
      exact weX ((((bI true, bI true, u.2.1, u.2.2.1, u.2.2.2.1, u.2.2.2.2.1, u.2.2.2.2.2.1, u.2.2.2.2.2.2), (nI sd, nI rt, pI ps, nI n), (pcs, sqa, mvs, los), nI (fil bd sd rt ps).length, u.1, asz, afs), o)) hx hb hr hlocks dL_move_17 (⟨by rw [hcd], ⟨hCP, rfl, rfl, rfl, rfl, true, true, rfl, rfl, KLp.yes hc hLI⟩, Kp.rf _ _, fun z => absurd (hcd.symm.trans z) (by decide)⟩) hP hD hK hA hE hS
    · skip
      have hcd : mvc bd sd rt ps v = 0 := by unfold mvc; rw [if_pos hnd, if_neg hq]; exact hnd
      rw [not_or] at hq
      obtain ⟨j, hj0, rfl⟩ := nI_of hq.1
      have hj : j < (fil bd sd rt ps).length := by rw [hfe, ← hsz]; exact (nI_ltI hj0 (by rw [hsz, ← hfe]; omega)).mp (Classical.not_not.mp hq.2)
      refine ftI (A := A) (wc := cW cI cJ h0 h1 h2 a0 a1 a2 a3 h3 a4 h4 a5 (bI kb) (bI ob) ow tr fu kg co pn (nI sd) (nI rt) (pI ps) (nI n) pcs sqa mvs los lsz lfs asz afs) (wr := oW cJ ho o) (rnV (As := [.int (nI j)]) (rest := [.int (nI 0), .ref ho]) S0 (c_X4_move l (A := va_A (cW cI cJ h0 h1 h2 a0 a1 a2 a3 h3 a4 h4 a5 (bI kb) (bI ob) ow tr fu kg co pn (nI sd) (nI rt) (pI ps) (nI n) pcs sqa mvs los lsz lfs asz afs) s.heap.size) bd hCP sd rt ps hs2 hr16 hp65 kb ob hKL hc hlen j hj) wm_L_27 wi_X4_move ws_X4_move wn_X4 wc_X4_move hd_X4_move ⟨rfl, rfl, by decide, by decide⟩ IW.blind (va_recv hK hP (ci := 3) (q0 := 0) rfl rfl) (IW.cut hP hD hK hA hE hS) hl.1 (Nat.le_of_ble_eq_true rfl) dL_move_4 rfl ⟨by decide, by decide⟩) hP hD hA hS (fun r u H locs hu hP hD hS => ?_)
      obtain ⟨rfl, hLI⟩ := hu
      refine lv_i2l hx hb dL_move_7 rfl ?_
      refine va_last hx hb hK hP hD hS 11 1 rfl rfl (vp_in_nI (by decide) (by decide)) dL_move_8 (fun H locs hP hD hS => ?_)
      refine lv_goto (tgt := 18) hx hb dL_move_9 (by decide) ?_
      refine lv_iconst (v := nI 0) hx hb dL_move_18 (by decide) ?_
      refine W.widen (k := 1) (n := 6) (by decide) (by decide) ?_
      exact weX ((((bI true, bI true, u.2.1, u.2.2.1, u.2.2.2.1, u.2.2.2.2.1, u.2.2.2.2.2.1, u.2.2.2.2.2.2), (nI sd, nI rt, pI ps, nI n), (pcs, sqa, mvs, los), nI (fil bd sd rt ps).length, u.1, asz, afs), (vp_updL o (nI 0).toNatClampNeg (nI ((fil bd sd rt ps).getD j 0)).toInt64))) hx hb hr hlocks dL_move_19 (⟨by rw [hcd], ⟨hCP, rfl, rfl, rfl, rfl, true, true, rfl, rfl, KLp.yes hc hLI⟩, Kp.rf _ _, fun _ => by refine (ov0 o (nI ((fil bd sd rt ps).getD j 0)).toInt64).trans ?_; rw [nI_clamp hj0, hlg, hfe]⟩) hP hD hK hA hE hS
  · skip
    have hc : cbp bd sd = false := (cbp_e hb9 hs2).trans (by simpa using hp)
    have hnd : ndN bd sd = 1 := if_neg hp
    have hcd : mvc bd sd rt ps v = 1 := by unfold mvc; rw [if_neg (by rw [hnd]; decide), hnd]
    refine ftX (A := A) (wc := cW cI cJ h0 h1 h2 a0 a1 a2 a3 h3 a4 h4 a5 (bI kb) (bI ob) ow tr fu kg co pn (nI sd) (nI rt) (pI ps) (nI n) pcs sqa mvs los lsz lfs asz afs) (wr := oW cJ ho o) (rnVX (As := [.int v]) (rest := [.int (nI 0), .ref ho]) S0 (nlX l hlt (A := va_A (cW cI cJ h0 h1 h2 a0 a1 a2 a3 h3 a4 h4 a5 (bI kb) (bI ob) ow tr fu kg co pn (nI sd) (nI rt) (pI ps) (nI n) pcs sqa mvs los lsz lfs asz afs) s.heap.size) bd hCP sd rt ps hs2 hr16 hp65 kb ob hKL hc (y := yX4_move) (cc := cX4_move) (maxL := 2) (ret := (some .int)) (by decide) (Nat.le_of_ble_eq_true rfl) rfl dX4_move_0 dX4_move_1) wm_L_27 wi_X4_move ws_X4_move wn_X4 wc_X4_move hd_X4_move ⟨rfl, rfl, by decide, by decide⟩ XW.blind (va_recv hK hP (ci := 3) (q0 := 0) rfl rfl) (XW.cut hP hD hK hA hE hX hS) hl.1 (Nat.le_of_ble_eq_true rfl) dL_move_4 rfl ⟨by decide, by decide⟩) hP hD hA hS (fun ce q9 u H locs hp9 hP hD hS hc1 hc2 hc3 => ?_)
    have hLI := hp9
    refine vx_catch hown ([]) ⟨0, 9, 12, 25⟩ (tableOf [(0, 9, 15, 13)]) (htb.trans rfl) (fun _ h => nomatch h) (by decide) (by decide) (hG _ wl_L_25) (va_Nw.use rfl hX.c3) hc1 hc2 hc3 ?_
    refine lv_astore_n (lv' := [(3, .ref q9), (0, .ref h0), (1, .int v), (2, .ref ho)]) hx hb dL_move_12 rfl hl (by decide) rfl (fun ls hl => ?_)
    refine lv_iconst (v := nI 1) hx hb dL_move_13 (by decide) ?_
    exact weX ((((bI true, bI false, ow, tr, fu, kg, co, pn), (nI sd, nI rt, pI ps, nI n), (pcs, sqa, mvs, los), u, lfs, asz, afs), o)) hx hb hr hlocks dL_move_14 (⟨by rw [hcd], ⟨hCP, rfl, rfl, rfl, rfl, true, false, rfl, rfl, KLp.no hc⟩, Kp.rf _ _, fun z => absurd (hcd.symm.trans z) (by decide)⟩) hP hD hK hA hE hS
theorem dL_kind_0 : decode cL_kind 0 = .ok (.aload_n 2, 1) := by decide +kernel
theorem dL_kind_1 : decode cL_kind 1 = .ok (.iconst 0, 1) := by decide +kernel
theorem dL_kind_2 : decode cL_kind 2 = .ok (.aload_n 0, 1) := by decide +kernel
theorem dL_kind_3 : decode cL_kind 3 = .ok (.iload_n 1, 1) := by decide +kernel
theorem dL_kind_4 : decode cL_kind 4 = .ok (.invokevirtual 38, 3) := by decide +kernel
theorem dL_kind_7 : decode cL_kind 7 = .ok (.i2l, 1) := by decide +kernel
theorem dL_kind_8 : decode cL_kind 8 = .ok (.lastore, 1) := by decide +kernel
theorem dL_kind_9 : decode cL_kind 9 = .ok (.goto 9, 3) := by decide +kernel
theorem dL_kind_12 : decode cL_kind 12 = .ok (.astore_n 3, 1) := by decide +kernel
theorem dL_kind_13 : decode cL_kind 13 = .ok (.iconst 1, 1) := by decide +kernel
theorem dL_kind_14 : decode cL_kind 14 = .ok (.ireturn, 1) := by decide +kernel
theorem dL_kind_15 : decode cL_kind 15 = .ok (.astore_n 3, 1) := by decide +kernel
theorem dL_kind_16 : decode cL_kind 16 = .ok (.iconst 2, 1) := by decide +kernel
theorem dL_kind_17 : decode cL_kind 17 = .ok (.ireturn, 1) := by decide +kernel
theorem dL_kind_18 : decode cL_kind 18 = .ok (.iconst 0, 1) := by decide +kernel
theorem dL_kind_19 : decode cL_kind 19 = .ok (.ireturn, 1) := by decide +kernel
set_option maxHeartbeats 4000000 in
set_option maxRecDepth 100000 in
theorem c_L_kind (l : Launch) (hlt : l.stackTraces = false) {D : va_G} {cI cJ : ClassId} {A : Nat → Prop} {h0 h1 h2 a0 a1 a2 a3 h3 a4 h4 a5 : Nat} (x : CS) {ho : Nat} (o : Nat → Int64) (bd : Nat → Nat) (sd rt ps n : Nat) (hs2 : sd < 2) (hr16 : rt < 16) (hp65 : ps < 65) (hn : n ≤ 200) (hI : CI x bd sd rt ps n) (v : Int32) : Met l yL_kind (Cond.codeWith yL_kind cL_kind 4 (some .int) [(0, 9, 12, 25), (0, 9, 15, 15)] :: wsL_law) (rX 9) (va_Pc [.ref h0, .int v, .ref ho] (XW D cI cJ A (cV cI cJ h0 h1 h2 a0 a1 a2 a3 h3 a4 h4 a5 x ++ oW cJ ho o))) (va_Qi (fun r u => r = nI (kdc bd sd rt ps v) ∧ CI u.1 bd sd rt ps n ∧ Kp x u.1 n ∧ (kdc bd sd rt ps v = 0 → ∀ f t k, f < 64 → t < 64 → k < 6 → v = nI (f + 64 * t + 4096 * k) → u.2 0 = (nI (knd bd sd rt ps f t k)).toInt64)) (fun (u : CS × (Nat → Int64)) t9 => IW D cI cJ A (cV cI cJ h0 h1 h2 a0 a1 a2 a3 h3 a4 h4 a5 u.1 ++ oW cJ ho u.2) t9) A) 1 6 A := by
  refine entH (by decide) (Nat.le_of_ble_eq_true rfl) ?_
  intro p e s m below meth c ls S0 hr hlocks hG htb hB hl
  have hx := S0.1
  have hb := S0.2.1
  have hown := S0.2.2.2.1
  have hl : lv_has ls 4 [(0, .ref h0), (1, .int v), (2, .ref ho)] := hl
  obtain ⟨⟨hP, hD, hK, hA, hE⟩, hX⟩ := hB
  have hS : va_S A s.heap s.heap [] := va_S.rf
  obtain ⟨⟨kn, op, ow, tr, fu, kg, co, pn⟩, ⟨si, ri, pa, ma⟩, ⟨pcs, sqa, mvs, los⟩, lsz, lfs, asz, afs⟩ := x
  obtain ⟨hCP, e1, e2, e3, e4, kb, ob, e5, e6, hKL⟩ := hI
  dsimp only at hCP e1 e2 e3 e4 e5 e6 hKL hP hD
  subst e1 e2 e3 e4 e5 e6
  have hb9 : ∀ q, q < 64 → bd q < 13 := fun q hq => (hCP.1 q hq).2
  have hP : va_P D classes (cW cI cJ h0 h1 h2 a0 a1 a2 a3 h3 a4 h4 a5 (bI kb) (bI ob) ow tr fu kg co pn (nI sd) (nI rt) (pI ps) (nI n) pcs sqa mvs los lsz lfs asz afs ++ oW cJ ho o) s.heap := hP
  have hD : va_D A (cW cI cJ h0 h1 h2 a0 a1 a2 a3 h3 a4 h4 a5 (bI kb) (bI ob) ow tr fu kg co pn (nI sd) (nI rt) (pI ps) (nI n) pcs sqa mvs los lsz lfs asz afs ++ oW cJ ho o) := hD
  refine lv_aload_n hx hb dL_kind_0 rfl (lv_at hl 2 rfl) ?_
  refine lv_iconst (v := nI 0) hx hb dL_kind_1 (by decide) ?_
  refine lv_aload_n hx hb dL_kind_2 rfl (lv_at hl 0 rfl) ?_
  refine lv_iload_n hx hb dL_kind_3 rfl (lv_at hl 1 rfl) ?_
  by_cases hp : plb bd sd = true
  · skip
    have hc : cbp bd sd = true := (cbp_e hb9 hs2).trans hp
    have hfe : fil bd sd rt ps = legs bd sd rt ps := fil_e hb9 hs2 hr16 hp65 hp
    have hlen : (fil bd sd rt ps).length ≤ 700 := by rw [hfe]; exact len_ok bd sd rt ps hb9 hs2 hp65
    have hlg : lgs bd sd rt ps = legs bd sd rt ps := if_pos hp
    have hnd : ndN bd sd = 0 := if_pos hp
    have hsz : szN bd sd rt ps = (legs bd sd rt ps).length := if_pos hp
    by_cases hq : 0 ≤ plc (lgs bd sd rt ps) v (lgs bd sd rt ps).length
    · skip
      have hcd : kdc bd sd rt ps v = 0 := by unfold kdc; rw [if_pos hnd, if_pos hq]
      obtain ⟨f, t, k, hf, ht, hk, rfl, hlL⟩ := isl_of hp (by rw [hlg, ← hfe]; omega) hq
      have hin : ¬ fplN (fil bd sd rt ps) (nI (f + 64 * t + 4096 * k)) (fil bd sd rt ps).length = (-1) := by
        rw [hfe, fpl_e (legs_nd bd sd rt ps) (fun y h => legs_lt h)]
        rw [hlg] at hq
        intro z
        rw [z] at hq
        exact absurd hq (by decide)
      have hGM : GM bd sd f t k := GM_e hb9 hs2 hf ht hk hlL
      refine ftI (A := A) (wc := cW cI cJ h0 h1 h2 a0 a1 a2 a3 h3 a4 h4 a5 (bI kb) (bI ob) ow tr fu kg co pn (nI sd) (nI rt) (pI ps) (nI n) pcs sqa mvs los lsz lfs asz afs) (wr := oW cJ ho o) (rnV (As := [.int (nI (f + 64 * t + 4096 * k))]) (rest := [.int (nI 0), .ref ho]) S0 (c_X4_kind l (A := va_A (cW cI cJ h0 h1 h2 a0 a1 a2 a3 h3 a4 h4 a5 (bI kb) (bI ob) ow tr fu kg co pn (nI sd) (nI rt) (pI ps) (nI n) pcs sqa mvs los lsz lfs asz afs) s.heap.size) bd hCP sd rt ps hs2 hr16 hp65 kb ob hKL hc hlen n hn f t k hGM hin) wm_L_38 wi_X4_kind ws_X4_kind wn_X4 wc_X4_kind hd_X4_kind ⟨rfl, rfl, by decide, by decide⟩ IW.blind (va_recv hK hP (ci := 3) (q0 := 0) rfl rfl) (IW.cut hP hD hK hA hE hS) hl.1 (Nat.le_of_ble_eq_true rfl) dL_kind_4 rfl ⟨by decide, by decide⟩) hP hD hA hS (fun r u H locs hu hP hD hS => ?_)
      obtain ⟨rfl, hC9, hk9, hLI⟩ := hu
      refine lv_i2l hx hb dL_kind_7 rfl ?_
      refine va_last hx hb hK hP hD hS 11 1 rfl rfl (vp_in_nI (by decide) (by decide)) dL_kind_8 (fun H locs hP hD hS => ?_)
      refine lv_goto (tgt := 18) hx hb dL_kind_9 (by decide) ?_
      refine lv_iconst (v := nI 0) hx hb dL_kind_18 (by decide) ?_
      refine W.widen (k := 1) (n := 6) (by decide) (by decide) ?_
      exact weX ((((bI true, bI true, u.2.2.2.2.2.1, u.2.2.2.2.2.2.1, u.2.2.2.2.2.2.2.1, u.2.2.2.2.2.2.2.2.1, u.2.2.2.2.2.2.2.2.2.1, u.2.2.2.2.2.2.2.2.2.2), (nI sd, nI rt, pI ps, nI n), (u.1, u.2.1, u.2.2.1, u.2.2.2.1), nI (fil bd sd rt ps).length, u.2.2.2.2.1, asz, afs), (vp_updL o (nI 0).toNatClampNeg (nI (knC bd sd rt f t k)).toInt64))) hx hb hr hlocks dL_kind_19 (⟨by rw [hcd], ⟨hC9, rfl, rfl, rfl, rfl, true, true, rfl, rfl, KLp.yes hc hLI⟩, hk9, fun _ f2 t2 k2 g1 g2 g3 e9 => by obtain ⟨rfl, rfl, rfl⟩ := mv_inj hf ht hk g1 g2 g3 e9; refine (ov0 o (nI (knC bd sd rt f t k)).toInt64).trans ?_; rw [knC_e hb9 hs2 hr16 hp hf ht hk hlL]⟩) hP hD hK hA hE hS
    · skip
      have hcd : kdc bd sd rt ps v = 2 := by unfold kdc; rw [if_pos hnd, if_neg hq]
      refine ftX (A := A) (wc := cW cI cJ h0 h1 h2 a0 a1 a2 a3 h3 a4 h4 a5 (bI kb) (bI ob) ow tr fu kg co pn (nI sd) (nI rt) (pI ps) (nI n) pcs sqa mvs los lsz lfs asz afs) (wr := oW cJ ho o) (rnVX (As := [.int v]) (rest := [.int (nI 0), .ref ho]) S0 (x_X4_kind_2 l hlt (A := va_A (cW cI cJ h0 h1 h2 a0 a1 a2 a3 h3 a4 h4 a5 (bI kb) (bI ob) ow tr fu kg co pn (nI sd) (nI rt) (pI ps) (nI n) pcs sqa mvs los lsz lfs asz afs) s.heap.size) bd hCP sd rt ps hs2 hr16 hp65 kb ob hKL hc hlen v (by rw [hfe, fpl_e (legs_nd bd sd rt ps) (fun y h => legs_lt h), ← hlg]; exact plc_m1 (by rw [hlg, ← hfe]; omega) hq)) wm_L_38 wi_X4_kind ws_X4_kind wn_X4 wc_X4_kind hd_X4_kind ⟨rfl, rfl, by decide, by decide⟩ XW.blind (va_recv hK hP (ci := 3) (q0 := 0) rfl rfl) (XW.cut hP hD hK hA hE hX hS) hl.1 (Nat.le_of_ble_eq_true rfl) dL_kind_4 rfl ⟨by decide, by decide⟩) hP hD hA hS (fun ce q9 u H locs hp9 hP hD hS hc1 hc2 hc3 => ?_)
      have hLI := hp9
      refine vx_catch hown (tableOf [(0, 9, 12, 25)]) ⟨0, 9, 15, 15⟩ (tableOf []) (htb.trans rfl) (fun z h => (List.mem_cons.mp h).elim (fun h => h ▸ (Or.inr ⟨by decide, _, hG _ wl_L_25, hX.n3⟩)) (fun h => nomatch h)) (by decide) (by decide) (hG _ wl_L_15) (va_Nw.use rfl hX.c2) hc1 hc2 hc3 ?_
      refine lv_astore_n (lv' := [(3, .ref q9), (0, .ref h0), (1, .int v), (2, .ref ho)]) hx hb dL_kind_15 rfl hl (by decide) rfl (fun ls hl => ?_)
      refine lv_iconst (v := nI 2) hx hb dL_kind_16 (by decide) ?_
      exact weX ((((bI true, bI true, u.2.1, u.2.2.1, u.2.2.2.1, u.2.2.2.2.1, u.2.2.2.2.2.1, u.2.2.2.2.2.2), (nI sd, nI rt, pI ps, nI n), (pcs, sqa, mvs, los), nI (fil bd sd rt ps).length, u.1, asz, afs), o)) hx hb hr hlocks dL_kind_17 (⟨by rw [hcd], ⟨hCP, rfl, rfl, rfl, rfl, true, true, rfl, rfl, KLp.yes hc hLI⟩, Kp.rf _ _, fun z => absurd (hcd.symm.trans z) (by decide)⟩) hP hD hK hA hE hS
  · skip
    have hc : cbp bd sd = false := (cbp_e hb9 hs2).trans (by simpa using hp)
    have hnd : ndN bd sd = 1 := if_neg hp
    have hcd : kdc bd sd rt ps v = 1 := by unfold kdc; rw [if_neg (by rw [hnd]; decide), hnd]
    refine ftX (A := A) (wc := cW cI cJ h0 h1 h2 a0 a1 a2 a3 h3 a4 h4 a5 (bI kb) (bI ob) ow tr fu kg co pn (nI sd) (nI rt) (pI ps) (nI n) pcs sqa mvs los lsz lfs asz afs) (wr := oW cJ ho o) (rnVX (As := [.int v]) (rest := [.int (nI 0), .ref ho]) S0 (nlX l hlt (A := va_A (cW cI cJ h0 h1 h2 a0 a1 a2 a3 h3 a4 h4 a5 (bI kb) (bI ob) ow tr fu kg co pn (nI sd) (nI rt) (pI ps) (nI n) pcs sqa mvs los lsz lfs asz afs) s.heap.size) bd hCP sd rt ps hs2 hr16 hp65 kb ob hKL hc (y := yX4_kind) (cc := cX4_kind) (maxL := 3) (ret := (some .int)) (by decide) (Nat.le_of_ble_eq_true rfl) rfl dX4_kind_0 dX4_kind_1) wm_L_38 wi_X4_kind ws_X4_kind wn_X4 wc_X4_kind hd_X4_kind ⟨rfl, rfl, by decide, by decide⟩ XW.blind (va_recv hK hP (ci := 3) (q0 := 0) rfl rfl) (XW.cut hP hD hK hA hE hX hS) hl.1 (Nat.le_of_ble_eq_true rfl) dL_kind_4 rfl ⟨by decide, by decide⟩) hP hD hA hS (fun ce q9 u H locs hp9 hP hD hS hc1 hc2 hc3 => ?_)
    have hLI := hp9
    refine vx_catch hown ([]) ⟨0, 9, 12, 25⟩ (tableOf [(0, 9, 15, 15)]) (htb.trans rfl) (fun _ h => nomatch h) (by decide) (by decide) (hG _ wl_L_25) (va_Nw.use rfl hX.c3) hc1 hc2 hc3 ?_
    refine lv_astore_n (lv' := [(3, .ref q9), (0, .ref h0), (1, .int v), (2, .ref ho)]) hx hb dL_kind_12 rfl hl (by decide) rfl (fun ls hl => ?_)
    refine lv_iconst (v := nI 1) hx hb dL_kind_13 (by decide) ?_
    exact weX ((((bI true, bI false, ow, tr, fu, kg, co, pn), (nI sd, nI rt, pI ps, nI n), (pcs, sqa, mvs, los), u, lfs, asz, afs), o)) hx hb hr hlocks dL_kind_14 (⟨by rw [hcd], ⟨hCP, rfl, rfl, rfl, rfl, true, false, rfl, rfl, KLp.no hc⟩, Kp.rf _ _, fun z => absurd (hcd.symm.trans z) (by decide)⟩) hP hD hK hA hE hS
theorem dL_lines_0 : decode cL_lines 0 = .ok (.aload_n 2, 1) := by decide +kernel
theorem dL_lines_1 : decode cL_lines 1 = .ok (.iconst 0, 1) := by decide +kernel
theorem dL_lines_2 : decode cL_lines 2 = .ok (.aload_n 0, 1) := by decide +kernel
theorem dL_lines_3 : decode cL_lines 3 = .ok (.iload_n 1, 1) := by decide +kernel
theorem dL_lines_4 : decode cL_lines 4 = .ok (.invokevirtual 41, 3) := by decide +kernel
theorem dL_lines_7 : decode cL_lines 7 = .ok (.lastore, 1) := by decide +kernel
theorem dL_lines_8 : decode cL_lines 8 = .ok (.goto 9, 3) := by decide +kernel
theorem dL_lines_11 : decode cL_lines 11 = .ok (.astore_n 3, 1) := by decide +kernel
theorem dL_lines_12 : decode cL_lines 12 = .ok (.iconst 1, 1) := by decide +kernel
theorem dL_lines_13 : decode cL_lines 13 = .ok (.ireturn, 1) := by decide +kernel
theorem dL_lines_14 : decode cL_lines 14 = .ok (.astore_n 3, 1) := by decide +kernel
theorem dL_lines_15 : decode cL_lines 15 = .ok (.iconst 2, 1) := by decide +kernel
theorem dL_lines_16 : decode cL_lines 16 = .ok (.ireturn, 1) := by decide +kernel
theorem dL_lines_17 : decode cL_lines 17 = .ok (.iconst 0, 1) := by decide +kernel
theorem dL_lines_18 : decode cL_lines 18 = .ok (.ireturn, 1) := by decide +kernel
set_option maxHeartbeats 4000000 in
set_option maxRecDepth 100000 in
theorem c_L_lines (l : Launch) (hlt : l.stackTraces = false) {D : va_G} {cI cJ : ClassId} {A : Nat → Prop} {h0 h1 h2 a0 a1 a2 a3 h3 a4 h4 a5 : Nat} (x : CS) {ho : Nat} (o : Nat → Int64) (bd : Nat → Nat) (sd rt ps n : Nat) (hs2 : sd < 2) (hr16 : rt < 16) (hp65 : ps < 65) (hn : n ≤ 200) (hI : CI x bd sd rt ps n) (v : Int32) : Met l yL_lines (Cond.codeWith yL_lines cL_lines 4 (some .int) [(0, 8, 11, 25), (0, 8, 14, 15)] :: wsL_law) (rX 9) (va_Pc [.ref h0, .int v, .ref ho] (XW D cI cJ A (cV cI cJ h0 h1 h2 a0 a1 a2 a3 h3 a4 h4 a5 x ++ oW cJ ho o))) (va_Qi (fun r u => r = nI (lnc bd sd v) ∧ CI u.1 bd sd rt ps n ∧ Kp x u.1 n ∧ (lnc bd sd v = 0 → ∀ d, d < 4 → v = nI d → u.2 0 = lN (cnD bd sd rt ps d))) (fun (u : CS × (Nat → Int64)) t9 => IW D cI cJ A (cV cI cJ h0 h1 h2 a0 a1 a2 a3 h3 a4 h4 a5 u.1 ++ oW cJ ho u.2) t9) A) 1 6 A := by
  refine entH (by decide) (Nat.le_of_ble_eq_true rfl) ?_
  intro p e s m below meth c ls S0 hr hlocks hG htb hB hl
  have hx := S0.1
  have hb := S0.2.1
  have hown := S0.2.2.2.1
  have hl : lv_has ls 4 [(0, .ref h0), (1, .int v), (2, .ref ho)] := hl
  obtain ⟨⟨hP, hD, hK, hA, hE⟩, hX⟩ := hB
  have hS : va_S A s.heap s.heap [] := va_S.rf
  obtain ⟨⟨kn, op, ow, tr, fu, kg, co, pn⟩, ⟨si, ri, pa, ma⟩, ⟨pcs, sqa, mvs, los⟩, lsz, lfs, asz, afs⟩ := x
  obtain ⟨hCP, e1, e2, e3, e4, kb, ob, e5, e6, hKL⟩ := hI
  dsimp only at hCP e1 e2 e3 e4 e5 e6 hKL hP hD
  subst e1 e2 e3 e4 e5 e6
  have hb9 : ∀ q, q < 64 → bd q < 13 := fun q hq => (hCP.1 q hq).2
  have hP : va_P D classes (cW cI cJ h0 h1 h2 a0 a1 a2 a3 h3 a4 h4 a5 (bI kb) (bI ob) ow tr fu kg co pn (nI sd) (nI rt) (pI ps) (nI n) pcs sqa mvs los lsz lfs asz afs ++ oW cJ ho o) s.heap := hP
  have hD : va_D A (cW cI cJ h0 h1 h2 a0 a1 a2 a3 h3 a4 h4 a5 (bI kb) (bI ob) ow tr fu kg co pn (nI sd) (nI rt) (pI ps) (nI n) pcs sqa mvs los lsz lfs asz afs ++ oW cJ ho o) := hD
  refine lv_aload_n hx hb dL_lines_0 rfl (lv_at hl 2 rfl) ?_
  refine lv_iconst (v := nI 0) hx hb dL_lines_1 (by decide) ?_
  refine lv_aload_n hx hb dL_lines_2 rfl (lv_at hl 0 rfl) ?_
  refine lv_iload_n hx hb dL_lines_3 rfl (lv_at hl 1 rfl) ?_
  by_cases hp : plb bd sd = true
  · skip
    have hc : cbp bd sd = true := (cbp_e hb9 hs2).trans hp
    have hfe : fil bd sd rt ps = legs bd sd rt ps := fil_e hb9 hs2 hr16 hp65 hp
    have hlen : (fil bd sd rt ps).length ≤ 700 := by rw [hfe]; exact len_ok bd sd rt ps hb9 hs2 hp65
    have hlg : lgs bd sd rt ps = legs bd sd rt ps := if_pos hp
    have hnd : ndN bd sd = 0 := if_pos hp
    have hsz : szN bd sd rt ps = (legs bd sd rt ps).length := if_pos hp
    by_cases hq : v < 0 ∨ ¬ v ≤ nI 3
    · skip
      have hcd : lnc bd sd v = 2 := by unfold lnc; rw [if_pos hnd, if_pos hq]
      refine ftX (A := A) (wc := cW cI cJ h0 h1 h2 a0 a1 a2 a3 h3 a4 h4 a5 (bI kb) (bI ob) ow tr fu kg co pn (nI sd) (nI rt) (pI ps) (nI n) pcs sqa mvs los lsz lfs asz afs) (wr := oW cJ ho o) (rnVX (As := [.int v]) (rest := [.int (nI 0), .ref ho]) S0 (x_X4_lines_2 l hlt (A := va_A (cW cI cJ h0 h1 h2 a0 a1 a2 a3 h3 a4 h4 a5 (bI kb) (bI ob) ow tr fu kg co pn (nI sd) (nI rt) (pI ps) (nI n) pcs sqa mvs los lsz lfs asz afs) s.heap.size) bd hCP sd rt ps hs2 hr16 hp65 kb ob hKL hc hlen v hq) wm_L_41 wi_X4_lines ws_X4_lines wn_X4 wc_X4_lines hd_X4_lines ⟨rfl, rfl, by decide, by decide⟩ XW.blind (va_recv hK hP (ci := 3) (q0 := 0) rfl rfl) (XW.cut hP hD hK hA hE hX hS) hl.1 (Nat.le_of_ble_eq_true rfl) dL_lines_4 rfl ⟨by decide, by decide⟩) hP hD hA hS (fun ce q9 u H locs hp9 hP hD hS hc1 hc2 hc3 => ?_)
      have hLI := hp9
      refine vx_catch hown (tableOf [(0, 8, 11, 25)]) ⟨0, 8, 14, 15⟩ (tableOf []) (htb.trans rfl) (fun z h => (List.mem_cons.mp h).elim (fun h => h ▸ (Or.inr ⟨by decide, _, hG _ wl_L_25, hX.n3⟩)) (fun h => nomatch h)) (by decide) (by decide) (hG _ wl_L_15) (va_Nw.use rfl hX.c2) hc1 hc2 hc3 ?_
      refine lv_astore_n (lv' := [(3, .ref q9), (0, .ref h0), (1, .int v), (2, .ref ho)]) hx hb dL_lines_14 rfl hl (by decide) rfl (fun ls hl => ?_)
      refine lv_iconst (v := nI 2) hx hb dL_lines_15 (by decide) ?_
      exact weX ((((bI true, bI true, u.2.1, u.2.2.1, u.2.2.2.1, u.2.2.2.2.1, u.2.2.2.2.2.1, u.2.2.2.2.2.2), (nI sd, nI rt, pI ps, nI n), (pcs, sqa, mvs, los), nI (fil bd sd rt ps).length, u.1, asz, afs), o)) hx hb hr hlocks dL_lines_16 (⟨by rw [hcd], ⟨hCP, rfl, rfl, rfl, rfl, true, true, rfl, rfl, KLp.yes hc hLI⟩, Kp.rf _ _, fun z => absurd (hcd.symm.trans z) (by decide)⟩) hP hD hK hA hE hS
    · skip
      have hcd : lnc bd sd v = 0 := by unfold lnc; rw [if_pos hnd, if_neg hq]
      obtain ⟨-, d, hd, rfl⟩ := lnc_0 hcd
      have hd4 : d = 0 ∨ d = 1 ∨ d = 2 ∨ d = 3 := by omega
      rcases hd4 with rfl | rfl | rfl | rfl
      · skip
        refine ftL (A := A) (wc := cW cI cJ h0 h1 h2 a0 a1 a2 a3 h3 a4 h4 a5 (bI kb) (bI ob) ow tr fu kg co pn (nI sd) (nI rt) (pI ps) (nI n) pcs sqa mvs los lsz lfs asz afs) (wr := oW cJ ho o) (rnV (As := [.int (nI 0)]) (rest := [.int (nI 0), .ref ho]) S0 (c_X4_lines_0 l (A := va_A (cW cI cJ h0 h1 h2 a0 a1 a2 a3 h3 a4 h4 a5 (bI kb) (bI ob) ow tr fu kg co pn (nI sd) (nI rt) (pI ps) (nI n) pcs sqa mvs los lsz lfs asz afs) s.heap.size) bd hCP sd rt ps hs2 hr16 hp65 kb ob hKL hc hlen n hn) wm_L_41 wi_X4_lines ws_X4_lines wn_X4 wc_X4_lines hd_X4_lines ⟨rfl, rfl, by decide, by decide⟩ IW.blind (va_recv hK hP (ci := 3) (q0 := 0) rfl rfl) (IW.cut hP hD hK hA hE hS) hl.1 (Nat.le_of_ble_eq_true rfl) dL_lines_4 rfl ⟨by decide, by decide⟩) hP hD hA hS (fun r u H locs hu hP hD hS => ?_)
        obtain ⟨rfl, hC9, hk9, hLI⟩ := hu
        refine va_last hx hb hK hP hD hS 11 1 rfl rfl (vp_in_nI (by decide) (by decide)) dL_lines_7 (fun H locs hP hD hS => ?_)
        refine lv_goto (tgt := 17) hx hb dL_lines_8 (by decide) ?_
        refine lv_iconst (v := nI 0) hx hb dL_lines_17 (by decide) ?_
        refine W.widen (k := 1) (n := 6) (by decide) (by decide) ?_
        exact weX ((((bI true, bI true, u.2.2.2.2.2.2.2.1, u.2.2.2.2.2.2.2.2.1, u.2.2.2.2.2.2.2.2.2.1, u.2.2.2.2.2.2.2.2.2.2.1, u.2.2.2.2.2.2.2.2.2.2.2.1, u.2.2.2.2.2.2.2.2.2.2.2.2), (nI sd, nI rt, pI ps, nI n), (u.1, u.2.1, u.2.2.1, u.2.2.2.1), nI (fil bd sd rt ps).length, u.2.2.2.2.2.2.1, u.2.2.2.2.1, u.2.2.2.2.2.1), (vp_updL o (nI 0).toNatClampNeg (lN 1)))) hx hb hr hlocks dL_lines_18 (⟨by rw [hcd], ⟨hC9, rfl, rfl, rfl, rfl, true, true, rfl, rfl, KLp.yes hc hLI⟩, hk9, fun _ d2 g1 e9 => by obtain rfl := (nI_eq (show 0 < 2 ^ 31 by decide) (show d2 < 2 ^ 31 by omega)).mp e9; refine (ov0 o (lN 1)).trans ?_; rfl⟩) hP hD hK hA hE hS
      · skip
        refine ftL (A := A) (wc := cW cI cJ h0 h1 h2 a0 a1 a2 a3 h3 a4 h4 a5 (bI kb) (bI ob) ow tr fu kg co pn (nI sd) (nI rt) (pI ps) (nI n) pcs sqa mvs los lsz lfs asz afs) (wr := oW cJ ho o) (rnV (As := [.int (nI 1)]) (rest := [.int (nI 0), .ref ho]) S0 (c_X4_lines_1 l (A := va_A (cW cI cJ h0 h1 h2 a0 a1 a2 a3 h3 a4 h4 a5 (bI kb) (bI ob) ow tr fu kg co pn (nI sd) (nI rt) (pI ps) (nI n) pcs sqa mvs los lsz lfs asz afs) s.heap.size) bd hCP sd rt ps hs2 hr16 hp65 kb ob hKL hc hlen n hn) wm_L_41 wi_X4_lines ws_X4_lines wn_X4 wc_X4_lines hd_X4_lines ⟨rfl, rfl, by decide, by decide⟩ IW.blind (va_recv hK hP (ci := 3) (q0 := 0) rfl rfl) (IW.cut hP hD hK hA hE hS) hl.1 (Nat.le_of_ble_eq_true rfl) dL_lines_4 rfl ⟨by decide, by decide⟩) hP hD hA hS (fun r u H locs hu hP hD hS => ?_)
        obtain ⟨rfl, hC9, hk9, hLI⟩ := hu
        refine va_last hx hb hK hP hD hS 11 1 rfl rfl (vp_in_nI (by decide) (by decide)) dL_lines_7 (fun H locs hP hD hS => ?_)
        refine lv_goto (tgt := 17) hx hb dL_lines_8 (by decide) ?_
        refine lv_iconst (v := nI 0) hx hb dL_lines_17 (by decide) ?_
        refine W.widen (k := 1) (n := 6) (by decide) (by decide) ?_
        exact weX ((((bI true, bI true, u.2.2.2.2.2.2.2.1, u.2.2.2.2.2.2.2.2.1, u.2.2.2.2.2.2.2.2.2.1, u.2.2.2.2.2.2.2.2.2.2.1, u.2.2.2.2.2.2.2.2.2.2.2.1, u.2.2.2.2.2.2.2.2.2.2.2.2), (nI sd, nI rt, pI ps, nI n), (u.1, u.2.1, u.2.2.1, u.2.2.2.1), nI (fil bd sd rt ps).length, u.2.2.2.2.2.2.1, u.2.2.2.2.1, u.2.2.2.2.2.1), (vp_updL o (nI 0).toNatClampNeg (lN (fil bd sd rt ps).length)))) hx hb hr hlocks dL_lines_18 (⟨by rw [hcd], ⟨hC9, rfl, rfl, rfl, rfl, true, true, rfl, rfl, KLp.yes hc hLI⟩, hk9, fun _ d2 g1 e9 => by obtain rfl := (nI_eq (show 1 < 2 ^ 31 by decide) (show d2 < 2 ^ 31 by omega)).mp e9; refine (ov0 o (lN (fil bd sd rt ps).length)).trans ?_; rw [hfe]; rfl⟩) hP hD hK hA hE hS
      · skip
        refine ftL (A := A) (wc := cW cI cJ h0 h1 h2 a0 a1 a2 a3 h3 a4 h4 a5 (bI kb) (bI ob) ow tr fu kg co pn (nI sd) (nI rt) (pI ps) (nI n) pcs sqa mvs los lsz lfs asz afs) (wr := oW cJ ho o) (rnV (As := [.int (nI 2)]) (rest := [.int (nI 0), .ref ho]) S0 (c_X4_lines_2 l (A := va_A (cW cI cJ h0 h1 h2 a0 a1 a2 a3 h3 a4 h4 a5 (bI kb) (bI ob) ow tr fu kg co pn (nI sd) (nI rt) (pI ps) (nI n) pcs sqa mvs los lsz lfs asz afs) s.heap.size) bd hCP sd rt ps hs2 hr16 hp65 kb ob hKL hc hlen n hn (by rw [hfe]; exact gm_all hb9 hs2)) wm_L_41 wi_X4_lines ws_X4_lines wn_X4 wc_X4_lines hd_X4_lines ⟨rfl, rfl, by decide, by decide⟩ IW.blind (va_recv hK hP (ci := 3) (q0 := 0) rfl rfl) (IW.cut hP hD hK hA hE hS) hl.1 (Nat.le_of_ble_eq_true rfl) dL_lines_4 rfl ⟨by decide, by decide⟩) hP hD hA hS (fun r u H locs hu hP hD hS => ?_)
        obtain ⟨rfl, hC9, hk9, hLI⟩ := hu
        refine va_last hx hb hK hP hD hS 11 1 rfl rfl (vp_in_nI (by decide) (by decide)) dL_lines_7 (fun H locs hP hD hS => ?_)
        refine lv_goto (tgt := 17) hx hb dL_lines_8 (by decide) ?_
        refine lv_iconst (v := nI 0) hx hb dL_lines_17 (by decide) ?_
        refine W.widen (k := 1) (n := 6) (by decide) (by decide) ?_
        exact weX ((((bI true, bI true, u.2.2.2.2.2.2.2.1, u.2.2.2.2.2.2.2.2.1, u.2.2.2.2.2.2.2.2.2.1, u.2.2.2.2.2.2.2.2.2.2.1, u.2.2.2.2.2.2.2.2.2.2.2.1, u.2.2.2.2.2.2.2.2.2.2.2.2), (nI sd, nI rt, pI ps, nI n), (u.1, u.2.1, u.2.2.1, u.2.2.2.1), nI (fil bd sd rt ps).length, u.2.2.2.2.2.2.1, u.2.2.2.2.1, u.2.2.2.2.2.1), (vp_updL o (nI 0).toNatClampNeg (lN ((fil bd sd rt ps).map (cb1 bd sd rt)).sum)))) hx hb hr hlocks dL_lines_18 (⟨by rw [hcd], ⟨hC9, rfl, rfl, rfl, rfl, true, true, rfl, rfl, KLp.yes hc hLI⟩, hk9, fun _ d2 g1 e9 => by obtain rfl := (nI_eq (show 2 < 2 ^ 31 by decide) (show d2 < 2 ^ 31 by omega)).mp e9; refine (ov0 o (lN ((fil bd sd rt ps).map (cb1 bd sd rt)).sum)).trans ?_; rw [hfe, cn2_e hb9 hs2 hr16 hp]; rfl⟩) hP hD hK hA hE hS
      · skip
        refine ftL (A := A) (wc := cW cI cJ h0 h1 h2 a0 a1 a2 a3 h3 a4 h4 a5 (bI kb) (bI ob) ow tr fu kg co pn (nI sd) (nI rt) (pI ps) (nI n) pcs sqa mvs los lsz lfs asz afs) (wr := oW cJ ho o) (rnV (As := [.int (nI 3)]) (rest := [.int (nI 0), .ref ho]) S0 (c_X4_lines_3 l (A := va_A (cW cI cJ h0 h1 h2 a0 a1 a2 a3 h3 a4 h4 a5 (bI kb) (bI ob) ow tr fu kg co pn (nI sd) (nI rt) (pI ps) (nI n) pcs sqa mvs los lsz lfs asz afs) s.heap.size) bd hCP sd rt ps hs2 hr16 hp65 kb ob hKL hc hlen n hn (fun f t k hm hf ht hk => by rw [hfe] at hm; have hl := lg_mem hf ht hk hm; exact ⟨GM_e hb9 hs2 hf ht hk hl, nx_len hb9 hs2 hr16 hp hf ht hk hl, nx_gm hb9 hs2 hr16 hp hf ht hk hl⟩) (fun y hy => by rw [hfe] at hy; obtain ⟨f, t, k, hf, ht, hk, e9, -⟩ := legs_of hy; exact ⟨f, t, k, hf, ht, hk, e9⟩)) wm_L_41 wi_X4_lines ws_X4_lines wn_X4 wc_X4_lines hd_X4_lines ⟨rfl, rfl, by decide, by decide⟩ IW.blind (va_recv hK hP (ci := 3) (q0 := 0) rfl rfl) (IW.cut hP hD hK hA hE hS) hl.1 (Nat.le_of_ble_eq_true rfl) dL_lines_4 rfl ⟨by decide, by decide⟩) hP hD hA hS (fun r u H locs hu hP hD hS => ?_)
        obtain ⟨rfl, hC9, hk9, hLI⟩ := hu
        refine va_last hx hb hK hP hD hS 11 1 rfl rfl (vp_in_nI (by decide) (by decide)) dL_lines_7 (fun H locs hP hD hS => ?_)
        refine lv_goto (tgt := 17) hx hb dL_lines_8 (by decide) ?_
        refine lv_iconst (v := nI 0) hx hb dL_lines_17 (by decide) ?_
        refine W.widen (k := 1) (n := 6) (by decide) (by decide) ?_
        exact weX ((((bI true, bI true, u.2.2.2.2.2.2.2.1, u.2.2.2.2.2.2.2.2.1, u.2.2.2.2.2.2.2.2.2.1, u.2.2.2.2.2.2.2.2.2.2.1, u.2.2.2.2.2.2.2.2.2.2.2.1, u.2.2.2.2.2.2.2.2.2.2.2.2), (nI sd, nI rt, pI ps, nI n), (u.1, u.2.1, u.2.2.1, u.2.2.2.1), nI (fil bd sd rt ps).length, u.2.2.2.2.2.2.1, u.2.2.2.2.1, u.2.2.2.2.2.1), (vp_updL o (nI 0).toNatClampNeg (lN ((fil bd sd rt ps).map (cb2 bd sd rt)).sum)))) hx hb hr hlocks dL_lines_18 (⟨by rw [hcd], ⟨hC9, rfl, rfl, rfl, rfl, true, true, rfl, rfl, KLp.yes hc hLI⟩, hk9, fun _ d2 g1 e9 => by obtain rfl := (nI_eq (show 3 < 2 ^ 31 by decide) (show d2 < 2 ^ 31 by omega)).mp e9; refine (ov0 o (lN ((fil bd sd rt ps).map (cb2 bd sd rt)).sum)).trans ?_; rw [hfe, cn3_e hb9 hs2 hr16 hp]; rfl⟩) hP hD hK hA hE hS
  · skip
    have hc : cbp bd sd = false := (cbp_e hb9 hs2).trans (by simpa using hp)
    have hnd : ndN bd sd = 1 := if_neg hp
    have hcd : lnc bd sd v = 1 := by unfold lnc; rw [if_neg (by rw [hnd]; decide), hnd]
    refine ftX (A := A) (wc := cW cI cJ h0 h1 h2 a0 a1 a2 a3 h3 a4 h4 a5 (bI kb) (bI ob) ow tr fu kg co pn (nI sd) (nI rt) (pI ps) (nI n) pcs sqa mvs los lsz lfs asz afs) (wr := oW cJ ho o) (rnVX (As := [.int v]) (rest := [.int (nI 0), .ref ho]) S0 (nlX l hlt (A := va_A (cW cI cJ h0 h1 h2 a0 a1 a2 a3 h3 a4 h4 a5 (bI kb) (bI ob) ow tr fu kg co pn (nI sd) (nI rt) (pI ps) (nI n) pcs sqa mvs los lsz lfs asz afs) s.heap.size) bd hCP sd rt ps hs2 hr16 hp65 kb ob hKL hc (y := yX4_lines) (cc := cX4_lines) (maxL := 2) (ret := (some .long)) (by decide) (Nat.le_of_ble_eq_true rfl) rfl dX4_lines_0 dX4_lines_1) wm_L_41 wi_X4_lines ws_X4_lines wn_X4 wc_X4_lines hd_X4_lines ⟨rfl, rfl, by decide, by decide⟩ XW.blind (va_recv hK hP (ci := 3) (q0 := 0) rfl rfl) (XW.cut hP hD hK hA hE hX hS) hl.1 (Nat.le_of_ble_eq_true rfl) dL_lines_4 rfl ⟨by decide, by decide⟩) hP hD hA hS (fun ce q9 u H locs hp9 hP hD hS hc1 hc2 hc3 => ?_)
    have hLI := hp9
    refine vx_catch hown ([]) ⟨0, 8, 11, 25⟩ (tableOf [(0, 8, 14, 15)]) (htb.trans rfl) (fun _ h => nomatch h) (by decide) (by decide) (hG _ wl_L_25) (va_Nw.use rfl hX.c3) hc1 hc2 hc3 ?_
    refine lv_astore_n (lv' := [(3, .ref q9), (0, .ref h0), (1, .int v), (2, .ref ho)]) hx hb dL_lines_11 rfl hl (by decide) rfl (fun ls hl => ?_)
    refine lv_iconst (v := nI 1) hx hb dL_lines_12 (by decide) ?_
    exact weX ((((bI true, bI false, ow, tr, fu, kg, co, pn), (nI sd, nI rt, pI ps, nI n), (pcs, sqa, mvs, los), u, lfs, asz, afs), o)) hx hb hr hlocks dL_lines_13 (⟨by rw [hcd], ⟨hCP, rfl, rfl, rfl, rfl, true, false, rfl, rfl, KLp.no hc⟩, Kp.rf _ _, fun z => absurd (hcd.symm.trans z) (by decide)⟩) hP hD hK hA hE hS
theorem dL_make_0 : decode cL_make 0 = .ok (.aload_n 2, 1) := by decide +kernel
theorem dL_make_1 : decode cL_make 1 = .ok (.iconst 0, 1) := by decide +kernel
theorem dL_make_2 : decode cL_make 2 = .ok (.aload_n 0, 1) := by decide +kernel
theorem dL_make_3 : decode cL_make 3 = .ok (.iload_n 1, 1) := by decide +kernel
theorem dL_make_4 : decode cL_make 4 = .ok (.invokevirtual 45, 3) := by decide +kernel
theorem dL_make_7 : decode cL_make 7 = .ok (.i2l, 1) := by decide +kernel
theorem dL_make_8 : decode cL_make 8 = .ok (.lastore, 1) := by decide +kernel
theorem dL_make_9 : decode cL_make 9 = .ok (.goto 12, 3) := by decide +kernel
theorem dL_make_12 : decode cL_make 12 = .ok (.astore_n 3, 1) := by decide +kernel
theorem dL_make_13 : decode cL_make 13 = .ok (.iconst 1, 1) := by decide +kernel
theorem dL_make_14 : decode cL_make 14 = .ok (.ireturn, 1) := by decide +kernel
theorem dL_make_15 : decode cL_make 15 = .ok (.astore_n 3, 1) := by decide +kernel
theorem dL_make_16 : decode cL_make 16 = .ok (.iconst 2, 1) := by decide +kernel
theorem dL_make_17 : decode cL_make 17 = .ok (.ireturn, 1) := by decide +kernel
theorem dL_make_18 : decode cL_make 18 = .ok (.astore_n 3, 1) := by decide +kernel
theorem dL_make_19 : decode cL_make 19 = .ok (.iconst 3, 1) := by decide +kernel
theorem dL_make_20 : decode cL_make 20 = .ok (.ireturn, 1) := by decide +kernel
theorem dL_make_21 : decode cL_make 21 = .ok (.iconst 0, 1) := by decide +kernel
theorem dL_make_22 : decode cL_make 22 = .ok (.ireturn, 1) := by decide +kernel
set_option maxHeartbeats 4000000 in
set_option maxRecDepth 100000 in
theorem c_L_make (l : Launch) (hlt : l.stackTraces = false) {D : va_G} {cI cJ : ClassId} {A : Nat → Prop} {h0 h1 h2 a0 a1 a2 a3 h3 a4 h4 a5 : Nat} (x : CS) {ho : Nat} (o : Nat → Int64) (bd : Nat → Nat) (sd rt ps n : Nat) (hs2 : sd < 2) (hr16 : rt < 16) (hp65 : ps < 65) (hn : n ≤ 200) (hI : CI x bd sd rt ps n) (v : Int32) : Met l yL_make (Cond.codeWith yL_make cL_make 4 (some .int) [(0, 9, 12, 25), (0, 9, 15, 15), (0, 9, 18, 48)] :: wsL_law) (rX 9) (va_Pc [.ref h0, .int v, .ref ho] (XW D cI cJ A (cV cI cJ h0 h1 h2 a0 a1 a2 a3 h3 a4 h4 a5 x ++ oW cJ ho o))) (va_Qi (fun r u => r = nI (mkc bd sd rt ps n v) ∧ (¬ mkc bd sd rt ps n v = 0 → CI u.1 bd sd rt ps n ∧ Kp x u.1 n) ∧ (mkc bd sd rt ps n v = 0 → ∀ f t k, f < 64 → t < 64 → k < 6 → v = nI (f + 64 * t + 4096 * k) → CI u.1 (bhB bd sd ps f t k) (1 - sd) (bhR bd sd rt f t) (bhP bd sd ps f t k) (n + 1) ∧ cMv u.1 = upd (cMv x) n v ∧ cLo u.1 = upd (cLo x) n (losE (bd (tkn bd f t)) (tkn bd f t) rt ps) ∧ u.2 0 = (nI (legs (bhB bd sd ps f t k) (1 - sd) (bhR bd sd rt f t) (bhP bd sd ps f t k)).length).toInt64)) (fun (u : CS × (Nat → Int64)) t9 => IW D cI cJ A (cV cI cJ h0 h1 h2 a0 a1 a2 a3 h3 a4 h4 a5 u.1 ++ oW cJ ho u.2) t9) A) 1 6 A := by
  refine entH (by decide) (Nat.le_of_ble_eq_true rfl) ?_
  intro p e s m below meth c ls S0 hr hlocks hG htb hB hl
  have hx := S0.1
  have hb := S0.2.1
  have hown := S0.2.2.2.1
  have hl : lv_has ls 4 [(0, .ref h0), (1, .int v), (2, .ref ho)] := hl
  obtain ⟨⟨hP, hD, hK, hA, hE⟩, hX⟩ := hB
  have hS : va_S A s.heap s.heap [] := va_S.rf
  obtain ⟨⟨kn, op, ow, tr, fu, kg, co, pn⟩, ⟨si, ri, pa, ma⟩, ⟨pcs, sqa, mvs, los⟩, lsz, lfs, asz, afs⟩ := x
  obtain ⟨hCP, e1, e2, e3, e4, kb, ob, e5, e6, hKL⟩ := hI
  dsimp only at hCP e1 e2 e3 e4 e5 e6 hKL hP hD
  subst e1 e2 e3 e4 e5 e6
  have hb9 : ∀ q, q < 64 → bd q < 13 := fun q hq => (hCP.1 q hq).2
  have hP : va_P D classes (cW cI cJ h0 h1 h2 a0 a1 a2 a3 h3 a4 h4 a5 (bI kb) (bI ob) ow tr fu kg co pn (nI sd) (nI rt) (pI ps) (nI n) pcs sqa mvs los lsz lfs asz afs ++ oW cJ ho o) s.heap := hP
  have hD : va_D A (cW cI cJ h0 h1 h2 a0 a1 a2 a3 h3 a4 h4 a5 (bI kb) (bI ob) ow tr fu kg co pn (nI sd) (nI rt) (pI ps) (nI n) pcs sqa mvs los lsz lfs asz afs ++ oW cJ ho o) := hD
  refine lv_aload_n hx hb dL_make_0 rfl (lv_at hl 2 rfl) ?_
  refine lv_iconst (v := nI 0) hx hb dL_make_1 (by decide) ?_
  refine lv_aload_n hx hb dL_make_2 rfl (lv_at hl 0 rfl) ?_
  refine lv_iload_n hx hb dL_make_3 rfl (lv_at hl 1 rfl) ?_
  by_cases hp : plb bd sd = true
  · skip
    have hc : cbp bd sd = true := (cbp_e hb9 hs2).trans hp
    have hfe : fil bd sd rt ps = legs bd sd rt ps := fil_e hb9 hs2 hr16 hp65 hp
    have hlen : (fil bd sd rt ps).length ≤ 700 := by rw [hfe]; exact len_ok bd sd rt ps hb9 hs2 hp65
    have hlg : lgs bd sd rt ps = legs bd sd rt ps := if_pos hp
    have hnd : ndN bd sd = 0 := if_pos hp
    have hsz : szN bd sd rt ps = (legs bd sd rt ps).length := if_pos hp
    by_cases hq : 0 ≤ plc (lgs bd sd rt ps) v (lgs bd sd rt ps).length
    · skip
      by_cases hn9 : n = 200
      · skip
        have hcd : mkc bd sd rt ps n v = 3 := by unfold mkc; rw [if_pos hnd, if_pos hq, if_pos hn9]
        subst hn9
        have hin : ¬ fplN (fil bd sd rt ps) v (fil bd sd rt ps).length = (-1) := by
          rw [hfe, fpl_e (legs_nd bd sd rt ps) (fun y h => legs_lt h)]
          rw [hlg] at hq
          intro z
          rw [z] at hq
          exact absurd hq (by decide)
        refine ftX (A := A) (wc := cW cI cJ h0 h1 h2 a0 a1 a2 a3 h3 a4 h4 a5 (bI kb) (bI ob) ow tr fu kg co pn (nI sd) (nI rt) (pI ps) (nI 200) pcs sqa mvs los lsz lfs asz afs) (wr := oW cJ ho o) (rnVX (As := [.int v]) (rest := [.int (nI 0), .ref ho]) S0 (x_X4_make_3 l hlt (A := va_A (cW cI cJ h0 h1 h2 a0 a1 a2 a3 h3 a4 h4 a5 (bI kb) (bI ob) ow tr fu kg co pn (nI sd) (nI rt) (pI ps) (nI 200) pcs sqa mvs los lsz lfs asz afs) s.heap.size) bd hCP sd rt ps hs2 hr16 hp65 kb ob hKL hc hlen v hin) wm_L_45 wi_X4_make ws_X4_make wn_X4 wc_X4_make hd_X4_make ⟨rfl, rfl, by decide, by decide⟩ XW.blind (va_recv hK hP (ci := 3) (q0 := 0) rfl rfl) (XW.cut hP hD hK hA hE hX hS) hl.1 (Nat.le_of_ble_eq_true rfl) dL_make_4 rfl ⟨by decide, by decide⟩) hP hD hA hS (fun ce q9 u H locs hp9 hP hD hS hc1 hc2 hc3 => ?_)
        have hLI := hp9
        refine vx_catch hown (tableOf [(0, 9, 12, 25), (0, 9, 15, 15)]) ⟨0, 9, 18, 48⟩ (tableOf []) (htb.trans rfl) (fun z h => (List.mem_cons.mp h).elim (fun h => h ▸ (Or.inr ⟨by decide, _, hG _ wl_L_25, hX.n4⟩)) (fun h => (List.mem_cons.mp h).elim (fun h => h ▸ (Or.inr ⟨by decide, _, hG _ wl_L_15, hX.n5⟩)) (fun h => nomatch h))) (by decide) (by decide) (hG _ wl_L_48) (va_Nw.use rfl hX.c4) hc1 hc2 hc3 ?_
        refine lv_astore_n (lv' := [(3, .ref q9), (0, .ref h0), (1, .int v), (2, .ref ho)]) hx hb dL_make_18 rfl hl (by decide) rfl (fun ls hl => ?_)
        refine lv_iconst (v := nI 3) hx hb dL_make_19 (by decide) ?_
        exact weX ((((bI true, bI true, u.2.1, u.2.2.1, u.2.2.2.1, u.2.2.2.2.1, u.2.2.2.2.2.1, u.2.2.2.2.2.2), (nI sd, nI rt, pI ps, nI 200), (pcs, sqa, mvs, los), nI (fil bd sd rt ps).length, u.1, asz, afs), o)) hx hb hr hlocks dL_make_20 (⟨by rw [hcd], fun _ => ⟨⟨hCP, rfl, rfl, rfl, rfl, true, true, rfl, rfl, KLp.yes hc hLI⟩, Kp.rf _ _⟩, fun z => absurd (hcd.symm.trans z) (by decide)⟩) hP hD hK hA hE hS
      · skip
        have hcd : mkc bd sd rt ps n v = 0 := by unfold mkc; rw [if_pos hnd, if_pos hq, if_neg hn9]
        obtain ⟨f, t, k, hf, ht, hk, rfl, hlL⟩ := isl_of hp (by rw [hlg, ← hfe]; omega) hq
        have hin : ¬ fplN (fil bd sd rt ps) (nI (f + 64 * t + 4096 * k)) (fil bd sd rt ps).length = (-1) := by
          rw [hfe, fpl_e (legs_nd bd sd rt ps) (fun y h => legs_lt h)]
          rw [hlg] at hq
          intro z
          rw [z] at hq
          exact absurd hq (by decide)
        have hGM : GM bd sd f t k := GM_e hb9 hs2 hf ht hk hlL
        refine ftI (A := A) (wc := cW cI cJ h0 h1 h2 a0 a1 a2 a3 h3 a4 h4 a5 (bI kb) (bI ob) ow tr fu kg co pn (nI sd) (nI rt) (pI ps) (nI n) pcs sqa mvs los lsz lfs asz afs) (wr := oW cJ ho o) (rnV (As := [.int (nI (f + 64 * t + 4096 * k))]) (rest := [.int (nI 0), .ref ho]) S0 (c_X4_make l (A := va_A (cW cI cJ h0 h1 h2 a0 a1 a2 a3 h3 a4 h4 a5 (bI kb) (bI ob) ow tr fu kg co pn (nI sd) (nI rt) (pI ps) (nI n) pcs sqa mvs los lsz lfs asz afs) s.heap.size) bd hCP sd rt ps hs2 hr16 hp65 kb ob hKL hc hlen n (by omega) f t k hGM hin (nx_cbp hb9 hs2 hr16 hp hf ht hk hlL) (nx_len hb9 hs2 hr16 hp hf ht hk hlL)) wm_L_45 wi_X4_make ws_X4_make wn_X4 wc_X4_make hd_X4_make ⟨rfl, rfl, by decide, by decide⟩ IW.blind (va_recv hK hP (ci := 3) (q0 := 0) rfl rfl) (IW.cut hP hD hK hA hE hS) hl.1 (Nat.le_of_ble_eq_true rfl) dL_make_4 rfl ⟨by decide, by decide⟩) hP hD hA hS (fun r u H locs hu hP hD hS => ?_)
        try dsimp only at hu hP hD
        rw [plB_e hb9 hs2 hf ht hlL, plR_e, pss_e hb9 hs2 hf ht hlL] at hu hP hD
        obtain ⟨rfl, hC9, hm9, hl9, hLI⟩ := hu
        have hfe2 := nx_fil hb9 hs2 hr16 hp hf ht hk hlL
        have hc2 := nx_cbp hb9 hs2 hr16 hp hf ht hk hlL
        rw [plB_e hb9 hs2 hf ht hlL] at hc2
        rw [plB_e hb9 hs2 hf ht hlL, plR_e, pss_e hb9 hs2 hf ht hlL] at hfe2
        refine lv_i2l hx hb dL_make_7 rfl ?_
        refine va_last hx hb hK hP hD hS 11 1 rfl rfl (vp_in_nI (by decide) (by decide)) dL_make_8 (fun H locs hP hD hS => ?_)
        refine lv_goto (tgt := 21) hx hb dL_make_9 (by decide) ?_
        refine lv_iconst (v := nI 0) hx hb dL_make_21 (by decide) ?_
        refine W.widen (k := 1) (n := 6) (by decide) (by decide) ?_
        exact weX ((((bI true, bI true, u.2.2.2.2.2.1, u.2.2.2.2.2.2.1, u.2.2.2.2.2.2.2.1, u.2.2.2.2.2.2.2.2.1, u.2.2.2.2.2.2.2.2.2.1, u.2.2.2.2.2.2.2.2.2.2), (nI (1 - sd), nI (bhR bd sd rt f t), pI (bhP bd sd ps f t k), nI (n + 1)), (u.1, u.2.1, u.2.2.1, u.2.2.2.1), nI (fil (bhB bd sd ps f t k) (1 - sd) (bhR bd sd rt f t) (bhP bd sd ps f t k)).length, u.2.2.2.2.1, asz, afs), (vp_updL o (nI 0).toNatClampNeg (nI (fil (bhB bd sd ps f t k) (1 - sd) (bhR bd sd rt f t) (bhP bd sd ps f t k)).length).toInt64))) hx hb hr hlocks dL_make_22 (⟨by rw [hcd], fun z => absurd hcd z, fun _ f2 t2 k2 g1 g2 g3 e9 => by obtain ⟨rfl, rfl, rfl⟩ := mv_inj hf ht hk g1 g2 g3 e9; exact ⟨⟨hC9, rfl, rfl, rfl, rfl, true, true, rfl, rfl, KLp.yes hc2 hLI⟩, hm9, hl9, (ov0 o (nI (fil (bhB bd sd ps f t k) (1 - sd) (bhR bd sd rt f t) (bhP bd sd ps f t k)).length).toInt64).trans (by rw [hfe2])⟩⟩) hP hD hK hA hE hS
    · skip
      have hcd : mkc bd sd rt ps n v = 2 := by unfold mkc; rw [if_pos hnd, if_neg hq]
      refine ftX (A := A) (wc := cW cI cJ h0 h1 h2 a0 a1 a2 a3 h3 a4 h4 a5 (bI kb) (bI ob) ow tr fu kg co pn (nI sd) (nI rt) (pI ps) (nI n) pcs sqa mvs los lsz lfs asz afs) (wr := oW cJ ho o) (rnVX (As := [.int v]) (rest := [.int (nI 0), .ref ho]) S0 (x_X4_make_2 l hlt (A := va_A (cW cI cJ h0 h1 h2 a0 a1 a2 a3 h3 a4 h4 a5 (bI kb) (bI ob) ow tr fu kg co pn (nI sd) (nI rt) (pI ps) (nI n) pcs sqa mvs los lsz lfs asz afs) s.heap.size) bd hCP sd rt ps hs2 hr16 hp65 kb ob hKL hc hlen v (by rw [hfe, fpl_e (legs_nd bd sd rt ps) (fun y h => legs_lt h), ← hlg]; exact plc_m1 (by rw [hlg, ← hfe]; omega) hq)) wm_L_45 wi_X4_make ws_X4_make wn_X4 wc_X4_make hd_X4_make ⟨rfl, rfl, by decide, by decide⟩ XW.blind (va_recv hK hP (ci := 3) (q0 := 0) rfl rfl) (XW.cut hP hD hK hA hE hX hS) hl.1 (Nat.le_of_ble_eq_true rfl) dL_make_4 rfl ⟨by decide, by decide⟩) hP hD hA hS (fun ce q9 u H locs hp9 hP hD hS hc1 hc2 hc3 => ?_)
      have hLI := hp9
      refine vx_catch hown (tableOf [(0, 9, 12, 25)]) ⟨0, 9, 15, 15⟩ (tableOf [(0, 9, 18, 48)]) (htb.trans rfl) (fun z h => (List.mem_cons.mp h).elim (fun h => h ▸ (Or.inr ⟨by decide, _, hG _ wl_L_25, hX.n3⟩)) (fun h => nomatch h)) (by decide) (by decide) (hG _ wl_L_15) (va_Nw.use rfl hX.c2) hc1 hc2 hc3 ?_
      refine lv_astore_n (lv' := [(3, .ref q9), (0, .ref h0), (1, .int v), (2, .ref ho)]) hx hb dL_make_15 rfl hl (by decide) rfl (fun ls hl => ?_)
      refine lv_iconst (v := nI 2) hx hb dL_make_16 (by decide) ?_
      exact weX ((((bI true, bI true, u.2.1, u.2.2.1, u.2.2.2.1, u.2.2.2.2.1, u.2.2.2.2.2.1, u.2.2.2.2.2.2), (nI sd, nI rt, pI ps, nI n), (pcs, sqa, mvs, los), nI (fil bd sd rt ps).length, u.1, asz, afs), o)) hx hb hr hlocks dL_make_17 (⟨by rw [hcd], fun _ => ⟨⟨hCP, rfl, rfl, rfl, rfl, true, true, rfl, rfl, KLp.yes hc hLI⟩, Kp.rf _ _⟩, fun z => absurd (hcd.symm.trans z) (by decide)⟩) hP hD hK hA hE hS
  · skip
    have hc : cbp bd sd = false := (cbp_e hb9 hs2).trans (by simpa using hp)
    have hnd : ndN bd sd = 1 := if_neg hp
    have hcd : mkc bd sd rt ps n v = 1 := by unfold mkc; rw [if_neg (by rw [hnd]; decide), hnd]
    refine ftX (A := A) (wc := cW cI cJ h0 h1 h2 a0 a1 a2 a3 h3 a4 h4 a5 (bI kb) (bI ob) ow tr fu kg co pn (nI sd) (nI rt) (pI ps) (nI n) pcs sqa mvs los lsz lfs asz afs) (wr := oW cJ ho o) (rnVX (As := [.int v]) (rest := [.int (nI 0), .ref ho]) S0 (nlX l hlt (A := va_A (cW cI cJ h0 h1 h2 a0 a1 a2 a3 h3 a4 h4 a5 (bI kb) (bI ob) ow tr fu kg co pn (nI sd) (nI rt) (pI ps) (nI n) pcs sqa mvs los lsz lfs asz afs) s.heap.size) bd hCP sd rt ps hs2 hr16 hp65 kb ob hKL hc (y := yX4_make) (cc := cX4_make) (maxL := 2) (ret := (some .int)) (by decide) (Nat.le_of_ble_eq_true rfl) rfl dX4_make_0 dX4_make_1) wm_L_45 wi_X4_make ws_X4_make wn_X4 wc_X4_make hd_X4_make ⟨rfl, rfl, by decide, by decide⟩ XW.blind (va_recv hK hP (ci := 3) (q0 := 0) rfl rfl) (XW.cut hP hD hK hA hE hX hS) hl.1 (Nat.le_of_ble_eq_true rfl) dL_make_4 rfl ⟨by decide, by decide⟩) hP hD hA hS (fun ce q9 u H locs hp9 hP hD hS hc1 hc2 hc3 => ?_)
    have hLI := hp9
    refine vx_catch hown ([]) ⟨0, 9, 12, 25⟩ (tableOf [(0, 9, 15, 15), (0, 9, 18, 48)]) (htb.trans rfl) (fun _ h => nomatch h) (by decide) (by decide) (hG _ wl_L_25) (va_Nw.use rfl hX.c3) hc1 hc2 hc3 ?_
    refine lv_astore_n (lv' := [(3, .ref q9), (0, .ref h0), (1, .int v), (2, .ref ho)]) hx hb dL_make_12 rfl hl (by decide) rfl (fun ls hl => ?_)
    refine lv_iconst (v := nI 1) hx hb dL_make_13 (by decide) ?_
    exact weX ((((bI true, bI false, ow, tr, fu, kg, co, pn), (nI sd, nI rt, pI ps, nI n), (pcs, sqa, mvs, los), u, lfs, asz, afs), o)) hx hb hr hlocks dL_make_14 (⟨by rw [hcd], fun _ => ⟨⟨hCP, rfl, rfl, rfl, rfl, true, false, rfl, rfl, KLp.no hc⟩, Kp.rf _ _⟩, fun z => absurd (hcd.symm.trans z) (by decide)⟩) hP hD hK hA hE hS
theorem dL_put_0 : decode cL_put 0 = .ok (.aload_n 0, 1) := by decide +kernel
theorem dL_put_1 : decode cL_put 1 = .ok (.iload_n 1, 1) := by decide +kernel
theorem dL_put_2 : decode cL_put 2 = .ok (.iload_n 2, 1) := by decide +kernel
theorem dL_put_3 : decode cL_put 3 = .ok (.invokevirtual 7, 3) := by decide +kernel
theorem dL_put_6 : decode cL_put 6 = .ok (.goto 9, 3) := by decide +kernel
theorem dL_put_9 : decode cL_put 9 = .ok (.astore_n 3, 1) := by decide +kernel
theorem dL_put_10 : decode cL_put 10 = .ok (.iconst 1, 1) := by decide +kernel
theorem dL_put_11 : decode cL_put 11 = .ok (.ireturn, 1) := by decide +kernel
theorem dL_put_12 : decode cL_put 12 = .ok (.astore_n 3, 1) := by decide +kernel
theorem dL_put_13 : decode cL_put 13 = .ok (.iconst 2, 1) := by decide +kernel
theorem dL_put_14 : decode cL_put 14 = .ok (.ireturn, 1) := by decide +kernel
theorem dL_put_15 : decode cL_put 15 = .ok (.iconst 0, 1) := by decide +kernel
theorem dL_put_16 : decode cL_put 16 = .ok (.ireturn, 1) := by decide +kernel
set_option maxHeartbeats 4000000 in
set_option maxRecDepth 100000 in
theorem c_L_put (l : Launch) (hlt : l.stackTraces = false) {D : va_G} {cI cJ : ClassId} {A : Nat → Prop} {h0 h1 h2 a0 a1 a2 a3 h3 a4 h4 a5 : Nat} (x : CS)  (bd : Nat → Nat) (sd rt ps n : Nat) (hs2 : sd < 2) (hr16 : rt < 16) (hp65 : ps < 65) (hn : n ≤ 200) (hI : CI x bd sd rt ps n) (v : Int32) (w : Int32) : Met l yL_put (Cond.codeWith yL_put cL_put 4 (some .int) [(0, 6, 9, 13), (0, 6, 12, 15)] :: wsL_law) (rX 9) (va_Pc [.ref h0, .int v, .int w] (XW D cI cJ A (cV cI cJ h0 h1 h2 a0 a1 a2 a3 h3 a4 h4 a5 x))) (va_Qi (fun r u => r = nI (pt0 v w) ∧ (pt0 v w = 0 → ∀ q k, q < 64 → k < 13 → v = nI q → w = nI k → CI u (upN bd q k) sd rt ps 0) ∧ (¬ pt0 v w = 0 → CI u bd sd rt ps n ∧ Kp x u n)) (fun (u : CS) t9 => IW D cI cJ A (cV cI cJ h0 h1 h2 a0 a1 a2 a3 h3 a4 h4 a5 u) t9) A) 1 6 A := by
  refine entH (by decide) (Nat.le_of_ble_eq_true rfl) ?_
  intro p e s m below meth c ls S0 hr hlocks hG htb hB hl
  have hx := S0.1
  have hb := S0.2.1
  have hown := S0.2.2.2.1
  have hl : lv_has ls 4 [(0, .ref h0), (1, .int v), (2, .int w)] := hl
  obtain ⟨⟨hP, hD, hK, hA, hE⟩, hX⟩ := hB
  have hS : va_S A s.heap s.heap [] := va_S.rf
  obtain ⟨⟨kn, op, ow, tr, fu, kg, co, pn⟩, ⟨si, ri, pa, ma⟩, ⟨pcs, sqa, mvs, los⟩, lsz, lfs, asz, afs⟩ := x
  obtain ⟨hCP, e1, e2, e3, e4, kb, ob, e5, e6, hKL⟩ := hI
  dsimp only at hCP e1 e2 e3 e4 e5 e6 hKL hP hD
  subst e1 e2 e3 e4 e5 e6
  have hb9 : ∀ q, q < 64 → bd q < 13 := fun q hq => (hCP.1 q hq).2
  have hP : va_P D classes (cW cI cJ h0 h1 h2 a0 a1 a2 a3 h3 a4 h4 a5 (bI kb) (bI ob) ow tr fu kg co pn (nI sd) (nI rt) (pI ps) (nI n) pcs sqa mvs los lsz lfs asz afs) s.heap := hP
  have hD : va_D A (cW cI cJ h0 h1 h2 a0 a1 a2 a3 h3 a4 h4 a5 (bI kb) (bI ob) ow tr fu kg co pn (nI sd) (nI rt) (pI ps) (nI n) pcs sqa mvs los lsz lfs asz afs) := hD
  refine lv_aload_n hx hb dL_put_0 rfl (lv_at hl 0 rfl) ?_
  refine lv_iload_n hx hb dL_put_1 rfl (lv_at hl 1 rfl) ?_
  refine lv_iload_n hx hb dL_put_2 rfl (lv_at hl 2 rfl) ?_
  by_cases h1 : isq v = false
  · skip
    have hcd : pt0 v w = 1 := by unfold pt0; rw [if_pos h1]
    refine chX (A := A) (A1 := A) (rnVX (As := [.int v, .int w]) (rest := []) S0 (x_X4_put_1 l hlt (A := A) v w h1) wm_L_7 wi_X4_put ws_X4_put wn_X4 wc_X4_put hd_X4_put ⟨rfl, rfl, by decide, by decide⟩ XW.blind (va_recv hK hP (ci := 3) (q0 := 0) rfl rfl) (fun U h1 h2 => ⟨IW.at hP hD hK hA hE hS U h1 h2, hX.warm h2⟩) hl.1 (Nat.le_of_ble_eq_true rfl) dL_put_3 rfl ⟨by decide, by decide⟩) hS (fun _ h => h) (fun ce q9 u H locs hp9 hP hD _ _ hS hc1 hc2 hc3 => ?_)
    have hLI := hp9
    refine vx_catch hown ([]) ⟨0, 6, 9, 13⟩ (tableOf [(0, 6, 12, 15)]) (htb.trans rfl) (fun _ h => nomatch h) (by decide) (by decide) (hG _ wl_L_13) (va_Nw.use rfl hX.c1) hc1 hc2 hc3 ?_
    refine lv_astore_n (lv' := [(3, .ref q9), (0, .ref h0), (1, .int v), (2, .int w)]) hx hb dL_put_9 rfl hl (by decide) rfl (fun ls hl => ?_)
    refine lv_iconst (v := nI 1) hx hb dL_put_10 (by decide) ?_
    exact weX (((bI kb, bI ob, ow, tr, fu, kg, co, pn), (nI sd, nI rt, pI ps, nI n), (pcs, sqa, mvs, los), lsz, lfs, asz, afs)) hx hb hr hlocks dL_put_11 (⟨by rw [hcd], fun z => absurd (hcd.symm.trans z) (by decide), fun _ => ⟨⟨hCP, rfl, rfl, rfl, rfl, kb, ob, rfl, rfl, hKL⟩, Kp.rf _ _⟩⟩) hP hD hK hA hE hS
  · skip
    have h1t : isq v = true := by simpa using h1
    by_cases h2 : w < 0 ∨ ¬ w ≤ nI 12
    · skip
      have hcd : pt0 v w = 2 := by unfold pt0; rw [if_neg h1, if_pos h2]
      refine chX (A := A) (A1 := A) (rnVX (As := [.int v, .int w]) (rest := []) S0 (x_X4_put_2 l hlt (A := A) v w h1t (isp_f h2)) wm_L_7 wi_X4_put ws_X4_put wn_X4 wc_X4_put hd_X4_put ⟨rfl, rfl, by decide, by decide⟩ XW.blind (va_recv hK hP (ci := 3) (q0 := 0) rfl rfl) (fun U h1 h2 => ⟨IW.at hP hD hK hA hE hS U h1 h2, hX.warm h2⟩) hl.1 (Nat.le_of_ble_eq_true rfl) dL_put_3 rfl ⟨by decide, by decide⟩) hS (fun _ h => h) (fun ce q9 u H locs hp9 hP hD _ _ hS hc1 hc2 hc3 => ?_)
      have hLI := hp9
      refine vx_catch hown (tableOf [(0, 6, 9, 13)]) ⟨0, 6, 12, 15⟩ (tableOf []) (htb.trans rfl) (fun z h => (List.mem_cons.mp h).elim (fun h => h ▸ (Or.inr ⟨by decide, _, hG _ wl_L_13, hX.n1⟩)) (fun h => nomatch h)) (by decide) (by decide) (hG _ wl_L_15) (va_Nw.use rfl hX.c2) hc1 hc2 hc3 ?_
      refine lv_astore_n (lv' := [(3, .ref q9), (0, .ref h0), (1, .int v), (2, .int w)]) hx hb dL_put_12 rfl hl (by decide) rfl (fun ls hl => ?_)
      refine lv_iconst (v := nI 2) hx hb dL_put_13 (by decide) ?_
      exact weX (((bI kb, bI ob, ow, tr, fu, kg, co, pn), (nI sd, nI rt, pI ps, nI n), (pcs, sqa, mvs, los), lsz, lfs, asz, afs)) hx hb hr hlocks dL_put_14 (⟨by rw [hcd], fun z => absurd (hcd.symm.trans z) (by decide), fun _ => ⟨⟨hCP, rfl, rfl, rfl, rfl, kb, ob, rfl, rfl, hKL⟩, Kp.rf _ _⟩⟩) hP hD hK hA hE hS
    · skip
      have hcd : pt0 v w = 0 := by unfold pt0; rw [if_neg h1, if_neg h2]
      obtain ⟨q, k, hq, hk, rfl, rfl⟩ := pt0_0 hcd
      refine chV (rnV (As := [.int (nI q), .int (nI k)]) (rest := []) S0 (c_X4_put l (A := A) bd hCP q k hq hk) wm_L_7 wi_X4_put ws_X4_put wn_X4 wc_X4_put hd_X4_put ⟨rfl, rfl, by decide, by decide⟩ IW.blind (va_recv hK hP (ci := 3) (q0 := 0) rfl rfl) (IW.at hP hD hK hA hE hS) hl.1 (Nat.le_of_ble_eq_true rfl) dL_put_3 rfl ⟨by decide, by decide⟩) hS (fun u H locs hu hP hD hS => ?_)
      refine lv_goto (tgt := 15) hx hb dL_put_6 (by decide) ?_
      refine lv_iconst (v := nI 0) hx hb dL_put_15 (by decide) ?_
      refine W.widen (k := 1) (n := 6) (by decide) (by decide) ?_
      exact weX (((bI false, bI ob, ow, tr, fu, kg, co, pn), (nI sd, nI rt, pI ps, nI 0), (u.1, u.2, mvs, los), lsz, lfs, asz, afs)) hx hb hr hlocks dL_put_16 (⟨by rw [hcd], fun _ q2 k2 g1 g2 e9 e8 => by obtain rfl := (nI_eq (show q < 2 ^ 31 by omega) (show q2 < 2 ^ 31 by omega)).mp e9; obtain rfl := (nI_eq (show k < 2 ^ 31 by omega) (show k2 < 2 ^ 31 by omega)).mp e8; exact ⟨hu, rfl, rfl, rfl, rfl, false, ob, rfl, rfl, KLp.un ob⟩, fun z => absurd hcd z⟩) hP hD hK hA hE hS
theorem dL_state_0 : decode cL_state 0 = .ok (.aload_n 0, 1) := by decide +kernel
theorem dL_state_1 : decode cL_state 1 = .ok (.iload_n 1, 1) := by decide +kernel
theorem dL_state_2 : decode cL_state 2 = .ok (.iload_n 2, 1) := by decide +kernel
theorem dL_state_3 : decode cL_state 3 = .ok (.iload_n 3, 1) := by decide +kernel
theorem dL_state_4 : decode cL_state 4 = .ok (.invokevirtual 17, 3) := by decide +kernel
theorem dL_state_7 : decode cL_state 7 = .ok (.goto 7, 3) := by decide +kernel
theorem dL_state_10 : decode cL_state 10 = .ok (.astore 4, 2) := by decide +kernel
theorem dL_state_12 : decode cL_state 12 = .ok (.iconst 1, 1) := by decide +kernel
theorem dL_state_13 : decode cL_state 13 = .ok (.ireturn, 1) := by decide +kernel
theorem dL_state_14 : decode cL_state 14 = .ok (.iconst 0, 1) := by decide +kernel
theorem dL_state_15 : decode cL_state 15 = .ok (.ireturn, 1) := by decide +kernel
set_option maxHeartbeats 4000000 in
set_option maxRecDepth 100000 in
theorem c_L_state (l : Launch) (hlt : l.stackTraces = false) {D : va_G} {cI cJ : ClassId} {A : Nat → Prop} {h0 h1 h2 a0 a1 a2 a3 h3 a4 h4 a5 : Nat} (x : CS)  (bd : Nat → Nat) (sd rt ps n : Nat) (hs2 : sd < 2) (hr16 : rt < 16) (hp65 : ps < 65) (hn : n ≤ 200) (hI : CI x bd sd rt ps n) (v : Int32) (w : Int32) (z : Int32) : Met l yL_state (Cond.codeWith yL_state cL_state 5 (some .int) [(0, 7, 10, 15)] :: wsL_law) (rX 9) (va_Pc [.ref h0, .int v, .int w, .int z] (XW D cI cJ A (cV cI cJ h0 h1 h2 a0 a1 a2 a3 h3 a4 h4 a5 x))) (va_Qi (fun r u => r = nI (st0 v w z) ∧ (st0 v w z = 0 → ∀ a b d, a < 2 → b < 16 → d < 65 → v = nI a → w = nI b → z = pI d → CI u bd a b d 0) ∧ (¬ st0 v w z = 0 → CI u bd sd rt ps n ∧ Kp x u n)) (fun (u : CS) t9 => IW D cI cJ A (cV cI cJ h0 h1 h2 a0 a1 a2 a3 h3 a4 h4 a5 u) t9) A) 1 6 A := by
  refine entH (by decide) (Nat.le_of_ble_eq_true rfl) ?_
  intro p e s m below meth c ls S0 hr hlocks hG htb hB hl
  have hx := S0.1
  have hb := S0.2.1
  have hown := S0.2.2.2.1
  have hl : lv_has ls 5 [(0, .ref h0), (1, .int v), (2, .int w), (3, .int z)] := hl
  obtain ⟨⟨hP, hD, hK, hA, hE⟩, hX⟩ := hB
  have hS : va_S A s.heap s.heap [] := va_S.rf
  obtain ⟨⟨kn, op, ow, tr, fu, kg, co, pn⟩, ⟨si, ri, pa, ma⟩, ⟨pcs, sqa, mvs, los⟩, lsz, lfs, asz, afs⟩ := x
  obtain ⟨hCP, e1, e2, e3, e4, kb, ob, e5, e6, hKL⟩ := hI
  dsimp only at hCP e1 e2 e3 e4 e5 e6 hKL hP hD
  subst e1 e2 e3 e4 e5 e6
  have hb9 : ∀ q, q < 64 → bd q < 13 := fun q hq => (hCP.1 q hq).2
  have hP : va_P D classes (cW cI cJ h0 h1 h2 a0 a1 a2 a3 h3 a4 h4 a5 (bI kb) (bI ob) ow tr fu kg co pn (nI sd) (nI rt) (pI ps) (nI n) pcs sqa mvs los lsz lfs asz afs) s.heap := hP
  have hD : va_D A (cW cI cJ h0 h1 h2 a0 a1 a2 a3 h3 a4 h4 a5 (bI kb) (bI ob) ow tr fu kg co pn (nI sd) (nI rt) (pI ps) (nI n) pcs sqa mvs los lsz lfs asz afs) := hD
  refine lv_aload_n hx hb dL_state_0 rfl (lv_at hl 0 rfl) ?_
  refine lv_iload_n hx hb dL_state_1 rfl (lv_at hl 1 rfl) ?_
  refine lv_iload_n hx hb dL_state_2 rfl (lv_at hl 2 rfl) ?_
  refine lv_iload_n hx hb dL_state_3 rfl (lv_at hl 3 rfl) ?_
  by_cases h1 : st0 v w z = 0
  · skip
    have hcd := h1
    obtain ⟨a, b, d, ha, hb8, hd, rfl, rfl, rfl⟩ := st0_0 hcd
    refine chV (rnV (As := [.int (nI a), .int (nI b), .int (pI d)]) (rest := []) S0 (c_X4_state l (A := A) a b d ha hb8 hd) wm_L_17 wi_X4_state ws_X4_state wn_X4 wc_X4_state hd_X4_state ⟨rfl, rfl, by decide, by decide⟩ IW.blind (va_recv hK hP (ci := 3) (q0 := 0) rfl rfl) (IW.at hP hD hK hA hE hS) hl.1 (Nat.le_of_ble_eq_true rfl) dL_state_4 rfl ⟨by decide, by decide⟩) hS (fun u H locs hu hP hD hS => ?_)
    refine lv_goto (tgt := 14) hx hb dL_state_7 (by decide) ?_
    refine lv_iconst (v := nI 0) hx hb dL_state_14 (by decide) ?_
    refine W.widen (k := 1) (n := 6) (by decide) (by decide) ?_
    exact weX (((bI false, bI ob, ow, tr, fu, kg, co, pn), (nI a, nI b, pI d, nI 0), (pcs, sqa, mvs, los), lsz, lfs, asz, afs)) hx hb hr hlocks dL_state_15 (⟨by rw [hcd], fun _ a2 b2 d2 g1 g2 g3 e9 e8 e7 => by obtain rfl := (nI_eq (show a < 2 ^ 31 by omega) (show a2 < 2 ^ 31 by omega)).mp e9; obtain rfl := (nI_eq (show b < 2 ^ 31 by omega) (show b2 < 2 ^ 31 by omega)).mp e8; exact ⟨hCP, rfl, rfl, e7, rfl, false, ob, rfl, rfl, KLp.un ob⟩, fun z => absurd hcd z⟩) hP hD hK hA hE hS
  · skip
    have hcd : st0 v w z = 1 := by
      unfold st0 at h1 ⊢
      by_cases g : (v < 0 ∨ nI 1 < v ∨ w < 0 ∨ nI 15 < w ∨ z < (-1) ∨ ¬ z ≤ nI 63)
      · rw [if_pos g]
      · exact absurd (if_neg g) h1
    refine chX (A := A) (A1 := A) (rnVX (As := [.int v, .int w, .int z]) (rest := []) S0 (x_X4_state l hlt (A := A) v w z h1) wm_L_17 wi_X4_state ws_X4_state wn_X4 wc_X4_state hd_X4_state ⟨rfl, rfl, by decide, by decide⟩ XW.blind (va_recv hK hP (ci := 3) (q0 := 0) rfl rfl) (fun U h1 h2 => ⟨IW.at hP hD hK hA hE hS U h1 h2, hX.warm h2⟩) hl.1 (Nat.le_of_ble_eq_true rfl) dL_state_4 rfl ⟨by decide, by decide⟩) hS (fun _ h => h) (fun ce q9 u H locs hp9 hP hD _ _ hS hc1 hc2 hc3 => ?_)
    have hLI := hp9
    refine vx_catch hown ([]) ⟨0, 7, 10, 15⟩ (tableOf []) (htb.trans rfl) (fun _ h => nomatch h) (by decide) (by decide) (hG _ wl_L_15) (va_Nw.use rfl hX.c2) hc1 hc2 hc3 ?_
    refine lv_astore (lv' := [(4, .ref q9), (0, .ref h0), (1, .int v), (2, .int w), (3, .int z)]) hx hb dL_state_10 hl (by decide) rfl (fun ls hl => ?_)
    refine lv_iconst (v := nI 1) hx hb dL_state_12 (by decide) ?_
    exact weX (((bI kb, bI ob, ow, tr, fu, kg, co, pn), (nI sd, nI rt, pI ps, nI n), (pcs, sqa, mvs, los), lsz, lfs, asz, afs)) hx hb hr hlocks dL_state_13 (⟨by rw [hcd], fun z => absurd (hcd.symm.trans z) (by decide), fun _ => ⟨⟨hCP, rfl, rfl, rfl, rfl, kb, ob, rfl, rfl, hKL⟩, Kp.rf _ _⟩⟩) hP hD hK hA hE hS

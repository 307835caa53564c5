set_option maxHeartbeats 4000000 in
set_option maxRecDepth 100000 in
theorem law_8 {p : Program} {l : Launch} {e : Env} {s : State} {m : MethodId} {below : List Frame} {meth : Method} {c : Code} {b L : Nat} {xs : Nat → Int32} {A : Nat → Prop} {D : va_G} {cI cJ : ClassId} {h0 h1 h2 a0 a1 a2 a3 h3 a4 h4 a5 ho hm b0 b1 b2 b3 : Nat} {H : Heap} {locs : List Loc} {cells slots : Nat} {Q : State → Prop} {ls : Array Slot} {i : Nat} (hF : LF p l s m meth c b L xs A D cI cJ) (hL : L ≤ 256) (hi : i + 4 ≤ L) (x : CS) (y : RS) (o : Nat → Int64) (hJ : JI x y) (hP : va_P D classes ((cV cI cJ h0 h1 h2 a0 a1 a2 a3 h3 a4 h4 a5 x ++ oW cJ ho o) ++ rV cI hm b0 b1 b2 b3 y) H) (hD : va_D A ((cV cI cJ h0 h1 h2 a0 a1 a2 a3 h3 a4 h4 a5 x ++ oW cJ ho o) ++ rV cI hm b0 b1 b2 b3 y)) (hS : va_S A s.heap H locs) (hc : cells + 1 ≤ 600128) (hs : slots + 6 ≤ 7301098) (hl : lv_has ls 8 [(0, .ref b), (1, .ref h0), (2, .ref hm), (3, .ref ho), (4, .int (nI i))]) (kk : ∀ (x : CS) (y : RS) (o : Nat → Int64) (H : Heap) (locs : List Loc) (ls : Array Slot), JI x y → va_P D classes ((cV cI cJ h0 h1 h2 a0 a1 a2 a3 h3 a4 h4 a5 x ++ oW cJ ho o) ++ rV cI hm b0 b1 b2 b3 y) H → va_D A ((cV cI cJ h0 h1 h2 a0 a1 a2 a3 h3 a4 h4 a5 x ++ oW cJ ho o) ++ rV cI hm b0 b1 b2 b3 y) → va_S A s.heap H locs → lv_has ls 8 [(0, .ref b), (1, .ref h0), (2, .ref hm), (3, .ref ho), (4, .int (nI i))] → W p l e room_1 s m #[Value.ref b] below meth c H locs (cells + 1) (slots + 6) Q (F0 m 827 ls [])) : W p l e room_1 s m #[Value.ref b] below meth c H locs cells slots Q (F0 m 419 ls []) := by
  obtain ⟨S0, hlocks, hK, hA, hE, hX, hScr, hbl, hbA, hlt⟩ := hF
  have hx := S0.1
  have hb := S0.2.1
  have hown := S0.2.2.2.1
  have hG : ∀ w ∈ wsL_law, w.before #[Value.ref b] s = true := fun w h => S0.2.2.2.2 w (List.mem_cons_of_mem _ h)
  obtain ⟨bd, sd, rt, ps, n, hn, hI, hBd, hmk, hH⟩ := hJ
  obtain ⟨⟨th, mk, sz⟩, F9, mv, kp, li⟩ := y
  dsimp only at hBd hmk hH
  subst hmk
  have hs2 := hBd.2.2.1
  have hr16 := hBd.2.2.2.2.1
  have hp65 := hBd.2.2.2.2.2.2
  have hb9 := hBd.lt
  have hLen : plb bd sd = true → (legs bd sd rt ps).length ≤ 1024 := fun _ => Nat.le_trans (len_ok bd sd rt ps hb9 hs2 hp65) (by decide)
  have hP : va_P D classes ((cV cI cJ h0 h1 h2 a0 a1 a2 a3 h3 a4 h4 a5 x ++ oW cJ ho o) ++ rV cI hm b0 b1 b2 b3 ((th, nI n, sz), F9, mv, kp, li)) H := hP
  have hD : va_D A ((cV cI cJ h0 h1 h2 a0 a1 a2 a3 h3 a4 h4 a5 x ++ oW cJ ho o) ++ rV cI hm b0 b1 b2 b3 ((th, nI n, sz), F9, mv, kp, li)) := hD
  by_cases h8 : xs (i + 2) = 0
  · skip
    refine lv_aload_n hx hb dL_law_419 rfl (lv_at hl 1 rfl) ?_
    refine lv_aload_n hx hb dL_law_420 rfl (lv_at hl 0 rfl) ?_
    refine lv_iload hx hb dL_law_421 (lv_at hl 4 rfl) ?_
    refine lv_iconst (v := nI 1) hx hb dL_law_423 (by decide) ?_
    refine ln_iadd hx hb dL_law_424 ?_
    refine va_sld hx hb hScr hbl hbA hS (vp_in_nI (by omega) (by omega)) dL_law_425 ?_
    refine W.top (y := .int (xs (i + 1))) (congrArg (fun z => Value.int (xs z)) (nI_clamp (by omega))) ?_
    refine lv_aload_n hx hb dL_law_426 rfl (lv_at hl 0 rfl) ?_
    refine lv_iload hx hb dL_law_427 (lv_at hl 4 rfl) ?_
    refine lv_iconst (v := nI 2) hx hb dL_law_429 (by decide) ?_
    refine ln_iadd hx hb dL_law_430 ?_
    refine va_sld hx hb hScr hbl hbA hS (vp_in_nI (by omega) (by omega)) dL_law_431 ?_
    refine W.top (y := .int (xs (i + 2))) (congrArg (fun z => Value.int (xs z)) (nI_clamp (by omega))) ?_
    refine lv_if_eq (tgt := 439) hx hb dL_law_432 (by decide) (fun _ => ?_) (fun z9 => absurd h8 z9)
    refine lv_iconst (v := bI false) hx hb dL_law_439 (by decide) ?_
    refine lv_aload_n hx hb dL_law_440 rfl (lv_at hl 3 rfl) ?_
    refine ftI (A := A) (wc := cV cI cJ h0 h1 h2 a0 a1 a2 a3 h3 a4 h4 a5 x ++ oW cJ ho o) (wr := rV cI hm b0 b1 b2 b3 ((th, nI n, sz), F9, mv, kp, li)) (rnSH (As := [.ref h0, .int (xs (i + 1)), .int (bI false), .ref ho]) (rest := []) S0 (c_L_on l hlt (A := va_A (cV cI cJ h0 h1 h2 a0 a1 a2 a3 h3 a4 h4 a5 x ++ oW cJ ho o) H.size) x o bd sd rt ps n hs2 hr16 hp65 hn hI (xs (i + 1)) false) wm_L_98 wt_L_on wn_L wc_L_on hd_L_on ⟨rfl, rfl, by decide, by decide⟩ XW.blind (XW.cut hP hD hK hA hE hX hS) hl.1 (Nat.le_of_ble_eq_true rfl) dL_law_441 rfl ⟨by show cells + 1 ≤ 600128; omega, by show slots + 6 ≤ 7301098; omega⟩) hP hD hA hS (fun r u H locs hu hP hD hS => ?_)
    have hP : va_P D classes ((cV cI cJ h0 h1 h2 a0 a1 a2 a3 h3 a4 h4 a5 u.1 ++ oW cJ ho u.2) ++ rV cI hm b0 b1 b2 b3 ((th, nI n, sz), F9, mv, kp, li)) H := hP
    have hD : va_D A ((cV cI cJ h0 h1 h2 a0 a1 a2 a3 h3 a4 h4 a5 u.1 ++ oW cJ ho u.2) ++ rV cI hm b0 b1 b2 b3 ((th, nI n, sz), F9, mv, kp, li)) := hD
    obtain ⟨rfl, hI1, hK1, ho1⟩ := hu
    refine lv_istore (lv' := [(5, .int (nI (ndN bd sd))), (0, .ref b), (1, .ref h0), (2, .ref hm), (3, .ref ho), (4, .int (nI i))]) hx hb dL_law_444 hl (by decide) rfl (fun ls hl => ?_)
    refine lv_aload_n hx hb dL_law_446 rfl (lv_at hl 3 rfl) ?_
    refine lv_aload_n hx hb dL_law_447 rfl (lv_at hl 1 rfl) ?_
    refine lv_iload hx hb dL_law_448 (lv_at hl 5 rfl) ?_
    refine lv_iconst (v := nI 1) hx hb dL_law_450 (by decide) ?_
    refine ln_iadd hx hb dL_law_451 ?_
    refine va_sld hx hb hScr hbl hbA hS (vp_in_nI (by omega) (by omega)) dL_law_452 ?_
    refine W.top (y := .int (xs (i + 1))) (congrArg (fun z => Value.int (xs z)) (nI_clamp (by omega))) ?_
    refine lv_aload_n hx hb dL_law_453 rfl (lv_at hl 1 rfl) ?_
    refine lv_iload hx hb dL_law_454 (lv_at hl 5 rfl) ?_
    refine lv_iconst (v := nI 2) hx hb dL_law_456 (by decide) ?_
    refine ln_iadd hx hb dL_law_457 ?_
    refine va_sld hx hb hScr hbl hbA hS (vp_in_nI (by omega) (by omega)) dL_law_458 ?_
    refine W.top (y := .int (xs (i + 2))) (congrArg (fun z => Value.int (xs z)) (nI_clamp (by omega))) ?_
    refine lv_if_eq (tgt := 466) hx hb dL_law_459 (by decide) (fun _ => ?_) (fun z9 => absurd h8 z9)
    refine lv_iconst (v := bI false) hx hb dL_law_466 (by decide) ?_
    have hPr : va_P D classes (rV cI hm b0 b1 b2 b3 ((th, nI n, sz), F9, mv, kp, li) ++ (cV cI cJ h0 h1 h2 a0 a1 a2 a3 h3 a4 h4 a5 u.1 ++ oW cJ ho u.2)) H := hP.rot
    have hDr : va_D A (rV cI hm b0 b1 b2 b3 ((th, nI n, sz), F9, mv, kp, li) ++ (cV cI cJ h0 h1 h2 a0 a1 a2 a3 h3 a4 h4 a5 u.1 ++ oW cJ ho u.2)) := hD.rot
    refine ftI (A := A) (wc := rV cI hm b0 b1 b2 b3 ((th, nI n, sz), F9, mv, kp, li)) (wr := cV cI cJ h0 h1 h2 a0 a1 a2 a3 h3 a4 h4 a5 u.1 ++ oW cJ ho u.2) (rnV (As := [.int (xs (i + 1)), .int (bI false)]) (rest := []) S0 (c_X5_on l (A := va_A (rV cI hm b0 b1 b2 b3 ((th, nI n, sz), F9, mv, kp, li)) H.size) bd sd rt ps hBd hLen (xs (i + 1)) false) wm_L_101 wi_X5_on ws_X5_on wn_X5 wc_X5_on hd_X5_on ⟨rfl, rfl, by decide, by decide⟩ IW.blind (va_recv hK hPr (ci := 4) (q0 := 0) rfl rfl) (IW.cut hPr hDr hK hA hE hS) hl.1 (Nat.le_of_ble_eq_true rfl) dL_law_467 rfl ⟨by show cells + 1 + 0 ≤ 600128; omega, by show slots + 6 + 0 ≤ 7301098; omega⟩) hPr hDr hA hS (fun r v H locs hv hP hD hS => ?_)
    obtain ⟨rfl, hag, hLI⟩ := hv
    have hP : va_P D classes ((cV cI cJ h0 h1 h2 a0 a1 a2 a3 h3 a4 h4 a5 u.1 ++ oW cJ ho u.2) ++ rV cI hm b0 b1 b2 b3 ((nI (ndN bd sd), nI n, nI (szN bd sd rt ps)), v.1, mv, kp, v.2)) H := hP.rot
    have hD : va_D A ((cV cI cJ h0 h1 h2 a0 a1 a2 a3 h3 a4 h4 a5 u.1 ++ oW cJ ho u.2) ++ rV cI hm b0 b1 b2 b3 ((nI (ndN bd sd), nI n, nI (szN bd sd rt ps)), v.1, mv, kp, v.2)) := hD.rot
    refine lv_istore (lv' := [(6, .int (nI (onc (lgs bd sd rt ps) (xs (i + 1)) false (lgs bd sd rt ps).length))), (5, .int (nI (ndN bd sd))), (0, .ref b), (1, .ref h0), (2, .ref hm), (3, .ref ho), (4, .int (nI i))]) hx hb dL_law_470 hl (by decide) rfl (fun ls hl => ?_)
    refine lv_aload_n hx hb dL_law_472 rfl (lv_at hl 4 rfl) ?_
    have hPr : va_P D classes (rV cI hm b0 b1 b2 b3 ((nI (ndN bd sd), nI n, nI (szN bd sd rt ps)), v.1, mv, kp, v.2) ++ (cV cI cJ h0 h1 h2 a0 a1 a2 a3 h3 a4 h4 a5 u.1 ++ oW cJ ho u.2)) H := hP.rot
    have hDr : va_D A (rV cI hm b0 b1 b2 b3 ((nI (ndN bd sd), nI n, nI (szN bd sd rt ps)), v.1, mv, kp, v.2) ++ (cV cI cJ h0 h1 h2 a0 a1 a2 a3 h3 a4 h4 a5 u.1 ++ oW cJ ho u.2)) := hD.rot
    refine roI (rnV (As := []) (rest := []) S0 (c_X5_thrown l (A := va_A (rV cI hm b0 b1 b2 b3 ((nI (ndN bd sd), nI n, nI (szN bd sd rt ps)), v.1, mv, kp, v.2)) H.size) ) wm_L_76 wi_X5_thrown ws_X5_thrown wn_X5 wc_X5_thrown hd_X5_thrown ⟨rfl, rfl, by decide, by decide⟩ IW.blind (va_recv hK hPr (ci := 4) (q0 := 0) rfl rfl) (IW.cut hPr hDr hK hA hE hS) hl.1 (Nat.le_of_ble_eq_true rfl) dL_law_473 rfl ⟨by show cells + 1 + 0 ≤ 600128; omega, by show slots + 6 + 0 ≤ 7301098; omega⟩) (fun r_473 hr_473 => ?_)
    subst hr_473
    refine lv_iload hx hb dL_law_476 (lv_at hl 1 rfl) ?_
    refine lv_icmp_eq (tgt := 483) hx hb dL_law_478 (by decide) (fun _ => ?_) (fun z9 => absurd rfl z9)
    refine lv_iload hx hb dL_law_483 (lv_at hl 1 rfl) ?_
    have hji := (show JI u.1 ((nI (ndN bd sd), nI n, nI (szN bd sd rt ps)), v.1, mv, kp, v.2) from ⟨bd, sd, rt, ps, n, hn, hI1, Bd_ag hBd hag, rfl, hH.kp hK1⟩)
    refine ln_if_ne (tgt := 500) hx hb dL_law_485 (by decide) (cd_nd bd sd) (fun _ => ?_) (fun k0 => ?_)
    · skip
      refine lv_goto (tgt := 827) hx hb dL_law_500 (by decide) ?_
      exact kk u.1 ((nI (ndN bd sd), nI n, nI (szN bd sd rt ps)), v.1, mv, kp, v.2) u.2 _ _ _ hji hP hD hS (lv_sub hl [2, 3, 4, 5, 6] rfl)
    · skip
      refine lv_aload_n hx hb dL_law_488 rfl (lv_at hl 5 rfl) ?_
      refine lv_iconst (v := nI 0) hx hb dL_law_489 (by decide) ?_
      refine va_lald hx hb hK hP 11 1 rfl rfl (vp_in_nI (by decide) (by decide)) dL_law_490 ?_
      refine W.top (y := .long (u.2 0)) (congrArg (fun z => Value.long (u.2 z)) (nI_clamp (by decide))) ?_
      refine lv_iload hx hb dL_law_491 (lv_at hl 0 rfl) ?_
      refine lv_i2l hx hb dL_law_493 rfl ?_
      refine W.lcmp hx hb dL_law_494 ?_
      refine lc_if_eq (tgt := 500) hx hb dL_law_495 (by decide) (fun _ => ?_) (fun z9 => absurd (ho1 k0) z9)
      refine lv_goto (tgt := 827) hx hb dL_law_500 (by decide) ?_
      exact kk u.1 ((nI (ndN bd sd), nI n, nI (szN bd sd rt ps)), v.1, mv, kp, v.2) u.2 _ _ _ hji hP hD hS (lv_sub hl [2, 3, 4, 5, 6] rfl)
  · skip
    refine lv_aload_n hx hb dL_law_419 rfl (lv_at hl 1 rfl) ?_
    refine lv_aload_n hx hb dL_law_420 rfl (lv_at hl 0 rfl) ?_
    refine lv_iload hx hb dL_law_421 (lv_at hl 4 rfl) ?_
    refine lv_iconst (v := nI 1) hx hb dL_law_423 (by decide) ?_
    refine ln_iadd hx hb dL_law_424 ?_
    refine va_sld hx hb hScr hbl hbA hS (vp_in_nI (by omega) (by omega)) dL_law_425 ?_
    refine W.top (y := .int (xs (i + 1))) (congrArg (fun z => Value.int (xs z)) (nI_clamp (by omega))) ?_
    refine lv_aload_n hx hb dL_law_426 rfl (lv_at hl 0 rfl) ?_
    refine lv_iload hx hb dL_law_427 (lv_at hl 4 rfl) ?_
    refine lv_iconst (v := nI 2) hx hb dL_law_429 (by decide) ?_
    refine ln_iadd hx hb dL_law_430 ?_
    refine va_sld hx hb hScr hbl hbA hS (vp_in_nI (by omega) (by omega)) dL_law_431 ?_
    refine W.top (y := .int (xs (i + 2))) (congrArg (fun z => Value.int (xs z)) (nI_clamp (by omega))) ?_
    refine lv_if_eq (tgt := 439) hx hb dL_law_432 (by decide) (fun z9 => absurd z9 h8) (fun _ => ?_)
    refine lv_iconst (v := bI true) hx hb dL_law_435 (by decide) ?_
    refine lv_goto (tgt := 440) hx hb dL_law_436 (by decide) ?_
    refine lv_aload_n hx hb dL_law_440 rfl (lv_at hl 3 rfl) ?_
    refine ftI (A := A) (wc := cV cI cJ h0 h1 h2 a0 a1 a2 a3 h3 a4 h4 a5 x ++ oW cJ ho o) (wr := rV cI hm b0 b1 b2 b3 ((th, nI n, sz), F9, mv, kp, li)) (rnSH (As := [.ref h0, .int (xs (i + 1)), .int (bI true), .ref ho]) (rest := []) S0 (c_L_on l hlt (A := va_A (cV cI cJ h0 h1 h2 a0 a1 a2 a3 h3 a4 h4 a5 x ++ oW cJ ho o) H.size) x o bd sd rt ps n hs2 hr16 hp65 hn hI (xs (i + 1)) true) wm_L_98 wt_L_on wn_L wc_L_on hd_L_on ⟨rfl, rfl, by decide, by decide⟩ XW.blind (XW.cut hP hD hK hA hE hX hS) hl.1 (Nat.le_of_ble_eq_true rfl) dL_law_441 rfl ⟨by show cells + 1 ≤ 600128; omega, by show slots + 6 ≤ 7301098; omega⟩) hP hD hA hS (fun r u H locs hu hP hD hS => ?_)
    have hP : va_P D classes ((cV cI cJ h0 h1 h2 a0 a1 a2 a3 h3 a4 h4 a5 u.1 ++ oW cJ ho u.2) ++ rV cI hm b0 b1 b2 b3 ((th, nI n, sz), F9, mv, kp, li)) H := hP
    have hD : va_D A ((cV cI cJ h0 h1 h2 a0 a1 a2 a3 h3 a4 h4 a5 u.1 ++ oW cJ ho u.2) ++ rV cI hm b0 b1 b2 b3 ((th, nI n, sz), F9, mv, kp, li)) := hD
    obtain ⟨rfl, hI1, hK1, ho1⟩ := hu
    refine lv_istore (lv' := [(5, .int (nI (ndN bd sd))), (0, .ref b), (1, .ref h0), (2, .ref hm), (3, .ref ho), (4, .int (nI i))]) hx hb dL_law_444 hl (by decide) rfl (fun ls hl => ?_)
    refine lv_aload_n hx hb dL_law_446 rfl (lv_at hl 3 rfl) ?_
    refine lv_aload_n hx hb dL_law_447 rfl (lv_at hl 1 rfl) ?_
    refine lv_iload hx hb dL_law_448 (lv_at hl 5 rfl) ?_
    refine lv_iconst (v := nI 1) hx hb dL_law_450 (by decide) ?_
    refine ln_iadd hx hb dL_law_451 ?_
    refine va_sld hx hb hScr hbl hbA hS (vp_in_nI (by omega) (by omega)) dL_law_452 ?_
    refine W.top (y := .int (xs (i + 1))) (congrArg (fun z => Value.int (xs z)) (nI_clamp (by omega))) ?_
    refine lv_aload_n hx hb dL_law_453 rfl (lv_at hl 1 rfl) ?_
    refine lv_iload hx hb dL_law_454 (lv_at hl 5 rfl) ?_
    refine lv_iconst (v := nI 2) hx hb dL_law_456 (by decide) ?_
    refine ln_iadd hx hb dL_law_457 ?_
    refine va_sld hx hb hScr hbl hbA hS (vp_in_nI (by omega) (by omega)) dL_law_458 ?_
    refine W.top (y := .int (xs (i + 2))) (congrArg (fun z => Value.int (xs z)) (nI_clamp (by omega))) ?_
    refine lv_if_eq (tgt := 466) hx hb dL_law_459 (by decide) (fun z9 => absurd z9 h8) (fun _ => ?_)
    refine lv_iconst (v := bI true) hx hb dL_law_462 (by decide) ?_
    refine lv_goto (tgt := 467) hx hb dL_law_463 (by decide) ?_
    have hPr : va_P D classes (rV cI hm b0 b1 b2 b3 ((th, nI n, sz), F9, mv, kp, li) ++ (cV cI cJ h0 h1 h2 a0 a1 a2 a3 h3 a4 h4 a5 u.1 ++ oW cJ ho u.2)) H := hP.rot
    have hDr : va_D A (rV cI hm b0 b1 b2 b3 ((th, nI n, sz), F9, mv, kp, li) ++ (cV cI cJ h0 h1 h2 a0 a1 a2 a3 h3 a4 h4 a5 u.1 ++ oW cJ ho u.2)) := hD.rot
    refine ftI (A := A) (wc := rV cI hm b0 b1 b2 b3 ((th, nI n, sz), F9, mv, kp, li)) (wr := cV cI cJ h0 h1 h2 a0 a1 a2 a3 h3 a4 h4 a5 u.1 ++ oW cJ ho u.2) (rnV (As := [.int (xs (i + 1)), .int (bI true)]) (rest := []) S0 (c_X5_on l (A := va_A (rV cI hm b0 b1 b2 b3 ((th, nI n, sz), F9, mv, kp, li)) H.size) bd sd rt ps hBd hLen (xs (i + 1)) true) wm_L_101 wi_X5_on ws_X5_on wn_X5 wc_X5_on hd_X5_on ⟨rfl, rfl, by decide, by decide⟩ IW.blind (va_recv hK hPr (ci := 4) (q0 := 0) rfl rfl) (IW.cut hPr hDr hK hA hE hS) hl.1 (Nat.le_of_ble_eq_true rfl) dL_law_467 rfl ⟨by show cells + 1 + 0 ≤ 600128; omega, by show slots + 6 + 0 ≤ 7301098; omega⟩) hPr hDr hA hS (fun r v H locs hv hP hD hS => ?_)
    obtain ⟨rfl, hag, hLI⟩ := hv
    have hP : va_P D classes ((cV cI cJ h0 h1 h2 a0 a1 a2 a3 h3 a4 h4 a5 u.1 ++ oW cJ ho u.2) ++ rV cI hm b0 b1 b2 b3 ((nI (ndN bd sd), nI n, nI (szN bd sd rt ps)), v.1, mv, kp, v.2)) H := hP.rot
    have hD : va_D A ((cV cI cJ h0 h1 h2 a0 a1 a2 a3 h3 a4 h4 a5 u.1 ++ oW cJ ho u.2) ++ rV cI hm b0 b1 b2 b3 ((nI (ndN bd sd), nI n, nI (szN bd sd rt ps)), v.1, mv, kp, v.2)) := hD.rot
    refine lv_istore (lv' := [(6, .int (nI (onc (lgs bd sd rt ps) (xs (i + 1)) true (lgs bd sd rt ps).length))), (5, .int (nI (ndN bd sd))), (0, .ref b), (1, .ref h0), (2, .ref hm), (3, .ref ho), (4, .int (nI i))]) hx hb dL_law_470 hl (by decide) rfl (fun ls hl => ?_)
    refine lv_aload_n hx hb dL_law_472 rfl (lv_at hl 4 rfl) ?_
    have hPr : va_P D classes (rV cI hm b0 b1 b2 b3 ((nI (ndN bd sd), nI n, nI (szN bd sd rt ps)), v.1, mv, kp, v.2) ++ (cV cI cJ h0 h1 h2 a0 a1 a2 a3 h3 a4 h4 a5 u.1 ++ oW cJ ho u.2)) H := hP.rot
    have hDr : va_D A (rV cI hm b0 b1 b2 b3 ((nI (ndN bd sd), nI n, nI (szN bd sd rt ps)), v.1, mv, kp, v.2) ++ (cV cI cJ h0 h1 h2 a0 a1 a2 a3 h3 a4 h4 a5 u.1 ++ oW cJ ho u.2)) := hD.rot
    refine roI (rnV (As := []) (rest := []) S0 (c_X5_thrown l (A := va_A (rV cI hm b0 b1 b2 b3 ((nI (ndN bd sd), nI n, nI (szN bd sd rt ps)), v.1, mv, kp, v.2)) H.size) ) wm_L_76 wi_X5_thrown ws_X5_thrown wn_X5 wc_X5_thrown hd_X5_thrown ⟨rfl, rfl, by decide, by decide⟩ IW.blind (va_recv hK hPr (ci := 4) (q0 := 0) rfl rfl) (IW.cut hPr hDr hK hA hE hS) hl.1 (Nat.le_of_ble_eq_true rfl) dL_law_473 rfl ⟨by show cells + 1 + 0 ≤ 600128; omega, by show slots + 6 + 0 ≤ 7301098; omega⟩) (fun r_473 hr_473 => ?_)
    subst hr_473
    refine lv_iload hx hb dL_law_476 (lv_at hl 1 rfl) ?_
    refine lv_icmp_eq (tgt := 483) hx hb dL_law_478 (by decide) (fun _ => ?_) (fun z9 => absurd rfl z9)
    refine lv_iload hx hb dL_law_483 (lv_at hl 1 rfl) ?_
    have hji := (show JI u.1 ((nI (ndN bd sd), nI n, nI (szN bd sd rt ps)), v.1, mv, kp, v.2) from ⟨bd, sd, rt, ps, n, hn, hI1, Bd_ag hBd hag, rfl, hH.kp hK1⟩)
    refine ln_if_ne (tgt := 500) hx hb dL_law_485 (by decide) (cd_nd bd sd) (fun _ => ?_) (fun k0 => ?_)
    · skip
      refine lv_goto (tgt := 827) hx hb dL_law_500 (by decide) ?_
      exact kk u.1 ((nI (ndN bd sd), nI n, nI (szN bd sd rt ps)), v.1, mv, kp, v.2) u.2 _ _ _ hji hP hD hS (lv_sub hl [2, 3, 4, 5, 6] rfl)
    · skip
      refine lv_aload_n hx hb dL_law_488 rfl (lv_at hl 5 rfl) ?_
      refine lv_iconst (v := nI 0) hx hb dL_law_489 (by decide) ?_
      refine va_lald hx hb hK hP 11 1 rfl rfl (vp_in_nI (by decide) (by decide)) dL_law_490 ?_
      refine W.top (y := .long (u.2 0)) (congrArg (fun z => Value.long (u.2 z)) (nI_clamp (by decide))) ?_
      refine lv_iload hx hb dL_law_491 (lv_at hl 0 rfl) ?_
      refine lv_i2l hx hb dL_law_493 rfl ?_
      refine W.lcmp hx hb dL_law_494 ?_
      refine lc_if_eq (tgt := 500) hx hb dL_law_495 (by decide) (fun _ => ?_) (fun z9 => absurd (ho1 k0) z9)
      refine lv_goto (tgt := 827) hx hb dL_law_500 (by decide) ?_
      exact kk u.1 ((nI (ndN bd sd), nI n, nI (szN bd sd rt ps)), v.1, mv, kp, v.2) u.2 _ _ _ hji hP hD hS (lv_sub hl [2, 3, 4, 5, 6] rfl)
set_option maxHeartbeats 4000000 in
set_option maxRecDepth 100000 in
theorem law_11 {p : Program} {l : Launch} {e : Env} {s : State} {m : MethodId} {below : List Frame} {meth : Method} {c : Code} {b L : Nat} {xs : Nat → Int32} {A : Nat → Prop} {D : va_G} {cI cJ : ClassId} {h0 h1 h2 a0 a1 a2 a3 h3 a4 h4 a5 ho hm b0 b1 b2 b3 : Nat} {H : Heap} {locs : List Loc} {cells slots : Nat} {Q : State → Prop} {ls : Array Slot} {i : Nat} (hF : LF p l s m meth c b L xs A D cI cJ) (hL : L ≤ 256) (hi : i + 4 ≤ L) (x : CS) (y : RS) (o : Nat → Int64) (hJ : JI x y) (hP : va_P D classes ((cV cI cJ h0 h1 h2 a0 a1 a2 a3 h3 a4 h4 a5 x ++ oW cJ ho o) ++ rV cI hm b0 b1 b2 b3 y) H) (hD : va_D A ((cV cI cJ h0 h1 h2 a0 a1 a2 a3 h3 a4 h4 a5 x ++ oW cJ ho o) ++ rV cI hm b0 b1 b2 b3 y)) (hS : va_S A s.heap H locs) (hc : cells + 1 ≤ 600128) (hs : slots + 6 ≤ 7301098) (hl : lv_has ls 8 [(0, .ref b), (1, .ref h0), (2, .ref hm), (3, .ref ho), (4, .int (nI i))]) (kk : ∀ (x : CS) (y : RS) (o : Nat → Int64) (H : Heap) (locs : List Loc) (ls : Array Slot), JI x y → va_P D classes ((cV cI cJ h0 h1 h2 a0 a1 a2 a3 h3 a4 h4 a5 x ++ oW cJ ho o) ++ rV cI hm b0 b1 b2 b3 y) H → va_D A ((cV cI cJ h0 h1 h2 a0 a1 a2 a3 h3 a4 h4 a5 x ++ oW cJ ho o) ++ rV cI hm b0 b1 b2 b3 y) → va_S A s.heap H locs → lv_has ls 8 [(0, .ref b), (1, .ref h0), (2, .ref hm), (3, .ref ho), (4, .int (nI i))] → W p l e room_1 s m #[Value.ref b] below meth c H locs (cells + 1) (slots + 6) Q (F0 m 827 ls [])) : W p l e room_1 s m #[Value.ref b] below meth c H locs cells slots Q (F0 m 614 ls []) := by
  obtain ⟨S0, hlocks, hK, hA, hE, hX, hScr, hbl, hbA, hlt⟩ := hF
  have hx := S0.1
  have hb := S0.2.1
  have hown := S0.2.2.2.1
  have hG : ∀ w ∈ wsL_law, w.before #[Value.ref b] s = true := fun w h => S0.2.2.2.2 w (List.mem_cons_of_mem _ h)
  obtain ⟨bd, sd, rt, ps, n, hn, hI, hBd, hmk, hH⟩ := hJ
  obtain ⟨⟨th, mk, sz⟩, F9, mv, kp, li⟩ := y
  dsimp only at hBd hmk hH
  subst hmk
  have hs2 := hBd.2.2.1
  have hr16 := hBd.2.2.2.2.1
  have hp65 := hBd.2.2.2.2.2.2
  have hb9 := hBd.lt
  have hLen : plb bd sd = true → (legs bd sd rt ps).length ≤ 1024 := fun _ => Nat.le_trans (len_ok bd sd rt ps hb9 hs2 hp65) (by decide)
  have hP : va_P D classes ((cV cI cJ h0 h1 h2 a0 a1 a2 a3 h3 a4 h4 a5 x ++ oW cJ ho o) ++ rV cI hm b0 b1 b2 b3 ((th, nI n, sz), F9, mv, kp, li)) H := hP
  have hD : va_D A ((cV cI cJ h0 h1 h2 a0 a1 a2 a3 h3 a4 h4 a5 x ++ oW cJ ho o) ++ rV cI hm b0 b1 b2 b3 ((th, nI n, sz), F9, mv, kp, li)) := hD
  refine lv_aload_n hx hb dL_law_614 rfl (lv_at hl 1 rfl) ?_
  refine lv_aload_n hx hb dL_law_615 rfl (lv_at hl 0 rfl) ?_
  refine lv_iload hx hb dL_law_616 (lv_at hl 4 rfl) ?_
  refine lv_iconst (v := nI 1) hx hb dL_law_618 (by decide) ?_
  refine ln_iadd hx hb dL_law_619 ?_
  refine va_sld hx hb hScr hbl hbA hS (vp_in_nI (by omega) (by omega)) dL_law_620 ?_
  refine W.top (y := .int (xs (i + 1))) (congrArg (fun z => Value.int (xs z)) (nI_clamp (by omega))) ?_
  refine lv_aload_n hx hb dL_law_621 rfl (lv_at hl 3 rfl) ?_
  refine ftI (A := A) (wc := cV cI cJ h0 h1 h2 a0 a1 a2 a3 h3 a4 h4 a5 x ++ oW cJ ho o) (wr := rV cI hm b0 b1 b2 b3 ((th, nI n, sz), F9, mv, kp, li)) (rnSH (As := [.ref h0, .int (xs (i + 1)), .ref ho]) (rest := []) S0 (c_L_make l hlt (A := va_A (cV cI cJ h0 h1 h2 a0 a1 a2 a3 h3 a4 h4 a5 x ++ oW cJ ho o) H.size) x o bd sd rt ps n hs2 hr16 hp65 hn hI (xs (i + 1))) wm_L_108 wt_L_make wn_L wc_L_make hd_L_make ⟨rfl, rfl, by decide, by decide⟩ XW.blind (XW.cut hP hD hK hA hE hX hS) hl.1 (Nat.le_of_ble_eq_true rfl) dL_law_622 rfl ⟨by show cells + 1 ≤ 600128; omega, by show slots + 6 ≤ 7301098; omega⟩) hP hD hA hS (fun r u H locs hu hP hD hS => ?_)
  have hP : va_P D classes ((cV cI cJ h0 h1 h2 a0 a1 a2 a3 h3 a4 h4 a5 u.1 ++ oW cJ ho u.2) ++ rV cI hm b0 b1 b2 b3 ((th, nI n, sz), F9, mv, kp, li)) H := hP
  have hD : va_D A ((cV cI cJ h0 h1 h2 a0 a1 a2 a3 h3 a4 h4 a5 u.1 ++ oW cJ ho u.2) ++ rV cI hm b0 b1 b2 b3 ((th, nI n, sz), F9, mv, kp, li)) := hD
  obtain ⟨rfl, hn1, hy1⟩ := hu
  refine lv_istore (lv' := [(5, .int (nI (mkc bd sd rt ps n (xs (i + 1))))), (0, .ref b), (1, .ref h0), (2, .ref hm), (3, .ref ho), (4, .int (nI i))]) hx hb dL_law_625 hl (by decide) rfl (fun ls hl => ?_)
  refine lv_aload_n hx hb dL_law_627 rfl (lv_at hl 3 rfl) ?_
  refine lv_aload_n hx hb dL_law_628 rfl (lv_at hl 1 rfl) ?_
  refine lv_iload hx hb dL_law_629 (lv_at hl 5 rfl) ?_
  refine lv_iconst (v := nI 1) hx hb dL_law_631 (by decide) ?_
  refine ln_iadd hx hb dL_law_632 ?_
  refine va_sld hx hb hScr hbl hbA hS (vp_in_nI (by omega) (by omega)) dL_law_633 ?_
  refine W.top (y := .int (xs (i + 1))) (congrArg (fun z => Value.int (xs z)) (nI_clamp (by omega))) ?_
  have hPr : va_P D classes (rV cI hm b0 b1 b2 b3 ((th, nI n, sz), F9, mv, kp, li) ++ (cV cI cJ h0 h1 h2 a0 a1 a2 a3 h3 a4 h4 a5 u.1 ++ oW cJ ho u.2)) H := hP.rot
  have hDr : va_D A (rV cI hm b0 b1 b2 b3 ((th, nI n, sz), F9, mv, kp, li) ++ (cV cI cJ h0 h1 h2 a0 a1 a2 a3 h3 a4 h4 a5 u.1 ++ oW cJ ho u.2)) := hD.rot
  refine ftI (A := A) (wc := rV cI hm b0 b1 b2 b3 ((th, nI n, sz), F9, mv, kp, li)) (wr := cV cI cJ h0 h1 h2 a0 a1 a2 a3 h3 a4 h4 a5 u.1 ++ oW cJ ho u.2) (rnV (As := [.int (xs (i + 1))]) (rest := []) S0 (c_X5_make l (A := va_A (rV cI hm b0 b1 b2 b3 ((th, nI n, sz), F9, mv, kp, li)) H.size) bd sd rt ps hBd len_ok n hn (xs (i + 1))) wm_L_110 wi_X5_make ws_X5_make wn_X5 wc_X5_make hd_X5_make ⟨rfl, rfl, by decide, by decide⟩ IW.blind (va_recv hK hPr (ci := 4) (q0 := 0) rfl rfl) (IW.cut hPr hDr hK hA hE hS) hl.1 (Nat.le_of_ble_eq_true rfl) dL_law_634 rfl ⟨by show cells + 1 + 0 ≤ 600128; omega, by show slots + 6 + 0 ≤ 7301098; omega⟩) hPr hDr hA hS (fun r v H locs hv hP hD hS => ?_)
  obtain ⟨hv1, hv2⟩ := hv
  have hP : va_P D classes ((cV cI cJ h0 h1 h2 a0 a1 a2 a3 h3 a4 h4 a5 u.1 ++ oW cJ ho u.2) ++ rV cI hm b0 b1 b2 b3 ((nI (mkc bd sd rt ps n (xs (i + 1))), v.2.1, nI (szN bd sd rt ps)), v.1, v.2.2.1, v.2.2.2.1, v.2.2.2.2)) H := hP.rot
  have hD : va_D A ((cV cI cJ h0 h1 h2 a0 a1 a2 a3 h3 a4 h4 a5 u.1 ++ oW cJ ho u.2) ++ rV cI hm b0 b1 b2 b3 ((nI (mkc bd sd rt ps n (xs (i + 1))), v.2.1, nI (szN bd sd rt ps)), v.1, v.2.2.1, v.2.2.2.1, v.2.2.2.2)) := hD.rot
  refine lv_istore (lv' := [(6, .int r), (5, .int (nI (mkc bd sd rt ps n (xs (i + 1))))), (0, .ref b), (1, .ref h0), (2, .ref hm), (3, .ref ho), (4, .int (nI i))]) hx hb dL_law_637 hl (by decide) rfl (fun ls hl => ?_)
  have hji0 : JI u.1 ((nI (mkc bd sd rt ps n (xs (i + 1))), v.2.1, nI (szN bd sd rt ps)), v.1, v.2.2.1, v.2.2.2.1, v.2.2.2.2) := by
    by_cases h0 : mkc bd sd rt ps n (xs (i + 1)) = 0
    · obtain ⟨f, t, k, hf, ht, hk, e1, hlL, -, hB2, e3, e4, e5, e6⟩ := hv1 h0
      obtain ⟨g1, g2, g3, -⟩ := hy1 h0 f t k hf ht hk e1
      have hn2 := (mkc_0 h0).2.2
      refine ⟨_, _, _, _, n + 1, by omega, g1, hB2, e3, bd, sd, rt, ps, f, t, k, hf, ht, hk, ?_, ?_, hlL, ?_, ?_, ?_, rfl, rfl⟩
      · dsimp only
        rw [g2, g3, e4]
        exact Hist.congr n bd sd (fun j hj => ⟨pk_un (by omega), pk_un (by omega)⟩) (fun j hj => pk_un (by omega)) e6 hH
      · exact Bd_cp hBd (fun j hj => (e5 (0 + j) (by omega)))
      · rw [g2, pk_us]; exact e1
      · dsimp only; rw [e4, pk_us]; exact e1
      · rw [g3, pk_us]
    · obtain ⟨hB2, e3, e4, e5⟩ := hv2 h0
      obtain ⟨g1, g2⟩ := hn1 h0
      exact ⟨bd, sd, rt, ps, n, hn, g1, hB2, e3, by dsimp only; rw [e4, e5]; exact hH.kp g2⟩
  refine lv_aload_n hx hb dL_law_639 rfl (lv_at hl 4 rfl) ?_
  have hPr : va_P D classes (rV cI hm b0 b1 b2 b3 ((nI (mkc bd sd rt ps n (xs (i + 1))), v.2.1, nI (szN bd sd rt ps)), v.1, v.2.2.1, v.2.2.2.1, v.2.2.2.2) ++ (cV cI cJ h0 h1 h2 a0 a1 a2 a3 h3 a4 h4 a5 u.1 ++ oW cJ ho u.2)) H := hP.rot
  have hDr : va_D A (rV cI hm b0 b1 b2 b3 ((nI (mkc bd sd rt ps n (xs (i + 1))), v.2.1, nI (szN bd sd rt ps)), v.1, v.2.2.1, v.2.2.2.1, v.2.2.2.2) ++ (cV cI cJ h0 h1 h2 a0 a1 a2 a3 h3 a4 h4 a5 u.1 ++ oW cJ ho u.2)) := hD.rot
  refine roI (rnV (As := []) (rest := []) S0 (c_X5_thrown l (A := va_A (rV cI hm b0 b1 b2 b3 ((nI (mkc bd sd rt ps n (xs (i + 1))), v.2.1, nI (szN bd sd rt ps)), v.1, v.2.2.1, v.2.2.2.1, v.2.2.2.2)) H.size) ) wm_L_76 wi_X5_thrown ws_X5_thrown wn_X5 wc_X5_thrown hd_X5_thrown ⟨rfl, rfl, by decide, by decide⟩ IW.blind (va_recv hK hPr (ci := 4) (q0 := 0) rfl rfl) (IW.cut hPr hDr hK hA hE hS) hl.1 (Nat.le_of_ble_eq_true rfl) dL_law_640 rfl ⟨by show cells + 1 + 0 ≤ 600128; omega, by show slots + 6 + 0 ≤ 7301098; omega⟩) (fun r_640 hr_640 => ?_)
  subst hr_640
  refine lv_iload hx hb dL_law_643 (lv_at hl 1 rfl) ?_
  refine lv_icmp_eq (tgt := 650) hx hb dL_law_645 (by decide) (fun _ => ?_) (fun z9 => absurd rfl z9)
  refine lv_iload hx hb dL_law_650 (lv_at hl 1 rfl) ?_
  have hji := hji0
  refine ln_if_ne (tgt := 667) hx hb dL_law_652 (by decide) (cd_mk bd sd rt ps n (xs (i + 1))) (fun _ => ?_) (fun k0 => ?_)
  · skip
    refine lv_goto (tgt := 827) hx hb dL_law_667 (by decide) ?_
    exact kk u.1 ((nI (mkc bd sd rt ps n (xs (i + 1))), v.2.1, nI (szN bd sd rt ps)), v.1, v.2.2.1, v.2.2.2.1, v.2.2.2.2) u.2 _ _ _ hji hP hD hS (lv_sub hl [2, 3, 4, 5, 6] rfl)
  · skip
    obtain ⟨f, t, k, hf, ht, hk, e1, hlL, rfl, -⟩ := hv1 k0
    refine lv_aload_n hx hb dL_law_655 rfl (lv_at hl 5 rfl) ?_
    refine lv_iconst (v := nI 0) hx hb dL_law_656 (by decide) ?_
    refine va_lald hx hb hK hP 11 1 rfl rfl (vp_in_nI (by decide) (by decide)) dL_law_657 ?_
    refine W.top (y := .long (u.2 0)) (congrArg (fun z => Value.long (u.2 z)) (nI_clamp (by decide))) ?_
    refine lv_iload hx hb dL_law_658 (lv_at hl 0 rfl) ?_
    refine lv_i2l hx hb dL_law_660 rfl ?_
    refine W.lcmp hx hb dL_law_661 ?_
    refine lc_if_eq (tgt := 667) hx hb dL_law_662 (by decide) (fun _ => ?_) (fun z9 => absurd ((hy1 k0 f t k hf ht hk e1).2.2.2) z9)
    refine lv_goto (tgt := 827) hx hb dL_law_667 (by decide) ?_
    exact kk u.1 ((nI (mkc bd sd rt ps n (xs (i + 1))), v.2.1, nI (szN bd sd rt ps)), v.1, v.2.2.1, v.2.2.2.1, v.2.2.2.2) u.2 _ _ _ hji hP hD hS (lv_sub hl [2, 3, 4, 5, 6] rfl)
set_option maxHeartbeats 4000000 in
set_option maxRecDepth 100000 in
theorem law_12 {p : Program} {l : Launch} {e : Env} {s : State} {m : MethodId} {below : List Frame} {meth : Method} {c : Code} {b L : Nat} {xs : Nat → Int32} {A : Nat → Prop} {D : va_G} {cI cJ : ClassId} {h0 h1 h2 a0 a1 a2 a3 h3 a4 h4 a5 ho hm b0 b1 b2 b3 : Nat} {H : Heap} {locs : List Loc} {cells slots : Nat} {Q : State → Prop} {ls : Array Slot} {i : Nat} (hF : LF p l s m meth c b L xs A D cI cJ) (hL : L ≤ 256) (hi : i + 4 ≤ L) (x : CS) (y : RS) (o : Nat → Int64) (hJ : JI x y) (hP : va_P D classes ((cV cI cJ h0 h1 h2 a0 a1 a2 a3 h3 a4 h4 a5 x ++ oW cJ ho o) ++ rV cI hm b0 b1 b2 b3 y) H) (hD : va_D A ((cV cI cJ h0 h1 h2 a0 a1 a2 a3 h3 a4 h4 a5 x ++ oW cJ ho o) ++ rV cI hm b0 b1 b2 b3 y)) (hS : va_S A s.heap H locs) (hc : cells + 1 ≤ 600128) (hs : slots + 6 ≤ 7301098) (hl : lv_has ls 8 [(0, .ref b), (1, .ref h0), (2, .ref hm), (3, .ref ho), (4, .int (nI i))]) (kk : ∀ (x : CS) (y : RS) (o : Nat → Int64) (H : Heap) (locs : List Loc) (ls : Array Slot), JI x y → va_P D classes ((cV cI cJ h0 h1 h2 a0 a1 a2 a3 h3 a4 h4 a5 x ++ oW cJ ho o) ++ rV cI hm b0 b1 b2 b3 y) H → va_D A ((cV cI cJ h0 h1 h2 a0 a1 a2 a3 h3 a4 h4 a5 x ++ oW cJ ho o) ++ rV cI hm b0 b1 b2 b3 y) → va_S A s.heap H locs → lv_has ls 8 [(0, .ref b), (1, .ref h0), (2, .ref hm), (3, .ref ho), (4, .int (nI i))] → W p l e room_1 s m #[Value.ref b] below meth c H locs (cells + 1) (slots + 6) Q (F0 m 827 ls [])) : W p l e room_1 s m #[Value.ref b] below meth c H locs cells slots Q (F0 m 670 ls []) := by
  obtain ⟨S0, hlocks, hK, hA, hE, hX, hScr, hbl, hbA, hlt⟩ := hF
  have hx := S0.1
  have hb := S0.2.1
  have hown := S0.2.2.2.1
  have hG : ∀ w ∈ wsL_law, w.before #[Value.ref b] s = true := fun w h => S0.2.2.2.2 w (List.mem_cons_of_mem _ h)
  obtain ⟨bd, sd, rt, ps, n, hn, hI, hBd, hmk, hH⟩ := hJ
  obtain ⟨⟨th, mk, sz⟩, F9, mv, kp, li⟩ := y
  dsimp only at hBd hmk hH
  subst hmk
  have hs2 := hBd.2.2.1
  have hr16 := hBd.2.2.2.2.1
  have hp65 := hBd.2.2.2.2.2.2
  have hb9 := hBd.lt
  have hLen : plb bd sd = true → (legs bd sd rt ps).length ≤ 1024 := fun _ => Nat.le_trans (len_ok bd sd rt ps hb9 hs2 hp65) (by decide)
  obtain ⟨⟨kn, op, ow, tr, fu, kg, co, pn⟩, ⟨si, ri, pa, ma⟩, ⟨pcs, sqa, mvs, los⟩, lsz, lfs, asz, afs⟩ := x
  obtain ⟨hCP, e1, e2, e3, e4, kb, ob, e5, e6, hKL⟩ := hI
  dsimp only at hCP e1 e2 e3 e4 e5 e6 hKL hH
  subst e1 e2 e3 e4 e5 e6
  have hP : va_P D classes ((cV cI cJ h0 h1 h2 a0 a1 a2 a3 h3 a4 h4 a5 ((bI kb, bI ob, ow, tr, fu, kg, co, pn), (nI sd, nI rt, pI ps, nI n), (pcs, sqa, mvs, los), lsz, lfs, asz, afs) ++ oW cJ ho o) ++ rV cI hm b0 b1 b2 b3 ((th, nI n, sz), F9, mv, kp, li)) H := hP
  have hD : va_D A ((cV cI cJ h0 h1 h2 a0 a1 a2 a3 h3 a4 h4 a5 ((bI kb, bI ob, ow, tr, fu, kg, co, pn), (nI sd, nI rt, pI ps, nI n), (pcs, sqa, mvs, los), lsz, lfs, asz, afs) ++ oW cJ ho o) ++ rV cI hm b0 b1 b2 b3 ((th, nI n, sz), F9, mv, kp, li)) := hD
  rcases n with _ | n
  · skip
    have hP : va_P D classes ((cV cI cJ h0 h1 h2 a0 a1 a2 a3 h3 a4 h4 a5 ((bI kb, bI ob, ow, tr, fu, kg, co, pn), (nI sd, nI rt, pI ps, nI 0), (pcs, sqa, mvs, los), lsz, lfs, asz, afs) ++ oW cJ ho o) ++ rV cI hm b0 b1 b2 b3 ((th, nI 0, sz), F9, mv, kp, li)) H := hP
    have hD : va_D A ((cV cI cJ h0 h1 h2 a0 a1 a2 a3 h3 a4 h4 a5 ((bI kb, bI ob, ow, tr, fu, kg, co, pn), (nI sd, nI rt, pI ps, nI 0), (pcs, sqa, mvs, los), lsz, lfs, asz, afs) ++ oW cJ ho o) ++ rV cI hm b0 b1 b2 b3 ((th, nI 0, sz), F9, mv, kp, li)) := hD
    refine lv_aload_n hx hb dL_law_670 rfl (lv_at hl 1 rfl) ?_
    have hPr : va_P D classes (cW cI cJ h0 h1 h2 a0 a1 a2 a3 h3 a4 h4 a5 (bI kb) (bI ob) ow tr fu kg co pn (nI sd) (nI rt) (pI ps) (nI 0) pcs sqa mvs los lsz lfs asz afs ++ (oW cJ ho o ++ rV cI hm b0 b1 b2 b3 ((th, nI 0, sz), F9, mv, kp, li))) H := by rw [← List.append_assoc]; exact hP
    have hDr : va_D A (cW cI cJ h0 h1 h2 a0 a1 a2 a3 h3 a4 h4 a5 (bI kb) (bI ob) ow tr fu kg co pn (nI sd) (nI rt) (pI ps) (nI 0) pcs sqa mvs los lsz lfs asz afs ++ (oW cJ ho o ++ rV cI hm b0 b1 b2 b3 ((th, nI 0, sz), F9, mv, kp, li))) := by rw [← List.append_assoc]; exact hD
    refine ftI (A := A) (wc := cW cI cJ h0 h1 h2 a0 a1 a2 a3 h3 a4 h4 a5 (bI kb) (bI ob) ow tr fu kg co pn (nI sd) (nI rt) (pI ps) (nI 0) pcs sqa mvs los lsz lfs asz afs) (wr := oW cJ ho o ++ rV cI hm b0 b1 b2 b3 ((th, nI 0, sz), F9, mv, kp, li)) (rnV (As := []) (rest := []) S0 (c_X4_unmake_0 l (A := va_A (cW cI cJ h0 h1 h2 a0 a1 a2 a3 h3 a4 h4 a5 (bI kb) (bI ob) ow tr fu kg co pn (nI sd) (nI rt) (pI ps) (nI 0) pcs sqa mvs los lsz lfs asz afs) H.size) ) wm_L_111 wi_X4_unmake ws_X4_unmake wn_X4 wc_X4_unmake hd_X4_unmake ⟨rfl, rfl, by decide, by decide⟩ IW.blind (va_recv hK hPr (ci := 3) (q0 := 0) rfl rfl) (IW.cut hPr hDr hK hA hE hS) hl.1 (Nat.le_of_ble_eq_true rfl) dL_law_671 rfl ⟨by show cells + 0 ≤ 600128; omega, by show slots + 0 ≤ 7301098; omega⟩) hPr hDr hA hS (fun r u H locs hu hP hD hS => ?_)
    obtain rfl := hu
    rw [← List.append_assoc] at hP hD
    have hP : va_P D classes ((cV cI cJ h0 h1 h2 a0 a1 a2 a3 h3 a4 h4 a5 ((bI kb, bI ob, ow, tr, fu, kg, co, pn), (nI sd, nI rt, pI ps, nI 0), (pcs, sqa, mvs, los), lsz, lfs, asz, afs) ++ oW cJ ho o) ++ rV cI hm b0 b1 b2 b3 ((th, nI 0, sz), F9, mv, kp, li)) H := hP
    have hD : va_D A ((cV cI cJ h0 h1 h2 a0 a1 a2 a3 h3 a4 h4 a5 ((bI kb, bI ob, ow, tr, fu, kg, co, pn), (nI sd, nI rt, pI ps, nI 0), (pcs, sqa, mvs, los), lsz, lfs, asz, afs) ++ oW cJ ho o) ++ rV cI hm b0 b1 b2 b3 ((th, nI 0, sz), F9, mv, kp, li)) := hD
    refine lv_aload_n hx hb dL_law_674 rfl (lv_at hl 2 rfl) ?_
    have hPr : va_P D classes (rV cI hm b0 b1 b2 b3 ((th, nI 0, sz), F9, mv, kp, li) ++ (cV cI cJ h0 h1 h2 a0 a1 a2 a3 h3 a4 h4 a5 ((bI kb, bI ob, ow, tr, fu, kg, co, pn), (nI sd, nI rt, pI ps, nI 0), (pcs, sqa, mvs, los), lsz, lfs, asz, afs) ++ oW cJ ho o)) H := hP.rot
    have hDr : va_D A (rV cI hm b0 b1 b2 b3 ((th, nI 0, sz), F9, mv, kp, li) ++ (cV cI cJ h0 h1 h2 a0 a1 a2 a3 h3 a4 h4 a5 ((bI kb, bI ob, ow, tr, fu, kg, co, pn), (nI sd, nI rt, pI ps, nI 0), (pcs, sqa, mvs, los), lsz, lfs, asz, afs) ++ oW cJ ho o)) := hD.rot
    refine ftI (A := A) (wc := rV cI hm b0 b1 b2 b3 ((th, nI 0, sz), F9, mv, kp, li)) (wr := cV cI cJ h0 h1 h2 a0 a1 a2 a3 h3 a4 h4 a5 ((bI kb, bI ob, ow, tr, fu, kg, co, pn), (nI sd, nI rt, pI ps, nI 0), (pcs, sqa, mvs, los), lsz, lfs, asz, afs) ++ oW cJ ho o) (rnV (As := []) (rest := [.int (-1)]) S0 (c_X5_unmake l (A := va_A (rV cI hm b0 b1 b2 b3 ((th, nI 0, sz), F9, mv, kp, li)) H.size) 0 hn) wm_L_114 wi_X5_unmake ws_X5_unmake wn_X5 wc_X5_unmake hd_X5_unmake ⟨rfl, rfl, by decide, by decide⟩ IW.blind (va_recv hK hPr (ci := 4) (q0 := 0) rfl rfl) (IW.cut hPr hDr hK hA hE hS) hl.1 (Nat.le_of_ble_eq_true rfl) dL_law_675 rfl ⟨by show cells + 0 ≤ 600128; omega, by show slots + 0 ≤ 7301098; omega⟩) hPr hDr hA hS (fun r v H locs hv hP hD hS => ?_)
    obtain ⟨hr1, -⟩ := hv
    obtain ⟨rfl, e1, e2⟩ := hr1 rfl
    have hP : va_P D classes ((cV cI cJ h0 h1 h2 a0 a1 a2 a3 h3 a4 h4 a5 ((bI kb, bI ob, ow, tr, fu, kg, co, pn), (nI sd, nI rt, pI ps, nI 0), (pcs, sqa, mvs, los), lsz, lfs, asz, afs) ++ oW cJ ho o) ++ rV cI hm b0 b1 b2 b3 ((nI 0, v.2, sz), v.1, mv, kp, li)) H := hP.rot
    have hD : va_D A ((cV cI cJ h0 h1 h2 a0 a1 a2 a3 h3 a4 h4 a5 ((bI kb, bI ob, ow, tr, fu, kg, co, pn), (nI sd, nI rt, pI ps, nI 0), (pcs, sqa, mvs, los), lsz, lfs, asz, afs) ++ oW cJ ho o) ++ rV cI hm b0 b1 b2 b3 ((nI 0, v.2, sz), v.1, mv, kp, li)) := hD.rot
    refine lv_icmp_eq (tgt := 827) hx hb dL_law_678 (by decide) (fun _ => ?_) (fun z9 => absurd rfl z9)
    refine W.widen (k := cells + 1) (n := slots + 6) (by omega) (by omega) ?_
    exact kk ((bI kb, bI ob, ow, tr, fu, kg, co, pn), (nI sd, nI rt, pI ps, nI 0), (pcs, sqa, mvs, los), lsz, lfs, asz, afs) ((nI 0, v.2, sz), v.1, mv, kp, li) o _ _ _ ⟨bd, sd, rt, ps, 0, hn, ⟨hCP, rfl, rfl, rfl, rfl, kb, ob, rfl, rfl, hKL⟩, by rw [e1]; exact hBd, e2, trivial⟩ hP hD hS (lv_sub hl [0, 1, 2, 3, 4] rfl)
  · skip
    have hP : va_P D classes ((cV cI cJ h0 h1 h2 a0 a1 a2 a3 h3 a4 h4 a5 ((bI kb, bI ob, ow, tr, fu, kg, co, pn), (nI sd, nI rt, pI ps, nI (n + 1)), (pcs, sqa, mvs, los), lsz, lfs, asz, afs) ++ oW cJ ho o) ++ rV cI hm b0 b1 b2 b3 ((th, nI (n + 1), sz), F9, mv, kp, li)) H := hP
    have hD : va_D A ((cV cI cJ h0 h1 h2 a0 a1 a2 a3 h3 a4 h4 a5 ((bI kb, bI ob, ow, tr, fu, kg, co, pn), (nI sd, nI rt, pI ps, nI (n + 1)), (pcs, sqa, mvs, los), lsz, lfs, asz, afs) ++ oW cJ ho o) ++ rV cI hm b0 b1 b2 b3 ((th, nI (n + 1), sz), F9, mv, kp, li)) := hD
    obtain ⟨bd0, sd0, rt0, ps0, f, t, k, hf, ht, hk, hH0, hB0, hlL, e1, e2, e3, e4, e5⟩ := hH
    subst e4 e5
    have hs0 := hB0.2.2.1
    have hr0 := hB0.2.2.2.2.1
    have hp0 := hB0.2.2.2.2.2.2
    have hb0 := hB0.lt
    have hss : 1 - (1 - sd0) = sd0 := by omega
    have hGM := GM_e hb0 hs0 hf ht hk hlL
    have hpb := plB_e hb0 hs0 hf ht hlL
    obtain ⟨-, -, -, -, hct, hid⟩ := hGM
    rw [hpb] at hct hid
    have hP : va_P D classes ((cV cI cJ h0 h1 h2 a0 a1 a2 a3 h3 a4 h4 a5 ((bI kb, bI ob, ow, tr, fu, kg, co, pn), (nI (1 - sd0), nI rt, pI ps, nI (n + 1)), (pcs, sqa, mvs, los), lsz, lfs, asz, afs) ++ oW cJ ho o) ++ rV cI hm b0 b1 b2 b3 ((th, nI (n + 1), sz), F9, mv, kp, li)) H := hP
    have hD : va_D A ((cV cI cJ h0 h1 h2 a0 a1 a2 a3 h3 a4 h4 a5 ((bI kb, bI ob, ow, tr, fu, kg, co, pn), (nI (1 - sd0), nI rt, pI ps, nI (n + 1)), (pcs, sqa, mvs, los), lsz, lfs, asz, afs) ++ oW cJ ho o) ++ rV cI hm b0 b1 b2 b3 ((th, nI (n + 1), sz), F9, mv, kp, li)) := hD
    refine lv_aload_n hx hb dL_law_670 rfl (lv_at hl 1 rfl) ?_
    have hPr : va_P D classes (cW cI cJ h0 h1 h2 a0 a1 a2 a3 h3 a4 h4 a5 (bI kb) (bI ob) ow tr fu kg co pn (nI (1 - sd0)) (nI rt) (pI ps) (nI (n + 1)) pcs sqa mvs los lsz lfs asz afs ++ (oW cJ ho o ++ rV cI hm b0 b1 b2 b3 ((th, nI (n + 1), sz), F9, mv, kp, li))) H := by rw [← List.append_assoc]; exact hP
    have hDr : va_D A (cW cI cJ h0 h1 h2 a0 a1 a2 a3 h3 a4 h4 a5 (bI kb) (bI ob) ow tr fu kg co pn (nI (1 - sd0)) (nI rt) (pI ps) (nI (n + 1)) pcs sqa mvs los lsz lfs asz afs ++ (oW cJ ho o ++ rV cI hm b0 b1 b2 b3 ((th, nI (n + 1), sz), F9, mv, kp, li))) := by rw [← List.append_assoc]; exact hD
    refine ftI (A := A) (wc := cW cI cJ h0 h1 h2 a0 a1 a2 a3 h3 a4 h4 a5 (bI kb) (bI ob) ow tr fu kg co pn (nI (1 - sd0)) (nI rt) (pI ps) (nI (n + 1)) pcs sqa mvs los lsz lfs asz afs) (wr := oW cJ ho o ++ rV cI hm b0 b1 b2 b3 ((th, nI (n + 1), sz), F9, mv, kp, li)) (rnV (As := []) (rest := []) S0 (c_X4_unmake l (A := va_A (cW cI cJ h0 h1 h2 a0 a1 a2 a3 h3 a4 h4 a5 (bI kb) (bI ob) ow tr fu kg co pn (nI (1 - sd0)) (nI rt) (pI ps) (nI (n + 1)) pcs sqa mvs los lsz lfs asz afs) H.size) (bhB bd0 sd0 ps0 f t k) hCP (1 - sd0) rt0 ps0 n (tkn bd0 f t) (bd0 (tkn bd0 f t)) (by omega) hr0 hp0 (by omega) (tkn_lt hf ht) (hb0 _ (tkn_lt hf ht)) f t k hf ht hk e1 e3 (by rw [hss]; exact hct)) wm_L_111 wi_X4_unmake ws_X4_unmake wn_X4 wc_X4_unmake hd_X4_unmake ⟨rfl, rfl, by decide, by decide⟩ IW.blind (va_recv hK hPr (ci := 3) (q0 := 0) rfl rfl) (IW.cut hPr hDr hK hA hE hS) hl.1 (Nat.le_of_ble_eq_true rfl) dL_law_671 rfl ⟨by show cells + 0 ≤ 600128; omega, by show slots + 0 ≤ 7301098; omega⟩) hPr hDr hA hS (fun r u H locs hu hP hD hS => ?_)
    obtain ⟨rfl, hC2⟩ := hu
    rw [hss] at hC2 hP hD
    rw [← List.append_assoc] at hP hD
    have hP : va_P D classes ((cV cI cJ h0 h1 h2 a0 a1 a2 a3 h3 a4 h4 a5 ((bI false, bI ob, ow, tr, fu, kg, co, pn), (nI sd0, nI rt0, pI ps0, nI n), (u.1, u.2, mvs, los), lsz, lfs, asz, afs) ++ oW cJ ho o) ++ rV cI hm b0 b1 b2 b3 ((th, nI (n + 1), sz), F9, mv, kp, li)) H := hP
    have hD : va_D A ((cV cI cJ h0 h1 h2 a0 a1 a2 a3 h3 a4 h4 a5 ((bI false, bI ob, ow, tr, fu, kg, co, pn), (nI sd0, nI rt0, pI ps0, nI n), (u.1, u.2, mvs, los), lsz, lfs, asz, afs) ++ oW cJ ho o) ++ rV cI hm b0 b1 b2 b3 ((th, nI (n + 1), sz), F9, mv, kp, li)) := hD
    refine lv_aload_n hx hb dL_law_674 rfl (lv_at hl 2 rfl) ?_
    have hPr : va_P D classes (rV cI hm b0 b1 b2 b3 ((th, nI (n + 1), sz), F9, mv, kp, li) ++ (cV cI cJ h0 h1 h2 a0 a1 a2 a3 h3 a4 h4 a5 ((bI false, bI ob, ow, tr, fu, kg, co, pn), (nI sd0, nI rt0, pI ps0, nI n), (u.1, u.2, mvs, los), lsz, lfs, asz, afs) ++ oW cJ ho o)) H := hP.rot
    have hDr : va_D A (rV cI hm b0 b1 b2 b3 ((th, nI (n + 1), sz), F9, mv, kp, li) ++ (cV cI cJ h0 h1 h2 a0 a1 a2 a3 h3 a4 h4 a5 ((bI false, bI ob, ow, tr, fu, kg, co, pn), (nI sd0, nI rt0, pI ps0, nI n), (u.1, u.2, mvs, los), lsz, lfs, asz, afs) ++ oW cJ ho o)) := hD.rot
    refine ftI (A := A) (wc := rV cI hm b0 b1 b2 b3 ((th, nI (n + 1), sz), F9, mv, kp, li)) (wr := cV cI cJ h0 h1 h2 a0 a1 a2 a3 h3 a4 h4 a5 ((bI false, bI ob, ow, tr, fu, kg, co, pn), (nI sd0, nI rt0, pI ps0, nI n), (u.1, u.2, mvs, los), lsz, lfs, asz, afs) ++ oW cJ ho o) (rnV (As := []) (rest := [.int (nI (f + 64 * t + 4096 * k))]) S0 (c_X5_unmake l (A := va_A (rV cI hm b0 b1 b2 b3 ((th, nI (n + 1), sz), F9, mv, kp, li)) H.size) (n + 1) hn) wm_L_114 wi_X5_unmake ws_X5_unmake wn_X5 wc_X5_unmake hd_X5_unmake ⟨rfl, rfl, by decide, by decide⟩ IW.blind (va_recv hK hPr (ci := 4) (q0 := 0) rfl rfl) (IW.cut hPr hDr hK hA hE hS) hl.1 (Nat.le_of_ble_eq_true rfl) dL_law_675 rfl ⟨by show cells + 0 ≤ 600128; omega, by show slots + 0 ≤ 7301098; omega⟩) hPr hDr hA hS (fun r v H locs hv hP hD hS => ?_)
    obtain ⟨-, hr1⟩ := hv
    obtain ⟨e7, e8, e9⟩ := hr1 (by omega)
    have e7 : r = mv n := e7
    have e8 : v.2 = nI n := e8
    have e9 : ∀ j, j < 67 → v.1 j = kp (67 * n + j) := e9
    have e7 := e7.trans e2
    subst e7
    have hP : va_P D classes ((cV cI cJ h0 h1 h2 a0 a1 a2 a3 h3 a4 h4 a5 ((bI false, bI ob, ow, tr, fu, kg, co, pn), (nI sd0, nI rt0, pI ps0, nI n), (u.1, u.2, mvs, los), lsz, lfs, asz, afs) ++ oW cJ ho o) ++ rV cI hm b0 b1 b2 b3 ((nI 0, v.2, sz), v.1, mv, kp, li)) H := hP.rot
    have hD : va_D A ((cV cI cJ h0 h1 h2 a0 a1 a2 a3 h3 a4 h4 a5 ((bI false, bI ob, ow, tr, fu, kg, co, pn), (nI sd0, nI rt0, pI ps0, nI n), (u.1, u.2, mvs, los), lsz, lfs, asz, afs) ++ oW cJ ho o) ++ rV cI hm b0 b1 b2 b3 ((nI 0, v.2, sz), v.1, mv, kp, li)) := hD.rot
    refine lv_icmp_eq (tgt := 827) hx hb dL_law_678 (by decide) (fun _ => ?_) (fun z9 => absurd rfl z9)
    refine W.widen (k := cells + 1) (n := slots + 6) (by omega) (by omega) ?_
    exact kk ((bI false, bI ob, ow, tr, fu, kg, co, pn), (nI sd0, nI rt0, pI ps0, nI n), (u.1, u.2, mvs, los), lsz, lfs, asz, afs) ((nI 0, v.2, sz), v.1, mv, kp, li) o _ _ _ ⟨bd0, sd0, rt0, ps0, n, by omega, ⟨CP_congr hid hC2, rfl, rfl, rfl, rfl, false, ob, rfl, rfl, KLp.un ob⟩, Bd_cp hB0 (fun j hj => by rw [Nat.zero_add]; exact e9 j hj), e8, hH0⟩ hP hD hS (lv_sub hl [0, 1, 2, 3, 4] rfl)

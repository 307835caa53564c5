set_option maxHeartbeats 4000000 in
set_option maxRecDepth 100000 in
theorem law_9 {p : Program} {l : Launch} {e : Env} {s : State} {m : MethodId} {below : List Frame} {meth : Method} {c : Code} {b L : Nat} {xs : Nat → Int32} {A : Nat → Prop} {D : va_G} {cI cJ : ClassId} {h0 h1 h2 a0 a1 a2 a3 h3 a4 h4 a5 ho hm b0 b1 b2 b3 : Nat} {H : Heap} {locs : List Loc} {cells slots : Nat} {Q : State → Prop} {ls : Array Slot} {i : Nat} (hF : LF p l s m meth c b L xs A D cI cJ) (hL : L ≤ 256) (hi : i + 4 ≤ L) (x : CS) (y : RS) (o : Nat → Int64) (hJ : JI x y) (hP : va_P D classes ((cV cI cJ h0 h1 h2 a0 a1 a2 a3 h3 a4 h4 a5 x ++ oW cJ ho o) ++ rV cI hm b0 b1 b2 b3 y) H) (hD : va_D A ((cV cI cJ h0 h1 h2 a0 a1 a2 a3 h3 a4 h4 a5 x ++ oW cJ ho o) ++ rV cI hm b0 b1 b2 b3 y)) (hS : va_S A s.heap H locs) (hc : cells + 1 ≤ 600128) (hs : slots + 6 ≤ 7301098) (hl : lv_has ls 8 [(0, .ref b), (1, .ref h0), (2, .ref hm), (3, .ref ho), (4, .int (nI i))]) (kk : ∀ (x : CS) (y : RS) (o : Nat → Int64) (H : Heap) (locs : List Loc) (ls : Array Slot), JI x y → va_P D classes ((cV cI cJ h0 h1 h2 a0 a1 a2 a3 h3 a4 h4 a5 x ++ oW cJ ho o) ++ rV cI hm b0 b1 b2 b3 y) H → va_D A ((cV cI cJ h0 h1 h2 a0 a1 a2 a3 h3 a4 h4 a5 x ++ oW cJ ho o) ++ rV cI hm b0 b1 b2 b3 y) → va_S A s.heap H locs → lv_has ls 8 [(0, .ref b), (1, .ref h0), (2, .ref hm), (3, .ref ho), (4, .int (nI i))] → W p l e room_1 s m #[Value.ref b] below meth c H locs (cells + 1) (slots + 6) Q (F0 m 827 ls [])) : W p l e room_1 s m #[Value.ref b] below meth c H locs cells slots Q (F0 m 503 ls []) := by
  obtain ⟨S0, hlocks, hK, hA, hE, hX, hScr, hbl, hbA, hlt⟩ := hF
  have hx := S0.1
  have hb := S0.2.1
  have hown := S0.2.2.2.1
  have hG : ∀ w ∈ wsL_law, w.before #[Value.ref b] s = true := fun w h => S0.2.2.2.2 w (List.mem_cons_of_mem _ h)
  obtain ⟨bd, sd, rt, ps, n, hn, hI, hBd, hmk, hH⟩ := hJ
  obtain ⟨⟨th, mk, sz⟩, F9, mv, kp, li⟩ := y
  dsimp only at hBd hmk hH
  subst hmk
  have hs2 := hBd.2.2.1
  have hr16 := hBd.2.2.2.2.1
  have hp65 := hBd.2.2.2.2.2.2
  have hb9 := hBd.lt
  have hLen : plb bd sd = true → (legs bd sd rt ps).length ≤ 1024 := fun _ => Nat.le_trans (len_ok bd sd rt ps hb9 hs2 hp65) (by decide)
  have hP : va_P D classes ((cV cI cJ h0 h1 h2 a0 a1 a2 a3 h3 a4 h4 a5 x ++ oW cJ ho o) ++ rV cI hm b0 b1 b2 b3 ((th, nI n, sz), F9, mv, kp, li)) H := hP
  have hD : va_D A ((cV cI cJ h0 h1 h2 a0 a1 a2 a3 h3 a4 h4 a5 x ++ oW cJ ho o) ++ rV cI hm b0 b1 b2 b3 ((th, nI n, sz), F9, mv, kp, li)) := hD
  refine lv_aload_n hx hb dL_law_503 rfl (lv_at hl 1 rfl) ?_
  refine lv_aload_n hx hb dL_law_504 rfl (lv_at hl 0 rfl) ?_
  refine lv_iload hx hb dL_law_505 (lv_at hl 4 rfl) ?_
  refine lv_iconst (v := nI 1) hx hb dL_law_507 (by decide) ?_
  refine ln_iadd hx hb dL_law_508 ?_
  refine va_sld hx hb hScr hbl hbA hS (vp_in_nI (by omega) (by omega)) dL_law_509 ?_
  refine W.top (y := .int (xs (i + 1))) (congrArg (fun z => Value.int (xs z)) (nI_clamp (by omega))) ?_
  refine lv_aload_n hx hb dL_law_510 rfl (lv_at hl 3 rfl) ?_
  refine ftI (A := A) (wc := cV cI cJ h0 h1 h2 a0 a1 a2 a3 h3 a4 h4 a5 x ++ oW cJ ho o) (wr := rV cI hm b0 b1 b2 b3 ((th, nI n, sz), F9, mv, kp, li)) (rnSH (As := [.ref h0, .int (xs (i + 1)), .ref ho]) (rest := []) S0 (c_L_kind l hlt (A := va_A (cV cI cJ h0 h1 h2 a0 a1 a2 a3 h3 a4 h4 a5 x ++ oW cJ ho o) H.size) x o bd sd rt ps n hs2 hr16 hp65 hn hI (xs (i + 1))) wm_L_102 wt_L_kind wn_L wc_L_kind hd_L_kind ⟨rfl, rfl, by decide, by decide⟩ XW.blind (XW.cut hP hD hK hA hE hX hS) hl.1 (Nat.le_of_ble_eq_true rfl) dL_law_511 rfl ⟨by show cells + 1 ≤ 600128; omega, by show slots + 6 ≤ 7301098; omega⟩) hP hD hA hS (fun r u H locs hu hP hD hS => ?_)
  have hP : va_P D classes ((cV cI cJ h0 h1 h2 a0 a1 a2 a3 h3 a4 h4 a5 u.1 ++ oW cJ ho u.2) ++ rV cI hm b0 b1 b2 b3 ((th, nI n, sz), F9, mv, kp, li)) H := hP
  have hD : va_D A ((cV cI cJ h0 h1 h2 a0 a1 a2 a3 h3 a4 h4 a5 u.1 ++ oW cJ ho u.2) ++ rV cI hm b0 b1 b2 b3 ((th, nI n, sz), F9, mv, kp, li)) := hD
  obtain ⟨rfl, hI1, hK1, ho1⟩ := hu
  refine lv_istore (lv' := [(5, .int (nI (kdc bd sd rt ps (xs (i + 1))))), (0, .ref b), (1, .ref h0), (2, .ref hm), (3, .ref ho), (4, .int (nI i))]) hx hb dL_law_514 hl (by decide) rfl (fun ls hl => ?_)
  refine lv_aload_n hx hb dL_law_516 rfl (lv_at hl 3 rfl) ?_
  refine lv_aload_n hx hb dL_law_517 rfl (lv_at hl 1 rfl) ?_
  refine lv_iload hx hb dL_law_518 (lv_at hl 5 rfl) ?_
  refine lv_iconst (v := nI 1) hx hb dL_law_520 (by decide) ?_
  refine ln_iadd hx hb dL_law_521 ?_
  refine va_sld hx hb hScr hbl hbA hS (vp_in_nI (by omega) (by omega)) dL_law_522 ?_
  refine W.top (y := .int (xs (i + 1))) (congrArg (fun z => Value.int (xs z)) (nI_clamp (by omega))) ?_
  have hPr : va_P D classes (rV cI hm b0 b1 b2 b3 ((th, nI n, sz), F9, mv, kp, li) ++ (cV cI cJ h0 h1 h2 a0 a1 a2 a3 h3 a4 h4 a5 u.1 ++ oW cJ ho u.2)) H := hP.rot
  have hDr : va_D A (rV cI hm b0 b1 b2 b3 ((th, nI n, sz), F9, mv, kp, li) ++ (cV cI cJ h0 h1 h2 a0 a1 a2 a3 h3 a4 h4 a5 u.1 ++ oW cJ ho u.2)) := hD.rot
  refine ftI (A := A) (wc := rV cI hm b0 b1 b2 b3 ((th, nI n, sz), F9, mv, kp, li)) (wr := cV cI cJ h0 h1 h2 a0 a1 a2 a3 h3 a4 h4 a5 u.1 ++ oW cJ ho u.2) (rnV (As := [.int (xs (i + 1))]) (rest := []) S0 (c_X5_kind l (A := va_A (rV cI hm b0 b1 b2 b3 ((th, nI n, sz), F9, mv, kp, li)) H.size) bd sd rt ps hBd len_ok (xs (i + 1))) wm_L_104 wi_X5_kind ws_X5_kind wn_X5 wc_X5_kind hd_X5_kind ⟨rfl, rfl, by decide, by decide⟩ IW.blind (va_recv hK hPr (ci := 4) (q0 := 0) rfl rfl) (IW.cut hPr hDr hK hA hE hS) hl.1 (Nat.le_of_ble_eq_true rfl) dL_law_523 rfl ⟨by show cells + 1 + 0 ≤ 600128; omega, by show slots + 6 + 0 ≤ 7301098; omega⟩) hPr hDr hA hS (fun r v H locs hv hP hD hS => ?_)
  obtain ⟨hv1, hB2⟩ := hv
  have hP : va_P D classes ((cV cI cJ h0 h1 h2 a0 a1 a2 a3 h3 a4 h4 a5 u.1 ++ oW cJ ho u.2) ++ rV cI hm b0 b1 b2 b3 ((nI (kdc bd sd rt ps (xs (i + 1))), nI n, nI (szN bd sd rt ps)), v.1, mv, kp, v.2)) H := hP.rot
  have hD : va_D A ((cV cI cJ h0 h1 h2 a0 a1 a2 a3 h3 a4 h4 a5 u.1 ++ oW cJ ho u.2) ++ rV cI hm b0 b1 b2 b3 ((nI (kdc bd sd rt ps (xs (i + 1))), nI n, nI (szN bd sd rt ps)), v.1, mv, kp, v.2)) := hD.rot
  refine lv_istore (lv' := [(6, .int r), (5, .int (nI (kdc bd sd rt ps (xs (i + 1))))), (0, .ref b), (1, .ref h0), (2, .ref hm), (3, .ref ho), (4, .int (nI i))]) hx hb dL_law_526 hl (by decide) rfl (fun ls hl => ?_)
  refine lv_aload_n hx hb dL_law_528 rfl (lv_at hl 4 rfl) ?_
  have hPr : va_P D classes (rV cI hm b0 b1 b2 b3 ((nI (kdc bd sd rt ps (xs (i + 1))), nI n, nI (szN bd sd rt ps)), v.1, mv, kp, v.2) ++ (cV cI cJ h0 h1 h2 a0 a1 a2 a3 h3 a4 h4 a5 u.1 ++ oW cJ ho u.2)) H := hP.rot
  have hDr : va_D A (rV cI hm b0 b1 b2 b3 ((nI (kdc bd sd rt ps (xs (i + 1))), nI n, nI (szN bd sd rt ps)), v.1, mv, kp, v.2) ++ (cV cI cJ h0 h1 h2 a0 a1 a2 a3 h3 a4 h4 a5 u.1 ++ oW cJ ho u.2)) := hD.rot
  refine roI (rnV (As := []) (rest := []) S0 (c_X5_thrown l (A := va_A (rV cI hm b0 b1 b2 b3 ((nI (kdc bd sd rt ps (xs (i + 1))), nI n, nI (szN bd sd rt ps)), v.1, mv, kp, v.2)) H.size) ) wm_L_76 wi_X5_thrown ws_X5_thrown wn_X5 wc_X5_thrown hd_X5_thrown ⟨rfl, rfl, by decide, by decide⟩ IW.blind (va_recv hK hPr (ci := 4) (q0 := 0) rfl rfl) (IW.cut hPr hDr hK hA hE hS) hl.1 (Nat.le_of_ble_eq_true rfl) dL_law_529 rfl ⟨by show cells + 1 + 0 ≤ 600128; omega, by show slots + 6 + 0 ≤ 7301098; omega⟩) (fun r_529 hr_529 => ?_)
  subst hr_529
  refine lv_iload hx hb dL_law_532 (lv_at hl 1 rfl) ?_
  refine lv_icmp_eq (tgt := 539) hx hb dL_law_534 (by decide) (fun _ => ?_) (fun z9 => absurd rfl z9)
  refine lv_iload hx hb dL_law_539 (lv_at hl 1 rfl) ?_
  have hji := (show JI u.1 ((nI (kdc bd sd rt ps (xs (i + 1))), nI n, nI (szN bd sd rt ps)), v.1, mv, kp, v.2) from ⟨bd, sd, rt, ps, n, hn, hI1, hB2, rfl, hH.kp hK1⟩)
  refine ln_if_ne (tgt := 556) hx hb dL_law_541 (by decide) (cd_kd bd sd rt ps (xs (i + 1))) (fun _ => ?_) (fun k0 => ?_)
  · skip
    refine lv_goto (tgt := 827) hx hb dL_law_556 (by decide) ?_
    exact kk u.1 ((nI (kdc bd sd rt ps (xs (i + 1))), nI n, nI (szN bd sd rt ps)), v.1, mv, kp, v.2) u.2 _ _ _ hji hP hD hS (lv_sub hl [2, 3, 4, 5, 6] rfl)
  · skip
    obtain ⟨f, t, k, hf, ht, hk, e1, hlL, rfl⟩ := hv1 k0
    refine lv_aload_n hx hb dL_law_544 rfl (lv_at hl 5 rfl) ?_
    refine lv_iconst (v := nI 0) hx hb dL_law_545 (by decide) ?_
    refine va_lald hx hb hK hP 11 1 rfl rfl (vp_in_nI (by decide) (by decide)) dL_law_546 ?_
    refine W.top (y := .long (u.2 0)) (congrArg (fun z => Value.long (u.2 z)) (nI_clamp (by decide))) ?_
    refine lv_iload hx hb dL_law_547 (lv_at hl 0 rfl) ?_
    refine lv_i2l hx hb dL_law_549 rfl ?_
    refine W.lcmp hx hb dL_law_550 ?_
    refine lc_if_eq (tgt := 556) hx hb dL_law_551 (by decide) (fun _ => ?_) (fun z9 => absurd (ho1 k0 f t k hf ht hk e1) z9)
    refine lv_goto (tgt := 827) hx hb dL_law_556 (by decide) ?_
    exact kk u.1 ((nI (kdc bd sd rt ps (xs (i + 1))), nI n, nI (szN bd sd rt ps)), v.1, mv, kp, v.2) u.2 _ _ _ hji hP hD hS (lv_sub hl [2, 3, 4, 5, 6] rfl)
set_option maxHeartbeats 4000000 in
set_option maxRecDepth 100000 in
theorem law_10 {p : Program} {l : Launch} {e : Env} {s : State} {m : MethodId} {below : List Frame} {meth : Method} {c : Code} {b L : Nat} {xs : Nat → Int32} {A : Nat → Prop} {D : va_G} {cI cJ : ClassId} {h0 h1 h2 a0 a1 a2 a3 h3 a4 h4 a5 ho hm b0 b1 b2 b3 : Nat} {H : Heap} {locs : List Loc} {cells slots : Nat} {Q : State → Prop} {ls : Array Slot} {i : Nat} (hF : LF p l s m meth c b L xs A D cI cJ) (hL : L ≤ 256) (hi : i + 4 ≤ L) (x : CS) (y : RS) (o : Nat → Int64) (hJ : JI x y) (hP : va_P D classes ((cV cI cJ h0 h1 h2 a0 a1 a2 a3 h3 a4 h4 a5 x ++ oW cJ ho o) ++ rV cI hm b0 b1 b2 b3 y) H) (hD : va_D A ((cV cI cJ h0 h1 h2 a0 a1 a2 a3 h3 a4 h4 a5 x ++ oW cJ ho o) ++ rV cI hm b0 b1 b2 b3 y)) (hS : va_S A s.heap H locs) (hc : cells + 1 ≤ 600128) (hs : slots + 6 ≤ 7301098) (hl : lv_has ls 8 [(0, .ref b), (1, .ref h0), (2, .ref hm), (3, .ref ho), (4, .int (nI i))]) (kk : ∀ (x : CS) (y : RS) (o : Nat → Int64) (H : Heap) (locs : List Loc) (ls : Array Slot), JI x y → va_P D classes ((cV cI cJ h0 h1 h2 a0 a1 a2 a3 h3 a4 h4 a5 x ++ oW cJ ho o) ++ rV cI hm b0 b1 b2 b3 y) H → va_D A ((cV cI cJ h0 h1 h2 a0 a1 a2 a3 h3 a4 h4 a5 x ++ oW cJ ho o) ++ rV cI hm b0 b1 b2 b3 y) → va_S A s.heap H locs → lv_has ls 8 [(0, .ref b), (1, .ref h0), (2, .ref hm), (3, .ref ho), (4, .int (nI i))] → W p l e room_1 s m #[Value.ref b] below meth c H locs (cells + 1) (slots + 6) Q (F0 m 827 ls [])) : W p l e room_1 s m #[Value.ref b] below meth c H locs cells slots Q (F0 m 559 ls []) := by
  obtain ⟨S0, hlocks, hK, hA, hE, hX, hScr, hbl, hbA, hlt⟩ := hF
  have hx := S0.1
  have hb := S0.2.1
  have hown := S0.2.2.2.1
  have hG : ∀ w ∈ wsL_law, w.before #[Value.ref b] s = true := fun w h => S0.2.2.2.2 w (List.mem_cons_of_mem _ h)
  obtain ⟨bd, sd, rt, ps, n, hn, hI, hBd, hmk, hH⟩ := hJ
  obtain ⟨⟨th, mk, sz⟩, F9, mv, kp, li⟩ := y
  dsimp only at hBd hmk hH
  subst hmk
  have hs2 := hBd.2.2.1
  have hr16 := hBd.2.2.2.2.1
  have hp65 := hBd.2.2.2.2.2.2
  have hb9 := hBd.lt
  have hLen : plb bd sd = true → (legs bd sd rt ps).length ≤ 1024 := fun _ => Nat.le_trans (len_ok bd sd rt ps hb9 hs2 hp65) (by decide)
  have hP : va_P D classes ((cV cI cJ h0 h1 h2 a0 a1 a2 a3 h3 a4 h4 a5 x ++ oW cJ ho o) ++ rV cI hm b0 b1 b2 b3 ((th, nI n, sz), F9, mv, kp, li)) H := hP
  have hD : va_D A ((cV cI cJ h0 h1 h2 a0 a1 a2 a3 h3 a4 h4 a5 x ++ oW cJ ho o) ++ rV cI hm b0 b1 b2 b3 ((th, nI n, sz), F9, mv, kp, li)) := hD
  refine lv_aload_n hx hb dL_law_559 rfl (lv_at hl 1 rfl) ?_
  refine lv_aload_n hx hb dL_law_560 rfl (lv_at hl 0 rfl) ?_
  refine lv_iload hx hb dL_law_561 (lv_at hl 4 rfl) ?_
  refine lv_iconst (v := nI 1) hx hb dL_law_563 (by decide) ?_
  refine ln_iadd hx hb dL_law_564 ?_
  refine va_sld hx hb hScr hbl hbA hS (vp_in_nI (by omega) (by omega)) dL_law_565 ?_
  refine W.top (y := .int (xs (i + 1))) (congrArg (fun z => Value.int (xs z)) (nI_clamp (by omega))) ?_
  refine lv_aload_n hx hb dL_law_566 rfl (lv_at hl 3 rfl) ?_
  refine ftI (A := A) (wc := cV cI cJ h0 h1 h2 a0 a1 a2 a3 h3 a4 h4 a5 x ++ oW cJ ho o) (wr := rV cI hm b0 b1 b2 b3 ((th, nI n, sz), F9, mv, kp, li)) (rnSH (As := [.ref h0, .int (xs (i + 1)), .ref ho]) (rest := []) S0 (c_L_lines l hlt (A := va_A (cV cI cJ h0 h1 h2 a0 a1 a2 a3 h3 a4 h4 a5 x ++ oW cJ ho o) H.size) x o bd sd rt ps n hs2 hr16 hp65 hn hI (xs (i + 1))) wm_L_105 wt_L_lines wn_L wc_L_lines hd_L_lines ⟨rfl, rfl, by decide, by decide⟩ XW.blind (XW.cut hP hD hK hA hE hX hS) hl.1 (Nat.le_of_ble_eq_true rfl) dL_law_567 rfl ⟨by show cells + 1 ≤ 600128; omega, by show slots + 6 ≤ 7301098; omega⟩) hP hD hA hS (fun r u H locs hu hP hD hS => ?_)
  have hP : va_P D classes ((cV cI cJ h0 h1 h2 a0 a1 a2 a3 h3 a4 h4 a5 u.1 ++ oW cJ ho u.2) ++ rV cI hm b0 b1 b2 b3 ((th, nI n, sz), F9, mv, kp, li)) H := hP
  have hD : va_D A ((cV cI cJ h0 h1 h2 a0 a1 a2 a3 h3 a4 h4 a5 u.1 ++ oW cJ ho u.2) ++ rV cI hm b0 b1 b2 b3 ((th, nI n, sz), F9, mv, kp, li)) := hD
  obtain ⟨rfl, hI1, hK1, ho1⟩ := hu
  refine lv_istore (lv' := [(5, .int (nI (lnc bd sd (xs (i + 1))))), (0, .ref b), (1, .ref h0), (2, .ref hm), (3, .ref ho), (4, .int (nI i))]) hx hb dL_law_570 hl (by decide) rfl (fun ls hl => ?_)
  refine lv_aload_n hx hb dL_law_572 rfl (lv_at hl 3 rfl) ?_
  refine lv_aload_n hx hb dL_law_573 rfl (lv_at hl 1 rfl) ?_
  refine lv_iload hx hb dL_law_574 (lv_at hl 5 rfl) ?_
  refine lv_iconst (v := nI 1) hx hb dL_law_576 (by decide) ?_
  refine ln_iadd hx hb dL_law_577 ?_
  refine va_sld hx hb hScr hbl hbA hS (vp_in_nI (by omega) (by omega)) dL_law_578 ?_
  refine W.top (y := .int (xs (i + 1))) (congrArg (fun z => Value.int (xs z)) (nI_clamp (by omega))) ?_
  have hPr : va_P D classes (rV cI hm b0 b1 b2 b3 ((th, nI n, sz), F9, mv, kp, li) ++ (cV cI cJ h0 h1 h2 a0 a1 a2 a3 h3 a4 h4 a5 u.1 ++ oW cJ ho u.2)) H := hP.rot
  have hDr : va_D A (rV cI hm b0 b1 b2 b3 ((th, nI n, sz), F9, mv, kp, li) ++ (cV cI cJ h0 h1 h2 a0 a1 a2 a3 h3 a4 h4 a5 u.1 ++ oW cJ ho u.2)) := hD.rot
  refine ftL (A := A) (wc := rV cI hm b0 b1 b2 b3 ((th, nI n, sz), F9, mv, kp, li)) (wr := cV cI cJ h0 h1 h2 a0 a1 a2 a3 h3 a4 h4 a5 u.1 ++ oW cJ ho u.2) (rnV (As := [.int (xs (i + 1))]) (rest := []) S0 (c_X5_lines l (A := va_A (rV cI hm b0 b1 b2 b3 ((th, nI n, sz), F9, mv, kp, li)) H.size) bd sd rt ps hBd len_ok (xs (i + 1))) wm_L_107 wi_X5_lines ws_X5_lines wn_X5 wc_X5_lines hd_X5_lines ⟨rfl, rfl, by decide, by decide⟩ IW.blind (va_recv hK hPr (ci := 4) (q0 := 0) rfl rfl) (IW.cut hPr hDr hK hA hE hS) hl.1 (Nat.le_of_ble_eq_true rfl) dL_law_579 rfl ⟨by show cells + 1 + 0 ≤ 600128; omega, by show slots + 6 + 0 ≤ 7301098; omega⟩) hPr hDr hA hS (fun r v H locs hv hP hD hS => ?_)
  obtain ⟨hv1, hB2⟩ := hv
  have hP : va_P D classes ((cV cI cJ h0 h1 h2 a0 a1 a2 a3 h3 a4 h4 a5 u.1 ++ oW cJ ho u.2) ++ rV cI hm b0 b1 b2 b3 ((nI (lnc bd sd (xs (i + 1))), nI n, nI (szN bd sd rt ps)), v.1, mv, kp, v.2)) H := hP.rot
  have hD : va_D A ((cV cI cJ h0 h1 h2 a0 a1 a2 a3 h3 a4 h4 a5 u.1 ++ oW cJ ho u.2) ++ rV cI hm b0 b1 b2 b3 ((nI (lnc bd sd (xs (i + 1))), nI n, nI (szN bd sd rt ps)), v.1, mv, kp, v.2)) := hD.rot
  refine lv_lstore (lv' := [(6, .long r), (5, .int (nI (lnc bd sd (xs (i + 1))))), (0, .ref b), (1, .ref h0), (2, .ref hm), (3, .ref ho), (4, .int (nI i))]) hx hb dL_law_582 hl (by decide) rfl (fun ls hl => ?_)
  refine lv_aload_n hx hb dL_law_584 rfl (lv_at hl 4 rfl) ?_
  have hPr : va_P D classes (rV cI hm b0 b1 b2 b3 ((nI (lnc bd sd (xs (i + 1))), nI n, nI (szN bd sd rt ps)), v.1, mv, kp, v.2) ++ (cV cI cJ h0 h1 h2 a0 a1 a2 a3 h3 a4 h4 a5 u.1 ++ oW cJ ho u.2)) H := hP.rot
  have hDr : va_D A (rV cI hm b0 b1 b2 b3 ((nI (lnc bd sd (xs (i + 1))), nI n, nI (szN bd sd rt ps)), v.1, mv, kp, v.2) ++ (cV cI cJ h0 h1 h2 a0 a1 a2 a3 h3 a4 h4 a5 u.1 ++ oW cJ ho u.2)) := hD.rot
  refine roI (rnV (As := []) (rest := []) S0 (c_X5_thrown l (A := va_A (rV cI hm b0 b1 b2 b3 ((nI (lnc bd sd (xs (i + 1))), nI n, nI (szN bd sd rt ps)), v.1, mv, kp, v.2)) H.size) ) wm_L_76 wi_X5_thrown ws_X5_thrown wn_X5 wc_X5_thrown hd_X5_thrown ⟨rfl, rfl, by decide, by decide⟩ IW.blind (va_recv hK hPr (ci := 4) (q0 := 0) rfl rfl) (IW.cut hPr hDr hK hA hE hS) hl.1 (Nat.le_of_ble_eq_true rfl) dL_law_585 rfl ⟨by show cells + 1 + 0 ≤ 600128; omega, by show slots + 6 + 0 ≤ 7301098; omega⟩) (fun r_585 hr_585 => ?_)
  subst hr_585
  refine lv_iload hx hb dL_law_588 (lv_at hl 1 rfl) ?_
  refine lv_icmp_eq (tgt := 595) hx hb dL_law_590 (by decide) (fun _ => ?_) (fun z9 => absurd rfl z9)
  refine lv_iload hx hb dL_law_595 (lv_at hl 1 rfl) ?_
  have hji := (show JI u.1 ((nI (lnc bd sd (xs (i + 1))), nI n, nI (szN bd sd rt ps)), v.1, mv, kp, v.2) from ⟨bd, sd, rt, ps, n, hn, hI1, hB2, rfl, hH.kp hK1⟩)
  refine ln_if_ne (tgt := 611) hx hb dL_law_597 (by decide) (cd_ln bd sd (xs (i + 1))) (fun _ => ?_) (fun k0 => ?_)
  · skip
    refine lv_goto (tgt := 827) hx hb dL_law_611 (by decide) ?_
    exact kk u.1 ((nI (lnc bd sd (xs (i + 1))), nI n, nI (szN bd sd rt ps)), v.1, mv, kp, v.2) u.2 _ _ _ hji hP hD hS (lv_sub hl [2, 3, 4, 5, 6] rfl)
  · skip
    obtain ⟨d, hd, e1, rfl⟩ := hv1 k0
    refine lv_aload_n hx hb dL_law_600 rfl (lv_at hl 5 rfl) ?_
    refine lv_iconst (v := nI 0) hx hb dL_law_601 (by decide) ?_
    refine va_lald hx hb hK hP 11 1 rfl rfl (vp_in_nI (by decide) (by decide)) dL_law_602 ?_
    refine W.top (y := .long (u.2 0)) (congrArg (fun z => Value.long (u.2 z)) (nI_clamp (by decide))) ?_
    refine lv_lload hx hb dL_law_603 (lv_at hl 0 rfl) ?_
    refine W.lcmp hx hb dL_law_605 ?_
    refine lc_if_eq (tgt := 611) hx hb dL_law_606 (by decide) (fun _ => ?_) (fun z9 => absurd (ho1 k0 d hd e1) z9)
    refine lv_goto (tgt := 827) hx hb dL_law_611 (by decide) ?_
    exact kk u.1 ((nI (lnc bd sd (xs (i + 1))), nI n, nI (szN bd sd rt ps)), v.1, mv, kp, v.2) u.2 _ _ _ hji hP hD hS (lv_sub hl [2, 3, 4, 5, 6] rfl)
set_option maxHeartbeats 4000000 in
set_option maxRecDepth 100000 in
theorem law_14 {p : Program} {l : Launch} {e : Env} {s : State} {m : MethodId} {below : List Frame} {meth : Method} {c : Code} {b L : Nat} {xs : Nat → Int32} {A : Nat → Prop} {D : va_G} {cI cJ : ClassId} {h0 h1 h2 a0 a1 a2 a3 h3 a4 h4 a5 ho hm b0 b1 b2 b3 : Nat} {H : Heap} {locs : List Loc} {cells slots : Nat} {Q : State → Prop} {ls : Array Slot} {i : Nat} (hF : LF p l s m meth c b L xs A D cI cJ) (hL : L ≤ 256) (hi : i + 4 ≤ L) (x : CS) (y : RS) (o : Nat → Int64) (hJ : JI x y) (hP : va_P D classes ((cV cI cJ h0 h1 h2 a0 a1 a2 a3 h3 a4 h4 a5 x ++ oW cJ ho o) ++ rV cI hm b0 b1 b2 b3 y) H) (hD : va_D A ((cV cI cJ h0 h1 h2 a0 a1 a2 a3 h3 a4 h4 a5 x ++ oW cJ ho o) ++ rV cI hm b0 b1 b2 b3 y)) (hS : va_S A s.heap H locs) (hc : cells + 1 ≤ 600128) (hs : slots + 6 ≤ 7301098) (hl : lv_has ls 8 [(0, .ref b), (1, .ref h0), (2, .ref hm), (3, .ref ho), (4, .int (nI i))]) (kk : ∀ (x : CS) (y : RS) (o : Nat → Int64) (H : Heap) (locs : List Loc) (ls : Array Slot), JI x y → va_P D classes ((cV cI cJ h0 h1 h2 a0 a1 a2 a3 h3 a4 h4 a5 x ++ oW cJ ho o) ++ rV cI hm b0 b1 b2 b3 y) H → va_D A ((cV cI cJ h0 h1 h2 a0 a1 a2 a3 h3 a4 h4 a5 x ++ oW cJ ho o) ++ rV cI hm b0 b1 b2 b3 y) → va_S A s.heap H locs → lv_has ls 8 [(0, .ref b), (1, .ref h0), (2, .ref hm), (3, .ref ho), (4, .int (nI i))] → W p l e room_1 s m #[Value.ref b] below meth c H locs (cells + 1) (slots + 6) Q (F0 m 827 ls [])) : W p l e room_1 s m #[Value.ref b] below meth c H locs cells slots Q (F0 m 708 ls []) := by
  obtain ⟨S0, hlocks, hK, hA, hE, hX, hScr, hbl, hbA, hlt⟩ := hF
  have hx := S0.1
  have hb := S0.2.1
  have hown := S0.2.2.2.1
  have hG : ∀ w ∈ wsL_law, w.before #[Value.ref b] s = true := fun w h => S0.2.2.2.2 w (List.mem_cons_of_mem _ h)
  obtain ⟨bd, sd, rt, ps, n, hn, hI, hBd, hmk, hH⟩ := hJ
  obtain ⟨⟨th, mk, sz⟩, F9, mv, kp, li⟩ := y
  dsimp only at hBd hmk hH
  subst hmk
  have hs2 := hBd.2.2.1
  have hr16 := hBd.2.2.2.2.1
  have hp65 := hBd.2.2.2.2.2.2
  have hb9 := hBd.lt
  have hLen : plb bd sd = true → (legs bd sd rt ps).length ≤ 1024 := fun _ => Nat.le_trans (len_ok bd sd rt ps hb9 hs2 hp65) (by decide)
  have hP : va_P D classes ((cV cI cJ h0 h1 h2 a0 a1 a2 a3 h3 a4 h4 a5 x ++ oW cJ ho o) ++ rV cI hm b0 b1 b2 b3 ((th, nI n, sz), F9, mv, kp, li)) H := hP
  have hD : va_D A ((cV cI cJ h0 h1 h2 a0 a1 a2 a3 h3 a4 h4 a5 x ++ oW cJ ho o) ++ rV cI hm b0 b1 b2 b3 ((th, nI n, sz), F9, mv, kp, li)) := hD
  refine lv_aload_n hx hb dL_law_708 rfl (lv_at hl 1 rfl) ?_
  refine lv_aload_n hx hb dL_law_709 rfl (lv_at hl 3 rfl) ?_
  refine ftI (A := A) (wc := cV cI cJ h0 h1 h2 a0 a1 a2 a3 h3 a4 h4 a5 x ++ oW cJ ho o) (wr := rV cI hm b0 b1 b2 b3 ((th, nI n, sz), F9, mv, kp, li)) (rnSH (As := [.ref h0, .ref ho]) (rest := []) S0 (c_L_check l hlt (A := va_A (cV cI cJ h0 h1 h2 a0 a1 a2 a3 h3 a4 h4 a5 x ++ oW cJ ho o) H.size) x o bd sd rt ps n hs2 hr16 hp65 hn hI) wm_L_119 wt_L_check wn_L wc_L_check hd_L_check ⟨rfl, rfl, by decide, by decide⟩ XW.blind (XW.cut hP hD hK hA hE hX hS) hl.1 (Nat.le_of_ble_eq_true rfl) dL_law_710 rfl ⟨by show cells + 1 ≤ 600128; omega, by show slots + 6 ≤ 7301098; omega⟩) hP hD hA hS (fun r u H locs hu hP hD hS => ?_)
  have hP : va_P D classes ((cV cI cJ h0 h1 h2 a0 a1 a2 a3 h3 a4 h4 a5 u.1 ++ oW cJ ho u.2) ++ rV cI hm b0 b1 b2 b3 ((th, nI n, sz), F9, mv, kp, li)) H := hP
  have hD : va_D A ((cV cI cJ h0 h1 h2 a0 a1 a2 a3 h3 a4 h4 a5 u.1 ++ oW cJ ho u.2) ++ rV cI hm b0 b1 b2 b3 ((th, nI n, sz), F9, mv, kp, li)) := hD
  obtain ⟨rfl, hI1, hK1, ho1⟩ := hu
  refine lv_istore (lv' := [(5, .int (nI (ndN bd sd))), (0, .ref b), (1, .ref h0), (2, .ref hm), (3, .ref ho), (4, .int (nI i))]) hx hb dL_law_713 hl (by decide) rfl (fun ls hl => ?_)
  refine lv_aload_n hx hb dL_law_715 rfl (lv_at hl 3 rfl) ?_
  have hPr : va_P D classes (rV cI hm b0 b1 b2 b3 ((th, nI n, sz), F9, mv, kp, li) ++ (cV cI cJ h0 h1 h2 a0 a1 a2 a3 h3 a4 h4 a5 u.1 ++ oW cJ ho u.2)) H := hP.rot
  have hDr : va_D A (rV cI hm b0 b1 b2 b3 ((th, nI n, sz), F9, mv, kp, li) ++ (cV cI cJ h0 h1 h2 a0 a1 a2 a3 h3 a4 h4 a5 u.1 ++ oW cJ ho u.2)) := hD.rot
  refine ftI (A := A) (wc := rV cI hm b0 b1 b2 b3 ((th, nI n, sz), F9, mv, kp, li)) (wr := cV cI cJ h0 h1 h2 a0 a1 a2 a3 h3 a4 h4 a5 u.1 ++ oW cJ ho u.2) (rnV (As := []) (rest := []) S0 (c_X5_check l (A := va_A (rV cI hm b0 b1 b2 b3 ((th, nI n, sz), F9, mv, kp, li)) H.size) bd sd rt ps hBd) wm_L_121 wi_X5_check ws_X5_check wn_X5 wc_X5_check hd_X5_check ⟨rfl, rfl, by decide, by decide⟩ IW.blind (va_recv hK hPr (ci := 4) (q0 := 0) rfl rfl) (IW.cut hPr hDr hK hA hE hS) hl.1 (Nat.le_of_ble_eq_true rfl) dL_law_716 rfl ⟨by show cells + 1 + 0 ≤ 600128; omega, by show slots + 6 + 0 ≤ 7301098; omega⟩) hPr hDr hA hS (fun r v H locs hv hP hD hS => ?_)
  obtain rfl := hv
  have hP : va_P D classes ((cV cI cJ h0 h1 h2 a0 a1 a2 a3 h3 a4 h4 a5 u.1 ++ oW cJ ho u.2) ++ rV cI hm b0 b1 b2 b3 ((nI (ndN bd sd), nI n, sz), F9, mv, kp, li)) H := hP.rot
  have hD : va_D A ((cV cI cJ h0 h1 h2 a0 a1 a2 a3 h3 a4 h4 a5 u.1 ++ oW cJ ho u.2) ++ rV cI hm b0 b1 b2 b3 ((nI (ndN bd sd), nI n, sz), F9, mv, kp, li)) := hD.rot
  refine lv_istore (lv' := [(6, .int (bI (plb bd sd && isA bd (kgs bd sd) (1 - sd)))), (5, .int (nI (ndN bd sd))), (0, .ref b), (1, .ref h0), (2, .ref hm), (3, .ref ho), (4, .int (nI i))]) hx hb dL_law_719 hl (by decide) rfl (fun ls hl => ?_)
  refine lv_aload_n hx hb dL_law_721 rfl (lv_at hl 4 rfl) ?_
  have hPr : va_P D classes (rV cI hm b0 b1 b2 b3 ((nI (ndN bd sd), nI n, sz), F9, mv, kp, li) ++ (cV cI cJ h0 h1 h2 a0 a1 a2 a3 h3 a4 h4 a5 u.1 ++ oW cJ ho u.2)) H := hP.rot
  have hDr : va_D A (rV cI hm b0 b1 b2 b3 ((nI (ndN bd sd), nI n, sz), F9, mv, kp, li) ++ (cV cI cJ h0 h1 h2 a0 a1 a2 a3 h3 a4 h4 a5 u.1 ++ oW cJ ho u.2)) := hD.rot
  refine roI (rnV (As := []) (rest := []) S0 (c_X5_thrown l (A := va_A (rV cI hm b0 b1 b2 b3 ((nI (ndN bd sd), nI n, sz), F9, mv, kp, li)) H.size) ) wm_L_76 wi_X5_thrown ws_X5_thrown wn_X5 wc_X5_thrown hd_X5_thrown ⟨rfl, rfl, by decide, by decide⟩ IW.blind (va_recv hK hPr (ci := 4) (q0 := 0) rfl rfl) (IW.cut hPr hDr hK hA hE hS) hl.1 (Nat.le_of_ble_eq_true rfl) dL_law_722 rfl ⟨by show cells + 1 + 0 ≤ 600128; omega, by show slots + 6 + 0 ≤ 7301098; omega⟩) (fun r_722 hr_722 => ?_)
  subst hr_722
  refine lv_iload hx hb dL_law_725 (lv_at hl 1 rfl) ?_
  refine lv_icmp_eq (tgt := 732) hx hb dL_law_727 (by decide) (fun _ => ?_) (fun z9 => absurd rfl z9)
  refine lv_iload hx hb dL_law_732 (lv_at hl 1 rfl) ?_
  have hji := (show JI u.1 ((nI (ndN bd sd), nI n, sz), F9, mv, kp, li) from ⟨bd, sd, rt, ps, n, hn, hI1, hBd, rfl, hH.kp hK1⟩)
  refine ln_if_ne (tgt := 756) hx hb dL_law_734 (by decide) (cd_nd bd sd) (fun _ => ?_) (fun k0 => ?_)
  · skip
    refine lv_goto (tgt := 827) hx hb dL_law_756 (by decide) ?_
    exact kk u.1 ((nI (ndN bd sd), nI n, sz), F9, mv, kp, li) u.2 _ _ _ hji hP hD hS (lv_sub hl [2, 3, 4, 5, 6] rfl)
  · skip
    refine lv_aload_n hx hb dL_law_737 rfl (lv_at hl 5 rfl) ?_
    refine lv_iconst (v := nI 0) hx hb dL_law_738 (by decide) ?_
    refine va_lald hx hb hK hP 11 1 rfl rfl (vp_in_nI (by decide) (by decide)) dL_law_739 ?_
    refine W.top (y := .long (u.2 0)) (congrArg (fun z => Value.long (u.2 z)) (nI_clamp (by decide))) ?_
    refine lv_iload hx hb dL_law_740 (lv_at hl 0 rfl) ?_
    have hp1 : plb bd sd = true := ndN_0.mp k0
    have ho2 := ho1 k0
    refine lb_if_eq (tgt := 749) hx hb dL_law_742 (by decide) (fun c9 => ?_) (fun c9 => ?_)
    · skip
      rw [hp1, Bool.true_and] at c9
      refine lv_lconst (v := 0) hx hb dL_law_749 (by decide) ?_
      refine W.lcmp hx hb dL_law_750 ?_
      refine lc_if_eq (tgt := 756) hx hb dL_law_751 (by decide) (fun _ => ?_) (fun z9 => absurd (ho2.trans (if_neg (by rw [c9]; decide))) z9)
      refine lv_goto (tgt := 827) hx hb dL_law_756 (by decide) ?_
      exact kk u.1 ((nI (ndN bd sd), nI n, sz), F9, mv, kp, li) u.2 _ _ _ hji hP hD hS (lv_sub hl [2, 3, 4, 5, 6] rfl)
    · skip
      rw [hp1, Bool.true_and] at c9
      refine lv_lconst (v := 1) hx hb dL_law_745 (by decide) ?_
      refine lv_goto (tgt := 750) hx hb dL_law_746 (by decide) ?_
      refine W.lcmp hx hb dL_law_750 ?_
      refine lc_if_eq (tgt := 756) hx hb dL_law_751 (by decide) (fun _ => ?_) (fun z9 => absurd (ho2.trans (if_pos c9)) z9)
      refine lv_goto (tgt := 827) hx hb dL_law_756 (by decide) ?_
      exact kk u.1 ((nI (ndN bd sd), nI n, sz), F9, mv, kp, li) u.2 _ _ _ hji hP hD hS (lv_sub hl [2, 3, 4, 5, 6] rfl)
set_option maxHeartbeats 4000000 in
set_option maxRecDepth 100000 in
theorem law_15 {p : Program} {l : Launch} {e : Env} {s : State} {m : MethodId} {below : List Frame} {meth : Method} {c : Code} {b L : Nat} {xs : Nat → Int32} {A : Nat → Prop} {D : va_G} {cI cJ : ClassId} {h0 h1 h2 a0 a1 a2 a3 h3 a4 h4 a5 ho hm b0 b1 b2 b3 : Nat} {H : Heap} {locs : List Loc} {cells slots : Nat} {Q : State → Prop} {ls : Array Slot} {i : Nat} (hF : LF p l s m meth c b L xs A D cI cJ) (hL : L ≤ 256) (hi : i + 4 ≤ L) (x : CS) (y : RS) (o : Nat → Int64) (hJ : JI x y) (hP : va_P D classes ((cV cI cJ h0 h1 h2 a0 a1 a2 a3 h3 a4 h4 a5 x ++ oW cJ ho o) ++ rV cI hm b0 b1 b2 b3 y) H) (hD : va_D A ((cV cI cJ h0 h1 h2 a0 a1 a2 a3 h3 a4 h4 a5 x ++ oW cJ ho o) ++ rV cI hm b0 b1 b2 b3 y)) (hS : va_S A s.heap H locs) (hc : cells + 1 ≤ 600128) (hs : slots + 6 ≤ 7301098) (hl : lv_has ls 8 [(0, .ref b), (1, .ref h0), (2, .ref hm), (3, .ref ho), (4, .int (nI i))]) (kk : ∀ (x : CS) (y : RS) (o : Nat → Int64) (H : Heap) (locs : List Loc) (ls : Array Slot), JI x y → va_P D classes ((cV cI cJ h0 h1 h2 a0 a1 a2 a3 h3 a4 h4 a5 x ++ oW cJ ho o) ++ rV cI hm b0 b1 b2 b3 y) H → va_D A ((cV cI cJ h0 h1 h2 a0 a1 a2 a3 h3 a4 h4 a5 x ++ oW cJ ho o) ++ rV cI hm b0 b1 b2 b3 y) → va_S A s.heap H locs → lv_has ls 8 [(0, .ref b), (1, .ref h0), (2, .ref hm), (3, .ref ho), (4, .int (nI i))] → W p l e room_1 s m #[Value.ref b] below meth c H locs (cells + 1) (slots + 6) Q (F0 m 827 ls [])) : W p l e room_1 s m #[Value.ref b] below meth c H locs cells slots Q (F0 m 759 ls []) := by
  obtain ⟨S0, hlocks, hK, hA, hE, hX, hScr, hbl, hbA, hlt⟩ := hF
  have hx := S0.1
  have hb := S0.2.1
  have hown := S0.2.2.2.1
  have hG : ∀ w ∈ wsL_law, w.before #[Value.ref b] s = true := fun w h => S0.2.2.2.2 w (List.mem_cons_of_mem _ h)
  obtain ⟨bd, sd, rt, ps, n, hn, hI, hBd, hmk, hH⟩ := hJ
  obtain ⟨⟨th, mk, sz⟩, F9, mv, kp, li⟩ := y
  dsimp only at hBd hmk hH
  subst hmk
  have hs2 := hBd.2.2.1
  have hr16 := hBd.2.2.2.2.1
  have hp65 := hBd.2.2.2.2.2.2
  have hb9 := hBd.lt
  have hLen : plb bd sd = true → (legs bd sd rt ps).length ≤ 1024 := fun _ => Nat.le_trans (len_ok bd sd rt ps hb9 hs2 hp65) (by decide)
  have hP : va_P D classes ((cV cI cJ h0 h1 h2 a0 a1 a2 a3 h3 a4 h4 a5 x ++ oW cJ ho o) ++ rV cI hm b0 b1 b2 b3 ((th, nI n, sz), F9, mv, kp, li)) H := hP
  have hD : va_D A ((cV cI cJ h0 h1 h2 a0 a1 a2 a3 h3 a4 h4 a5 x ++ oW cJ ho o) ++ rV cI hm b0 b1 b2 b3 ((th, nI n, sz), F9, mv, kp, li)) := hD
  refine lv_aload_n hx hb dL_law_759 rfl (lv_at hl 1 rfl) ?_
  refine lv_aload_n hx hb dL_law_760 rfl (lv_at hl 3 rfl) ?_
  refine ftI (A := A) (wc := cV cI cJ h0 h1 h2 a0 a1 a2 a3 h3 a4 h4 a5 x ++ oW cJ ho o) (wr := rV cI hm b0 b1 b2 b3 ((th, nI n, sz), F9, mv, kp, li)) (rnSH (As := [.ref h0, .ref ho]) (rest := []) S0 (c_L_pinned l hlt (A := va_A (cV cI cJ h0 h1 h2 a0 a1 a2 a3 h3 a4 h4 a5 x ++ oW cJ ho o) H.size) x o bd sd rt ps n hs2 hr16 hp65 hn hI) wm_L_122 wt_L_pinned wn_L wc_L_pinned hd_L_pinned ⟨rfl, rfl, by decide, by decide⟩ XW.blind (XW.cut hP hD hK hA hE hX hS) hl.1 (Nat.le_of_ble_eq_true rfl) dL_law_761 rfl ⟨by show cells + 1 ≤ 600128; omega, by show slots + 6 ≤ 7301098; omega⟩) hP hD hA hS (fun r u H locs hu hP hD hS => ?_)
  have hP : va_P D classes ((cV cI cJ h0 h1 h2 a0 a1 a2 a3 h3 a4 h4 a5 u.1 ++ oW cJ ho u.2) ++ rV cI hm b0 b1 b2 b3 ((th, nI n, sz), F9, mv, kp, li)) H := hP
  have hD : va_D A ((cV cI cJ h0 h1 h2 a0 a1 a2 a3 h3 a4 h4 a5 u.1 ++ oW cJ ho u.2) ++ rV cI hm b0 b1 b2 b3 ((th, nI n, sz), F9, mv, kp, li)) := hD
  obtain ⟨rfl, hI1, hK1, ho1⟩ := hu
  refine lv_istore (lv' := [(5, .int (nI (ndN bd sd))), (0, .ref b), (1, .ref h0), (2, .ref hm), (3, .ref ho), (4, .int (nI i))]) hx hb dL_law_764 hl (by decide) rfl (fun ls hl => ?_)
  refine lv_aload_n hx hb dL_law_766 rfl (lv_at hl 3 rfl) ?_
  have hPr : va_P D classes (rV cI hm b0 b1 b2 b3 ((th, nI n, sz), F9, mv, kp, li) ++ (cV cI cJ h0 h1 h2 a0 a1 a2 a3 h3 a4 h4 a5 u.1 ++ oW cJ ho u.2)) H := hP.rot
  have hDr : va_D A (rV cI hm b0 b1 b2 b3 ((th, nI n, sz), F9, mv, kp, li) ++ (cV cI cJ h0 h1 h2 a0 a1 a2 a3 h3 a4 h4 a5 u.1 ++ oW cJ ho u.2)) := hD.rot
  refine ftL (A := A) (wc := rV cI hm b0 b1 b2 b3 ((th, nI n, sz), F9, mv, kp, li)) (wr := cV cI cJ h0 h1 h2 a0 a1 a2 a3 h3 a4 h4 a5 u.1 ++ oW cJ ho u.2) (rnV (As := []) (rest := []) S0 (c_X5_pinned l (A := va_A (rV cI hm b0 b1 b2 b3 ((th, nI n, sz), F9, mv, kp, li)) H.size) bd sd rt ps hBd) wm_L_124 wi_X5_pinned ws_X5_pinned wn_X5 wc_X5_pinned hd_X5_pinned ⟨rfl, rfl, by decide, by decide⟩ IW.blind (va_recv hK hPr (ci := 4) (q0 := 0) rfl rfl) (IW.cut hPr hDr hK hA hE hS) hl.1 (Nat.le_of_ble_eq_true rfl) dL_law_767 rfl ⟨by show cells + 1 + 0 ≤ 600128; omega, by show slots + 6 + 0 ≤ 7301098; omega⟩) hPr hDr hA hS (fun r v H locs hv hP hD hS => ?_)
  have hP : va_P D classes ((cV cI cJ h0 h1 h2 a0 a1 a2 a3 h3 a4 h4 a5 u.1 ++ oW cJ ho u.2) ++ rV cI hm b0 b1 b2 b3 ((nI (ndN bd sd), nI n, sz), F9, mv, kp, li)) H := hP.rot
  have hD : va_D A ((cV cI cJ h0 h1 h2 a0 a1 a2 a3 h3 a4 h4 a5 u.1 ++ oW cJ ho u.2) ++ rV cI hm b0 b1 b2 b3 ((nI (ndN bd sd), nI n, sz), F9, mv, kp, li)) := hD.rot
  refine lv_lstore (lv' := [(6, .long r), (5, .int (nI (ndN bd sd))), (0, .ref b), (1, .ref h0), (2, .ref hm), (3, .ref ho), (4, .int (nI i))]) hx hb dL_law_770 hl (by decide) rfl (fun ls hl => ?_)
  refine lv_aload_n hx hb dL_law_772 rfl (lv_at hl 4 rfl) ?_
  have hPr : va_P D classes (rV cI hm b0 b1 b2 b3 ((nI (ndN bd sd), nI n, sz), F9, mv, kp, li) ++ (cV cI cJ h0 h1 h2 a0 a1 a2 a3 h3 a4 h4 a5 u.1 ++ oW cJ ho u.2)) H := hP.rot
  have hDr : va_D A (rV cI hm b0 b1 b2 b3 ((nI (ndN bd sd), nI n, sz), F9, mv, kp, li) ++ (cV cI cJ h0 h1 h2 a0 a1 a2 a3 h3 a4 h4 a5 u.1 ++ oW cJ ho u.2)) := hD.rot
  refine roI (rnV (As := []) (rest := []) S0 (c_X5_thrown l (A := va_A (rV cI hm b0 b1 b2 b3 ((nI (ndN bd sd), nI n, sz), F9, mv, kp, li)) H.size) ) wm_L_76 wi_X5_thrown ws_X5_thrown wn_X5 wc_X5_thrown hd_X5_thrown ⟨rfl, rfl, by decide, by decide⟩ IW.blind (va_recv hK hPr (ci := 4) (q0 := 0) rfl rfl) (IW.cut hPr hDr hK hA hE hS) hl.1 (Nat.le_of_ble_eq_true rfl) dL_law_773 rfl ⟨by show cells + 1 + 0 ≤ 600128; omega, by show slots + 6 + 0 ≤ 7301098; omega⟩) (fun r_773 hr_773 => ?_)
  subst hr_773
  refine lv_iload hx hb dL_law_776 (lv_at hl 1 rfl) ?_
  refine lv_icmp_eq (tgt := 783) hx hb dL_law_778 (by decide) (fun _ => ?_) (fun z9 => absurd rfl z9)
  refine lv_iload hx hb dL_law_783 (lv_at hl 1 rfl) ?_
  have hji := (show JI u.1 ((nI (ndN bd sd), nI n, sz), F9, mv, kp, li) from ⟨bd, sd, rt, ps, n, hn, hI1, hBd, rfl, hH.kp hK1⟩)
  refine ln_if_ne (tgt := 799) hx hb dL_law_785 (by decide) (cd_nd bd sd) (fun _ => ?_) (fun k0 => ?_)
  · skip
    refine lv_goto (tgt := 827) hx hb dL_law_799 (by decide) ?_
    exact kk u.1 ((nI (ndN bd sd), nI n, sz), F9, mv, kp, li) u.2 _ _ _ hji hP hD hS (lv_sub hl [2, 3, 4, 5, 6] rfl)
  · skip
    refine lv_aload_n hx hb dL_law_788 rfl (lv_at hl 5 rfl) ?_
    refine lv_iconst (v := nI 0) hx hb dL_law_789 (by decide) ?_
    refine va_lald hx hb hK hP 11 1 rfl rfl (vp_in_nI (by decide) (by decide)) dL_law_790 ?_
    refine W.top (y := .long (u.2 0)) (congrArg (fun z => Value.long (u.2 z)) (nI_clamp (by decide))) ?_
    refine lv_lload hx hb dL_law_791 (lv_at hl 0 rfl) ?_
    refine W.lcmp hx hb dL_law_793 ?_
    refine lc_if_eq (tgt := 799) hx hb dL_law_794 (by decide) (fun _ => ?_) (fun z9 => absurd ((ho1 k0).trans (hv k0).symm) z9)
    refine lv_goto (tgt := 827) hx hb dL_law_799 (by decide) ?_
    exact kk u.1 ((nI (ndN bd sd), nI n, sz), F9, mv, kp, li) u.2 _ _ _ hji hP hD hS (lv_sub hl [2, 3, 4, 5, 6] rfl)
set_option maxHeartbeats 4000000 in
set_option maxRecDepth 100000 in
theorem law_13 {p : Program} {l : Launch} {e : Env} {s : State} {m : MethodId} {below : List Frame} {meth : Method} {c : Code} {b L : Nat} {xs : Nat → Int32} {A : Nat → Prop} {D : va_G} {cI cJ : ClassId} {h0 h1 h2 a0 a1 a2 a3 h3 a4 h4 a5 ho hm b0 b1 b2 b3 : Nat} {H : Heap} {locs : List Loc} {cells slots : Nat} {Q : State → Prop} {ls : Array Slot} {i : Nat} (hF : LF p l s m meth c b L xs A D cI cJ) (hL : L ≤ 256) (hi : i + 4 ≤ L) (x : CS) (y : RS) (o : Nat → Int64) (hJ : JI x y) (hP : va_P D classes ((cV cI cJ h0 h1 h2 a0 a1 a2 a3 h3 a4 h4 a5 x ++ oW cJ ho o) ++ rV cI hm b0 b1 b2 b3 y) H) (hD : va_D A ((cV cI cJ h0 h1 h2 a0 a1 a2 a3 h3 a4 h4 a5 x ++ oW cJ ho o) ++ rV cI hm b0 b1 b2 b3 y)) (hS : va_S A s.heap H locs) (hc : cells + 1 ≤ 600128) (hs : slots + 6 ≤ 7301098) (hl : lv_has ls 8 [(0, .ref b), (1, .ref h0), (2, .ref hm), (3, .ref ho), (4, .int (nI i))]) (kk : ∀ (x : CS) (y : RS) (o : Nat → Int64) (H : Heap) (locs : List Loc) (ls : Array Slot), JI x y → va_P D classes ((cV cI cJ h0 h1 h2 a0 a1 a2 a3 h3 a4 h4 a5 x ++ oW cJ ho o) ++ rV cI hm b0 b1 b2 b3 y) H → va_D A ((cV cI cJ h0 h1 h2 a0 a1 a2 a3 h3 a4 h4 a5 x ++ oW cJ ho o) ++ rV cI hm b0 b1 b2 b3 y) → va_S A s.heap H locs → lv_has ls 8 [(0, .ref b), (1, .ref h0), (2, .ref hm), (3, .ref ho), (4, .int (nI i))] → W p l e room_1 s m #[Value.ref b] below meth c H locs (cells + 1) (slots + 6) Q (F0 m 827 ls [])) : W p l e room_1 s m #[Value.ref b] below meth c H locs cells slots Q (F0 m 683 ls []) := by
  obtain ⟨S0, hlocks, hK, hA, hE, hX, hScr, hbl, hbA, hlt⟩ := hF
  have hx := S0.1
  have hb := S0.2.1
  have hown := S0.2.2.2.1
  have hG : ∀ w ∈ wsL_law, w.before #[Value.ref b] s = true := fun w h => S0.2.2.2.2 w (List.mem_cons_of_mem _ h)
  obtain ⟨bd, sd, rt, ps, n, hn, hI, hBd, hmk, hH⟩ := hJ
  obtain ⟨⟨th, mk, sz⟩, F9, mv, kp, li⟩ := y
  dsimp only at hBd hmk hH
  subst hmk
  have hs2 := hBd.2.2.1
  have hr16 := hBd.2.2.2.2.1
  have hp65 := hBd.2.2.2.2.2.2
  have hb9 := hBd.lt
  have hLen : plb bd sd = true → (legs bd sd rt ps).length ≤ 1024 := fun _ => Nat.le_trans (len_ok bd sd rt ps hb9 hs2 hp65) (by decide)
  obtain ⟨⟨kn, op, ow, tr, fu, kg, co, pn⟩, ⟨si, ri, pa, ma⟩, ⟨pcs, sqa, mvs, los⟩, lsz, lfs, asz, afs⟩ := x
  obtain ⟨hCP, e1, e2, e3, e4, kb, ob, e5, e6, hKL⟩ := hI
  dsimp only at hCP e1 e2 e3 e4 e5 e6 hKL hH
  subst e1 e2 e3 e4 e5 e6
  have hP : va_P D classes ((cV cI cJ h0 h1 h2 a0 a1 a2 a3 h3 a4 h4 a5 ((bI kb, bI ob, ow, tr, fu, kg, co, pn), (nI sd, nI rt, pI ps, nI n), (pcs, sqa, mvs, los), lsz, lfs, asz, afs) ++ oW cJ ho o) ++ rV cI hm b0 b1 b2 b3 ((th, nI n, sz), F9, mv, kp, li)) H := hP
  have hD : va_D A ((cV cI cJ h0 h1 h2 a0 a1 a2 a3 h3 a4 h4 a5 ((bI kb, bI ob, ow, tr, fu, kg, co, pn), (nI sd, nI rt, pI ps, nI n), (pcs, sqa, mvs, los), lsz, lfs, asz, afs) ++ oW cJ ho o) ++ rV cI hm b0 b1 b2 b3 ((th, nI n, sz), F9, mv, kp, li)) := hD
  refine lv_aload_n hx hb dL_law_683 rfl (lv_at hl 1 rfl) ?_
  refine lv_aload_n hx hb dL_law_684 rfl (lv_at hl 0 rfl) ?_
  refine lv_iload hx hb dL_law_685 (lv_at hl 4 rfl) ?_
  refine lv_iconst (v := nI 1) hx hb dL_law_687 (by decide) ?_
  refine ln_iadd hx hb dL_law_688 ?_
  refine va_sld hx hb hScr hbl hbA hS (vp_in_nI (by omega) (by omega)) dL_law_689 ?_
  refine W.top (y := .int (xs (i + 1))) (congrArg (fun z => Value.int (xs z)) (nI_clamp (by omega))) ?_
  have hPr : va_P D classes (cV cI cJ h0 h1 h2 a0 a1 a2 a3 h3 a4 h4 a5 ((bI kb, bI ob, ow, tr, fu, kg, co, pn), (nI sd, nI rt, pI ps, nI n), (pcs, sqa, mvs, los), lsz, lfs, asz, afs) ++ (oW cJ ho o ++ rV cI hm b0 b1 b2 b3 ((th, nI n, sz), F9, mv, kp, li))) H := by rw [← List.append_assoc]; exact hP
  have hDr : va_D A (cV cI cJ h0 h1 h2 a0 a1 a2 a3 h3 a4 h4 a5 ((bI kb, bI ob, ow, tr, fu, kg, co, pn), (nI sd, nI rt, pI ps, nI n), (pcs, sqa, mvs, los), lsz, lfs, asz, afs) ++ (oW cJ ho o ++ rV cI hm b0 b1 b2 b3 ((th, nI n, sz), F9, mv, kp, li))) := by rw [← List.append_assoc]; exact hD
  refine roI (rnV (As := [.int (xs (i + 1))]) (rest := []) S0 (c_X4_at l (A := va_A (cV cI cJ h0 h1 h2 a0 a1 a2 a3 h3 a4 h4 a5 ((bI kb, bI ob, ow, tr, fu, kg, co, pn), (nI sd, nI rt, pI ps, nI n), (pcs, sqa, mvs, los), lsz, lfs, asz, afs)) H.size) bd hCP (xs (i + 1))) wm_L_115 wi_X4_at ws_X4_at wn_X4 wc_X4_at hd_X4_at ⟨rfl, rfl, by decide, by decide⟩ IW.blind (va_recv hK hPr (ci := 3) (q0 := 0) rfl rfl) (IW.cut hPr hDr hK hA hE hS) hl.1 (Nat.le_of_ble_eq_true rfl) dL_law_690 rfl ⟨by show cells + 0 ≤ 600128; omega, by show slots + 0 ≤ 7301098; omega⟩) (fun r_690 hr_690 => ?_)
  subst hr_690
  refine lv_aload_n hx hb dL_law_693 rfl (lv_at hl 2 rfl) ?_
  refine lv_aload_n hx hb dL_law_694 rfl (lv_at hl 0 rfl) ?_
  refine lv_iload hx hb dL_law_695 (lv_at hl 4 rfl) ?_
  refine lv_iconst (v := nI 1) hx hb dL_law_697 (by decide) ?_
  refine ln_iadd hx hb dL_law_698 ?_
  refine va_sld hx hb hScr hbl hbA hS (vp_in_nI (by omega) (by omega)) dL_law_699 ?_
  refine W.top (y := .int (xs (i + 1))) (congrArg (fun z => Value.int (xs z)) (nI_clamp (by omega))) ?_
  have hPr : va_P D classes (rV cI hm b0 b1 b2 b3 ((th, nI n, sz), F9, mv, kp, li) ++ (cV cI cJ h0 h1 h2 a0 a1 a2 a3 h3 a4 h4 a5 ((bI kb, bI ob, ow, tr, fu, kg, co, pn), (nI sd, nI rt, pI ps, nI n), (pcs, sqa, mvs, los), lsz, lfs, asz, afs) ++ oW cJ ho o)) H := hP.rot
  have hDr : va_D A (rV cI hm b0 b1 b2 b3 ((th, nI n, sz), F9, mv, kp, li) ++ (cV cI cJ h0 h1 h2 a0 a1 a2 a3 h3 a4 h4 a5 ((bI kb, bI ob, ow, tr, fu, kg, co, pn), (nI sd, nI rt, pI ps, nI n), (pcs, sqa, mvs, los), lsz, lfs, asz, afs) ++ oW cJ ho o)) := hD.rot
  refine ftI (A := A) (wc := rV cI hm b0 b1 b2 b3 ((th, nI n, sz), F9, mv, kp, li)) (wr := cV cI cJ h0 h1 h2 a0 a1 a2 a3 h3 a4 h4 a5 ((bI kb, bI ob, ow, tr, fu, kg, co, pn), (nI sd, nI rt, pI ps, nI n), (pcs, sqa, mvs, los), lsz, lfs, asz, afs) ++ oW cJ ho o) (rnV (As := [.int (xs (i + 1))]) (rest := [.int (if isq (xs (i + 1)) = true then nI (bd (xs (i + 1)).toNatClampNeg) else -1)]) S0 (c_X5_at l (A := va_A (rV cI hm b0 b1 b2 b3 ((th, nI n, sz), F9, mv, kp, li)) H.size) bd sd rt ps hBd (xs (i + 1))) wm_L_118 wi_X5_at ws_X5_at wn_X5 wc_X5_at hd_X5_at ⟨rfl, rfl, by decide, by decide⟩ IW.blind (va_recv hK hPr (ci := 4) (q0 := 0) rfl rfl) (IW.cut hPr hDr hK hA hE hS) hl.1 (Nat.le_of_ble_eq_true rfl) dL_law_700 rfl ⟨by show cells + 0 ≤ 600128; omega, by show slots + 0 ≤ 7301098; omega⟩) hPr hDr hA hS (fun r v H locs hv hP hD hS => ?_)
  obtain rfl := hv
  have hP : va_P D classes ((cV cI cJ h0 h1 h2 a0 a1 a2 a3 h3 a4 h4 a5 ((bI kb, bI ob, ow, tr, fu, kg, co, pn), (nI sd, nI rt, pI ps, nI n), (pcs, sqa, mvs, los), lsz, lfs, asz, afs) ++ oW cJ ho o) ++ rV cI hm b0 b1 b2 b3 ((nI 0, nI n, sz), F9, mv, kp, li)) H := hP.rot
  have hD : va_D A ((cV cI cJ h0 h1 h2 a0 a1 a2 a3 h3 a4 h4 a5 ((bI kb, bI ob, ow, tr, fu, kg, co, pn), (nI sd, nI rt, pI ps, nI n), (pcs, sqa, mvs, los), lsz, lfs, asz, afs) ++ oW cJ ho o) ++ rV cI hm b0 b1 b2 b3 ((nI 0, nI n, sz), F9, mv, kp, li)) := hD.rot
  refine lv_icmp_eq (tgt := 827) hx hb dL_law_703 (by decide) (fun _ => ?_) (fun z9 => absurd rfl z9)
  refine W.widen (k := cells + 1) (n := slots + 6) (by omega) (by omega) ?_
  exact kk ((bI kb, bI ob, ow, tr, fu, kg, co, pn), (nI sd, nI rt, pI ps, nI n), (pcs, sqa, mvs, los), lsz, lfs, asz, afs) ((nI 0, nI n, sz), F9, mv, kp, li) o _ _ _ ⟨bd, sd, rt, ps, n, hn, ⟨hCP, rfl, rfl, rfl, rfl, kb, ob, rfl, rfl, hKL⟩, hBd, rfl, hH⟩ hP hD hS (lv_sub hl [0, 1, 2, 3, 4] rfl)
set_option maxHeartbeats 4000000 in
set_option maxRecDepth 100000 in
theorem law_16 {p : Program} {l : Launch} {e : Env} {s : State} {m : MethodId} {below : List Frame} {meth : Method} {c : Code} {b L : Nat} {xs : Nat → Int32} {A : Nat → Prop} {D : va_G} {cI cJ : ClassId} {h0 h1 h2 a0 a1 a2 a3 h3 a4 h4 a5 ho hm b0 b1 b2 b3 : Nat} {H : Heap} {locs : List Loc} {cells slots : Nat} {Q : State → Prop} {ls : Array Slot} {i : Nat} (hF : LF p l s m meth c b L xs A D cI cJ) (hL : L ≤ 256) (hi : i + 4 ≤ L) (x : CS) (y : RS) (o : Nat → Int64) (hJ : JI x y) (hP : va_P D classes ((cV cI cJ h0 h1 h2 a0 a1 a2 a3 h3 a4 h4 a5 x ++ oW cJ ho o) ++ rV cI hm b0 b1 b2 b3 y) H) (hD : va_D A ((cV cI cJ h0 h1 h2 a0 a1 a2 a3 h3 a4 h4 a5 x ++ oW cJ ho o) ++ rV cI hm b0 b1 b2 b3 y)) (hS : va_S A s.heap H locs) (hc : cells + 1 ≤ 600128) (hs : slots + 6 ≤ 7301098) (hl : lv_has ls 8 [(0, .ref b), (1, .ref h0), (2, .ref hm), (3, .ref ho), (4, .int (nI i))]) (kk : ∀ (x : CS) (y : RS) (o : Nat → Int64) (H : Heap) (locs : List Loc) (ls : Array Slot), JI x y → va_P D classes ((cV cI cJ h0 h1 h2 a0 a1 a2 a3 h3 a4 h4 a5 x ++ oW cJ ho o) ++ rV cI hm b0 b1 b2 b3 y) H → va_D A ((cV cI cJ h0 h1 h2 a0 a1 a2 a3 h3 a4 h4 a5 x ++ oW cJ ho o) ++ rV cI hm b0 b1 b2 b3 y) → va_S A s.heap H locs → lv_has ls 8 [(0, .ref b), (1, .ref h0), (2, .ref hm), (3, .ref ho), (4, .int (nI i))] → W p l e room_1 s m #[Value.ref b] below meth c H locs (cells + 1) (slots + 6) Q (F0 m 827 ls [])) : W p l e room_1 s m #[Value.ref b] below meth c H locs cells slots Q (F0 m 802 ls []) := by
  obtain ⟨S0, hlocks, hK, hA, hE, hX, hScr, hbl, hbA, hlt⟩ := hF
  have hx := S0.1
  have hb := S0.2.1
  have hown := S0.2.2.2.1
  have hG : ∀ w ∈ wsL_law, w.before #[Value.ref b] s = true := fun w h => S0.2.2.2.2 w (List.mem_cons_of_mem _ h)
  obtain ⟨bd, sd, rt, ps, n, hn, hI, hBd, hmk, hH⟩ := hJ
  obtain ⟨⟨th, mk, sz⟩, F9, mv, kp, li⟩ := y
  dsimp only at hBd hmk hH
  subst hmk
  have hs2 := hBd.2.2.1
  have hr16 := hBd.2.2.2.2.1
  have hp65 := hBd.2.2.2.2.2.2
  have hb9 := hBd.lt
  have hLen : plb bd sd = true → (legs bd sd rt ps).length ≤ 1024 := fun _ => Nat.le_trans (len_ok bd sd rt ps hb9 hs2 hp65) (by decide)
  obtain ⟨⟨kn, op, ow, tr, fu, kg, co, pn⟩, ⟨si, ri, pa, ma⟩, ⟨pcs, sqa, mvs, los⟩, lsz, lfs, asz, afs⟩ := x
  obtain ⟨hCP, e1, e2, e3, e4, kb, ob, e5, e6, hKL⟩ := hI
  dsimp only at hCP e1 e2 e3 e4 e5 e6 hKL hH
  subst e1 e2 e3 e4 e5 e6
  have hP : va_P D classes ((cV cI cJ h0 h1 h2 a0 a1 a2 a3 h3 a4 h4 a5 ((bI kb, bI ob, ow, tr, fu, kg, co, pn), (nI sd, nI rt, pI ps, nI n), (pcs, sqa, mvs, los), lsz, lfs, asz, afs) ++ oW cJ ho o) ++ rV cI hm b0 b1 b2 b3 ((th, nI n, sz), F9, mv, kp, li)) H := hP
  have hD : va_D A ((cV cI cJ h0 h1 h2 a0 a1 a2 a3 h3 a4 h4 a5 ((bI kb, bI ob, ow, tr, fu, kg, co, pn), (nI sd, nI rt, pI ps, nI n), (pcs, sqa, mvs, los), lsz, lfs, asz, afs) ++ oW cJ ho o) ++ rV cI hm b0 b1 b2 b3 ((th, nI n, sz), F9, mv, kp, li)) := hD
  refine lv_aload_n hx hb dL_law_802 rfl (lv_at hl 1 rfl) ?_
  refine lv_aload_n hx hb dL_law_803 rfl (lv_at hl 0 rfl) ?_
  refine lv_iload hx hb dL_law_804 (lv_at hl 4 rfl) ?_
  refine lv_iconst (v := nI 1) hx hb dL_law_806 (by decide) ?_
  refine ln_iadd hx hb dL_law_807 ?_
  refine va_sld hx hb hScr hbl hbA hS (vp_in_nI (by omega) (by omega)) dL_law_808 ?_
  refine W.top (y := .int (xs (i + 1))) (congrArg (fun z => Value.int (xs z)) (nI_clamp (by omega))) ?_
  have hPr : va_P D classes (cV cI cJ h0 h1 h2 a0 a1 a2 a3 h3 a4 h4 a5 ((bI kb, bI ob, ow, tr, fu, kg, co, pn), (nI sd, nI rt, pI ps, nI n), (pcs, sqa, mvs, los), lsz, lfs, asz, afs) ++ (oW cJ ho o ++ rV cI hm b0 b1 b2 b3 ((th, nI n, sz), F9, mv, kp, li))) H := by rw [← List.append_assoc]; exact hP
  have hDr : va_D A (cV cI cJ h0 h1 h2 a0 a1 a2 a3 h3 a4 h4 a5 ((bI kb, bI ob, ow, tr, fu, kg, co, pn), (nI sd, nI rt, pI ps, nI n), (pcs, sqa, mvs, los), lsz, lfs, asz, afs) ++ (oW cJ ho o ++ rV cI hm b0 b1 b2 b3 ((th, nI n, sz), F9, mv, kp, li))) := by rw [← List.append_assoc]; exact hD
  refine roI (rnV (As := [.int (xs (i + 1))]) (rest := []) S0 (c_X4_look l (A := va_A (cV cI cJ h0 h1 h2 a0 a1 a2 a3 h3 a4 h4 a5 ((bI kb, bI ob, ow, tr, fu, kg, co, pn), (nI sd, nI rt, pI ps, nI n), (pcs, sqa, mvs, los), lsz, lfs, asz, afs)) H.size) sd rt (xs (i + 1))) wm_L_125 wi_X4_look ws_X4_look wn_X4 wc_X4_look hd_X4_look ⟨rfl, rfl, by decide, by decide⟩ IW.blind (va_recv hK hPr (ci := 3) (q0 := 0) rfl rfl) (IW.cut hPr hDr hK hA hE hS) hl.1 (Nat.le_of_ble_eq_true rfl) dL_law_809 rfl ⟨by show cells + 0 ≤ 600128; omega, by show slots + 0 ≤ 7301098; omega⟩) (fun r_809 hr_809 => ?_)
  subst hr_809
  refine lv_aload_n hx hb dL_law_812 rfl (lv_at hl 2 rfl) ?_
  refine lv_aload_n hx hb dL_law_813 rfl (lv_at hl 0 rfl) ?_
  refine lv_iload hx hb dL_law_814 (lv_at hl 4 rfl) ?_
  refine lv_iconst (v := nI 1) hx hb dL_law_816 (by decide) ?_
  refine ln_iadd hx hb dL_law_817 ?_
  refine va_sld hx hb hScr hbl hbA hS (vp_in_nI (by omega) (by omega)) dL_law_818 ?_
  refine W.top (y := .int (xs (i + 1))) (congrArg (fun z => Value.int (xs z)) (nI_clamp (by omega))) ?_
  have hPr : va_P D classes (rV cI hm b0 b1 b2 b3 ((th, nI n, sz), F9, mv, kp, li) ++ (cV cI cJ h0 h1 h2 a0 a1 a2 a3 h3 a4 h4 a5 ((bI kb, bI ob, ow, tr, fu, kg, co, pn), (nI sd, nI rt, pI ps, nI n), (pcs, sqa, mvs, los), lsz, lfs, asz, afs) ++ oW cJ ho o)) H := hP.rot
  have hDr : va_D A (rV cI hm b0 b1 b2 b3 ((th, nI n, sz), F9, mv, kp, li) ++ (cV cI cJ h0 h1 h2 a0 a1 a2 a3 h3 a4 h4 a5 ((bI kb, bI ob, ow, tr, fu, kg, co, pn), (nI sd, nI rt, pI ps, nI n), (pcs, sqa, mvs, los), lsz, lfs, asz, afs) ++ oW cJ ho o)) := hD.rot
  refine ftI (A := A) (wc := rV cI hm b0 b1 b2 b3 ((th, nI n, sz), F9, mv, kp, li)) (wr := cV cI cJ h0 h1 h2 a0 a1 a2 a3 h3 a4 h4 a5 ((bI kb, bI ob, ow, tr, fu, kg, co, pn), (nI sd, nI rt, pI ps, nI n), (pcs, sqa, mvs, los), lsz, lfs, asz, afs) ++ oW cJ ho o) (rnV (As := [.int (xs (i + 1))]) (rest := [.int (lkC sd rt (pI ps) (nI n) (xs (i + 1)))]) S0 (c_X5_look l (A := va_A (rV cI hm b0 b1 b2 b3 ((th, nI n, sz), F9, mv, kp, li)) H.size) bd sd rt ps hBd (xs (i + 1))) wm_L_128 wi_X5_look ws_X5_look wn_X5 wc_X5_look hd_X5_look ⟨rfl, rfl, by decide, by decide⟩ IW.blind (va_recv hK hPr (ci := 4) (q0 := 0) rfl rfl) (IW.cut hPr hDr hK hA hE hS) hl.1 (Nat.le_of_ble_eq_true rfl) dL_law_819 rfl ⟨by show cells + 0 ≤ 600128; omega, by show slots + 0 ≤ 7301098; omega⟩) hPr hDr hA hS (fun r v H locs hv hP hD hS => ?_)
  obtain rfl := hv
  have hP : va_P D classes ((cV cI cJ h0 h1 h2 a0 a1 a2 a3 h3 a4 h4 a5 ((bI kb, bI ob, ow, tr, fu, kg, co, pn), (nI sd, nI rt, pI ps, nI n), (pcs, sqa, mvs, los), lsz, lfs, asz, afs) ++ oW cJ ho o) ++ rV cI hm b0 b1 b2 b3 ((nI 0, nI n, sz), F9, mv, kp, li)) H := hP.rot
  have hD : va_D A ((cV cI cJ h0 h1 h2 a0 a1 a2 a3 h3 a4 h4 a5 ((bI kb, bI ob, ow, tr, fu, kg, co, pn), (nI sd, nI rt, pI ps, nI n), (pcs, sqa, mvs, los), lsz, lfs, asz, afs) ++ oW cJ ho o) ++ rV cI hm b0 b1 b2 b3 ((nI 0, nI n, sz), F9, mv, kp, li)) := hD.rot
  refine lv_icmp_eq (tgt := 827) hx hb dL_law_822 (by decide) (fun _ => ?_) (fun z9 => absurd lk_e z9)
  refine W.widen (k := cells + 1) (n := slots + 6) (by omega) (by omega) ?_
  exact kk ((bI kb, bI ob, ow, tr, fu, kg, co, pn), (nI sd, nI rt, pI ps, nI n), (pcs, sqa, mvs, los), lsz, lfs, asz, afs) ((nI 0, nI n, sz), F9, mv, kp, li) o _ _ _ ⟨bd, sd, rt, ps, n, hn, ⟨hCP, rfl, rfl, rfl, rfl, kb, ob, rfl, rfl, hKL⟩, hBd, rfl, hH⟩ hP hD hS (lv_sub hl [0, 1, 2, 3, 4] rfl)

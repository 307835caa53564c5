set_option maxHeartbeats 4000000 in
set_option maxRecDepth 100000 in
theorem law_0 {p : Program} {l : Launch} {e : Env} {s : State} {m : MethodId} {below : List Frame} {meth : Method} {c : Code} {b L : Nat} {xs : Nat → Int32} {A : Nat → Prop} {D : va_G} {cI cJ : ClassId} {h0 h1 h2 a0 a1 a2 a3 h3 a4 h4 a5 ho hm b0 b1 b2 b3 : Nat} {H : Heap} {locs : List Loc} {cells slots : Nat} {Q : State → Prop} {ls : Array Slot} {i : Nat} (hF : LF p l s m meth c b L xs A D cI cJ) (hL : L ≤ 256) (hi : i + 4 ≤ L) (x : CS) (y : RS) (o : Nat → Int64) (hJ : JI x y) (hP : va_P D classes ((cV cI cJ h0 h1 h2 a0 a1 a2 a3 h3 a4 h4 a5 x ++ oW cJ ho o) ++ rV cI hm b0 b1 b2 b3 y) H) (hD : va_D A ((cV cI cJ h0 h1 h2 a0 a1 a2 a3 h3 a4 h4 a5 x ++ oW cJ ho o) ++ rV cI hm b0 b1 b2 b3 y)) (hS : va_S A s.heap H locs) (hc : cells + 1 ≤ 600128) (hs : slots + 6 ≤ 7301098) (hl : lv_has ls 8 [(0, .ref b), (1, .ref h0), (2, .ref hm), (3, .ref ho), (4, .int (nI i))]) (kk : ∀ (x : CS) (y : RS) (o : Nat → Int64) (H : Heap) (locs : List Loc) (ls : Array Slot), JI x y → va_P D classes ((cV cI cJ h0 h1 h2 a0 a1 a2 a3 h3 a4 h4 a5 x ++ oW cJ ho o) ++ rV cI hm b0 b1 b2 b3 y) H → va_D A ((cV cI cJ h0 h1 h2 a0 a1 a2 a3 h3 a4 h4 a5 x ++ oW cJ ho o) ++ rV cI hm b0 b1 b2 b3 y) → va_S A s.heap H locs → lv_has ls 8 [(0, .ref b), (1, .ref h0), (2, .ref hm), (3, .ref ho), (4, .int (nI i))] → W p l e room_1 s m #[Value.ref b] below meth c H locs (cells + 1) (slots + 6) Q (F0 m 827 ls [])) : W p l e room_1 s m #[Value.ref b] below meth c H locs cells slots Q (F0 m 120 ls []) := by
  obtain ⟨S0, hlocks, hK, hA, hE, hX, hScr, hbl, hbA, hlt⟩ := hF
  have hx := S0.1
  have hb := S0.2.1
  have hown := S0.2.2.2.1
  have hG : ∀ w ∈ wsL_law, w.before #[Value.ref b] s = true := fun w h => S0.2.2.2.2 w (List.mem_cons_of_mem _ h)
  obtain ⟨bd, sd, rt, ps, n, hn, hI, hBd, hmk, hH⟩ := hJ
  obtain ⟨⟨th, mk, sz⟩, F9, mv, kp, li⟩ := y
  dsimp only at hBd hmk hH
  subst hmk
  have hs2 := hBd.2.2.1
  have hr16 := hBd.2.2.2.2.1
  have hp65 := hBd.2.2.2.2.2.2
  have hb9 := hBd.lt
  have hLen : plb bd sd = true → (legs bd sd rt ps).length ≤ 1024 := fun _ => Nat.le_trans (len_ok bd sd rt ps hb9 hs2 hp65) (by decide)
  obtain ⟨⟨kn, op, ow, tr, fu, kg, co, pn⟩, ⟨si, ri, pa, ma⟩, ⟨pcs, sqa, mvs, los⟩, lsz, lfs, asz, afs⟩ := x
  obtain ⟨hCP, e1, e2, e3, e4, kb, ob, e5, e6, hKL⟩ := hI
  dsimp only at hCP e1 e2 e3 e4 e5 e6 hKL hH
  subst e1 e2 e3 e4 e5 e6
  have hP : va_P D classes ((cV cI cJ h0 h1 h2 a0 a1 a2 a3 h3 a4 h4 a5 ((bI kb, bI ob, ow, tr, fu, kg, co, pn), (nI sd, nI rt, pI ps, nI n), (pcs, sqa, mvs, los), lsz, lfs, asz, afs) ++ oW cJ ho o) ++ rV cI hm b0 b1 b2 b3 ((th, nI n, sz), F9, mv, kp, li)) H := hP
  have hD : va_D A ((cV cI cJ h0 h1 h2 a0 a1 a2 a3 h3 a4 h4 a5 ((bI kb, bI ob, ow, tr, fu, kg, co, pn), (nI sd, nI rt, pI ps, nI n), (pcs, sqa, mvs, los), lsz, lfs, asz, afs) ++ oW cJ ho o) ++ rV cI hm b0 b1 b2 b3 ((th, nI n, sz), F9, mv, kp, li)) := hD
  refine lv_aload_n hx hb dL_law_120 rfl (lv_at hl 1 rfl) ?_
  have hPr : va_P D classes (cV cI cJ h0 h1 h2 a0 a1 a2 a3 h3 a4 h4 a5 ((bI kb, bI ob, ow, tr, fu, kg, co, pn), (nI sd, nI rt, pI ps, nI n), (pcs, sqa, mvs, los), lsz, lfs, asz, afs) ++ (oW cJ ho o ++ rV cI hm b0 b1 b2 b3 ((th, nI n, sz), F9, mv, kp, li))) H := by rw [← List.append_assoc]; exact hP
  have hDr : va_D A (cV cI cJ h0 h1 h2 a0 a1 a2 a3 h3 a4 h4 a5 ((bI kb, bI ob, ow, tr, fu, kg, co, pn), (nI sd, nI rt, pI ps, nI n), (pcs, sqa, mvs, los), lsz, lfs, asz, afs) ++ (oW cJ ho o ++ rV cI hm b0 b1 b2 b3 ((th, nI n, sz), F9, mv, kp, li))) := by rw [← List.append_assoc]; exact hD
  refine ftV (A := A) (wc := cV cI cJ h0 h1 h2 a0 a1 a2 a3 h3 a4 h4 a5 ((bI kb, bI ob, ow, tr, fu, kg, co, pn), (nI sd, nI rt, pI ps, nI n), (pcs, sqa, mvs, los), lsz, lfs, asz, afs)) (wr := oW cJ ho o ++ rV cI hm b0 b1 b2 b3 ((th, nI n, sz), F9, mv, kp, li)) (rnV (As := []) (rest := []) S0 (c_X4_clear l (A := va_A (cV cI cJ h0 h1 h2 a0 a1 a2 a3 h3 a4 h4 a5 ((bI kb, bI ob, ow, tr, fu, kg, co, pn), (nI sd, nI rt, pI ps, nI n), (pcs, sqa, mvs, los), lsz, lfs, asz, afs)) H.size) bd hCP) wm_L_62 wi_X4_clear ws_X4_clear wn_X4 wc_X4_clear hd_X4_clear ⟨rfl, rfl, by decide, by decide⟩ IW.blind (va_recv hK hPr (ci := 3) (q0 := 0) rfl rfl) (IW.cut hPr hDr hK hA hE hS) hl.1 (Nat.le_of_ble_eq_true rfl) dL_law_121 rfl ⟨by show cells + 0 ≤ 600128; omega, by show slots + 0 ≤ 7301098; omega⟩) hPr hDr hA hS (fun u H locs hu hP hD hS => ?_)
  rw [← List.append_assoc] at hP hD
  have hP : va_P D classes ((cV cI cJ h0 h1 h2 a0 a1 a2 a3 h3 a4 h4 a5 ((bI false, bI ob, ow, tr, fu, kg, co, pn), (nI 0, nI 0, -1, nI 0), (u.1, u.2, mvs, los), lsz, lfs, asz, afs) ++ oW cJ ho o) ++ rV cI hm b0 b1 b2 b3 ((th, nI n, sz), F9, mv, kp, li)) H := hP
  have hD : va_D A ((cV cI cJ h0 h1 h2 a0 a1 a2 a3 h3 a4 h4 a5 ((bI false, bI ob, ow, tr, fu, kg, co, pn), (nI 0, nI 0, -1, nI 0), (u.1, u.2, mvs, los), lsz, lfs, asz, afs) ++ oW cJ ho o) ++ rV cI hm b0 b1 b2 b3 ((th, nI n, sz), F9, mv, kp, li)) := hD
  refine lv_aload_n hx hb dL_law_124 rfl (lv_at hl 2 rfl) ?_
  have hPr : va_P D classes (rV cI hm b0 b1 b2 b3 ((th, nI n, sz), F9, mv, kp, li) ++ (cV cI cJ h0 h1 h2 a0 a1 a2 a3 h3 a4 h4 a5 ((bI false, bI ob, ow, tr, fu, kg, co, pn), (nI 0, nI 0, -1, nI 0), (u.1, u.2, mvs, los), lsz, lfs, asz, afs) ++ oW cJ ho o)) H := hP.rot
  have hDr : va_D A (rV cI hm b0 b1 b2 b3 ((th, nI n, sz), F9, mv, kp, li) ++ (cV cI cJ h0 h1 h2 a0 a1 a2 a3 h3 a4 h4 a5 ((bI false, bI ob, ow, tr, fu, kg, co, pn), (nI 0, nI 0, -1, nI 0), (u.1, u.2, mvs, los), lsz, lfs, asz, afs) ++ oW cJ ho o)) := hD.rot
  refine ftV (A := A) (wc := rV cI hm b0 b1 b2 b3 ((th, nI n, sz), F9, mv, kp, li)) (wr := cV cI cJ h0 h1 h2 a0 a1 a2 a3 h3 a4 h4 a5 ((bI false, bI ob, ow, tr, fu, kg, co, pn), (nI 0, nI 0, -1, nI 0), (u.1, u.2, mvs, los), lsz, lfs, asz, afs) ++ oW cJ ho o) (rnV (As := []) (rest := []) S0 (c_X5_clear l (A := va_A (rV cI hm b0 b1 b2 b3 ((th, nI n, sz), F9, mv, kp, li)) H.size) ) wm_L_65 wi_X5_clear ws_X5_clear wn_X5 wc_X5_clear hd_X5_clear ⟨rfl, rfl, by decide, by decide⟩ IW.blind (va_recv hK hPr (ci := 4) (q0 := 0) rfl rfl) (IW.cut hPr hDr hK hA hE hS) hl.1 (Nat.le_of_ble_eq_true rfl) dL_law_125 rfl ⟨by show cells + 0 ≤ 600128; omega, by show slots + 0 ≤ 7301098; omega⟩) hPr hDr hA hS (fun v H locs hv hP hD hS => ?_)
  have hP : va_P D classes ((cV cI cJ h0 h1 h2 a0 a1 a2 a3 h3 a4 h4 a5 ((bI false, bI ob, ow, tr, fu, kg, co, pn), (nI 0, nI 0, -1, nI 0), (u.1, u.2, mvs, los), lsz, lfs, asz, afs) ++ oW cJ ho o) ++ rV cI hm b0 b1 b2 b3 ((nI 0, nI 0, sz), v, mv, kp, li)) H := hP.rot
  have hD : va_D A ((cV cI cJ h0 h1 h2 a0 a1 a2 a3 h3 a4 h4 a5 ((bI false, bI ob, ow, tr, fu, kg, co, pn), (nI 0, nI 0, -1, nI 0), (u.1, u.2, mvs, los), lsz, lfs, asz, afs) ++ oW cJ ho o) ++ rV cI hm b0 b1 b2 b3 ((nI 0, nI 0, sz), v, mv, kp, li)) := hD.rot
  refine lv_goto (tgt := 827) hx hb dL_law_128 (by decide) ?_
  refine W.widen (k := cells + 1) (n := slots + 6) (by omega) (by omega) ?_
  exact kk ((bI false, bI ob, ow, tr, fu, kg, co, pn), (nI 0, nI 0, -1, nI 0), (u.1, u.2, mvs, los), lsz, lfs, asz, afs) ((nI 0, nI 0, sz), v, mv, kp, li) o _ _ _ ⟨(fun _ => 0), 0, 0, 64, 0, by decide, ⟨hu, rfl, rfl, pI_64.symm, rfl, false, ob, rfl, rfl, KLp.un ob⟩, hv, rfl, trivial⟩ hP hD hS (lv_sub hl [0, 1, 2, 3, 4] rfl)
set_option maxHeartbeats 4000000 in
set_option maxRecDepth 100000 in
theorem law_1 {p : Program} {l : Launch} {e : Env} {s : State} {m : MethodId} {below : List Frame} {meth : Method} {c : Code} {b L : Nat} {xs : Nat → Int32} {A : Nat → Prop} {D : va_G} {cI cJ : ClassId} {h0 h1 h2 a0 a1 a2 a3 h3 a4 h4 a5 ho hm b0 b1 b2 b3 : Nat} {H : Heap} {locs : List Loc} {cells slots : Nat} {Q : State → Prop} {ls : Array Slot} {i : Nat} (hF : LF p l s m meth c b L xs A D cI cJ) (hL : L ≤ 256) (hi : i + 4 ≤ L) (x : CS) (y : RS) (o : Nat → Int64) (hJ : JI x y) (hP : va_P D classes ((cV cI cJ h0 h1 h2 a0 a1 a2 a3 h3 a4 h4 a5 x ++ oW cJ ho o) ++ rV cI hm b0 b1 b2 b3 y) H) (hD : va_D A ((cV cI cJ h0 h1 h2 a0 a1 a2 a3 h3 a4 h4 a5 x ++ oW cJ ho o) ++ rV cI hm b0 b1 b2 b3 y)) (hS : va_S A s.heap H locs) (hc : cells + 1 ≤ 600128) (hs : slots + 6 ≤ 7301098) (hl : lv_has ls 8 [(0, .ref b), (1, .ref h0), (2, .ref hm), (3, .ref ho), (4, .int (nI i))]) (kk : ∀ (x : CS) (y : RS) (o : Nat → Int64) (H : Heap) (locs : List Loc) (ls : Array Slot), JI x y → va_P D classes ((cV cI cJ h0 h1 h2 a0 a1 a2 a3 h3 a4 h4 a5 x ++ oW cJ ho o) ++ rV cI hm b0 b1 b2 b3 y) H → va_D A ((cV cI cJ h0 h1 h2 a0 a1 a2 a3 h3 a4 h4 a5 x ++ oW cJ ho o) ++ rV cI hm b0 b1 b2 b3 y) → va_S A s.heap H locs → lv_has ls 8 [(0, .ref b), (1, .ref h0), (2, .ref hm), (3, .ref ho), (4, .int (nI i))] → W p l e room_1 s m #[Value.ref b] below meth c H locs (cells + 1) (slots + 6) Q (F0 m 827 ls [])) : W p l e room_1 s m #[Value.ref b] below meth c H locs cells slots Q (F0 m 131 ls []) := by
  obtain ⟨S0, hlocks, hK, hA, hE, hX, hScr, hbl, hbA, hlt⟩ := hF
  have hx := S0.1
  have hb := S0.2.1
  have hown := S0.2.2.2.1
  have hG : ∀ w ∈ wsL_law, w.before #[Value.ref b] s = true := fun w h => S0.2.2.2.2 w (List.mem_cons_of_mem _ h)
  obtain ⟨bd, sd, rt, ps, n, hn, hI, hBd, hmk, hH⟩ := hJ
  obtain ⟨⟨th, mk, sz⟩, F9, mv, kp, li⟩ := y
  dsimp only at hBd hmk hH
  subst hmk
  have hs2 := hBd.2.2.1
  have hr16 := hBd.2.2.2.2.1
  have hp65 := hBd.2.2.2.2.2.2
  have hb9 := hBd.lt
  have hLen : plb bd sd = true → (legs bd sd rt ps).length ≤ 1024 := fun _ => Nat.le_trans (len_ok bd sd rt ps hb9 hs2 hp65) (by decide)
  obtain ⟨⟨kn, op, ow, tr, fu, kg, co, pn⟩, ⟨si, ri, pa, ma⟩, ⟨pcs, sqa, mvs, los⟩, lsz, lfs, asz, afs⟩ := x
  obtain ⟨hCP, e1, e2, e3, e4, kb, ob, e5, e6, hKL⟩ := hI
  dsimp only at hCP e1 e2 e3 e4 e5 e6 hKL hH
  subst e1 e2 e3 e4 e5 e6
  have hP : va_P D classes ((cV cI cJ h0 h1 h2 a0 a1 a2 a3 h3 a4 h4 a5 ((bI kb, bI ob, ow, tr, fu, kg, co, pn), (nI sd, nI rt, pI ps, nI n), (pcs, sqa, mvs, los), lsz, lfs, asz, afs) ++ oW cJ ho o) ++ rV cI hm b0 b1 b2 b3 ((th, nI n, sz), F9, mv, kp, li)) H := hP
  have hD : va_D A ((cV cI cJ h0 h1 h2 a0 a1 a2 a3 h3 a4 h4 a5 ((bI kb, bI ob, ow, tr, fu, kg, co, pn), (nI sd, nI rt, pI ps, nI n), (pcs, sqa, mvs, los), lsz, lfs, asz, afs) ++ oW cJ ho o) ++ rV cI hm b0 b1 b2 b3 ((th, nI n, sz), F9, mv, kp, li)) := hD
  refine lv_aload_n hx hb dL_law_131 rfl (lv_at hl 1 rfl) ?_
  have hPr : va_P D classes (cV cI cJ h0 h1 h2 a0 a1 a2 a3 h3 a4 h4 a5 ((bI kb, bI ob, ow, tr, fu, kg, co, pn), (nI sd, nI rt, pI ps, nI n), (pcs, sqa, mvs, los), lsz, lfs, asz, afs) ++ (oW cJ ho o ++ rV cI hm b0 b1 b2 b3 ((th, nI n, sz), F9, mv, kp, li))) H := by rw [← List.append_assoc]; exact hP
  have hDr : va_D A (cV cI cJ h0 h1 h2 a0 a1 a2 a3 h3 a4 h4 a5 ((bI kb, bI ob, ow, tr, fu, kg, co, pn), (nI sd, nI rt, pI ps, nI n), (pcs, sqa, mvs, los), lsz, lfs, asz, afs) ++ (oW cJ ho o ++ rV cI hm b0 b1 b2 b3 ((th, nI n, sz), F9, mv, kp, li))) := by rw [← List.append_assoc]; exact hD
  refine ftV (A := A) (wc := cV cI cJ h0 h1 h2 a0 a1 a2 a3 h3 a4 h4 a5 ((bI kb, bI ob, ow, tr, fu, kg, co, pn), (nI sd, nI rt, pI ps, nI n), (pcs, sqa, mvs, los), lsz, lfs, asz, afs)) (wr := oW cJ ho o ++ rV cI hm b0 b1 b2 b3 ((th, nI n, sz), F9, mv, kp, li)) (rnV (As := []) (rest := []) S0 (c_X4_begin l (A := va_A (cV cI cJ h0 h1 h2 a0 a1 a2 a3 h3 a4 h4 a5 ((bI kb, bI ob, ow, tr, fu, kg, co, pn), (nI sd, nI rt, pI ps, nI n), (pcs, sqa, mvs, los), lsz, lfs, asz, afs)) H.size) bd hCP) wm_L_66 wi_X4_begin ws_X4_begin wn_X4 wc_X4_begin hd_X4_begin ⟨rfl, rfl, by decide, by decide⟩ IW.blind (va_recv hK hPr (ci := 3) (q0 := 0) rfl rfl) (IW.cut hPr hDr hK hA hE hS) hl.1 (Nat.le_of_ble_eq_true rfl) dL_law_132 rfl ⟨by show cells + 0 ≤ 600128; omega, by show slots + 0 ≤ 7301098; omega⟩) hPr hDr hA hS (fun u H locs hu hP hD hS => ?_)
  rw [← List.append_assoc] at hP hD
  have hP : va_P D classes ((cV cI cJ h0 h1 h2 a0 a1 a2 a3 h3 a4 h4 a5 ((bI false, bI ob, ow, tr, fu, kg, co, pn), (nI 0, nI 15, -1, nI 0), (u.1, u.2, mvs, los), lsz, lfs, asz, afs) ++ oW cJ ho o) ++ rV cI hm b0 b1 b2 b3 ((th, nI n, sz), F9, mv, kp, li)) H := hP
  have hD : va_D A ((cV cI cJ h0 h1 h2 a0 a1 a2 a3 h3 a4 h4 a5 ((bI false, bI ob, ow, tr, fu, kg, co, pn), (nI 0, nI 15, -1, nI 0), (u.1, u.2, mvs, los), lsz, lfs, asz, afs) ++ oW cJ ho o) ++ rV cI hm b0 b1 b2 b3 ((th, nI n, sz), F9, mv, kp, li)) := hD
  refine lv_aload_n hx hb dL_law_135 rfl (lv_at hl 2 rfl) ?_
  have hPr : va_P D classes (rV cI hm b0 b1 b2 b3 ((th, nI n, sz), F9, mv, kp, li) ++ (cV cI cJ h0 h1 h2 a0 a1 a2 a3 h3 a4 h4 a5 ((bI false, bI ob, ow, tr, fu, kg, co, pn), (nI 0, nI 15, -1, nI 0), (u.1, u.2, mvs, los), lsz, lfs, asz, afs) ++ oW cJ ho o)) H := hP.rot
  have hDr : va_D A (rV cI hm b0 b1 b2 b3 ((th, nI n, sz), F9, mv, kp, li) ++ (cV cI cJ h0 h1 h2 a0 a1 a2 a3 h3 a4 h4 a5 ((bI false, bI ob, ow, tr, fu, kg, co, pn), (nI 0, nI 15, -1, nI 0), (u.1, u.2, mvs, los), lsz, lfs, asz, afs) ++ oW cJ ho o)) := hD.rot
  refine ftV (A := A) (wc := rV cI hm b0 b1 b2 b3 ((th, nI n, sz), F9, mv, kp, li)) (wr := cV cI cJ h0 h1 h2 a0 a1 a2 a3 h3 a4 h4 a5 ((bI false, bI ob, ow, tr, fu, kg, co, pn), (nI 0, nI 15, -1, nI 0), (u.1, u.2, mvs, los), lsz, lfs, asz, afs) ++ oW cJ ho o) (rnV (As := []) (rest := []) S0 (c_X5_begin l (A := va_A (rV cI hm b0 b1 b2 b3 ((th, nI n, sz), F9, mv, kp, li)) H.size) ) wm_L_69 wi_X5_begin ws_X5_begin wn_X5 wc_X5_begin hd_X5_begin ⟨rfl, rfl, by decide, by decide⟩ IW.blind (va_recv hK hPr (ci := 4) (q0 := 0) rfl rfl) (IW.cut hPr hDr hK hA hE hS) hl.1 (Nat.le_of_ble_eq_true rfl) dL_law_136 rfl ⟨by show cells + 0 ≤ 600128; omega, by show slots + 0 ≤ 7301098; omega⟩) hPr hDr hA hS (fun v H locs hv hP hD hS => ?_)
  have hP : va_P D classes ((cV cI cJ h0 h1 h2 a0 a1 a2 a3 h3 a4 h4 a5 ((bI false, bI ob, ow, tr, fu, kg, co, pn), (nI 0, nI 15, -1, nI 0), (u.1, u.2, mvs, los), lsz, lfs, asz, afs) ++ oW cJ ho o) ++ rV cI hm b0 b1 b2 b3 ((nI 0, nI 0, sz), v, mv, kp, li)) H := hP.rot
  have hD : va_D A ((cV cI cJ h0 h1 h2 a0 a1 a2 a3 h3 a4 h4 a5 ((bI false, bI ob, ow, tr, fu, kg, co, pn), (nI 0, nI 15, -1, nI 0), (u.1, u.2, mvs, los), lsz, lfs, asz, afs) ++ oW cJ ho o) ++ rV cI hm b0 b1 b2 b3 ((nI 0, nI 0, sz), v, mv, kp, li)) := hD.rot
  refine lv_goto (tgt := 827) hx hb dL_law_139 (by decide) ?_
  refine W.widen (k := cells + 1) (n := slots + 6) (by omega) (by omega) ?_
  exact kk ((bI false, bI ob, ow, tr, fu, kg, co, pn), (nI 0, nI 15, -1, nI 0), (u.1, u.2, mvs, los), lsz, lfs, asz, afs) ((nI 0, nI 0, sz), v, mv, kp, li) o _ _ _ ⟨bgn, 0, 15, 64, 0, by decide, ⟨hu, rfl, rfl, pI_64.symm, rfl, false, ob, rfl, rfl, KLp.un ob⟩, hv, rfl, trivial⟩ hP hD hS (lv_sub hl [0, 1, 2, 3, 4] rfl)
set_option maxHeartbeats 4000000 in
set_option maxRecDepth 100000 in
theorem law_2 {p : Program} {l : Launch} {e : Env} {s : State} {m : MethodId} {below : List Frame} {meth : Method} {c : Code} {b L : Nat} {xs : Nat → Int32} {A : Nat → Prop} {D : va_G} {cI cJ : ClassId} {h0 h1 h2 a0 a1 a2 a3 h3 a4 h4 a5 ho hm b0 b1 b2 b3 : Nat} {H : Heap} {locs : List Loc} {cells slots : Nat} {Q : State → Prop} {ls : Array Slot} {i : Nat} (hF : LF p l s m meth c b L xs A D cI cJ) (hL : L ≤ 256) (hi : i + 4 ≤ L) (x : CS) (y : RS) (o : Nat → Int64) (hJ : JI x y) (hP : va_P D classes ((cV cI cJ h0 h1 h2 a0 a1 a2 a3 h3 a4 h4 a5 x ++ oW cJ ho o) ++ rV cI hm b0 b1 b2 b3 y) H) (hD : va_D A ((cV cI cJ h0 h1 h2 a0 a1 a2 a3 h3 a4 h4 a5 x ++ oW cJ ho o) ++ rV cI hm b0 b1 b2 b3 y)) (hS : va_S A s.heap H locs) (hc : cells + 1 ≤ 600128) (hs : slots + 6 ≤ 7301098) (hl : lv_has ls 8 [(0, .ref b), (1, .ref h0), (2, .ref hm), (3, .ref ho), (4, .int (nI i))]) (kk : ∀ (x : CS) (y : RS) (o : Nat → Int64) (H : Heap) (locs : List Loc) (ls : Array Slot), JI x y → va_P D classes ((cV cI cJ h0 h1 h2 a0 a1 a2 a3 h3 a4 h4 a5 x ++ oW cJ ho o) ++ rV cI hm b0 b1 b2 b3 y) H → va_D A ((cV cI cJ h0 h1 h2 a0 a1 a2 a3 h3 a4 h4 a5 x ++ oW cJ ho o) ++ rV cI hm b0 b1 b2 b3 y) → va_S A s.heap H locs → lv_has ls 8 [(0, .ref b), (1, .ref h0), (2, .ref hm), (3, .ref ho), (4, .int (nI i))] → W p l e room_1 s m #[Value.ref b] below meth c H locs (cells + 1) (slots + 6) Q (F0 m 827 ls [])) : W p l e room_1 s m #[Value.ref b] below meth c H locs cells slots Q (F0 m 142 ls []) := by
  obtain ⟨S0, hlocks, hK, hA, hE, hX, hScr, hbl, hbA, hlt⟩ := hF
  have hx := S0.1
  have hb := S0.2.1
  have hown := S0.2.2.2.1
  have hG : ∀ w ∈ wsL_law, w.before #[Value.ref b] s = true := fun w h => S0.2.2.2.2 w (List.mem_cons_of_mem _ h)
  obtain ⟨bd, sd, rt, ps, n, hn, hI, hBd, hmk, hH⟩ := hJ
  obtain ⟨⟨th, mk, sz⟩, F9, mv, kp, li⟩ := y
  dsimp only at hBd hmk hH
  subst hmk
  have hs2 := hBd.2.2.1
  have hr16 := hBd.2.2.2.2.1
  have hp65 := hBd.2.2.2.2.2.2
  have hb9 := hBd.lt
  have hLen : plb bd sd = true → (legs bd sd rt ps).length ≤ 1024 := fun _ => Nat.le_trans (len_ok bd sd rt ps hb9 hs2 hp65) (by decide)
  have hP : va_P D classes ((cV cI cJ h0 h1 h2 a0 a1 a2 a3 h3 a4 h4 a5 x ++ oW cJ ho o) ++ rV cI hm b0 b1 b2 b3 ((th, nI n, sz), F9, mv, kp, li)) H := hP
  have hD : va_D A ((cV cI cJ h0 h1 h2 a0 a1 a2 a3 h3 a4 h4 a5 x ++ oW cJ ho o) ++ rV cI hm b0 b1 b2 b3 ((th, nI n, sz), F9, mv, kp, li)) := hD
  refine lv_aload_n hx hb dL_law_142 rfl (lv_at hl 1 rfl) ?_
  refine lv_aload_n hx hb dL_law_143 rfl (lv_at hl 0 rfl) ?_
  refine lv_iload hx hb dL_law_144 (lv_at hl 4 rfl) ?_
  refine lv_iconst (v := nI 1) hx hb dL_law_146 (by decide) ?_
  refine ln_iadd hx hb dL_law_147 ?_
  refine va_sld hx hb hScr hbl hbA hS (vp_in_nI (by omega) (by omega)) dL_law_148 ?_
  refine W.top (y := .int (xs (i + 1))) (congrArg (fun z => Value.int (xs z)) (nI_clamp (by omega))) ?_
  refine lv_aload_n hx hb dL_law_149 rfl (lv_at hl 0 rfl) ?_
  refine lv_iload hx hb dL_law_150 (lv_at hl 4 rfl) ?_
  refine lv_iconst (v := nI 2) hx hb dL_law_152 (by decide) ?_
  refine ln_iadd hx hb dL_law_153 ?_
  refine va_sld hx hb hScr hbl hbA hS (vp_in_nI (by omega) (by omega)) dL_law_154 ?_
  refine W.top (y := .int (xs (i + 2))) (congrArg (fun z => Value.int (xs z)) (nI_clamp (by omega))) ?_
  rw [List.append_assoc] at hP hD
  refine ftI (A := A) (wc := cV cI cJ h0 h1 h2 a0 a1 a2 a3 h3 a4 h4 a5 x) (wr := oW cJ ho o ++ rV cI hm b0 b1 b2 b3 ((th, nI n, sz), F9, mv, kp, li)) (rnSH (As := [.ref h0, .int (xs (i + 1)), .int (xs (i + 2))]) (rest := []) S0 (c_L_put l hlt (A := va_A (cV cI cJ h0 h1 h2 a0 a1 a2 a3 h3 a4 h4 a5 x) H.size) x bd sd rt ps n hs2 hr16 hp65 hn hI (xs (i + 1)) (xs (i + 2))) wm_L_70 wt_L_put wn_L wc_L_put hd_L_put ⟨rfl, rfl, by decide, by decide⟩ XW.blind (XW.cut hP hD hK hA hE hX hS) hl.1 (Nat.le_of_ble_eq_true rfl) dL_law_155 rfl ⟨by show cells + 1 ≤ 600128; omega, by show slots + 6 ≤ 7301098; omega⟩) hP hD hA hS (fun r u H locs hu hP hD hS => ?_)
  rw [← List.append_assoc] at hP hD
  have hP : va_P D classes ((cV cI cJ h0 h1 h2 a0 a1 a2 a3 h3 a4 h4 a5 u ++ oW cJ ho o) ++ rV cI hm b0 b1 b2 b3 ((th, nI n, sz), F9, mv, kp, li)) H := hP
  have hD : va_D A ((cV cI cJ h0 h1 h2 a0 a1 a2 a3 h3 a4 h4 a5 u ++ oW cJ ho o) ++ rV cI hm b0 b1 b2 b3 ((th, nI n, sz), F9, mv, kp, li)) := hD
  obtain ⟨rfl, hy1, hn1⟩ := hu
  refine lv_istore (lv' := [(5, .int (nI (pt0 (xs (i + 1)) (xs (i + 2))))), (0, .ref b), (1, .ref h0), (2, .ref hm), (3, .ref ho), (4, .int (nI i))]) hx hb dL_law_158 hl (by decide) rfl (fun ls hl => ?_)
  refine lv_aload_n hx hb dL_law_160 rfl (lv_at hl 3 rfl) ?_
  refine lv_aload_n hx hb dL_law_161 rfl (lv_at hl 1 rfl) ?_
  refine lv_iload hx hb dL_law_162 (lv_at hl 5 rfl) ?_
  refine lv_iconst (v := nI 1) hx hb dL_law_164 (by decide) ?_
  refine ln_iadd hx hb dL_law_165 ?_
  refine va_sld hx hb hScr hbl hbA hS (vp_in_nI (by omega) (by omega)) dL_law_166 ?_
  refine W.top (y := .int (xs (i + 1))) (congrArg (fun z => Value.int (xs z)) (nI_clamp (by omega))) ?_
  refine lv_aload_n hx hb dL_law_167 rfl (lv_at hl 1 rfl) ?_
  refine lv_iload hx hb dL_law_168 (lv_at hl 5 rfl) ?_
  refine lv_iconst (v := nI 2) hx hb dL_law_170 (by decide) ?_
  refine ln_iadd hx hb dL_law_171 ?_
  refine va_sld hx hb hScr hbl hbA hS (vp_in_nI (by omega) (by omega)) dL_law_172 ?_
  refine W.top (y := .int (xs (i + 2))) (congrArg (fun z => Value.int (xs z)) (nI_clamp (by omega))) ?_
  have hPr : va_P D classes (rV cI hm b0 b1 b2 b3 ((th, nI n, sz), F9, mv, kp, li) ++ (cV cI cJ h0 h1 h2 a0 a1 a2 a3 h3 a4 h4 a5 u ++ oW cJ ho o)) H := hP.rot
  have hDr : va_D A (rV cI hm b0 b1 b2 b3 ((th, nI n, sz), F9, mv, kp, li) ++ (cV cI cJ h0 h1 h2 a0 a1 a2 a3 h3 a4 h4 a5 u ++ oW cJ ho o)) := hD.rot
  refine ftV (A := A) (wc := rV cI hm b0 b1 b2 b3 ((th, nI n, sz), F9, mv, kp, li)) (wr := cV cI cJ h0 h1 h2 a0 a1 a2 a3 h3 a4 h4 a5 u ++ oW cJ ho o) (rnV (As := [.int (xs (i + 1)), .int (xs (i + 2))]) (rest := []) S0 (c_X5_put l (A := va_A (rV cI hm b0 b1 b2 b3 ((th, nI n, sz), F9, mv, kp, li)) H.size) bd sd rt ps hBd (xs (i + 1)) (xs (i + 2))) wm_L_75 wi_X5_put ws_X5_put wn_X5 wc_X5_put hd_X5_put ⟨rfl, rfl, by decide, by decide⟩ IW.blind (va_recv hK hPr (ci := 4) (q0 := 0) rfl rfl) (IW.cut hPr hDr hK hA hE hS) hl.1 (Nat.le_of_ble_eq_true rfl) dL_law_173 rfl ⟨by show cells + 1 + 0 ≤ 600128; omega, by show slots + 6 + 0 ≤ 7301098; omega⟩) hPr hDr hA hS (fun v H locs hv hP hD hS => ?_)
  have hP : va_P D classes ((cV cI cJ h0 h1 h2 a0 a1 a2 a3 h3 a4 h4 a5 u ++ oW cJ ho o) ++ rV cI hm b0 b1 b2 b3 ((nI (pt0 (xs (i + 1)) (xs (i + 2))), v.2, sz), v.1, mv, kp, li)) H := hP.rot
  have hD : va_D A ((cV cI cJ h0 h1 h2 a0 a1 a2 a3 h3 a4 h4 a5 u ++ oW cJ ho o) ++ rV cI hm b0 b1 b2 b3 ((nI (pt0 (xs (i + 1)) (xs (i + 2))), v.2, sz), v.1, mv, kp, li)) := hD.rot
  have hji : JI u ((nI (pt0 (xs (i + 1)) (xs (i + 2))), v.2, sz), v.1, mv, kp, li) := by
    by_cases h0 : pt0 (xs (i + 1)) (xs (i + 2)) = 0
    · obtain ⟨q, k, hq, hk, e1, e2, hB2, e3⟩ := hv.1 h0
      exact ⟨_, sd, rt, ps, 0, by decide, hy1 h0 q k hq hk e1 e2, hB2, e3, trivial⟩
    · obtain ⟨e1, e2⟩ := hv.2 h0
      obtain ⟨g1, g2⟩ := hn1 h0
      exact ⟨bd, sd, rt, ps, n, hn, g1, by rw [e1]; exact hBd, e2, hH.kp g2⟩
  refine lv_aload_n hx hb dL_law_176 rfl (lv_at hl 3 rfl) ?_
  have hPr : va_P D classes (rV cI hm b0 b1 b2 b3 ((nI (pt0 (xs (i + 1)) (xs (i + 2))), v.2, sz), v.1, mv, kp, li) ++ (cV cI cJ h0 h1 h2 a0 a1 a2 a3 h3 a4 h4 a5 u ++ oW cJ ho o)) H := hP.rot
  have hDr : va_D A (rV cI hm b0 b1 b2 b3 ((nI (pt0 (xs (i + 1)) (xs (i + 2))), v.2, sz), v.1, mv, kp, li) ++ (cV cI cJ h0 h1 h2 a0 a1 a2 a3 h3 a4 h4 a5 u ++ oW cJ ho o)) := hD.rot
  refine roI (rnV (As := []) (rest := []) S0 (c_X5_thrown l (A := va_A (rV cI hm b0 b1 b2 b3 ((nI (pt0 (xs (i + 1)) (xs (i + 2))), v.2, sz), v.1, mv, kp, li)) H.size) ) wm_L_76 wi_X5_thrown ws_X5_thrown wn_X5 wc_X5_thrown hd_X5_thrown ⟨rfl, rfl, by decide, by decide⟩ IW.blind (va_recv hK hPr (ci := 4) (q0 := 0) rfl rfl) (IW.cut hPr hDr hK hA hE hS) hl.1 (Nat.le_of_ble_eq_true rfl) dL_law_177 rfl ⟨by show cells + 1 + 0 ≤ 600128; omega, by show slots + 6 + 0 ≤ 7301098; omega⟩) (fun r_177 hr_177 => ?_)
  subst hr_177
  refine lv_iload hx hb dL_law_180 (lv_at hl 0 rfl) ?_
  refine lv_icmp_eq (tgt := 187) hx hb dL_law_182 (by decide) (fun _ => ?_) (fun z9 => absurd rfl z9)
  refine lv_goto (tgt := 827) hx hb dL_law_187 (by decide) ?_
  exact kk u ((nI (pt0 (xs (i + 1)) (xs (i + 2))), v.2, sz), v.1, mv, kp, li) o _ _ _ hji hP hD hS (lv_sub hl [1, 2, 3, 4, 5] rfl)
set_option maxHeartbeats 4000000 in
set_option maxRecDepth 100000 in
theorem law_3 {p : Program} {l : Launch} {e : Env} {s : State} {m : MethodId} {below : List Frame} {meth : Method} {c : Code} {b L : Nat} {xs : Nat → Int32} {A : Nat → Prop} {D : va_G} {cI cJ : ClassId} {h0 h1 h2 a0 a1 a2 a3 h3 a4 h4 a5 ho hm b0 b1 b2 b3 : Nat} {H : Heap} {locs : List Loc} {cells slots : Nat} {Q : State → Prop} {ls : Array Slot} {i : Nat} (hF : LF p l s m meth c b L xs A D cI cJ) (hL : L ≤ 256) (hi : i + 4 ≤ L) (x : CS) (y : RS) (o : Nat → Int64) (hJ : JI x y) (hP : va_P D classes ((cV cI cJ h0 h1 h2 a0 a1 a2 a3 h3 a4 h4 a5 x ++ oW cJ ho o) ++ rV cI hm b0 b1 b2 b3 y) H) (hD : va_D A ((cV cI cJ h0 h1 h2 a0 a1 a2 a3 h3 a4 h4 a5 x ++ oW cJ ho o) ++ rV cI hm b0 b1 b2 b3 y)) (hS : va_S A s.heap H locs) (hc : cells + 1 ≤ 600128) (hs : slots + 6 ≤ 7301098) (hl : lv_has ls 8 [(0, .ref b), (1, .ref h0), (2, .ref hm), (3, .ref ho), (4, .int (nI i))]) (kk : ∀ (x : CS) (y : RS) (o : Nat → Int64) (H : Heap) (locs : List Loc) (ls : Array Slot), JI x y → va_P D classes ((cV cI cJ h0 h1 h2 a0 a1 a2 a3 h3 a4 h4 a5 x ++ oW cJ ho o) ++ rV cI hm b0 b1 b2 b3 y) H → va_D A ((cV cI cJ h0 h1 h2 a0 a1 a2 a3 h3 a4 h4 a5 x ++ oW cJ ho o) ++ rV cI hm b0 b1 b2 b3 y) → va_S A s.heap H locs → lv_has ls 8 [(0, .ref b), (1, .ref h0), (2, .ref hm), (3, .ref ho), (4, .int (nI i))] → W p l e room_1 s m #[Value.ref b] below meth c H locs (cells + 1) (slots + 6) Q (F0 m 827 ls [])) : W p l e room_1 s m #[Value.ref b] below meth c H locs cells slots Q (F0 m 190 ls []) := by
  obtain ⟨S0, hlocks, hK, hA, hE, hX, hScr, hbl, hbA, hlt⟩ := hF
  have hx := S0.1
  have hb := S0.2.1
  have hown := S0.2.2.2.1
  have hG : ∀ w ∈ wsL_law, w.before #[Value.ref b] s = true := fun w h => S0.2.2.2.2 w (List.mem_cons_of_mem _ h)
  obtain ⟨bd, sd, rt, ps, n, hn, hI, hBd, hmk, hH⟩ := hJ
  obtain ⟨⟨th, mk, sz⟩, F9, mv, kp, li⟩ := y
  dsimp only at hBd hmk hH
  subst hmk
  have hs2 := hBd.2.2.1
  have hr16 := hBd.2.2.2.2.1
  have hp65 := hBd.2.2.2.2.2.2
  have hb9 := hBd.lt
  have hLen : plb bd sd = true → (legs bd sd rt ps).length ≤ 1024 := fun _ => Nat.le_trans (len_ok bd sd rt ps hb9 hs2 hp65) (by decide)
  have hP : va_P D classes ((cV cI cJ h0 h1 h2 a0 a1 a2 a3 h3 a4 h4 a5 x ++ oW cJ ho o) ++ rV cI hm b0 b1 b2 b3 ((th, nI n, sz), F9, mv, kp, li)) H := hP
  have hD : va_D A ((cV cI cJ h0 h1 h2 a0 a1 a2 a3 h3 a4 h4 a5 x ++ oW cJ ho o) ++ rV cI hm b0 b1 b2 b3 ((th, nI n, sz), F9, mv, kp, li)) := hD
  refine lv_aload_n hx hb dL_law_190 rfl (lv_at hl 1 rfl) ?_
  refine lv_aload_n hx hb dL_law_191 rfl (lv_at hl 0 rfl) ?_
  refine lv_iload hx hb dL_law_192 (lv_at hl 4 rfl) ?_
  refine lv_iconst (v := nI 1) hx hb dL_law_194 (by decide) ?_
  refine ln_iadd hx hb dL_law_195 ?_
  refine va_sld hx hb hScr hbl hbA hS (vp_in_nI (by omega) (by omega)) dL_law_196 ?_
  refine W.top (y := .int (xs (i + 1))) (congrArg (fun z => Value.int (xs z)) (nI_clamp (by omega))) ?_
  refine lv_aload_n hx hb dL_law_197 rfl (lv_at hl 0 rfl) ?_
  refine lv_iload hx hb dL_law_198 (lv_at hl 4 rfl) ?_
  refine lv_iconst (v := nI 2) hx hb dL_law_200 (by decide) ?_
  refine ln_iadd hx hb dL_law_201 ?_
  refine va_sld hx hb hScr hbl hbA hS (vp_in_nI (by omega) (by omega)) dL_law_202 ?_
  refine W.top (y := .int (xs (i + 2))) (congrArg (fun z => Value.int (xs z)) (nI_clamp (by omega))) ?_
  refine lv_aload_n hx hb dL_law_203 rfl (lv_at hl 0 rfl) ?_
  refine lv_iload hx hb dL_law_204 (lv_at hl 4 rfl) ?_
  refine lv_iconst (v := nI 3) hx hb dL_law_206 (by decide) ?_
  refine ln_iadd hx hb dL_law_207 ?_
  refine va_sld hx hb hScr hbl hbA hS (vp_in_nI (by omega) (by omega)) dL_law_208 ?_
  refine W.top (y := .int (xs (i + 3))) (congrArg (fun z => Value.int (xs z)) (nI_clamp (by omega))) ?_
  rw [List.append_assoc] at hP hD
  refine ftI (A := A) (wc := cV cI cJ h0 h1 h2 a0 a1 a2 a3 h3 a4 h4 a5 x) (wr := oW cJ ho o ++ rV cI hm b0 b1 b2 b3 ((th, nI n, sz), F9, mv, kp, li)) (rnSH (As := [.ref h0, .int (xs (i + 1)), .int (xs (i + 2)), .int (xs (i + 3))]) (rest := []) S0 (c_L_state l hlt (A := va_A (cV cI cJ h0 h1 h2 a0 a1 a2 a3 h3 a4 h4 a5 x) H.size) x bd sd rt ps n hs2 hr16 hp65 hn hI (xs (i + 1)) (xs (i + 2)) (xs (i + 3))) wm_L_79 wt_L_state wn_L wc_L_state hd_L_state ⟨rfl, rfl, by decide, by decide⟩ XW.blind (XW.cut hP hD hK hA hE hX hS) hl.1 (Nat.le_of_ble_eq_true rfl) dL_law_209 rfl ⟨by show cells + 1 ≤ 600128; omega, by show slots + 6 ≤ 7301098; omega⟩) hP hD hA hS (fun r u H locs hu hP hD hS => ?_)
  rw [← List.append_assoc] at hP hD
  have hP : va_P D classes ((cV cI cJ h0 h1 h2 a0 a1 a2 a3 h3 a4 h4 a5 u ++ oW cJ ho o) ++ rV cI hm b0 b1 b2 b3 ((th, nI n, sz), F9, mv, kp, li)) H := hP
  have hD : va_D A ((cV cI cJ h0 h1 h2 a0 a1 a2 a3 h3 a4 h4 a5 u ++ oW cJ ho o) ++ rV cI hm b0 b1 b2 b3 ((th, nI n, sz), F9, mv, kp, li)) := hD
  obtain ⟨rfl, hy1, hn1⟩ := hu
  refine lv_istore (lv' := [(5, .int (nI (st0 (xs (i + 1)) (xs (i + 2)) (xs (i + 3))))), (0, .ref b), (1, .ref h0), (2, .ref hm), (3, .ref ho), (4, .int (nI i))]) hx hb dL_law_212 hl (by decide) rfl (fun ls hl => ?_)
  refine lv_aload_n hx hb dL_law_214 rfl (lv_at hl 3 rfl) ?_
  refine lv_aload_n hx hb dL_law_215 rfl (lv_at hl 1 rfl) ?_
  refine lv_iload hx hb dL_law_216 (lv_at hl 5 rfl) ?_
  refine lv_iconst (v := nI 1) hx hb dL_law_218 (by decide) ?_
  refine ln_iadd hx hb dL_law_219 ?_
  refine va_sld hx hb hScr hbl hbA hS (vp_in_nI (by omega) (by omega)) dL_law_220 ?_
  refine W.top (y := .int (xs (i + 1))) (congrArg (fun z => Value.int (xs z)) (nI_clamp (by omega))) ?_
  refine lv_aload_n hx hb dL_law_221 rfl (lv_at hl 1 rfl) ?_
  refine lv_iload hx hb dL_law_222 (lv_at hl 5 rfl) ?_
  refine lv_iconst (v := nI 2) hx hb dL_law_224 (by decide) ?_
  refine ln_iadd hx hb dL_law_225 ?_
  refine va_sld hx hb hScr hbl hbA hS (vp_in_nI (by omega) (by omega)) dL_law_226 ?_
  refine W.top (y := .int (xs (i + 2))) (congrArg (fun z => Value.int (xs z)) (nI_clamp (by omega))) ?_
  refine lv_aload_n hx hb dL_law_227 rfl (lv_at hl 1 rfl) ?_
  refine lv_iload hx hb dL_law_228 (lv_at hl 5 rfl) ?_
  refine lv_iconst (v := nI 3) hx hb dL_law_230 (by decide) ?_
  refine ln_iadd hx hb dL_law_231 ?_
  refine va_sld hx hb hScr hbl hbA hS (vp_in_nI (by omega) (by omega)) dL_law_232 ?_
  refine W.top (y := .int (xs (i + 3))) (congrArg (fun z => Value.int (xs z)) (nI_clamp (by omega))) ?_
  have hPr : va_P D classes (rV cI hm b0 b1 b2 b3 ((th, nI n, sz), F9, mv, kp, li) ++ (cV cI cJ h0 h1 h2 a0 a1 a2 a3 h3 a4 h4 a5 u ++ oW cJ ho o)) H := hP.rot
  have hDr : va_D A (rV cI hm b0 b1 b2 b3 ((th, nI n, sz), F9, mv, kp, li) ++ (cV cI cJ h0 h1 h2 a0 a1 a2 a3 h3 a4 h4 a5 u ++ oW cJ ho o)) := hD.rot
  refine ftV (A := A) (wc := rV cI hm b0 b1 b2 b3 ((th, nI n, sz), F9, mv, kp, li)) (wr := cV cI cJ h0 h1 h2 a0 a1 a2 a3 h3 a4 h4 a5 u ++ oW cJ ho o) (rnV (As := [.int (xs (i + 1)), .int (xs (i + 2)), .int (xs (i + 3))]) (rest := []) S0 (c_X5_state l (A := va_A (rV cI hm b0 b1 b2 b3 ((th, nI n, sz), F9, mv, kp, li)) H.size) bd sd rt ps hBd (xs (i + 1)) (xs (i + 2)) (xs (i + 3))) wm_L_82 wi_X5_state ws_X5_state wn_X5 wc_X5_state hd_X5_state ⟨rfl, rfl, by decide, by decide⟩ IW.blind (va_recv hK hPr (ci := 4) (q0 := 0) rfl rfl) (IW.cut hPr hDr hK hA hE hS) hl.1 (Nat.le_of_ble_eq_true rfl) dL_law_233 rfl ⟨by show cells + 1 + 0 ≤ 600128; omega, by show slots + 6 + 0 ≤ 7301098; omega⟩) hPr hDr hA hS (fun v H locs hv hP hD hS => ?_)
  have hP : va_P D classes ((cV cI cJ h0 h1 h2 a0 a1 a2 a3 h3 a4 h4 a5 u ++ oW cJ ho o) ++ rV cI hm b0 b1 b2 b3 ((nI (st0 (xs (i + 1)) (xs (i + 2)) (xs (i + 3))), v.2, sz), v.1, mv, kp, li)) H := hP.rot
  have hD : va_D A ((cV cI cJ h0 h1 h2 a0 a1 a2 a3 h3 a4 h4 a5 u ++ oW cJ ho o) ++ rV cI hm b0 b1 b2 b3 ((nI (st0 (xs (i + 1)) (xs (i + 2)) (xs (i + 3))), v.2, sz), v.1, mv, kp, li)) := hD.rot
  have hji : JI u ((nI (st0 (xs (i + 1)) (xs (i + 2)) (xs (i + 3))), v.2, sz), v.1, mv, kp, li) := by
    by_cases h0 : st0 (xs (i + 1)) (xs (i + 2)) (xs (i + 3)) = 0
    · obtain ⟨a, b, d, ha, hb8, hd, e1, e2, e3, hB2, e4⟩ := hv.1 h0
      exact ⟨bd, a, b, d, 0, by decide, hy1 h0 a b d ha hb8 hd e1 e2 e3, hB2, e4, trivial⟩
    · obtain ⟨e1, e2⟩ := hv.2 h0
      obtain ⟨g1, g2⟩ := hn1 h0
      exact ⟨bd, sd, rt, ps, n, hn, g1, by rw [e1]; exact hBd, e2, hH.kp g2⟩
  refine lv_aload_n hx hb dL_law_236 rfl (lv_at hl 3 rfl) ?_
  have hPr : va_P D classes (rV cI hm b0 b1 b2 b3 ((nI (st0 (xs (i + 1)) (xs (i + 2)) (xs (i + 3))), v.2, sz), v.1, mv, kp, li) ++ (cV cI cJ h0 h1 h2 a0 a1 a2 a3 h3 a4 h4 a5 u ++ oW cJ ho o)) H := hP.rot
  have hDr : va_D A (rV cI hm b0 b1 b2 b3 ((nI (st0 (xs (i + 1)) (xs (i + 2)) (xs (i + 3))), v.2, sz), v.1, mv, kp, li) ++ (cV cI cJ h0 h1 h2 a0 a1 a2 a3 h3 a4 h4 a5 u ++ oW cJ ho o)) := hD.rot
  refine roI (rnV (As := []) (rest := []) S0 (c_X5_thrown l (A := va_A (rV cI hm b0 b1 b2 b3 ((nI (st0 (xs (i + 1)) (xs (i + 2)) (xs (i + 3))), v.2, sz), v.1, mv, kp, li)) H.size) ) wm_L_76 wi_X5_thrown ws_X5_thrown wn_X5 wc_X5_thrown hd_X5_thrown ⟨rfl, rfl, by decide, by decide⟩ IW.blind (va_recv hK hPr (ci := 4) (q0 := 0) rfl rfl) (IW.cut hPr hDr hK hA hE hS) hl.1 (Nat.le_of_ble_eq_true rfl) dL_law_237 rfl ⟨by show cells + 1 + 0 ≤ 600128; omega, by show slots + 6 + 0 ≤ 7301098; omega⟩) (fun r_237 hr_237 => ?_)
  subst hr_237
  refine lv_iload hx hb dL_law_240 (lv_at hl 0 rfl) ?_
  refine lv_icmp_eq (tgt := 247) hx hb dL_law_242 (by decide) (fun _ => ?_) (fun z9 => absurd rfl z9)
  refine lv_goto (tgt := 827) hx hb dL_law_247 (by decide) ?_
  exact kk u ((nI (st0 (xs (i + 1)) (xs (i + 2)) (xs (i + 3))), v.2, sz), v.1, mv, kp, li) o _ _ _ hji hP hD hS (lv_sub hl [1, 2, 3, 4, 5] rfl)
set_option maxHeartbeats 4000000 in
set_option maxRecDepth 100000 in
theorem law_4 {p : Program} {l : Launch} {e : Env} {s : State} {m : MethodId} {below : List Frame} {meth : Method} {c : Code} {b L : Nat} {xs : Nat → Int32} {A : Nat → Prop} {D : va_G} {cI cJ : ClassId} {h0 h1 h2 a0 a1 a2 a3 h3 a4 h4 a5 ho hm b0 b1 b2 b3 : Nat} {H : Heap} {locs : List Loc} {cells slots : Nat} {Q : State → Prop} {ls : Array Slot} {i : Nat} (hF : LF p l s m meth c b L xs A D cI cJ) (hL : L ≤ 256) (hi : i + 4 ≤ L) (x : CS) (y : RS) (o : Nat → Int64) (hJ : JI x y) (hP : va_P D classes ((cV cI cJ h0 h1 h2 a0 a1 a2 a3 h3 a4 h4 a5 x ++ oW cJ ho o) ++ rV cI hm b0 b1 b2 b3 y) H) (hD : va_D A ((cV cI cJ h0 h1 h2 a0 a1 a2 a3 h3 a4 h4 a5 x ++ oW cJ ho o) ++ rV cI hm b0 b1 b2 b3 y)) (hS : va_S A s.heap H locs) (hc : cells + 1 ≤ 600128) (hs : slots + 6 ≤ 7301098) (hl : lv_has ls 8 [(0, .ref b), (1, .ref h0), (2, .ref hm), (3, .ref ho), (4, .int (nI i))]) (kk : ∀ (x : CS) (y : RS) (o : Nat → Int64) (H : Heap) (locs : List Loc) (ls : Array Slot), JI x y → va_P D classes ((cV cI cJ h0 h1 h2 a0 a1 a2 a3 h3 a4 h4 a5 x ++ oW cJ ho o) ++ rV cI hm b0 b1 b2 b3 y) H → va_D A ((cV cI cJ h0 h1 h2 a0 a1 a2 a3 h3 a4 h4 a5 x ++ oW cJ ho o) ++ rV cI hm b0 b1 b2 b3 y) → va_S A s.heap H locs → lv_has ls 8 [(0, .ref b), (1, .ref h0), (2, .ref hm), (3, .ref ho), (4, .int (nI i))] → W p l e room_1 s m #[Value.ref b] below meth c H locs (cells + 1) (slots + 6) Q (F0 m 827 ls [])) : W p l e room_1 s m #[Value.ref b] below meth c H locs cells slots Q (F0 m 250 ls []) := by
  obtain ⟨S0, hlocks, hK, hA, hE, hX, hScr, hbl, hbA, hlt⟩ := hF
  have hx := S0.1
  have hb := S0.2.1
  have hown := S0.2.2.2.1
  have hG : ∀ w ∈ wsL_law, w.before #[Value.ref b] s = true := fun w h => S0.2.2.2.2 w (List.mem_cons_of_mem _ h)
  obtain ⟨bd, sd, rt, ps, n, hn, hI, hBd, hmk, hH⟩ := hJ
  obtain ⟨⟨th, mk, sz⟩, F9, mv, kp, li⟩ := y
  dsimp only at hBd hmk hH
  subst hmk
  have hs2 := hBd.2.2.1
  have hr16 := hBd.2.2.2.2.1
  have hp65 := hBd.2.2.2.2.2.2
  have hb9 := hBd.lt
  have hLen : plb bd sd = true → (legs bd sd rt ps).length ≤ 1024 := fun _ => Nat.le_trans (len_ok bd sd rt ps hb9 hs2 hp65) (by decide)
  obtain ⟨⟨kn, op, ow, tr, fu, kg, co, pn⟩, ⟨si, ri, pa, ma⟩, ⟨pcs, sqa, mvs, los⟩, lsz, lfs, asz, afs⟩ := x
  obtain ⟨hCP, e1, e2, e3, e4, kb, ob, e5, e6, hKL⟩ := hI
  dsimp only at hCP e1 e2 e3 e4 e5 e6 hKL hH
  subst e1 e2 e3 e4 e5 e6
  have hP : va_P D classes ((cV cI cJ h0 h1 h2 a0 a1 a2 a3 h3 a4 h4 a5 ((bI kb, bI ob, ow, tr, fu, kg, co, pn), (nI sd, nI rt, pI ps, nI n), (pcs, sqa, mvs, los), lsz, lfs, asz, afs) ++ oW cJ ho o) ++ rV cI hm b0 b1 b2 b3 ((th, nI n, sz), F9, mv, kp, li)) H := hP
  have hD : va_D A ((cV cI cJ h0 h1 h2 a0 a1 a2 a3 h3 a4 h4 a5 ((bI kb, bI ob, ow, tr, fu, kg, co, pn), (nI sd, nI rt, pI ps, nI n), (pcs, sqa, mvs, los), lsz, lfs, asz, afs) ++ oW cJ ho o) ++ rV cI hm b0 b1 b2 b3 ((th, nI n, sz), F9, mv, kp, li)) := hD
  refine lv_aload_n hx hb dL_law_250 rfl (lv_at hl 1 rfl) ?_
  have hPr : va_P D classes (cV cI cJ h0 h1 h2 a0 a1 a2 a3 h3 a4 h4 a5 ((bI kb, bI ob, ow, tr, fu, kg, co, pn), (nI sd, nI rt, pI ps, nI n), (pcs, sqa, mvs, los), lsz, lfs, asz, afs) ++ (oW cJ ho o ++ rV cI hm b0 b1 b2 b3 ((th, nI n, sz), F9, mv, kp, li))) H := by rw [← List.append_assoc]; exact hP
  have hDr : va_D A (cV cI cJ h0 h1 h2 a0 a1 a2 a3 h3 a4 h4 a5 ((bI kb, bI ob, ow, tr, fu, kg, co, pn), (nI sd, nI rt, pI ps, nI n), (pcs, sqa, mvs, los), lsz, lfs, asz, afs) ++ (oW cJ ho o ++ rV cI hm b0 b1 b2 b3 ((th, nI n, sz), F9, mv, kp, li))) := by rw [← List.append_assoc]; exact hD
  refine roI (rnV (As := []) (rest := []) S0 (c_X4_playable l (A := va_A (cV cI cJ h0 h1 h2 a0 a1 a2 a3 h3 a4 h4 a5 ((bI kb, bI ob, ow, tr, fu, kg, co, pn), (nI sd, nI rt, pI ps, nI n), (pcs, sqa, mvs, los), lsz, lfs, asz, afs)) H.size) bd hCP sd hs2) wm_L_83 wi_X4_playable ws_X4_playable wn_X4 wc_X4_playable hd_X4_playable ⟨rfl, rfl, by decide, by decide⟩ IW.blind (va_recv hK hPr (ci := 3) (q0 := 0) rfl rfl) (IW.cut hPr hDr hK hA hE hS) hl.1 (Nat.le_of_ble_eq_true rfl) dL_law_251 rfl ⟨by show cells + 0 ≤ 600128; omega, by show slots + 0 ≤ 7301098; omega⟩) (fun r_251 hr_251 => ?_)
  subst hr_251
  refine lv_aload_n hx hb dL_law_254 rfl (lv_at hl 2 rfl) ?_
  have hPr : va_P D classes (rV cI hm b0 b1 b2 b3 ((th, nI n, sz), F9, mv, kp, li) ++ (cV cI cJ h0 h1 h2 a0 a1 a2 a3 h3 a4 h4 a5 ((bI kb, bI ob, ow, tr, fu, kg, co, pn), (nI sd, nI rt, pI ps, nI n), (pcs, sqa, mvs, los), lsz, lfs, asz, afs) ++ oW cJ ho o)) H := hP.rot
  have hDr : va_D A (rV cI hm b0 b1 b2 b3 ((th, nI n, sz), F9, mv, kp, li) ++ (cV cI cJ h0 h1 h2 a0 a1 a2 a3 h3 a4 h4 a5 ((bI kb, bI ob, ow, tr, fu, kg, co, pn), (nI sd, nI rt, pI ps, nI n), (pcs, sqa, mvs, los), lsz, lfs, asz, afs) ++ oW cJ ho o)) := hD.rot
  refine ftI (A := A) (wc := rV cI hm b0 b1 b2 b3 ((th, nI n, sz), F9, mv, kp, li)) (wr := cV cI cJ h0 h1 h2 a0 a1 a2 a3 h3 a4 h4 a5 ((bI kb, bI ob, ow, tr, fu, kg, co, pn), (nI sd, nI rt, pI ps, nI n), (pcs, sqa, mvs, los), lsz, lfs, asz, afs) ++ oW cJ ho o) (rnV (As := []) (rest := [.int (bI (cbp bd sd))]) S0 (c_X5_playable l (A := va_A (rV cI hm b0 b1 b2 b3 ((th, nI n, sz), F9, mv, kp, li)) H.size) bd sd rt ps hBd) wm_L_86 wi_X5_playable ws_X5_playable wn_X5 wc_X5_playable hd_X5_playable ⟨rfl, rfl, by decide, by decide⟩ IW.blind (va_recv hK hPr (ci := 4) (q0 := 0) rfl rfl) (IW.cut hPr hDr hK hA hE hS) hl.1 (Nat.le_of_ble_eq_true rfl) dL_law_255 rfl ⟨by show cells + 0 ≤ 600128; omega, by show slots + 0 ≤ 7301098; omega⟩) hPr hDr hA hS (fun r v H locs hv hP hD hS => ?_)
  obtain rfl := hv
  have hP : va_P D classes ((cV cI cJ h0 h1 h2 a0 a1 a2 a3 h3 a4 h4 a5 ((bI kb, bI ob, ow, tr, fu, kg, co, pn), (nI sd, nI rt, pI ps, nI n), (pcs, sqa, mvs, los), lsz, lfs, asz, afs) ++ oW cJ ho o) ++ rV cI hm b0 b1 b2 b3 ((nI 0, nI n, sz), F9, mv, kp, li)) H := hP.rot
  have hD : va_D A ((cV cI cJ h0 h1 h2 a0 a1 a2 a3 h3 a4 h4 a5 ((bI kb, bI ob, ow, tr, fu, kg, co, pn), (nI sd, nI rt, pI ps, nI n), (pcs, sqa, mvs, los), lsz, lfs, asz, afs) ++ oW cJ ho o) ++ rV cI hm b0 b1 b2 b3 ((nI 0, nI n, sz), F9, mv, kp, li)) := hD.rot
  refine lv_icmp_eq (tgt := 827) hx hb dL_law_258 (by decide) (fun _ => ?_) (fun z9 => absurd (congrArg bI (cbp_e hb9 hs2)) z9)
  refine W.widen (k := cells + 1) (n := slots + 6) (by omega) (by omega) ?_
  exact kk ((bI kb, bI ob, ow, tr, fu, kg, co, pn), (nI sd, nI rt, pI ps, nI n), (pcs, sqa, mvs, los), lsz, lfs, asz, afs) ((nI 0, nI n, sz), F9, mv, kp, li) o _ _ _ ⟨bd, sd, rt, ps, n, hn, ⟨hCP, rfl, rfl, rfl, rfl, kb, ob, rfl, rfl, hKL⟩, hBd, rfl, hH⟩ hP hD hS (lv_sub hl [0, 1, 2, 3, 4] rfl)
set_option maxHeartbeats 4000000 in
set_option maxRecDepth 100000 in
theorem law_5 {p : Program} {l : Launch} {e : Env} {s : State} {m : MethodId} {below : List Frame} {meth : Method} {c : Code} {b L : Nat} {xs : Nat → Int32} {A : Nat → Prop} {D : va_G} {cI cJ : ClassId} {h0 h1 h2 a0 a1 a2 a3 h3 a4 h4 a5 ho hm b0 b1 b2 b3 : Nat} {H : Heap} {locs : List Loc} {cells slots : Nat} {Q : State → Prop} {ls : Array Slot} {i : Nat} (hF : LF p l s m meth c b L xs A D cI cJ) (hL : L ≤ 256) (hi : i + 4 ≤ L) (x : CS) (y : RS) (o : Nat → Int64) (hJ : JI x y) (hP : va_P D classes ((cV cI cJ h0 h1 h2 a0 a1 a2 a3 h3 a4 h4 a5 x ++ oW cJ ho o) ++ rV cI hm b0 b1 b2 b3 y) H) (hD : va_D A ((cV cI cJ h0 h1 h2 a0 a1 a2 a3 h3 a4 h4 a5 x ++ oW cJ ho o) ++ rV cI hm b0 b1 b2 b3 y)) (hS : va_S A s.heap H locs) (hc : cells + 1 ≤ 600128) (hs : slots + 6 ≤ 7301098) (hl : lv_has ls 8 [(0, .ref b), (1, .ref h0), (2, .ref hm), (3, .ref ho), (4, .int (nI i))]) (kk : ∀ (x : CS) (y : RS) (o : Nat → Int64) (H : Heap) (locs : List Loc) (ls : Array Slot), JI x y → va_P D classes ((cV cI cJ h0 h1 h2 a0 a1 a2 a3 h3 a4 h4 a5 x ++ oW cJ ho o) ++ rV cI hm b0 b1 b2 b3 y) H → va_D A ((cV cI cJ h0 h1 h2 a0 a1 a2 a3 h3 a4 h4 a5 x ++ oW cJ ho o) ++ rV cI hm b0 b1 b2 b3 y) → va_S A s.heap H locs → lv_has ls 8 [(0, .ref b), (1, .ref h0), (2, .ref hm), (3, .ref ho), (4, .int (nI i))] → W p l e room_1 s m #[Value.ref b] below meth c H locs (cells + 1) (slots + 6) Q (F0 m 827 ls [])) : W p l e room_1 s m #[Value.ref b] below meth c H locs cells slots Q (F0 m 263 ls []) := by
  obtain ⟨S0, hlocks, hK, hA, hE, hX, hScr, hbl, hbA, hlt⟩ := hF
  have hx := S0.1
  have hb := S0.2.1
  have hown := S0.2.2.2.1
  have hG : ∀ w ∈ wsL_law, w.before #[Value.ref b] s = true := fun w h => S0.2.2.2.2 w (List.mem_cons_of_mem _ h)
  obtain ⟨bd, sd, rt, ps, n, hn, hI, hBd, hmk, hH⟩ := hJ
  obtain ⟨⟨th, mk, sz⟩, F9, mv, kp, li⟩ := y
  dsimp only at hBd hmk hH
  subst hmk
  have hs2 := hBd.2.2.1
  have hr16 := hBd.2.2.2.2.1
  have hp65 := hBd.2.2.2.2.2.2
  have hb9 := hBd.lt
  have hLen : plb bd sd = true → (legs bd sd rt ps).length ≤ 1024 := fun _ => Nat.le_trans (len_ok bd sd rt ps hb9 hs2 hp65) (by decide)
  have hP : va_P D classes ((cV cI cJ h0 h1 h2 a0 a1 a2 a3 h3 a4 h4 a5 x ++ oW cJ ho o) ++ rV cI hm b0 b1 b2 b3 ((th, nI n, sz), F9, mv, kp, li)) H := hP
  have hD : va_D A ((cV cI cJ h0 h1 h2 a0 a1 a2 a3 h3 a4 h4 a5 x ++ oW cJ ho o) ++ rV cI hm b0 b1 b2 b3 ((th, nI n, sz), F9, mv, kp, li)) := hD
  refine lv_aload_n hx hb dL_law_263 rfl (lv_at hl 1 rfl) ?_
  refine lv_aload_n hx hb dL_law_264 rfl (lv_at hl 3 rfl) ?_
  refine ftI (A := A) (wc := cV cI cJ h0 h1 h2 a0 a1 a2 a3 h3 a4 h4 a5 x ++ oW cJ ho o) (wr := rV cI hm b0 b1 b2 b3 ((th, nI n, sz), F9, mv, kp, li)) (rnSH (As := [.ref h0, .ref ho]) (rest := []) S0 (c_L_count l hlt (A := va_A (cV cI cJ h0 h1 h2 a0 a1 a2 a3 h3 a4 h4 a5 x ++ oW cJ ho o) H.size) x o bd sd rt ps n hs2 hr16 hp65 hn hI) wm_L_87 wt_L_count wn_L wc_L_count hd_L_count ⟨rfl, rfl, by decide, by decide⟩ XW.blind (XW.cut hP hD hK hA hE hX hS) hl.1 (Nat.le_of_ble_eq_true rfl) dL_law_265 rfl ⟨by show cells + 1 ≤ 600128; omega, by show slots + 6 ≤ 7301098; omega⟩) hP hD hA hS (fun r u H locs hu hP hD hS => ?_)
  have hP : va_P D classes ((cV cI cJ h0 h1 h2 a0 a1 a2 a3 h3 a4 h4 a5 u.1 ++ oW cJ ho u.2) ++ rV cI hm b0 b1 b2 b3 ((th, nI n, sz), F9, mv, kp, li)) H := hP
  have hD : va_D A ((cV cI cJ h0 h1 h2 a0 a1 a2 a3 h3 a4 h4 a5 u.1 ++ oW cJ ho u.2) ++ rV cI hm b0 b1 b2 b3 ((th, nI n, sz), F9, mv, kp, li)) := hD
  obtain ⟨rfl, hI1, hK1, ho1⟩ := hu
  refine lv_istore (lv' := [(5, .int (nI (ndN bd sd))), (0, .ref b), (1, .ref h0), (2, .ref hm), (3, .ref ho), (4, .int (nI i))]) hx hb dL_law_268 hl (by decide) rfl (fun ls hl => ?_)
  refine lv_aload_n hx hb dL_law_270 rfl (lv_at hl 3 rfl) ?_
  have hPr : va_P D classes (rV cI hm b0 b1 b2 b3 ((th, nI n, sz), F9, mv, kp, li) ++ (cV cI cJ h0 h1 h2 a0 a1 a2 a3 h3 a4 h4 a5 u.1 ++ oW cJ ho u.2)) H := hP.rot
  have hDr : va_D A (rV cI hm b0 b1 b2 b3 ((th, nI n, sz), F9, mv, kp, li) ++ (cV cI cJ h0 h1 h2 a0 a1 a2 a3 h3 a4 h4 a5 u.1 ++ oW cJ ho u.2)) := hD.rot
  refine ftI (A := A) (wc := rV cI hm b0 b1 b2 b3 ((th, nI n, sz), F9, mv, kp, li)) (wr := cV cI cJ h0 h1 h2 a0 a1 a2 a3 h3 a4 h4 a5 u.1 ++ oW cJ ho u.2) (rnV (As := []) (rest := []) S0 (c_X5_count l (A := va_A (rV cI hm b0 b1 b2 b3 ((th, nI n, sz), F9, mv, kp, li)) H.size) bd sd rt ps hBd hLen) wm_L_90 wi_X5_count ws_X5_count wn_X5 wc_X5_count hd_X5_count ⟨rfl, rfl, by decide, by decide⟩ IW.blind (va_recv hK hPr (ci := 4) (q0 := 0) rfl rfl) (IW.cut hPr hDr hK hA hE hS) hl.1 (Nat.le_of_ble_eq_true rfl) dL_law_271 rfl ⟨by show cells + 1 + 0 ≤ 600128; omega, by show slots + 6 + 0 ≤ 7301098; omega⟩) hPr hDr hA hS (fun r v H locs hv hP hD hS => ?_)
  obtain ⟨rfl, hag, hLI⟩ := hv
  have hP : va_P D classes ((cV cI cJ h0 h1 h2 a0 a1 a2 a3 h3 a4 h4 a5 u.1 ++ oW cJ ho u.2) ++ rV cI hm b0 b1 b2 b3 ((nI (ndN bd sd), nI n, nI (szN bd sd rt ps)), v.1, mv, kp, v.2)) H := hP.rot
  have hD : va_D A ((cV cI cJ h0 h1 h2 a0 a1 a2 a3 h3 a4 h4 a5 u.1 ++ oW cJ ho u.2) ++ rV cI hm b0 b1 b2 b3 ((nI (ndN bd sd), nI n, nI (szN bd sd rt ps)), v.1, mv, kp, v.2)) := hD.rot
  refine lv_istore (lv' := [(6, .int (nI (szN bd sd rt ps))), (5, .int (nI (ndN bd sd))), (0, .ref b), (1, .ref h0), (2, .ref hm), (3, .ref ho), (4, .int (nI i))]) hx hb dL_law_274 hl (by decide) rfl (fun ls hl => ?_)
  refine lv_aload_n hx hb dL_law_276 rfl (lv_at hl 4 rfl) ?_
  have hPr : va_P D classes (rV cI hm b0 b1 b2 b3 ((nI (ndN bd sd), nI n, nI (szN bd sd rt ps)), v.1, mv, kp, v.2) ++ (cV cI cJ h0 h1 h2 a0 a1 a2 a3 h3 a4 h4 a5 u.1 ++ oW cJ ho u.2)) H := hP.rot
  have hDr : va_D A (rV cI hm b0 b1 b2 b3 ((nI (ndN bd sd), nI n, nI (szN bd sd rt ps)), v.1, mv, kp, v.2) ++ (cV cI cJ h0 h1 h2 a0 a1 a2 a3 h3 a4 h4 a5 u.1 ++ oW cJ ho u.2)) := hD.rot
  refine roI (rnV (As := []) (rest := []) S0 (c_X5_thrown l (A := va_A (rV cI hm b0 b1 b2 b3 ((nI (ndN bd sd), nI n, nI (szN bd sd rt ps)), v.1, mv, kp, v.2)) H.size) ) wm_L_76 wi_X5_thrown ws_X5_thrown wn_X5 wc_X5_thrown hd_X5_thrown ⟨rfl, rfl, by decide, by decide⟩ IW.blind (va_recv hK hPr (ci := 4) (q0 := 0) rfl rfl) (IW.cut hPr hDr hK hA hE hS) hl.1 (Nat.le_of_ble_eq_true rfl) dL_law_277 rfl ⟨by show cells + 1 + 0 ≤ 600128; omega, by show slots + 6 + 0 ≤ 7301098; omega⟩) (fun r_277 hr_277 => ?_)
  subst hr_277
  refine lv_iload hx hb dL_law_280 (lv_at hl 1 rfl) ?_
  refine lv_icmp_eq (tgt := 287) hx hb dL_law_282 (by decide) (fun _ => ?_) (fun z9 => absurd rfl z9)
  refine lv_iload hx hb dL_law_287 (lv_at hl 1 rfl) ?_
  have hji := (show JI u.1 ((nI (ndN bd sd), nI n, nI (szN bd sd rt ps)), v.1, mv, kp, v.2) from ⟨bd, sd, rt, ps, n, hn, hI1, Bd_ag hBd hag, rfl, hH.kp hK1⟩)
  refine ln_if_ne (tgt := 304) hx hb dL_law_289 (by decide) (cd_nd bd sd) (fun _ => ?_) (fun k0 => ?_)
  · skip
    refine lv_goto (tgt := 827) hx hb dL_law_304 (by decide) ?_
    exact kk u.1 ((nI (ndN bd sd), nI n, nI (szN bd sd rt ps)), v.1, mv, kp, v.2) u.2 _ _ _ hji hP hD hS (lv_sub hl [2, 3, 4, 5, 6] rfl)
  · skip
    refine lv_aload_n hx hb dL_law_292 rfl (lv_at hl 5 rfl) ?_
    refine lv_iconst (v := nI 0) hx hb dL_law_293 (by decide) ?_
    refine va_lald hx hb hK hP 11 1 rfl rfl (vp_in_nI (by decide) (by decide)) dL_law_294 ?_
    refine W.top (y := .long (u.2 0)) (congrArg (fun z => Value.long (u.2 z)) (nI_clamp (by decide))) ?_
    refine lv_iload hx hb dL_law_295 (lv_at hl 0 rfl) ?_
    refine lv_i2l hx hb dL_law_297 rfl ?_
    refine W.lcmp hx hb dL_law_298 ?_
    refine lc_if_eq (tgt := 304) hx hb dL_law_299 (by decide) (fun _ => ?_) (fun z9 => absurd (ho1 k0) z9)
    refine lv_goto (tgt := 827) hx hb dL_law_304 (by decide) ?_
    exact kk u.1 ((nI (ndN bd sd), nI n, nI (szN bd sd rt ps)), v.1, mv, kp, v.2) u.2 _ _ _ hji hP hD hS (lv_sub hl [2, 3, 4, 5, 6] rfl)
set_option maxHeartbeats 4000000 in
set_option maxRecDepth 100000 in
theorem law_6 {p : Program} {l : Launch} {e : Env} {s : State} {m : MethodId} {below : List Frame} {meth : Method} {c : Code} {b L : Nat} {xs : Nat → Int32} {A : Nat → Prop} {D : va_G} {cI cJ : ClassId} {h0 h1 h2 a0 a1 a2 a3 h3 a4 h4 a5 ho hm b0 b1 b2 b3 : Nat} {H : Heap} {locs : List Loc} {cells slots : Nat} {Q : State → Prop} {ls : Array Slot} {i : Nat} (hF : LF p l s m meth c b L xs A D cI cJ) (hL : L ≤ 256) (hi : i + 4 ≤ L) (x : CS) (y : RS) (o : Nat → Int64) (hJ : JI x y) (hP : va_P D classes ((cV cI cJ h0 h1 h2 a0 a1 a2 a3 h3 a4 h4 a5 x ++ oW cJ ho o) ++ rV cI hm b0 b1 b2 b3 y) H) (hD : va_D A ((cV cI cJ h0 h1 h2 a0 a1 a2 a3 h3 a4 h4 a5 x ++ oW cJ ho o) ++ rV cI hm b0 b1 b2 b3 y)) (hS : va_S A s.heap H locs) (hc : cells + 1 ≤ 600128) (hs : slots + 6 ≤ 7301098) (hl : lv_has ls 8 [(0, .ref b), (1, .ref h0), (2, .ref hm), (3, .ref ho), (4, .int (nI i))]) (kk : ∀ (x : CS) (y : RS) (o : Nat → Int64) (H : Heap) (locs : List Loc) (ls : Array Slot), JI x y → va_P D classes ((cV cI cJ h0 h1 h2 a0 a1 a2 a3 h3 a4 h4 a5 x ++ oW cJ ho o) ++ rV cI hm b0 b1 b2 b3 y) H → va_D A ((cV cI cJ h0 h1 h2 a0 a1 a2 a3 h3 a4 h4 a5 x ++ oW cJ ho o) ++ rV cI hm b0 b1 b2 b3 y) → va_S A s.heap H locs → lv_has ls 8 [(0, .ref b), (1, .ref h0), (2, .ref hm), (3, .ref ho), (4, .int (nI i))] → W p l e room_1 s m #[Value.ref b] below meth c H locs (cells + 1) (slots + 6) Q (F0 m 827 ls [])) : W p l e room_1 s m #[Value.ref b] below meth c H locs cells slots Q (F0 m 307 ls []) := by
  obtain ⟨S0, hlocks, hK, hA, hE, hX, hScr, hbl, hbA, hlt⟩ := hF
  have hx := S0.1
  have hb := S0.2.1
  have hown := S0.2.2.2.1
  have hG : ∀ w ∈ wsL_law, w.before #[Value.ref b] s = true := fun w h => S0.2.2.2.2 w (List.mem_cons_of_mem _ h)
  obtain ⟨bd, sd, rt, ps, n, hn, hI, hBd, hmk, hH⟩ := hJ
  obtain ⟨⟨th, mk, sz⟩, F9, mv, kp, li⟩ := y
  dsimp only at hBd hmk hH
  subst hmk
  have hs2 := hBd.2.2.1
  have hr16 := hBd.2.2.2.2.1
  have hp65 := hBd.2.2.2.2.2.2
  have hb9 := hBd.lt
  have hLen : plb bd sd = true → (legs bd sd rt ps).length ≤ 1024 := fun _ => Nat.le_trans (len_ok bd sd rt ps hb9 hs2 hp65) (by decide)
  have hP : va_P D classes ((cV cI cJ h0 h1 h2 a0 a1 a2 a3 h3 a4 h4 a5 x ++ oW cJ ho o) ++ rV cI hm b0 b1 b2 b3 ((th, nI n, sz), F9, mv, kp, li)) H := hP
  have hD : va_D A ((cV cI cJ h0 h1 h2 a0 a1 a2 a3 h3 a4 h4 a5 x ++ oW cJ ho o) ++ rV cI hm b0 b1 b2 b3 ((th, nI n, sz), F9, mv, kp, li)) := hD
  refine lv_aload_n hx hb dL_law_307 rfl (lv_at hl 1 rfl) ?_
  refine lv_aload_n hx hb dL_law_308 rfl (lv_at hl 0 rfl) ?_
  refine lv_iload hx hb dL_law_309 (lv_at hl 4 rfl) ?_
  refine lv_iconst (v := nI 1) hx hb dL_law_311 (by decide) ?_
  refine ln_iadd hx hb dL_law_312 ?_
  refine va_sld hx hb hScr hbl hbA hS (vp_in_nI (by omega) (by omega)) dL_law_313 ?_
  refine W.top (y := .int (xs (i + 1))) (congrArg (fun z => Value.int (xs z)) (nI_clamp (by omega))) ?_
  refine lv_aload_n hx hb dL_law_314 rfl (lv_at hl 3 rfl) ?_
  refine ftI (A := A) (wc := cV cI cJ h0 h1 h2 a0 a1 a2 a3 h3 a4 h4 a5 x ++ oW cJ ho o) (wr := rV cI hm b0 b1 b2 b3 ((th, nI n, sz), F9, mv, kp, li)) (rnSH (As := [.ref h0, .int (xs (i + 1)), .ref ho]) (rest := []) S0 (c_L_move l hlt (A := va_A (cV cI cJ h0 h1 h2 a0 a1 a2 a3 h3 a4 h4 a5 x ++ oW cJ ho o) H.size) x o bd sd rt ps n hs2 hr16 hp65 hn hI (xs (i + 1))) wm_L_91 wt_L_move wn_L wc_L_move hd_L_move ⟨rfl, rfl, by decide, by decide⟩ XW.blind (XW.cut hP hD hK hA hE hX hS) hl.1 (Nat.le_of_ble_eq_true rfl) dL_law_315 rfl ⟨by show cells + 1 ≤ 600128; omega, by show slots + 6 ≤ 7301098; omega⟩) hP hD hA hS (fun r u H locs hu hP hD hS => ?_)
  have hP : va_P D classes ((cV cI cJ h0 h1 h2 a0 a1 a2 a3 h3 a4 h4 a5 u.1 ++ oW cJ ho u.2) ++ rV cI hm b0 b1 b2 b3 ((th, nI n, sz), F9, mv, kp, li)) H := hP
  have hD : va_D A ((cV cI cJ h0 h1 h2 a0 a1 a2 a3 h3 a4 h4 a5 u.1 ++ oW cJ ho u.2) ++ rV cI hm b0 b1 b2 b3 ((th, nI n, sz), F9, mv, kp, li)) := hD
  obtain ⟨rfl, hI1, hK1, ho1⟩ := hu
  refine lv_istore (lv' := [(5, .int (nI (mvc bd sd rt ps (xs (i + 1))))), (0, .ref b), (1, .ref h0), (2, .ref hm), (3, .ref ho), (4, .int (nI i))]) hx hb dL_law_318 hl (by decide) rfl (fun ls hl => ?_)
  refine lv_aload_n hx hb dL_law_320 rfl (lv_at hl 3 rfl) ?_
  refine lv_aload_n hx hb dL_law_321 rfl (lv_at hl 1 rfl) ?_
  refine lv_iload hx hb dL_law_322 (lv_at hl 5 rfl) ?_
  refine lv_iconst (v := nI 1) hx hb dL_law_324 (by decide) ?_
  refine ln_iadd hx hb dL_law_325 ?_
  refine va_sld hx hb hScr hbl hbA hS (vp_in_nI (by omega) (by omega)) dL_law_326 ?_
  refine W.top (y := .int (xs (i + 1))) (congrArg (fun z => Value.int (xs z)) (nI_clamp (by omega))) ?_
  have hPr : va_P D classes (rV cI hm b0 b1 b2 b3 ((th, nI n, sz), F9, mv, kp, li) ++ (cV cI cJ h0 h1 h2 a0 a1 a2 a3 h3 a4 h4 a5 u.1 ++ oW cJ ho u.2)) H := hP.rot
  have hDr : va_D A (rV cI hm b0 b1 b2 b3 ((th, nI n, sz), F9, mv, kp, li) ++ (cV cI cJ h0 h1 h2 a0 a1 a2 a3 h3 a4 h4 a5 u.1 ++ oW cJ ho u.2)) := hD.rot
  refine ftI (A := A) (wc := rV cI hm b0 b1 b2 b3 ((th, nI n, sz), F9, mv, kp, li)) (wr := cV cI cJ h0 h1 h2 a0 a1 a2 a3 h3 a4 h4 a5 u.1 ++ oW cJ ho u.2) (rnV (As := [.int (xs (i + 1))]) (rest := []) S0 (c_X5_move l (A := va_A (rV cI hm b0 b1 b2 b3 ((th, nI n, sz), F9, mv, kp, li)) H.size) bd sd rt ps hBd hLen (xs (i + 1))) wm_L_94 wi_X5_move ws_X5_move wn_X5 wc_X5_move hd_X5_move ⟨rfl, rfl, by decide, by decide⟩ IW.blind (va_recv hK hPr (ci := 4) (q0 := 0) rfl rfl) (IW.cut hPr hDr hK hA hE hS) hl.1 (Nat.le_of_ble_eq_true rfl) dL_law_327 rfl ⟨by show cells + 1 + 0 ≤ 600128; omega, by show slots + 6 + 0 ≤ 7301098; omega⟩) hPr hDr hA hS (fun r v H locs hv hP hD hS => ?_)
  obtain ⟨rfl, hag, hLI⟩ := hv
  have hP : va_P D classes ((cV cI cJ h0 h1 h2 a0 a1 a2 a3 h3 a4 h4 a5 u.1 ++ oW cJ ho u.2) ++ rV cI hm b0 b1 b2 b3 ((nI (mvc bd sd rt ps (xs (i + 1))), nI n, nI (szN bd sd rt ps)), v.1, mv, kp, v.2)) H := hP.rot
  have hD : va_D A ((cV cI cJ h0 h1 h2 a0 a1 a2 a3 h3 a4 h4 a5 u.1 ++ oW cJ ho u.2) ++ rV cI hm b0 b1 b2 b3 ((nI (mvc bd sd rt ps (xs (i + 1))), nI n, nI (szN bd sd rt ps)), v.1, mv, kp, v.2)) := hD.rot
  refine lv_istore (lv' := [(6, .int (if mvc bd sd rt ps (xs (i + 1)) = 0 then nI ((lgs bd sd rt ps).getD (xs (i + 1)).toNatClampNeg 0) else nI 0)), (5, .int (nI (mvc bd sd rt ps (xs (i + 1))))), (0, .ref b), (1, .ref h0), (2, .ref hm), (3, .ref ho), (4, .int (nI i))]) hx hb dL_law_330 hl (by decide) rfl (fun ls hl => ?_)
  refine lv_aload_n hx hb dL_law_332 rfl (lv_at hl 4 rfl) ?_
  have hPr : va_P D classes (rV cI hm b0 b1 b2 b3 ((nI (mvc bd sd rt ps (xs (i + 1))), nI n, nI (szN bd sd rt ps)), v.1, mv, kp, v.2) ++ (cV cI cJ h0 h1 h2 a0 a1 a2 a3 h3 a4 h4 a5 u.1 ++ oW cJ ho u.2)) H := hP.rot
  have hDr : va_D A (rV cI hm b0 b1 b2 b3 ((nI (mvc bd sd rt ps (xs (i + 1))), nI n, nI (szN bd sd rt ps)), v.1, mv, kp, v.2) ++ (cV cI cJ h0 h1 h2 a0 a1 a2 a3 h3 a4 h4 a5 u.1 ++ oW cJ ho u.2)) := hD.rot
  refine roI (rnV (As := []) (rest := []) S0 (c_X5_thrown l (A := va_A (rV cI hm b0 b1 b2 b3 ((nI (mvc bd sd rt ps (xs (i + 1))), nI n, nI (szN bd sd rt ps)), v.1, mv, kp, v.2)) H.size) ) wm_L_76 wi_X5_thrown ws_X5_thrown wn_X5 wc_X5_thrown hd_X5_thrown ⟨rfl, rfl, by decide, by decide⟩ IW.blind (va_recv hK hPr (ci := 4) (q0 := 0) rfl rfl) (IW.cut hPr hDr hK hA hE hS) hl.1 (Nat.le_of_ble_eq_true rfl) dL_law_333 rfl ⟨by show cells + 1 + 0 ≤ 600128; omega, by show slots + 6 + 0 ≤ 7301098; omega⟩) (fun r_333 hr_333 => ?_)
  subst hr_333
  refine lv_iload hx hb dL_law_336 (lv_at hl 1 rfl) ?_
  refine lv_icmp_eq (tgt := 343) hx hb dL_law_338 (by decide) (fun _ => ?_) (fun z9 => absurd rfl z9)
  refine lv_iload hx hb dL_law_343 (lv_at hl 1 rfl) ?_
  have hji := (show JI u.1 ((nI (mvc bd sd rt ps (xs (i + 1))), nI n, nI (szN bd sd rt ps)), v.1, mv, kp, v.2) from ⟨bd, sd, rt, ps, n, hn, hI1, Bd_ag hBd hag, rfl, hH.kp hK1⟩)
  refine ln_if_ne (tgt := 360) hx hb dL_law_345 (by decide) (cd_mv bd sd rt ps (xs (i + 1))) (fun _ => ?_) (fun k0 => ?_)
  · skip
    refine lv_goto (tgt := 827) hx hb dL_law_360 (by decide) ?_
    exact kk u.1 ((nI (mvc bd sd rt ps (xs (i + 1))), nI n, nI (szN bd sd rt ps)), v.1, mv, kp, v.2) u.2 _ _ _ hji hP hD hS (lv_sub hl [2, 3, 4, 5, 6] rfl)
  · skip
    refine lv_aload_n hx hb dL_law_348 rfl (lv_at hl 5 rfl) ?_
    refine lv_iconst (v := nI 0) hx hb dL_law_349 (by decide) ?_
    refine va_lald hx hb hK hP 11 1 rfl rfl (vp_in_nI (by decide) (by decide)) dL_law_350 ?_
    refine W.top (y := .long (u.2 0)) (congrArg (fun z => Value.long (u.2 z)) (nI_clamp (by decide))) ?_
    refine lv_iload hx hb dL_law_351 (lv_at hl 0 rfl) ?_
    refine lv_i2l hx hb dL_law_353 rfl ?_
    refine W.lcmp hx hb dL_law_354 ?_
    refine lc_if_eq (tgt := 360) hx hb dL_law_355 (by decide) (fun _ => ?_) (fun z9 => absurd ((ho1 k0).trans (by rw [if_pos k0])) z9)
    refine lv_goto (tgt := 827) hx hb dL_law_360 (by decide) ?_
    exact kk u.1 ((nI (mvc bd sd rt ps (xs (i + 1))), nI n, nI (szN bd sd rt ps)), v.1, mv, kp, v.2) u.2 _ _ _ hji hP hD hS (lv_sub hl [2, 3, 4, 5, 6] rfl)
set_option maxHeartbeats 4000000 in
set_option maxRecDepth 100000 in
theorem law_7 {p : Program} {l : Launch} {e : Env} {s : State} {m : MethodId} {below : List Frame} {meth : Method} {c : Code} {b L : Nat} {xs : Nat → Int32} {A : Nat → Prop} {D : va_G} {cI cJ : ClassId} {h0 h1 h2 a0 a1 a2 a3 h3 a4 h4 a5 ho hm b0 b1 b2 b3 : Nat} {H : Heap} {locs : List Loc} {cells slots : Nat} {Q : State → Prop} {ls : Array Slot} {i : Nat} (hF : LF p l s m meth c b L xs A D cI cJ) (hL : L ≤ 256) (hi : i + 4 ≤ L) (x : CS) (y : RS) (o : Nat → Int64) (hJ : JI x y) (hP : va_P D classes ((cV cI cJ h0 h1 h2 a0 a1 a2 a3 h3 a4 h4 a5 x ++ oW cJ ho o) ++ rV cI hm b0 b1 b2 b3 y) H) (hD : va_D A ((cV cI cJ h0 h1 h2 a0 a1 a2 a3 h3 a4 h4 a5 x ++ oW cJ ho o) ++ rV cI hm b0 b1 b2 b3 y)) (hS : va_S A s.heap H locs) (hc : cells + 1 ≤ 600128) (hs : slots + 6 ≤ 7301098) (hl : lv_has ls 8 [(0, .ref b), (1, .ref h0), (2, .ref hm), (3, .ref ho), (4, .int (nI i))]) (kk : ∀ (x : CS) (y : RS) (o : Nat → Int64) (H : Heap) (locs : List Loc) (ls : Array Slot), JI x y → va_P D classes ((cV cI cJ h0 h1 h2 a0 a1 a2 a3 h3 a4 h4 a5 x ++ oW cJ ho o) ++ rV cI hm b0 b1 b2 b3 y) H → va_D A ((cV cI cJ h0 h1 h2 a0 a1 a2 a3 h3 a4 h4 a5 x ++ oW cJ ho o) ++ rV cI hm b0 b1 b2 b3 y) → va_S A s.heap H locs → lv_has ls 8 [(0, .ref b), (1, .ref h0), (2, .ref hm), (3, .ref ho), (4, .int (nI i))] → W p l e room_1 s m #[Value.ref b] below meth c H locs (cells + 1) (slots + 6) Q (F0 m 827 ls [])) : W p l e room_1 s m #[Value.ref b] below meth c H locs cells slots Q (F0 m 363 ls []) := by
  obtain ⟨S0, hlocks, hK, hA, hE, hX, hScr, hbl, hbA, hlt⟩ := hF
  have hx := S0.1
  have hb := S0.2.1
  have hown := S0.2.2.2.1
  have hG : ∀ w ∈ wsL_law, w.before #[Value.ref b] s = true := fun w h => S0.2.2.2.2 w (List.mem_cons_of_mem _ h)
  obtain ⟨bd, sd, rt, ps, n, hn, hI, hBd, hmk, hH⟩ := hJ
  obtain ⟨⟨th, mk, sz⟩, F9, mv, kp, li⟩ := y
  dsimp only at hBd hmk hH
  subst hmk
  have hs2 := hBd.2.2.1
  have hr16 := hBd.2.2.2.2.1
  have hp65 := hBd.2.2.2.2.2.2
  have hb9 := hBd.lt
  have hLen : plb bd sd = true → (legs bd sd rt ps).length ≤ 1024 := fun _ => Nat.le_trans (len_ok bd sd rt ps hb9 hs2 hp65) (by decide)
  have hP : va_P D classes ((cV cI cJ h0 h1 h2 a0 a1 a2 a3 h3 a4 h4 a5 x ++ oW cJ ho o) ++ rV cI hm b0 b1 b2 b3 ((th, nI n, sz), F9, mv, kp, li)) H := hP
  have hD : va_D A ((cV cI cJ h0 h1 h2 a0 a1 a2 a3 h3 a4 h4 a5 x ++ oW cJ ho o) ++ rV cI hm b0 b1 b2 b3 ((th, nI n, sz), F9, mv, kp, li)) := hD
  refine lv_aload_n hx hb dL_law_363 rfl (lv_at hl 1 rfl) ?_
  refine lv_aload_n hx hb dL_law_364 rfl (lv_at hl 0 rfl) ?_
  refine lv_iload hx hb dL_law_365 (lv_at hl 4 rfl) ?_
  refine lv_iconst (v := nI 1) hx hb dL_law_367 (by decide) ?_
  refine ln_iadd hx hb dL_law_368 ?_
  refine va_sld hx hb hScr hbl hbA hS (vp_in_nI (by omega) (by omega)) dL_law_369 ?_
  refine W.top (y := .int (xs (i + 1))) (congrArg (fun z => Value.int (xs z)) (nI_clamp (by omega))) ?_
  refine lv_aload_n hx hb dL_law_370 rfl (lv_at hl 3 rfl) ?_
  refine ftI (A := A) (wc := cV cI cJ h0 h1 h2 a0 a1 a2 a3 h3 a4 h4 a5 x ++ oW cJ ho o) (wr := rV cI hm b0 b1 b2 b3 ((th, nI n, sz), F9, mv, kp, li)) (rnSH (As := [.ref h0, .int (xs (i + 1)), .ref ho]) (rest := []) S0 (c_L_place l hlt (A := va_A (cV cI cJ h0 h1 h2 a0 a1 a2 a3 h3 a4 h4 a5 x ++ oW cJ ho o) H.size) x o bd sd rt ps n hs2 hr16 hp65 hn hI (xs (i + 1))) wm_L_95 wt_L_place wn_L wc_L_place hd_L_place ⟨rfl, rfl, by decide, by decide⟩ XW.blind (XW.cut hP hD hK hA hE hX hS) hl.1 (Nat.le_of_ble_eq_true rfl) dL_law_371 rfl ⟨by show cells + 1 ≤ 600128; omega, by show slots + 6 ≤ 7301098; omega⟩) hP hD hA hS (fun r u H locs hu hP hD hS => ?_)
  have hP : va_P D classes ((cV cI cJ h0 h1 h2 a0 a1 a2 a3 h3 a4 h4 a5 u.1 ++ oW cJ ho u.2) ++ rV cI hm b0 b1 b2 b3 ((th, nI n, sz), F9, mv, kp, li)) H := hP
  have hD : va_D A ((cV cI cJ h0 h1 h2 a0 a1 a2 a3 h3 a4 h4 a5 u.1 ++ oW cJ ho u.2) ++ rV cI hm b0 b1 b2 b3 ((th, nI n, sz), F9, mv, kp, li)) := hD
  obtain ⟨rfl, hI1, hK1, ho1⟩ := hu
  refine lv_istore (lv' := [(5, .int (nI (ndN bd sd))), (0, .ref b), (1, .ref h0), (2, .ref hm), (3, .ref ho), (4, .int (nI i))]) hx hb dL_law_374 hl (by decide) rfl (fun ls hl => ?_)
  refine lv_aload_n hx hb dL_law_376 rfl (lv_at hl 3 rfl) ?_
  refine lv_aload_n hx hb dL_law_377 rfl (lv_at hl 1 rfl) ?_
  refine lv_iload hx hb dL_law_378 (lv_at hl 5 rfl) ?_
  refine lv_iconst (v := nI 1) hx hb dL_law_380 (by decide) ?_
  refine ln_iadd hx hb dL_law_381 ?_
  refine va_sld hx hb hScr hbl hbA hS (vp_in_nI (by omega) (by omega)) dL_law_382 ?_
  refine W.top (y := .int (xs (i + 1))) (congrArg (fun z => Value.int (xs z)) (nI_clamp (by omega))) ?_
  have hPr : va_P D classes (rV cI hm b0 b1 b2 b3 ((th, nI n, sz), F9, mv, kp, li) ++ (cV cI cJ h0 h1 h2 a0 a1 a2 a3 h3 a4 h4 a5 u.1 ++ oW cJ ho u.2)) H := hP.rot
  have hDr : va_D A (rV cI hm b0 b1 b2 b3 ((th, nI n, sz), F9, mv, kp, li) ++ (cV cI cJ h0 h1 h2 a0 a1 a2 a3 h3 a4 h4 a5 u.1 ++ oW cJ ho u.2)) := hD.rot
  refine ftI (A := A) (wc := rV cI hm b0 b1 b2 b3 ((th, nI n, sz), F9, mv, kp, li)) (wr := cV cI cJ h0 h1 h2 a0 a1 a2 a3 h3 a4 h4 a5 u.1 ++ oW cJ ho u.2) (rnV (As := [.int (xs (i + 1))]) (rest := []) S0 (c_X5_place l (A := va_A (rV cI hm b0 b1 b2 b3 ((th, nI n, sz), F9, mv, kp, li)) H.size) bd sd rt ps hBd hLen (xs (i + 1))) wm_L_97 wi_X5_place ws_X5_place wn_X5 wc_X5_place hd_X5_place ⟨rfl, rfl, by decide, by decide⟩ IW.blind (va_recv hK hPr (ci := 4) (q0 := 0) rfl rfl) (IW.cut hPr hDr hK hA hE hS) hl.1 (Nat.le_of_ble_eq_true rfl) dL_law_383 rfl ⟨by show cells + 1 + 0 ≤ 600128; omega, by show slots + 6 + 0 ≤ 7301098; omega⟩) hPr hDr hA hS (fun r v H locs hv hP hD hS => ?_)
  obtain ⟨rfl, hag, hLI⟩ := hv
  have hP : va_P D classes ((cV cI cJ h0 h1 h2 a0 a1 a2 a3 h3 a4 h4 a5 u.1 ++ oW cJ ho u.2) ++ rV cI hm b0 b1 b2 b3 ((nI (ndN bd sd), nI n, nI (szN bd sd rt ps)), v.1, mv, kp, v.2)) H := hP.rot
  have hD : va_D A ((cV cI cJ h0 h1 h2 a0 a1 a2 a3 h3 a4 h4 a5 u.1 ++ oW cJ ho u.2) ++ rV cI hm b0 b1 b2 b3 ((nI (ndN bd sd), nI n, nI (szN bd sd rt ps)), v.1, mv, kp, v.2)) := hD.rot
  refine lv_istore (lv' := [(6, .int (if ndN bd sd = 0 then plc (lgs bd sd rt ps) (xs (i + 1)) (lgs bd sd rt ps).length else nI 0)), (5, .int (nI (ndN bd sd))), (0, .ref b), (1, .ref h0), (2, .ref hm), (3, .ref ho), (4, .int (nI i))]) hx hb dL_law_386 hl (by decide) rfl (fun ls hl => ?_)
  refine lv_aload_n hx hb dL_law_388 rfl (lv_at hl 4 rfl) ?_
  have hPr : va_P D classes (rV cI hm b0 b1 b2 b3 ((nI (ndN bd sd), nI n, nI (szN bd sd rt ps)), v.1, mv, kp, v.2) ++ (cV cI cJ h0 h1 h2 a0 a1 a2 a3 h3 a4 h4 a5 u.1 ++ oW cJ ho u.2)) H := hP.rot
  have hDr : va_D A (rV cI hm b0 b1 b2 b3 ((nI (ndN bd sd), nI n, nI (szN bd sd rt ps)), v.1, mv, kp, v.2) ++ (cV cI cJ h0 h1 h2 a0 a1 a2 a3 h3 a4 h4 a5 u.1 ++ oW cJ ho u.2)) := hD.rot
  refine roI (rnV (As := []) (rest := []) S0 (c_X5_thrown l (A := va_A (rV cI hm b0 b1 b2 b3 ((nI (ndN bd sd), nI n, nI (szN bd sd rt ps)), v.1, mv, kp, v.2)) H.size) ) wm_L_76 wi_X5_thrown ws_X5_thrown wn_X5 wc_X5_thrown hd_X5_thrown ⟨rfl, rfl, by decide, by decide⟩ IW.blind (va_recv hK hPr (ci := 4) (q0 := 0) rfl rfl) (IW.cut hPr hDr hK hA hE hS) hl.1 (Nat.le_of_ble_eq_true rfl) dL_law_389 rfl ⟨by show cells + 1 + 0 ≤ 600128; omega, by show slots + 6 + 0 ≤ 7301098; omega⟩) (fun r_389 hr_389 => ?_)
  subst hr_389
  refine lv_iload hx hb dL_law_392 (lv_at hl 1 rfl) ?_
  refine lv_icmp_eq (tgt := 399) hx hb dL_law_394 (by decide) (fun _ => ?_) (fun z9 => absurd rfl z9)
  refine lv_iload hx hb dL_law_399 (lv_at hl 1 rfl) ?_
  have hji := (show JI u.1 ((nI (ndN bd sd), nI n, nI (szN bd sd rt ps)), v.1, mv, kp, v.2) from ⟨bd, sd, rt, ps, n, hn, hI1, Bd_ag hBd hag, rfl, hH.kp hK1⟩)
  refine ln_if_ne (tgt := 416) hx hb dL_law_401 (by decide) (cd_nd bd sd) (fun _ => ?_) (fun k0 => ?_)
  · skip
    refine lv_goto (tgt := 827) hx hb dL_law_416 (by decide) ?_
    exact kk u.1 ((nI (ndN bd sd), nI n, nI (szN bd sd rt ps)), v.1, mv, kp, v.2) u.2 _ _ _ hji hP hD hS (lv_sub hl [2, 3, 4, 5, 6] rfl)
  · skip
    refine lv_aload_n hx hb dL_law_404 rfl (lv_at hl 5 rfl) ?_
    refine lv_iconst (v := nI 0) hx hb dL_law_405 (by decide) ?_
    refine va_lald hx hb hK hP 11 1 rfl rfl (vp_in_nI (by decide) (by decide)) dL_law_406 ?_
    refine W.top (y := .long (u.2 0)) (congrArg (fun z => Value.long (u.2 z)) (nI_clamp (by decide))) ?_
    refine lv_iload hx hb dL_law_407 (lv_at hl 0 rfl) ?_
    refine lv_i2l hx hb dL_law_409 rfl ?_
    refine W.lcmp hx hb dL_law_410 ?_
    refine lc_if_eq (tgt := 416) hx hb dL_law_411 (by decide) (fun _ => ?_) (fun z9 => absurd ((ho1 k0).trans (by rw [if_pos k0])) z9)
    refine lv_goto (tgt := 827) hx hb dL_law_416 (by decide) ?_
    exact kk u.1 ((nI (ndN bd sd), nI n, nI (szN bd sd rt ps)), v.1, mv, kp, v.2) u.2 _ _ _ hji hP hD hS (lv_sub hl [2, 3, 4, 5, 6] rfl)

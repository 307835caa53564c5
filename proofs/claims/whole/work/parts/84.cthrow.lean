set_option maxHeartbeats 4000000 in
set_option maxRecDepth 100000 in
/-- needList throws -/
theorem x_X4_needList (l : Launch) (hlt : l.stackTraces = false) {D : va_G} {cI cJ : ClassId} {A : Nat → Prop} {h0 h1 h2 a0 a1 a2 a3 h3 a4 h4 a5 : Nat} {ow tr fu kg co pn : Int64} {ma : Int32} {pcs : Nat → Int32} {sqa : Nat → Int64} {mvs los : Nat → Int32} {lsz : Int32} {lfs : Nat → Int32} {asz : Int32} {afs : Nat → Int32} (bd : Nat → Nat) (hCP : CP pcs sqa bd) (sd rt ps : Nat) (hs2 : sd < 2) (hr16 : rt < 16) (hp65 : ps < 65) (kb ob : Bool) (hKL : KLp kb ob lsz lfs bd sd rt ps) (hpl : cbp bd sd = false) : vx_Met l yX4_needList (Cond.code yX4_needList cX4_needList 1 none :: wsL_law) (rX 6) (va_Pc [.ref h0] (XW D cI cJ A (cW cI cJ h0 h1 h2 a0 a1 a2 a3 h3 a4 h4 a5 (bI kb) (bI ob) ow tr fu kg co pn (nI sd) (nI rt) (pI ps) ma pcs sqa mvs los lsz lfs asz afs))) noQ (xQ D A nISE (fun _ => True) (fun (u : Int32) => cW cI cJ h0 h1 h2 a0 a1 a2 a3 h3 a4 h4 a5 (bI true) (bI false) ow tr fu kg co pn (nI sd) (nI rt) (pI ps) ma pcs sqa mvs los u lfs asz afs)) 1 6 A := by
  refine entX (by decide) (Nat.le_of_ble_eq_true rfl) ?_
  intro p e s m below meth c ls S0 hlocks hG hno hB hl
  have hx := S0.1
  have hb := S0.2.1
  have hown := S0.2.2.2.1
  have hl : lv_has ls 1 [(0, .ref h0)] := hl
  obtain ⟨⟨hP, hD, hK, hA, hE⟩, hX⟩ := hB
  have hS : va_S A s.heap s.heap [] := va_S.rf
  refine lv_aload_n hx hb dX4_needList_0 rfl (lv_at hl 0 rfl) ?_
  refine va_get (D := D) (ci := 3) (v := .int (bI kb)) (C := RX4) (T := TX4) (N := 6) hx hb hG wu_X4 hown hK hP 0 rfl rfl 4 (by decide) (hG _ wf_X4_31) (fun _ h9 => h9) rfl dX4_needList_1 ?_
  refine jnW (σ := (Int32)) (D := D) (A := A) (H0 := s.heap) 49 1 (fun x9 => [(0, .ref h0)]) [] (fun x9 => cW cI cJ h0 h1 h2 a0 a1 a2 a3 h3 a4 h4 a5 (bI true) (bI false) ow tr fu kg co pn (nI sd) (nI rt) (pI ps) ma pcs sqa mvs los x9 lfs asz afs) (fun x9 => True) ?_ (fun hj_49 => ?_)
  · clear hP hD hS
    try clear hl
    try clear ls
    rintro z9 H locs hI hP hD hS ls hl
    try dsimp only at hI hP hD hl
    refine lv_aload_n hx hb dX4_needList_49 rfl (lv_at hl 0 rfl) ?_
    refine va_get (D := D) (ci := 3) (v := .int (bI false)) (C := RX4) (T := TX4) (N := 6) hx hb hG wu_X4 hown hK hP 0 rfl rfl 5 (by decide) (hG _ wf_X4_35) (fun _ h9 => h9) rfl dX4_needList_50 ?_
    refine lb_if_ne (tgt := 66) hx hb dX4_needList_53 (by decide) (fun c53 => ?_) (fun c53 => ?_)
    · skip
      exact absurd c53 (by decide)
    · skip
      exact thX (text := _) (u := z9) hlt S0 hno hlocks (by decide +kernel) (hG _ wl_X4_157) (hG _ wn_java_lang_IllegalStateException) hX.s159 (hat3 hG hX) gx3 hE hS hl.1 dX4_needList_56 dX4_needList_59 dX4_needList_60 dX4_needList_62 dX4_needList_65 ⟨by decide, by decide, by decide, by decide⟩ trivial hP hD
  · skip
    refine lb_if_ne (tgt := 49) hx hb dX4_needList_4 (by decide) (fun c4 => ?_) (fun c4 => ?_)
    · skip
      obtain ⟨ho, -⟩ := hKL c4
      rw [hpl] at ho
      rw [c4, ho] at hP hD
      exact hj_49 lsz _ _ trivial hP hD hS ls (lv_sub hl [0] rfl)
    · skip
      refine lv_aload_n hx hb dX4_needList_7 rfl (lv_at hl 0 rfl) ?_
      refine lv_aload_n hx hb dX4_needList_8 rfl (lv_at hl 0 rfl) ?_
      refine va_get (D := D) (ci := 3) (v := .ref h2) (C := RX4) (T := TX4) (N := 6) hx hb hG wu_X4 hown hK hP 0 rfl rfl 1 (by decide) (hG _ wf_X4_20) (fun _ h9 => h9) rfl dX4_needList_9 ?_
      refine roI (rnV (As := []) (rest := [.ref h0]) S0 (c_X2_canBePlayed l bd hCP sd hs2) wm_X4_88 wi_X2_canBePlayed ws_X2_canBePlayed wn_X2 wc_X2_canBePlayed hd_X2_canBePlayed ⟨rfl, rfl, by decide, by decide⟩ IW.blind (va_recv hK hP (ci := 1) (q0 := 2) rfl rfl) (IW.at hP hD hK hA hE hS) hl.1 (Nat.le_of_ble_eq_true rfl) dX4_needList_12 rfl ⟨by decide, by decide⟩) (fun r_1 hr_1 => ?_)
      subst hr_1
      refine W.top (y := .int (bI false)) (congrArg Value.int (congrArg bI hpl)) ?_
      refine va_put (D := D) (ci := 3) (v := .int (bI false)) (ty := .boolean) (C := RX4) (T := TX4) (N := 6) hx hb hG wu_X4 tyX4 tyX4_ok nmX4 hown hK hP hD hS 0 rfl rfl 5 (by decide) (hG _ wf_X4_35) (fun _ h9 => h9) rfl (by decide +kernel) rfl rfl (Nat.le_of_ble_eq_true rfl) dX4_needList_15 (fun H locs hP hD hS => ?_)
      have hP : va_P D classes (cW cI cJ h0 h1 h2 a0 a1 a2 a3 h3 a4 h4 a5 (bI kb) (bI false) ow tr fu kg co pn (nI sd) (nI rt) (pI ps) ma pcs sqa mvs los lsz lfs asz afs) H := hP
      have hD : va_D A (cW cI cJ h0 h1 h2 a0 a1 a2 a3 h3 a4 h4 a5 (bI kb) (bI false) ow tr fu kg co pn (nI sd) (nI rt) (pI ps) ma pcs sqa mvs los lsz lfs asz afs) := hD
      refine lv_aload_n hx hb dX4_needList_18 rfl (lv_at hl 0 rfl) ?_
      refine va_get (D := D) (ci := 3) (v := .ref h3) (C := RX4) (T := TX4) (N := 6) hx hb hG wu_X4 hown hK hP 0 rfl rfl 2 (by decide) (hG _ wf_X4_24) (fun _ h9 => h9) rfl dX4_needList_19 ?_
      refine lv_iconst (v := (nI 0)) hx hb dX4_needList_22 (by decide) ?_
      refine va_put (D := D) (ci := 0) (v := .int (nI 0)) (ty := .int) (C := RX1) (T := TX1) (N := 2) hx hb hG wu_X1 tyX1 tyX1_ok nmX1 hown hK hP hD hS 7 rfl rfl 1 (by decide) (hG _ wf_X4_95) (fun _ h9 => h9) rfl (by decide +kernel) rfl rfl (Nat.le_of_ble_eq_true rfl) dX4_needList_23 (fun H locs hP hD hS => ?_)
      have hP : va_P D classes (cW cI cJ h0 h1 h2 a0 a1 a2 a3 h3 a4 h4 a5 (bI kb) (bI false) ow tr fu kg co pn (nI sd) (nI rt) (pI ps) ma pcs sqa mvs los (nI 0) lfs asz afs) H := hP
      have hD : va_D A (cW cI cJ h0 h1 h2 a0 a1 a2 a3 h3 a4 h4 a5 (bI kb) (bI false) ow tr fu kg co pn (nI sd) (nI rt) (pI ps) ma pcs sqa mvs los (nI 0) lfs asz afs) := hD
      refine lv_aload_n hx hb dX4_needList_26 rfl (lv_at hl 0 rfl) ?_
      refine va_get (D := D) (ci := 3) (v := .int (bI false)) (C := RX4) (T := TX4) (N := 6) hx hb hG wu_X4 hown hK hP 0 rfl rfl 5 (by decide) (hG _ wf_X4_35) (fun _ h9 => h9) rfl dX4_needList_27 ?_
      refine lb_if_eq (tgt := 44) hx hb dX4_needList_30 (by decide) (fun c30 => ?_) (fun c30 => ?_)
      · skip
        refine lv_aload_n hx hb dX4_needList_44 rfl (lv_at hl 0 rfl) ?_
        refine lv_iconst (v := (nI 1)) hx hb dX4_needList_45 (by decide) ?_
        refine va_put (D := D) (ci := 3) (v := .int (bI true)) (ty := .boolean) (C := RX4) (T := TX4) (N := 6) hx hb hG wu_X4 tyX4 tyX4_ok nmX4 hown hK hP hD hS 0 rfl rfl 4 (by decide) (hG _ wf_X4_31) (fun _ h9 => h9) rfl (by decide +kernel) rfl rfl (Nat.le_of_ble_eq_true rfl) dX4_needList_46 (fun H locs hP hD hS => ?_)
        have hP : va_P D classes (cW cI cJ h0 h1 h2 a0 a1 a2 a3 h3 a4 h4 a5 (bI true) (bI false) ow tr fu kg co pn (nI sd) (nI rt) (pI ps) ma pcs sqa mvs los (nI 0) lfs asz afs) H := hP
        have hD : va_D A (cW cI cJ h0 h1 h2 a0 a1 a2 a3 h3 a4 h4 a5 (bI true) (bI false) ow tr fu kg co pn (nI sd) (nI rt) (pI ps) ma pcs sqa mvs los (nI 0) lfs asz afs) := hD
        exact hj_49 (nI 0) _ _ trivial hP hD hS ls (lv_sub hl [0] rfl)
      · skip
        exact absurd c30 (by decide)
/-- .. and so does whoever asks for the list first -/
theorem nlX (l : Launch) (hlt : l.stackTraces = false) {D : va_G} {cI cJ : ClassId} {A : Nat → Prop} {h0 h1 h2 a0 a1 a2 a3 h3 a4 h4 a5 : Nat} {ow tr fu kg co pn : Int64} {ma : Int32} {pcs : Nat → Int32} {sqa : Nat → Int64} {mvs los : Nat → Int32} {lsz : Int32} {lfs : Nat → Int32} {asz : Int32} {afs : Nat → Int32} (bd : Nat → Nat) (hCP : CP pcs sqa bd) (sd rt ps : Nat) (hs2 : sd < 2) (hr16 : rt < 16) (hp65 : ps < 65) (kb ob : Bool) (hKL : KLp kb ob lsz lfs bd sd rt ps) (hpl : cbp bd sd = false) {y : MethodName} {cc : ByteArray} {maxL : Nat} {ret : Option FieldType} {As : List Value} (hy : plainName y.cls = true) (hn : (lg_sl (.ref h0 :: As)).length ≤ maxL) (hcls : y.cls = RX4) (d0 : decode cc 0 = .ok (.aload_n 0, 1)) (d1 : decode cc 1 = .ok (.invokevirtual 92, 3)) : vx_Met l y (Cond.code y cc maxL ret :: wsL_law) (rX 7) (va_Pc (.ref h0 :: As) (XW D cI cJ A (cW cI cJ h0 h1 h2 a0 a1 a2 a3 h3 a4 h4 a5 (bI kb) (bI ob) ow tr fu kg co pn (nI sd) (nI rt) (pI ps) ma pcs sqa mvs los lsz lfs asz afs))) noQ (xQ D A nISE (fun _ => True) (fun (u : Int32) => cW cI cJ h0 h1 h2 a0 a1 a2 a3 h3 a4 h4 a5 (bI true) (bI false) ow tr fu kg co pn (nI sd) (nI rt) (pI ps) ma pcs sqa mvs los u lfs asz afs)) 1 6 A := by
  refine entX hy hn ?_
  intro p e s m below meth c ls S0 hlocks hG hno hB hl
  obtain ⟨⟨hP, hD, hK, hA, hE⟩, hX⟩ := hB
  have hS : va_S A s.heap s.heap [] := va_S.rf
  have S1 : CallFix p m c cc maxL s (Value.ref h0 :: As).toArray (Cond.code y cc maxL ret :: wsL_law) RX4 := by rw [← hcls]; exact S0
  refine lv_aload_n S0.1 S0.2.1 d0 rfl (lv_at hl 0 rfl) ?_
  refine chX (A := A) (A1 := A) (rnVX (As := []) (rest := []) S1 (x_X4_needList l hlt bd hCP sd rt ps hs2 hr16 hp65 kb ob hKL hpl) wm_X4_92 wi_X4_needList ws_X4_needList wn_X4 wc_X4_needList hd_X4_needList ⟨rfl, rfl, by decide, by decide⟩ XW.blind (va_recv hK hP (ci := 3) (q0 := 0) rfl rfl) (fun U h1 h2 => ⟨IW.at hP hD hK hA hE hS U h1 h2, hX.warm h2⟩) hl.1 (Nat.le_of_ble_eq_true rfl) d1 rfl ⟨by decide, by decide⟩) hS (fun _ h => h) (fun ce q9 u H1 locs1 hp hP1 hD1 _ _ hS1 h1 h2 h3 => ?_)
  exact otX u hno hlocks hp hP1 hD1 hS1 h1 h2 h3 (by decide) (by decide)
set_option maxHeartbeats 4000000 in
set_option maxRecDepth 100000 in
/-- move throws -/
theorem x_X4_move_2 (l : Launch) (hlt : l.stackTraces = false) {D : va_G} {cI cJ : ClassId} {A : Nat → Prop} {h0 h1 h2 a0 a1 a2 a3 h3 a4 h4 a5 : Nat} {ow tr fu kg co pn : Int64} {ma : Int32} {pcs : Nat → Int32} {sqa : Nat → Int64} {mvs los : Nat → Int32} {lsz : Int32} {lfs : Nat → Int32} {asz : Int32} {afs : Nat → Int32} (bd : Nat → Nat) (hCP : CP pcs sqa bd) (sd rt ps : Nat) (hs2 : sd < 2) (hr16 : rt < 16) (hp65 : ps < 65) (kb ob : Bool) (hKL : KLp kb ob lsz lfs bd sd rt ps) (hpl : cbp bd sd = true) (hlen : (fil bd sd rt ps).length ≤ 700) (x : Int32) (hbad : x < 0 ∨ ¬ x < nI (fil bd sd rt ps).length) : vx_Met l yX4_move (Cond.code yX4_move cX4_move 2 (some .int) :: wsL_law) (rX 6) (va_Pc [.ref h0, .int x] (XW D cI cJ A (cW cI cJ h0 h1 h2 a0 a1 a2 a3 h3 a4 h4 a5 (bI kb) (bI ob) ow tr fu kg co pn (nI sd) (nI rt) (pI ps) ma pcs sqa mvs los lsz lfs asz afs))) noQ (xQ D A nIOB (fun u => LI u.1 (fil bd sd rt ps)) (fun (u : (Nat → Int32) × Int64 × Int64 × Int64 × Int64 × Int64 × Int64) => cW cI cJ h0 h1 h2 a0 a1 a2 a3 h3 a4 h4 a5 (bI true) (bI true) u.2.1 u.2.2.1 u.2.2.2.1 u.2.2.2.2.1 u.2.2.2.2.2.1 u.2.2.2.2.2.2 (nI sd) (nI rt) (pI ps) ma pcs sqa mvs los (nI (fil bd sd rt ps).length) u.1 asz afs)) 1 6 A := by
  refine entX (by decide) (Nat.le_of_ble_eq_true rfl) ?_
  intro p e s m below meth c ls S0 hlocks hG hno hB hl
  have hx := S0.1
  have hb := S0.2.1
  have hown := S0.2.2.2.1
  have hl : lv_has ls 2 [(0, .ref h0), (1, .int x)] := hl
  obtain ⟨⟨hP, hD, hK, hA, hE⟩, hX⟩ := hB
  have hS : va_S A s.heap s.heap [] := va_S.rf
  refine lv_aload_n hx hb dX4_move_0 rfl (lv_at hl 0 rfl) ?_
  refine chV (rnV (As := []) (rest := []) S0 (c_X4_needList l bd hCP sd rt ps hs2 hr16 hp65 kb ob hKL hpl hlen) wm_X4_92 wi_X4_needList ws_X4_needList wn_X4 wc_X4_needList hd_X4_needList ⟨rfl, rfl, by decide, by decide⟩ IW.blind (va_recv hK hP (ci := 3) (q0 := 0) rfl rfl) (IW.at hP hD hK hA hE hS) hl.1 (Nat.le_of_ble_eq_true rfl) dX4_move_1 rfl ⟨by decide, by decide⟩) hS (fun u_2 H locs hu hP hD hS => ?_)
  have hLI := hu
  have hP : va_P D classes (cW cI cJ h0 h1 h2 a0 a1 a2 a3 h3 a4 h4 a5 (bI true) (bI true) u_2.2.1 u_2.2.2.1 u_2.2.2.2.1 u_2.2.2.2.2.1 u_2.2.2.2.2.2.1 u_2.2.2.2.2.2.2 (nI sd) (nI rt) (pI ps) ma pcs sqa mvs los (nI (fil bd sd rt ps).length) u_2.1 asz afs) H := hP
  have hD : va_D A (cW cI cJ h0 h1 h2 a0 a1 a2 a3 h3 a4 h4 a5 (bI true) (bI true) u_2.2.1 u_2.2.2.1 u_2.2.2.2.1 u_2.2.2.2.2.1 u_2.2.2.2.2.2.1 u_2.2.2.2.2.2.2 (nI sd) (nI rt) (pI ps) ma pcs sqa mvs los (nI (fil bd sd rt ps).length) u_2.1 asz afs) := hD
  refine lv_iload_n hx hb dX4_move_4 rfl (lv_at hl 1 rfl) ?_
  refine lv_if_lt (tgt := 19) hx hb dX4_move_5 (by decide) (fun c_1 => ?_) (fun c_1 => ?_)
  · skip
    exact thX (text := _) (u := (u_2.1, u_2.2.1, u_2.2.2.1, u_2.2.2.2.1, u_2.2.2.2.2.1, u_2.2.2.2.2.2.1, u_2.2.2.2.2.2.2)) hlt S0 hno hlocks (by decide +kernel) (hG _ wl_X4_53) (hG _ wn_java_lang_IndexOutOfBoundsException) hX.s98 (hat1 hG hX) gx1 hE hS hl.1 dX4_move_19 dX4_move_22 dX4_move_23 dX4_move_25 dX4_move_28 ⟨by decide, by decide, by decide, by decide⟩ hLI hP hD
  · skip
    refine lv_iload_n hx hb dX4_move_8 rfl (lv_at hl 1 rfl) ?_
    refine lv_aload_n hx hb dX4_move_9 rfl (lv_at hl 0 rfl) ?_
    refine va_get (D := D) (ci := 3) (v := .ref h3) (C := RX4) (T := TX4) (N := 6) hx hb hG wu_X4 hown hK hP 0 rfl rfl 2 (by decide) (hG _ wf_X4_24) (fun _ h9 => h9) rfl dX4_move_10 ?_
    refine va_get (D := D) (ci := 0) (v := .int (nI ((fil bd sd rt ps).length))) (C := RX1) (T := TX1) (N := 2) hx hb hG wu_X1 hown hK hP 7 rfl rfl 1 (by decide) (hG _ wf_X4_95) (fun _ h9 => h9) rfl dX4_move_13 ?_
    refine lv_icmp_lt (tgt := 29) hx hb dX4_move_16 (by decide) (fun c16 => ?_) (fun c16 => ?_)
    · skip
      exact (hbad.elim c_1 (fun z => z c16)).elim
    · skip
      exact thX (text := _) (u := (u_2.1, u_2.2.1, u_2.2.2.1, u_2.2.2.2.1, u_2.2.2.2.2.1, u_2.2.2.2.2.2.1, u_2.2.2.2.2.2.2)) hlt S0 hno hlocks (by decide +kernel) (hG _ wl_X4_53) (hG _ wn_java_lang_IndexOutOfBoundsException) hX.s98 (hat1 hG hX) gx1 hE hS hl.1 dX4_move_19 dX4_move_22 dX4_move_23 dX4_move_25 dX4_move_28 ⟨by decide, by decide, by decide, by decide⟩ hLI hP hD
set_option maxHeartbeats 4000000 in
set_option maxRecDepth 100000 in
/-- kind throws -/
theorem x_X4_kind_2 (l : Launch) (hlt : l.stackTraces = false) {D : va_G} {cI cJ : ClassId} {A : Nat → Prop} {h0 h1 h2 a0 a1 a2 a3 h3 a4 h4 a5 : Nat} {ow tr fu kg co pn : Int64} {ma : Int32} {pcs : Nat → Int32} {sqa : Nat → Int64} {mvs los : Nat → Int32} {lsz : Int32} {lfs : Nat → Int32} {asz : Int32} {afs : Nat → Int32} (bd : Nat → Nat) (hCP : CP pcs sqa bd) (sd rt ps : Nat) (hs2 : sd < 2) (hr16 : rt < 16) (hp65 : ps < 65) (kb ob : Bool) (hKL : KLp kb ob lsz lfs bd sd rt ps) (hpl : cbp bd sd = true) (hlen : (fil bd sd rt ps).length ≤ 700) (x : Int32) (hbad : fplN (fil bd sd rt ps) x (fil bd sd rt ps).length = (-1)) : vx_Met l yX4_kind (Cond.code yX4_kind cX4_kind 3 (some .int) :: wsL_law) (rX 6) (va_Pc [.ref h0, .int x] (XW D cI cJ A (cW cI cJ h0 h1 h2 a0 a1 a2 a3 h3 a4 h4 a5 (bI kb) (bI ob) ow tr fu kg co pn (nI sd) (nI rt) (pI ps) ma pcs sqa mvs los lsz lfs asz afs))) noQ (xQ D A nIAE (fun u => LI u.1 (fil bd sd rt ps)) (fun (u : (Nat → Int32) × Int64 × Int64 × Int64 × Int64 × Int64 × Int64) => cW cI cJ h0 h1 h2 a0 a1 a2 a3 h3 a4 h4 a5 (bI true) (bI true) u.2.1 u.2.2.1 u.2.2.2.1 u.2.2.2.2.1 u.2.2.2.2.2.1 u.2.2.2.2.2.2 (nI sd) (nI rt) (pI ps) ma pcs sqa mvs los (nI (fil bd sd rt ps).length) u.1 asz afs)) 1 6 A := by
  refine entX (by decide) (Nat.le_of_ble_eq_true rfl) ?_
  intro p e s m below meth c ls S0 hlocks hG hno hB hl
  have hx := S0.1
  have hb := S0.2.1
  have hown := S0.2.2.2.1
  have hl : lv_has ls 3 [(0, .ref h0), (1, .int x)] := hl
  obtain ⟨⟨hP, hD, hK, hA, hE⟩, hX⟩ := hB
  have hS : va_S A s.heap s.heap [] := va_S.rf
  refine lv_aload_n hx hb dX4_kind_0 rfl (lv_at hl 0 rfl) ?_
  refine chV (rnV (As := []) (rest := []) S0 (c_X4_needList l bd hCP sd rt ps hs2 hr16 hp65 kb ob hKL hpl hlen) wm_X4_92 wi_X4_needList ws_X4_needList wn_X4 wc_X4_needList hd_X4_needList ⟨rfl, rfl, by decide, by decide⟩ IW.blind (va_recv hK hP (ci := 3) (q0 := 0) rfl rfl) (IW.at hP hD hK hA hE hS) hl.1 (Nat.le_of_ble_eq_true rfl) dX4_kind_1 rfl ⟨by decide, by decide⟩) hS (fun u_2 H locs hu hP hD hS => ?_)
  have hLI := hu
  have hP : va_P D classes (cW cI cJ h0 h1 h2 a0 a1 a2 a3 h3 a4 h4 a5 (bI true) (bI true) u_2.2.1 u_2.2.2.1 u_2.2.2.2.1 u_2.2.2.2.2.1 u_2.2.2.2.2.2.1 u_2.2.2.2.2.2.2 (nI sd) (nI rt) (pI ps) ma pcs sqa mvs los (nI (fil bd sd rt ps).length) u_2.1 asz afs) H := hP
  have hD : va_D A (cW cI cJ h0 h1 h2 a0 a1 a2 a3 h3 a4 h4 a5 (bI true) (bI true) u_2.2.1 u_2.2.2.1 u_2.2.2.2.1 u_2.2.2.2.2.1 u_2.2.2.2.2.2.1 u_2.2.2.2.2.2.2 (nI sd) (nI rt) (pI ps) ma pcs sqa mvs los (nI (fil bd sd rt ps).length) u_2.1 asz afs) := hD
  refine lv_aload_n hx hb dX4_kind_4 rfl (lv_at hl 0 rfl) ?_
  refine va_get (D := D) (ci := 3) (v := .ref h3) (C := RX4) (T := TX4) (N := 6) hx hb hG wu_X4 hown hK hP 0 rfl rfl 2 (by decide) (hG _ wf_X4_24) (fun _ h9 => h9) rfl dX4_kind_5 ?_
  refine lv_iload_n hx hb dX4_kind_8 rfl (lv_at hl 1 rfl) ?_
  refine roI (rnV (As := [.int x]) (rest := []) S0 (c_X1_placeOf l (fil bd sd rt ps) hLI hlen x) wm_X4_104 wi_X1_placeOf ws_X1_placeOf wn_X1 wc_X1_placeOf hd_X1_placeOf ⟨rfl, rfl, by decide, by decide⟩ IW.blind (va_recv hK hP (ci := 0) (q0 := 7) rfl rfl) (IW.at (ws := mW cI h3 a4 (nI (fil bd sd rt ps).length) u_2.1) (hP.sub [7, 8] rfl) (hD.sub [7, 8] (by decide) rfl) hK hA hE hS) hl.1 (Nat.le_of_ble_eq_true rfl) dX4_kind_9 rfl ⟨by decide, by decide⟩) (fun r_3 hr_3 => ?_)
  subst hr_3
  refine lv_iconst (v := (-1)) hx hb dX4_kind_12 (by decide) ?_
  refine lv_icmp_ne (tgt := 26) hx hb dX4_kind_13 (by decide) (fun c13 => ?_) (fun c13 => ?_)
  · skip
    exact absurd hbad c13
  · skip
    exact thX (text := _) (u := (u_2.1, u_2.2.1, u_2.2.2.1, u_2.2.2.2.1, u_2.2.2.2.2.1, u_2.2.2.2.2.2.1, u_2.2.2.2.2.2.2)) hlt S0 hno hlocks (by decide +kernel) (hG _ wl_X4_63) (hG _ wn_java_lang_IllegalArgumentException) hX.s113 (hat2 hG hX) gx2 hE hS hl.1 dX4_kind_16 dX4_kind_19 dX4_kind_20 dX4_kind_22 dX4_kind_25 ⟨by decide, by decide, by decide, by decide⟩ hLI hP hD
set_option maxHeartbeats 4000000 in
set_option maxRecDepth 100000 in
/-- lines throws -/
theorem x_X4_lines_2 (l : Launch) (hlt : l.stackTraces = false) {D : va_G} {cI cJ : ClassId} {A : Nat → Prop} {h0 h1 h2 a0 a1 a2 a3 h3 a4 h4 a5 : Nat} {ow tr fu kg co pn : Int64} {ma : Int32} {pcs : Nat → Int32} {sqa : Nat → Int64} {mvs los : Nat → Int32} {lsz : Int32} {lfs : Nat → Int32} {asz : Int32} {afs : Nat → Int32} (bd : Nat → Nat) (hCP : CP pcs sqa bd) (sd rt ps : Nat) (hs2 : sd < 2) (hr16 : rt < 16) (hp65 : ps < 65) (kb ob : Bool) (hKL : KLp kb ob lsz lfs bd sd rt ps) (hpl : cbp bd sd = true) (hlen : (fil bd sd rt ps).length ≤ 700) (x : Int32) (hbad : x < 0 ∨ ¬ x ≤ nI 3) : vx_Met l yX4_lines (Cond.code yX4_lines cX4_lines 2 (some .long) :: wsL_law) (rX 6) (va_Pc [.ref h0, .int x] (XW D cI cJ A (cW cI cJ h0 h1 h2 a0 a1 a2 a3 h3 a4 h4 a5 (bI kb) (bI ob) ow tr fu kg co pn (nI sd) (nI rt) (pI ps) ma pcs sqa mvs los lsz lfs asz afs))) noQ (xQ D A nIAE (fun u => LI u.1 (fil bd sd rt ps)) (fun (u : (Nat → Int32) × Int64 × Int64 × Int64 × Int64 × Int64 × Int64) => cW cI cJ h0 h1 h2 a0 a1 a2 a3 h3 a4 h4 a5 (bI true) (bI true) u.2.1 u.2.2.1 u.2.2.2.1 u.2.2.2.2.1 u.2.2.2.2.2.1 u.2.2.2.2.2.2 (nI sd) (nI rt) (pI ps) ma pcs sqa mvs los (nI (fil bd sd rt ps).length) u.1 asz afs)) 1 6 A := by
  refine entX (by decide) (Nat.le_of_ble_eq_true rfl) ?_
  intro p e s m below meth c ls S0 hlocks hG hno hB hl
  have hx := S0.1
  have hb := S0.2.1
  have hown := S0.2.2.2.1
  have hl : lv_has ls 2 [(0, .ref h0), (1, .int x)] := hl
  obtain ⟨⟨hP, hD, hK, hA, hE⟩, hX⟩ := hB
  have hS : va_S A s.heap s.heap [] := va_S.rf
  refine lv_aload_n hx hb dX4_lines_0 rfl (lv_at hl 0 rfl) ?_
  refine chV (rnV (As := []) (rest := []) S0 (c_X4_needList l bd hCP sd rt ps hs2 hr16 hp65 kb ob hKL hpl hlen) wm_X4_92 wi_X4_needList ws_X4_needList wn_X4 wc_X4_needList hd_X4_needList ⟨rfl, rfl, by decide, by decide⟩ IW.blind (va_recv hK hP (ci := 3) (q0 := 0) rfl rfl) (IW.at hP hD hK hA hE hS) hl.1 (Nat.le_of_ble_eq_true rfl) dX4_lines_1 rfl ⟨by decide, by decide⟩) hS (fun u_2 H locs hu hP hD hS => ?_)
  have hLI := hu
  have hP : va_P D classes (cW cI cJ h0 h1 h2 a0 a1 a2 a3 h3 a4 h4 a5 (bI true) (bI true) u_2.2.1 u_2.2.2.1 u_2.2.2.2.1 u_2.2.2.2.2.1 u_2.2.2.2.2.2.1 u_2.2.2.2.2.2.2 (nI sd) (nI rt) (pI ps) ma pcs sqa mvs los (nI (fil bd sd rt ps).length) u_2.1 asz afs) H := hP
  have hD : va_D A (cW cI cJ h0 h1 h2 a0 a1 a2 a3 h3 a4 h4 a5 (bI true) (bI true) u_2.2.1 u_2.2.2.1 u_2.2.2.2.1 u_2.2.2.2.2.1 u_2.2.2.2.2.2.1 u_2.2.2.2.2.2.2 (nI sd) (nI rt) (pI ps) ma pcs sqa mvs los (nI (fil bd sd rt ps).length) u_2.1 asz afs) := hD
  refine lv_iload_n hx hb dX4_lines_4 rfl (lv_at hl 1 rfl) ?_
  refine lv_if_lt (tgt := 13) hx hb dX4_lines_5 (by decide) (fun c5 => ?_) (fun c5 => ?_)
  · skip
    exact thX (text := _) (u := (u_2.1, u_2.2.1, u_2.2.2.1, u_2.2.2.2.1, u_2.2.2.2.2.1, u_2.2.2.2.2.2.1, u_2.2.2.2.2.2.2)) hlt S0 hno hlocks (by decide +kernel) (hG _ wl_X4_63) (hG _ wn_java_lang_IllegalArgumentException) hX.s132 (hat2 hG hX) gx2 hE hS hl.1 dX4_lines_13 dX4_lines_16 dX4_lines_17 dX4_lines_19 dX4_lines_22 ⟨by decide, by decide, by decide, by decide⟩ hLI hP hD
  · skip
    refine lv_iload_n hx hb dX4_lines_8 rfl (lv_at hl 1 rfl) ?_
    refine lv_iconst (v := (nI 3)) hx hb dX4_lines_9 (by decide) ?_
    refine lv_icmp_le (tgt := 23) hx hb dX4_lines_10 (by decide) (fun c10 => ?_) (fun c10 => ?_)
    · skip
      exact (hbad.elim c5 (fun z => z c10)).elim
    · skip
      exact thX (text := _) (u := (u_2.1, u_2.2.1, u_2.2.2.1, u_2.2.2.2.1, u_2.2.2.2.2.1, u_2.2.2.2.2.2.1, u_2.2.2.2.2.2.2)) hlt S0 hno hlocks (by decide +kernel) (hG _ wl_X4_63) (hG _ wn_java_lang_IllegalArgumentException) hX.s132 (hat2 hG hX) gx2 hE hS hl.1 dX4_lines_13 dX4_lines_16 dX4_lines_17 dX4_lines_19 dX4_lines_22 ⟨by decide, by decide, by decide, by decide⟩ hLI hP hD
set_option maxHeartbeats 4000000 in
set_option maxRecDepth 100000 in
/-- make throws -/
theorem x_X4_make_2 (l : Launch) (hlt : l.stackTraces = false) {D : va_G} {cI cJ : ClassId} {A : Nat → Prop} {h0 h1 h2 a0 a1 a2 a3 h3 a4 h4 a5 : Nat} {ow tr fu kg co pn : Int64} {ma : Int32} {pcs : Nat → Int32} {sqa : Nat → Int64} {mvs los : Nat → Int32} {lsz : Int32} {lfs : Nat → Int32} {asz : Int32} {afs : Nat → Int32} (bd : Nat → Nat) (hCP : CP pcs sqa bd) (sd rt ps : Nat) (hs2 : sd < 2) (hr16 : rt < 16) (hp65 : ps < 65) (kb ob : Bool) (hKL : KLp kb ob lsz lfs bd sd rt ps) (hpl : cbp bd sd = true) (hlen : (fil bd sd rt ps).length ≤ 700) (x : Int32) (hbad : fplN (fil bd sd rt ps) x (fil bd sd rt ps).length = (-1)) : vx_Met l yX4_make (Cond.code yX4_make cX4_make 2 (some .int) :: wsL_law) (rX 6) (va_Pc [.ref h0, .int x] (XW D cI cJ A (cW cI cJ h0 h1 h2 a0 a1 a2 a3 h3 a4 h4 a5 (bI kb) (bI ob) ow tr fu kg co pn (nI sd) (nI rt) (pI ps) ma pcs sqa mvs los lsz lfs asz afs))) noQ (xQ D A nIAE (fun u => LI u.1 (fil bd sd rt ps)) (fun (u : (Nat → Int32) × Int64 × Int64 × Int64 × Int64 × Int64 × Int64) => cW cI cJ h0 h1 h2 a0 a1 a2 a3 h3 a4 h4 a5 (bI true) (bI true) u.2.1 u.2.2.1 u.2.2.2.1 u.2.2.2.2.1 u.2.2.2.2.2.1 u.2.2.2.2.2.2 (nI sd) (nI rt) (pI ps) ma pcs sqa mvs los (nI (fil bd sd rt ps).length) u.1 asz afs)) 1 6 A := by
  refine entX (by decide) (Nat.le_of_ble_eq_true rfl) ?_
  intro p e s m below meth c ls S0 hlocks hG hno hB hl
  have hx := S0.1
  have hb := S0.2.1
  have hown := S0.2.2.2.1
  have hl : lv_has ls 2 [(0, .ref h0), (1, .int x)] := hl
  obtain ⟨⟨hP, hD, hK, hA, hE⟩, hX⟩ := hB
  have hS : va_S A s.heap s.heap [] := va_S.rf
  refine lv_aload_n hx hb dX4_make_0 rfl (lv_at hl 0 rfl) ?_
  refine chV (rnV (As := []) (rest := []) S0 (c_X4_needList l bd hCP sd rt ps hs2 hr16 hp65 kb ob hKL hpl hlen) wm_X4_92 wi_X4_needList ws_X4_needList wn_X4 wc_X4_needList hd_X4_needList ⟨rfl, rfl, by decide, by decide⟩ IW.blind (va_recv hK hP (ci := 3) (q0 := 0) rfl rfl) (IW.at hP hD hK hA hE hS) hl.1 (Nat.le_of_ble_eq_true rfl) dX4_make_1 rfl ⟨by decide, by decide⟩) hS (fun u_2 H locs hu hP hD hS => ?_)
  have hLI := hu
  have hP : va_P D classes (cW cI cJ h0 h1 h2 a0 a1 a2 a3 h3 a4 h4 a5 (bI true) (bI true) u_2.2.1 u_2.2.2.1 u_2.2.2.2.1 u_2.2.2.2.2.1 u_2.2.2.2.2.2.1 u_2.2.2.2.2.2.2 (nI sd) (nI rt) (pI ps) ma pcs sqa mvs los (nI (fil bd sd rt ps).length) u_2.1 asz afs) H := hP
  have hD : va_D A (cW cI cJ h0 h1 h2 a0 a1 a2 a3 h3 a4 h4 a5 (bI true) (bI true) u_2.2.1 u_2.2.2.1 u_2.2.2.2.1 u_2.2.2.2.2.1 u_2.2.2.2.2.2.1 u_2.2.2.2.2.2.2 (nI sd) (nI rt) (pI ps) ma pcs sqa mvs los (nI (fil bd sd rt ps).length) u_2.1 asz afs) := hD
  refine lv_aload_n hx hb dX4_make_4 rfl (lv_at hl 0 rfl) ?_
  refine va_get (D := D) (ci := 3) (v := .ref h3) (C := RX4) (T := TX4) (N := 6) hx hb hG wu_X4 hown hK hP 0 rfl rfl 2 (by decide) (hG _ wf_X4_24) (fun _ h9 => h9) rfl dX4_make_5 ?_
  refine lv_iload_n hx hb dX4_make_8 rfl (lv_at hl 1 rfl) ?_
  refine roI (rnV (As := [.int x]) (rest := []) S0 (c_X1_placeOf l (fil bd sd rt ps) hLI hlen x) wm_X4_104 wi_X1_placeOf ws_X1_placeOf wn_X1 wc_X1_placeOf hd_X1_placeOf ⟨rfl, rfl, by decide, by decide⟩ IW.blind (va_recv hK hP (ci := 0) (q0 := 7) rfl rfl) (IW.at (ws := mW cI h3 a4 (nI (fil bd sd rt ps).length) u_2.1) (hP.sub [7, 8] rfl) (hD.sub [7, 8] (by decide) rfl) hK hA hE hS) hl.1 (Nat.le_of_ble_eq_true rfl) dX4_make_9 rfl ⟨by decide, by decide⟩) (fun r_3 hr_3 => ?_)
  subst hr_3
  refine lv_iconst (v := (-1)) hx hb dX4_make_12 (by decide) ?_
  refine lv_icmp_ne (tgt := 26) hx hb dX4_make_13 (by decide) (fun c13 => ?_) (fun c13 => ?_)
  · skip
    exact absurd hbad c13
  · skip
    exact thX (text := _) (u := (u_2.1, u_2.2.1, u_2.2.2.1, u_2.2.2.2.1, u_2.2.2.2.2.1, u_2.2.2.2.2.2.1, u_2.2.2.2.2.2.2)) hlt S0 hno hlocks (by decide +kernel) (hG _ wl_X4_63) (hG _ wn_java_lang_IllegalArgumentException) hX.s113 (hat2 hG hX) gx2 hE hS hl.1 dX4_make_16 dX4_make_19 dX4_make_20 dX4_make_22 dX4_make_25 ⟨by decide, by decide, by decide, by decide⟩ hLI hP hD
set_option maxHeartbeats 4000000 in
set_option maxRecDepth 100000 in
/-- make throws, too many -/
theorem x_X4_make_3 (l : Launch) (hlt : l.stackTraces = false) {D : va_G} {cI cJ : ClassId} {A : Nat → Prop} {h0 h1 h2 a0 a1 a2 a3 h3 a4 h4 a5 : Nat} {ow tr fu kg co pn : Int64} {pcs : Nat → Int32} {sqa : Nat → Int64} {mvs los : Nat → Int32} {lsz : Int32} {lfs : Nat → Int32} {asz : Int32} {afs : Nat → Int32} (bd : Nat → Nat) (hCP : CP pcs sqa bd) (sd rt ps : Nat) (hs2 : sd < 2) (hr16 : rt < 16) (hp65 : ps < 65) (kb ob : Bool) (hKL : KLp kb ob lsz lfs bd sd rt ps) (hpl : cbp bd sd = true) (hlen : (fil bd sd rt ps).length ≤ 700) (x : Int32) (hin : ¬ fplN (fil bd sd rt ps) x (fil bd sd rt ps).length = (-1)) : vx_Met l yX4_make (Cond.code yX4_make cX4_make 2 (some .int) :: wsL_law) (rX 6) (va_Pc [.ref h0, .int x] (XW D cI cJ A (cW cI cJ h0 h1 h2 a0 a1 a2 a3 h3 a4 h4 a5 (bI kb) (bI ob) ow tr fu kg co pn (nI sd) (nI rt) (pI ps) (nI 200) pcs sqa mvs los lsz lfs asz afs))) noQ (xQ D A nUOE (fun u => LI u.1 (fil bd sd rt ps)) (fun (u : (Nat → Int32) × Int64 × Int64 × Int64 × Int64 × Int64 × Int64) => cW cI cJ h0 h1 h2 a0 a1 a2 a3 h3 a4 h4 a5 (bI true) (bI true) u.2.1 u.2.2.1 u.2.2.2.1 u.2.2.2.2.1 u.2.2.2.2.2.1 u.2.2.2.2.2.2 (nI sd) (nI rt) (pI ps) (nI 200) pcs sqa mvs los (nI (fil bd sd rt ps).length) u.1 asz afs)) 1 6 A := by
  refine entX (by decide) (Nat.le_of_ble_eq_true rfl) ?_
  intro p e s m below meth c ls S0 hlocks hG hno hB hl
  have hx := S0.1
  have hb := S0.2.1
  have hown := S0.2.2.2.1
  have hl : lv_has ls 2 [(0, .ref h0), (1, .int x)] := hl
  obtain ⟨⟨hP, hD, hK, hA, hE⟩, hX⟩ := hB
  have hS : va_S A s.heap s.heap [] := va_S.rf
  refine lv_aload_n hx hb dX4_make_0 rfl (lv_at hl 0 rfl) ?_
  refine chV (rnV (As := []) (rest := []) S0 (c_X4_needList l bd hCP sd rt ps hs2 hr16 hp65 kb ob hKL hpl hlen) wm_X4_92 wi_X4_needList ws_X4_needList wn_X4 wc_X4_needList hd_X4_needList ⟨rfl, rfl, by decide, by decide⟩ IW.blind (va_recv hK hP (ci := 3) (q0 := 0) rfl rfl) (IW.at hP hD hK hA hE hS) hl.1 (Nat.le_of_ble_eq_true rfl) dX4_make_1 rfl ⟨by decide, by decide⟩) hS (fun u_2 H locs hu hP hD hS => ?_)
  have hLI := hu
  have hP : va_P D classes (cW cI cJ h0 h1 h2 a0 a1 a2 a3 h3 a4 h4 a5 (bI true) (bI true) u_2.2.1 u_2.2.2.1 u_2.2.2.2.1 u_2.2.2.2.2.1 u_2.2.2.2.2.2.1 u_2.2.2.2.2.2.2 (nI sd) (nI rt) (pI ps) (nI 200) pcs sqa mvs los (nI (fil bd sd rt ps).length) u_2.1 asz afs) H := hP
  have hD : va_D A (cW cI cJ h0 h1 h2 a0 a1 a2 a3 h3 a4 h4 a5 (bI true) (bI true) u_2.2.1 u_2.2.2.1 u_2.2.2.2.1 u_2.2.2.2.2.1 u_2.2.2.2.2.2.1 u_2.2.2.2.2.2.2 (nI sd) (nI rt) (pI ps) (nI 200) pcs sqa mvs los (nI (fil bd sd rt ps).length) u_2.1 asz afs) := hD
  refine lv_aload_n hx hb dX4_make_4 rfl (lv_at hl 0 rfl) ?_
  refine va_get (D := D) (ci := 3) (v := .ref h3) (C := RX4) (T := TX4) (N := 6) hx hb hG wu_X4 hown hK hP 0 rfl rfl 2 (by decide) (hG _ wf_X4_24) (fun _ h9 => h9) rfl dX4_make_5 ?_
  refine lv_iload_n hx hb dX4_make_8 rfl (lv_at hl 1 rfl) ?_
  refine roI (rnV (As := [.int x]) (rest := []) S0 (c_X1_placeOf l (fil bd sd rt ps) hLI hlen x) wm_X4_104 wi_X1_placeOf ws_X1_placeOf wn_X1 wc_X1_placeOf hd_X1_placeOf ⟨rfl, rfl, by decide, by decide⟩ IW.blind (va_recv hK hP (ci := 0) (q0 := 7) rfl rfl) (IW.at (ws := mW cI h3 a4 (nI (fil bd sd rt ps).length) u_2.1) (hP.sub [7, 8] rfl) (hD.sub [7, 8] (by decide) rfl) hK hA hE hS) hl.1 (Nat.le_of_ble_eq_true rfl) dX4_make_9 rfl ⟨by decide, by decide⟩) (fun r_3 hr_3 => ?_)
  subst hr_3
  refine lv_iconst (v := (-1)) hx hb dX4_make_12 (by decide) ?_
  refine lv_icmp_ne (tgt := 26) hx hb dX4_make_13 (by decide) (fun c13 => ?_) (fun c13 => ?_)
  · skip
    refine lv_aload_n hx hb dX4_make_26 rfl (lv_at hl 0 rfl) ?_
    refine va_get (D := D) (ci := 3) (v := .ref h2) (C := RX4) (T := TX4) (N := 6) hx hb hG wu_X4 hown hK hP 0 rfl rfl 1 (by decide) (hG _ wf_X4_20) (fun _ h9 => h9) rfl dX4_make_27 ?_
    refine va_get (D := D) (ci := 1) (v := .int (nI 200)) (C := RX2) (T := TX2) (N := 8) hx hb hG wu_X2 hown hK hP 2 rfl rfl 7 (by decide) (hG _ wf_X4_138) (fun _ h9 => h9) rfl dX4_make_30 ?_
    refine lv_sipush (v := (nI 200)) hx hb dX4_make_33 (by decide) ?_
    refine ln_icmp_lt (tgt := 49) hx hb dX4_make_36 (by decide) (by decide) (by decide) (fun c36 => ?_) (fun c36 => ?_)
    · skip
      exact absurd c36 (by omega)
    · skip
      exact thX (text := _) (u := (u_2.1, u_2.2.1, u_2.2.2.1, u_2.2.2.2.1, u_2.2.2.2.2.1, u_2.2.2.2.2.2.1, u_2.2.2.2.2.2.2)) hlt S0 hno hlocks (by decide +kernel) (hG _ wl_X4_141) (hG _ wn_java_lang_UnsupportedOperationException) hX.s143 (hat4 hG hX) gx4 hE hS hl.1 dX4_make_39 dX4_make_42 dX4_make_43 dX4_make_45 dX4_make_48 ⟨by decide, by decide, by decide, by decide⟩ hLI hP hD
  · skip
    exact absurd c13 hin
set_option maxHeartbeats 4000000 in
set_option maxRecDepth 100000 in
/-- put throws -/
theorem x_X4_put_1 (l : Launch) (hlt : l.stackTraces = false) {D : va_G} {cI cJ : ClassId} {A : Nat → Prop} {h0 h1 h2 a0 a1 a2 a3 h3 a4 h4 a5 : Nat} {kn op : Int32} {ow tr fu kg co pn : Int64} {si ri pa ma : Int32} {pcs : Nat → Int32} {sqa : Nat → Int64} {mvs los : Nat → Int32} {lsz : Int32} {lfs : Nat → Int32} {asz : Int32} {afs : Nat → Int32} (x y : Int32) (hbad : isq x = false) : vx_Met l yX4_put (Cond.code yX4_put cX4_put 3 none :: wsL_law) (rX 6) (va_Pc [.ref h0, .int x, .int y] (XW D cI cJ A (cW cI cJ h0 h1 h2 a0 a1 a2 a3 h3 a4 h4 a5 kn op ow tr fu kg co pn si ri pa ma pcs sqa mvs los lsz lfs asz afs))) noQ (xQ D A nIOB (fun _ => True) (fun (u : Unit) => cW cI cJ h0 h1 h2 a0 a1 a2 a3 h3 a4 h4 a5 kn op ow tr fu kg co pn si ri pa ma pcs sqa mvs los lsz lfs asz afs)) 1 6 A := by
  refine entX (by decide) (Nat.le_of_ble_eq_true rfl) ?_
  intro p e s m below meth c ls S0 hlocks hG hno hB hl
  have hx := S0.1
  have hb := S0.2.1
  have hown := S0.2.2.2.1
  have hl : lv_has ls 3 [(0, .ref h0), (1, .int x), (2, .int y)] := hl
  obtain ⟨⟨hP, hD, hK, hA, hE⟩, hX⟩ := hB
  have hS : va_S A s.heap s.heap [] := va_S.rf
  refine lv_iload_n hx hb dX4_put_0 rfl (lv_at hl 1 rfl) ?_
  refine roI (rnS (As := [.int x]) (rest := []) S0 (c_X4_isSquare l x) wm_X4_49 wt_X4_isSquare wn_X4 wc_X4_isSquare hd_X4_isSquare ⟨rfl, rfl, by decide, by decide⟩ True.blind (fun _ _ _ => trivial) hl.1 (Nat.le_of_ble_eq_true rfl) dX4_put_1 rfl ⟨by decide, by decide⟩) (fun r_1 hr_1 => ?_)
  subst hr_1
  refine lb_if_ne (tgt := 17) hx hb dX4_put_4 (by decide) (fun c4 => ?_) (fun c4 => ?_)
  · skip
    exact absurd (hbad.symm.trans c4) (by decide)
  · skip
    exact thX (text := _) (u := ()) hlt S0 hno hlocks (by decide +kernel) (hG _ wl_X4_53) (hG _ wn_java_lang_IndexOutOfBoundsException) hX.s55 (hat1 hG hX) gx1 hE hS hl.1 dX4_put_7 dX4_put_10 dX4_put_11 dX4_put_13 dX4_put_16 ⟨by decide, by decide, by decide, by decide⟩ trivial hP hD
set_option maxHeartbeats 4000000 in
set_option maxRecDepth 100000 in
/-- put throws -/
theorem x_X4_put_2 (l : Launch) (hlt : l.stackTraces = false) {D : va_G} {cI cJ : ClassId} {A : Nat → Prop} {h0 h1 h2 a0 a1 a2 a3 h3 a4 h4 a5 : Nat} {kn op : Int32} {ow tr fu kg co pn : Int64} {si ri pa ma : Int32} {pcs : Nat → Int32} {sqa : Nat → Int64} {mvs los : Nat → Int32} {lsz : Int32} {lfs : Nat → Int32} {asz : Int32} {afs : Nat → Int32} (x y : Int32) (hok : isq x = true) (hbad : isp y = false) : vx_Met l yX4_put (Cond.code yX4_put cX4_put 3 none :: wsL_law) (rX 6) (va_Pc [.ref h0, .int x, .int y] (XW D cI cJ A (cW cI cJ h0 h1 h2 a0 a1 a2 a3 h3 a4 h4 a5 kn op ow tr fu kg co pn si ri pa ma pcs sqa mvs los lsz lfs asz afs))) noQ (xQ D A nIAE (fun _ => True) (fun (u : Unit) => cW cI cJ h0 h1 h2 a0 a1 a2 a3 h3 a4 h4 a5 kn op ow tr fu kg co pn si ri pa ma pcs sqa mvs los lsz lfs asz afs)) 1 6 A := by
  refine entX (by decide) (Nat.le_of_ble_eq_true rfl) ?_
  intro p e s m below meth c ls S0 hlocks hG hno hB hl
  have hx := S0.1
  have hb := S0.2.1
  have hown := S0.2.2.2.1
  have hl : lv_has ls 3 [(0, .ref h0), (1, .int x), (2, .int y)] := hl
  obtain ⟨⟨hP, hD, hK, hA, hE⟩, hX⟩ := hB
  have hS : va_S A s.heap s.heap [] := va_S.rf
  refine lv_iload_n hx hb dX4_put_0 rfl (lv_at hl 1 rfl) ?_
  refine roI (rnS (As := [.int x]) (rest := []) S0 (c_X4_isSquare l x) wm_X4_49 wt_X4_isSquare wn_X4 wc_X4_isSquare hd_X4_isSquare ⟨rfl, rfl, by decide, by decide⟩ True.blind (fun _ _ _ => trivial) hl.1 (Nat.le_of_ble_eq_true rfl) dX4_put_1 rfl ⟨by decide, by decide⟩) (fun r_1 hr_1 => ?_)
  subst hr_1
  refine lb_if_ne (tgt := 17) hx hb dX4_put_4 (by decide) (fun c4 => ?_) (fun c4 => ?_)
  · skip
    refine lv_iload_n hx hb dX4_put_17 rfl (lv_at hl 2 rfl) ?_
    refine roI (rnS (As := [.int y]) (rest := []) S0 (c_X4_isPiece l y) wm_X4_60 wt_X4_isPiece wn_X4 wc_X4_isPiece hd_X4_isPiece ⟨rfl, rfl, by decide, by decide⟩ True.blind (fun _ _ _ => trivial) hl.1 (Nat.le_of_ble_eq_true rfl) dX4_put_18 rfl ⟨by decide, by decide⟩) (fun r_2 hr_2 => ?_)
    subst hr_2
    refine lb_if_ne (tgt := 34) hx hb dX4_put_21 (by decide) (fun c21 => ?_) (fun c21 => ?_)
    · skip
      exact absurd (hbad.symm.trans c21) (by decide)
    · skip
      exact thX (text := _) (u := ()) hlt S0 hno hlocks (by decide +kernel) (hG _ wl_X4_63) (hG _ wn_java_lang_IllegalArgumentException) hX.s65 (hat2 hG hX) gx2 hE hS hl.1 dX4_put_24 dX4_put_27 dX4_put_28 dX4_put_30 dX4_put_33 ⟨by decide, by decide, by decide, by decide⟩ trivial hP hD
  · skip
    exact absurd (hok.symm.trans c4) (by decide)
theorem st0_ok {x y z : Int32} (h1 : x = 0 ∨ x = nI 1) (h2 : ¬ y < 0) (h3 : y ≤ nI 15) (h4 : z = (-1) ∨ isq z = true) : st0 x y z = 0 := by
  unfold st0
  rw [if_neg]
  simp only [not_or]
  have e0 : (0 : Int32).toInt = 0 := rfl
  have e1 : (nI 1).toInt = 1 := rfl
  have e15 : (nI 15).toInt = 15 := rfl
  have em : (-1 : Int32).toInt = -1 := rfl
  have e63 : (nI 63).toInt = 63 := rfl
  have hz : -1 ≤ z.toInt ∧ z.toInt ≤ 63 := by
    rcases h4 with rfl | h4
    · rw [em]; omega
    · obtain ⟨q, hq, rfl⟩ := isq_of h4
      rw [nI_toInt (by omega)]; omega
  have hx : 0 ≤ x.toInt ∧ x.toInt ≤ 1 := by
    rcases h1 with rfl | rfl
    · rw [e0]; omega
    · rw [e1]; omega
  rw [Int32.le_iff_toInt_le] at h3
  refine ⟨?_, ?_, h2, ?_, ?_, ?_⟩
  · rw [Int32.lt_iff_toInt_lt]; omega
  · rw [Int32.lt_iff_toInt_lt]; omega
  · rw [Int32.lt_iff_toInt_lt]; omega
  · rw [Int32.lt_iff_toInt_lt]; omega
  · rw [Int32.le_iff_toInt_le]; omega
set_option maxHeartbeats 4000000 in
set_option maxRecDepth 100000 in
/-- state throws -/
theorem x_X4_state (l : Launch) (hlt : l.stackTraces = false) {D : va_G} {cI cJ : ClassId} {A : Nat → Prop} {h0 h1 h2 a0 a1 a2 a3 h3 a4 h4 a5 : Nat} {kn op : Int32} {ow tr fu kg co pn : Int64} {si ri pa ma : Int32} {pcs : Nat → Int32} {sqa : Nat → Int64} {mvs los : Nat → Int32} {lsz : Int32} {lfs : Nat → Int32} {asz : Int32} {afs : Nat → Int32} (x y z : Int32) (hbad : ¬ st0 x y z = 0) : vx_Met l yX4_state (Cond.code yX4_state cX4_state 4 none :: wsL_law) (rX 6) (va_Pc [.ref h0, .int x, .int y, .int z] (XW D cI cJ A (cW cI cJ h0 h1 h2 a0 a1 a2 a3 h3 a4 h4 a5 kn op ow tr fu kg co pn si ri pa ma pcs sqa mvs los lsz lfs asz afs))) noQ (xQ D A nIAE (fun _ => True) (fun (u : Unit) => cW cI cJ h0 h1 h2 a0 a1 a2 a3 h3 a4 h4 a5 kn op ow tr fu kg co pn si ri pa ma pcs sqa mvs los lsz lfs asz afs)) 1 6 A := by
  refine entX (by decide) (Nat.le_of_ble_eq_true rfl) ?_
  intro p e s m below meth c ls S0 hlocks hG hno hB hl
  have hx := S0.1
  have hb := S0.2.1
  have hown := S0.2.2.2.1
  have hl : lv_has ls 4 [(0, .ref h0), (1, .int x), (2, .int y), (3, .int z)] := hl
  obtain ⟨⟨hP, hD, hK, hA, hE⟩, hX⟩ := hB
  have hS : va_S A s.heap s.heap [] := va_S.rf
  refine lv_iload_n hx hb dX4_state_0 rfl (lv_at hl 1 rfl) ?_
  refine jnH (x = 0 ∨ x = nI 1) 19 4 [(0, .ref h0), (1, .int x), (2, .int y), (3, .int z)] [] ?_ (fun hj_19 => ?_)
  · intro hp_19 ls hl
    refine lv_iload_n hx hb dX4_state_19 rfl (lv_at hl 2 rfl) ?_
    refine lv_if_lt (tgt := 29) hx hb dX4_state_20 (by decide) (fun c20 => ?_) (fun c20 => ?_)
    · skip
      exact thX (text := _) (u := ()) hlt S0 hno hlocks (by decide +kernel) (hG _ wl_X4_63) (hG _ wn_java_lang_IllegalArgumentException) hX.s74 (hat2 hG hX) gx2 hE hS hl.1 dX4_state_29 dX4_state_32 dX4_state_33 dX4_state_35 dX4_state_38 ⟨by decide, by decide, by decide, by decide⟩ trivial hP hD
    · skip
      refine lv_iload_n hx hb dX4_state_23 rfl (lv_at hl 2 rfl) ?_
      refine lv_bipush (v := (nI 15)) hx hb dX4_state_24 (by decide) ?_
      refine lv_icmp_le (tgt := 39) hx hb dX4_state_26 (by decide) (fun c26 => ?_) (fun c26 => ?_)
      · skip
        refine lv_iload_n hx hb dX4_state_39 rfl (lv_at hl 3 rfl) ?_
        refine lv_iconst (v := (-1)) hx hb dX4_state_40 (by decide) ?_
        refine lv_icmp_eq (tgt := 61) hx hb dX4_state_41 (by decide) (fun c41 => ?_) (fun c41 => ?_)
        · skip
          exact absurd (st0_ok hp_19 c20 c26 (Or.inl c41)) hbad
        · skip
          refine lv_iload_n hx hb dX4_state_44 rfl (lv_at hl 3 rfl) ?_
          refine roI (rnS (As := [.int z]) (rest := []) S0 (c_X4_isSquare l z) wm_X4_49 wt_X4_isSquare wn_X4 wc_X4_isSquare hd_X4_isSquare ⟨rfl, rfl, by decide, by decide⟩ True.blind (fun _ _ _ => trivial) hl.1 (Nat.le_of_ble_eq_true rfl) dX4_state_45 rfl ⟨by decide, by decide⟩) (fun r_1 hr_1 => ?_)
          subst hr_1
          refine lb_if_ne (tgt := 61) hx hb dX4_state_48 (by decide) (fun c48 => ?_) (fun c48 => ?_)
          · skip
            exact absurd (st0_ok hp_19 c20 c26 (Or.inr c48)) hbad
          · skip
            exact thX (text := _) (u := ()) hlt S0 hno hlocks (by decide +kernel) (hG _ wl_X4_63) (hG _ wn_java_lang_IllegalArgumentException) hX.s76 (hat2 hG hX) gx2 hE hS hl.1 dX4_state_51 dX4_state_54 dX4_state_55 dX4_state_57 dX4_state_60 ⟨by decide, by decide, by decide, by decide⟩ trivial hP hD
      · skip
        exact thX (text := _) (u := ()) hlt S0 hno hlocks (by decide +kernel) (hG _ wl_X4_63) (hG _ wn_java_lang_IllegalArgumentException) hX.s74 (hat2 hG hX) gx2 hE hS hl.1 dX4_state_29 dX4_state_32 dX4_state_33 dX4_state_35 dX4_state_38 ⟨by decide, by decide, by decide, by decide⟩ trivial hP hD
  · skip
    refine lv_if_eq (tgt := 19) hx hb dX4_state_1 (by decide) (fun c1 => ?_) (fun c1 => ?_)
    · skip
      exact hj_19 (by first | exact Or.inl c1 | exact Or.inr c6) ls (lv_sub hl [0, 1, 2, 3] rfl)
    · skip
      refine lv_iload_n hx hb dX4_state_4 rfl (lv_at hl 1 rfl) ?_
      refine lv_iconst (v := (nI 1)) hx hb dX4_state_5 (by decide) ?_
      refine lv_icmp_eq (tgt := 19) hx hb dX4_state_6 (by decide) (fun c6 => ?_) (fun c6 => ?_)
      · skip
        exact hj_19 (by first | exact Or.inl c1 | exact Or.inr c6) ls (lv_sub hl [0, 1, 2, 3] rfl)
      · skip
        exact thX (text := _) (u := ()) hlt S0 hno hlocks (by decide +kernel) (hG _ wl_X4_63) (hG _ wn_java_lang_IllegalArgumentException) hX.s72 (hat2 hG hX) gx2 hE hS hl.1 dX4_state_9 dX4_state_12 dX4_state_13 dX4_state_15 dX4_state_18 ⟨by decide, by decide, by decide, by decide⟩ trivial hP hD

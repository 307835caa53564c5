theorem dX1_get_0 : decode cX1_get 0 = .ok (.iload_n 1, 1) := by decide +kernel
theorem dX1_get_1 : decode cX1_get 1 = .ok (.ifCond .lt 29, 3) := by decide +kernel
theorem dX1_get_4 : decode cX1_get 4 = .ok (.iload_n 1, 1) := by decide +kernel
theorem dX1_get_5 : decode cX1_get 5 = .ok (.aload_n 0, 1) := by decide +kernel
theorem dX1_get_6 : decode cX1_get 6 = .ok (.getfield 15, 3) := by decide +kernel
theorem dX1_get_9 : decode cX1_get 9 = .ok (.if_icmp .ge 21, 3) := by decide +kernel
theorem dX1_get_12 : decode cX1_get 12 = .ok (.iload_n 1, 1) := by decide +kernel
theorem dX1_get_13 : decode cX1_get 13 = .ok (.aload_n 0, 1) := by decide +kernel
theorem dX1_get_14 : decode cX1_get 14 = .ok (.getfield 9, 3) := by decide +kernel
theorem dX1_get_17 : decode cX1_get 17 = .ok (.arraylength, 1) := by decide +kernel
theorem dX1_get_18 : decode cX1_get 18 = .ok (.if_icmp .ge 12, 3) := by decide +kernel
theorem dX1_get_21 : decode cX1_get 21 = .ok (.aload_n 0, 1) := by decide +kernel
theorem dX1_get_22 : decode cX1_get 22 = .ok (.getfield 9, 3) := by decide +kernel
theorem dX1_get_25 : decode cX1_get 25 = .ok (.iload_n 1, 1) := by decide +kernel
theorem dX1_get_26 : decode cX1_get 26 = .ok (.iaload, 1) := by decide +kernel
theorem dX1_get_27 : decode cX1_get 27 = .ok (.goto 4, 3) := by decide +kernel
theorem dX1_get_30 : decode cX1_get 30 = .ok (.iconst (-1), 1) := by decide +kernel
theorem dX1_get_31 : decode cX1_get 31 = .ok (.ireturn, 1) := by decide +kernel
theorem hd_X1_get : yX1_get.cls ≠ "java/lang/invoke/MethodHandle" ∧ yX1_get.cls ≠ "java/lang/invoke/VarHandle" ∧ (parseMethodDescriptor yX1_get.desc).map (fun d => d.parameters.length) = some 1 := by decide +kernel
set_option maxHeartbeats 4000000 in
set_option maxRecDepth 100000 in
/-- get -/
theorem c_X1_get (l : Launch) {D : va_G} {cI cJ : ClassId} {A : Nat → Prop} {g0 g1 : Nat} {f : Nat → Int32} (n i : Nat) (hi : i < n) (hn : n ≤ 700) : Met l yX1_get (Cond.code yX1_get cX1_get 2 (some .int) :: wsL_law) (rK 0) (va_Pc [.ref g0, .int (nI i)] (IW D cI cJ A (mW cI g0 g1 (nI n) f))) (vp_Si (fun r => r = f i)) 0 0 (fun _ => False) := by
  refine entM (by decide) (Nat.le_of_ble_eq_true rfl) ?_
  intro p e s m below meth c ls S0 hr hlocks hG hnm hB hl
  have hx := S0.1
  have hb := S0.2.1
  have hown := S0.2.2.2.1
  have hl : lv_has ls 2 [(0, .ref g0), (1, .int (nI i))] := hl
  obtain ⟨hP, hD, hK, hA, hE⟩ := hB
  have hS : va_S A s.heap s.heap [] := va_S.rf
  refine lv_iload_n hx hb dX1_get_0 rfl (lv_at hl 1 rfl) ?_
  refine ln_if_lt (tgt := 30) hx hb dX1_get_1 (by decide) (by omega) ?_
  refine lv_iload_n hx hb dX1_get_4 rfl (lv_at hl 1 rfl) ?_
  refine lv_aload_n hx hb dX1_get_5 rfl (lv_at hl 0 rfl) ?_
  refine va_get (D := D) (ci := 0) (v := .int (nI n)) (C := RX1) (T := TX1) (N := 2) hx hb hG wu_X1 hown hK hP 0 rfl rfl 1 (by decide) (hG _ wf_X1_15) (fun _ h9 => h9) rfl dX1_get_6 ?_
  refine ln_icmp_ge (tgt := 30) hx hb dX1_get_9 (by decide) (by omega) (by omega) (fun c9 => ?_) (fun c9 => ?_)
  · skip
    exact absurd c9 (by omega)
  · skip
    refine lv_iload_n hx hb dX1_get_12 rfl (lv_at hl 1 rfl) ?_
    refine lv_aload_n hx hb dX1_get_13 rfl (lv_at hl 0 rfl) ?_
    refine va_get (D := D) (ci := 0) (v := .ref g1) (C := RX1) (T := TX1) (N := 2) hx hb hG wu_X1 hown hK hP 0 rfl rfl 0 (by decide) (hG _ wf_X1_9) (fun _ h9 => h9) rfl dX1_get_14 ?_
    refine va_alen (v := nI 700) hx hb hK hP 1 0 rfl rfl rfl dX1_get_17 ?_
    refine ln_icmp_ge (tgt := 30) hx hb dX1_get_18 (by decide) (by omega) (by decide) (fun c18 => ?_) (fun c18 => ?_)
    · skip
      exact absurd c18 (by omega)
    · skip
      refine lv_aload_n hx hb dX1_get_21 rfl (lv_at hl 0 rfl) ?_
      refine va_get (D := D) (ci := 0) (v := .ref g1) (C := RX1) (T := TX1) (N := 2) hx hb hG wu_X1 hown hK hP 0 rfl rfl 0 (by decide) (hG _ wf_X1_9) (fun _ h9 => h9) rfl dX1_get_22 ?_
      refine lv_iload_n hx hb dX1_get_25 rfl (lv_at hl 1 rfl) ?_
      refine va_iald hx hb hK hP 1 0 rfl rfl (vp_in_nI (by omega) (by decide)) dX1_get_26 ?_
      refine W.top (y := .int (f i)) (congrArg (fun z => Value.int (f z)) (nI_clamp (by omega))) ?_
      refine lv_goto (tgt := 31) hx hb dX1_get_27 (by decide) ?_
      exact reI hx hb hr hlocks dX1_get_31 rfl
theorem dX1_placeOf_0 : decode cX1_placeOf 0 = .ok (.iconst 0, 1) := by decide +kernel
theorem dX1_placeOf_1 : decode cX1_placeOf 1 = .ok (.istore_n 2, 1) := by decide +kernel
theorem dX1_placeOf_2 : decode cX1_placeOf 2 = .ok (.iload_n 2, 1) := by decide +kernel
theorem dX1_placeOf_3 : decode cX1_placeOf 3 = .ok (.aload_n 0, 1) := by decide +kernel
theorem dX1_placeOf_4 : decode cX1_placeOf 4 = .ok (.getfield 15, 3) := by decide +kernel
theorem dX1_placeOf_7 : decode cX1_placeOf 7 = .ok (.if_icmp .ge 20, 3) := by decide +kernel
theorem dX1_placeOf_10 : decode cX1_placeOf 10 = .ok (.aload_n 0, 1) := by decide +kernel
theorem dX1_placeOf_11 : decode cX1_placeOf 11 = .ok (.iload_n 2, 1) := by decide +kernel
theorem dX1_placeOf_12 : decode cX1_placeOf 12 = .ok (.invokevirtual 19, 3) := by decide +kernel
theorem dX1_placeOf_15 : decode cX1_placeOf 15 = .ok (.iload_n 1, 1) := by decide +kernel
theorem dX1_placeOf_16 : decode cX1_placeOf 16 = .ok (.if_icmp .ne 5, 3) := by decide +kernel
theorem dX1_placeOf_19 : decode cX1_placeOf 19 = .ok (.iload_n 2, 1) := by decide +kernel
theorem dX1_placeOf_20 : decode cX1_placeOf 20 = .ok (.ireturn, 1) := by decide +kernel
theorem dX1_placeOf_21 : decode cX1_placeOf 21 = .ok (.iinc 2 1, 3) := by decide +kernel
theorem dX1_placeOf_24 : decode cX1_placeOf 24 = .ok (.goto (-22), 3) := by decide +kernel
theorem dX1_placeOf_27 : decode cX1_placeOf 27 = .ok (.iconst (-1), 1) := by decide +kernel
theorem dX1_placeOf_28 : decode cX1_placeOf 28 = .ok (.ireturn, 1) := by decide +kernel
theorem hd_X1_placeOf : yX1_placeOf.cls ≠ "java/lang/invoke/MethodHandle" ∧ yX1_placeOf.cls ≠ "java/lang/invoke/VarHandle" ∧ (parseMethodDescriptor yX1_placeOf.desc).map (fun d => d.parameters.length) = some 1 := by decide +kernel
set_option maxHeartbeats 4000000 in
set_option maxRecDepth 100000 in
/-- placeOf -/
theorem c_X1_placeOf (l : Launch) {D : va_G} {cI cJ : ClassId} {A : Nat → Prop} {g0 g1 : Nat} {f : Nat → Int32} (L : List Nat) (hL : LI f L) (hn : L.length ≤ 700) (x : Int32) : Met l yX1_placeOf (Cond.code yX1_placeOf cX1_placeOf 3 (some .int) :: wsL_law) (rK 1) (va_Pc [.ref g0, .int x] (IW D cI cJ A (mW cI g0 g1 (nI L.length) f))) (vp_Si (fun r => r = fplN L x L.length)) 0 0 (fun _ => False) := by
  refine entM (by decide) (Nat.le_of_ble_eq_true rfl) ?_
  intro p e s m below meth c ls S0 hr hlocks hG hnm hB hl
  have hx := S0.1
  have hb := S0.2.1
  have hown := S0.2.2.2.1
  have hl : lv_has ls 3 [(0, .ref g0), (1, .int x)] := hl
  obtain ⟨hP, hD, hK, hA, hE⟩ := hB
  have hS : va_S A s.heap s.heap [] := va_S.rf
  refine lv_iconst (v := (nI 0)) hx hb dX1_placeOf_0 (by decide) ?_
  refine lv_istore_n (lv' := [(2, .int (nI 0)), (0, .ref g0), (1, .int x)]) hx hb dX1_placeOf_1 rfl hl (by decide) rfl (fun ls hl => ?_)
  refine lpR (σ := (Nat)) 2 3 [] (fun x9 => [(0, .ref g0), (1, .int x), (2, .int (nI x9))]) (fun x9 => x9 ≤ L.length ∧ fplN L x L.length = fplN L x (L.length - x9)) (fun x9 => L.length - x9) 0 ⟨Nat.zero_le _, rfl⟩ (lv_sub hl [1, 2, 0] rfl) ?_
  clear hl ls
  rintro i hI ih_2 ls hl
  try dsimp only at hI ih_2 hl
  obtain ⟨hi, he⟩ := hI
  refine lv_iload_n hx hb dX1_placeOf_2 rfl (lv_at hl 2 rfl) ?_
  refine lv_aload_n hx hb dX1_placeOf_3 rfl (lv_at hl 0 rfl) ?_
  refine va_get (D := D) (ci := 0) (v := .int (nI L.length)) (C := RX1) (T := TX1) (N := 2) hx hb hG wu_X1 hown hK hP 0 rfl rfl 1 (by decide) (hG _ wf_X1_15) (fun _ h9 => h9) rfl dX1_placeOf_4 ?_
  refine ln_icmp_ge (tgt := 27) hx hb dX1_placeOf_7 (by decide) (by omega) (by omega) (fun c7 => ?_) (fun c7 => ?_)
  · skip
    refine lv_iconst (v := (-1)) hx hb dX1_placeOf_27 (by decide) ?_
    exact reI hx hb hr hlocks dX1_placeOf_28 (by rw [he, show i = L.length by omega, Nat.sub_self]; rfl)
  · skip
    refine lv_aload_n hx hb dX1_placeOf_10 rfl (lv_at hl 0 rfl) ?_
    refine lv_iload_n hx hb dX1_placeOf_11 rfl (lv_at hl 2 rfl) ?_
    refine roI (rnV (As := [.int (nI i)]) (rest := []) S0 (c_X1_get l L.length i (by omega) (by omega)) wm_X1_19 wi_X1_get ws_X1_get wn_X1 wc_X1_get hd_X1_get ⟨rfl, rfl, by decide, by decide⟩ IW.blind (va_recv hK hP (ci := 0) (q0 := 0) rfl rfl) (IW.at hP hD hK hA hE hS) hl.1 (Nat.le_of_ble_eq_true rfl) dX1_placeOf_12 rfl ⟨by decide, by decide⟩) (fun r_1 hr_1 => ?_)
    subst hr_1
    refine W.top (y := .int (nI (L.getD i 0))) (congrArg Value.int (hL i (by omega))) ?_
    refine lv_iload_n hx hb dX1_placeOf_15 rfl (lv_at hl 1 rfl) ?_
    refine lv_icmp_ne (tgt := 21) hx hb dX1_placeOf_16 (by decide) (fun c16 => ?_) (fun c16 => ?_)
    · skip
      refine lv_iinc (v := (nI (i + 1))) (lv' := [(2, .int (nI (i + 1))), (0, .ref g0), (1, .int x)]) hx hb dX1_placeOf_21 hl (k := 2) rfl (show nI i + Int32.ofInt 1 = nI (i + 1) from nI_add _ 1) (by decide) rfl (fun ls hl => ?_)
      refine lv_goto (tgt := 2) hx hb dX1_placeOf_24 (by decide) ?_
      exact ih_2 (i + 1) ⟨by omega, by rw [he, fplN_i (by omega), if_neg c16]⟩ (by (try dsimp only); omega) ls (lv_sub hl [1, 2, 0] rfl)
    · skip
      refine lv_iload_n hx hb dX1_placeOf_19 rfl (lv_at hl 2 rfl) ?_
      exact reI hx hb hr hlocks dX1_placeOf_20 (by rw [he, fplN_i (by omega), if_pos c16])
theorem dX1_add_0 : decode cX1_add 0 = .ok (.aload_n 0, 1) := by decide +kernel
theorem dX1_add_1 : decode cX1_add 1 = .ok (.getfield 15, 3) := by decide +kernel
theorem dX1_add_4 : decode cX1_add 4 = .ok (.ifCond .lt 35, 3) := by decide +kernel
theorem dX1_add_7 : decode cX1_add 7 = .ok (.aload_n 0, 1) := by decide +kernel
theorem dX1_add_8 : decode cX1_add 8 = .ok (.getfield 15, 3) := by decide +kernel
theorem dX1_add_11 : decode cX1_add 11 = .ok (.aload_n 0, 1) := by decide +kernel
theorem dX1_add_12 : decode cX1_add 12 = .ok (.getfield 9, 3) := by decide +kernel
theorem dX1_add_15 : decode cX1_add 15 = .ok (.arraylength, 1) := by decide +kernel
theorem dX1_add_16 : decode cX1_add 16 = .ok (.if_icmp .ge 23, 3) := by decide +kernel
theorem dX1_add_19 : decode cX1_add 19 = .ok (.aload_n 0, 1) := by decide +kernel
theorem dX1_add_20 : decode cX1_add 20 = .ok (.getfield 9, 3) := by decide +kernel
theorem dX1_add_23 : decode cX1_add 23 = .ok (.aload_n 0, 1) := by decide +kernel
theorem dX1_add_24 : decode cX1_add 24 = .ok (.getfield 15, 3) := by decide +kernel
theorem dX1_add_27 : decode cX1_add 27 = .ok (.iload_n 1, 1) := by decide +kernel
theorem dX1_add_28 : decode cX1_add 28 = .ok (.iastore, 1) := by decide +kernel
theorem dX1_add_29 : decode cX1_add 29 = .ok (.aload_n 0, 1) := by decide +kernel
theorem dX1_add_30 : decode cX1_add 30 = .ok (.dup, 1) := by decide +kernel
theorem dX1_add_31 : decode cX1_add 31 = .ok (.getfield 15, 3) := by decide +kernel
theorem dX1_add_34 : decode cX1_add 34 = .ok (.iconst 1, 1) := by decide +kernel
theorem dX1_add_35 : decode cX1_add 35 = .ok (.iadd, 1) := by decide +kernel
theorem dX1_add_36 : decode cX1_add 36 = .ok (.putfield 15, 3) := by decide +kernel
theorem dX1_add_39 : decode cX1_add 39 = .ok (.return_, 1) := by decide +kernel
theorem hd_X1_add : yX1_add.cls ≠ "java/lang/invoke/MethodHandle" ∧ yX1_add.cls ≠ "java/lang/invoke/VarHandle" ∧ (parseMethodDescriptor yX1_add.desc).map (fun d => d.parameters.length) = some 1 := by decide +kernel
set_option maxHeartbeats 4000000 in
set_option maxRecDepth 100000 in
/-- add -/
theorem c_X1_add_L (l : Launch) {D : va_G} {cI cJ : ClassId} {A : Nat → Prop} {h0 h1 h2 a0 a1 a2 a3 h3 a4 h4 a5 : Nat} {kn op : Int32} {ow tr fu kg co pn : Int64} {si ri pa ma : Int32} {pcs : Nat → Int32} {sqa : Nat → Int64} {mvs los : Nat → Int32} {lfs : Nat → Int32} {asz : Int32} {afs : Nat → Int32} (n : Nat) (hn : n < 700) (x : Int32) : Met l yX1_add (Cond.code yX1_add cX1_add 2 none :: wsL_law) (rK 0) (va_Pc [.ref h3, .int x] (IW D cI cJ A (cW cI cJ h0 h1 h2 a0 a1 a2 a3 h3 a4 h4 a5 kn op ow tr fu kg co pn si ri pa ma pcs sqa mvs los (nI n) lfs asz afs))) (va_Qv (fun _ => True) (fun (u : Unit) t9 => IW D cI cJ A (cW cI cJ h0 h1 h2 a0 a1 a2 a3 h3 a4 h4 a5 kn op ow tr fu kg co pn si ri pa ma pcs sqa mvs los (nI (n + 1)) (upd lfs n x) asz afs) t9) A) 0 0 A := by
  refine entM (by decide) (Nat.le_of_ble_eq_true rfl) ?_
  intro p e s m below meth c ls S0 hr hlocks hG hnm hB hl
  have hx := S0.1
  have hb := S0.2.1
  have hown := S0.2.2.2.1
  have hl : lv_has ls 2 [(0, .ref h3), (1, .int x)] := hl
  obtain ⟨hP, hD, hK, hA, hE⟩ := hB
  have hS : va_S A s.heap s.heap [] := va_S.rf
  refine lv_aload_n hx hb dX1_add_0 rfl (lv_at hl 0 rfl) ?_
  refine va_get (D := D) (ci := 0) (v := .int (nI n)) (C := RX1) (T := TX1) (N := 2) hx hb hG wu_X1 hown hK hP 7 rfl rfl 1 (by decide) (hG _ wf_X1_15) (fun _ h9 => h9) rfl dX1_add_1 ?_
  refine ln_if_lt (tgt := 39) hx hb dX1_add_4 (by decide) (by omega) ?_
  refine lv_aload_n hx hb dX1_add_7 rfl (lv_at hl 0 rfl) ?_
  refine va_get (D := D) (ci := 0) (v := .int (nI n)) (C := RX1) (T := TX1) (N := 2) hx hb hG wu_X1 hown hK hP 7 rfl rfl 1 (by decide) (hG _ wf_X1_15) (fun _ h9 => h9) rfl dX1_add_8 ?_
  refine lv_aload_n hx hb dX1_add_11 rfl (lv_at hl 0 rfl) ?_
  refine va_get (D := D) (ci := 0) (v := .ref a4) (C := RX1) (T := TX1) (N := 2) hx hb hG wu_X1 hown hK hP 7 rfl rfl 0 (by decide) (hG _ wf_X1_9) (fun _ h9 => h9) rfl dX1_add_12 ?_
  refine va_alen (v := nI 700) hx hb hK hP 8 0 rfl rfl rfl dX1_add_15 ?_
  refine ln_icmp_ge (tgt := 39) hx hb dX1_add_16 (by decide) (by omega) (by decide) (fun c16 => ?_) (fun c16 => ?_)
  · skip
    exact absurd c16 (by omega)
  · skip
    refine lv_aload_n hx hb dX1_add_19 rfl (lv_at hl 0 rfl) ?_
    refine va_get (D := D) (ci := 0) (v := .ref a4) (C := RX1) (T := TX1) (N := 2) hx hb hG wu_X1 hown hK hP 7 rfl rfl 0 (by decide) (hG _ wf_X1_9) (fun _ h9 => h9) rfl dX1_add_20 ?_
    refine lv_aload_n hx hb dX1_add_23 rfl (lv_at hl 0 rfl) ?_
    refine va_get (D := D) (ci := 0) (v := .int (nI n)) (C := RX1) (T := TX1) (N := 2) hx hb hG wu_X1 hown hK hP 7 rfl rfl 1 (by decide) (hG _ wf_X1_15) (fun _ h9 => h9) rfl dX1_add_24 ?_
    refine lv_iload_n hx hb dX1_add_27 rfl (lv_at hl 1 rfl) ?_
    refine va_iast hx hb hK hP hD hS 8 0 rfl rfl (vp_in_nI (by omega) (by decide)) dX1_add_28 (fun H locs hP hD hS => ?_)
    rw [nI_clamp (show n < 2 ^ 31 by omega)] at hP hD
    have hP : va_P D classes (cW cI cJ h0 h1 h2 a0 a1 a2 a3 h3 a4 h4 a5 kn op ow tr fu kg co pn si ri pa ma pcs sqa mvs los (nI n) (upd lfs n x) asz afs) H := hP
    have hD : va_D A (cW cI cJ h0 h1 h2 a0 a1 a2 a3 h3 a4 h4 a5 kn op ow tr fu kg co pn si ri pa ma pcs sqa mvs los (nI n) (upd lfs n x) asz afs) := hD
    refine lv_aload_n hx hb dX1_add_29 rfl (lv_at hl 0 rfl) ?_
    refine lv_dup hx hb dX1_add_30 rfl ?_
    refine va_get (D := D) (ci := 0) (v := .int (nI n)) (C := RX1) (T := TX1) (N := 2) hx hb hG wu_X1 hown hK hP 7 rfl rfl 1 (by decide) (hG _ wf_X1_15) (fun _ h9 => h9) rfl dX1_add_31 ?_
    refine lv_iconst (v := (nI 1)) hx hb dX1_add_34 (by decide) ?_
    refine ln_iadd hx hb dX1_add_35 ?_
    refine va_put (D := D) (ci := 0) (v := .int (nI (n + 1))) (ty := .int) (C := RX1) (T := TX1) (N := 2) hx hb hG wu_X1 tyX1 tyX1_ok nmX1 hown hK hP hD hS 7 rfl rfl 1 (by decide) (hG _ wf_X1_15) (fun _ h9 => h9) rfl (by decide +kernel) rfl rfl (Nat.le_of_ble_eq_true rfl) dX1_add_36 (fun H locs hP hD hS => ?_)
    have hP : va_P D classes (cW cI cJ h0 h1 h2 a0 a1 a2 a3 h3 a4 h4 a5 kn op ow tr fu kg co pn si ri pa ma pcs sqa mvs los (nI (n + 1)) (upd lfs n x) asz afs) H := hP
    have hD : va_D A (cW cI cJ h0 h1 h2 a0 a1 a2 a3 h3 a4 h4 a5 kn op ow tr fu kg co pn si ri pa ma pcs sqa mvs los (nI (n + 1)) (upd lfs n x) asz afs) := hD
    exact weV (()) hx hb hr hlocks dX1_add_39 trivial hP hD hK hA hE hS
set_option maxHeartbeats 4000000 in
set_option maxRecDepth 100000 in
/-- add -/
theorem c_X1_add_A (l : Launch) {D : va_G} {cI cJ : ClassId} {A : Nat → Prop} {h0 h1 h2 a0 a1 a2 a3 h3 a4 h4 a5 : Nat} {kn op : Int32} {ow tr fu kg co pn : Int64} {si ri pa ma : Int32} {pcs : Nat → Int32} {sqa : Nat → Int64} {mvs los : Nat → Int32} {lsz : Int32} {lfs : Nat → Int32} {afs : Nat → Int32} (n : Nat) (hn : n < 700) (x : Int32) : Met l yX1_add (Cond.code yX1_add cX1_add 2 none :: wsL_law) (rK 0) (va_Pc [.ref h4, .int x] (IW D cI cJ A (cW cI cJ h0 h1 h2 a0 a1 a2 a3 h3 a4 h4 a5 kn op ow tr fu kg co pn si ri pa ma pcs sqa mvs los lsz lfs (nI n) afs))) (va_Qv (fun _ => True) (fun (u : Unit) t9 => IW D cI cJ A (cW cI cJ h0 h1 h2 a0 a1 a2 a3 h3 a4 h4 a5 kn op ow tr fu kg co pn si ri pa ma pcs sqa mvs los lsz lfs (nI (n + 1)) (upd afs n x)) t9) A) 0 0 A := by
  refine entM (by decide) (Nat.le_of_ble_eq_true rfl) ?_
  intro p e s m below meth c ls S0 hr hlocks hG hnm hB hl
  have hx := S0.1
  have hb := S0.2.1
  have hown := S0.2.2.2.1
  have hl : lv_has ls 2 [(0, .ref h4), (1, .int x)] := hl
  obtain ⟨hP, hD, hK, hA, hE⟩ := hB
  have hS : va_S A s.heap s.heap [] := va_S.rf
  refine lv_aload_n hx hb dX1_add_0 rfl (lv_at hl 0 rfl) ?_
  refine va_get (D := D) (ci := 0) (v := .int (nI n)) (C := RX1) (T := TX1) (N := 2) hx hb hG wu_X1 hown hK hP 9 rfl rfl 1 (by decide) (hG _ wf_X1_15) (fun _ h9 => h9) rfl dX1_add_1 ?_
  refine ln_if_lt (tgt := 39) hx hb dX1_add_4 (by decide) (by omega) ?_
  refine lv_aload_n hx hb dX1_add_7 rfl (lv_at hl 0 rfl) ?_
  refine va_get (D := D) (ci := 0) (v := .int (nI n)) (C := RX1) (T := TX1) (N := 2) hx hb hG wu_X1 hown hK hP 9 rfl rfl 1 (by decide) (hG _ wf_X1_15) (fun _ h9 => h9) rfl dX1_add_8 ?_
  refine lv_aload_n hx hb dX1_add_11 rfl (lv_at hl 0 rfl) ?_
  refine va_get (D := D) (ci := 0) (v := .ref a5) (C := RX1) (T := TX1) (N := 2) hx hb hG wu_X1 hown hK hP 9 rfl rfl 0 (by decide) (hG _ wf_X1_9) (fun _ h9 => h9) rfl dX1_add_12 ?_
  refine va_alen (v := nI 700) hx hb hK hP 10 0 rfl rfl rfl dX1_add_15 ?_
  refine ln_icmp_ge (tgt := 39) hx hb dX1_add_16 (by decide) (by omega) (by decide) (fun c16 => ?_) (fun c16 => ?_)
  · skip
    exact absurd c16 (by omega)
  · skip
    refine lv_aload_n hx hb dX1_add_19 rfl (lv_at hl 0 rfl) ?_
    refine va_get (D := D) (ci := 0) (v := .ref a5) (C := RX1) (T := TX1) (N := 2) hx hb hG wu_X1 hown hK hP 9 rfl rfl 0 (by decide) (hG _ wf_X1_9) (fun _ h9 => h9) rfl dX1_add_20 ?_
    refine lv_aload_n hx hb dX1_add_23 rfl (lv_at hl 0 rfl) ?_
    refine va_get (D := D) (ci := 0) (v := .int (nI n)) (C := RX1) (T := TX1) (N := 2) hx hb hG wu_X1 hown hK hP 9 rfl rfl 1 (by decide) (hG _ wf_X1_15) (fun _ h9 => h9) rfl dX1_add_24 ?_
    refine lv_iload_n hx hb dX1_add_27 rfl (lv_at hl 1 rfl) ?_
    refine va_iast hx hb hK hP hD hS 10 0 rfl rfl (vp_in_nI (by omega) (by decide)) dX1_add_28 (fun H locs hP hD hS => ?_)
    rw [nI_clamp (show n < 2 ^ 31 by omega)] at hP hD
    have hP : va_P D classes (cW cI cJ h0 h1 h2 a0 a1 a2 a3 h3 a4 h4 a5 kn op ow tr fu kg co pn si ri pa ma pcs sqa mvs los lsz lfs (nI n) (upd afs n x)) H := hP
    have hD : va_D A (cW cI cJ h0 h1 h2 a0 a1 a2 a3 h3 a4 h4 a5 kn op ow tr fu kg co pn si ri pa ma pcs sqa mvs los lsz lfs (nI n) (upd afs n x)) := hD
    refine lv_aload_n hx hb dX1_add_29 rfl (lv_at hl 0 rfl) ?_
    refine lv_dup hx hb dX1_add_30 rfl ?_
    refine va_get (D := D) (ci := 0) (v := .int (nI n)) (C := RX1) (T := TX1) (N := 2) hx hb hG wu_X1 hown hK hP 9 rfl rfl 1 (by decide) (hG _ wf_X1_15) (fun _ h9 => h9) rfl dX1_add_31 ?_
    refine lv_iconst (v := (nI 1)) hx hb dX1_add_34 (by decide) ?_
    refine ln_iadd hx hb dX1_add_35 ?_
    refine va_put (D := D) (ci := 0) (v := .int (nI (n + 1))) (ty := .int) (C := RX1) (T := TX1) (N := 2) hx hb hG wu_X1 tyX1 tyX1_ok nmX1 hown hK hP hD hS 9 rfl rfl 1 (by decide) (hG _ wf_X1_15) (fun _ h9 => h9) rfl (by decide +kernel) rfl rfl (Nat.le_of_ble_eq_true rfl) dX1_add_36 (fun H locs hP hD hS => ?_)
    have hP : va_P D classes (cW cI cJ h0 h1 h2 a0 a1 a2 a3 h3 a4 h4 a5 kn op ow tr fu kg co pn si ri pa ma pcs sqa mvs los lsz lfs (nI (n + 1)) (upd afs n x)) H := hP
    have hD : va_D A (cW cI cJ h0 h1 h2 a0 a1 a2 a3 h3 a4 h4 a5 kn op ow tr fu kg co pn si ri pa ma pcs sqa mvs los lsz lfs (nI (n + 1)) (upd afs n x)) := hD
    exact weV (()) hx hb hr hlocks dX1_add_39 trivial hP hD hK hA hE hS
theorem dX3_addMoves_0 : decode cX3_addMoves 0 = .ok (.lload_n 3, 1) := by decide +kernel
theorem dX3_addMoves_1 : decode cX3_addMoves 1 = .ok (.lstore 5, 2) := by decide +kernel
theorem dX3_addMoves_3 : decode cX3_addMoves 3 = .ok (.lload 5, 2) := by decide +kernel
theorem dX3_addMoves_5 : decode cX3_addMoves 5 = .ok (.invokestatic 40, 3) := by decide +kernel
theorem dX3_addMoves_8 : decode cX3_addMoves 8 = .ok (.istore 7, 2) := by decide +kernel
theorem dX3_addMoves_10 : decode cX3_addMoves 10 = .ok (.iconst 0, 1) := by decide +kernel
theorem dX3_addMoves_11 : decode cX3_addMoves 11 = .ok (.istore 8, 2) := by decide +kernel
theorem dX3_addMoves_13 : decode cX3_addMoves 13 = .ok (.iload 8, 2) := by decide +kernel
theorem dX3_addMoves_15 : decode cX3_addMoves 15 = .ok (.iload 7, 2) := by decide +kernel
theorem dX3_addMoves_17 : decode cX3_addMoves 17 = .ok (.if_icmp .ge 94, 3) := by decide +kernel
theorem dX3_addMoves_20 : decode cX3_addMoves 20 = .ok (.lload 5, 2) := by decide +kernel
theorem dX3_addMoves_22 : decode cX3_addMoves 22 = .ok (.lload 5, 2) := by decide +kernel
theorem dX3_addMoves_24 : decode cX3_addMoves 24 = .ok (.lneg, 1) := by decide +kernel
theorem dX3_addMoves_25 : decode cX3_addMoves 25 = .ok (.land, 1) := by decide +kernel
theorem dX3_addMoves_26 : decode cX3_addMoves 26 = .ok (.lstore 9, 2) := by decide +kernel
theorem dX3_addMoves_28 : decode cX3_addMoves 28 = .ok (.lload 5, 2) := by decide +kernel
theorem dX3_addMoves_30 : decode cX3_addMoves 30 = .ok (.lload 5, 2) := by decide +kernel
theorem dX3_addMoves_32 : decode cX3_addMoves 32 = .ok (.lconst 1, 1) := by decide +kernel
theorem dX3_addMoves_33 : decode cX3_addMoves 33 = .ok (.lsub, 1) := by decide +kernel
theorem dX3_addMoves_34 : decode cX3_addMoves 34 = .ok (.land, 1) := by decide +kernel
theorem dX3_addMoves_35 : decode cX3_addMoves 35 = .ok (.lstore 5, 2) := by decide +kernel
theorem dX3_addMoves_37 : decode cX3_addMoves 37 = .ok (.iload_n 2, 1) := by decide +kernel
theorem dX3_addMoves_38 : decode cX3_addMoves 38 = .ok (.bipush 64, 2) := by decide +kernel
theorem dX3_addMoves_40 : decode cX3_addMoves 40 = .ok (.lload 9, 2) := by decide +kernel
theorem dX3_addMoves_42 : decode cX3_addMoves 42 = .ok (.invokestatic 46, 3) := by decide +kernel
theorem dX3_addMoves_45 : decode cX3_addMoves 45 = .ok (.imul, 1) := by decide +kernel
theorem dX3_addMoves_46 : decode cX3_addMoves 46 = .ok (.iadd, 1) := by decide +kernel
theorem dX3_addMoves_47 : decode cX3_addMoves 47 = .ok (.istore 11, 2) := by decide +kernel
theorem dX3_addMoves_49 : decode cX3_addMoves 49 = .ok (.aload_n 0, 1) := by decide +kernel
theorem dX3_addMoves_50 : decode cX3_addMoves 50 = .ok (.iload_n 2, 1) := by decide +kernel
theorem dX3_addMoves_51 : decode cX3_addMoves 51 = .ok (.invokevirtual 53, 3) := by decide +kernel
theorem dX3_addMoves_54 : decode cX3_addMoves 54 = .ok (.ifCond .eq 45, 3) := by decide +kernel
theorem dX3_addMoves_57 : decode cX3_addMoves 57 = .ok (.lload 9, 2) := by decide +kernel
theorem dX3_addMoves_59 : decode cX3_addMoves 59 = .ok (.ldc2_w 57, 3) := by decide +kernel
theorem dX3_addMoves_62 : decode cX3_addMoves 62 = .ok (.land, 1) := by decide +kernel
theorem dX3_addMoves_63 : decode cX3_addMoves 63 = .ok (.lconst 0, 1) := by decide +kernel
theorem dX3_addMoves_64 : decode cX3_addMoves 64 = .ok (.lcmp, 1) := by decide +kernel
theorem dX3_addMoves_65 : decode cX3_addMoves 65 = .ok (.ifCond .eq 34, 3) := by decide +kernel
theorem dX3_addMoves_68 : decode cX3_addMoves 68 = .ok (.iconst 2, 1) := by decide +kernel
theorem dX3_addMoves_69 : decode cX3_addMoves 69 = .ok (.istore 12, 2) := by decide +kernel
theorem dX3_addMoves_71 : decode cX3_addMoves 71 = .ok (.iload 12, 2) := by decide +kernel
theorem dX3_addMoves_73 : decode cX3_addMoves 73 = .ok (.iconst 5, 1) := by decide +kernel
theorem dX3_addMoves_74 : decode cX3_addMoves 74 = .ok (.if_icmp .gt 22, 3) := by decide +kernel
theorem dX3_addMoves_77 : decode cX3_addMoves 77 = .ok (.aload_n 1, 1) := by decide +kernel
theorem dX3_addMoves_78 : decode cX3_addMoves 78 = .ok (.iload 11, 2) := by decide +kernel
theorem dX3_addMoves_80 : decode cX3_addMoves 80 = .ok (.sipush 4096, 3) := by decide +kernel
theorem dX3_addMoves_83 : decode cX3_addMoves 83 = .ok (.iload 12, 2) := by decide +kernel
theorem dX3_addMoves_85 : decode cX3_addMoves 85 = .ok (.imul, 1) := by decide +kernel
theorem dX3_addMoves_86 : decode cX3_addMoves 86 = .ok (.iadd, 1) := by decide +kernel
theorem dX3_addMoves_87 : decode cX3_addMoves 87 = .ok (.invokevirtual 69, 3) := by decide +kernel
theorem dX3_addMoves_90 : decode cX3_addMoves 90 = .ok (.iinc 12 1, 3) := by decide +kernel
theorem dX3_addMoves_93 : decode cX3_addMoves 93 = .ok (.goto (-22), 3) := by decide +kernel
theorem dX3_addMoves_96 : decode cX3_addMoves 96 = .ok (.goto 9, 3) := by decide +kernel
theorem dX3_addMoves_99 : decode cX3_addMoves 99 = .ok (.aload_n 1, 1) := by decide +kernel
theorem dX3_addMoves_100 : decode cX3_addMoves 100 = .ok (.iload 11, 2) := by decide +kernel
theorem dX3_addMoves_102 : decode cX3_addMoves 102 = .ok (.invokevirtual 69, 3) := by decide +kernel
theorem dX3_addMoves_105 : decode cX3_addMoves 105 = .ok (.iinc 8 1, 3) := by decide +kernel
theorem dX3_addMoves_108 : decode cX3_addMoves 108 = .ok (.goto (-95), 3) := by decide +kernel
theorem dX3_addMoves_111 : decode cX3_addMoves 111 = .ok (.return_, 1) := by decide +kernel
theorem hd_X3_addMoves : yX3_addMoves.cls ≠ "java/lang/invoke/MethodHandle" ∧ yX3_addMoves.cls ≠ "java/lang/invoke/VarHandle" ∧ (parseMethodDescriptor yX3_addMoves.desc).map (fun d => d.parameters.length) = some 3 := by decide +kernel
set_option maxHeartbeats 4000000 in
set_option maxRecDepth 100000 in
/-- addMoves -/
theorem c_X3_addMoves_L (l : Launch) {D : va_G} {cI cJ : ClassId} {A : Nat → Prop} {h0 h1 h2 a0 a1 a2 a3 h3 a4 h4 a5 : Nat} {kn op : Int32} {ow tr fu kg co pn : Int64} {si ri pa ma : Int32} {pcs : Nat → Int32} {sqa : Nat → Int64} {mvs los : Nat → Int32} {lfs : Nat → Int32} {asz : Int32} {afs : Nat → Int32} (bd : Nat → Nat) (hCP : CP pcs sqa bd) (f : Nat) (hf : f < 64) (T : Int64) (L0 : List Nat) (hL0 : LI lfs L0) (hlen : (L0 ++ amv bd f T).length ≤ 700) : Met l yX3_addMoves (Cond.code yX3_addMoves cX3_addMoves 13 none :: wsL_law) (rK 2) (va_Pc [.ref h1, .ref h3, .int (nI f), .long T] (IW D cI cJ A (cW cI cJ h0 h1 h2 a0 a1 a2 a3 h3 a4 h4 a5 kn op ow tr fu kg co pn si ri pa ma pcs sqa mvs los (nI L0.length) lfs asz afs))) (va_Qv (fun u => LI u (L0 ++ amv bd f T)) (fun (u : Nat → Int32) t9 => IW D cI cJ A (cW cI cJ h0 h1 h2 a0 a1 a2 a3 h3 a4 h4 a5 kn op ow tr fu kg co pn si ri pa ma pcs sqa mvs los (nI (L0 ++ amv bd f T).length) u asz afs) t9) A) 0 0 A := by
  refine entM (by decide) (Nat.le_of_ble_eq_true rfl) ?_
  intro p e s m below meth c ls S0 hr hlocks hG hnm hB hl
  have hx := S0.1
  have hb := S0.2.1
  have hown := S0.2.2.2.1
  have hl : lv_has ls 13 [(0, .ref h1), (1, .ref h3), (2, .int (nI f)), (3, .long T)] := hl
  obtain ⟨hP, hD, hK, hA, hE⟩ := hB
  have hS : va_S A s.heap s.heap [] := va_S.rf
  have hpl := pop_le T
  have hll : ∀ j, j ≤ pop T → (L0 ++ amT bd f T j).length ≤ 700 := fun j hj => by have := amT_le (bd := bd) (f := f) hj; rw [List.length_append] at hlen ⊢; omega
  refine lv_lload_n hx hb dX3_addMoves_0 rfl (lv_at hl 3 rfl) ?_
  refine W.top (y := .long (rmb T 0)) (congrArg Value.long rfl) ?_
  refine lv_lstore (lv' := [(5, .long (rmb T 0)), (0, .ref h1), (1, .ref h3), (2, .int (nI f)), (3, .long T)]) hx hb dX3_addMoves_1 hl (by decide) rfl (fun ls hl => ?_)
  refine lv_lload hx hb dX3_addMoves_3 (lv_at hl 0 rfl) ?_
  refine roI (rnS (As := [.long (rmb T 0)]) (rest := []) S0 (c_J13_bitCount_95d88 l (rmb T 0)) wm_X3_40 wt_J13_bitCount_95d88 wn_J13 wc_J13_bitCount_95d88 hd_J13_bitCount_95d88 ⟨rfl, rfl, by decide, by decide⟩ True.blind (fun _ _ _ => trivial) hl.1 (Nat.le_of_ble_eq_true rfl) dX3_addMoves_5 rfl ⟨by decide, by decide⟩) (fun r_1 hr_1 => ?_)
  subst hr_1
  refine W.top (y := .int (nI (pop T))) (congrArg Value.int (bcE_pop _)) ?_
  refine lv_istore (lv' := [(7, .int (nI (pop T))), (5, .long (rmb T 0)), (0, .ref h1), (1, .ref h3), (2, .int (nI f)), (3, .long T)]) hx hb dX3_addMoves_8 hl (by decide) rfl (fun ls hl => ?_)
  refine lv_iconst (v := (nI 0)) hx hb dX3_addMoves_10 (by decide) ?_
  refine lv_istore (lv' := [(8, .int (nI 0)), (7, .int (nI (pop T))), (5, .long (rmb T 0)), (0, .ref h1), (1, .ref h3), (2, .int (nI f)), (3, .long T)]) hx hb dX3_addMoves_11 hl (by decide) rfl (fun ls hl => ?_)
  have he0 : L0 = (L0 ++ amT bd f T 0) := by unfold amT; rw [List.take_zero]; simp
  rw [he0] at hP hD hL0
  refine lpW (σ := (Nat) × (Nat → Int32)) 13 13 [] (fun x9 => [(0, .ref h1), (1, .ref h3), (2, .int (nI f)), (5, .long (rmb T x9.1)), (7, .int (nI (pop T))), (8, .int (nI x9.1))]) (fun x9 => cW cI cJ h0 h1 h2 a0 a1 a2 a3 h3 a4 h4 a5 kn op ow tr fu kg co pn si ri pa ma pcs sqa mvs los (nI (L0 ++ amT bd f T x9.1).length) x9.2 asz afs) (fun x9 => x9.1 ≤ pop T ∧ LI x9.2 (L0 ++ amT bd f T x9.1)) (fun x9 => pop T - x9.1) (0, lfs) ⟨Nat.zero_le _, hL0⟩ (lv_sub hl [3, 4, 5, 2, 1, 0] rfl) hP hD hS ?_
  clear hP hD hS hl ls
  rintro ⟨i, M⟩ H locs hI hP hD hS ih_13 ls hl
  try dsimp only at hI ih_13 hl hP hD
  obtain ⟨hi, hLI⟩ := hI
  have hl1 := hll i hi
  refine lv_iload hx hb dX3_addMoves_13 (lv_at hl 5 rfl) ?_
  refine lv_iload hx hb dX3_addMoves_15 (lv_at hl 4 rfl) ?_
  refine ln_icmp_ge (tgt := 111) hx hb dX3_addMoves_17 (by decide) (by omega) (by omega) (fun c17 => ?_) (fun c17 => ?_)
  · skip
    have hie : i = pop T := by omega
    rw [hie, amT_all] at hP hD hLI
    exact weV (M) hx hb hr hlocks dX3_addMoves_111 hLI hP hD hK hA hE hS
  · skip
    have hi2 : i < pop T := by omega
    obtain ⟨q1, q2, q3, q4⟩ := sq_low hi2
    have hl2 := hll (i + 1) (by omega)
    have hls := amT_s (bd := bd) (f := f) hi2
    generalize ht : (bl T).getD i 0 = t at q1 q2 q3 q4 hls
    rw [hls, ← List.append_assoc, List.length_append] at hl2
    refine lv_lload hx hb dX3_addMoves_20 (lv_at hl 3 rfl) ?_
    refine lv_lload hx hb dX3_addMoves_22 (lv_at hl 3 rfl) ?_
    refine lv_lneg hx hb dX3_addMoves_24 ?_
    refine lv_land hx hb dX3_addMoves_25 ?_
    refine W.top (y := .long (bsl 1 (nI t))) (congrArg Value.long q4) ?_
    refine lv_lstore (lv' := [(9, .long (bsl 1 (nI t))), (0, .ref h1), (1, .ref h3), (2, .int (nI f)), (5, .long (rmb T i)), (7, .int (nI (pop T))), (8, .int (nI i))]) hx hb dX3_addMoves_26 hl (by decide) rfl (fun ls hl => ?_)
    refine lv_lload hx hb dX3_addMoves_28 (lv_at hl 4 rfl) ?_
    refine lv_lload hx hb dX3_addMoves_30 (lv_at hl 4 rfl) ?_
    refine lv_lconst (v := 1) hx hb dX3_addMoves_32 (by decide) ?_
    refine lv_lsub hx hb dX3_addMoves_33 ?_
    refine lv_land hx hb dX3_addMoves_34 ?_
    refine W.top (y := .long (rmb T (i + 1))) (congrArg Value.long rfl) ?_
    refine lv_lstore (lv' := [(5, .long (rmb T (i + 1))), (9, .long (bsl 1 (nI t))), (0, .ref h1), (1, .ref h3), (2, .int (nI f)), (7, .int (nI (pop T))), (8, .int (nI i))]) hx hb dX3_addMoves_35 hl (by decide) rfl (fun ls hl => ?_)
    refine lv_iload_n hx hb dX3_addMoves_37 rfl (lv_at hl 4 rfl) ?_
    refine lv_bipush (v := (nI 64)) hx hb dX3_addMoves_38 (by decide) ?_
    refine lv_lload hx hb dX3_addMoves_40 (lv_at hl 1 rfl) ?_
    refine roI (rnSN (host := RX4) (As := [.long (bsl 1 (nI t))]) (rest := [.int (nI 64), .int (nI f)]) S0 (c_X4_squareOf l (bsl 1 (nI t))) (nl_X3_46 hE.1) wt_X4_squareOf wn_X4 wc_X4_squareOf hd_X4_squareOf ⟨rfl, rfl, by decide, by decide⟩ True.blind (fun _ _ _ => trivial) hl.1 (Nat.le_of_ble_eq_true rfl) dX3_addMoves_42 rfl ⟨by decide, by decide⟩) (fun r_2 hr_2 => ?_)
    subst hr_2
    refine W.top (y := .int (nI t)) (congrArg Value.int (by rw [← q4]; exact q1)) ?_
    refine ln_imul hx hb dX3_addMoves_45 ?_
    refine ln_iadd hx hb dX3_addMoves_46 ?_
    refine lv_istore (lv' := [(11, .int (nI (f + (64 * t)))), (5, .long (rmb T (i + 1))), (9, .long (bsl 1 (nI t))), (0, .ref h1), (1, .ref h3), (2, .int (nI f)), (7, .int (nI (pop T))), (8, .int (nI i))]) hx hb dX3_addMoves_47 hl (by decide) rfl (fun ls hl => ?_)
    refine lv_aload_n hx hb dX3_addMoves_49 rfl (lv_at hl 3 rfl) ?_
    refine lv_iload_n hx hb dX3_addMoves_50 rfl (lv_at hl 5 rfl) ?_
    refine roI (rnV (As := [.int (nI f)]) (rest := []) S0 (c_X3_isPawn l bd hCP f (by omega)) wm_X3_53 wi_X3_isPawn ws_X3_isPawn wn_X3 wc_X3_isPawn hd_X3_isPawn ⟨rfl, rfl, by decide, by decide⟩ IW.blind (va_recv hK hP (ci := 2) (q0 := 1) rfl rfl) (IW.at hP hD hK hA hE hS) hl.1 (Nat.le_of_ble_eq_true rfl) dX3_addMoves_51 rfl ⟨by decide, by decide⟩) (fun r_3 hr_3 => ?_)
    subst hr_3
    refine jnW (σ := (Nat → Int32)) (D := D) (A := A) (H0 := s.heap) 105 13 (fun x9 => [(0, .ref h1), (1, .ref h3), (2, .int (nI f)), (5, .long (rmb T (i + 1))), (7, .int (nI (pop T))), (8, .int (nI i))]) [] (fun x9 => cW cI cJ h0 h1 h2 a0 a1 a2 a3 h3 a4 h4 a5 kn op ow tr fu kg co pn si ri pa ma pcs sqa mvs los (nI (L0 ++ amT bd f T (i + 1)).length) x9 asz afs) (fun x9 => LI x9 (L0 ++ amT bd f T (i + 1))) ?_ (fun hj_105 => ?_)
    · clear hP hD hS hl ls
      rintro M1 H locs hI hP hD hS ls hl
      try dsimp only at hI hP hD hl
      have hI9 : i + 1 ≤ pop T ∧ LI M1 (L0 ++ amT bd f T (i + 1)) := ⟨by omega, hI⟩
      refine lv_iinc (v := (nI (i + 1))) (lv' := [(8, .int (nI (i + 1))), (0, .ref h1), (1, .ref h3), (2, .int (nI f)), (5, .long (rmb T (i + 1))), (7, .int (nI (pop T)))]) hx hb dX3_addMoves_105 hl (k := 5) rfl (show nI i + Int32.ofInt 1 = nI (i + 1) from nI_add _ 1) (by decide) rfl (fun ls hl => ?_)
      refine lv_goto (tgt := 13) hx hb dX3_addMoves_108 (by decide) ?_
      exact ih_13 ((i + 1), M1) _ _ (by assumption) (by (try dsimp only); omega) hP hD hS ls (lv_sub hl [1, 2, 3, 4, 5, 0] rfl)
    · skip
      refine lb_if_eq (tgt := 99) hx hb dX3_addMoves_54 (by decide) (fun c54 => ?_) (fun c54 => ?_)
      · skip
        have ha1 : amv1 bd f t = [f + 64 * t] := by unfold amv1; first | exact if_neg (fun z => of_decide_eq_false c54 z.1) | exact if_neg (fun z => by rw [c65] at z; exact absurd z.2 (by decide))
        (try rw [ha1] at hls hl2)
        have hl4 : [f + 64 * t].length = 1 := rfl
        refine lv_aload_n hx hb dX3_addMoves_99 rfl (lv_at hl 4 rfl) ?_
        refine lv_iload hx hb dX3_addMoves_100 (lv_at hl 0 rfl) ?_
        refine chV (rnV (As := [.int (nI (f + (64 * t)))]) (rest := []) S0 (c_X1_add_L l ((L0 ++ amT bd f T i).length) (by omega) (nI (f + (64 * t)))) wm_X3_69 wi_X1_add ws_X1_add wn_X1 wc_X1_add hd_X1_add ⟨rfl, rfl, by decide, by decide⟩ IW.blind (va_recv hK hP (ci := 0) (q0 := 7) rfl rfl) (IW.at hP hD hK hA hE hS) hl.1 (Nat.le_of_ble_eq_true rfl) dX3_addMoves_102 rfl ⟨by decide, by decide⟩) hS (fun u_5 H locs hu hP hD hS => ?_)
        have hP : va_P D classes (cW cI cJ h0 h1 h2 a0 a1 a2 a3 h3 a4 h4 a5 kn op ow tr fu kg co pn si ri pa ma pcs sqa mvs los (nI (((L0 ++ amT bd f T i).length) + 1)) (upd M ((L0 ++ amT bd f T i).length) (nI (f + (64 * t)))) asz afs) H := hP
        have hD : va_D A (cW cI cJ h0 h1 h2 a0 a1 a2 a3 h3 a4 h4 a5 kn op ow tr fu kg co pn si ri pa ma pcs sqa mvs los (nI (((L0 ++ amT bd f T i).length) + 1)) (upd M ((L0 ++ amT bd f T i).length) (nI (f + (64 * t)))) asz afs) := hD
        have hLI := LI_app' (x := f + 64 * t) hLI
        have hfin : (L0 ++ amT bd f T i) ++ [f + 64 * t] = L0 ++ amT bd f T (i + 1) := by rw [hls, List.append_assoc]
        have hn7 : (L0 ++ amT bd f T i).length + 1 = (L0 ++ amT bd f T (i + 1)).length := by rw [← hfin]; exact len_app1
        rw [hfin] at hLI
        rw [hn7] at hP hD
        exact hj_105 (upd M ((L0 ++ amT bd f T i).length) (nI (f + (64 * t)))) _ _ hLI hP hD hS ls (lv_sub hl [3, 4, 5, 1, 6, 7] rfl)
      · skip
        refine lv_lload hx hb dX3_addMoves_57 (lv_at hl 2 rfl) ?_
        refine lv_ldc2 (v := (-72057594037927681)) hx hb hown (hG _ wk_X3_57) dX3_addMoves_59 ?_
        refine lv_land hx hb dX3_addMoves_62 ?_
        refine lv_lconst (v := 0) hx hb dX3_addMoves_63 (by decide) ?_
        refine W.lcmp hx hb dX3_addMoves_64 ?_
        refine lc_if_eq (tgt := 99) hx hb dX3_addMoves_65 (by decide) (fun c65 => ?_) (fun c65 => ?_)
        · skip
          rw [lsr_e q2] at c65
          have ha1 : amv1 bd f t = [f + 64 * t] := by unfold amv1; rw [if_neg (fun z => by rw [c65] at z; exact absurd z.2 (by decide))]
          rw [ha1] at hls hl2
          have hl4 : [f + 64 * t].length = 1 := rfl
          have ha1 : amv1 bd f t = [f + 64 * t] := by unfold amv1; first | exact if_neg (fun z => of_decide_eq_false c54 z.1) | exact if_neg (fun z => by rw [c65] at z; exact absurd z.2 (by decide))
          (try rw [ha1] at hls hl2)
          have hl4 : [f + 64 * t].length = 1 := rfl
          refine lv_aload_n hx hb dX3_addMoves_99 rfl (lv_at hl 4 rfl) ?_
          refine lv_iload hx hb dX3_addMoves_100 (lv_at hl 0 rfl) ?_
          refine chV (rnV (As := [.int (nI (f + (64 * t)))]) (rest := []) S0 (c_X1_add_L l ((L0 ++ amT bd f T i).length) (by omega) (nI (f + (64 * t)))) wm_X3_69 wi_X1_add ws_X1_add wn_X1 wc_X1_add hd_X1_add ⟨rfl, rfl, by decide, by decide⟩ IW.blind (va_recv hK hP (ci := 0) (q0 := 7) rfl rfl) (IW.at hP hD hK hA hE hS) hl.1 (Nat.le_of_ble_eq_true rfl) dX3_addMoves_102 rfl ⟨by decide, by decide⟩) hS (fun u_7 H locs hu hP hD hS => ?_)
          have hP : va_P D classes (cW cI cJ h0 h1 h2 a0 a1 a2 a3 h3 a4 h4 a5 kn op ow tr fu kg co pn si ri pa ma pcs sqa mvs los (nI (((L0 ++ amT bd f T i).length) + 1)) (upd M ((L0 ++ amT bd f T i).length) (nI (f + (64 * t)))) asz afs) H := hP
          have hD : va_D A (cW cI cJ h0 h1 h2 a0 a1 a2 a3 h3 a4 h4 a5 kn op ow tr fu kg co pn si ri pa ma pcs sqa mvs los (nI (((L0 ++ amT bd f T i).length) + 1)) (upd M ((L0 ++ amT bd f T i).length) (nI (f + (64 * t)))) asz afs) := hD
          have hLI := LI_app' (x := f + 64 * t) hLI
          have hfin : (L0 ++ amT bd f T i) ++ [f + 64 * t] = L0 ++ amT bd f T (i + 1) := by rw [hls, List.append_assoc]
          have hn7 : (L0 ++ amT bd f T i).length + 1 = (L0 ++ amT bd f T (i + 1)).length := by rw [← hfin]; exact len_app1
          rw [hfin] at hLI
          rw [hn7] at hP hD
          exact hj_105 (upd M ((L0 ++ amT bd f T i).length) (nI (f + (64 * t)))) _ _ hLI hP hD hS ls (lv_sub hl [3, 4, 5, 1, 6, 7] rfl)
        · skip
          rw [lsr_e q2] at c65
          have ha1 : amv1 bd f t = prm f t 4 := by unfold amv1; rw [if_pos ⟨of_decide_eq_true c54, by simpa using c65⟩]
          rw [ha1] at hls hl2
          have hl4 : (prm f t 4).length = 4 := rfl
          have hpr : ∀ j, (prm f t j).length = j := fun j => by unfold prm; rw [List.length_map, List.length_range]
          refine lv_iconst (v := (nI 2)) hx hb dX3_addMoves_68 (by decide) ?_
          refine W.top (y := .int (nI (0 + 2))) (congrArg Value.int rfl) ?_
          refine lv_istore (lv' := [(12, .int (nI (0 + 2))), (11, .int (nI (f + (64 * t)))), (5, .long (rmb T (i + 1))), (9, .long (bsl 1 (nI t))), (0, .ref h1), (1, .ref h3), (2, .int (nI f)), (7, .int (nI (pop T))), (8, .int (nI i))]) hx hb dX3_addMoves_69 hl (by decide) rfl (fun ls hl => ?_)
          have he1 : (L0 ++ amT bd f T i) = (L0 ++ amT bd f T i) ++ prm f t 0 := by unfold prm; simp
          rw [he1] at hP hD hLI
          refine lpW (σ := (Nat) × (Nat → Int32)) 71 13 [] (fun x9 => [(0, .ref h1), (1, .ref h3), (2, .int (nI f)), (5, .long (rmb T (i + 1))), (7, .int (nI (pop T))), (8, .int (nI i)), (11, .int (nI (f + 64 * t))), (12, .int (nI (x9.1 + 2)))]) (fun x9 => cW cI cJ h0 h1 h2 a0 a1 a2 a3 h3 a4 h4 a5 kn op ow tr fu kg co pn si ri pa ma pcs sqa mvs los (nI ((L0 ++ amT bd f T i) ++ prm f t x9.1).length) x9.2 asz afs) (fun x9 => x9.1 ≤ 4 ∧ LI x9.2 ((L0 ++ amT bd f T i) ++ prm f t x9.1)) (fun x9 => 4 - x9.1) (0, M) ⟨Nat.zero_le _, hLI⟩ (lv_sub hl [4, 5, 6, 2, 7, 8, 1, 0] rfl) hP hD hS ?_
          clear hP hD hS hl ls
          rintro ⟨j, M⟩ H locs hI hP hD hS ih_71 ls hl
          try dsimp only at hI ih_71 hl hP hD
          clear hLI
          obtain ⟨hj, hLI⟩ := hI
          have hl5 := hpr j
          have hl6 : ((L0 ++ amT bd f T i) ++ prm f t j).length = (L0 ++ amT bd f T i).length + j := by rw [List.length_append, hl5]
          refine lv_iload hx hb dX3_addMoves_71 (lv_at hl 7 rfl) ?_
          refine lv_iconst (v := (nI 5)) hx hb dX3_addMoves_73 (by decide) ?_
          refine ln_icmp_gt (tgt := 96) hx hb dX3_addMoves_74 (by decide) (by omega) (by decide) (fun c74 => ?_) (fun c74 => ?_)
          · skip
            have hj4 : j = 4 := by omega
            rw [hj4] at hP hD hLI
            have hfin : (L0 ++ amT bd f T i) ++ prm f t 4 = L0 ++ amT bd f T (i + 1) := by rw [hls, List.append_assoc]
            rw [hfin] at hP hD hLI
            refine lv_goto (tgt := 105) hx hb dX3_addMoves_96 (by decide) ?_
            exact hj_105 M _ _ hLI hP hD hS ls (lv_sub hl [0, 1, 2, 3, 4, 5] rfl)
          · skip
            refine lv_aload_n hx hb dX3_addMoves_77 rfl (lv_at hl 1 rfl) ?_
            refine lv_iload hx hb dX3_addMoves_78 (lv_at hl 6 rfl) ?_
            refine lv_sipush (v := (nI 4096)) hx hb dX3_addMoves_80 (by decide) ?_
            refine lv_iload hx hb dX3_addMoves_83 (lv_at hl 7 rfl) ?_
            refine ln_imul hx hb dX3_addMoves_85 ?_
            refine ln_iadd hx hb dX3_addMoves_86 ?_
            refine chV (rnV (As := [.int (nI ((f + 64 * t) + (4096 * (j + 2))))]) (rest := []) S0 (c_X1_add_L l (((L0 ++ amT bd f T i) ++ prm f t j).length) (by omega) (nI ((f + 64 * t) + (4096 * (j + 2))))) wm_X3_69 wi_X1_add ws_X1_add wn_X1 wc_X1_add hd_X1_add ⟨rfl, rfl, by decide, by decide⟩ IW.blind (va_recv hK hP (ci := 0) (q0 := 7) rfl rfl) (IW.at hP hD hK hA hE hS) hl.1 (Nat.le_of_ble_eq_true rfl) dX3_addMoves_87 rfl ⟨by decide, by decide⟩) hS (fun u_9 H locs hu hP hD hS => ?_)
            have hP : va_P D classes (cW cI cJ h0 h1 h2 a0 a1 a2 a3 h3 a4 h4 a5 kn op ow tr fu kg co pn si ri pa ma pcs sqa mvs los (nI ((((L0 ++ amT bd f T i) ++ prm f t j).length) + 1)) (upd M (((L0 ++ amT bd f T i) ++ prm f t j).length) (nI ((f + 64 * t) + (4096 * (j + 2))))) asz afs) H := hP
            have hD : va_D A (cW cI cJ h0 h1 h2 a0 a1 a2 a3 h3 a4 h4 a5 kn op ow tr fu kg co pn si ri pa ma pcs sqa mvs los (nI ((((L0 ++ amT bd f T i) ++ prm f t j).length) + 1)) (upd M (((L0 ++ amT bd f T i) ++ prm f t j).length) (nI ((f + 64 * t) + (4096 * (j + 2))))) asz afs) := hD
            refine lv_iinc (v := (nI ((j + 2) + 1))) (lv' := [(12, .int (nI ((j + 2) + 1))), (0, .ref h1), (1, .ref h3), (2, .int (nI f)), (5, .long (rmb T (i + 1))), (7, .int (nI (pop T))), (8, .int (nI i)), (11, .int (nI (f + 64 * t)))]) hx hb dX3_addMoves_90 hl (k := 7) rfl (show nI (j + 2) + Int32.ofInt 1 = nI ((j + 2) + 1) from nI_add _ 1) (by decide) rfl (fun ls hl => ?_)
            refine lv_goto (tgt := 71) hx hb dX3_addMoves_93 (by decide) ?_
            have hL7 := LI_app' (x := f + 64 * t + 4096 * (j + 2)) hLI
            have hs7 : ((L0 ++ amT bd f T i) ++ prm f t j) ++ [f + 64 * t + 4096 * (j + 2)] = (L0 ++ amT bd f T i) ++ prm f t (j + 1) := by rw [prm_s, List.append_assoc]
            have hn7 : ((L0 ++ amT bd f T i) ++ prm f t j).length + 1 = ((L0 ++ amT bd f T i) ++ prm f t (j + 1)).length := by rw [← hs7]; exact len_app1
            rw [hs7] at hL7
            rw [hn7] at hP hD
            exact ih_71 ((j + 1), (upd M (((L0 ++ amT bd f T i) ++ prm f t j).length) (nI ((f + 64 * t) + (4096 * (j + 2)))))) _ _ ⟨by omega, hL7⟩ (by (try dsimp only); omega) hP hD hS ls (lv_sub hl [1, 2, 3, 4, 5, 6, 7, 0] rfl)
set_option maxHeartbeats 4000000 in
set_option maxRecDepth 100000 in
/-- addMoves -/
theorem c_X3_addMoves_A (l : Launch) {D : va_G} {cI cJ : ClassId} {A : Nat → Prop} {h0 h1 h2 a0 a1 a2 a3 h3 a4 h4 a5 : Nat} {kn op : Int32} {ow tr fu kg co pn : Int64} {si ri pa ma : Int32} {pcs : Nat → Int32} {sqa : Nat → Int64} {mvs los : Nat → Int32} {lsz : Int32} {lfs : Nat → Int32} {afs : Nat → Int32} (bd : Nat → Nat) (hCP : CP pcs sqa bd) (f : Nat) (hf : f < 64) (T : Int64) (L0 : List Nat) (hL0 : LI afs L0) (hlen : (L0 ++ amv bd f T).length ≤ 700) : Met l yX3_addMoves (Cond.code yX3_addMoves cX3_addMoves 13 none :: wsL_law) (rK 2) (va_Pc [.ref h1, .ref h4, .int (nI f), .long T] (IW D cI cJ A (cW cI cJ h0 h1 h2 a0 a1 a2 a3 h3 a4 h4 a5 kn op ow tr fu kg co pn si ri pa ma pcs sqa mvs los lsz lfs (nI L0.length) afs))) (va_Qv (fun u => LI u (L0 ++ amv bd f T)) (fun (u : Nat → Int32) t9 => IW D cI cJ A (cW cI cJ h0 h1 h2 a0 a1 a2 a3 h3 a4 h4 a5 kn op ow tr fu kg co pn si ri pa ma pcs sqa mvs los lsz lfs (nI (L0 ++ amv bd f T).length) u) t9) A) 0 0 A := by
  refine entM (by decide) (Nat.le_of_ble_eq_true rfl) ?_
  intro p e s m below meth c ls S0 hr hlocks hG hnm hB hl
  have hx := S0.1
  have hb := S0.2.1
  have hown := S0.2.2.2.1
  have hl : lv_has ls 13 [(0, .ref h1), (1, .ref h4), (2, .int (nI f)), (3, .long T)] := hl
  obtain ⟨hP, hD, hK, hA, hE⟩ := hB
  have hS : va_S A s.heap s.heap [] := va_S.rf
  have hpl := pop_le T
  have hll : ∀ j, j ≤ pop T → (L0 ++ amT bd f T j).length ≤ 700 := fun j hj => by have := amT_le (bd := bd) (f := f) hj; rw [List.length_append] at hlen ⊢; omega
  refine lv_lload_n hx hb dX3_addMoves_0 rfl (lv_at hl 3 rfl) ?_
  refine W.top (y := .long (rmb T 0)) (congrArg Value.long rfl) ?_
  refine lv_lstore (lv' := [(5, .long (rmb T 0)), (0, .ref h1), (1, .ref h4), (2, .int (nI f)), (3, .long T)]) hx hb dX3_addMoves_1 hl (by decide) rfl (fun ls hl => ?_)
  refine lv_lload hx hb dX3_addMoves_3 (lv_at hl 0 rfl) ?_
  refine roI (rnS (As := [.long (rmb T 0)]) (rest := []) S0 (c_J13_bitCount_95d88 l (rmb T 0)) wm_X3_40 wt_J13_bitCount_95d88 wn_J13 wc_J13_bitCount_95d88 hd_J13_bitCount_95d88 ⟨rfl, rfl, by decide, by decide⟩ True.blind (fun _ _ _ => trivial) hl.1 (Nat.le_of_ble_eq_true rfl) dX3_addMoves_5 rfl ⟨by decide, by decide⟩) (fun r_1 hr_1 => ?_)
  subst hr_1
  refine W.top (y := .int (nI (pop T))) (congrArg Value.int (bcE_pop _)) ?_
  refine lv_istore (lv' := [(7, .int (nI (pop T))), (5, .long (rmb T 0)), (0, .ref h1), (1, .ref h4), (2, .int (nI f)), (3, .long T)]) hx hb dX3_addMoves_8 hl (by decide) rfl (fun ls hl => ?_)
  refine lv_iconst (v := (nI 0)) hx hb dX3_addMoves_10 (by decide) ?_
  refine lv_istore (lv' := [(8, .int (nI 0)), (7, .int (nI (pop T))), (5, .long (rmb T 0)), (0, .ref h1), (1, .ref h4), (2, .int (nI f)), (3, .long T)]) hx hb dX3_addMoves_11 hl (by decide) rfl (fun ls hl => ?_)
  have he0 : L0 = (L0 ++ amT bd f T 0) := by unfold amT; rw [List.take_zero]; simp
  rw [he0] at hP hD hL0
  refine lpW (σ := (Nat) × (Nat → Int32)) 13 13 [] (fun x9 => [(0, .ref h1), (1, .ref h4), (2, .int (nI f)), (5, .long (rmb T x9.1)), (7, .int (nI (pop T))), (8, .int (nI x9.1))]) (fun x9 => cW cI cJ h0 h1 h2 a0 a1 a2 a3 h3 a4 h4 a5 kn op ow tr fu kg co pn si ri pa ma pcs sqa mvs los lsz lfs (nI (L0 ++ amT bd f T x9.1).length) x9.2) (fun x9 => x9.1 ≤ pop T ∧ LI x9.2 (L0 ++ amT bd f T x9.1)) (fun x9 => pop T - x9.1) (0, afs) ⟨Nat.zero_le _, hL0⟩ (lv_sub hl [3, 4, 5, 2, 1, 0] rfl) hP hD hS ?_
  clear hP hD hS hl ls
  rintro ⟨i, M⟩ H locs hI hP hD hS ih_13 ls hl
  try dsimp only at hI ih_13 hl hP hD
  obtain ⟨hi, hLI⟩ := hI
  have hl1 := hll i hi
  refine lv_iload hx hb dX3_addMoves_13 (lv_at hl 5 rfl) ?_
  refine lv_iload hx hb dX3_addMoves_15 (lv_at hl 4 rfl) ?_
  refine ln_icmp_ge (tgt := 111) hx hb dX3_addMoves_17 (by decide) (by omega) (by omega) (fun c17 => ?_) (fun c17 => ?_)
  · skip
    have hie : i = pop T := by omega
    rw [hie, amT_all] at hP hD hLI
    exact weV (M) hx hb hr hlocks dX3_addMoves_111 hLI hP hD hK hA hE hS
  · skip
    have hi2 : i < pop T := by omega
    obtain ⟨q1, q2, q3, q4⟩ := sq_low hi2
    have hl2 := hll (i + 1) (by omega)
    have hls := amT_s (bd := bd) (f := f) hi2
    generalize ht : (bl T).getD i 0 = t at q1 q2 q3 q4 hls
    rw [hls, ← List.append_assoc, List.length_append] at hl2
    refine lv_lload hx hb dX3_addMoves_20 (lv_at hl 3 rfl) ?_
    refine lv_lload hx hb dX3_addMoves_22 (lv_at hl 3 rfl) ?_
    refine lv_lneg hx hb dX3_addMoves_24 ?_
    refine lv_land hx hb dX3_addMoves_25 ?_
    refine W.top (y := .long (bsl 1 (nI t))) (congrArg Value.long q4) ?_
    refine lv_lstore (lv' := [(9, .long (bsl 1 (nI t))), (0, .ref h1), (1, .ref h4), (2, .int (nI f)), (5, .long (rmb T i)), (7, .int (nI (pop T))), (8, .int (nI i))]) hx hb dX3_addMoves_26 hl (by decide) rfl (fun ls hl => ?_)
    refine lv_lload hx hb dX3_addMoves_28 (lv_at hl 4 rfl) ?_
    refine lv_lload hx hb dX3_addMoves_30 (lv_at hl 4 rfl) ?_
    refine lv_lconst (v := 1) hx hb dX3_addMoves_32 (by decide) ?_
    refine lv_lsub hx hb dX3_addMoves_33 ?_
    refine lv_land hx hb dX3_addMoves_34 ?_
    refine W.top (y := .long (rmb T (i + 1))) (congrArg Value.long rfl) ?_
    refine lv_lstore (lv' := [(5, .long (rmb T (i + 1))), (9, .long (bsl 1 (nI t))), (0, .ref h1), (1, .ref h4), (2, .int (nI f)), (7, .int (nI (pop T))), (8, .int (nI i))]) hx hb dX3_addMoves_35 hl (by decide) rfl (fun ls hl => ?_)
    refine lv_iload_n hx hb dX3_addMoves_37 rfl (lv_at hl 4 rfl) ?_
    refine lv_bipush (v := (nI 64)) hx hb dX3_addMoves_38 (by decide) ?_
    refine lv_lload hx hb dX3_addMoves_40 (lv_at hl 1 rfl) ?_
    refine roI (rnSN (host := RX4) (As := [.long (bsl 1 (nI t))]) (rest := [.int (nI 64), .int (nI f)]) S0 (c_X4_squareOf l (bsl 1 (nI t))) (nl_X3_46 hE.1) wt_X4_squareOf wn_X4 wc_X4_squareOf hd_X4_squareOf ⟨rfl, rfl, by decide, by decide⟩ True.blind (fun _ _ _ => trivial) hl.1 (Nat.le_of_ble_eq_true rfl) dX3_addMoves_42 rfl ⟨by decide, by decide⟩) (fun r_2 hr_2 => ?_)
    subst hr_2
    refine W.top (y := .int (nI t)) (congrArg Value.int (by rw [← q4]; exact q1)) ?_
    refine ln_imul hx hb dX3_addMoves_45 ?_
    refine ln_iadd hx hb dX3_addMoves_46 ?_
    refine lv_istore (lv' := [(11, .int (nI (f + (64 * t)))), (5, .long (rmb T (i + 1))), (9, .long (bsl 1 (nI t))), (0, .ref h1), (1, .ref h4), (2, .int (nI f)), (7, .int (nI (pop T))), (8, .int (nI i))]) hx hb dX3_addMoves_47 hl (by decide) rfl (fun ls hl => ?_)
    refine lv_aload_n hx hb dX3_addMoves_49 rfl (lv_at hl 3 rfl) ?_
    refine lv_iload_n hx hb dX3_addMoves_50 rfl (lv_at hl 5 rfl) ?_
    refine roI (rnV (As := [.int (nI f)]) (rest := []) S0 (c_X3_isPawn l bd hCP f (by omega)) wm_X3_53 wi_X3_isPawn ws_X3_isPawn wn_X3 wc_X3_isPawn hd_X3_isPawn ⟨rfl, rfl, by decide, by decide⟩ IW.blind (va_recv hK hP (ci := 2) (q0 := 1) rfl rfl) (IW.at hP hD hK hA hE hS) hl.1 (Nat.le_of_ble_eq_true rfl) dX3_addMoves_51 rfl ⟨by decide, by decide⟩) (fun r_3 hr_3 => ?_)
    subst hr_3
    refine jnW (σ := (Nat → Int32)) (D := D) (A := A) (H0 := s.heap) 105 13 (fun x9 => [(0, .ref h1), (1, .ref h4), (2, .int (nI f)), (5, .long (rmb T (i + 1))), (7, .int (nI (pop T))), (8, .int (nI i))]) [] (fun x9 => cW cI cJ h0 h1 h2 a0 a1 a2 a3 h3 a4 h4 a5 kn op ow tr fu kg co pn si ri pa ma pcs sqa mvs los lsz lfs (nI (L0 ++ amT bd f T (i + 1)).length) x9) (fun x9 => LI x9 (L0 ++ amT bd f T (i + 1))) ?_ (fun hj_105 => ?_)
    · clear hP hD hS hl ls
      rintro M1 H locs hI hP hD hS ls hl
      try dsimp only at hI hP hD hl
      have hI9 : i + 1 ≤ pop T ∧ LI M1 (L0 ++ amT bd f T (i + 1)) := ⟨by omega, hI⟩
      refine lv_iinc (v := (nI (i + 1))) (lv' := [(8, .int (nI (i + 1))), (0, .ref h1), (1, .ref h4), (2, .int (nI f)), (5, .long (rmb T (i + 1))), (7, .int (nI (pop T)))]) hx hb dX3_addMoves_105 hl (k := 5) rfl (show nI i + Int32.ofInt 1 = nI (i + 1) from nI_add _ 1) (by decide) rfl (fun ls hl => ?_)
      refine lv_goto (tgt := 13) hx hb dX3_addMoves_108 (by decide) ?_
      exact ih_13 ((i + 1), M1) _ _ (by assumption) (by (try dsimp only); omega) hP hD hS ls (lv_sub hl [1, 2, 3, 4, 5, 0] rfl)
    · skip
      refine lb_if_eq (tgt := 99) hx hb dX3_addMoves_54 (by decide) (fun c54 => ?_) (fun c54 => ?_)
      · skip
        have ha1 : amv1 bd f t = [f + 64 * t] := by unfold amv1; first | exact if_neg (fun z => of_decide_eq_false c54 z.1) | exact if_neg (fun z => by rw [c65] at z; exact absurd z.2 (by decide))
        (try rw [ha1] at hls hl2)
        have hl4 : [f + 64 * t].length = 1 := rfl
        refine lv_aload_n hx hb dX3_addMoves_99 rfl (lv_at hl 4 rfl) ?_
        refine lv_iload hx hb dX3_addMoves_100 (lv_at hl 0 rfl) ?_
        refine chV (rnV (As := [.int (nI (f + (64 * t)))]) (rest := []) S0 (c_X1_add_A l ((L0 ++ amT bd f T i).length) (by omega) (nI (f + (64 * t)))) wm_X3_69 wi_X1_add ws_X1_add wn_X1 wc_X1_add hd_X1_add ⟨rfl, rfl, by decide, by decide⟩ IW.blind (va_recv hK hP (ci := 0) (q0 := 9) rfl rfl) (IW.at hP hD hK hA hE hS) hl.1 (Nat.le_of_ble_eq_true rfl) dX3_addMoves_102 rfl ⟨by decide, by decide⟩) hS (fun u_5 H locs hu hP hD hS => ?_)
        have hP : va_P D classes (cW cI cJ h0 h1 h2 a0 a1 a2 a3 h3 a4 h4 a5 kn op ow tr fu kg co pn si ri pa ma pcs sqa mvs los lsz lfs (nI (((L0 ++ amT bd f T i).length) + 1)) (upd M ((L0 ++ amT bd f T i).length) (nI (f + (64 * t))))) H := hP
        have hD : va_D A (cW cI cJ h0 h1 h2 a0 a1 a2 a3 h3 a4 h4 a5 kn op ow tr fu kg co pn si ri pa ma pcs sqa mvs los lsz lfs (nI (((L0 ++ amT bd f T i).length) + 1)) (upd M ((L0 ++ amT bd f T i).length) (nI (f + (64 * t))))) := hD
        have hLI := LI_app' (x := f + 64 * t) hLI
        have hfin : (L0 ++ amT bd f T i) ++ [f + 64 * t] = L0 ++ amT bd f T (i + 1) := by rw [hls, List.append_assoc]
        have hn7 : (L0 ++ amT bd f T i).length + 1 = (L0 ++ amT bd f T (i + 1)).length := by rw [← hfin]; exact len_app1
        rw [hfin] at hLI
        rw [hn7] at hP hD
        exact hj_105 (upd M ((L0 ++ amT bd f T i).length) (nI (f + (64 * t)))) _ _ hLI hP hD hS ls (lv_sub hl [3, 4, 5, 1, 6, 7] rfl)
      · skip
        refine lv_lload hx hb dX3_addMoves_57 (lv_at hl 2 rfl) ?_
        refine lv_ldc2 (v := (-72057594037927681)) hx hb hown (hG _ wk_X3_57) dX3_addMoves_59 ?_
        refine lv_land hx hb dX3_addMoves_62 ?_
        refine lv_lconst (v := 0) hx hb dX3_addMoves_63 (by decide) ?_
        refine W.lcmp hx hb dX3_addMoves_64 ?_
        refine lc_if_eq (tgt := 99) hx hb dX3_addMoves_65 (by decide) (fun c65 => ?_) (fun c65 => ?_)
        · skip
          rw [lsr_e q2] at c65
          have ha1 : amv1 bd f t = [f + 64 * t] := by unfold amv1; rw [if_neg (fun z => by rw [c65] at z; exact absurd z.2 (by decide))]
          rw [ha1] at hls hl2
          have hl4 : [f + 64 * t].length = 1 := rfl
          have ha1 : amv1 bd f t = [f + 64 * t] := by unfold amv1; first | exact if_neg (fun z => of_decide_eq_false c54 z.1) | exact if_neg (fun z => by rw [c65] at z; exact absurd z.2 (by decide))
          (try rw [ha1] at hls hl2)
          have hl4 : [f + 64 * t].length = 1 := rfl
          refine lv_aload_n hx hb dX3_addMoves_99 rfl (lv_at hl 4 rfl) ?_
          refine lv_iload hx hb dX3_addMoves_100 (lv_at hl 0 rfl) ?_
          refine chV (rnV (As := [.int (nI (f + (64 * t)))]) (rest := []) S0 (c_X1_add_A l ((L0 ++ amT bd f T i).length) (by omega) (nI (f + (64 * t)))) wm_X3_69 wi_X1_add ws_X1_add wn_X1 wc_X1_add hd_X1_add ⟨rfl, rfl, by decide, by decide⟩ IW.blind (va_recv hK hP (ci := 0) (q0 := 9) rfl rfl) (IW.at hP hD hK hA hE hS) hl.1 (Nat.le_of_ble_eq_true rfl) dX3_addMoves_102 rfl ⟨by decide, by decide⟩) hS (fun u_7 H locs hu hP hD hS => ?_)
          have hP : va_P D classes (cW cI cJ h0 h1 h2 a0 a1 a2 a3 h3 a4 h4 a5 kn op ow tr fu kg co pn si ri pa ma pcs sqa mvs los lsz lfs (nI (((L0 ++ amT bd f T i).length) + 1)) (upd M ((L0 ++ amT bd f T i).length) (nI (f + (64 * t))))) H := hP
          have hD : va_D A (cW cI cJ h0 h1 h2 a0 a1 a2 a3 h3 a4 h4 a5 kn op ow tr fu kg co pn si ri pa ma pcs sqa mvs los lsz lfs (nI (((L0 ++ amT bd f T i).length) + 1)) (upd M ((L0 ++ amT bd f T i).length) (nI (f + (64 * t))))) := hD
          have hLI := LI_app' (x := f + 64 * t) hLI
          have hfin : (L0 ++ amT bd f T i) ++ [f + 64 * t] = L0 ++ amT bd f T (i + 1) := by rw [hls, List.append_assoc]
          have hn7 : (L0 ++ amT bd f T i).length + 1 = (L0 ++ amT bd f T (i + 1)).length := by rw [← hfin]; exact len_app1
          rw [hfin] at hLI
          rw [hn7] at hP hD
          exact hj_105 (upd M ((L0 ++ amT bd f T i).length) (nI (f + (64 * t)))) _ _ hLI hP hD hS ls (lv_sub hl [3, 4, 5, 1, 6, 7] rfl)
        · skip
          rw [lsr_e q2] at c65
          have ha1 : amv1 bd f t = prm f t 4 := by unfold amv1; rw [if_pos ⟨of_decide_eq_true c54, by simpa using c65⟩]
          rw [ha1] at hls hl2
          have hl4 : (prm f t 4).length = 4 := rfl
          have hpr : ∀ j, (prm f t j).length = j := fun j => by unfold prm; rw [List.length_map, List.length_range]
          refine lv_iconst (v := (nI 2)) hx hb dX3_addMoves_68 (by decide) ?_
          refine W.top (y := .int (nI (0 + 2))) (congrArg Value.int rfl) ?_
          refine lv_istore (lv' := [(12, .int (nI (0 + 2))), (11, .int (nI (f + (64 * t)))), (5, .long (rmb T (i + 1))), (9, .long (bsl 1 (nI t))), (0, .ref h1), (1, .ref h4), (2, .int (nI f)), (7, .int (nI (pop T))), (8, .int (nI i))]) hx hb dX3_addMoves_69 hl (by decide) rfl (fun ls hl => ?_)
          have he1 : (L0 ++ amT bd f T i) = (L0 ++ amT bd f T i) ++ prm f t 0 := by unfold prm; simp
          rw [he1] at hP hD hLI
          refine lpW (σ := (Nat) × (Nat → Int32)) 71 13 [] (fun x9 => [(0, .ref h1), (1, .ref h4), (2, .int (nI f)), (5, .long (rmb T (i + 1))), (7, .int (nI (pop T))), (8, .int (nI i)), (11, .int (nI (f + 64 * t))), (12, .int (nI (x9.1 + 2)))]) (fun x9 => cW cI cJ h0 h1 h2 a0 a1 a2 a3 h3 a4 h4 a5 kn op ow tr fu kg co pn si ri pa ma pcs sqa mvs los lsz lfs (nI ((L0 ++ amT bd f T i) ++ prm f t x9.1).length) x9.2) (fun x9 => x9.1 ≤ 4 ∧ LI x9.2 ((L0 ++ amT bd f T i) ++ prm f t x9.1)) (fun x9 => 4 - x9.1) (0, M) ⟨Nat.zero_le _, hLI⟩ (lv_sub hl [4, 5, 6, 2, 7, 8, 1, 0] rfl) hP hD hS ?_
          clear hP hD hS hl ls
          rintro ⟨j, M⟩ H locs hI hP hD hS ih_71 ls hl
          try dsimp only at hI ih_71 hl hP hD
          clear hLI
          obtain ⟨hj, hLI⟩ := hI
          have hl5 := hpr j
          have hl6 : ((L0 ++ amT bd f T i) ++ prm f t j).length = (L0 ++ amT bd f T i).length + j := by rw [List.length_append, hl5]
          refine lv_iload hx hb dX3_addMoves_71 (lv_at hl 7 rfl) ?_
          refine lv_iconst (v := (nI 5)) hx hb dX3_addMoves_73 (by decide) ?_
          refine ln_icmp_gt (tgt := 96) hx hb dX3_addMoves_74 (by decide) (by omega) (by decide) (fun c74 => ?_) (fun c74 => ?_)
          · skip
            have hj4 : j = 4 := by omega
            rw [hj4] at hP hD hLI
            have hfin : (L0 ++ amT bd f T i) ++ prm f t 4 = L0 ++ amT bd f T (i + 1) := by rw [hls, List.append_assoc]
            rw [hfin] at hP hD hLI
            refine lv_goto (tgt := 105) hx hb dX3_addMoves_96 (by decide) ?_
            exact hj_105 M _ _ hLI hP hD hS ls (lv_sub hl [0, 1, 2, 3, 4, 5] rfl)
          · skip
            refine lv_aload_n hx hb dX3_addMoves_77 rfl (lv_at hl 1 rfl) ?_
            refine lv_iload hx hb dX3_addMoves_78 (lv_at hl 6 rfl) ?_
            refine lv_sipush (v := (nI 4096)) hx hb dX3_addMoves_80 (by decide) ?_
            refine lv_iload hx hb dX3_addMoves_83 (lv_at hl 7 rfl) ?_
            refine ln_imul hx hb dX3_addMoves_85 ?_
            refine ln_iadd hx hb dX3_addMoves_86 ?_
            refine chV (rnV (As := [.int (nI ((f + 64 * t) + (4096 * (j + 2))))]) (rest := []) S0 (c_X1_add_A l (((L0 ++ amT bd f T i) ++ prm f t j).length) (by omega) (nI ((f + 64 * t) + (4096 * (j + 2))))) wm_X3_69 wi_X1_add ws_X1_add wn_X1 wc_X1_add hd_X1_add ⟨rfl, rfl, by decide, by decide⟩ IW.blind (va_recv hK hP (ci := 0) (q0 := 9) rfl rfl) (IW.at hP hD hK hA hE hS) hl.1 (Nat.le_of_ble_eq_true rfl) dX3_addMoves_87 rfl ⟨by decide, by decide⟩) hS (fun u_9 H locs hu hP hD hS => ?_)
            have hP : va_P D classes (cW cI cJ h0 h1 h2 a0 a1 a2 a3 h3 a4 h4 a5 kn op ow tr fu kg co pn si ri pa ma pcs sqa mvs los lsz lfs (nI ((((L0 ++ amT bd f T i) ++ prm f t j).length) + 1)) (upd M (((L0 ++ amT bd f T i) ++ prm f t j).length) (nI ((f + 64 * t) + (4096 * (j + 2)))))) H := hP
            have hD : va_D A (cW cI cJ h0 h1 h2 a0 a1 a2 a3 h3 a4 h4 a5 kn op ow tr fu kg co pn si ri pa ma pcs sqa mvs los lsz lfs (nI ((((L0 ++ amT bd f T i) ++ prm f t j).length) + 1)) (upd M (((L0 ++ amT bd f T i) ++ prm f t j).length) (nI ((f + 64 * t) + (4096 * (j + 2)))))) := hD
            refine lv_iinc (v := (nI ((j + 2) + 1))) (lv' := [(12, .int (nI ((j + 2) + 1))), (0, .ref h1), (1, .ref h4), (2, .int (nI f)), (5, .long (rmb T (i + 1))), (7, .int (nI (pop T))), (8, .int (nI i)), (11, .int (nI (f + 64 * t)))]) hx hb dX3_addMoves_90 hl (k := 7) rfl (show nI (j + 2) + Int32.ofInt 1 = nI ((j + 2) + 1) from nI_add _ 1) (by decide) rfl (fun ls hl => ?_)
            refine lv_goto (tgt := 71) hx hb dX3_addMoves_93 (by decide) ?_
            have hL7 := LI_app' (x := f + 64 * t + 4096 * (j + 2)) hLI
            have hs7 : ((L0 ++ amT bd f T i) ++ prm f t j) ++ [f + 64 * t + 4096 * (j + 2)] = (L0 ++ amT bd f T i) ++ prm f t (j + 1) := by rw [prm_s, List.append_assoc]
            have hn7 : ((L0 ++ amT bd f T i) ++ prm f t j).length + 1 = ((L0 ++ amT bd f T i) ++ prm f t (j + 1)).length := by rw [← hs7]; exact len_app1
            rw [hs7] at hL7
            rw [hn7] at hP hD
            exact ih_71 ((j + 1), (upd M (((L0 ++ amT bd f T i) ++ prm f t j).length) (nI ((f + 64 * t) + (4096 * (j + 2)))))) _ _ ⟨by omega, hL7⟩ (by (try dsimp only); omega) hP hD hS ls (lv_sub hl [1, 2, 3, 4, 5, 6, 7, 0] rfl)

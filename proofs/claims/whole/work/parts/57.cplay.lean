theorem dX2_deedsOf_0 : decode cX2_deedsOf 0 = .ok (.iload_n 1, 1) := by decide +kernel
theorem dX2_deedsOf_1 : decode cX2_deedsOf 1 = .ok (.invokestatic 94, 3) := by decide +kernel
theorem dX2_deedsOf_4 : decode cX2_deedsOf 4 = .ok (.istore_n 2, 1) := by decide +kernel
theorem dX2_deedsOf_5 : decode cX2_deedsOf 5 = .ok (.iload_n 1, 1) := by decide +kernel
theorem dX2_deedsOf_6 : decode cX2_deedsOf 6 = .ok (.invokestatic 98, 3) := by decide +kernel
theorem dX2_deedsOf_9 : decode cX2_deedsOf 9 = .ok (.istore_n 3, 1) := by decide +kernel
theorem dX2_deedsOf_10 : decode cX2_deedsOf 10 = .ok (.aload_n 0, 1) := by decide +kernel
theorem dX2_deedsOf_11 : decode cX2_deedsOf 11 = .ok (.iload_n 2, 1) := by decide +kernel
theorem dX2_deedsOf_12 : decode cX2_deedsOf 12 = .ok (.iload_n 3, 1) := by decide +kernel
theorem dX2_deedsOf_13 : decode cX2_deedsOf 13 = .ok (.invokevirtual 101, 3) := by decide +kernel
theorem dX2_deedsOf_16 : decode cX2_deedsOf 16 = .ok (.istore 4, 2) := by decide +kernel
theorem dX2_deedsOf_18 : decode cX2_deedsOf 18 = .ok (.aload_n 0, 1) := by decide +kernel
theorem dX2_deedsOf_19 : decode cX2_deedsOf 19 = .ok (.iload 4, 2) := by decide +kernel
theorem dX2_deedsOf_21 : decode cX2_deedsOf 21 = .ok (.invokevirtual 105, 3) := by decide +kernel
theorem dX2_deedsOf_24 : decode cX2_deedsOf 24 = .ok (.ifCond .eq 7, 3) := by decide +kernel
theorem dX2_deedsOf_27 : decode cX2_deedsOf 27 = .ok (.iconst 1, 1) := by decide +kernel
theorem dX2_deedsOf_28 : decode cX2_deedsOf 28 = .ok (.goto 4, 3) := by decide +kernel
theorem dX2_deedsOf_31 : decode cX2_deedsOf 31 = .ok (.iconst 0, 1) := by decide +kernel
theorem dX2_deedsOf_32 : decode cX2_deedsOf 32 = .ok (.istore 5, 2) := by decide +kernel
theorem dX2_deedsOf_34 : decode cX2_deedsOf 34 = .ok (.iload 4, 2) := by decide +kernel
theorem dX2_deedsOf_36 : decode cX2_deedsOf 36 = .ok (.iload_n 3, 1) := by decide +kernel
theorem dX2_deedsOf_37 : decode cX2_deedsOf 37 = .ok (.if_icmp .eq 6, 3) := by decide +kernel
theorem dX2_deedsOf_40 : decode cX2_deedsOf 40 = .ok (.iinc 5 2, 3) := by decide +kernel
theorem dX2_deedsOf_43 : decode cX2_deedsOf 43 = .ok (.aload_n 0, 1) := by decide +kernel
theorem dX2_deedsOf_44 : decode cX2_deedsOf 44 = .ok (.iload_n 2, 1) := by decide +kernel
theorem dX2_deedsOf_45 : decode cX2_deedsOf 45 = .ok (.iload_n 3, 1) := by decide +kernel
theorem dX2_deedsOf_46 : decode cX2_deedsOf 46 = .ok (.invokevirtual 108, 3) := by decide +kernel
theorem dX2_deedsOf_49 : decode cX2_deedsOf 49 = .ok (.ifCond .eq 6, 3) := by decide +kernel
theorem dX2_deedsOf_52 : decode cX2_deedsOf 52 = .ok (.iinc 5 4, 3) := by decide +kernel
theorem dX2_deedsOf_55 : decode cX2_deedsOf 55 = .ok (.iload_n 1, 1) := by decide +kernel
theorem dX2_deedsOf_56 : decode cX2_deedsOf 56 = .ok (.invokestatic 112, 3) := by decide +kernel
theorem dX2_deedsOf_59 : decode cX2_deedsOf 59 = .ok (.ifCond .eq 6, 3) := by decide +kernel
theorem dX2_deedsOf_62 : decode cX2_deedsOf 62 = .ok (.iinc 5 8, 3) := by decide +kernel
theorem dX2_deedsOf_65 : decode cX2_deedsOf 65 = .ok (.iload 5, 2) := by decide +kernel
theorem dX2_deedsOf_67 : decode cX2_deedsOf 67 = .ok (.ireturn, 1) := by decide +kernel
theorem hd_X2_deedsOf : yX2_deedsOf.cls ≠ "java/lang/invoke/MethodHandle" ∧ yX2_deedsOf.cls ≠ "java/lang/invoke/VarHandle" ∧ (parseMethodDescriptor yX2_deedsOf.desc).map (fun d => d.parameters.length) = some 1 := by decide +kernel
set_option maxHeartbeats 4000000 in
set_option maxRecDepth 100000 in
/-- deedsOf -/
theorem c_X2_deedsOf (l : Launch) {D : va_G} {cI cJ : ClassId} {A : Nat → Prop} {h0 h1 h2 a0 a1 a2 a3 h3 a4 h4 a5 : Nat} {kn op : Int32} {ow tr fu kg co pn : Int64} {si ri pa ma : Int32} {pcs : Nat → Int32} {sqa : Nat → Int64} {mvs los : Nat → Int32} {lsz : Int32} {lfs : Nat → Int32} {asz : Int32} {afs : Nat → Int32} (bd : Nat → Nat) (hCP : CP pcs sqa bd) (f t k : Nat) (hf : f < 64) (ht : t < 64) (hk : k < 6) : Met l yX2_deedsOf (Cond.code yX2_deedsOf cX2_deedsOf 6 (some .int) :: wsL_law) (rK 2) (va_Pc [.ref h2, .int (nI (f + 64 * t + 4096 * k))] (IW D cI cJ A (cW cI cJ h0 h1 h2 a0 a1 a2 a3 h3 a4 h4 a5 kn op ow tr fu kg co pn si ri pa ma pcs sqa mvs los lsz lfs asz afs))) (vp_Si (fun r => r = nI (ded bd f t k))) 0 0 (fun _ => False) := by
  refine entM (by decide) (Nat.le_of_ble_eq_true rfl) ?_
  intro p e s m below meth c ls S0 hr hlocks hG hnm hB hl
  have hx := S0.1
  have hb := S0.2.1
  have hown := S0.2.2.2.1
  have hl : lv_has ls 6 [(0, .ref h2), (1, .int (nI (f + 64 * t + 4096 * k)))] := hl
  obtain ⟨hP, hD, hK, hA, hE⟩ := hB
  have hS : va_S A s.heap s.heap [] := va_S.rf
  have htl := tkn_lt (bd := bd) hf ht
  have htb := (hCP.1 _ htl).2
  refine lv_iload_n hx hb dX2_deedsOf_0 rfl (lv_at hl 1 rfl) ?_
  refine roI (rnSN (host := RX4) (As := [.int (nI (f + 64 * t + 4096 * k))]) (rest := []) S0 (c_X4_fromOf l (nI (f + 64 * t + 4096 * k))) (nl_X2_94 hE.1) wt_X4_fromOf wn_X4 wc_X4_fromOf hd_X4_fromOf ⟨rfl, rfl, by decide, by decide⟩ True.blind (fun _ _ _ => trivial) hl.1 (Nat.le_of_ble_eq_true rfl) dX2_deedsOf_1 rfl ⟨by decide, by decide⟩) (fun r_1 hr_1 => ?_)
  subst hr_1
  refine W.top (y := .int (nI f)) (congrArg Value.int (fr_e hf ht hk)) ?_
  refine lv_istore_n (lv' := [(2, .int (nI f)), (0, .ref h2), (1, .int (nI (f + 64 * t + 4096 * k)))]) hx hb dX2_deedsOf_4 rfl hl (by decide) rfl (fun ls hl => ?_)
  refine lv_iload_n hx hb dX2_deedsOf_5 rfl (lv_at hl 2 rfl) ?_
  refine roI (rnSN (host := RX4) (As := [.int (nI (f + 64 * t + 4096 * k))]) (rest := []) S0 (c_X4_toOf l (nI (f + 64 * t + 4096 * k))) (nl_X2_98 hE.1) wt_X4_toOf wn_X4 wc_X4_toOf hd_X4_toOf ⟨rfl, rfl, by decide, by decide⟩ True.blind (fun _ _ _ => trivial) hl.1 (Nat.le_of_ble_eq_true rfl) dX2_deedsOf_6 rfl ⟨by decide, by decide⟩) (fun r_2 hr_2 => ?_)
  subst hr_2
  refine W.top (y := .int (nI t)) (congrArg Value.int (to_e hf ht hk)) ?_
  refine lv_istore_n (lv' := [(3, .int (nI t)), (2, .int (nI f)), (0, .ref h2), (1, .int (nI (f + 64 * t + 4096 * k)))]) hx hb dX2_deedsOf_9 rfl hl (by decide) rfl (fun ls hl => ?_)
  refine lv_aload_n hx hb dX2_deedsOf_10 rfl (lv_at hl 2 rfl) ?_
  refine lv_iload_n hx hb dX2_deedsOf_11 rfl (lv_at hl 1 rfl) ?_
  refine lv_iload_n hx hb dX2_deedsOf_12 rfl (lv_at hl 0 rfl) ?_
  refine roI (rnV (As := [.int (nI f), .int (nI t)]) (rest := []) S0 (c_X2_takenSquare l bd hCP f t (by omega) (by omega)) wm_X2_101 wi_X2_takenSquare ws_X2_takenSquare wn_X2 wc_X2_takenSquare hd_X2_takenSquare ⟨rfl, rfl, by decide, by decide⟩ IW.blind (va_recv hK hP (ci := 1) (q0 := 2) rfl rfl) (IW.at hP hD hK hA hE hS) hl.1 (Nat.le_of_ble_eq_true rfl) dX2_deedsOf_13 rfl ⟨by decide, by decide⟩) (fun r_3 hr_3 => ?_)
  subst hr_3
  refine lv_istore (lv' := [(4, .int (nI (tkn bd f t))), (3, .int (nI t)), (2, .int (nI f)), (0, .ref h2), (1, .int (nI (f + 64 * t + 4096 * k)))]) hx hb dX2_deedsOf_16 hl (by decide) rfl (fun ls hl => ?_)
  refine lv_aload_n hx hb dX2_deedsOf_18 rfl (lv_at hl 3 rfl) ?_
  refine lv_iload hx hb dX2_deedsOf_19 (lv_at hl 0 rfl) ?_
  refine roI (rnV (As := [.int (nI (tkn bd f t))]) (rest := []) S0 (c_X2_pieceOn l bd hCP (tkn bd f t) (by omega)) wm_X2_105 wi_X2_pieceOn ws_X2_pieceOn wn_X2 wc_X2_pieceOn hd_X2_pieceOn ⟨rfl, rfl, by decide, by decide⟩ IW.blind (va_recv hK hP (ci := 1) (q0 := 2) rfl rfl) (IW.at hP hD hK hA hE hS) hl.1 (Nat.le_of_ble_eq_true rfl) dX2_deedsOf_21 rfl ⟨by decide, by decide⟩) (fun r_4 hr_4 => ?_)
  subst hr_4
  refine jnG 32 6 [(4, .int (nI (tkn bd f t))), (3, .int (nI t)), (2, .int (nI f)), (0, .ref h2), (1, .int (nI (f + 64 * t + 4096 * k)))] [.int (nI (if bd (tkn bd f t) = 0 then 0 else 1))] ?_ (fun hj_32 => ?_)
  · intro ls hl
    refine lv_istore (lv' := [(5, .int (nI (if bd (tkn bd f t) = 0 then 0 else 1))), (4, .int (nI (tkn bd f t))), (3, .int (nI t)), (2, .int (nI f)), (0, .ref h2), (1, .int (nI (f + 64 * t + 4096 * k)))]) hx hb dX2_deedsOf_32 hl (by decide) rfl (fun ls hl => ?_)
    refine lv_iload hx hb dX2_deedsOf_34 (lv_at hl 1 rfl) ?_
    refine lv_iload_n hx hb dX2_deedsOf_36 rfl (lv_at hl 2 rfl) ?_
    refine jnG 43 6 [(5, .int (nI ((if bd (tkn bd f t) = 0 then 0 else 1) + if tkn bd f t = t then 0 else 2))), (0, .ref h2), (1, .int (nI (f + 64 * t + 4096 * k))), (2, .int (nI f)), (3, .int (nI t))] [] ?_ (fun hj_43 => ?_)
    · intro ls hl
      refine lv_aload_n hx hb dX2_deedsOf_43 rfl (lv_at hl 1 rfl) ?_
      refine lv_iload_n hx hb dX2_deedsOf_44 rfl (lv_at hl 3 rfl) ?_
      refine lv_iload_n hx hb dX2_deedsOf_45 rfl (lv_at hl 4 rfl) ?_
      refine roI (rnV (As := [.int (nI f), .int (nI t)]) (rest := []) S0 (c_X2_isCastling l bd hCP f t (by omega) (by omega)) wm_X2_108 wi_X2_isCastling ws_X2_isCastling wn_X2 wc_X2_isCastling hd_X2_isCastling ⟨rfl, rfl, by decide, by decide⟩ IW.blind (va_recv hK hP (ci := 1) (q0 := 2) rfl rfl) (IW.at hP hD hK hA hE hS) hl.1 (Nat.le_of_ble_eq_true rfl) dX2_deedsOf_46 rfl ⟨by decide, by decide⟩) (fun r_5 hr_5 => ?_)
      subst hr_5
      refine jnG 55 6 [(5, .int (nI (((if bd (tkn bd f t) = 0 then 0 else 1) + if tkn bd f t = t then 0 else 2) + if ict bd f t = true then 4 else 0))), (0, .ref h2), (1, .int (nI (f + 64 * t + 4096 * k)))] [] ?_ (fun hj_55 => ?_)
      · intro ls hl
        refine lv_iload_n hx hb dX2_deedsOf_55 rfl (lv_at hl 2 rfl) ?_
        refine roI (rnSN (host := RX4) (As := [.int (nI (f + 64 * t + 4096 * k))]) (rest := []) S0 (c_X4_becomesOf l (nI (f + 64 * t + 4096 * k))) (nl_X2_112 hE.1) wt_X4_becomesOf wn_X4 wc_X4_becomesOf hd_X4_becomesOf ⟨rfl, rfl, by decide, by decide⟩ True.blind (fun _ _ _ => trivial) hl.1 (Nat.le_of_ble_eq_true rfl) dX2_deedsOf_56 rfl ⟨by decide, by decide⟩) (fun r_6 hr_6 => ?_)
        subst hr_6
        refine W.top (y := .int (nI k)) (congrArg Value.int (be_e hf ht hk)) ?_
        refine ln_if_eq (tgt := 65) hx hb dX2_deedsOf_59 (by decide) (by omega) (fun c59 => ?_) (fun c59 => ?_)
        · skip
          refine lv_iload hx hb dX2_deedsOf_65 (lv_at hl 0 rfl) ?_
          exact reI hx hb hr hlocks dX2_deedsOf_67 (congrArg nI (by unfold ded; first | (rw [if_pos c59, Nat.add_zero]) | rw [if_neg c59]))
        · skip
          refine lv_iinc (v := (nI ((((if bd (tkn bd f t) = 0 then 0 else 1) + if tkn bd f t = t then 0 else 2) + if ict bd f t = true then 4 else 0) + 8))) (lv' := [(5, .int (nI ((((if bd (tkn bd f t) = 0 then 0 else 1) + if tkn bd f t = t then 0 else 2) + if ict bd f t = true then 4 else 0) + 8))), (0, .ref h2), (1, .int (nI (f + 64 * t + 4096 * k)))]) hx hb dX2_deedsOf_62 hl (k := 0) rfl (show nI (((if bd (tkn bd f t) = 0 then 0 else 1) + if tkn bd f t = t then 0 else 2) + if ict bd f t = true then 4 else 0) + Int32.ofInt 8 = nI ((((if bd (tkn bd f t) = 0 then 0 else 1) + if tkn bd f t = t then 0 else 2) + if ict bd f t = true then 4 else 0) + 8) from nI_add _ 8) (by decide) rfl (fun ls hl => ?_)
          refine lv_iload hx hb dX2_deedsOf_65 (lv_at hl 0 rfl) ?_
          exact reI hx hb hr hlocks dX2_deedsOf_67 (congrArg nI (by unfold ded; first | (rw [if_pos c59, Nat.add_zero]) | rw [if_neg c59]))
      · skip
        refine lb_if_eq (tgt := 55) hx hb dX2_deedsOf_49 (by decide) (fun c49 => ?_) (fun c49 => ?_)
        · skip
          have hl2 : lv_has ls 6 [(5, .int (nI ((if bd (tkn bd f t) = 0 then 0 else 1) + if tkn bd f t = t then 0 else 2))), (0, .ref h2), (1, .int (nI (f + 64 * t + 4096 * k)))] := by
            exact lv_sub hl [0, 1, 2] rfl
          exact hj_55 ls (by have e9 : ([(5, .int (nI ((if bd (tkn bd f t) = 0 then 0 else 1) + if tkn bd f t = t then 0 else 2))), (0, .ref h2), (1, .int (nI (f + 64 * t + 4096 * k)))] : List (Nat × Value)) = [(5, .int (nI (((if bd (tkn bd f t) = 0 then 0 else 1) + if tkn bd f t = t then 0 else 2) + if ict bd f t = true then 4 else 0))), (0, .ref h2), (1, .int (nI (f + 64 * t + 4096 * k)))] := (by first | rw [if_pos c49] | rw [if_neg (show ¬ ict bd f t = true by rw [c49]; decide), Nat.add_zero]); rw [← e9]; exact hl2)
        · skip
          refine lv_iinc (v := (nI (((if bd (tkn bd f t) = 0 then 0 else 1) + if tkn bd f t = t then 0 else 2) + 4))) (lv' := [(5, .int (nI (((if bd (tkn bd f t) = 0 then 0 else 1) + if tkn bd f t = t then 0 else 2) + 4))), (0, .ref h2), (1, .int (nI (f + 64 * t + 4096 * k))), (2, .int (nI f)), (3, .int (nI t))]) hx hb dX2_deedsOf_52 hl (k := 0) rfl (show nI ((if bd (tkn bd f t) = 0 then 0 else 1) + if tkn bd f t = t then 0 else 2) + Int32.ofInt 4 = nI (((if bd (tkn bd f t) = 0 then 0 else 1) + if tkn bd f t = t then 0 else 2) + 4) from nI_add _ 4) (by decide) rfl (fun ls hl => ?_)
          have hl2 : lv_has ls 6 [(5, .int (nI (((if bd (tkn bd f t) = 0 then 0 else 1) + if tkn bd f t = t then 0 else 2) + 4))), (0, .ref h2), (1, .int (nI (f + 64 * t + 4096 * k)))] := by
            exact lv_sub hl [0, 1, 2] rfl
          exact hj_55 ls (by have e9 : ([(5, .int (nI (((if bd (tkn bd f t) = 0 then 0 else 1) + if tkn bd f t = t then 0 else 2) + 4))), (0, .ref h2), (1, .int (nI (f + 64 * t + 4096 * k)))] : List (Nat × Value)) = [(5, .int (nI (((if bd (tkn bd f t) = 0 then 0 else 1) + if tkn bd f t = t then 0 else 2) + if ict bd f t = true then 4 else 0))), (0, .ref h2), (1, .int (nI (f + 64 * t + 4096 * k)))] := (by first | rw [if_pos c49] | rw [if_neg (show ¬ ict bd f t = true by rw [c49]; decide), Nat.add_zero]); rw [← e9]; exact hl2)
    · skip
      refine ln_icmp_eq (tgt := 43) hx hb dX2_deedsOf_37 (by decide) (by omega) (by omega) (fun c37 => ?_) (fun c37 => ?_)
      · skip
        have hl2 : lv_has ls 6 [(5, .int (nI (if bd (tkn bd f t) = 0 then 0 else 1))), (0, .ref h2), (1, .int (nI (f + 64 * t + 4096 * k))), (2, .int (nI f)), (3, .int (nI t))] := by
          exact lv_sub hl [0, 4, 5, 3, 2] rfl
        exact hj_43 ls (by have e9 : ([(5, .int (nI (if bd (tkn bd f t) = 0 then 0 else 1))), (0, .ref h2), (1, .int (nI (f + 64 * t + 4096 * k))), (2, .int (nI f)), (3, .int (nI t))] : List (Nat × Value)) = [(5, .int (nI ((if bd (tkn bd f t) = 0 then 0 else 1) + if tkn bd f t = t then 0 else 2))), (0, .ref h2), (1, .int (nI (f + 64 * t + 4096 * k))), (2, .int (nI f)), (3, .int (nI t))] := (by first | rw [if_pos c37, Nat.add_zero] | rw [if_neg c37]); rw [← e9]; exact hl2)
      · skip
        refine lv_iinc (v := (nI ((if bd (tkn bd f t) = 0 then 0 else 1) + 2))) (lv' := [(5, .int (nI ((if bd (tkn bd f t) = 0 then 0 else 1) + 2))), (4, .int (nI (tkn bd f t))), (3, .int (nI t)), (2, .int (nI f)), (0, .ref h2), (1, .int (nI (f + 64 * t + 4096 * k)))]) hx hb dX2_deedsOf_40 hl (k := 0) rfl (show nI (if bd (tkn bd f t) = 0 then 0 else 1) + Int32.ofInt 2 = nI ((if bd (tkn bd f t) = 0 then 0 else 1) + 2) from nI_add _ 2) (by decide) rfl (fun ls hl => ?_)
        have hl2 : lv_has ls 6 [(5, .int (nI ((if bd (tkn bd f t) = 0 then 0 else 1) + 2))), (0, .ref h2), (1, .int (nI (f + 64 * t + 4096 * k))), (2, .int (nI f)), (3, .int (nI t))] := by
          exact lv_sub hl [0, 4, 5, 3, 2] rfl
        exact hj_43 ls (by have e9 : ([(5, .int (nI ((if bd (tkn bd f t) = 0 then 0 else 1) + 2))), (0, .ref h2), (1, .int (nI (f + 64 * t + 4096 * k))), (2, .int (nI f)), (3, .int (nI t))] : List (Nat × Value)) = [(5, .int (nI ((if bd (tkn bd f t) = 0 then 0 else 1) + if tkn bd f t = t then 0 else 2))), (0, .ref h2), (1, .int (nI (f + 64 * t + 4096 * k))), (2, .int (nI f)), (3, .int (nI t))] := (by first | rw [if_pos c37, Nat.add_zero] | rw [if_neg c37]); rw [← e9]; exact hl2)
  · skip
    refine ln_if_eq (tgt := 31) hx hb dX2_deedsOf_24 (by decide) (by omega) (fun c24 => ?_) (fun c24 => ?_)
    · skip
      refine lv_iconst (v := (nI 0)) hx hb dX2_deedsOf_31 (by decide) ?_
      refine W.top (y := .int (nI (if bd (tkn bd f t) = 0 then 0 else 1))) (congrArg Value.int (congrArg nI (by first | rw [if_pos c24] | rw [if_neg c24]))) ?_
      exact hj_32 ls (lv_sub hl [0, 1, 2, 3, 4] rfl)
    · skip
      refine lv_iconst (v := (nI 1)) hx hb dX2_deedsOf_27 (by decide) ?_
      refine lv_goto (tgt := 32) hx hb dX2_deedsOf_28 (by decide) ?_
      refine W.top (y := .int (nI (if bd (tkn bd f t) = 0 then 0 else 1))) (congrArg Value.int (congrArg nI (by first | rw [if_pos c24] | rw [if_neg c24]))) ?_
      exact hj_32 ls (lv_sub hl [0, 1, 2, 3, 4] rfl)
theorem dX2_play_0 : decode cX2_play 0 = .ok (.iload_n 1, 1) := by decide +kernel
theorem dX2_play_1 : decode cX2_play 1 = .ok (.invokestatic 94, 3) := by decide +kernel
theorem dX2_play_4 : decode cX2_play 4 = .ok (.istore_n 2, 1) := by decide +kernel
theorem dX2_play_5 : decode cX2_play 5 = .ok (.iload_n 1, 1) := by decide +kernel
theorem dX2_play_6 : decode cX2_play 6 = .ok (.invokestatic 98, 3) := by decide +kernel
theorem dX2_play_9 : decode cX2_play 9 = .ok (.istore_n 3, 1) := by decide +kernel
theorem dX2_play_10 : decode cX2_play 10 = .ok (.aload_n 0, 1) := by decide +kernel
theorem dX2_play_11 : decode cX2_play 11 = .ok (.iload_n 2, 1) := by decide +kernel
theorem dX2_play_12 : decode cX2_play 12 = .ok (.invokevirtual 105, 3) := by decide +kernel
theorem dX2_play_15 : decode cX2_play 15 = .ok (.istore 4, 2) := by decide +kernel
theorem dX2_play_17 : decode cX2_play 17 = .ok (.aload_n 0, 1) := by decide +kernel
theorem dX2_play_18 : decode cX2_play 18 = .ok (.iload_n 2, 1) := by decide +kernel
theorem dX2_play_19 : decode cX2_play 19 = .ok (.iload_n 3, 1) := by decide +kernel
theorem dX2_play_20 : decode cX2_play 20 = .ok (.invokevirtual 101, 3) := by decide +kernel
theorem dX2_play_23 : decode cX2_play 23 = .ok (.istore 5, 2) := by decide +kernel
theorem dX2_play_25 : decode cX2_play 25 = .ok (.aload_n 0, 1) := by decide +kernel
theorem dX2_play_26 : decode cX2_play 26 = .ok (.iload_n 1, 1) := by decide +kernel
theorem dX2_play_27 : decode cX2_play 27 = .ok (.iload 5, 2) := by decide +kernel
theorem dX2_play_29 : decode cX2_play 29 = .ok (.invokevirtual 115, 3) := by decide +kernel
theorem dX2_play_32 : decode cX2_play 32 = .ok (.aload_n 0, 1) := by decide +kernel
theorem dX2_play_33 : decode cX2_play 33 = .ok (.iload_n 2, 1) := by decide +kernel
theorem dX2_play_34 : decode cX2_play 34 = .ok (.iload_n 3, 1) := by decide +kernel
theorem dX2_play_35 : decode cX2_play 35 = .ok (.invokevirtual 108, 3) := by decide +kernel
theorem dX2_play_38 : decode cX2_play 38 = .ok (.ifCond .eq 17, 3) := by decide +kernel
theorem dX2_play_41 : decode cX2_play 41 = .ok (.aload_n 0, 1) := by decide +kernel
theorem dX2_play_42 : decode cX2_play 42 = .ok (.iload_n 2, 1) := by decide +kernel
theorem dX2_play_43 : decode cX2_play 43 = .ok (.iload_n 3, 1) := by decide +kernel
theorem dX2_play_44 : decode cX2_play 44 = .ok (.invokestatic 118, 3) := by decide +kernel
theorem dX2_play_47 : decode cX2_play 47 = .ok (.iload_n 2, 1) := by decide +kernel
theorem dX2_play_48 : decode cX2_play 48 = .ok (.iload_n 3, 1) := by decide +kernel
theorem dX2_play_49 : decode cX2_play 49 = .ok (.iadd, 1) := by decide +kernel
theorem dX2_play_50 : decode cX2_play 50 = .ok (.iconst 2, 1) := by decide +kernel
theorem dX2_play_51 : decode cX2_play 51 = .ok (.idiv, 1) := by decide +kernel
theorem dX2_play_52 : decode cX2_play 52 = .ok (.invokevirtual 121, 3) := by decide +kernel
theorem dX2_play_55 : decode cX2_play 55 = .ok (.aload_n 0, 1) := by decide +kernel
theorem dX2_play_56 : decode cX2_play 56 = .ok (.iload 5, 2) := by decide +kernel
theorem dX2_play_58 : decode cX2_play 58 = .ok (.iconst 0, 1) := by decide +kernel
theorem dX2_play_59 : decode cX2_play 59 = .ok (.invokevirtual 40, 3) := by decide +kernel
theorem dX2_play_62 : decode cX2_play 62 = .ok (.aload_n 0, 1) := by decide +kernel
theorem dX2_play_63 : decode cX2_play 63 = .ok (.iload_n 2, 1) := by decide +kernel
theorem dX2_play_64 : decode cX2_play 64 = .ok (.iload_n 3, 1) := by decide +kernel
theorem dX2_play_65 : decode cX2_play 65 = .ok (.invokevirtual 121, 3) := by decide +kernel
theorem dX2_play_68 : decode cX2_play 68 = .ok (.iload_n 1, 1) := by decide +kernel
theorem dX2_play_69 : decode cX2_play 69 = .ok (.invokestatic 112, 3) := by decide +kernel
theorem dX2_play_72 : decode cX2_play 72 = .ok (.ifCond .eq 20, 3) := by decide +kernel
theorem dX2_play_75 : decode cX2_play 75 = .ok (.aload_n 0, 1) := by decide +kernel
theorem dX2_play_76 : decode cX2_play 76 = .ok (.iload_n 3, 1) := by decide +kernel
theorem dX2_play_77 : decode cX2_play 77 = .ok (.bipush 6, 2) := by decide +kernel
theorem dX2_play_79 : decode cX2_play 79 = .ok (.aload_n 0, 1) := by decide +kernel
theorem dX2_play_80 : decode cX2_play 80 = .ok (.getfield 21, 3) := by decide +kernel
theorem dX2_play_83 : decode cX2_play 83 = .ok (.imul, 1) := by decide +kernel
theorem dX2_play_84 : decode cX2_play 84 = .ok (.iload_n 1, 1) := by decide +kernel
theorem dX2_play_85 : decode cX2_play 85 = .ok (.invokestatic 112, 3) := by decide +kernel
theorem dX2_play_88 : decode cX2_play 88 = .ok (.iadd, 1) := by decide +kernel
theorem dX2_play_89 : decode cX2_play 89 = .ok (.invokevirtual 40, 3) := by decide +kernel
theorem dX2_play_92 : decode cX2_play 92 = .ok (.aload_n 0, 1) := by decide +kernel
theorem dX2_play_93 : decode cX2_play 93 = .ok (.dup, 1) := by decide +kernel
theorem dX2_play_94 : decode cX2_play 94 = .ok (.getfield 25, 3) := by decide +kernel
theorem dX2_play_97 : decode cX2_play 97 = .ok (.iload_n 2, 1) := by decide +kernel
theorem dX2_play_98 : decode cX2_play 98 = .ok (.invokestatic 124, 3) := by decide +kernel
theorem dX2_play_101 : decode cX2_play 101 = .ok (.iload_n 3, 1) := by decide +kernel
theorem dX2_play_102 : decode cX2_play 102 = .ok (.invokestatic 124, 3) := by decide +kernel
theorem dX2_play_105 : decode cX2_play 105 = .ok (.ior, 1) := by decide +kernel
theorem dX2_play_106 : decode cX2_play 106 = .ok (.iconst (-1), 1) := by decide +kernel
theorem dX2_play_107 : decode cX2_play 107 = .ok (.ixor, 1) := by decide +kernel
theorem dX2_play_108 : decode cX2_play 108 = .ok (.iand, 1) := by decide +kernel
theorem dX2_play_109 : decode cX2_play 109 = .ok (.putfield 25, 3) := by decide +kernel
theorem dX2_play_112 : decode cX2_play 112 = .ok (.iload 4, 2) := by decide +kernel
theorem dX2_play_114 : decode cX2_play 114 = .ok (.invokestatic 127, 3) := by decide +kernel
theorem dX2_play_117 : decode cX2_play 117 = .ok (.bipush 6, 2) := by decide +kernel
theorem dX2_play_119 : decode cX2_play 119 = .ok (.if_icmp .ne 22, 3) := by decide +kernel
theorem dX2_play_122 : decode cX2_play 122 = .ok (.aload_n 0, 1) := by decide +kernel
theorem dX2_play_123 : decode cX2_play 123 = .ok (.dup, 1) := by decide +kernel
theorem dX2_play_124 : decode cX2_play 124 = .ok (.getfield 25, 3) := by decide +kernel
theorem dX2_play_127 : decode cX2_play 127 = .ok (.iconst 3, 1) := by decide +kernel
theorem dX2_play_128 : decode cX2_play 128 = .ok (.iconst 2, 1) := by decide +kernel
theorem dX2_play_129 : decode cX2_play 129 = .ok (.aload_n 0, 1) := by decide +kernel
theorem dX2_play_130 : decode cX2_play 130 = .ok (.getfield 21, 3) := by decide +kernel
theorem dX2_play_133 : decode cX2_play 133 = .ok (.imul, 1) := by decide +kernel
theorem dX2_play_134 : decode cX2_play 134 = .ok (.ishl, 1) := by decide +kernel
theorem dX2_play_135 : decode cX2_play 135 = .ok (.iconst (-1), 1) := by decide +kernel
theorem dX2_play_136 : decode cX2_play 136 = .ok (.ixor, 1) := by decide +kernel
theorem dX2_play_137 : decode cX2_play 137 = .ok (.iand, 1) := by decide +kernel
theorem dX2_play_138 : decode cX2_play 138 = .ok (.putfield 25, 3) := by decide +kernel
theorem dX2_play_141 : decode cX2_play 141 = .ok (.aload_n 0, 1) := by decide +kernel
theorem dX2_play_142 : decode cX2_play 142 = .ok (.aload_n 0, 1) := by decide +kernel
theorem dX2_play_143 : decode cX2_play 143 = .ok (.iload 4, 2) := by decide +kernel
theorem dX2_play_145 : decode cX2_play 145 = .ok (.iload_n 2, 1) := by decide +kernel
theorem dX2_play_146 : decode cX2_play 146 = .ok (.iload_n 3, 1) := by decide +kernel
theorem dX2_play_147 : decode cX2_play 147 = .ok (.invokevirtual 130, 3) := by decide +kernel
theorem dX2_play_150 : decode cX2_play 150 = .ok (.putfield 28, 3) := by decide +kernel
theorem dX2_play_153 : decode cX2_play 153 = .ok (.aload_n 0, 1) := by decide +kernel
theorem dX2_play_154 : decode cX2_play 154 = .ok (.iconst 1, 1) := by decide +kernel
theorem dX2_play_155 : decode cX2_play 155 = .ok (.aload_n 0, 1) := by decide +kernel
theorem dX2_play_156 : decode cX2_play 156 = .ok (.getfield 21, 3) := by decide +kernel
theorem dX2_play_159 : decode cX2_play 159 = .ok (.isub, 1) := by decide +kernel
theorem dX2_play_160 : decode cX2_play 160 = .ok (.putfield 21, 3) := by decide +kernel
theorem dX2_play_163 : decode cX2_play 163 = .ok (.return_, 1) := by decide +kernel
theorem hd_X2_play : yX2_play.cls ≠ "java/lang/invoke/MethodHandle" ∧ yX2_play.cls ≠ "java/lang/invoke/VarHandle" ∧ (parseMethodDescriptor yX2_play.desc).map (fun d => d.parameters.length) = some 1 := by decide +kernel
set_option maxHeartbeats 4000000 in
set_option maxRecDepth 100000 in
/-- play -/
theorem c_X2_play (l : Launch) {D : va_G} {cI cJ : ClassId} {A : Nat → Prop} {h0 h1 h2 a0 a1 a2 a3 h3 a4 h4 a5 : Nat} {kn op : Int32} {ow tr fu kg co pn : Int64} {pcs : Nat → Int32} {sqa : Nat → Int64} {mvs los : Nat → Int32} {lsz : Int32} {lfs : Nat → Int32} {asz : Int32} {afs : Nat → Int32} (bd : Nat → Nat) (hCP : CP pcs sqa bd) (sd rt ps n : Nat) (hs2 : sd < 2) (hr16 : rt < 16) (hp65 : ps < 65) (hn : n < 204) (f t k : Nat) (hf : f < 64) (ht : t < 64) (hk : k < 6) (hct : ict bd f t = true → (t ≤ f → 4 ≤ f) ∧ rok f t < 64) : Met l yX2_play (Cond.code yX2_play cX2_play 6 none :: wsL_law) (rK 3) (va_Pc [.ref h2, .int (nI (f + 64 * t + 4096 * k))] (IW D cI cJ A (cW cI cJ h0 h1 h2 a0 a1 a2 a3 h3 a4 h4 a5 kn op ow tr fu kg co pn (nI sd) (nI rt) (pI ps) (nI n) pcs sqa mvs los lsz lfs asz afs))) (va_Qv (fun u => CP u.1 u.2 (plB bd sd f t k)) (fun (u : (Nat → Int32) × (Nat → Int64)) t9 => IW D cI cJ A (cW cI cJ h0 h1 h2 a0 a1 a2 a3 h3 a4 h4 a5 kn op ow tr fu kg co pn (nI (1 - sd)) (nI (plR bd sd rt f t)) (pI (pss (plB bd sd f t k) sd (bd f) f t)) (nI (n + 1)) u.1 u.2 (upd mvs n (nI (f + 64 * t + 4096 * k))) (upd los n (losE (bd (tkn bd f t)) (tkn bd f t) rt ps)) lsz lfs asz afs) t9) A) 0 0 A := by
  refine entM (by decide) (Nat.le_of_ble_eq_true rfl) ?_
  intro p e s m below meth c ls S0 hr hlocks hG hnm hB hl
  have hx := S0.1
  have hb := S0.2.1
  have hown := S0.2.2.2.1
  have hl : lv_has ls 6 [(0, .ref h2), (1, .int (nI (f + 64 * t + 4096 * k)))] := hl
  obtain ⟨hP, hD, hK, hA, hE⟩ := hB
  have hS : va_S A s.heap s.heap [] := va_S.rf
  have htl := tkn_lt (bd := bd) hf ht
  have hfb := (hCP.1 f hf).2
  have hkf := kd_lt hfb
  refine lv_iload_n hx hb dX2_play_0 rfl (lv_at hl 1 rfl) ?_
  refine roI (rnSN (host := RX4) (As := [.int (nI (f + 64 * t + 4096 * k))]) (rest := []) S0 (c_X4_fromOf l (nI (f + 64 * t + 4096 * k))) (nl_X2_94 hE.1) wt_X4_fromOf wn_X4 wc_X4_fromOf hd_X4_fromOf ⟨rfl, rfl, by decide, by decide⟩ True.blind (fun _ _ _ => trivial) hl.1 (Nat.le_of_ble_eq_true rfl) dX2_play_1 rfl ⟨by decide, by decide⟩) (fun r_1 hr_1 => ?_)
  subst hr_1
  refine W.top (y := .int (nI f)) (congrArg Value.int (fr_e hf ht hk)) ?_
  refine lv_istore_n (lv' := [(2, .int (nI f)), (0, .ref h2), (1, .int (nI (f + 64 * t + 4096 * k)))]) hx hb dX2_play_4 rfl hl (by decide) rfl (fun ls hl => ?_)
  refine lv_iload_n hx hb dX2_play_5 rfl (lv_at hl 2 rfl) ?_
  refine roI (rnSN (host := RX4) (As := [.int (nI (f + 64 * t + 4096 * k))]) (rest := []) S0 (c_X4_toOf l (nI (f + 64 * t + 4096 * k))) (nl_X2_98 hE.1) wt_X4_toOf wn_X4 wc_X4_toOf hd_X4_toOf ⟨rfl, rfl, by decide, by decide⟩ True.blind (fun _ _ _ => trivial) hl.1 (Nat.le_of_ble_eq_true rfl) dX2_play_6 rfl ⟨by decide, by decide⟩) (fun r_2 hr_2 => ?_)
  subst hr_2
  refine W.top (y := .int (nI t)) (congrArg Value.int (to_e hf ht hk)) ?_
  refine lv_istore_n (lv' := [(3, .int (nI t)), (2, .int (nI f)), (0, .ref h2), (1, .int (nI (f + 64 * t + 4096 * k)))]) hx hb dX2_play_9 rfl hl (by decide) rfl (fun ls hl => ?_)
  refine lv_aload_n hx hb dX2_play_10 rfl (lv_at hl 2 rfl) ?_
  refine lv_iload_n hx hb dX2_play_11 rfl (lv_at hl 1 rfl) ?_
  refine roI (rnV (As := [.int (nI f)]) (rest := []) S0 (c_X2_pieceOn l bd hCP f (by omega)) wm_X2_105 wi_X2_pieceOn ws_X2_pieceOn wn_X2 wc_X2_pieceOn hd_X2_pieceOn ⟨rfl, rfl, by decide, by decide⟩ IW.blind (va_recv hK hP (ci := 1) (q0 := 2) rfl rfl) (IW.at hP hD hK hA hE hS) hl.1 (Nat.le_of_ble_eq_true rfl) dX2_play_12 rfl ⟨by decide, by decide⟩) (fun r_3 hr_3 => ?_)
  subst hr_3
  refine lv_istore (lv' := [(4, .int (nI (bd f))), (3, .int (nI t)), (2, .int (nI f)), (0, .ref h2), (1, .int (nI (f + 64 * t + 4096 * k)))]) hx hb dX2_play_15 hl (by decide) rfl (fun ls hl => ?_)
  refine lv_aload_n hx hb dX2_play_17 rfl (lv_at hl 3 rfl) ?_
  refine lv_iload_n hx hb dX2_play_18 rfl (lv_at hl 2 rfl) ?_
  refine lv_iload_n hx hb dX2_play_19 rfl (lv_at hl 1 rfl) ?_
  refine roI (rnV (As := [.int (nI f), .int (nI t)]) (rest := []) S0 (c_X2_takenSquare l bd hCP f t (by omega) (by omega)) wm_X2_101 wi_X2_takenSquare ws_X2_takenSquare wn_X2 wc_X2_takenSquare hd_X2_takenSquare ⟨rfl, rfl, by decide, by decide⟩ IW.blind (va_recv hK hP (ci := 1) (q0 := 2) rfl rfl) (IW.at hP hD hK hA hE hS) hl.1 (Nat.le_of_ble_eq_true rfl) dX2_play_20 rfl ⟨by decide, by decide⟩) (fun r_4 hr_4 => ?_)
  subst hr_4
  refine lv_istore (lv' := [(5, .int (nI (tkn bd f t))), (4, .int (nI (bd f))), (3, .int (nI t)), (2, .int (nI f)), (0, .ref h2), (1, .int (nI (f + 64 * t + 4096 * k)))]) hx hb dX2_play_23 hl (by decide) rfl (fun ls hl => ?_)
  refine lv_aload_n hx hb dX2_play_25 rfl (lv_at hl 4 rfl) ?_
  refine lv_iload_n hx hb dX2_play_26 rfl (lv_at hl 5 rfl) ?_
  refine lv_iload hx hb dX2_play_27 (lv_at hl 0 rfl) ?_
  refine chV (rnV (As := [.int (nI (f + 64 * t + 4096 * k)), .int (nI (tkn bd f t))]) (rest := []) S0 (c_X2_remember l bd hCP rt ps n (tkn bd f t) hr16 hp65 (by omega) (by omega) (nI (f + 64 * t + 4096 * k))) wm_X2_115 wi_X2_remember ws_X2_remember wn_X2 wc_X2_remember hd_X2_remember ⟨rfl, rfl, by decide, by decide⟩ IW.blind (va_recv hK hP (ci := 1) (q0 := 2) rfl rfl) (IW.at hP hD hK hA hE hS) hl.1 (Nat.le_of_ble_eq_true rfl) dX2_play_29 rfl ⟨by decide, by decide⟩) hS (fun u_6 H locs hu hP hD hS => ?_)
  have hP : va_P D classes (cW cI cJ h0 h1 h2 a0 a1 a2 a3 h3 a4 h4 a5 kn op ow tr fu kg co pn (nI sd) (nI rt) (pI ps) (nI (n + 1)) pcs sqa (upd mvs n (nI (f + 64 * t + 4096 * k))) (upd los n (losE (bd (tkn bd f t)) (tkn bd f t) rt ps)) lsz lfs asz afs) H := hP
  have hD : va_D A (cW cI cJ h0 h1 h2 a0 a1 a2 a3 h3 a4 h4 a5 kn op ow tr fu kg co pn (nI sd) (nI rt) (pI ps) (nI (n + 1)) pcs sqa (upd mvs n (nI (f + 64 * t + 4096 * k))) (upd los n (losE (bd (tkn bd f t)) (tkn bd f t) rt ps)) lsz lfs asz afs) := hD
  refine lv_aload_n hx hb dX2_play_32 rfl (lv_at hl 4 rfl) ?_
  refine lv_iload_n hx hb dX2_play_33 rfl (lv_at hl 3 rfl) ?_
  refine lv_iload_n hx hb dX2_play_34 rfl (lv_at hl 2 rfl) ?_
  refine roI (rnV (As := [.int (nI f), .int (nI t)]) (rest := []) S0 (c_X2_isCastling l bd hCP f t (by omega) (by omega)) wm_X2_108 wi_X2_isCastling ws_X2_isCastling wn_X2 wc_X2_isCastling hd_X2_isCastling ⟨rfl, rfl, by decide, by decide⟩ IW.blind (va_recv hK hP (ci := 1) (q0 := 2) rfl rfl) (IW.at hP hD hK hA hE hS) hl.1 (Nat.le_of_ble_eq_true rfl) dX2_play_35 rfl ⟨by decide, by decide⟩) (fun r_7 hr_7 => ?_)
  subst hr_7
  refine jnW (σ := (Nat → Int32) × (Nat → Int64)) (D := D) (A := A) (H0 := s.heap) 55 6 (fun x9 => [(5, .int (nI (tkn bd f t))), (4, .int (nI (bd f))), (3, .int (nI t)), (2, .int (nI f)), (0, .ref h2), (1, .int (nI (f + 64 * t + 4096 * k)))]) [] (fun x9 => cW cI cJ h0 h1 h2 a0 a1 a2 a3 h3 a4 h4 a5 kn op ow tr fu kg co pn (nI sd) (nI rt) (pI ps) (nI (n + 1)) x9.1 x9.2 (upd mvs n (nI (f + 64 * t + 4096 * k))) (upd los n (losE (bd (tkn bd f t)) (tkn bd f t) rt ps)) lsz lfs asz afs) (fun x9 => CP x9.1 x9.2 (plB1 bd f t)) ?_ (fun hj_55 => ?_)
  · clear hP hD hS hl ls
    rintro ⟨p9, s9⟩ H locs hI hP hD hS ls hl
    try dsimp only at hI hP hD hl
    have hC2 := hI
    refine lv_aload_n hx hb dX2_play_55 rfl (lv_at hl 4 rfl) ?_
    refine lv_iload hx hb dX2_play_56 (lv_at hl 0 rfl) ?_
    refine lv_iconst (v := (nI 0)) hx hb dX2_play_58 (by decide) ?_
    refine chV (rnV (As := [.int (nI (tkn bd f t)), .int (nI 0)]) (rest := []) S0 (c_X2_set l (plB1 bd f t) hC2 (tkn bd f t) 0 (by omega) (by omega)) wm_X2_40 wi_X2_set ws_X2_set wn_X2 wc_X2_set hd_X2_set ⟨rfl, rfl, by decide, by decide⟩ IW.blind (va_recv hK hP (ci := 1) (q0 := 2) rfl rfl) (IW.at hP hD hK hA hE hS) hl.1 (Nat.le_of_ble_eq_true rfl) dX2_play_59 rfl ⟨by decide, by decide⟩) hS (fun u2 H locs hu hP hD hS => ?_)
    have hC3 := hu
    have hP : va_P D classes (cW cI cJ h0 h1 h2 a0 a1 a2 a3 h3 a4 h4 a5 kn op ow tr fu kg co pn (nI sd) (nI rt) (pI ps) (nI (n + 1)) u2.1 u2.2 (upd mvs n (nI (f + 64 * t + 4096 * k))) (upd los n (losE (bd (tkn bd f t)) (tkn bd f t) rt ps)) lsz lfs asz afs) H := hP
    have hD : va_D A (cW cI cJ h0 h1 h2 a0 a1 a2 a3 h3 a4 h4 a5 kn op ow tr fu kg co pn (nI sd) (nI rt) (pI ps) (nI (n + 1)) u2.1 u2.2 (upd mvs n (nI (f + 64 * t + 4096 * k))) (upd los n (losE (bd (tkn bd f t)) (tkn bd f t) rt ps)) lsz lfs asz afs) := hD
    refine lv_aload_n hx hb dX2_play_62 rfl (lv_at hl 4 rfl) ?_
    refine lv_iload_n hx hb dX2_play_63 rfl (lv_at hl 3 rfl) ?_
    refine lv_iload_n hx hb dX2_play_64 rfl (lv_at hl 2 rfl) ?_
    refine chV (rnV (As := [.int (nI f), .int (nI t)]) (rest := []) S0 (c_X2_carry l (upN (plB1 bd f t) (tkn bd f t) 0) hC3 f t (by omega) (by omega)) wm_X2_121 wi_X2_carry ws_X2_carry wn_X2 wc_X2_carry hd_X2_carry ⟨rfl, rfl, by decide, by decide⟩ IW.blind (va_recv hK hP (ci := 1) (q0 := 2) rfl rfl) (IW.at hP hD hK hA hE hS) hl.1 (Nat.le_of_ble_eq_true rfl) dX2_play_65 rfl ⟨by decide, by decide⟩) hS (fun u3 H locs hu hP hD hS => ?_)
    have hC4 := hu
    have hP : va_P D classes (cW cI cJ h0 h1 h2 a0 a1 a2 a3 h3 a4 h4 a5 kn op ow tr fu kg co pn (nI sd) (nI rt) (pI ps) (nI (n + 1)) u3.1 u3.2 (upd mvs n (nI (f + 64 * t + 4096 * k))) (upd los n (losE (bd (tkn bd f t)) (tkn bd f t) rt ps)) lsz lfs asz afs) H := hP
    have hD : va_D A (cW cI cJ h0 h1 h2 a0 a1 a2 a3 h3 a4 h4 a5 kn op ow tr fu kg co pn (nI sd) (nI rt) (pI ps) (nI (n + 1)) u3.1 u3.2 (upd mvs n (nI (f + 64 * t + 4096 * k))) (upd los n (losE (bd (tkn bd f t)) (tkn bd f t) rt ps)) lsz lfs asz afs) := hD
    refine lv_iload_n hx hb dX2_play_68 rfl (lv_at hl 5 rfl) ?_
    refine roI (rnSN (host := RX4) (As := [.int (nI (f + 64 * t + 4096 * k))]) (rest := []) S0 (c_X4_becomesOf l (nI (f + 64 * t + 4096 * k))) (nl_X2_112 hE.1) wt_X4_becomesOf wn_X4 wc_X4_becomesOf hd_X4_becomesOf ⟨rfl, rfl, by decide, by decide⟩ True.blind (fun _ _ _ => trivial) hl.1 (Nat.le_of_ble_eq_true rfl) dX2_play_69 rfl ⟨by decide, by decide⟩) (fun r_10 hr_10 => ?_)
    subst hr_10
    refine W.top (y := .int (nI k)) (congrArg Value.int (be_e hf ht hk)) ?_
    refine jnW (σ := (Nat → Int32) × (Nat → Int64)) (D := D) (A := A) (H0 := s.heap) 92 6 (fun x9 => [(5, .int (nI (tkn bd f t))), (4, .int (nI (bd f))), (3, .int (nI t)), (2, .int (nI f)), (0, .ref h2), (1, .int (nI (f + 64 * t + 4096 * k)))]) [] (fun x9 => cW cI cJ h0 h1 h2 a0 a1 a2 a3 h3 a4 h4 a5 kn op ow tr fu kg co pn (nI sd) (nI rt) (pI ps) (nI (n + 1)) x9.1 x9.2 (upd mvs n (nI (f + 64 * t + 4096 * k))) (upd los n (losE (bd (tkn bd f t)) (tkn bd f t) rt ps)) lsz lfs asz afs) (fun x9 => CP x9.1 x9.2 (plB bd sd f t k)) ?_ (fun hj_92 => ?_)
    · clear hP hD hS hl ls
      rintro ⟨p9, s9⟩ H locs hI hP hD hS ls hl
      try dsimp only at hI hP hD hl
      have hC9 := hI
      refine lv_aload_n hx hb dX2_play_92 rfl (lv_at hl 4 rfl) ?_
      refine lv_dup hx hb dX2_play_93 rfl ?_
      refine va_get (D := D) (ci := 1) (v := .int (nI rt)) (C := RX2) (T := TX2) (N := 8) hx hb hG wu_X2 hown hK hP 2 rfl rfl 3 (by decide) (hG _ wf_X2_25) (fun _ h9 => h9) rfl dX2_play_94 ?_
      refine lv_iload_n hx hb dX2_play_97 rfl (lv_at hl 3 rfl) ?_
      refine roI (rnS (As := [.int (nI f)]) (rest := [.int (nI rt), .ref h2]) S0 (c_X2_rightsAt l f (by omega)) wm_X2_124 wt_X2_rightsAt wn_X2 wc_X2_rightsAt hd_X2_rightsAt ⟨rfl, rfl, by decide, by decide⟩ True.blind (fun _ _ _ => trivial) hl.1 (Nat.le_of_ble_eq_true rfl) dX2_play_98 rfl ⟨by decide, by decide⟩) (fun r_11 hr_11 => ?_)
      subst hr_11
      refine lv_iload_n hx hb dX2_play_101 rfl (lv_at hl 2 rfl) ?_
      refine roI (rnS (As := [.int (nI t)]) (rest := [.int (nI (crn f)), .int (nI rt), .ref h2]) S0 (c_X2_rightsAt l t (by omega)) wm_X2_124 wt_X2_rightsAt wn_X2 wc_X2_rightsAt hd_X2_rightsAt ⟨rfl, rfl, by decide, by decide⟩ True.blind (fun _ _ _ => trivial) hl.1 (Nat.le_of_ble_eq_true rfl) dX2_play_102 rfl ⟨by decide, by decide⟩) (fun r_12 hr_12 => ?_)
      subst hr_12
      refine lv_ior hx hb dX2_play_105 ?_
      refine W.top (y := .int (nI (crn f ||| crn t))) (congrArg Value.int (crn_or f t).1) ?_
      refine lv_iconst (v := (-1)) hx hb dX2_play_106 (by decide) ?_
      refine lv_ixor hx hb dX2_play_107 ?_
      refine lv_iand hx hb dX2_play_108 ?_
      refine W.top (y := .int (nI (plR0 rt f t))) (congrArg Value.int (andn hr16 (crn_or f t).2)) ?_
      refine va_put (D := D) (ci := 1) (v := .int (nI (plR0 rt f t))) (ty := .int) (C := RX2) (T := TX2) (N := 8) hx hb hG wu_X2 tyX2 tyX2_ok nmX2 hown hK hP hD hS 2 rfl rfl 3 (by decide) (hG _ wf_X2_25) (fun _ h9 => h9) rfl (by decide +kernel) rfl rfl (Nat.le_of_ble_eq_true rfl) dX2_play_109 (fun H locs hP hD hS => ?_)
      have hP : va_P D classes (cW cI cJ h0 h1 h2 a0 a1 a2 a3 h3 a4 h4 a5 kn op ow tr fu kg co pn (nI sd) (nI (plR0 rt f t)) (pI ps) (nI (n + 1)) p9 s9 (upd mvs n (nI (f + 64 * t + 4096 * k))) (upd los n (losE (bd (tkn bd f t)) (tkn bd f t) rt ps)) lsz lfs asz afs) H := hP
      have hD : va_D A (cW cI cJ h0 h1 h2 a0 a1 a2 a3 h3 a4 h4 a5 kn op ow tr fu kg co pn (nI sd) (nI (plR0 rt f t)) (pI ps) (nI (n + 1)) p9 s9 (upd mvs n (nI (f + 64 * t + 4096 * k))) (upd los n (losE (bd (tkn bd f t)) (tkn bd f t) rt ps)) lsz lfs asz afs) := hD
      refine lv_iload hx hb dX2_play_112 (lv_at hl 1 rfl) ?_
      refine roI (rnSN (host := RX4) (As := [.int (nI (bd f))]) (rest := []) S0 (c_X4_typeOf l (bd f) (by omega)) (nl_X2_127 hE.1) wt_X4_typeOf wn_X4 wc_X4_typeOf hd_X4_typeOf ⟨rfl, rfl, by decide, by decide⟩ True.blind (fun _ _ _ => trivial) hl.1 (Nat.le_of_ble_eq_true rfl) dX2_play_114 rfl ⟨by decide, by decide⟩) (fun r_13 hr_13 => ?_)
      subst hr_13
      refine lv_bipush (v := (nI 6)) hx hb dX2_play_117 (by decide) ?_
      refine jnW (σ := (Unit)) (D := D) (A := A) (H0 := s.heap) 141 6 (fun x9 => [(5, .int (nI (tkn bd f t))), (4, .int (nI (bd f))), (3, .int (nI t)), (2, .int (nI f)), (0, .ref h2), (1, .int (nI (f + 64 * t + 4096 * k)))]) [] (fun x9 => cW cI cJ h0 h1 h2 a0 a1 a2 a3 h3 a4 h4 a5 kn op ow tr fu kg co pn (nI sd) (nI (plR bd sd rt f t)) (pI ps) (nI (n + 1)) p9 s9 (upd mvs n (nI (f + 64 * t + 4096 * k))) (upd los n (losE (bd (tkn bd f t)) (tkn bd f t) rt ps)) lsz lfs asz afs) (fun x9 => True) ?_ (fun hj_141 => ?_)
      · clear hP hD hS hl ls
        rintro z H locs hI hP hD hS ls hl
        try dsimp only at hI hP hD hl
        refine lv_aload_n hx hb dX2_play_141 rfl (lv_at hl 4 rfl) ?_
        refine lv_aload_n hx hb dX2_play_142 rfl (lv_at hl 4 rfl) ?_
        refine lv_iload hx hb dX2_play_143 (lv_at hl 1 rfl) ?_
        refine lv_iload_n hx hb dX2_play_145 rfl (lv_at hl 3 rfl) ?_
        refine lv_iload_n hx hb dX2_play_146 rfl (lv_at hl 2 rfl) ?_
        refine roI (rnV (As := [.int (nI (bd f)), .int (nI f), .int (nI t)]) (rest := [.ref h2]) S0 (c_X2_passedSquare l (plB bd sd f t k) hC9 sd (bd f) f t hs2 (by omega) (by omega) (by omega)) wm_X2_130 wi_X2_passedSquare ws_X2_passedSquare wn_X2 wc_X2_passedSquare hd_X2_passedSquare ⟨rfl, rfl, by decide, by decide⟩ IW.blind (va_recv hK hP (ci := 1) (q0 := 2) rfl rfl) (IW.at hP hD hK hA hE hS) hl.1 (Nat.le_of_ble_eq_true rfl) dX2_play_147 rfl ⟨by decide, by decide⟩) (fun r_14 hr_14 => ?_)
        subst hr_14
        refine va_put (D := D) (ci := 1) (v := .int (pI (pss (plB bd sd f t k) sd (bd f) f t))) (ty := .int) (C := RX2) (T := TX2) (N := 8) hx hb hG wu_X2 tyX2 tyX2_ok nmX2 hown hK hP hD hS 2 rfl rfl 4 (by decide) (hG _ wf_X2_28) (fun _ h9 => h9) rfl (by decide +kernel) rfl rfl (Nat.le_of_ble_eq_true rfl) dX2_play_150 (fun H locs hP hD hS => ?_)
        have hP : va_P D classes (cW cI cJ h0 h1 h2 a0 a1 a2 a3 h3 a4 h4 a5 kn op ow tr fu kg co pn (nI sd) (nI (plR bd sd rt f t)) (pI (pss (plB bd sd f t k) sd (bd f) f t)) (nI (n + 1)) p9 s9 (upd mvs n (nI (f + 64 * t + 4096 * k))) (upd los n (losE (bd (tkn bd f t)) (tkn bd f t) rt ps)) lsz lfs asz afs) H := hP
        have hD : va_D A (cW cI cJ h0 h1 h2 a0 a1 a2 a3 h3 a4 h4 a5 kn op ow tr fu kg co pn (nI sd) (nI (plR bd sd rt f t)) (pI (pss (plB bd sd f t k) sd (bd f) f t)) (nI (n + 1)) p9 s9 (upd mvs n (nI (f + 64 * t + 4096 * k))) (upd los n (losE (bd (tkn bd f t)) (tkn bd f t) rt ps)) lsz lfs asz afs) := hD
        refine lv_aload_n hx hb dX2_play_153 rfl (lv_at hl 4 rfl) ?_
        refine lv_iconst (v := (nI 1)) hx hb dX2_play_154 (by decide) ?_
        refine lv_aload_n hx hb dX2_play_155 rfl (lv_at hl 4 rfl) ?_
        refine va_get (D := D) (ci := 1) (v := .int (nI sd)) (C := RX2) (T := TX2) (N := 8) hx hb hG wu_X2 hown hK hP 2 rfl rfl 2 (by decide) (hG _ wf_X2_21) (fun _ h9 => h9) rfl dX2_play_156 ?_
        refine ln_isub hx hb dX2_play_159 (by omega) ?_
        refine va_put (D := D) (ci := 1) (v := .int (nI (1 - sd))) (ty := .int) (C := RX2) (T := TX2) (N := 8) hx hb hG wu_X2 tyX2 tyX2_ok nmX2 hown hK hP hD hS 2 rfl rfl 2 (by decide) (hG _ wf_X2_21) (fun _ h9 => h9) rfl (by decide +kernel) rfl rfl (Nat.le_of_ble_eq_true rfl) dX2_play_160 (fun H locs hP hD hS => ?_)
        have hP : va_P D classes (cW cI cJ h0 h1 h2 a0 a1 a2 a3 h3 a4 h4 a5 kn op ow tr fu kg co pn (nI (1 - sd)) (nI (plR bd sd rt f t)) (pI (pss (plB bd sd f t k) sd (bd f) f t)) (nI (n + 1)) p9 s9 (upd mvs n (nI (f + 64 * t + 4096 * k))) (upd los n (losE (bd (tkn bd f t)) (tkn bd f t) rt ps)) lsz lfs asz afs) H := hP
        have hD : va_D A (cW cI cJ h0 h1 h2 a0 a1 a2 a3 h3 a4 h4 a5 kn op ow tr fu kg co pn (nI (1 - sd)) (nI (plR bd sd rt f t)) (pI (pss (plB bd sd f t k) sd (bd f) f t)) (nI (n + 1)) p9 s9 (upd mvs n (nI (f + 64 * t + 4096 * k))) (upd los n (losE (bd (tkn bd f t)) (tkn bd f t) rt ps)) lsz lfs asz afs) := hD
        exact weV ((p9, s9)) hx hb hr hlocks dX2_play_163 hC9 hP hD hK hA hE hS
      · skip
        refine ln_icmp_ne (tgt := 141) hx hb dX2_play_119 (by decide) (by omega) (by decide) (fun c119 => ?_) (fun c119 => ?_)
        · skip
          have hre : plR0 rt f t = plR bd sd rt f t := by unfold plR; rw [if_neg c119]
          rw [hre] at hP hD
          exact hj_141 () _ _ trivial hP hD hS ls (lv_sub hl [0, 1, 2, 3, 4, 5] rfl)
        · skip
          refine lv_aload_n hx hb dX2_play_122 rfl (lv_at hl 4 rfl) ?_
          refine lv_dup hx hb dX2_play_123 rfl ?_
          refine va_get (D := D) (ci := 1) (v := .int (nI (plR0 rt f t))) (C := RX2) (T := TX2) (N := 8) hx hb hG wu_X2 hown hK hP 2 rfl rfl 3 (by decide) (hG _ wf_X2_25) (fun _ h9 => h9) rfl dX2_play_124 ?_
          refine lv_iconst (v := (nI 3)) hx hb dX2_play_127 (by decide) ?_
          refine lv_iconst (v := (nI 2)) hx hb dX2_play_128 (by decide) ?_
          refine lv_aload_n hx hb dX2_play_129 rfl (lv_at hl 4 rfl) ?_
          refine va_get (D := D) (ci := 1) (v := .int (nI sd)) (C := RX2) (T := TX2) (N := 8) hx hb hG wu_X2 hown hK hP 2 rfl rfl 2 (by decide) (hG _ wf_X2_21) (fun _ h9 => h9) rfl dX2_play_130 ?_
          refine ln_imul hx hb dX2_play_133 ?_
          refine lv_ishl hx hb dX2_play_134 ?_
          refine lv_iconst (v := (-1)) hx hb dX2_play_135 (by decide) ?_
          refine lv_ixor hx hb dX2_play_136 ?_
          refine lv_iand hx hb dX2_play_137 ?_
          refine W.top (y := .int (nI (plR bd sd rt f t))) (congrArg Value.int (by rw [(sh3 hs2).1, andn (show plR0 rt f t < 16 from and16 hr16) (sh3 hs2).2]; unfold plR; rw [if_pos c119])) ?_
          refine va_put (D := D) (ci := 1) (v := .int (nI (plR bd sd rt f t))) (ty := .int) (C := RX2) (T := TX2) (N := 8) hx hb hG wu_X2 tyX2 tyX2_ok nmX2 hown hK hP hD hS 2 rfl rfl 3 (by decide) (hG _ wf_X2_25) (fun _ h9 => h9) rfl (by decide +kernel) rfl rfl (Nat.le_of_ble_eq_true rfl) dX2_play_138 (fun H locs hP hD hS => ?_)
          have hP : va_P D classes (cW cI cJ h0 h1 h2 a0 a1 a2 a3 h3 a4 h4 a5 kn op ow tr fu kg co pn (nI sd) (nI (plR bd sd rt f t)) (pI ps) (nI (n + 1)) p9 s9 (upd mvs n (nI (f + 64 * t + 4096 * k))) (upd los n (losE (bd (tkn bd f t)) (tkn bd f t) rt ps)) lsz lfs asz afs) H := hP
          have hD : va_D A (cW cI cJ h0 h1 h2 a0 a1 a2 a3 h3 a4 h4 a5 kn op ow tr fu kg co pn (nI sd) (nI (plR bd sd rt f t)) (pI ps) (nI (n + 1)) p9 s9 (upd mvs n (nI (f + 64 * t + 4096 * k))) (upd los n (losE (bd (tkn bd f t)) (tkn bd f t) rt ps)) lsz lfs asz afs) := hD
          exact hj_141 () _ _ trivial hP hD hS ls (lv_sub hl [0, 1, 2, 3, 4, 5] rfl)
    · skip
      refine ln_if_eq (tgt := 92) hx hb dX2_play_72 (by decide) (by omega) (fun c72 => ?_) (fun c72 => ?_)
      · skip
        exact hj_92 (u3.1, u3.2) _ _ (by unfold plB; first | (rw [if_pos c72]; exact hC4) | (rw [if_neg c72]; exact hC5)) hP hD hS ls (lv_sub hl [0, 1, 2, 3, 4, 5] rfl)
      · skip
        refine lv_aload_n hx hb dX2_play_75 rfl (lv_at hl 4 rfl) ?_
        refine lv_iload_n hx hb dX2_play_76 rfl (lv_at hl 2 rfl) ?_
        refine lv_bipush (v := (nI 6)) hx hb dX2_play_77 (by decide) ?_
        refine lv_aload_n hx hb dX2_play_79 rfl (lv_at hl 4 rfl) ?_
        refine va_get (D := D) (ci := 1) (v := .int (nI sd)) (C := RX2) (T := TX2) (N := 8) hx hb hG wu_X2 hown hK hP 2 rfl rfl 2 (by decide) (hG _ wf_X2_21) (fun _ h9 => h9) rfl dX2_play_80 ?_
        refine ln_imul hx hb dX2_play_83 ?_
        refine lv_iload_n hx hb dX2_play_84 rfl (lv_at hl 5 rfl) ?_
        refine roI (rnSN (host := RX4) (As := [.int (nI (f + 64 * t + 4096 * k))]) (rest := [.int (nI (6 * sd)), .int (nI t), .ref h2]) S0 (c_X4_becomesOf l (nI (f + 64 * t + 4096 * k))) (nl_X2_112 hE.1) wt_X4_becomesOf wn_X4 wc_X4_becomesOf hd_X4_becomesOf ⟨rfl, rfl, by decide, by decide⟩ True.blind (fun _ _ _ => trivial) hl.1 (Nat.le_of_ble_eq_true rfl) dX2_play_85 rfl ⟨by decide, by decide⟩) (fun r_15 hr_15 => ?_)
        subst hr_15
        refine W.top (y := .int (nI k)) (congrArg Value.int (be_e hf ht hk)) ?_
        refine ln_iadd hx hb dX2_play_88 ?_
        refine chV (rnV (As := [.int (nI t), .int (nI ((6 * sd) + k))]) (rest := []) S0 (c_X2_set l (plB2 bd f t) hC4 t ((6 * sd) + k) (by omega) (by omega)) wm_X2_40 wi_X2_set ws_X2_set wn_X2 wc_X2_set hd_X2_set ⟨rfl, rfl, by decide, by decide⟩ IW.blind (va_recv hK hP (ci := 1) (q0 := 2) rfl rfl) (IW.at hP hD hK hA hE hS) hl.1 (Nat.le_of_ble_eq_true rfl) dX2_play_89 rfl ⟨by decide, by decide⟩) hS (fun u4 H locs hu hP hD hS => ?_)
        have hC5 := hu
        have hP : va_P D classes (cW cI cJ h0 h1 h2 a0 a1 a2 a3 h3 a4 h4 a5 kn op ow tr fu kg co pn (nI sd) (nI rt) (pI ps) (nI (n + 1)) u4.1 u4.2 (upd mvs n (nI (f + 64 * t + 4096 * k))) (upd los n (losE (bd (tkn bd f t)) (tkn bd f t) rt ps)) lsz lfs asz afs) H := hP
        have hD : va_D A (cW cI cJ h0 h1 h2 a0 a1 a2 a3 h3 a4 h4 a5 kn op ow tr fu kg co pn (nI sd) (nI rt) (pI ps) (nI (n + 1)) u4.1 u4.2 (upd mvs n (nI (f + 64 * t + 4096 * k))) (upd los n (losE (bd (tkn bd f t)) (tkn bd f t) rt ps)) lsz lfs asz afs) := hD
        exact hj_92 (u4.1, u4.2) _ _ (by unfold plB; first | (rw [if_pos c72]; exact hC4) | (rw [if_neg c72]; exact hC5)) hP hD hS ls (lv_sub hl [0, 1, 2, 3, 4, 5] rfl)
  · skip
    refine lb_if_eq (tgt := 55) hx hb dX2_play_38 (by decide) (fun c38 => ?_) (fun c38 => ?_)
    · skip
      exact hj_55 (pcs, sqa) _ _ (by unfold plB1; first | (rw [if_pos c38]; exact hC1) | (rw [if_neg (show ¬ ict bd f t = true by rw [c38]; decide)]; exact hCP)) hP hD hS ls (lv_sub hl [0, 1, 2, 3, 4, 5] rfl)
    · skip
      obtain ⟨hc4, hrl⟩ := hct c38
      refine lv_aload_n hx hb dX2_play_41 rfl (lv_at hl 4 rfl) ?_
      refine lv_iload_n hx hb dX2_play_42 rfl (lv_at hl 3 rfl) ?_
      refine lv_iload_n hx hb dX2_play_43 rfl (lv_at hl 2 rfl) ?_
      refine roI (rnS (As := [.int (nI f), .int (nI t)]) (rest := [.ref h2]) S0 (c_X2_rookCorner l f t (by omega) (by omega) hc4) wm_X2_118 wt_X2_rookCorner wn_X2 wc_X2_rookCorner hd_X2_rookCorner ⟨rfl, rfl, by decide, by decide⟩ True.blind (fun _ _ _ => trivial) hl.1 (Nat.le_of_ble_eq_true rfl) dX2_play_44 rfl ⟨by decide, by decide⟩) (fun r_17 hr_17 => ?_)
      subst hr_17
      refine lv_iload_n hx hb dX2_play_47 rfl (lv_at hl 3 rfl) ?_
      refine lv_iload_n hx hb dX2_play_48 rfl (lv_at hl 2 rfl) ?_
      refine ln_iadd hx hb dX2_play_49 ?_
      refine lv_iconst (v := (nI 2)) hx hb dX2_play_50 (by decide) ?_
      refine ln_idiv hx hb dX2_play_51 (by omega) (by decide) (by decide) ?_
      refine chV (rnV (As := [.int (nI (rok f t)), .int (nI ((f + t) / 2))]) (rest := []) S0 (c_X2_carry l bd hCP (rok f t) ((f + t) / 2) (by omega) (by omega)) wm_X2_121 wi_X2_carry ws_X2_carry wn_X2 wc_X2_carry hd_X2_carry ⟨rfl, rfl, by decide, by decide⟩ IW.blind (va_recv hK hP (ci := 1) (q0 := 2) rfl rfl) (IW.at hP hD hK hA hE hS) hl.1 (Nat.le_of_ble_eq_true rfl) dX2_play_52 rfl ⟨by decide, by decide⟩) hS (fun u1 H locs hu hP hD hS => ?_)
      have hC1 := hu
      have hP : va_P D classes (cW cI cJ h0 h1 h2 a0 a1 a2 a3 h3 a4 h4 a5 kn op ow tr fu kg co pn (nI sd) (nI rt) (pI ps) (nI (n + 1)) u1.1 u1.2 (upd mvs n (nI (f + 64 * t + 4096 * k))) (upd los n (losE (bd (tkn bd f t)) (tkn bd f t) rt ps)) lsz lfs asz afs) H := hP
      have hD : va_D A (cW cI cJ h0 h1 h2 a0 a1 a2 a3 h3 a4 h4 a5 kn op ow tr fu kg co pn (nI sd) (nI rt) (pI ps) (nI (n + 1)) u1.1 u1.2 (upd mvs n (nI (f + 64 * t + 4096 * k))) (upd los n (losE (bd (tkn bd f t)) (tkn bd f t) rt ps)) lsz lfs asz afs) := hD
      exact hj_55 (u1.1, u1.2) _ _ (by unfold plB1; first | (rw [if_pos c38]; exact hC1) | (rw [if_neg (show ¬ ict bd f t = true by rw [c38]; decide)]; exact hCP)) hP hD hS ls (lv_sub hl [0, 1, 2, 3, 4, 5] rfl)
theorem dX2_takeBack_0 : decode cX2_takeBack 0 = .ok (.aload_n 0, 1) := by decide +kernel
theorem dX2_takeBack_1 : decode cX2_takeBack 1 = .ok (.getfield 37, 3) := by decide +kernel
theorem dX2_takeBack_4 : decode cX2_takeBack 4 = .ok (.ifCond .le 13, 3) := by decide +kernel
theorem dX2_takeBack_7 : decode cX2_takeBack 7 = .ok (.aload_n 0, 1) := by decide +kernel
theorem dX2_takeBack_8 : decode cX2_takeBack 8 = .ok (.getfield 37, 3) := by decide +kernel
theorem dX2_takeBack_11 : decode cX2_takeBack 11 = .ok (.sipush 204, 3) := by decide +kernel
theorem dX2_takeBack_14 : decode cX2_takeBack 14 = .ok (.if_icmp .le 5, 3) := by decide +kernel
theorem dX2_takeBack_17 : decode cX2_takeBack 17 = .ok (.iconst (-1), 1) := by decide +kernel
theorem dX2_takeBack_18 : decode cX2_takeBack 18 = .ok (.ireturn, 1) := by decide +kernel
theorem dX2_takeBack_19 : decode cX2_takeBack 19 = .ok (.aload_n 0, 1) := by decide +kernel
theorem dX2_takeBack_20 : decode cX2_takeBack 20 = .ok (.dup, 1) := by decide +kernel
theorem dX2_takeBack_21 : decode cX2_takeBack 21 = .ok (.getfield 37, 3) := by decide +kernel
theorem dX2_takeBack_24 : decode cX2_takeBack 24 = .ok (.iconst 1, 1) := by decide +kernel
theorem dX2_takeBack_25 : decode cX2_takeBack 25 = .ok (.isub, 1) := by decide +kernel
theorem dX2_takeBack_26 : decode cX2_takeBack 26 = .ok (.putfield 37, 3) := by decide +kernel
theorem dX2_takeBack_29 : decode cX2_takeBack 29 = .ok (.aload_n 0, 1) := by decide +kernel
theorem dX2_takeBack_30 : decode cX2_takeBack 30 = .ok (.getfield 31, 3) := by decide +kernel
theorem dX2_takeBack_33 : decode cX2_takeBack 33 = .ok (.aload_n 0, 1) := by decide +kernel
theorem dX2_takeBack_34 : decode cX2_takeBack 34 = .ok (.getfield 37, 3) := by decide +kernel
theorem dX2_takeBack_37 : decode cX2_takeBack 37 = .ok (.iaload, 1) := by decide +kernel
theorem dX2_takeBack_38 : decode cX2_takeBack 38 = .ok (.istore_n 1, 1) := by decide +kernel
theorem dX2_takeBack_39 : decode cX2_takeBack 39 = .ok (.aload_n 0, 1) := by decide +kernel
theorem dX2_takeBack_40 : decode cX2_takeBack 40 = .ok (.getfield 34, 3) := by decide +kernel
theorem dX2_takeBack_43 : decode cX2_takeBack 43 = .ok (.aload_n 0, 1) := by decide +kernel
theorem dX2_takeBack_44 : decode cX2_takeBack 44 = .ok (.getfield 37, 3) := by decide +kernel
theorem dX2_takeBack_47 : decode cX2_takeBack 47 = .ok (.iaload, 1) := by decide +kernel
theorem dX2_takeBack_48 : decode cX2_takeBack 48 = .ok (.istore_n 2, 1) := by decide +kernel
theorem dX2_takeBack_49 : decode cX2_takeBack 49 = .ok (.iload_n 1, 1) := by decide +kernel
theorem dX2_takeBack_50 : decode cX2_takeBack 50 = .ok (.invokestatic 94, 3) := by decide +kernel
theorem dX2_takeBack_53 : decode cX2_takeBack 53 = .ok (.istore_n 3, 1) := by decide +kernel
theorem dX2_takeBack_54 : decode cX2_takeBack 54 = .ok (.iload_n 1, 1) := by decide +kernel
theorem dX2_takeBack_55 : decode cX2_takeBack 55 = .ok (.invokestatic 98, 3) := by decide +kernel
theorem dX2_takeBack_58 : decode cX2_takeBack 58 = .ok (.istore 4, 2) := by decide +kernel
theorem dX2_takeBack_60 : decode cX2_takeBack 60 = .ok (.aload_n 0, 1) := by decide +kernel
theorem dX2_takeBack_61 : decode cX2_takeBack 61 = .ok (.iconst 1, 1) := by decide +kernel
theorem dX2_takeBack_62 : decode cX2_takeBack 62 = .ok (.aload_n 0, 1) := by decide +kernel
theorem dX2_takeBack_63 : decode cX2_takeBack 63 = .ok (.getfield 21, 3) := by decide +kernel
theorem dX2_takeBack_66 : decode cX2_takeBack 66 = .ok (.isub, 1) := by decide +kernel
theorem dX2_takeBack_67 : decode cX2_takeBack 67 = .ok (.putfield 21, 3) := by decide +kernel
theorem dX2_takeBack_70 : decode cX2_takeBack 70 = .ok (.aload_n 0, 1) := by decide +kernel
theorem dX2_takeBack_71 : decode cX2_takeBack 71 = .ok (.iload 4, 2) := by decide +kernel
theorem dX2_takeBack_73 : decode cX2_takeBack 73 = .ok (.iload_n 3, 1) := by decide +kernel
theorem dX2_takeBack_74 : decode cX2_takeBack 74 = .ok (.invokevirtual 121, 3) := by decide +kernel
theorem dX2_takeBack_77 : decode cX2_takeBack 77 = .ok (.iload_n 1, 1) := by decide +kernel
theorem dX2_takeBack_78 : decode cX2_takeBack 78 = .ok (.invokestatic 112, 3) := by decide +kernel
theorem dX2_takeBack_81 : decode cX2_takeBack 81 = .ok (.ifCond .eq 17, 3) := by decide +kernel
theorem dX2_takeBack_84 : decode cX2_takeBack 84 = .ok (.aload_n 0, 1) := by decide +kernel
theorem dX2_takeBack_85 : decode cX2_takeBack 85 = .ok (.iload_n 3, 1) := by decide +kernel
theorem dX2_takeBack_86 : decode cX2_takeBack 86 = .ok (.bipush 6, 2) := by decide +kernel
theorem dX2_takeBack_88 : decode cX2_takeBack 88 = .ok (.aload_n 0, 1) := by decide +kernel
theorem dX2_takeBack_89 : decode cX2_takeBack 89 = .ok (.getfield 21, 3) := by decide +kernel
theorem dX2_takeBack_92 : decode cX2_takeBack 92 = .ok (.imul, 1) := by decide +kernel
theorem dX2_takeBack_93 : decode cX2_takeBack 93 = .ok (.iconst 1, 1) := by decide +kernel
theorem dX2_takeBack_94 : decode cX2_takeBack 94 = .ok (.iadd, 1) := by decide +kernel
theorem dX2_takeBack_95 : decode cX2_takeBack 95 = .ok (.invokevirtual 40, 3) := by decide +kernel
theorem dX2_takeBack_98 : decode cX2_takeBack 98 = .ok (.aload_n 0, 1) := by decide +kernel
theorem dX2_takeBack_99 : decode cX2_takeBack 99 = .ok (.iload_n 3, 1) := by decide +kernel
theorem dX2_takeBack_100 : decode cX2_takeBack 100 = .ok (.iload 4, 2) := by decide +kernel
theorem dX2_takeBack_102 : decode cX2_takeBack 102 = .ok (.invokevirtual 108, 3) := by decide +kernel
theorem dX2_takeBack_105 : decode cX2_takeBack 105 = .ok (.ifCond .eq 19, 3) := by decide +kernel
theorem dX2_takeBack_108 : decode cX2_takeBack 108 = .ok (.aload_n 0, 1) := by decide +kernel
theorem dX2_takeBack_109 : decode cX2_takeBack 109 = .ok (.iload_n 3, 1) := by decide +kernel
theorem dX2_takeBack_110 : decode cX2_takeBack 110 = .ok (.iload 4, 2) := by decide +kernel
theorem dX2_takeBack_112 : decode cX2_takeBack 112 = .ok (.iadd, 1) := by decide +kernel
theorem dX2_takeBack_113 : decode cX2_takeBack 113 = .ok (.iconst 2, 1) := by decide +kernel
theorem dX2_takeBack_114 : decode cX2_takeBack 114 = .ok (.idiv, 1) := by decide +kernel
theorem dX2_takeBack_115 : decode cX2_takeBack 115 = .ok (.iload_n 3, 1) := by decide +kernel
theorem dX2_takeBack_116 : decode cX2_takeBack 116 = .ok (.iload 4, 2) := by decide +kernel
theorem dX2_takeBack_118 : decode cX2_takeBack 118 = .ok (.invokestatic 118, 3) := by decide +kernel
theorem dX2_takeBack_121 : decode cX2_takeBack 121 = .ok (.invokevirtual 121, 3) := by decide +kernel
theorem dX2_takeBack_124 : decode cX2_takeBack 124 = .ok (.aload_n 0, 1) := by decide +kernel
theorem dX2_takeBack_125 : decode cX2_takeBack 125 = .ok (.iload_n 2, 1) := by decide +kernel
theorem dX2_takeBack_126 : decode cX2_takeBack 126 = .ok (.iconst 4, 1) := by decide +kernel
theorem dX2_takeBack_127 : decode cX2_takeBack 127 = .ok (.ishr, 1) := by decide +kernel
theorem dX2_takeBack_128 : decode cX2_takeBack 128 = .ok (.bipush 63, 2) := by decide +kernel
theorem dX2_takeBack_130 : decode cX2_takeBack 130 = .ok (.iand, 1) := by decide +kernel
theorem dX2_takeBack_131 : decode cX2_takeBack 131 = .ok (.iload_n 2, 1) := by decide +kernel
theorem dX2_takeBack_132 : decode cX2_takeBack 132 = .ok (.bipush 15, 2) := by decide +kernel
theorem dX2_takeBack_134 : decode cX2_takeBack 134 = .ok (.iand, 1) := by decide +kernel
theorem dX2_takeBack_135 : decode cX2_takeBack 135 = .ok (.invokevirtual 40, 3) := by decide +kernel
theorem dX2_takeBack_138 : decode cX2_takeBack 138 = .ok (.aload_n 0, 1) := by decide +kernel
theorem dX2_takeBack_139 : decode cX2_takeBack 139 = .ok (.iload_n 2, 1) := by decide +kernel
theorem dX2_takeBack_140 : decode cX2_takeBack 140 = .ok (.bipush 10, 2) := by decide +kernel
theorem dX2_takeBack_142 : decode cX2_takeBack 142 = .ok (.ishr, 1) := by decide +kernel
theorem dX2_takeBack_143 : decode cX2_takeBack 143 = .ok (.bipush 15, 2) := by decide +kernel
theorem dX2_takeBack_145 : decode cX2_takeBack 145 = .ok (.iand, 1) := by decide +kernel
theorem dX2_takeBack_146 : decode cX2_takeBack 146 = .ok (.putfield 25, 3) := by decide +kernel
theorem dX2_takeBack_149 : decode cX2_takeBack 149 = .ok (.aload_n 0, 1) := by decide +kernel
theorem dX2_takeBack_150 : decode cX2_takeBack 150 = .ok (.iload_n 2, 1) := by decide +kernel
theorem dX2_takeBack_151 : decode cX2_takeBack 151 = .ok (.bipush 14, 2) := by decide +kernel
theorem dX2_takeBack_153 : decode cX2_takeBack 153 = .ok (.ishr, 1) := by decide +kernel
theorem dX2_takeBack_154 : decode cX2_takeBack 154 = .ok (.iconst 1, 1) := by decide +kernel
theorem dX2_takeBack_155 : decode cX2_takeBack 155 = .ok (.isub, 1) := by decide +kernel
theorem dX2_takeBack_156 : decode cX2_takeBack 156 = .ok (.putfield 28, 3) := by decide +kernel
theorem dX2_takeBack_159 : decode cX2_takeBack 159 = .ok (.iload_n 1, 1) := by decide +kernel
theorem dX2_takeBack_160 : decode cX2_takeBack 160 = .ok (.ireturn, 1) := by decide +kernel
theorem hd_X2_takeBack : yX2_takeBack.cls ≠ "java/lang/invoke/MethodHandle" ∧ yX2_takeBack.cls ≠ "java/lang/invoke/VarHandle" ∧ (parseMethodDescriptor yX2_takeBack.desc).map (fun d => d.parameters.length) = some 0 := by decide +kernel
set_option maxHeartbeats 4000000 in
set_option maxRecDepth 100000 in
/-- takeBack of nothing -/
theorem c_X2_takeBack_0 (l : Launch) {D : va_G} {cI cJ : ClassId} {A : Nat → Prop} {h0 h1 h2 a0 a1 a2 a3 h3 a4 h4 a5 : Nat} {kn op : Int32} {ow tr fu kg co pn : Int64} {si ri pa : Int32} {pcs : Nat → Int32} {sqa : Nat → Int64} {mvs los : Nat → Int32} {lsz : Int32} {lfs : Nat → Int32} {asz : Int32} {afs : Nat → Int32}  : Met l yX2_takeBack (Cond.code yX2_takeBack cX2_takeBack 5 (some .int) :: wsL_law) (rK 0) (va_Pc [.ref h2] (IW D cI cJ A (cW cI cJ h0 h1 h2 a0 a1 a2 a3 h3 a4 h4 a5 kn op ow tr fu kg co pn si ri pa (nI 0) pcs sqa mvs los lsz lfs asz afs))) (va_Qi (fun r _ => r = -1) (fun (u : Unit) t9 => IW D cI cJ A (cW cI cJ h0 h1 h2 a0 a1 a2 a3 h3 a4 h4 a5 kn op ow tr fu kg co pn si ri pa (nI 0) pcs sqa mvs los lsz lfs asz afs) t9) A) 0 0 A := by
  refine entM (by decide) (Nat.le_of_ble_eq_true rfl) ?_
  intro p e s m below meth c ls S0 hr hlocks hG hnm hB hl
  have hx := S0.1
  have hb := S0.2.1
  have hown := S0.2.2.2.1
  have hl : lv_has ls 5 [(0, .ref h2)] := hl
  obtain ⟨hP, hD, hK, hA, hE⟩ := hB
  have hS : va_S A s.heap s.heap [] := va_S.rf
  refine lv_aload_n hx hb dX2_takeBack_0 rfl (lv_at hl 0 rfl) ?_
  refine va_get (D := D) (ci := 1) (v := .int (nI 0)) (C := RX2) (T := TX2) (N := 8) hx hb hG wu_X2 hown hK hP 2 rfl rfl 7 (by decide) (hG _ wf_X2_37) (fun _ h9 => h9) rfl dX2_takeBack_1 ?_
  refine ln_if_le (tgt := 17) hx hb dX2_takeBack_4 (by decide) (by decide) (fun c4 => ?_) (fun c4 => ?_)
  · skip
    refine lv_iconst (v := (-1)) hx hb dX2_takeBack_17 (by decide) ?_
    exact weI (()) hx hb hr hlocks dX2_takeBack_18 rfl hP hD hK hA hE hS
  · skip
    exact absurd rfl c4
set_option maxHeartbeats 4000000 in
set_option maxRecDepth 100000 in
/-- takeBack -/
theorem c_X2_takeBack (l : Launch) {D : va_G} {cI cJ : ClassId} {A : Nat → Prop} {h0 h1 h2 a0 a1 a2 a3 h3 a4 h4 a5 : Nat} {kn op : Int32} {ow tr fu kg co pn : Int64} {ri pa : Int32} {pcs : Nat → Int32} {sqa : Nat → Int64} {mvs los : Nat → Int32} {lsz : Int32} {lfs : Nat → Int32} {asz : Int32} {afs : Nat → Int32} (bd : Nat → Nat) (hCP : CP pcs sqa bd) (s1 rt ps n q v : Nat) (hs1 : s1 < 2) (hr16 : rt < 16) (hp65 : ps < 65) (hn : n < 204) (hq : q < 64) (hv : v < 13) (f t k : Nat) (hf : f < 64) (ht : t < 64) (hk : k < 6) (hmv : mvs n = nI (f + 64 * t + 4096 * k)) (hlo : los n = losE v q rt ps) (hct : ict (tbB1 bd (1 - s1) f t k) f t = true → (t ≤ f → 4 ≤ f) ∧ rok f t < 64) : Met l yX2_takeBack (Cond.code yX2_takeBack cX2_takeBack 5 (some .int) :: wsL_law) (rK 3) (va_Pc [.ref h2] (IW D cI cJ A (cW cI cJ h0 h1 h2 a0 a1 a2 a3 h3 a4 h4 a5 kn op ow tr fu kg co pn (nI s1) ri pa (nI (n + 1)) pcs sqa mvs los lsz lfs asz afs))) (va_Qi (fun r u => r = nI (f + 64 * t + 4096 * k) ∧ CP u.1 u.2 (tbB bd (1 - s1) f t k q v)) (fun (u : (Nat → Int32) × (Nat → Int64)) t9 => IW D cI cJ A (cW cI cJ h0 h1 h2 a0 a1 a2 a3 h3 a4 h4 a5 kn op ow tr fu kg co pn (nI (1 - s1)) (nI rt) (pI ps) (nI n) u.1 u.2 mvs los lsz lfs asz afs) t9) A) 0 0 A := by
  refine entM (by decide) (Nat.le_of_ble_eq_true rfl) ?_
  intro p e s m below meth c ls S0 hr hlocks hG hnm hB hl
  have hx := S0.1
  have hb := S0.2.1
  have hown := S0.2.2.2.1
  have hl : lv_has ls 5 [(0, .ref h2)] := hl
  obtain ⟨hP, hD, hK, hA, hE⟩ := hB
  have hS : va_S A s.heap s.heap [] := va_S.rf
  obtain ⟨l1, l2, l3, l4⟩ := los_k (show v < 16 by omega) hq hr16 hp65
  refine lv_aload_n hx hb dX2_takeBack_0 rfl (lv_at hl 0 rfl) ?_
  refine va_get (D := D) (ci := 1) (v := .int (nI (n + 1))) (C := RX2) (T := TX2) (N := 8) hx hb hG wu_X2 hown hK hP 2 rfl rfl 7 (by decide) (hG _ wf_X2_37) (fun _ h9 => h9) rfl dX2_takeBack_1 ?_
  refine ln_if_le (tgt := 17) hx hb dX2_takeBack_4 (by decide) (by omega) (fun c4 => ?_) (fun c4 => ?_)
  · skip
    exact absurd c4 (by omega)
  · skip
    refine lv_aload_n hx hb dX2_takeBack_7 rfl (lv_at hl 0 rfl) ?_
    refine va_get (D := D) (ci := 1) (v := .int (nI (n + 1))) (C := RX2) (T := TX2) (N := 8) hx hb hG wu_X2 hown hK hP 2 rfl rfl 7 (by decide) (hG _ wf_X2_37) (fun _ h9 => h9) rfl dX2_takeBack_8 ?_
    refine lv_sipush (v := (nI 204)) hx hb dX2_takeBack_11 (by decide) ?_
    refine ln_icmp_le (tgt := 19) hx hb dX2_takeBack_14 (by decide) (by omega) (by decide) (fun c14 => ?_) (fun c14 => ?_)
    · skip
      refine lv_aload_n hx hb dX2_takeBack_19 rfl (lv_at hl 0 rfl) ?_
      refine lv_dup hx hb dX2_takeBack_20 rfl ?_
      refine va_get (D := D) (ci := 1) (v := .int (nI (n + 1))) (C := RX2) (T := TX2) (N := 8) hx hb hG wu_X2 hown hK hP 2 rfl rfl 7 (by decide) (hG _ wf_X2_37) (fun _ h9 => h9) rfl dX2_takeBack_21 ?_
      refine lv_iconst (v := (nI 1)) hx hb dX2_takeBack_24 (by decide) ?_
      refine ln_isub hx hb dX2_takeBack_25 (by omega) ?_
      refine W.top (y := .int (nI n)) (congrArg Value.int (congrArg nI (by omega))) ?_
      refine va_put (D := D) (ci := 1) (v := .int (nI n)) (ty := .int) (C := RX2) (T := TX2) (N := 8) hx hb hG wu_X2 tyX2 tyX2_ok nmX2 hown hK hP hD hS 2 rfl rfl 7 (by decide) (hG _ wf_X2_37) (fun _ h9 => h9) rfl (by decide +kernel) rfl rfl (Nat.le_of_ble_eq_true rfl) dX2_takeBack_26 (fun H locs hP hD hS => ?_)
      have hP : va_P D classes (cW cI cJ h0 h1 h2 a0 a1 a2 a3 h3 a4 h4 a5 kn op ow tr fu kg co pn (nI s1) ri pa (nI n) pcs sqa mvs los lsz lfs asz afs) H := hP
      have hD : va_D A (cW cI cJ h0 h1 h2 a0 a1 a2 a3 h3 a4 h4 a5 kn op ow tr fu kg co pn (nI s1) ri pa (nI n) pcs sqa mvs los lsz lfs asz afs) := hD
      refine lv_aload_n hx hb dX2_takeBack_29 rfl (lv_at hl 0 rfl) ?_
      refine va_get (D := D) (ci := 1) (v := .ref a2) (C := RX2) (T := TX2) (N := 8) hx hb hG wu_X2 hown hK hP 2 rfl rfl 5 (by decide) (hG _ wf_X2_31) (fun _ h9 => h9) rfl dX2_takeBack_30 ?_
      refine lv_aload_n hx hb dX2_takeBack_33 rfl (lv_at hl 0 rfl) ?_
      refine va_get (D := D) (ci := 1) (v := .int (nI n)) (C := RX2) (T := TX2) (N := 8) hx hb hG wu_X2 hown hK hP 2 rfl rfl 7 (by decide) (hG _ wf_X2_37) (fun _ h9 => h9) rfl dX2_takeBack_34 ?_
      refine va_iald hx hb hK hP 5 0 rfl rfl (vp_in_nI (by omega) (by decide)) dX2_takeBack_37 ?_
      refine W.top (y := .int (mvs n)) (congrArg (fun z => Value.int (mvs z)) (nI_clamp (by omega))) ?_
      refine W.top (y := .int (nI (f + 64 * t + 4096 * k))) (congrArg Value.int hmv) ?_
      refine lv_istore_n (lv' := [(1, .int (nI (f + 64 * t + 4096 * k))), (0, .ref h2)]) hx hb dX2_takeBack_38 rfl hl (by decide) rfl (fun ls hl => ?_)
      refine lv_aload_n hx hb dX2_takeBack_39 rfl (lv_at hl 1 rfl) ?_
      refine va_get (D := D) (ci := 1) (v := .ref a3) (C := RX2) (T := TX2) (N := 8) hx hb hG wu_X2 hown hK hP 2 rfl rfl 6 (by decide) (hG _ wf_X2_34) (fun _ h9 => h9) rfl dX2_takeBack_40 ?_
      refine lv_aload_n hx hb dX2_takeBack_43 rfl (lv_at hl 1 rfl) ?_
      refine va_get (D := D) (ci := 1) (v := .int (nI n)) (C := RX2) (T := TX2) (N := 8) hx hb hG wu_X2 hown hK hP 2 rfl rfl 7 (by decide) (hG _ wf_X2_37) (fun _ h9 => h9) rfl dX2_takeBack_44 ?_
      refine va_iald hx hb hK hP 6 0 rfl rfl (vp_in_nI (by omega) (by decide)) dX2_takeBack_47 ?_
      refine W.top (y := .int (los n)) (congrArg (fun z => Value.int (los z)) (nI_clamp (by omega))) ?_
      refine W.top (y := .int (losE v q rt ps)) (congrArg Value.int hlo) ?_
      refine lv_istore_n (lv' := [(2, .int (losE v q rt ps)), (1, .int (nI (f + 64 * t + 4096 * k))), (0, .ref h2)]) hx hb dX2_takeBack_48 rfl hl (by decide) rfl (fun ls hl => ?_)
      refine lv_iload_n hx hb dX2_takeBack_49 rfl (lv_at hl 1 rfl) ?_
      refine roI (rnSN (host := RX4) (As := [.int (nI (f + 64 * t + 4096 * k))]) (rest := []) S0 (c_X4_fromOf l (nI (f + 64 * t + 4096 * k))) (nl_X2_94 hE.1) wt_X4_fromOf wn_X4 wc_X4_fromOf hd_X4_fromOf ⟨rfl, rfl, by decide, by decide⟩ True.blind (fun _ _ _ => trivial) hl.1 (Nat.le_of_ble_eq_true rfl) dX2_takeBack_50 rfl ⟨by decide, by decide⟩) (fun r_1 hr_1 => ?_)
      subst hr_1
      refine W.top (y := .int (nI f)) (congrArg Value.int (fr_e hf ht hk)) ?_
      refine lv_istore_n (lv' := [(3, .int (nI f)), (2, .int (losE v q rt ps)), (1, .int (nI (f + 64 * t + 4096 * k))), (0, .ref h2)]) hx hb dX2_takeBack_53 rfl hl (by decide) rfl (fun ls hl => ?_)
      refine lv_iload_n hx hb dX2_takeBack_54 rfl (lv_at hl 2 rfl) ?_
      refine roI (rnSN (host := RX4) (As := [.int (nI (f + 64 * t + 4096 * k))]) (rest := []) S0 (c_X4_toOf l (nI (f + 64 * t + 4096 * k))) (nl_X2_98 hE.1) wt_X4_toOf wn_X4 wc_X4_toOf hd_X4_toOf ⟨rfl, rfl, by decide, by decide⟩ True.blind (fun _ _ _ => trivial) hl.1 (Nat.le_of_ble_eq_true rfl) dX2_takeBack_55 rfl ⟨by decide, by decide⟩) (fun r_2 hr_2 => ?_)
      subst hr_2
      refine W.top (y := .int (nI t)) (congrArg Value.int (to_e hf ht hk)) ?_
      refine lv_istore (lv' := [(4, .int (nI t)), (3, .int (nI f)), (2, .int (losE v q rt ps)), (1, .int (nI (f + 64 * t + 4096 * k))), (0, .ref h2)]) hx hb dX2_takeBack_58 hl (by decide) rfl (fun ls hl => ?_)
      refine lv_aload_n hx hb dX2_takeBack_60 rfl (lv_at hl 4 rfl) ?_
      refine lv_iconst (v := (nI 1)) hx hb dX2_takeBack_61 (by decide) ?_
      refine lv_aload_n hx hb dX2_takeBack_62 rfl (lv_at hl 4 rfl) ?_
      refine va_get (D := D) (ci := 1) (v := .int (nI s1)) (C := RX2) (T := TX2) (N := 8) hx hb hG wu_X2 hown hK hP 2 rfl rfl 2 (by decide) (hG _ wf_X2_21) (fun _ h9 => h9) rfl dX2_takeBack_63 ?_
      refine ln_isub hx hb dX2_takeBack_66 (by omega) ?_
      refine va_put (D := D) (ci := 1) (v := .int (nI (1 - s1))) (ty := .int) (C := RX2) (T := TX2) (N := 8) hx hb hG wu_X2 tyX2 tyX2_ok nmX2 hown hK hP hD hS 2 rfl rfl 2 (by decide) (hG _ wf_X2_21) (fun _ h9 => h9) rfl (by decide +kernel) rfl rfl (Nat.le_of_ble_eq_true rfl) dX2_takeBack_67 (fun H locs hP hD hS => ?_)
      have hP : va_P D classes (cW cI cJ h0 h1 h2 a0 a1 a2 a3 h3 a4 h4 a5 kn op ow tr fu kg co pn (nI (1 - s1)) ri pa (nI n) pcs sqa mvs los lsz lfs asz afs) H := hP
      have hD : va_D A (cW cI cJ h0 h1 h2 a0 a1 a2 a3 h3 a4 h4 a5 kn op ow tr fu kg co pn (nI (1 - s1)) ri pa (nI n) pcs sqa mvs los lsz lfs asz afs) := hD
      refine lv_aload_n hx hb dX2_takeBack_70 rfl (lv_at hl 4 rfl) ?_
      refine lv_iload hx hb dX2_takeBack_71 (lv_at hl 0 rfl) ?_
      refine lv_iload_n hx hb dX2_takeBack_73 rfl (lv_at hl 1 rfl) ?_
      refine chV (rnV (As := [.int (nI t), .int (nI f)]) (rest := []) S0 (c_X2_carry l bd hCP t f (by omega) (by omega)) wm_X2_121 wi_X2_carry ws_X2_carry wn_X2 wc_X2_carry hd_X2_carry ⟨rfl, rfl, by decide, by decide⟩ IW.blind (va_recv hK hP (ci := 1) (q0 := 2) rfl rfl) (IW.at hP hD hK hA hE hS) hl.1 (Nat.le_of_ble_eq_true rfl) dX2_takeBack_74 rfl ⟨by decide, by decide⟩) hS (fun u1 H locs hu hP hD hS => ?_)
      have hC1 := hu
      have hP : va_P D classes (cW cI cJ h0 h1 h2 a0 a1 a2 a3 h3 a4 h4 a5 kn op ow tr fu kg co pn (nI (1 - s1)) ri pa (nI n) u1.1 u1.2 mvs los lsz lfs asz afs) H := hP
      have hD : va_D A (cW cI cJ h0 h1 h2 a0 a1 a2 a3 h3 a4 h4 a5 kn op ow tr fu kg co pn (nI (1 - s1)) ri pa (nI n) u1.1 u1.2 mvs los lsz lfs asz afs) := hD
      refine lv_iload_n hx hb dX2_takeBack_77 rfl (lv_at hl 3 rfl) ?_
      refine roI (rnSN (host := RX4) (As := [.int (nI (f + 64 * t + 4096 * k))]) (rest := []) S0 (c_X4_becomesOf l (nI (f + 64 * t + 4096 * k))) (nl_X2_112 hE.1) wt_X4_becomesOf wn_X4 wc_X4_becomesOf hd_X4_becomesOf ⟨rfl, rfl, by decide, by decide⟩ True.blind (fun _ _ _ => trivial) hl.1 (Nat.le_of_ble_eq_true rfl) dX2_takeBack_78 rfl ⟨by decide, by decide⟩) (fun r_4 hr_4 => ?_)
      subst hr_4
      refine W.top (y := .int (nI k)) (congrArg Value.int (be_e hf ht hk)) ?_
      refine jnW (σ := (Nat → Int32) × (Nat → Int64)) (D := D) (A := A) (H0 := s.heap) 98 5 (fun x9 => [(4, .int (nI t)), (3, .int (nI f)), (2, .int (losE v q rt ps)), (1, .int (nI (f + 64 * t + 4096 * k))), (0, .ref h2)]) [] (fun x9 => cW cI cJ h0 h1 h2 a0 a1 a2 a3 h3 a4 h4 a5 kn op ow tr fu kg co pn (nI (1 - s1)) ri pa (nI n) x9.1 x9.2 mvs los lsz lfs asz afs) (fun x9 => CP x9.1 x9.2 (tbB1 bd (1 - s1) f t k)) ?_ (fun hj_98 => ?_)
      · clear hP hD hS hl ls
        rintro ⟨p9, s9⟩ H locs hI hP hD hS ls hl
        try dsimp only at hI hP hD hl
        have hC3 := hI
        refine lv_aload_n hx hb dX2_takeBack_98 rfl (lv_at hl 4 rfl) ?_
        refine lv_iload_n hx hb dX2_takeBack_99 rfl (lv_at hl 1 rfl) ?_
        refine lv_iload hx hb dX2_takeBack_100 (lv_at hl 0 rfl) ?_
        refine roI (rnV (As := [.int (nI f), .int (nI t)]) (rest := []) S0 (c_X2_isCastling l (tbB1 bd (1 - s1) f t k) hC3 f t (by omega) (by omega)) wm_X2_108 wi_X2_isCastling ws_X2_isCastling wn_X2 wc_X2_isCastling hd_X2_isCastling ⟨rfl, rfl, by decide, by decide⟩ IW.blind (va_recv hK hP (ci := 1) (q0 := 2) rfl rfl) (IW.at hP hD hK hA hE hS) hl.1 (Nat.le_of_ble_eq_true rfl) dX2_takeBack_102 rfl ⟨by decide, by decide⟩) (fun r_5 hr_5 => ?_)
        subst hr_5
        refine jnW (σ := (Nat → Int32) × (Nat → Int64)) (D := D) (A := A) (H0 := s.heap) 124 5 (fun x9 => [(4, .int (nI t)), (3, .int (nI f)), (2, .int (losE v q rt ps)), (1, .int (nI (f + 64 * t + 4096 * k))), (0, .ref h2)]) [] (fun x9 => cW cI cJ h0 h1 h2 a0 a1 a2 a3 h3 a4 h4 a5 kn op ow tr fu kg co pn (nI (1 - s1)) ri pa (nI n) x9.1 x9.2 mvs los lsz lfs asz afs) (fun x9 => CP x9.1 x9.2 (tbB2 bd (1 - s1) f t k)) ?_ (fun hj_124 => ?_)
        · clear hP hD hS hl ls
          rintro ⟨p9, s9⟩ H locs hI hP hD hS ls hl
          try dsimp only at hI hP hD hl
          have hC5 := hI
          refine lv_aload_n hx hb dX2_takeBack_124 rfl (lv_at hl 4 rfl) ?_
          refine lv_iload_n hx hb dX2_takeBack_125 rfl (lv_at hl 2 rfl) ?_
          refine lv_iconst (v := (nI 4)) hx hb dX2_takeBack_126 (by decide) ?_
          refine lv_ishr hx hb dX2_takeBack_127 ?_
          refine lv_bipush (v := (nI 63)) hx hb dX2_takeBack_128 (by decide) ?_
          refine lv_iand hx hb dX2_takeBack_130 ?_
          refine W.top (y := .int (nI q)) (congrArg Value.int l2) ?_
          refine lv_iload_n hx hb dX2_takeBack_131 rfl (lv_at hl 2 rfl) ?_
          refine lv_bipush (v := (nI 15)) hx hb dX2_takeBack_132 (by decide) ?_
          refine lv_iand hx hb dX2_takeBack_134 ?_
          refine W.top (y := .int (nI v)) (congrArg Value.int l1) ?_
          refine chV (rnV (As := [.int (nI q), .int (nI v)]) (rest := []) S0 (c_X2_set l (tbB2 bd (1 - s1) f t k) hC5 q v (by omega) (by omega)) wm_X2_40 wi_X2_set ws_X2_set wn_X2 wc_X2_set hd_X2_set ⟨rfl, rfl, by decide, by decide⟩ IW.blind (va_recv hK hP (ci := 1) (q0 := 2) rfl rfl) (IW.at hP hD hK hA hE hS) hl.1 (Nat.le_of_ble_eq_true rfl) dX2_takeBack_135 rfl ⟨by decide, by decide⟩) hS (fun u4 H locs hu hP hD hS => ?_)
          have hC6 := hu
          have hP : va_P D classes (cW cI cJ h0 h1 h2 a0 a1 a2 a3 h3 a4 h4 a5 kn op ow tr fu kg co pn (nI (1 - s1)) ri pa (nI n) u4.1 u4.2 mvs los lsz lfs asz afs) H := hP
          have hD : va_D A (cW cI cJ h0 h1 h2 a0 a1 a2 a3 h3 a4 h4 a5 kn op ow tr fu kg co pn (nI (1 - s1)) ri pa (nI n) u4.1 u4.2 mvs los lsz lfs asz afs) := hD
          refine lv_aload_n hx hb dX2_takeBack_138 rfl (lv_at hl 4 rfl) ?_
          refine lv_iload_n hx hb dX2_takeBack_139 rfl (lv_at hl 2 rfl) ?_
          refine lv_bipush (v := (nI 10)) hx hb dX2_takeBack_140 (by decide) ?_
          refine lv_ishr hx hb dX2_takeBack_142 ?_
          refine lv_bipush (v := (nI 15)) hx hb dX2_takeBack_143 (by decide) ?_
          refine lv_iand hx hb dX2_takeBack_145 ?_
          refine W.top (y := .int (nI rt)) (congrArg Value.int l3) ?_
          refine va_put (D := D) (ci := 1) (v := .int (nI rt)) (ty := .int) (C := RX2) (T := TX2) (N := 8) hx hb hG wu_X2 tyX2 tyX2_ok nmX2 hown hK hP hD hS 2 rfl rfl 3 (by decide) (hG _ wf_X2_25) (fun _ h9 => h9) rfl (by decide +kernel) rfl rfl (Nat.le_of_ble_eq_true rfl) dX2_takeBack_146 (fun H locs hP hD hS => ?_)
          have hP : va_P D classes (cW cI cJ h0 h1 h2 a0 a1 a2 a3 h3 a4 h4 a5 kn op ow tr fu kg co pn (nI (1 - s1)) (nI rt) pa (nI n) u4.1 u4.2 mvs los lsz lfs asz afs) H := hP
          have hD : va_D A (cW cI cJ h0 h1 h2 a0 a1 a2 a3 h3 a4 h4 a5 kn op ow tr fu kg co pn (nI (1 - s1)) (nI rt) pa (nI n) u4.1 u4.2 mvs los lsz lfs asz afs) := hD
          refine lv_aload_n hx hb dX2_takeBack_149 rfl (lv_at hl 4 rfl) ?_
          refine lv_iload_n hx hb dX2_takeBack_150 rfl (lv_at hl 2 rfl) ?_
          refine lv_bipush (v := (nI 14)) hx hb dX2_takeBack_151 (by decide) ?_
          refine lv_ishr hx hb dX2_takeBack_153 ?_
          refine lv_iconst (v := (nI 1)) hx hb dX2_takeBack_154 (by decide) ?_
          refine lv_isub hx hb dX2_takeBack_155 ?_
          refine W.top (y := .int (pI ps)) (congrArg Value.int l4) ?_
          refine va_put (D := D) (ci := 1) (v := .int (pI ps)) (ty := .int) (C := RX2) (T := TX2) (N := 8) hx hb hG wu_X2 tyX2 tyX2_ok nmX2 hown hK hP hD hS 2 rfl rfl 4 (by decide) (hG _ wf_X2_28) (fun _ h9 => h9) rfl (by decide +kernel) rfl rfl (Nat.le_of_ble_eq_true rfl) dX2_takeBack_156 (fun H locs hP hD hS => ?_)
          have hP : va_P D classes (cW cI cJ h0 h1 h2 a0 a1 a2 a3 h3 a4 h4 a5 kn op ow tr fu kg co pn (nI (1 - s1)) (nI rt) (pI ps) (nI n) u4.1 u4.2 mvs los lsz lfs asz afs) H := hP
          have hD : va_D A (cW cI cJ h0 h1 h2 a0 a1 a2 a3 h3 a4 h4 a5 kn op ow tr fu kg co pn (nI (1 - s1)) (nI rt) (pI ps) (nI n) u4.1 u4.2 mvs los lsz lfs asz afs) := hD
          refine lv_iload_n hx hb dX2_takeBack_159 rfl (lv_at hl 3 rfl) ?_
          exact weI ((u4.1, u4.2)) hx hb hr hlocks dX2_takeBack_160 ⟨rfl, hC6⟩ hP hD hK hA hE hS
        · skip
          refine lb_if_eq (tgt := 124) hx hb dX2_takeBack_105 (by decide) (fun c105 => ?_) (fun c105 => ?_)
          · skip
            exact hj_124 (p9, s9) _ _ (by unfold tbB2; first | (rw [if_pos c105]; exact hC4) | (rw [if_neg (show ¬ ict (tbB1 bd (1 - s1) f t k) f t = true by rw [c105]; decide)]; exact hC3)) hP hD hS ls (lv_sub hl [0, 1, 2, 3, 4] rfl)
          · skip
            obtain ⟨hc4, hrl⟩ := hct c105
            refine lv_aload_n hx hb dX2_takeBack_108 rfl (lv_at hl 4 rfl) ?_
            refine lv_iload_n hx hb dX2_takeBack_109 rfl (lv_at hl 1 rfl) ?_
            refine lv_iload hx hb dX2_takeBack_110 (lv_at hl 0 rfl) ?_
            refine ln_iadd hx hb dX2_takeBack_112 ?_
            refine lv_iconst (v := (nI 2)) hx hb dX2_takeBack_113 (by decide) ?_
            refine ln_idiv hx hb dX2_takeBack_114 (by omega) (by decide) (by decide) ?_
            refine lv_iload_n hx hb dX2_takeBack_115 rfl (lv_at hl 1 rfl) ?_
            refine lv_iload hx hb dX2_takeBack_116 (lv_at hl 0 rfl) ?_
            refine roI (rnS (As := [.int (nI f), .int (nI t)]) (rest := [.int (nI ((f + t) / 2)), .ref h2]) S0 (c_X2_rookCorner l f t (by omega) (by omega) hc4) wm_X2_118 wt_X2_rookCorner wn_X2 wc_X2_rookCorner hd_X2_rookCorner ⟨rfl, rfl, by decide, by decide⟩ True.blind (fun _ _ _ => trivial) hl.1 (Nat.le_of_ble_eq_true rfl) dX2_takeBack_118 rfl ⟨by decide, by decide⟩) (fun r_7 hr_7 => ?_)
            subst hr_7
            refine chV (rnV (As := [.int (nI ((f + t) / 2)), .int (nI (rok f t))]) (rest := []) S0 (c_X2_carry l (tbB1 bd (1 - s1) f t k) hC3 ((f + t) / 2) (rok f t) (by omega) (by omega)) wm_X2_121 wi_X2_carry ws_X2_carry wn_X2 wc_X2_carry hd_X2_carry ⟨rfl, rfl, by decide, by decide⟩ IW.blind (va_recv hK hP (ci := 1) (q0 := 2) rfl rfl) (IW.at hP hD hK hA hE hS) hl.1 (Nat.le_of_ble_eq_true rfl) dX2_takeBack_121 rfl ⟨by decide, by decide⟩) hS (fun u3 H locs hu hP hD hS => ?_)
            have hC4 := hu
            have hP : va_P D classes (cW cI cJ h0 h1 h2 a0 a1 a2 a3 h3 a4 h4 a5 kn op ow tr fu kg co pn (nI (1 - s1)) ri pa (nI n) u3.1 u3.2 mvs los lsz lfs asz afs) H := hP
            have hD : va_D A (cW cI cJ h0 h1 h2 a0 a1 a2 a3 h3 a4 h4 a5 kn op ow tr fu kg co pn (nI (1 - s1)) ri pa (nI n) u3.1 u3.2 mvs los lsz lfs asz afs) := hD
            exact hj_124 (u3.1, u3.2) _ _ (by unfold tbB2; first | (rw [if_pos c105]; exact hC4) | (rw [if_neg (show ¬ ict (tbB1 bd (1 - s1) f t k) f t = true by rw [c105]; decide)]; exact hC3)) hP hD hS ls (lv_sub hl [0, 1, 2, 3, 4] rfl)
      · skip
        refine ln_if_eq (tgt := 98) hx hb dX2_takeBack_81 (by decide) (by omega) (fun c81 => ?_) (fun c81 => ?_)
        · skip
          exact hj_98 (u1.1, u1.2) _ _ (by unfold tbB1; first | (rw [if_pos c81]; exact hC1) | (rw [if_neg c81]; exact hC2)) hP hD hS ls (lv_sub hl [0, 1, 2, 3, 4] rfl)
        · skip
          refine lv_aload_n hx hb dX2_takeBack_84 rfl (lv_at hl 4 rfl) ?_
          refine lv_iload_n hx hb dX2_takeBack_85 rfl (lv_at hl 1 rfl) ?_
          refine lv_bipush (v := (nI 6)) hx hb dX2_takeBack_86 (by decide) ?_
          refine lv_aload_n hx hb dX2_takeBack_88 rfl (lv_at hl 4 rfl) ?_
          refine va_get (D := D) (ci := 1) (v := .int (nI (1 - s1))) (C := RX2) (T := TX2) (N := 8) hx hb hG wu_X2 hown hK hP 2 rfl rfl 2 (by decide) (hG _ wf_X2_21) (fun _ h9 => h9) rfl dX2_takeBack_89 ?_
          refine ln_imul hx hb dX2_takeBack_92 ?_
          refine lv_iconst (v := (nI 1)) hx hb dX2_takeBack_93 (by decide) ?_
          refine ln_iadd hx hb dX2_takeBack_94 ?_
          refine chV (rnV (As := [.int (nI f), .int (nI ((6 * (1 - s1)) + 1))]) (rest := []) S0 (c_X2_set l (cry bd t f) hC1 f ((6 * (1 - s1)) + 1) (by omega) (by omega)) wm_X2_40 wi_X2_set ws_X2_set wn_X2 wc_X2_set hd_X2_set ⟨rfl, rfl, by decide, by decide⟩ IW.blind (va_recv hK hP (ci := 1) (q0 := 2) rfl rfl) (IW.at hP hD hK hA hE hS) hl.1 (Nat.le_of_ble_eq_true rfl) dX2_takeBack_95 rfl ⟨by decide, by decide⟩) hS (fun u2 H locs hu hP hD hS => ?_)
          have hC2 := hu
          have hP : va_P D classes (cW cI cJ h0 h1 h2 a0 a1 a2 a3 h3 a4 h4 a5 kn op ow tr fu kg co pn (nI (1 - s1)) ri pa (nI n) u2.1 u2.2 mvs los lsz lfs asz afs) H := hP
          have hD : va_D A (cW cI cJ h0 h1 h2 a0 a1 a2 a3 h3 a4 h4 a5 kn op ow tr fu kg co pn (nI (1 - s1)) ri pa (nI n) u2.1 u2.2 mvs los lsz lfs asz afs) := hD
          exact hj_98 (u2.1, u2.2) _ _ (by unfold tbB1; first | (rw [if_pos c81]; exact hC1) | (rw [if_neg c81]; exact hC2)) hP hD hS ls (lv_sub hl [0, 1, 2, 3, 4] rfl)
    · skip
      exact absurd c14 (by omega)

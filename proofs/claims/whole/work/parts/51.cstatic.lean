theorem dX4_isSquare_0 : decode cX4_isSquare 0 = .ok (.iload_n 0, 1) := by decide +kernel
theorem dX4_isSquare_1 : decode cX4_isSquare 1 = .ok (.ifCond .lt 13, 3) := by decide +kernel
theorem dX4_isSquare_4 : decode cX4_isSquare 4 = .ok (.iload_n 0, 1) := by decide +kernel
theorem dX4_isSquare_5 : decode cX4_isSquare 5 = .ok (.bipush 64, 2) := by decide +kernel
theorem dX4_isSquare_7 : decode cX4_isSquare 7 = .ok (.if_icmp .ge 7, 3) := by decide +kernel
theorem dX4_isSquare_10 : decode cX4_isSquare 10 = .ok (.iconst 1, 1) := by decide +kernel
theorem dX4_isSquare_11 : decode cX4_isSquare 11 = .ok (.goto 4, 3) := by decide +kernel
theorem dX4_isSquare_14 : decode cX4_isSquare 14 = .ok (.iconst 0, 1) := by decide +kernel
theorem dX4_isSquare_15 : decode cX4_isSquare 15 = .ok (.ireturn, 1) := by decide +kernel
theorem hd_X4_isSquare : yX4_isSquare.cls ≠ "java/lang/invoke/MethodHandle" ∧ yX4_isSquare.cls ≠ "java/lang/invoke/VarHandle" ∧ (parseMethodDescriptor yX4_isSquare.desc).map (fun d => d.parameters.length) = some 1 := by decide +kernel
set_option maxHeartbeats 4000000 in
set_option maxRecDepth 100000 in
/-- isSquare -/
theorem c_X4_isSquare (l : Launch) (x : Int32) : Met l yX4_isSquare (Cond.code yX4_isSquare cX4_isSquare 1 (some .boolean) :: wsL_law) (rK 0) (va_Pc [.int x] (fun _ => True)) (vp_Si (fun r => r = bI (isq x))) 0 0 (fun _ => False) := by
  refine entM (by decide) (Nat.le_of_ble_eq_true rfl) ?_
  intro p e s m below meth c ls S0 hr hlocks hG hnm hB hl
  have hx := S0.1
  have hb := S0.2.1
  have hown := S0.2.2.2.1
  have hl : lv_has ls 1 [(0, .int x)] := hl
  refine lv_iload_n hx hb dX4_isSquare_0 rfl (lv_at hl 0 rfl) ?_
  refine lv_if_lt (tgt := 14) hx hb dX4_isSquare_1 (by decide) (fun c_1 => ?_) (fun c_1 => ?_)
  · skip
    refine lv_iconst (v := (nI 0)) hx hb dX4_isSquare_14 (by decide) ?_
    exact reZ (v := false) hx hb hr hlocks dX4_isSquare_15 (congrArg bI (by first | exact (isq_t (by assumption) (by assumption)).symm | exact (isq_f1 (by assumption)).symm | exact (isq_f2 (by assumption)).symm))
  · skip
    refine lv_iload_n hx hb dX4_isSquare_4 rfl (lv_at hl 0 rfl) ?_
    refine lv_bipush (v := (nI 64)) hx hb dX4_isSquare_5 (by decide) ?_
    refine lv_icmp_ge (tgt := 14) hx hb dX4_isSquare_7 (by decide) (fun c_2 => ?_) (fun c_2 => ?_)
    · skip
      refine lv_iconst (v := (nI 0)) hx hb dX4_isSquare_14 (by decide) ?_
      exact reZ (v := false) hx hb hr hlocks dX4_isSquare_15 (congrArg bI (by first | exact (isq_t (by assumption) (by assumption)).symm | exact (isq_f1 (by assumption)).symm | exact (isq_f2 (by assumption)).symm))
    · skip
      refine lv_iconst (v := (nI 1)) hx hb dX4_isSquare_10 (by decide) ?_
      refine lv_goto (tgt := 15) hx hb dX4_isSquare_11 (by decide) ?_
      exact reZ (v := true) hx hb hr hlocks dX4_isSquare_15 (congrArg bI (by first | exact (isq_t (by assumption) (by assumption)).symm | exact (isq_f1 (by assumption)).symm | exact (isq_f2 (by assumption)).symm))
theorem dX4_isPiece_0 : decode cX4_isPiece 0 = .ok (.iload_n 0, 1) := by decide +kernel
theorem dX4_isPiece_1 : decode cX4_isPiece 1 = .ok (.ifCond .lt 13, 3) := by decide +kernel
theorem dX4_isPiece_4 : decode cX4_isPiece 4 = .ok (.iload_n 0, 1) := by decide +kernel
theorem dX4_isPiece_5 : decode cX4_isPiece 5 = .ok (.bipush 13, 2) := by decide +kernel
theorem dX4_isPiece_7 : decode cX4_isPiece 7 = .ok (.if_icmp .ge 7, 3) := by decide +kernel
theorem dX4_isPiece_10 : decode cX4_isPiece 10 = .ok (.iconst 1, 1) := by decide +kernel
theorem dX4_isPiece_11 : decode cX4_isPiece 11 = .ok (.goto 4, 3) := by decide +kernel
theorem dX4_isPiece_14 : decode cX4_isPiece 14 = .ok (.iconst 0, 1) := by decide +kernel
theorem dX4_isPiece_15 : decode cX4_isPiece 15 = .ok (.ireturn, 1) := by decide +kernel
theorem hd_X4_isPiece : yX4_isPiece.cls ≠ "java/lang/invoke/MethodHandle" ∧ yX4_isPiece.cls ≠ "java/lang/invoke/VarHandle" ∧ (parseMethodDescriptor yX4_isPiece.desc).map (fun d => d.parameters.length) = some 1 := by decide +kernel
set_option maxHeartbeats 4000000 in
set_option maxRecDepth 100000 in
/-- isPiece -/
theorem c_X4_isPiece (l : Launch) (x : Int32) : Met l yX4_isPiece (Cond.code yX4_isPiece cX4_isPiece 1 (some .boolean) :: wsL_law) (rK 0) (va_Pc [.int x] (fun _ => True)) (vp_Si (fun r => r = bI (isp x))) 0 0 (fun _ => False) := by
  refine entM (by decide) (Nat.le_of_ble_eq_true rfl) ?_
  intro p e s m below meth c ls S0 hr hlocks hG hnm hB hl
  have hx := S0.1
  have hb := S0.2.1
  have hown := S0.2.2.2.1
  have hl : lv_has ls 1 [(0, .int x)] := hl
  refine lv_iload_n hx hb dX4_isPiece_0 rfl (lv_at hl 0 rfl) ?_
  refine lv_if_lt (tgt := 14) hx hb dX4_isPiece_1 (by decide) (fun c1 => ?_) (fun c1 => ?_)
  · skip
    refine lv_iconst (v := (nI 0)) hx hb dX4_isPiece_14 (by decide) ?_
    exact reZ (v := false) hx hb hr hlocks dX4_isPiece_15 (congrArg bI (by unfold isp; symm; first | exact decide_eq_true ⟨by assumption, by assumption⟩ | exact decide_eq_false (fun z => absurd (by assumption) z.1) | exact decide_eq_false (fun z => absurd (by assumption) z.2)))
  · skip
    refine lv_iload_n hx hb dX4_isPiece_4 rfl (lv_at hl 0 rfl) ?_
    refine lv_bipush (v := (nI 13)) hx hb dX4_isPiece_5 (by decide) ?_
    refine lv_icmp_ge (tgt := 14) hx hb dX4_isPiece_7 (by decide) (fun c7 => ?_) (fun c7 => ?_)
    · skip
      refine lv_iconst (v := (nI 0)) hx hb dX4_isPiece_14 (by decide) ?_
      exact reZ (v := false) hx hb hr hlocks dX4_isPiece_15 (congrArg bI (by unfold isp; symm; first | exact decide_eq_true ⟨by assumption, by assumption⟩ | exact decide_eq_false (fun z => absurd (by assumption) z.1) | exact decide_eq_false (fun z => absurd (by assumption) z.2)))
    · skip
      refine lv_iconst (v := (nI 1)) hx hb dX4_isPiece_10 (by decide) ?_
      refine lv_goto (tgt := 15) hx hb dX4_isPiece_11 (by decide) ?_
      exact reZ (v := true) hx hb hr hlocks dX4_isPiece_15 (congrArg bI (by unfold isp; symm; first | exact decide_eq_true ⟨by assumption, by assumption⟩ | exact decide_eq_false (fun z => absurd (by assumption) z.1) | exact decide_eq_false (fun z => absurd (by assumption) z.2)))
theorem dX4_typeOf_0 : decode cX4_typeOf 0 = .ok (.iload_n 0, 1) := by decide +kernel
theorem dX4_typeOf_1 : decode cX4_typeOf 1 = .ok (.bipush 6, 2) := by decide +kernel
theorem dX4_typeOf_3 : decode cX4_typeOf 3 = .ok (.if_icmp .le 10, 3) := by decide +kernel
theorem dX4_typeOf_6 : decode cX4_typeOf 6 = .ok (.iload_n 0, 1) := by decide +kernel
theorem dX4_typeOf_7 : decode cX4_typeOf 7 = .ok (.bipush 6, 2) := by decide +kernel
theorem dX4_typeOf_9 : decode cX4_typeOf 9 = .ok (.isub, 1) := by decide +kernel
theorem dX4_typeOf_10 : decode cX4_typeOf 10 = .ok (.goto 4, 3) := by decide +kernel
theorem dX4_typeOf_13 : decode cX4_typeOf 13 = .ok (.iload_n 0, 1) := by decide +kernel
theorem dX4_typeOf_14 : decode cX4_typeOf 14 = .ok (.ireturn, 1) := by decide +kernel
theorem hd_X4_typeOf : yX4_typeOf.cls ≠ "java/lang/invoke/MethodHandle" ∧ yX4_typeOf.cls ≠ "java/lang/invoke/VarHandle" ∧ (parseMethodDescriptor yX4_typeOf.desc).map (fun d => d.parameters.length) = some 1 := by decide +kernel
set_option maxHeartbeats 4000000 in
set_option maxRecDepth 100000 in
/-- typeOf -/
theorem c_X4_typeOf (l : Launch) (k : Nat) (hk : k < 13) : Met l yX4_typeOf (Cond.code yX4_typeOf cX4_typeOf 1 (some .int) :: wsL_law) (rK 0) (va_Pc [.int (nI k)] (fun _ => True)) (vp_Si (fun r => r = nI (kd k))) 0 0 (fun _ => False) := by
  refine entM (by decide) (Nat.le_of_ble_eq_true rfl) ?_
  intro p e s m below meth c ls S0 hr hlocks hG hnm hB hl
  have hx := S0.1
  have hb := S0.2.1
  have hown := S0.2.2.2.1
  have hl : lv_has ls 1 [(0, .int (nI k))] := hl
  refine lv_iload_n hx hb dX4_typeOf_0 rfl (lv_at hl 0 rfl) ?_
  refine lv_bipush (v := (nI 6)) hx hb dX4_typeOf_1 (by decide) ?_
  refine ln_icmp_le (tgt := 13) hx hb dX4_typeOf_3 (by decide) (by omega) (by decide) (fun c_1 => ?_) (fun c_1 => ?_)
  · skip
    refine lv_iload_n hx hb dX4_typeOf_13 rfl (lv_at hl 0 rfl) ?_
    exact reI hx hb hr hlocks dX4_typeOf_14 (by unfold kd; exact congrArg nI (by (repeat' split) <;> omega))
  · skip
    refine lv_iload_n hx hb dX4_typeOf_6 rfl (lv_at hl 0 rfl) ?_
    refine lv_bipush (v := (nI 6)) hx hb dX4_typeOf_7 (by decide) ?_
    refine ln_isub hx hb dX4_typeOf_9 (by omega) ?_
    refine lv_goto (tgt := 14) hx hb dX4_typeOf_10 (by decide) ?_
    exact reI hx hb hr hlocks dX4_typeOf_14 (by unfold kd; exact congrArg nI (by (repeat' split) <;> omega))
theorem dX4_fromOf_0 : decode cX4_fromOf 0 = .ok (.iload_n 0, 1) := by decide +kernel
theorem dX4_fromOf_1 : decode cX4_fromOf 1 = .ok (.bipush 63, 2) := by decide +kernel
theorem dX4_fromOf_3 : decode cX4_fromOf 3 = .ok (.iand, 1) := by decide +kernel
theorem dX4_fromOf_4 : decode cX4_fromOf 4 = .ok (.ireturn, 1) := by decide +kernel
theorem hd_X4_fromOf : yX4_fromOf.cls ≠ "java/lang/invoke/MethodHandle" ∧ yX4_fromOf.cls ≠ "java/lang/invoke/VarHandle" ∧ (parseMethodDescriptor yX4_fromOf.desc).map (fun d => d.parameters.length) = some 1 := by decide +kernel
set_option maxHeartbeats 4000000 in
set_option maxRecDepth 100000 in
/-- fromOf -/
theorem c_X4_fromOf (l : Launch) (x : Int32) : Met l yX4_fromOf (Cond.code yX4_fromOf cX4_fromOf 1 (some .int) :: wsL_law) (rK 0) (va_Pc [.int x] (fun _ => True)) (vp_Si (fun r => r = (x &&& nI 63))) 0 0 (fun _ => False) := by
  refine entM (by decide) (Nat.le_of_ble_eq_true rfl) ?_
  intro p e s m below meth c ls S0 hr hlocks hG hnm hB hl
  have hx := S0.1
  have hb := S0.2.1
  have hown := S0.2.2.2.1
  have hl : lv_has ls 1 [(0, .int x)] := hl
  refine lv_iload_n hx hb dX4_fromOf_0 rfl (lv_at hl 0 rfl) ?_
  refine lv_bipush (v := (nI 63)) hx hb dX4_fromOf_1 (by decide) ?_
  refine lv_iand hx hb dX4_fromOf_3 ?_
  exact reI hx hb hr hlocks dX4_fromOf_4 rfl
theorem dX4_toOf_0 : decode cX4_toOf 0 = .ok (.iload_n 0, 1) := by decide +kernel
theorem dX4_toOf_1 : decode cX4_toOf 1 = .ok (.bipush 6, 2) := by decide +kernel
theorem dX4_toOf_3 : decode cX4_toOf 3 = .ok (.ishr, 1) := by decide +kernel
theorem dX4_toOf_4 : decode cX4_toOf 4 = .ok (.bipush 63, 2) := by decide +kernel
theorem dX4_toOf_6 : decode cX4_toOf 6 = .ok (.iand, 1) := by decide +kernel
theorem dX4_toOf_7 : decode cX4_toOf 7 = .ok (.ireturn, 1) := by decide +kernel
theorem hd_X4_toOf : yX4_toOf.cls ≠ "java/lang/invoke/MethodHandle" ∧ yX4_toOf.cls ≠ "java/lang/invoke/VarHandle" ∧ (parseMethodDescriptor yX4_toOf.desc).map (fun d => d.parameters.length) = some 1 := by decide +kernel
set_option maxHeartbeats 4000000 in
set_option maxRecDepth 100000 in
/-- toOf -/
theorem c_X4_toOf (l : Launch) (x : Int32) : Met l yX4_toOf (Cond.code yX4_toOf cX4_toOf 1 (some .int) :: wsL_law) (rK 0) (va_Pc [.int x] (fun _ => True)) (vp_Si (fun r => r = ((x >>> (nI 6 &&& 31)) &&& nI 63))) 0 0 (fun _ => False) := by
  refine entM (by decide) (Nat.le_of_ble_eq_true rfl) ?_
  intro p e s m below meth c ls S0 hr hlocks hG hnm hB hl
  have hx := S0.1
  have hb := S0.2.1
  have hown := S0.2.2.2.1
  have hl : lv_has ls 1 [(0, .int x)] := hl
  refine lv_iload_n hx hb dX4_toOf_0 rfl (lv_at hl 0 rfl) ?_
  refine lv_bipush (v := (nI 6)) hx hb dX4_toOf_1 (by decide) ?_
  refine lv_ishr hx hb dX4_toOf_3 ?_
  refine lv_bipush (v := (nI 63)) hx hb dX4_toOf_4 (by decide) ?_
  refine lv_iand hx hb dX4_toOf_6 ?_
  exact reI hx hb hr hlocks dX4_toOf_7 rfl
theorem dX4_becomesOf_0 : decode cX4_becomesOf 0 = .ok (.iload_n 0, 1) := by decide +kernel
theorem dX4_becomesOf_1 : decode cX4_becomesOf 1 = .ok (.bipush 12, 2) := by decide +kernel
theorem dX4_becomesOf_3 : decode cX4_becomesOf 3 = .ok (.ishr, 1) := by decide +kernel
theorem dX4_becomesOf_4 : decode cX4_becomesOf 4 = .ok (.ireturn, 1) := by decide +kernel
theorem hd_X4_becomesOf : yX4_becomesOf.cls ≠ "java/lang/invoke/MethodHandle" ∧ yX4_becomesOf.cls ≠ "java/lang/invoke/VarHandle" ∧ (parseMethodDescriptor yX4_becomesOf.desc).map (fun d => d.parameters.length) = some 1 := by decide +kernel
set_option maxHeartbeats 4000000 in
set_option maxRecDepth 100000 in
/-- becomesOf -/
theorem c_X4_becomesOf (l : Launch) (x : Int32) : Met l yX4_becomesOf (Cond.code yX4_becomesOf cX4_becomesOf 1 (some .int) :: wsL_law) (rK 0) (va_Pc [.int x] (fun _ => True)) (vp_Si (fun r => r = (x >>> (nI 12 &&& 31)))) 0 0 (fun _ => False) := by
  refine entM (by decide) (Nat.le_of_ble_eq_true rfl) ?_
  intro p e s m below meth c ls S0 hr hlocks hG hnm hB hl
  have hx := S0.1
  have hb := S0.2.1
  have hown := S0.2.2.2.1
  have hl : lv_has ls 1 [(0, .int x)] := hl
  refine lv_iload_n hx hb dX4_becomesOf_0 rfl (lv_at hl 0 rfl) ?_
  refine lv_bipush (v := (nI 12)) hx hb dX4_becomesOf_1 (by decide) ?_
  refine lv_ishr hx hb dX4_becomesOf_3 ?_
  exact reI hx hb hr hlocks dX4_becomesOf_4 rfl
theorem dX4_bit_0 : decode cX4_bit 0 = .ok (.lconst 1, 1) := by decide +kernel
theorem dX4_bit_1 : decode cX4_bit 1 = .ok (.iload_n 0, 1) := by decide +kernel
theorem dX4_bit_2 : decode cX4_bit 2 = .ok (.lshl, 1) := by decide +kernel
theorem dX4_bit_3 : decode cX4_bit 3 = .ok (.lreturn, 1) := by decide +kernel
theorem hd_X4_bit : yX4_bit.cls ≠ "java/lang/invoke/MethodHandle" ∧ yX4_bit.cls ≠ "java/lang/invoke/VarHandle" ∧ (parseMethodDescriptor yX4_bit.desc).map (fun d => d.parameters.length) = some 1 := by decide +kernel
set_option maxHeartbeats 4000000 in
set_option maxRecDepth 100000 in
/-- bit -/
theorem c_X4_bit (l : Launch) (x : Int32) : Met l yX4_bit (Cond.code yX4_bit cX4_bit 1 (some .long) :: wsL_law) (rK 0) (va_Pc [.int x] (fun _ => True)) (vp_Sl (fun r => r = (bsl 1 x))) 0 0 (fun _ => False) := by
  refine entM (by decide) (Nat.le_of_ble_eq_true rfl) ?_
  intro p e s m below meth c ls S0 hr hlocks hG hnm hB hl
  have hx := S0.1
  have hb := S0.2.1
  have hown := S0.2.2.2.1
  have hl : lv_has ls 1 [(0, .int x)] := hl
  refine lv_lconst (v := 1) hx hb dX4_bit_0 (by decide) ?_
  refine lv_iload_n hx hb dX4_bit_1 rfl (lv_at hl 0 rfl) ?_
  refine lv_lshl (v := bsl 1 x) hx hb dX4_bit_2 rfl ?_
  exact reL hx hb hr hlocks dX4_bit_3 rfl
theorem dJ13_bitCount_95d88_0 : decode cJ13_bitCount_95d88 0 = .ok (.lload_n 0, 1) := by decide +kernel
theorem dJ13_bitCount_95d88_1 : decode cJ13_bitCount_95d88 1 = .ok (.lload_n 0, 1) := by decide +kernel
theorem dJ13_bitCount_95d88_2 : decode cJ13_bitCount_95d88 2 = .ok (.iconst 1, 1) := by decide +kernel
theorem dJ13_bitCount_95d88_3 : decode cJ13_bitCount_95d88 3 = .ok (.lushr, 1) := by decide +kernel
theorem dJ13_bitCount_95d88_4 : decode cJ13_bitCount_95d88 4 = .ok (.ldc2_w 314, 3) := by decide +kernel
theorem dJ13_bitCount_95d88_7 : decode cJ13_bitCount_95d88 7 = .ok (.land, 1) := by decide +kernel
theorem dJ13_bitCount_95d88_8 : decode cJ13_bitCount_95d88 8 = .ok (.lsub, 1) := by decide +kernel
theorem dJ13_bitCount_95d88_9 : decode cJ13_bitCount_95d88 9 = .ok (.lstore_n 0, 1) := by decide +kernel
theorem dJ13_bitCount_95d88_10 : decode cJ13_bitCount_95d88 10 = .ok (.lload_n 0, 1) := by decide +kernel
theorem dJ13_bitCount_95d88_11 : decode cJ13_bitCount_95d88 11 = .ok (.ldc2_w 316, 3) := by decide +kernel
theorem dJ13_bitCount_95d88_14 : decode cJ13_bitCount_95d88 14 = .ok (.land, 1) := by decide +kernel
theorem dJ13_bitCount_95d88_15 : decode cJ13_bitCount_95d88 15 = .ok (.lload_n 0, 1) := by decide +kernel
theorem dJ13_bitCount_95d88_16 : decode cJ13_bitCount_95d88 16 = .ok (.iconst 2, 1) := by decide +kernel
theorem dJ13_bitCount_95d88_17 : decode cJ13_bitCount_95d88 17 = .ok (.lushr, 1) := by decide +kernel
theorem dJ13_bitCount_95d88_18 : decode cJ13_bitCount_95d88 18 = .ok (.ldc2_w 316, 3) := by decide +kernel
theorem dJ13_bitCount_95d88_21 : decode cJ13_bitCount_95d88 21 = .ok (.land, 1) := by decide +kernel
theorem dJ13_bitCount_95d88_22 : decode cJ13_bitCount_95d88 22 = .ok (.ladd, 1) := by decide +kernel
theorem dJ13_bitCount_95d88_23 : decode cJ13_bitCount_95d88 23 = .ok (.lstore_n 0, 1) := by decide +kernel
theorem dJ13_bitCount_95d88_24 : decode cJ13_bitCount_95d88 24 = .ok (.lload_n 0, 1) := by decide +kernel
theorem dJ13_bitCount_95d88_25 : decode cJ13_bitCount_95d88 25 = .ok (.lload_n 0, 1) := by decide +kernel
theorem dJ13_bitCount_95d88_26 : decode cJ13_bitCount_95d88 26 = .ok (.iconst 4, 1) := by decide +kernel
theorem dJ13_bitCount_95d88_27 : decode cJ13_bitCount_95d88 27 = .ok (.lushr, 1) := by decide +kernel
theorem dJ13_bitCount_95d88_28 : decode cJ13_bitCount_95d88 28 = .ok (.ladd, 1) := by decide +kernel
theorem dJ13_bitCount_95d88_29 : decode cJ13_bitCount_95d88 29 = .ok (.ldc2_w 318, 3) := by decide +kernel
theorem dJ13_bitCount_95d88_32 : decode cJ13_bitCount_95d88 32 = .ok (.land, 1) := by decide +kernel
theorem dJ13_bitCount_95d88_33 : decode cJ13_bitCount_95d88 33 = .ok (.lstore_n 0, 1) := by decide +kernel
theorem dJ13_bitCount_95d88_34 : decode cJ13_bitCount_95d88 34 = .ok (.lload_n 0, 1) := by decide +kernel
theorem dJ13_bitCount_95d88_35 : decode cJ13_bitCount_95d88 35 = .ok (.lload_n 0, 1) := by decide +kernel
theorem dJ13_bitCount_95d88_36 : decode cJ13_bitCount_95d88 36 = .ok (.bipush 8, 2) := by decide +kernel
theorem dJ13_bitCount_95d88_38 : decode cJ13_bitCount_95d88 38 = .ok (.lushr, 1) := by decide +kernel
theorem dJ13_bitCount_95d88_39 : decode cJ13_bitCount_95d88 39 = .ok (.ladd, 1) := by decide +kernel
theorem dJ13_bitCount_95d88_40 : decode cJ13_bitCount_95d88 40 = .ok (.lstore_n 0, 1) := by decide +kernel
theorem dJ13_bitCount_95d88_41 : decode cJ13_bitCount_95d88 41 = .ok (.lload_n 0, 1) := by decide +kernel
theorem dJ13_bitCount_95d88_42 : decode cJ13_bitCount_95d88 42 = .ok (.lload_n 0, 1) := by decide +kernel
theorem dJ13_bitCount_95d88_43 : decode cJ13_bitCount_95d88 43 = .ok (.bipush 16, 2) := by decide +kernel
theorem dJ13_bitCount_95d88_45 : decode cJ13_bitCount_95d88 45 = .ok (.lushr, 1) := by decide +kernel
theorem dJ13_bitCount_95d88_46 : decode cJ13_bitCount_95d88 46 = .ok (.ladd, 1) := by decide +kernel
theorem dJ13_bitCount_95d88_47 : decode cJ13_bitCount_95d88 47 = .ok (.lstore_n 0, 1) := by decide +kernel
theorem dJ13_bitCount_95d88_48 : decode cJ13_bitCount_95d88 48 = .ok (.lload_n 0, 1) := by decide +kernel
theorem dJ13_bitCount_95d88_49 : decode cJ13_bitCount_95d88 49 = .ok (.lload_n 0, 1) := by decide +kernel
theorem dJ13_bitCount_95d88_50 : decode cJ13_bitCount_95d88 50 = .ok (.bipush 32, 2) := by decide +kernel
theorem dJ13_bitCount_95d88_52 : decode cJ13_bitCount_95d88 52 = .ok (.lushr, 1) := by decide +kernel
theorem dJ13_bitCount_95d88_53 : decode cJ13_bitCount_95d88 53 = .ok (.ladd, 1) := by decide +kernel
theorem dJ13_bitCount_95d88_54 : decode cJ13_bitCount_95d88 54 = .ok (.lstore_n 0, 1) := by decide +kernel
theorem dJ13_bitCount_95d88_55 : decode cJ13_bitCount_95d88 55 = .ok (.lload_n 0, 1) := by decide +kernel
theorem dJ13_bitCount_95d88_56 : decode cJ13_bitCount_95d88 56 = .ok (.l2i, 1) := by decide +kernel
theorem dJ13_bitCount_95d88_57 : decode cJ13_bitCount_95d88 57 = .ok (.bipush 127, 2) := by decide +kernel
theorem dJ13_bitCount_95d88_59 : decode cJ13_bitCount_95d88 59 = .ok (.iand, 1) := by decide +kernel
theorem dJ13_bitCount_95d88_60 : decode cJ13_bitCount_95d88 60 = .ok (.ireturn, 1) := by decide +kernel
theorem hd_J13_bitCount_95d88 : yJ13_bitCount_95d88.cls ≠ "java/lang/invoke/MethodHandle" ∧ yJ13_bitCount_95d88.cls ≠ "java/lang/invoke/VarHandle" ∧ (parseMethodDescriptor yJ13_bitCount_95d88.desc).map (fun d => d.parameters.length) = some 1 := by decide +kernel
set_option maxHeartbeats 4000000 in
set_option maxRecDepth 100000 in
/-- bitCount -/
theorem c_J13_bitCount_95d88 (l : Launch) (x : Int64) : Met l yJ13_bitCount_95d88 (Cond.code yJ13_bitCount_95d88 cJ13_bitCount_95d88 2 (some .int) :: wsL_law) (rK 0) (va_Pc [.long x] (fun _ => True)) (vp_Si (fun r => r = bcE x)) 0 0 (fun _ => False) := by
  refine entM (by decide) (Nat.le_of_ble_eq_true rfl) ?_
  intro p e s m below meth c ls S0 hr hlocks hG hnm hB hl
  have hx := S0.1
  have hb := S0.2.1
  have hown := S0.2.2.2.1
  have hl : lv_has ls 2 [(0, .long x)] := hl
  refine lv_lload_n hx hb dJ13_bitCount_95d88_0 rfl (lv_at hl 0 rfl) ?_
  refine lv_lload_n hx hb dJ13_bitCount_95d88_1 rfl (lv_at hl 0 rfl) ?_
  refine lv_iconst (v := (nI 1)) hx hb dJ13_bitCount_95d88_2 (by decide) ?_
  refine lv_lushr (v := bsr x (nI 1)) hx hb dJ13_bitCount_95d88_3 rfl ?_
  refine lv_ldc2 (v := (6148914691236517205)) hx hb hown (hG _ wk_J13_314) dJ13_bitCount_95d88_4 ?_
  refine lv_land hx hb dJ13_bitCount_95d88_7 ?_
  refine lv_lsub hx hb dJ13_bitCount_95d88_8 ?_
  refine W.top (y := .long (bc1 x)) (congrArg Value.long rfl) ?_
  refine lv_lstore_n (lv' := [(0, .long (bc1 x))]) hx hb dJ13_bitCount_95d88_9 rfl hl (by decide) rfl (fun ls hl => ?_)
  refine lv_lload_n hx hb dJ13_bitCount_95d88_10 rfl (lv_at hl 0 rfl) ?_
  refine lv_ldc2 (v := (3689348814741910323)) hx hb hown (hG _ wk_J13_316) dJ13_bitCount_95d88_11 ?_
  refine lv_land hx hb dJ13_bitCount_95d88_14 ?_
  refine lv_lload_n hx hb dJ13_bitCount_95d88_15 rfl (lv_at hl 0 rfl) ?_
  refine lv_iconst (v := (nI 2)) hx hb dJ13_bitCount_95d88_16 (by decide) ?_
  refine lv_lushr (v := bsr (bc1 x) (nI 2)) hx hb dJ13_bitCount_95d88_17 rfl ?_
  refine lv_ldc2 (v := (3689348814741910323)) hx hb hown (hG _ wk_J13_316) dJ13_bitCount_95d88_18 ?_
  refine lv_land hx hb dJ13_bitCount_95d88_21 ?_
  refine lv_ladd hx hb dJ13_bitCount_95d88_22 ?_
  refine W.top (y := .long (bc2 (bc1 x))) (congrArg Value.long rfl) ?_
  refine lv_lstore_n (lv' := [(0, .long (bc2 (bc1 x)))]) hx hb dJ13_bitCount_95d88_23 rfl hl (by decide) rfl (fun ls hl => ?_)
  refine lv_lload_n hx hb dJ13_bitCount_95d88_24 rfl (lv_at hl 0 rfl) ?_
  refine lv_lload_n hx hb dJ13_bitCount_95d88_25 rfl (lv_at hl 0 rfl) ?_
  refine lv_iconst (v := (nI 4)) hx hb dJ13_bitCount_95d88_26 (by decide) ?_
  refine lv_lushr (v := bsr (bc2 (bc1 x)) (nI 4)) hx hb dJ13_bitCount_95d88_27 rfl ?_
  refine lv_ladd hx hb dJ13_bitCount_95d88_28 ?_
  refine lv_ldc2 (v := (1085102592571150095)) hx hb hown (hG _ wk_J13_318) dJ13_bitCount_95d88_29 ?_
  refine lv_land hx hb dJ13_bitCount_95d88_32 ?_
  refine W.top (y := .long (bc3 (bc2 (bc1 x)))) (congrArg Value.long rfl) ?_
  refine lv_lstore_n (lv' := [(0, .long (bc3 (bc2 (bc1 x))))]) hx hb dJ13_bitCount_95d88_33 rfl hl (by decide) rfl (fun ls hl => ?_)
  refine lv_lload_n hx hb dJ13_bitCount_95d88_34 rfl (lv_at hl 0 rfl) ?_
  refine lv_lload_n hx hb dJ13_bitCount_95d88_35 rfl (lv_at hl 0 rfl) ?_
  refine lv_bipush (v := (nI 8)) hx hb dJ13_bitCount_95d88_36 (by decide) ?_
  refine lv_lushr (v := bsr (bc3 (bc2 (bc1 x))) (nI 8)) hx hb dJ13_bitCount_95d88_38 rfl ?_
  refine lv_ladd hx hb dJ13_bitCount_95d88_39 ?_
  refine W.top (y := .long (bc4 (bc3 (bc2 (bc1 x))))) (congrArg Value.long rfl) ?_
  refine lv_lstore_n (lv' := [(0, .long (bc4 (bc3 (bc2 (bc1 x)))))]) hx hb dJ13_bitCount_95d88_40 rfl hl (by decide) rfl (fun ls hl => ?_)
  refine lv_lload_n hx hb dJ13_bitCount_95d88_41 rfl (lv_at hl 0 rfl) ?_
  refine lv_lload_n hx hb dJ13_bitCount_95d88_42 rfl (lv_at hl 0 rfl) ?_
  refine lv_bipush (v := (nI 16)) hx hb dJ13_bitCount_95d88_43 (by decide) ?_
  refine lv_lushr (v := bsr (bc4 (bc3 (bc2 (bc1 x)))) (nI 16)) hx hb dJ13_bitCount_95d88_45 rfl ?_
  refine lv_ladd hx hb dJ13_bitCount_95d88_46 ?_
  refine lv_lstore_n (lv' := [(0, .long ((bc4 (bc3 (bc2 (bc1 x)))) + (bsr (bc4 (bc3 (bc2 (bc1 x)))) (nI 16))))]) hx hb dJ13_bitCount_95d88_47 rfl hl (by decide) rfl (fun ls hl => ?_)
  refine lv_lload_n hx hb dJ13_bitCount_95d88_48 rfl (lv_at hl 0 rfl) ?_
  refine lv_lload_n hx hb dJ13_bitCount_95d88_49 rfl (lv_at hl 0 rfl) ?_
  refine lv_bipush (v := (nI 32)) hx hb dJ13_bitCount_95d88_50 (by decide) ?_
  refine lv_lushr (v := bsr ((bc4 (bc3 (bc2 (bc1 x)))) + (bsr (bc4 (bc3 (bc2 (bc1 x)))) (nI 16))) (nI 32)) hx hb dJ13_bitCount_95d88_52 rfl ?_
  refine lv_ladd hx hb dJ13_bitCount_95d88_53 ?_
  refine lv_lstore_n (lv' := [(0, .long (((bc4 (bc3 (bc2 (bc1 x)))) + (bsr (bc4 (bc3 (bc2 (bc1 x)))) (nI 16))) + (bsr ((bc4 (bc3 (bc2 (bc1 x)))) + (bsr (bc4 (bc3 (bc2 (bc1 x)))) (nI 16))) (nI 32))))]) hx hb dJ13_bitCount_95d88_54 rfl hl (by decide) rfl (fun ls hl => ?_)
  refine lv_lload_n hx hb dJ13_bitCount_95d88_55 rfl (lv_at hl 0 rfl) ?_
  refine lv_l2i hx hb dJ13_bitCount_95d88_56 rfl ?_
  refine lv_bipush (v := (nI 127)) hx hb dJ13_bitCount_95d88_57 (by decide) ?_
  refine lv_iand hx hb dJ13_bitCount_95d88_59 ?_
  exact reI hx hb hr hlocks dJ13_bitCount_95d88_60 rfl
theorem dX4_squareOf_0 : decode cX4_squareOf 0 = .ok (.lload_n 0, 1) := by decide +kernel
theorem dX4_squareOf_1 : decode cX4_squareOf 1 = .ok (.lconst 1, 1) := by decide +kernel
theorem dX4_squareOf_2 : decode cX4_squareOf 2 = .ok (.lsub, 1) := by decide +kernel
theorem dX4_squareOf_3 : decode cX4_squareOf 3 = .ok (.invokestatic 162, 3) := by decide +kernel
theorem dX4_squareOf_6 : decode cX4_squareOf 6 = .ok (.ireturn, 1) := by decide +kernel
theorem hd_X4_squareOf : yX4_squareOf.cls ≠ "java/lang/invoke/MethodHandle" ∧ yX4_squareOf.cls ≠ "java/lang/invoke/VarHandle" ∧ (parseMethodDescriptor yX4_squareOf.desc).map (fun d => d.parameters.length) = some 1 := by decide +kernel
set_option maxHeartbeats 4000000 in
set_option maxRecDepth 100000 in
/-- squareOf -/
theorem c_X4_squareOf (l : Launch) (x : Int64) : Met l yX4_squareOf (Cond.code yX4_squareOf cX4_squareOf 2 (some .int) :: wsL_law) (rK 1) (va_Pc [.long x] (fun _ => True)) (vp_Si (fun r => r = bcE (x - 1))) 0 0 (fun _ => False) := by
  refine entM (by decide) (Nat.le_of_ble_eq_true rfl) ?_
  intro p e s m below meth c ls S0 hr hlocks hG hnm hB hl
  have hx := S0.1
  have hb := S0.2.1
  have hown := S0.2.2.2.1
  have hl : lv_has ls 2 [(0, .long x)] := hl
  refine lv_lload_n hx hb dX4_squareOf_0 rfl (lv_at hl 0 rfl) ?_
  refine lv_lconst (v := 1) hx hb dX4_squareOf_1 (by decide) ?_
  refine lv_lsub hx hb dX4_squareOf_2 ?_
  refine roI (rnS (As := [.long (x - 1)]) (rest := []) S0 (c_J13_bitCount_95d88 l (x - 1)) wm_X4_162 wt_J13_bitCount_95d88 wn_J13 wc_J13_bitCount_95d88 hd_J13_bitCount_95d88 ⟨rfl, rfl, by decide, by decide⟩ True.blind (fun _ _ _ => trivial) hl.1 (Nat.le_of_ble_eq_true rfl) dX4_squareOf_3 rfl ⟨by decide, by decide⟩) (fun r_1 hr_1 => ?_)
  subst hr_1
  exact reI hx hb hr hlocks dX4_squareOf_6 rfl
theorem dX0_ofPawns_0 : decode cX0_ofPawns 0 = .ok (.lload_n 0, 1) := by decide +kernel
theorem dX0_ofPawns_1 : decode cX0_ofPawns 1 = .ok (.ldc2_w 25, 3) := by decide +kernel
theorem dX0_ofPawns_4 : decode cX0_ofPawns 4 = .ok (.land, 1) := by decide +kernel
theorem dX0_ofPawns_5 : decode cX0_ofPawns 5 = .ok (.lstore_n 3, 1) := by decide +kernel
theorem dX0_ofPawns_6 : decode cX0_ofPawns 6 = .ok (.lload_n 0, 1) := by decide +kernel
theorem dX0_ofPawns_7 : decode cX0_ofPawns 7 = .ok (.ldc2_w 27, 3) := by decide +kernel
theorem dX0_ofPawns_10 : decode cX0_ofPawns 10 = .ok (.land, 1) := by decide +kernel
theorem dX0_ofPawns_11 : decode cX0_ofPawns 11 = .ok (.lstore 5, 2) := by decide +kernel
theorem dX0_ofPawns_13 : decode cX0_ofPawns 13 = .ok (.iload_n 2, 1) := by decide +kernel
theorem dX0_ofPawns_14 : decode cX0_ofPawns 14 = .ok (.ifCond .ne 16, 3) := by decide +kernel
theorem dX0_ofPawns_17 : decode cX0_ofPawns 17 = .ok (.lload_n 3, 1) := by decide +kernel
theorem dX0_ofPawns_18 : decode cX0_ofPawns 18 = .ok (.bipush 7, 2) := by decide +kernel
theorem dX0_ofPawns_20 : decode cX0_ofPawns 20 = .ok (.lshl, 1) := by decide +kernel
theorem dX0_ofPawns_21 : decode cX0_ofPawns 21 = .ok (.lload 5, 2) := by decide +kernel
theorem dX0_ofPawns_23 : decode cX0_ofPawns 23 = .ok (.bipush 9, 2) := by decide +kernel
theorem dX0_ofPawns_25 : decode cX0_ofPawns 25 = .ok (.lshl, 1) := by decide +kernel
theorem dX0_ofPawns_26 : decode cX0_ofPawns 26 = .ok (.lor, 1) := by decide +kernel
theorem dX0_ofPawns_27 : decode cX0_ofPawns 27 = .ok (.goto 13, 3) := by decide +kernel
theorem dX0_ofPawns_30 : decode cX0_ofPawns 30 = .ok (.lload_n 3, 1) := by decide +kernel
theorem dX0_ofPawns_31 : decode cX0_ofPawns 31 = .ok (.bipush 9, 2) := by decide +kernel
theorem dX0_ofPawns_33 : decode cX0_ofPawns 33 = .ok (.lushr, 1) := by decide +kernel
theorem dX0_ofPawns_34 : decode cX0_ofPawns 34 = .ok (.lload 5, 2) := by decide +kernel
theorem dX0_ofPawns_36 : decode cX0_ofPawns 36 = .ok (.bipush 7, 2) := by decide +kernel
theorem dX0_ofPawns_38 : decode cX0_ofPawns 38 = .ok (.lushr, 1) := by decide +kernel
theorem dX0_ofPawns_39 : decode cX0_ofPawns 39 = .ok (.lor, 1) := by decide +kernel
theorem dX0_ofPawns_40 : decode cX0_ofPawns 40 = .ok (.lreturn, 1) := by decide +kernel
theorem hd_X0_ofPawns : yX0_ofPawns.cls ≠ "java/lang/invoke/MethodHandle" ∧ yX0_ofPawns.cls ≠ "java/lang/invoke/VarHandle" ∧ (parseMethodDescriptor yX0_ofPawns.desc).map (fun d => d.parameters.length) = some 2 := by decide +kernel
set_option maxHeartbeats 4000000 in
set_option maxRecDepth 100000 in
/-- ofPawns -/
theorem c_X0_ofPawns (l : Launch) (x : Int64) (w : Nat) (hw : w < 2) : Met l yX0_ofPawns (Cond.code yX0_ofPawns cX0_ofPawns 7 (some .long) :: wsL_law) (rK 0) (va_Pc [.long x, .int (nI w)] (fun _ => True)) (vp_Sl (fun r => r = opw x w)) 0 0 (fun _ => False) := by
  refine entM (by decide) (Nat.le_of_ble_eq_true rfl) ?_
  intro p e s m below meth c ls S0 hr hlocks hG hnm hB hl
  have hx := S0.1
  have hb := S0.2.1
  have hown := S0.2.2.2.1
  have hl : lv_has ls 7 [(0, .long x), (2, .int (nI w))] := hl
  refine lv_lload_n hx hb dX0_ofPawns_0 rfl (lv_at hl 0 rfl) ?_
  refine lv_ldc2 (v := (-72340172838076674)) hx hb hown (hG _ wk_X0_25) dX0_ofPawns_1 ?_
  refine lv_land hx hb dX0_ofPawns_4 ?_
  refine lv_lstore_n (lv' := [(3, .long (x &&& (-72340172838076674))), (0, .long x), (2, .int (nI w))]) hx hb dX0_ofPawns_5 rfl hl (by decide) rfl (fun ls hl => ?_)
  refine lv_lload_n hx hb dX0_ofPawns_6 rfl (lv_at hl 1 rfl) ?_
  refine lv_ldc2 (v := (9187201950435737471)) hx hb hown (hG _ wk_X0_27) dX0_ofPawns_7 ?_
  refine lv_land hx hb dX0_ofPawns_10 ?_
  refine lv_lstore (lv' := [(5, .long (x &&& (9187201950435737471))), (3, .long (x &&& (-72340172838076674))), (0, .long x), (2, .int (nI w))]) hx hb dX0_ofPawns_11 hl (by decide) rfl (fun ls hl => ?_)
  refine lv_iload_n hx hb dX0_ofPawns_13 rfl (lv_at hl 3 rfl) ?_
  refine ln_if_ne (tgt := 30) hx hb dX0_ofPawns_14 (by decide) (by omega) (fun c14 => ?_) (fun c14 => ?_)
  · skip
    refine lv_lload_n hx hb dX0_ofPawns_30 rfl (lv_at hl 1 rfl) ?_
    refine lv_bipush (v := (nI 9)) hx hb dX0_ofPawns_31 (by decide) ?_
    refine lv_lushr (v := bsr (x &&& (-72340172838076674)) (nI 9)) hx hb dX0_ofPawns_33 rfl ?_
    refine lv_lload hx hb dX0_ofPawns_34 (lv_at hl 0 rfl) ?_
    refine lv_bipush (v := (nI 7)) hx hb dX0_ofPawns_36 (by decide) ?_
    refine lv_lushr (v := bsr (x &&& (9187201950435737471)) (nI 7)) hx hb dX0_ofPawns_38 rfl ?_
    refine lv_lor hx hb dX0_ofPawns_39 ?_
    exact reL hx hb hr hlocks dX0_ofPawns_40 (by unfold opw; first | (rw [if_pos c14]; rfl) | (rw [if_neg c14]; rfl))
  · skip
    refine lv_lload_n hx hb dX0_ofPawns_17 rfl (lv_at hl 1 rfl) ?_
    refine lv_bipush (v := (nI 7)) hx hb dX0_ofPawns_18 (by decide) ?_
    refine lv_lshl (v := bsl (x &&& (-72340172838076674)) (nI 7)) hx hb dX0_ofPawns_20 rfl ?_
    refine lv_lload hx hb dX0_ofPawns_21 (lv_at hl 0 rfl) ?_
    refine lv_bipush (v := (nI 9)) hx hb dX0_ofPawns_23 (by decide) ?_
    refine lv_lshl (v := bsl (x &&& (9187201950435737471)) (nI 9)) hx hb dX0_ofPawns_25 rfl ?_
    refine lv_lor hx hb dX0_ofPawns_26 ?_
    refine lv_goto (tgt := 40) hx hb dX0_ofPawns_27 (by decide) ?_
    exact reL hx hb hr hlocks dX0_ofPawns_40 (by unfold opw; first | (rw [if_pos c14]; rfl) | (rw [if_neg c14]; rfl))
theorem dX0_ofKnights_0 : decode cX0_ofKnights 0 = .ok (.lload_n 0, 1) := by decide +kernel
theorem dX0_ofKnights_1 : decode cX0_ofKnights 1 = .ok (.ldc2_w 25, 3) := by decide +kernel
theorem dX0_ofKnights_4 : decode cX0_ofKnights 4 = .ok (.land, 1) := by decide +kernel
theorem dX0_ofKnights_5 : decode cX0_ofKnights 5 = .ok (.iconst 1, 1) := by decide +kernel
theorem dX0_ofKnights_6 : decode cX0_ofKnights 6 = .ok (.lushr, 1) := by decide +kernel
theorem dX0_ofKnights_7 : decode cX0_ofKnights 7 = .ok (.lstore_n 2, 1) := by decide +kernel
theorem dX0_ofKnights_8 : decode cX0_ofKnights 8 = .ok (.lload_n 0, 1) := by decide +kernel
theorem dX0_ofKnights_9 : decode cX0_ofKnights 9 = .ok (.ldc2_w 27, 3) := by decide +kernel
theorem dX0_ofKnights_12 : decode cX0_ofKnights 12 = .ok (.land, 1) := by decide +kernel
theorem dX0_ofKnights_13 : decode cX0_ofKnights 13 = .ok (.iconst 1, 1) := by decide +kernel
theorem dX0_ofKnights_14 : decode cX0_ofKnights 14 = .ok (.lshl, 1) := by decide +kernel
theorem dX0_ofKnights_15 : decode cX0_ofKnights 15 = .ok (.lstore 4, 2) := by decide +kernel
theorem dX0_ofKnights_17 : decode cX0_ofKnights 17 = .ok (.lload_n 0, 1) := by decide +kernel
theorem dX0_ofKnights_18 : decode cX0_ofKnights 18 = .ok (.ldc2_w 25, 3) := by decide +kernel
theorem dX0_ofKnights_21 : decode cX0_ofKnights 21 = .ok (.land, 1) := by decide +kernel
theorem dX0_ofKnights_22 : decode cX0_ofKnights 22 = .ok (.ldc2_w 29, 3) := by decide +kernel
theorem dX0_ofKnights_25 : decode cX0_ofKnights 25 = .ok (.land, 1) := by decide +kernel
theorem dX0_ofKnights_26 : decode cX0_ofKnights 26 = .ok (.iconst 2, 1) := by decide +kernel
theorem dX0_ofKnights_27 : decode cX0_ofKnights 27 = .ok (.lushr, 1) := by decide +kernel
theorem dX0_ofKnights_28 : decode cX0_ofKnights 28 = .ok (.lstore 6, 2) := by decide +kernel
theorem dX0_ofKnights_30 : decode cX0_ofKnights 30 = .ok (.lload_n 0, 1) := by decide +kernel
theorem dX0_ofKnights_31 : decode cX0_ofKnights 31 = .ok (.ldc2_w 31, 3) := by decide +kernel
theorem dX0_ofKnights_34 : decode cX0_ofKnights 34 = .ok (.land, 1) := by decide +kernel
theorem dX0_ofKnights_35 : decode cX0_ofKnights 35 = .ok (.ldc2_w 27, 3) := by decide +kernel
theorem dX0_ofKnights_38 : decode cX0_ofKnights 38 = .ok (.land, 1) := by decide +kernel
theorem dX0_ofKnights_39 : decode cX0_ofKnights 39 = .ok (.iconst 2, 1) := by decide +kernel
theorem dX0_ofKnights_40 : decode cX0_ofKnights 40 = .ok (.lshl, 1) := by decide +kernel
theorem dX0_ofKnights_41 : decode cX0_ofKnights 41 = .ok (.lstore 8, 2) := by decide +kernel
theorem dX0_ofKnights_43 : decode cX0_ofKnights 43 = .ok (.lload_n 2, 1) := by decide +kernel
theorem dX0_ofKnights_44 : decode cX0_ofKnights 44 = .ok (.lload 4, 2) := by decide +kernel
theorem dX0_ofKnights_46 : decode cX0_ofKnights 46 = .ok (.lor, 1) := by decide +kernel
theorem dX0_ofKnights_47 : decode cX0_ofKnights 47 = .ok (.lstore 10, 2) := by decide +kernel
theorem dX0_ofKnights_49 : decode cX0_ofKnights 49 = .ok (.lload 6, 2) := by decide +kernel
theorem dX0_ofKnights_51 : decode cX0_ofKnights 51 = .ok (.lload 8, 2) := by decide +kernel
theorem dX0_ofKnights_53 : decode cX0_ofKnights 53 = .ok (.lor, 1) := by decide +kernel
theorem dX0_ofKnights_54 : decode cX0_ofKnights 54 = .ok (.lstore 12, 2) := by decide +kernel
theorem dX0_ofKnights_56 : decode cX0_ofKnights 56 = .ok (.lload 10, 2) := by decide +kernel
theorem dX0_ofKnights_58 : decode cX0_ofKnights 58 = .ok (.bipush 16, 2) := by decide +kernel
theorem dX0_ofKnights_60 : decode cX0_ofKnights 60 = .ok (.lshl, 1) := by decide +kernel
theorem dX0_ofKnights_61 : decode cX0_ofKnights 61 = .ok (.lload 10, 2) := by decide +kernel
theorem dX0_ofKnights_63 : decode cX0_ofKnights 63 = .ok (.bipush 16, 2) := by decide +kernel
theorem dX0_ofKnights_65 : decode cX0_ofKnights 65 = .ok (.lushr, 1) := by decide +kernel
theorem dX0_ofKnights_66 : decode cX0_ofKnights 66 = .ok (.lor, 1) := by decide +kernel
theorem dX0_ofKnights_67 : decode cX0_ofKnights 67 = .ok (.lload 12, 2) := by decide +kernel
theorem dX0_ofKnights_69 : decode cX0_ofKnights 69 = .ok (.bipush 8, 2) := by decide +kernel
theorem dX0_ofKnights_71 : decode cX0_ofKnights 71 = .ok (.lshl, 1) := by decide +kernel
theorem dX0_ofKnights_72 : decode cX0_ofKnights 72 = .ok (.lor, 1) := by decide +kernel
theorem dX0_ofKnights_73 : decode cX0_ofKnights 73 = .ok (.lload 12, 2) := by decide +kernel
theorem dX0_ofKnights_75 : decode cX0_ofKnights 75 = .ok (.bipush 8, 2) := by decide +kernel
theorem dX0_ofKnights_77 : decode cX0_ofKnights 77 = .ok (.lushr, 1) := by decide +kernel
theorem dX0_ofKnights_78 : decode cX0_ofKnights 78 = .ok (.lor, 1) := by decide +kernel
theorem dX0_ofKnights_79 : decode cX0_ofKnights 79 = .ok (.lreturn, 1) := by decide +kernel
theorem hd_X0_ofKnights : yX0_ofKnights.cls ≠ "java/lang/invoke/MethodHandle" ∧ yX0_ofKnights.cls ≠ "java/lang/invoke/VarHandle" ∧ (parseMethodDescriptor yX0_ofKnights.desc).map (fun d => d.parameters.length) = some 1 := by decide +kernel
set_option maxHeartbeats 4000000 in
set_option maxRecDepth 100000 in
/-- ofKnights -/
theorem c_X0_ofKnights (l : Launch) (x : Int64) : Met l yX0_ofKnights (Cond.code yX0_ofKnights cX0_ofKnights 14 (some .long) :: wsL_law) (rK 0) (va_Pc [.long x] (fun _ => True)) (vp_Sl (fun r => r = okn x)) 0 0 (fun _ => False) := by
  refine entM (by decide) (Nat.le_of_ble_eq_true rfl) ?_
  intro p e s m below meth c ls S0 hr hlocks hG hnm hB hl
  have hx := S0.1
  have hb := S0.2.1
  have hown := S0.2.2.2.1
  have hl : lv_has ls 14 [(0, .long x)] := hl
  refine lv_lload_n hx hb dX0_ofKnights_0 rfl (lv_at hl 0 rfl) ?_
  refine lv_ldc2 (v := (-72340172838076674)) hx hb hown (hG _ wk_X0_25) dX0_ofKnights_1 ?_
  refine lv_land hx hb dX0_ofKnights_4 ?_
  refine lv_iconst (v := (nI 1)) hx hb dX0_ofKnights_5 (by decide) ?_
  refine lv_lushr (v := bsr (x &&& (-72340172838076674)) (nI 1)) hx hb dX0_ofKnights_6 rfl ?_
  refine lv_lstore_n (lv' := [(2, .long (bsr (x &&& (-72340172838076674)) (nI 1))), (0, .long x)]) hx hb dX0_ofKnights_7 rfl hl (by decide) rfl (fun ls hl => ?_)
  refine lv_lload_n hx hb dX0_ofKnights_8 rfl (lv_at hl 1 rfl) ?_
  refine lv_ldc2 (v := (9187201950435737471)) hx hb hown (hG _ wk_X0_27) dX0_ofKnights_9 ?_
  refine lv_land hx hb dX0_ofKnights_12 ?_
  refine lv_iconst (v := (nI 1)) hx hb dX0_ofKnights_13 (by decide) ?_
  refine lv_lshl (v := bsl (x &&& (9187201950435737471)) (nI 1)) hx hb dX0_ofKnights_14 rfl ?_
  refine lv_lstore (lv' := [(4, .long (bsl (x &&& (9187201950435737471)) (nI 1))), (2, .long (bsr (x &&& (-72340172838076674)) (nI 1))), (0, .long x)]) hx hb dX0_ofKnights_15 hl (by decide) rfl (fun ls hl => ?_)
  refine lv_lload_n hx hb dX0_ofKnights_17 rfl (lv_at hl 2 rfl) ?_
  refine lv_ldc2 (v := (-72340172838076674)) hx hb hown (hG _ wk_X0_25) dX0_ofKnights_18 ?_
  refine lv_land hx hb dX0_ofKnights_21 ?_
  refine lv_ldc2 (v := (-144680345676153347)) hx hb hown (hG _ wk_X0_29) dX0_ofKnights_22 ?_
  refine lv_land hx hb dX0_ofKnights_25 ?_
  refine lv_iconst (v := (nI 2)) hx hb dX0_ofKnights_26 (by decide) ?_
  refine lv_lushr (v := bsr ((x &&& (-72340172838076674)) &&& (-144680345676153347)) (nI 2)) hx hb dX0_ofKnights_27 rfl ?_
  refine lv_lstore (lv' := [(6, .long (bsr ((x &&& (-72340172838076674)) &&& (-144680345676153347)) (nI 2))), (4, .long (bsl (x &&& (9187201950435737471)) (nI 1))), (2, .long (bsr (x &&& (-72340172838076674)) (nI 1))), (0, .long x)]) hx hb dX0_ofKnights_28 hl (by decide) rfl (fun ls hl => ?_)
  refine lv_lload_n hx hb dX0_ofKnights_30 rfl (lv_at hl 3 rfl) ?_
  refine lv_ldc2 (v := (-4629771061636907073)) hx hb hown (hG _ wk_X0_31) dX0_ofKnights_31 ?_
  refine lv_land hx hb dX0_ofKnights_34 ?_
  refine lv_ldc2 (v := (9187201950435737471)) hx hb hown (hG _ wk_X0_27) dX0_ofKnights_35 ?_
  refine lv_land hx hb dX0_ofKnights_38 ?_
  refine lv_iconst (v := (nI 2)) hx hb dX0_ofKnights_39 (by decide) ?_
  refine lv_lshl (v := bsl ((x &&& (-4629771061636907073)) &&& (9187201950435737471)) (nI 2)) hx hb dX0_ofKnights_40 rfl ?_
  refine lv_lstore (lv' := [(8, .long (bsl ((x &&& (-4629771061636907073)) &&& (9187201950435737471)) (nI 2))), (6, .long (bsr ((x &&& (-72340172838076674)) &&& (-144680345676153347)) (nI 2))), (4, .long (bsl (x &&& (9187201950435737471)) (nI 1))), (2, .long (bsr (x &&& (-72340172838076674)) (nI 1))), (0, .long x)]) hx hb dX0_ofKnights_41 hl (by decide) rfl (fun ls hl => ?_)
  refine lv_lload_n hx hb dX0_ofKnights_43 rfl (lv_at hl 3 rfl) ?_
  refine lv_lload hx hb dX0_ofKnights_44 (lv_at hl 2 rfl) ?_
  refine lv_lor hx hb dX0_ofKnights_46 ?_
  refine lv_lstore (lv' := [(10, .long ((bsr (x &&& (-72340172838076674)) (nI 1)) ||| (bsl (x &&& (9187201950435737471)) (nI 1)))), (8, .long (bsl ((x &&& (-4629771061636907073)) &&& (9187201950435737471)) (nI 2))), (6, .long (bsr ((x &&& (-72340172838076674)) &&& (-144680345676153347)) (nI 2))), (4, .long (bsl (x &&& (9187201950435737471)) (nI 1))), (2, .long (bsr (x &&& (-72340172838076674)) (nI 1))), (0, .long x)]) hx hb dX0_ofKnights_47 hl (by decide) rfl (fun ls hl => ?_)
  refine lv_lload hx hb dX0_ofKnights_49 (lv_at hl 2 rfl) ?_
  refine lv_lload hx hb dX0_ofKnights_51 (lv_at hl 1 rfl) ?_
  refine lv_lor hx hb dX0_ofKnights_53 ?_
  refine lv_lstore (lv' := [(12, .long ((bsr ((x &&& (-72340172838076674)) &&& (-144680345676153347)) (nI 2)) ||| (bsl ((x &&& (-4629771061636907073)) &&& (9187201950435737471)) (nI 2)))), (10, .long ((bsr (x &&& (-72340172838076674)) (nI 1)) ||| (bsl (x &&& (9187201950435737471)) (nI 1)))), (8, .long (bsl ((x &&& (-4629771061636907073)) &&& (9187201950435737471)) (nI 2))), (6, .long (bsr ((x &&& (-72340172838076674)) &&& (-144680345676153347)) (nI 2))), (4, .long (bsl (x &&& (9187201950435737471)) (nI 1))), (2, .long (bsr (x &&& (-72340172838076674)) (nI 1))), (0, .long x)]) hx hb dX0_ofKnights_54 hl (by decide) rfl (fun ls hl => ?_)
  refine lv_lload hx hb dX0_ofKnights_56 (lv_at hl 1 rfl) ?_
  refine lv_bipush (v := (nI 16)) hx hb dX0_ofKnights_58 (by decide) ?_
  refine lv_lshl (v := bsl ((bsr (x &&& (-72340172838076674)) (nI 1)) ||| (bsl (x &&& (9187201950435737471)) (nI 1))) (nI 16)) hx hb dX0_ofKnights_60 rfl ?_
  refine lv_lload hx hb dX0_ofKnights_61 (lv_at hl 1 rfl) ?_
  refine lv_bipush (v := (nI 16)) hx hb dX0_ofKnights_63 (by decide) ?_
  refine lv_lushr (v := bsr ((bsr (x &&& (-72340172838076674)) (nI 1)) ||| (bsl (x &&& (9187201950435737471)) (nI 1))) (nI 16)) hx hb dX0_ofKnights_65 rfl ?_
  refine lv_lor hx hb dX0_ofKnights_66 ?_
  refine lv_lload hx hb dX0_ofKnights_67 (lv_at hl 0 rfl) ?_
  refine lv_bipush (v := (nI 8)) hx hb dX0_ofKnights_69 (by decide) ?_
  refine lv_lshl (v := bsl ((bsr ((x &&& (-72340172838076674)) &&& (-144680345676153347)) (nI 2)) ||| (bsl ((x &&& (-4629771061636907073)) &&& (9187201950435737471)) (nI 2))) (nI 8)) hx hb dX0_ofKnights_71 rfl ?_
  refine lv_lor hx hb dX0_ofKnights_72 ?_
  refine lv_lload hx hb dX0_ofKnights_73 (lv_at hl 0 rfl) ?_
  refine lv_bipush (v := (nI 8)) hx hb dX0_ofKnights_75 (by decide) ?_
  refine lv_lushr (v := bsr ((bsr ((x &&& (-72340172838076674)) &&& (-144680345676153347)) (nI 2)) ||| (bsl ((x &&& (-4629771061636907073)) &&& (9187201950435737471)) (nI 2))) (nI 8)) hx hb dX0_ofKnights_77 rfl ?_
  refine lv_lor hx hb dX0_ofKnights_78 ?_
  exact reL hx hb hr hlocks dX0_ofKnights_79 rfl
theorem dX0_ofKings_0 : decode cX0_ofKings 0 = .ok (.lload_n 0, 1) := by decide +kernel
theorem dX0_ofKings_1 : decode cX0_ofKings 1 = .ok (.ldc2_w 25, 3) := by decide +kernel
theorem dX0_ofKings_4 : decode cX0_ofKings 4 = .ok (.land, 1) := by decide +kernel
theorem dX0_ofKings_5 : decode cX0_ofKings 5 = .ok (.iconst 1, 1) := by decide +kernel
theorem dX0_ofKings_6 : decode cX0_ofKings 6 = .ok (.lushr, 1) := by decide +kernel
theorem dX0_ofKings_7 : decode cX0_ofKings 7 = .ok (.lload_n 0, 1) := by decide +kernel
theorem dX0_ofKings_8 : decode cX0_ofKings 8 = .ok (.ldc2_w 27, 3) := by decide +kernel
theorem dX0_ofKings_11 : decode cX0_ofKings 11 = .ok (.land, 1) := by decide +kernel
theorem dX0_ofKings_12 : decode cX0_ofKings 12 = .ok (.iconst 1, 1) := by decide +kernel
theorem dX0_ofKings_13 : decode cX0_ofKings 13 = .ok (.lshl, 1) := by decide +kernel
theorem dX0_ofKings_14 : decode cX0_ofKings 14 = .ok (.lor, 1) := by decide +kernel
theorem dX0_ofKings_15 : decode cX0_ofKings 15 = .ok (.lstore_n 2, 1) := by decide +kernel
theorem dX0_ofKings_16 : decode cX0_ofKings 16 = .ok (.lload_n 0, 1) := by decide +kernel
theorem dX0_ofKings_17 : decode cX0_ofKings 17 = .ok (.lload_n 2, 1) := by decide +kernel
theorem dX0_ofKings_18 : decode cX0_ofKings 18 = .ok (.lor, 1) := by decide +kernel
theorem dX0_ofKings_19 : decode cX0_ofKings 19 = .ok (.lstore 4, 2) := by decide +kernel
theorem dX0_ofKings_21 : decode cX0_ofKings 21 = .ok (.lload_n 2, 1) := by decide +kernel
theorem dX0_ofKings_22 : decode cX0_ofKings 22 = .ok (.lload 4, 2) := by decide +kernel
theorem dX0_ofKings_24 : decode cX0_ofKings 24 = .ok (.bipush 8, 2) := by decide +kernel
theorem dX0_ofKings_26 : decode cX0_ofKings 26 = .ok (.lshl, 1) := by decide +kernel
theorem dX0_ofKings_27 : decode cX0_ofKings 27 = .ok (.lor, 1) := by decide +kernel
theorem dX0_ofKings_28 : decode cX0_ofKings 28 = .ok (.lload 4, 2) := by decide +kernel
theorem dX0_ofKings_30 : decode cX0_ofKings 30 = .ok (.bipush 8, 2) := by decide +kernel
theorem dX0_ofKings_32 : decode cX0_ofKings 32 = .ok (.lushr, 1) := by decide +kernel
theorem dX0_ofKings_33 : decode cX0_ofKings 33 = .ok (.lor, 1) := by decide +kernel
theorem dX0_ofKings_34 : decode cX0_ofKings 34 = .ok (.lreturn, 1) := by decide +kernel
theorem hd_X0_ofKings : yX0_ofKings.cls ≠ "java/lang/invoke/MethodHandle" ∧ yX0_ofKings.cls ≠ "java/lang/invoke/VarHandle" ∧ (parseMethodDescriptor yX0_ofKings.desc).map (fun d => d.parameters.length) = some 1 := by decide +kernel
set_option maxHeartbeats 4000000 in
set_option maxRecDepth 100000 in
/-- ofKings -/
theorem c_X0_ofKings (l : Launch) (x : Int64) : Met l yX0_ofKings (Cond.code yX0_ofKings cX0_ofKings 6 (some .long) :: wsL_law) (rK 0) (va_Pc [.long x] (fun _ => True)) (vp_Sl (fun r => r = okg x)) 0 0 (fun _ => False) := by
  refine entM (by decide) (Nat.le_of_ble_eq_true rfl) ?_
  intro p e s m below meth c ls S0 hr hlocks hG hnm hB hl
  have hx := S0.1
  have hb := S0.2.1
  have hown := S0.2.2.2.1
  have hl : lv_has ls 6 [(0, .long x)] := hl
  refine lv_lload_n hx hb dX0_ofKings_0 rfl (lv_at hl 0 rfl) ?_
  refine lv_ldc2 (v := (-72340172838076674)) hx hb hown (hG _ wk_X0_25) dX0_ofKings_1 ?_
  refine lv_land hx hb dX0_ofKings_4 ?_
  refine lv_iconst (v := (nI 1)) hx hb dX0_ofKings_5 (by decide) ?_
  refine lv_lushr (v := bsr (x &&& (-72340172838076674)) (nI 1)) hx hb dX0_ofKings_6 rfl ?_
  refine lv_lload_n hx hb dX0_ofKings_7 rfl (lv_at hl 0 rfl) ?_
  refine lv_ldc2 (v := (9187201950435737471)) hx hb hown (hG _ wk_X0_27) dX0_ofKings_8 ?_
  refine lv_land hx hb dX0_ofKings_11 ?_
  refine lv_iconst (v := (nI 1)) hx hb dX0_ofKings_12 (by decide) ?_
  refine lv_lshl (v := bsl (x &&& (9187201950435737471)) (nI 1)) hx hb dX0_ofKings_13 rfl ?_
  refine lv_lor hx hb dX0_ofKings_14 ?_
  refine lv_lstore_n (lv' := [(2, .long ((bsr (x &&& (-72340172838076674)) (nI 1)) ||| (bsl (x &&& (9187201950435737471)) (nI 1)))), (0, .long x)]) hx hb dX0_ofKings_15 rfl hl (by decide) rfl (fun ls hl => ?_)
  refine lv_lload_n hx hb dX0_ofKings_16 rfl (lv_at hl 1 rfl) ?_
  refine lv_lload_n hx hb dX0_ofKings_17 rfl (lv_at hl 0 rfl) ?_
  refine lv_lor hx hb dX0_ofKings_18 ?_
  refine lv_lstore (lv' := [(4, .long (x ||| ((bsr (x &&& (-72340172838076674)) (nI 1)) ||| (bsl (x &&& (9187201950435737471)) (nI 1))))), (2, .long ((bsr (x &&& (-72340172838076674)) (nI 1)) ||| (bsl (x &&& (9187201950435737471)) (nI 1)))), (0, .long x)]) hx hb dX0_ofKings_19 hl (by decide) rfl (fun ls hl => ?_)
  refine lv_lload_n hx hb dX0_ofKings_21 rfl (lv_at hl 1 rfl) ?_
  refine lv_lload hx hb dX0_ofKings_22 (lv_at hl 0 rfl) ?_
  refine lv_bipush (v := (nI 8)) hx hb dX0_ofKings_24 (by decide) ?_
  refine lv_lshl (v := bsl (x ||| ((bsr (x &&& (-72340172838076674)) (nI 1)) ||| (bsl (x &&& (9187201950435737471)) (nI 1)))) (nI 8)) hx hb dX0_ofKings_26 rfl ?_
  refine lv_lor hx hb dX0_ofKings_27 ?_
  refine lv_lload hx hb dX0_ofKings_28 (lv_at hl 0 rfl) ?_
  refine lv_bipush (v := (nI 8)) hx hb dX0_ofKings_30 (by decide) ?_
  refine lv_lushr (v := bsr (x ||| ((bsr (x &&& (-72340172838076674)) (nI 1)) ||| (bsl (x &&& (9187201950435737471)) (nI 1)))) (nI 8)) hx hb dX0_ofKings_32 rfl ?_
  refine lv_lor hx hb dX0_ofKings_33 ?_
  exact reL hx hb hr hlocks dX0_ofKings_34 rfl
theorem dX0_ray_0 : decode cX0_ray 0 = .ok (.iload 4, 2) := by decide +kernel
theorem dX0_ray_2 : decode cX0_ray 2 = .ok (.ifCond .lt 10, 3) := by decide +kernel
theorem dX0_ray_5 : decode cX0_ray 5 = .ok (.iload 4, 2) := by decide +kernel
theorem dX0_ray_7 : decode cX0_ray 7 = .ok (.bipush 8, 2) := by decide +kernel
theorem dX0_ray_9 : decode cX0_ray 9 = .ok (.if_icmp .lt 5, 3) := by decide +kernel
theorem dX0_ray_12 : decode cX0_ray 12 = .ok (.lconst 0, 1) := by decide +kernel
theorem dX0_ray_13 : decode cX0_ray 13 = .ok (.lreturn, 1) := by decide +kernel
theorem dX0_ray_14 : decode cX0_ray 14 = .ok (.getstatic 11, 3) := by decide +kernel
theorem dX0_ray_17 : decode cX0_ray 17 = .ok (.iload 4, 2) := by decide +kernel
theorem dX0_ray_19 : decode cX0_ray 19 = .ok (.iaload, 1) := by decide +kernel
theorem dX0_ray_20 : decode cX0_ray 20 = .ok (.istore 5, 2) := by decide +kernel
theorem dX0_ray_22 : decode cX0_ray 22 = .ok (.getstatic 15, 3) := by decide +kernel
theorem dX0_ray_25 : decode cX0_ray 25 = .ok (.iload 4, 2) := by decide +kernel
theorem dX0_ray_27 : decode cX0_ray 27 = .ok (.laload, 1) := by decide +kernel
theorem dX0_ray_28 : decode cX0_ray 28 = .ok (.lstore 6, 2) := by decide +kernel
theorem dX0_ray_30 : decode cX0_ray 30 = .ok (.lload_n 0, 1) := by decide +kernel
theorem dX0_ray_31 : decode cX0_ray 31 = .ok (.lstore 8, 2) := by decide +kernel
theorem dX0_ray_33 : decode cX0_ray 33 = .ok (.lconst 0, 1) := by decide +kernel
theorem dX0_ray_34 : decode cX0_ray 34 = .ok (.lstore 10, 2) := by decide +kernel
theorem dX0_ray_36 : decode cX0_ray 36 = .ok (.iconst 0, 1) := by decide +kernel
theorem dX0_ray_37 : decode cX0_ray 37 = .ok (.istore 12, 2) := by decide +kernel
theorem dX0_ray_39 : decode cX0_ray 39 = .ok (.iload 12, 2) := by decide +kernel
theorem dX0_ray_41 : decode cX0_ray 41 = .ok (.bipush 7, 2) := by decide +kernel
theorem dX0_ray_43 : decode cX0_ray 43 = .ok (.if_icmp .ge 61, 3) := by decide +kernel
theorem dX0_ray_46 : decode cX0_ray 46 = .ok (.lload 8, 2) := by decide +kernel
theorem dX0_ray_48 : decode cX0_ray 48 = .ok (.lconst 0, 1) := by decide +kernel
theorem dX0_ray_49 : decode cX0_ray 49 = .ok (.lcmp, 1) := by decide +kernel
theorem dX0_ray_50 : decode cX0_ray 50 = .ok (.ifCond .eq 54, 3) := by decide +kernel
theorem dX0_ray_53 : decode cX0_ray 53 = .ok (.lload 8, 2) := by decide +kernel
theorem dX0_ray_55 : decode cX0_ray 55 = .ok (.lload 6, 2) := by decide +kernel
theorem dX0_ray_57 : decode cX0_ray 57 = .ok (.land, 1) := by decide +kernel
theorem dX0_ray_58 : decode cX0_ray 58 = .ok (.lstore 8, 2) := by decide +kernel
theorem dX0_ray_60 : decode cX0_ray 60 = .ok (.iload 5, 2) := by decide +kernel
theorem dX0_ray_62 : decode cX0_ray 62 = .ok (.ifCond .le 11, 3) := by decide +kernel
theorem dX0_ray_65 : decode cX0_ray 65 = .ok (.lload 8, 2) := by decide +kernel
theorem dX0_ray_67 : decode cX0_ray 67 = .ok (.iload 5, 2) := by decide +kernel
theorem dX0_ray_69 : decode cX0_ray 69 = .ok (.lshl, 1) := by decide +kernel
theorem dX0_ray_70 : decode cX0_ray 70 = .ok (.goto 9, 3) := by decide +kernel
theorem dX0_ray_73 : decode cX0_ray 73 = .ok (.lload 8, 2) := by decide +kernel
theorem dX0_ray_75 : decode cX0_ray 75 = .ok (.iload 5, 2) := by decide +kernel
theorem dX0_ray_77 : decode cX0_ray 77 = .ok (.ineg, 1) := by decide +kernel
theorem dX0_ray_78 : decode cX0_ray 78 = .ok (.lushr, 1) := by decide +kernel
theorem dX0_ray_79 : decode cX0_ray 79 = .ok (.lstore 8, 2) := by decide +kernel
theorem dX0_ray_81 : decode cX0_ray 81 = .ok (.lload 10, 2) := by decide +kernel
theorem dX0_ray_83 : decode cX0_ray 83 = .ok (.lload 8, 2) := by decide +kernel
theorem dX0_ray_85 : decode cX0_ray 85 = .ok (.lor, 1) := by decide +kernel
theorem dX0_ray_86 : decode cX0_ray 86 = .ok (.lstore 10, 2) := by decide +kernel
theorem dX0_ray_88 : decode cX0_ray 88 = .ok (.lload 8, 2) := by decide +kernel
theorem dX0_ray_90 : decode cX0_ray 90 = .ok (.lload_n 2, 1) := by decide +kernel
theorem dX0_ray_91 : decode cX0_ray 91 = .ok (.ldc2_w 19, 3) := by decide +kernel
theorem dX0_ray_94 : decode cX0_ray 94 = .ok (.lxor, 1) := by decide +kernel
theorem dX0_ray_95 : decode cX0_ray 95 = .ok (.land, 1) := by decide +kernel
theorem dX0_ray_96 : decode cX0_ray 96 = .ok (.lstore 8, 2) := by decide +kernel
theorem dX0_ray_98 : decode cX0_ray 98 = .ok (.iinc 12 1, 3) := by decide +kernel
theorem dX0_ray_101 : decode cX0_ray 101 = .ok (.goto (-62), 3) := by decide +kernel
theorem dX0_ray_104 : decode cX0_ray 104 = .ok (.lload 10, 2) := by decide +kernel
theorem dX0_ray_106 : decode cX0_ray 106 = .ok (.lreturn, 1) := by decide +kernel
theorem hd_X0_ray : yX0_ray.cls ≠ "java/lang/invoke/MethodHandle" ∧ yX0_ray.cls ≠ "java/lang/invoke/VarHandle" ∧ (parseMethodDescriptor yX0_ray.desc).map (fun d => d.parameters.length) = some 3 := by decide +kernel
set_option maxHeartbeats 4000000 in
set_option maxRecDepth 100000 in
/-- ray -/
theorem c_X0_ray (l : Launch) {A : Nat → Prop} (x y : Int64) (w : Nat) (hw : w < 8) : Met l yX0_ray (Cond.code yX0_ray cX0_ray 13 (some .long) :: wsL_law) (rK 0) (va_Pc [.long x, .long y, .int (nI w)] (fun U => EV A U U.heap)) (vp_Sl (fun r => r = ray x y w)) 0 0 (fun _ => False) := by
  refine entM (by decide) (Nat.le_of_ble_eq_true rfl) ?_
  intro p e s m below meth c ls S0 hr hlocks hG hnm hB hl
  have hx := S0.1
  have hb := S0.2.1
  have hown := S0.2.2.2.1
  have hl : lv_has ls 13 [(0, .long x), (2, .long y), (4, .int (nI w))] := hl
  have hE := hB
  obtain ⟨tS, hZ_tS, hT_tS⟩ := hE.2.1
  obtain ⟨tI, hZ_tI, hT_tI⟩ := hE.2.2.1
  refine lv_iload hx hb dX0_ray_0 (lv_at hl 2 rfl) ?_
  refine ln_if_lt (tgt := 12) hx hb dX0_ray_2 (by decide) (by omega) ?_
  refine lv_iload hx hb dX0_ray_5 (lv_at hl 2 rfl) ?_
  refine lv_bipush (v := (nI 8)) hx hb dX0_ray_7 (by decide) ?_
  refine ln_icmp_lt (tgt := 14) hx hb dX0_ray_9 (by decide) (by omega) (by decide) (fun c9 => ?_) (fun c9 => ?_)
  · skip
    refine va_gets hx hb hZ_tS va_S.rf hown (hG _ wf_X0_11) (fun _ h9 => h9) dX0_ray_14 ?_
    refine lv_iload hx hb dX0_ray_17 (lv_at hl 2 rfl) ?_
    refine va_ti (v := .int (stL.getD w 0)) hx hb hT_tS va_S.rf (vp_in_nI (by omega) (by decide)) (congrArg stF (nI_clamp (by omega))) dX0_ray_19 ?_
    refine lv_istore (lv' := [(5, .int (stL.getD w 0)), (0, .long x), (2, .long y), (4, .int (nI w))]) hx hb dX0_ray_20 hl (by decide) rfl (fun ls hl => ?_)
    refine va_gets hx hb hZ_tI va_S.rf hown (hG _ wf_X0_15) (fun _ h9 => h9) dX0_ray_22 ?_
    refine lv_iload hx hb dX0_ray_25 (lv_at hl 3 rfl) ?_
    refine va_tl (v := .long (inL.getD w 0)) hx hb hT_tI va_S.rf (vp_in_nI (by omega) (by decide)) (congrArg inF (nI_clamp (by omega))) dX0_ray_27 ?_
    refine lv_lstore (lv' := [(6, .long (inL.getD w 0)), (5, .int (stL.getD w 0)), (0, .long x), (2, .long y), (4, .int (nI w))]) hx hb dX0_ray_28 hl (by decide) rfl (fun ls hl => ?_)
    refine lv_lload_n hx hb dX0_ray_30 rfl (lv_at hl 2 rfl) ?_
    refine W.top (y := .long ((rayS x y w 0).1)) (congrArg Value.long rfl) ?_
    refine lv_lstore (lv' := [(8, .long ((rayS x y w 0).1)), (6, .long (inL.getD w 0)), (5, .int (stL.getD w 0)), (0, .long x), (2, .long y), (4, .int (nI w))]) hx hb dX0_ray_31 hl (by decide) rfl (fun ls hl => ?_)
    refine lv_lconst (v := 0) hx hb dX0_ray_33 (by decide) ?_
    refine W.top (y := .long ((rayS x y w 0).2)) (congrArg Value.long rfl) ?_
    refine lv_lstore (lv' := [(10, .long ((rayS x y w 0).2)), (8, .long ((rayS x y w 0).1)), (6, .long (inL.getD w 0)), (5, .int (stL.getD w 0)), (0, .long x), (2, .long y), (4, .int (nI w))]) hx hb dX0_ray_34 hl (by decide) rfl (fun ls hl => ?_)
    refine lv_iconst (v := (nI 0)) hx hb dX0_ray_36 (by decide) ?_
    refine lv_istore (lv' := [(12, .int (nI 0)), (10, .long ((rayS x y w 0).2)), (8, .long ((rayS x y w 0).1)), (6, .long (inL.getD w 0)), (5, .int (stL.getD w 0)), (0, .long x), (2, .long y), (4, .int (nI w))]) hx hb dX0_ray_37 hl (by decide) rfl (fun ls hl => ?_)
    refine lpR (σ := (Nat)) 39 13 [] (fun x9 => [(2, .long y), (4, .int (nI w)), (5, .int (stL.getD w 0)), (6, .long (inL.getD w 0)), (8, .long ((rayS x y w x9).1)), (10, .long ((rayS x y w x9).2)), (12, .int (nI x9))]) (fun x9 => x9 ≤ 7) (fun x9 => 7 - x9) 0 (Nat.zero_le _) (lv_sub hl [6, 7, 4, 3, 2, 1, 0] rfl) ?_
    clear hl ls
    rintro i hI ih_39 ls hl
    try dsimp only at hI ih_39 hl
    refine lv_iload hx hb dX0_ray_39 (lv_at hl 6 rfl) ?_
    refine lv_bipush (v := (nI 7)) hx hb dX0_ray_41 (by decide) ?_
    refine ln_icmp_ge (tgt := 104) hx hb dX0_ray_43 (by decide) (by omega) (by decide) (fun c43 => ?_) (fun c43 => ?_)
    · skip
      refine lv_lload hx hb dX0_ray_104 (lv_at hl 5 rfl) ?_
      exact reL hx hb hr hlocks dX0_ray_106 (by unfold ray; first | (rw [show i = 7 by omega]) | (obtain ⟨j9, e9⟩ : ∃ j, 7 = i + j := ⟨7 - i, by omega⟩; rw [e9, (rayS_0 hw c50 j9).2]))
    · skip
      refine lv_lload hx hb dX0_ray_46 (lv_at hl 4 rfl) ?_
      refine lv_lconst (v := 0) hx hb dX0_ray_48 (by decide) ?_
      refine W.lcmp hx hb dX0_ray_49 ?_
      refine lc_if_eq (tgt := 104) hx hb dX0_ray_50 (by decide) (fun c50 => ?_) (fun c50 => ?_)
      · skip
        refine lv_lload hx hb dX0_ray_104 (lv_at hl 5 rfl) ?_
        exact reL hx hb hr hlocks dX0_ray_106 (by unfold ray; first | (rw [show i = 7 by omega]) | (obtain ⟨j9, e9⟩ : ∃ j, 7 = i + j := ⟨7 - i, by omega⟩; rw [e9, (rayS_0 hw c50 j9).2]))
      · skip
        refine lv_lload hx hb dX0_ray_53 (lv_at hl 4 rfl) ?_
        refine lv_lload hx hb dX0_ray_55 (lv_at hl 3 rfl) ?_
        refine lv_land hx hb dX0_ray_57 ?_
        refine lv_lstore (lv' := [(8, .long (((rayS x y w i).1) &&& (inL.getD w 0))), (2, .long y), (4, .int (nI w)), (5, .int (stL.getD w 0)), (6, .long (inL.getD w 0)), (10, .long ((rayS x y w i).2)), (12, .int (nI i))]) hx hb dX0_ray_58 hl (by decide) rfl (fun ls hl => ?_)
        refine lv_iload hx hb dX0_ray_60 (lv_at hl 3 rfl) ?_
        refine jnG 79 13 [(8, .long (((rayS x y w i).1) &&& (inL.getD w 0))), (2, .long y), (4, .int (nI w)), (5, .int (stL.getD w 0)), (6, .long (inL.getD w 0)), (10, .long ((rayS x y w i).2)), (12, .int (nI i))] [.long (shW w ((rayS x y w i).1 &&& inL.getD w 0))] ?_ (fun hj_79 => ?_)
        · intro ls hl
          refine lv_lstore (lv' := [(8, .long (shW w ((rayS x y w i).1 &&& inL.getD w 0))), (2, .long y), (4, .int (nI w)), (5, .int (stL.getD w 0)), (6, .long (inL.getD w 0)), (10, .long ((rayS x y w i).2)), (12, .int (nI i))]) hx hb dX0_ray_79 hl (by decide) rfl (fun ls hl => ?_)
          refine lv_lload hx hb dX0_ray_81 (lv_at hl 5 rfl) ?_
          refine lv_lload hx hb dX0_ray_83 (lv_at hl 0 rfl) ?_
          refine lv_lor hx hb dX0_ray_85 ?_
          refine W.top (y := .long ((rayS x y w (i + 1)).2)) (congrArg Value.long rfl) ?_
          refine lv_lstore (lv' := [(10, .long ((rayS x y w (i + 1)).2)), (8, .long (shW w ((rayS x y w i).1 &&& inL.getD w 0))), (2, .long y), (4, .int (nI w)), (5, .int (stL.getD w 0)), (6, .long (inL.getD w 0)), (12, .int (nI i))]) hx hb dX0_ray_86 hl (by decide) rfl (fun ls hl => ?_)
          refine lv_lload hx hb dX0_ray_88 (lv_at hl 1 rfl) ?_
          refine lv_lload_n hx hb dX0_ray_90 rfl (lv_at hl 2 rfl) ?_
          refine lv_ldc2 (v := (-1)) hx hb hown (hG _ wk_X0_19) dX0_ray_91 ?_
          refine lv_lxor hx hb dX0_ray_94 ?_
          refine lv_land hx hb dX0_ray_95 ?_
          refine W.top (y := .long ((rayS x y w (i + 1)).1)) (congrArg Value.long rfl) ?_
          refine lv_lstore (lv' := [(8, .long ((rayS x y w (i + 1)).1)), (10, .long ((rayS x y w (i + 1)).2)), (2, .long y), (4, .int (nI w)), (5, .int (stL.getD w 0)), (6, .long (inL.getD w 0)), (12, .int (nI i))]) hx hb dX0_ray_96 hl (by decide) rfl (fun ls hl => ?_)
          refine lv_iinc (v := (nI (i + 1))) (lv' := [(12, .int (nI (i + 1))), (8, .long ((rayS x y w (i + 1)).1)), (10, .long ((rayS x y w (i + 1)).2)), (2, .long y), (4, .int (nI w)), (5, .int (stL.getD w 0)), (6, .long (inL.getD w 0))]) hx hb dX0_ray_98 hl (k := 6) rfl (show nI i + Int32.ofInt 1 = nI (i + 1) from nI_add _ 1) (by decide) rfl (fun ls hl => ?_)
          refine lv_goto (tgt := 39) hx hb dX0_ray_101 (by decide) ?_
          exact ih_39 (i + 1) (by omega) (by (try dsimp only); omega) ls (lv_sub hl [3, 4, 5, 6, 1, 2, 0] rfl)
        · skip
          refine lv_if_le (tgt := 73) hx hb dX0_ray_62 (by decide) (fun c62 => ?_) (fun c62 => ?_)
          · skip
            refine lv_lload hx hb dX0_ray_73 (lv_at hl 0 rfl) ?_
            refine lv_iload hx hb dX0_ray_75 (lv_at hl 3 rfl) ?_
            refine lv_ineg hx hb dX0_ray_77 ?_
            refine lv_lushr (v := bsr (((rayS x y w i).1) &&& (inL.getD w 0)) (-(stL.getD w 0))) hx hb dX0_ray_78 rfl ?_
            refine W.top (y := .long (shW w ((rayS x y w i).1 &&& inL.getD w 0))) (congrArg Value.long (by unfold shW; first | rw [if_pos c62] | rw [if_neg c62])) ?_
            exact hj_79 ls (lv_sub hl [0, 1, 2, 3, 4, 5, 6] rfl)
          · skip
            refine lv_lload hx hb dX0_ray_65 (lv_at hl 0 rfl) ?_
            refine lv_iload hx hb dX0_ray_67 (lv_at hl 3 rfl) ?_
            refine lv_lshl (v := bsl (((rayS x y w i).1) &&& (inL.getD w 0)) (stL.getD w 0)) hx hb dX0_ray_69 rfl ?_
            refine lv_goto (tgt := 79) hx hb dX0_ray_70 (by decide) ?_
            refine W.top (y := .long (shW w ((rayS x y w i).1 &&& inL.getD w 0))) (congrArg Value.long (by unfold shW; first | rw [if_pos c62] | rw [if_neg c62])) ?_
            exact hj_79 ls (lv_sub hl [0, 1, 2, 3, 4, 5, 6] rfl)
  · skip
    refine lv_lconst (v := 0) hx hb dX0_ray_12 (by decide) ?_
    exact reL hx hb hr hlocks dX0_ray_13 (absurd hw c9)
theorem dX0_slide_0 : decode cX0_slide 0 = .ok (.iload_n 0, 1) := by decide +kernel
theorem dX0_slide_1 : decode cX0_slide 1 = .ok (.iconst 3, 1) := by decide +kernel
theorem dX0_slide_2 : decode cX0_slide 2 = .ok (.if_icmp .ne 7, 3) := by decide +kernel
theorem dX0_slide_5 : decode cX0_slide 5 = .ok (.iconst 4, 1) := by decide +kernel
theorem dX0_slide_6 : decode cX0_slide 6 = .ok (.goto 4, 3) := by decide +kernel
theorem dX0_slide_9 : decode cX0_slide 9 = .ok (.iconst 0, 1) := by decide +kernel
theorem dX0_slide_10 : decode cX0_slide 10 = .ok (.istore 5, 2) := by decide +kernel
theorem dX0_slide_12 : decode cX0_slide 12 = .ok (.iload_n 0, 1) := by decide +kernel
theorem dX0_slide_13 : decode cX0_slide 13 = .ok (.iconst 4, 1) := by decide +kernel
theorem dX0_slide_14 : decode cX0_slide 14 = .ok (.if_icmp .ne 7, 3) := by decide +kernel
theorem dX0_slide_17 : decode cX0_slide 17 = .ok (.iconst 4, 1) := by decide +kernel
theorem dX0_slide_18 : decode cX0_slide 18 = .ok (.goto 5, 3) := by decide +kernel
theorem dX0_slide_21 : decode cX0_slide 21 = .ok (.bipush 8, 2) := by decide +kernel
theorem dX0_slide_23 : decode cX0_slide 23 = .ok (.istore 6, 2) := by decide +kernel
theorem dX0_slide_25 : decode cX0_slide 25 = .ok (.lconst 0, 1) := by decide +kernel
theorem dX0_slide_26 : decode cX0_slide 26 = .ok (.lstore 7, 2) := by decide +kernel
theorem dX0_slide_28 : decode cX0_slide 28 = .ok (.iload 5, 2) := by decide +kernel
theorem dX0_slide_30 : decode cX0_slide 30 = .ok (.istore 9, 2) := by decide +kernel
theorem dX0_slide_32 : decode cX0_slide 32 = .ok (.iload 9, 2) := by decide +kernel
theorem dX0_slide_34 : decode cX0_slide 34 = .ok (.iload 6, 2) := by decide +kernel
theorem dX0_slide_36 : decode cX0_slide 36 = .ok (.if_icmp .ge 21, 3) := by decide +kernel
theorem dX0_slide_39 : decode cX0_slide 39 = .ok (.lload 7, 2) := by decide +kernel
theorem dX0_slide_41 : decode cX0_slide 41 = .ok (.lload_n 1, 1) := by decide +kernel
theorem dX0_slide_42 : decode cX0_slide 42 = .ok (.lload_n 3, 1) := by decide +kernel
theorem dX0_slide_43 : decode cX0_slide 43 = .ok (.iload 9, 2) := by decide +kernel
theorem dX0_slide_45 : decode cX0_slide 45 = .ok (.invokestatic 21, 3) := by decide +kernel
theorem dX0_slide_48 : decode cX0_slide 48 = .ok (.lor, 1) := by decide +kernel
theorem dX0_slide_49 : decode cX0_slide 49 = .ok (.lstore 7, 2) := by decide +kernel
theorem dX0_slide_51 : decode cX0_slide 51 = .ok (.iinc 9 1, 3) := by decide +kernel
theorem dX0_slide_54 : decode cX0_slide 54 = .ok (.goto (-22), 3) := by decide +kernel
theorem dX0_slide_57 : decode cX0_slide 57 = .ok (.lload 7, 2) := by decide +kernel
theorem dX0_slide_59 : decode cX0_slide 59 = .ok (.lreturn, 1) := by decide +kernel
theorem hd_X0_slide : yX0_slide.cls ≠ "java/lang/invoke/MethodHandle" ∧ yX0_slide.cls ≠ "java/lang/invoke/VarHandle" ∧ (parseMethodDescriptor yX0_slide.desc).map (fun d => d.parameters.length) = some 3 := by decide +kernel
set_option maxHeartbeats 4000000 in
set_option maxRecDepth 100000 in
/-- slide -/
theorem c_X0_slide (l : Launch) {A : Nat → Prop} (k : Nat) (hk : k < 13) (x y : Int64) : Met l yX0_slide (Cond.code yX0_slide cX0_slide 10 (some .long) :: wsL_law) (rK 1) (va_Pc [.int (nI k), .long x, .long y] (fun U => EV A U U.heap)) (vp_Sl (fun r => r = sld k x y)) 0 0 (fun _ => False) := by
  refine entM (by decide) (Nat.le_of_ble_eq_true rfl) ?_
  intro p e s m below meth c ls S0 hr hlocks hG hnm hB hl
  have hx := S0.1
  have hb := S0.2.1
  have hown := S0.2.2.2.1
  have hl : lv_has ls 10 [(0, .int (nI k)), (1, .long x), (3, .long y)] := hl
  have hE := hB
  have hS : va_S A s.heap s.heap [] := va_S.rf
  have ha9 : (if k = 3 then 4 else 0) < 5 := by split <;> omega
  have he9 : (if k = 4 then 4 else 8) < 9 := by split <;> omega
  have hae : (if k = 3 then 4 else 0) ≤ (if k = 4 then 4 else 8) := by split <;> split <;> omega
  refine lv_iload_n hx hb dX0_slide_0 rfl (lv_at hl 0 rfl) ?_
  refine lv_iconst (v := (nI 3)) hx hb dX0_slide_1 (by decide) ?_
  refine jnG 10 10 [(0, .int (nI k)), (1, .long x), (3, .long y)] [.int (nI (if k = 3 then 4 else 0))] ?_ (fun hj_10 => ?_)
  · intro ls hl
    refine lv_istore (lv' := [(5, .int (nI (if k = 3 then 4 else 0))), (0, .int (nI k)), (1, .long x), (3, .long y)]) hx hb dX0_slide_10 hl (by decide) rfl (fun ls hl => ?_)
    refine lv_iload_n hx hb dX0_slide_12 rfl (lv_at hl 1 rfl) ?_
    refine lv_iconst (v := (nI 4)) hx hb dX0_slide_13 (by decide) ?_
    refine jnG 23 10 [(5, .int (nI (if k = 3 then 4 else 0))), (0, .int (nI k)), (1, .long x), (3, .long y)] [.int (nI (if k = 4 then 4 else 8))] ?_ (fun hj_23 => ?_)
    · intro ls hl
      refine lv_istore (lv' := [(6, .int (nI (if k = 4 then 4 else 8))), (5, .int (nI (if k = 3 then 4 else 0))), (0, .int (nI k)), (1, .long x), (3, .long y)]) hx hb dX0_slide_23 hl (by decide) rfl (fun ls hl => ?_)
      refine lv_lconst (v := 0) hx hb dX0_slide_25 (by decide) ?_
      refine W.top (y := .long (slN x y (if k = 3 then 4 else 0) 0)) (congrArg Value.long rfl) ?_
      refine lv_lstore (lv' := [(7, .long (slN x y (if k = 3 then 4 else 0) 0)), (6, .int (nI (if k = 4 then 4 else 8))), (5, .int (nI (if k = 3 then 4 else 0))), (0, .int (nI k)), (1, .long x), (3, .long y)]) hx hb dX0_slide_26 hl (by decide) rfl (fun ls hl => ?_)
      refine lv_iload hx hb dX0_slide_28 (lv_at hl 2 rfl) ?_
      refine W.top (y := .int (nI ((if k = 3 then 4 else 0) + 0))) (congrArg Value.int rfl) ?_
      refine lv_istore (lv' := [(9, .int (nI ((if k = 3 then 4 else 0) + 0))), (7, .long (slN x y (if k = 3 then 4 else 0) 0)), (6, .int (nI (if k = 4 then 4 else 8))), (5, .int (nI (if k = 3 then 4 else 0))), (0, .int (nI k)), (1, .long x), (3, .long y)]) hx hb dX0_slide_30 hl (by decide) rfl (fun ls hl => ?_)
      refine lpR (σ := (Nat)) 32 10 [] (fun x9 => [(1, .long x), (3, .long y), (6, .int (nI (if k = 4 then 4 else 8))), (7, .long (slN x y (if k = 3 then 4 else 0) x9)), (9, .int (nI ((if k = 3 then 4 else 0) + x9)))]) (fun x9 => x9 ≤ (if k = 4 then 4 else 8) - (if k = 3 then 4 else 0)) (fun x9 => (if k = 4 then 4 else 8) - x9) 0 (Nat.zero_le _) (lv_sub hl [5, 6, 2, 1, 0] rfl) ?_
      clear hl ls
      rintro i hI ih_32 ls hl
      try dsimp only at hI ih_32 hl
      refine lv_iload hx hb dX0_slide_32 (lv_at hl 4 rfl) ?_
      refine lv_iload hx hb dX0_slide_34 (lv_at hl 2 rfl) ?_
      refine ln_icmp_ge (tgt := 57) hx hb dX0_slide_36 (by decide) (by omega) (by omega) (fun c36 => ?_) (fun c36 => ?_)
      · skip
        refine lv_lload hx hb dX0_slide_57 (lv_at hl 3 rfl) ?_
        exact reL hx hb hr hlocks dX0_slide_59 (by unfold sld; rw [show i = (if k = 4 then 4 else 8) - (if k = 3 then 4 else 0) by omega])
      · skip
        refine lv_lload hx hb dX0_slide_39 (lv_at hl 3 rfl) ?_
        refine lv_lload_n hx hb dX0_slide_41 rfl (lv_at hl 0 rfl) ?_
        refine lv_lload_n hx hb dX0_slide_42 rfl (lv_at hl 1 rfl) ?_
        refine lv_iload hx hb dX0_slide_43 (lv_at hl 4 rfl) ?_
        refine roL (rnS (As := [.long x, .long y, .int (nI ((if k = 3 then 4 else 0) + i))]) (rest := [.long (slN x y (if k = 3 then 4 else 0) i)]) S0 (c_X0_ray l x y ((if k = 3 then 4 else 0) + i) (by omega)) wm_X0_21 wt_X0_ray wn_X0 wc_X0_ray hd_X0_ray ⟨rfl, rfl, by decide, by decide⟩ EV.blind (EV.at hE hS) hl.1 (Nat.le_of_ble_eq_true rfl) dX0_slide_45 rfl ⟨by decide, by decide⟩) (fun r_1 hr_1 => ?_)
        subst hr_1
        refine lv_lor hx hb dX0_slide_48 ?_
        refine W.top (y := .long (slN x y (if k = 3 then 4 else 0) (i + 1))) (congrArg Value.long rfl) ?_
        refine lv_lstore (lv' := [(7, .long (slN x y (if k = 3 then 4 else 0) (i + 1))), (1, .long x), (3, .long y), (6, .int (nI (if k = 4 then 4 else 8))), (9, .int (nI ((if k = 3 then 4 else 0) + i)))]) hx hb dX0_slide_49 hl (by decide) rfl (fun ls hl => ?_)
        refine lv_iinc (v := (nI (((if k = 3 then 4 else 0) + i) + 1))) (lv' := [(9, .int (nI (((if k = 3 then 4 else 0) + i) + 1))), (7, .long (slN x y (if k = 3 then 4 else 0) (i + 1))), (1, .long x), (3, .long y), (6, .int (nI (if k = 4 then 4 else 8)))]) hx hb dX0_slide_51 hl (k := 4) rfl (show nI ((if k = 3 then 4 else 0) + i) + Int32.ofInt 1 = nI (((if k = 3 then 4 else 0) + i) + 1) from nI_add _ 1) (by decide) rfl (fun ls hl => ?_)
        refine lv_goto (tgt := 32) hx hb dX0_slide_54 (by decide) ?_
        exact ih_32 (i + 1) (by omega) (by (try dsimp only); omega) ls (lv_sub hl [2, 3, 4, 1, 0] rfl)
    · skip
      refine ln_icmp_ne (tgt := 21) hx hb dX0_slide_14 (by decide) (by omega) (by decide) (fun c14 => ?_) (fun c14 => ?_)
      · skip
        refine lv_bipush (v := (nI 8)) hx hb dX0_slide_21 (by decide) ?_
        refine W.top (y := .int (nI (if k = 4 then 4 else 8))) (congrArg Value.int (congrArg nI (by first | rw [if_pos c14] | rw [if_neg c14]))) ?_
        exact hj_23 ls (lv_sub hl [0, 1, 2, 3] rfl)
      · skip
        refine lv_iconst (v := (nI 4)) hx hb dX0_slide_17 (by decide) ?_
        refine lv_goto (tgt := 23) hx hb dX0_slide_18 (by decide) ?_
        refine W.top (y := .int (nI (if k = 4 then 4 else 8))) (congrArg Value.int (congrArg nI (by first | rw [if_pos c14] | rw [if_neg c14]))) ?_
        exact hj_23 ls (lv_sub hl [0, 1, 2, 3] rfl)
  · skip
    refine ln_icmp_ne (tgt := 9) hx hb dX0_slide_2 (by decide) (by omega) (by decide) (fun c2 => ?_) (fun c2 => ?_)
    · skip
      refine lv_iconst (v := (nI 0)) hx hb dX0_slide_9 (by decide) ?_
      refine W.top (y := .int (nI (if k = 3 then 4 else 0))) (congrArg Value.int (congrArg nI (by first | rw [if_pos c2] | rw [if_neg c2]))) ?_
      exact hj_10 ls (lv_sub hl [0, 1, 2] rfl)
    · skip
      refine lv_iconst (v := (nI 4)) hx hb dX0_slide_5 (by decide) ?_
      refine lv_goto (tgt := 10) hx hb dX0_slide_6 (by decide) ?_
      refine W.top (y := .int (nI (if k = 3 then 4 else 0))) (congrArg Value.int (congrArg nI (by first | rw [if_pos c2] | rw [if_neg c2]))) ?_
      exact hj_10 ls (lv_sub hl [0, 1, 2] rfl)

theorem dX5_isSquare_0 : decode cX5_isSquare 0 = .ok (.iload_n 0, 1) := by decide +kernel
theorem dX5_isSquare_1 : decode cX5_isSquare 1 = .ok (.ifCond .lt 13, 3) := by decide +kernel
theorem dX5_isSquare_4 : decode cX5_isSquare 4 = .ok (.iload_n 0, 1) := by decide +kernel
theorem dX5_isSquare_5 : decode cX5_isSquare 5 = .ok (.bipush 64, 2) := by decide +kernel
theorem dX5_isSquare_7 : decode cX5_isSquare 7 = .ok (.if_icmp .ge 7, 3) := by decide +kernel
theorem dX5_isSquare_10 : decode cX5_isSquare 10 = .ok (.iconst 1, 1) := by decide +kernel
theorem dX5_isSquare_11 : decode cX5_isSquare 11 = .ok (.goto 4, 3) := by decide +kernel
theorem dX5_isSquare_14 : decode cX5_isSquare 14 = .ok (.iconst 0, 1) := by decide +kernel
theorem dX5_isSquare_15 : decode cX5_isSquare 15 = .ok (.ireturn, 1) := by decide +kernel
theorem hd_X5_isSquare : yX5_isSquare.cls ≠ "java/lang/invoke/MethodHandle" ∧ yX5_isSquare.cls ≠ "java/lang/invoke/VarHandle" ∧ (parseMethodDescriptor yX5_isSquare.desc).map (fun d => d.parameters.length) = some 1 := by decide +kernel
set_option maxHeartbeats 4000000 in
set_option maxRecDepth 100000 in
/-- isSquare -/
theorem c_X5_isSquare (l : Launch) (x : Int32) : Met l yX5_isSquare (Cond.code yX5_isSquare cX5_isSquare 1 (some .boolean) :: wsL_law) (rK 0) (va_Pc [.int x] (fun _ => True)) (vp_Si (fun r => r = bI (isq x))) 0 0 (fun _ => False) := by
  refine entM (by decide) (Nat.le_of_ble_eq_true rfl) ?_
  intro p e s m below meth c ls S0 hr hlocks hG hnm hB hl
  have hx := S0.1
  have hb := S0.2.1
  have hown := S0.2.2.2.1
  have hl : lv_has ls 1 [(0, .int x)] := hl
  refine lv_iload_n hx hb dX5_isSquare_0 rfl (lv_at hl 0 rfl) ?_
  refine lv_if_lt (tgt := 14) hx hb dX5_isSquare_1 (by decide) (fun c_1 => ?_) (fun c_1 => ?_)
  · skip
    refine lv_iconst (v := (nI 0)) hx hb dX5_isSquare_14 (by decide) ?_
    exact reZ (v := false) hx hb hr hlocks dX5_isSquare_15 (congrArg bI (by first | exact (isq_t (by assumption) (by assumption)).symm | exact (isq_f1 (by assumption)).symm | exact (isq_f2 (by assumption)).symm))
  · skip
    refine lv_iload_n hx hb dX5_isSquare_4 rfl (lv_at hl 0 rfl) ?_
    refine lv_bipush (v := (nI 64)) hx hb dX5_isSquare_5 (by decide) ?_
    refine lv_icmp_ge (tgt := 14) hx hb dX5_isSquare_7 (by decide) (fun c_2 => ?_) (fun c_2 => ?_)
    · skip
      refine lv_iconst (v := (nI 0)) hx hb dX5_isSquare_14 (by decide) ?_
      exact reZ (v := false) hx hb hr hlocks dX5_isSquare_15 (congrArg bI (by first | exact (isq_t (by assumption) (by assumption)).symm | exact (isq_f1 (by assumption)).symm | exact (isq_f2 (by assumption)).symm))
    · skip
      refine lv_iconst (v := (nI 1)) hx hb dX5_isSquare_10 (by decide) ?_
      refine lv_goto (tgt := 15) hx hb dX5_isSquare_11 (by decide) ?_
      exact reZ (v := true) hx hb hr hlocks dX5_isSquare_15 (congrArg bI (by first | exact (isq_t (by assumption) (by assumption)).symm | exact (isq_f1 (by assumption)).symm | exact (isq_f2 (by assumption)).symm))
theorem dX5_sideOf_0 : decode cX5_sideOf 0 = .ok (.iload_n 0, 1) := by decide +kernel
theorem dX5_sideOf_1 : decode cX5_sideOf 1 = .ok (.ifCond .ne 7, 3) := by decide +kernel
theorem dX5_sideOf_4 : decode cX5_sideOf 4 = .ok (.iconst (-1), 1) := by decide +kernel
theorem dX5_sideOf_5 : decode cX5_sideOf 5 = .ok (.goto 14, 3) := by decide +kernel
theorem dX5_sideOf_8 : decode cX5_sideOf 8 = .ok (.iload_n 0, 1) := by decide +kernel
theorem dX5_sideOf_9 : decode cX5_sideOf 9 = .ok (.bipush 7, 2) := by decide +kernel
theorem dX5_sideOf_11 : decode cX5_sideOf 11 = .ok (.if_icmp .ge 7, 3) := by decide +kernel
theorem dX5_sideOf_14 : decode cX5_sideOf 14 = .ok (.iconst 0, 1) := by decide +kernel
theorem dX5_sideOf_15 : decode cX5_sideOf 15 = .ok (.goto 4, 3) := by decide +kernel
theorem dX5_sideOf_18 : decode cX5_sideOf 18 = .ok (.iconst 1, 1) := by decide +kernel
theorem dX5_sideOf_19 : decode cX5_sideOf 19 = .ok (.ireturn, 1) := by decide +kernel
theorem hd_X5_sideOf : yX5_sideOf.cls ≠ "java/lang/invoke/MethodHandle" ∧ yX5_sideOf.cls ≠ "java/lang/invoke/VarHandle" ∧ (parseMethodDescriptor yX5_sideOf.desc).map (fun d => d.parameters.length) = some 1 := by decide +kernel
set_option maxHeartbeats 4000000 in
set_option maxRecDepth 100000 in
/-- sideOf -/
theorem c_X5_sideOf (l : Launch) (k : Nat) (hk : k < 13) : Met l yX5_sideOf (Cond.code yX5_sideOf cX5_sideOf 1 (some .int) :: wsL_law) (rK 0) (va_Pc [.int (nI k)] (fun _ => True)) (vp_Si (fun r => r = sdI k)) 0 0 (fun _ => False) := by
  refine entM (by decide) (Nat.le_of_ble_eq_true rfl) ?_
  intro p e s m below meth c ls S0 hr hlocks hG hnm hB hl
  have hx := S0.1
  have hb := S0.2.1
  have hown := S0.2.2.2.1
  have hl : lv_has ls 1 [(0, .int (nI k))] := hl
  refine lv_iload_n hx hb dX5_sideOf_0 rfl (lv_at hl 0 rfl) ?_
  refine ln_if_ne (tgt := 8) hx hb dX5_sideOf_1 (by decide) (by omega) (fun c_1 => ?_) (fun c_1 => ?_)
  · skip
    refine lv_iload_n hx hb dX5_sideOf_8 rfl (lv_at hl 0 rfl) ?_
    refine lv_bipush (v := (nI 7)) hx hb dX5_sideOf_9 (by decide) ?_
    refine ln_icmp_ge (tgt := 18) hx hb dX5_sideOf_11 (by decide) (by omega) (by decide) (fun c_2 => ?_) (fun c_2 => ?_)
    · skip
      refine lv_iconst (v := (nI 1)) hx hb dX5_sideOf_18 (by decide) ?_
      exact reI hx hb hr hlocks dX5_sideOf_19 (by unfold sdI; (repeat' split) <;> first | rfl | omega)
    · skip
      refine lv_iconst (v := (nI 0)) hx hb dX5_sideOf_14 (by decide) ?_
      refine lv_goto (tgt := 19) hx hb dX5_sideOf_15 (by decide) ?_
      exact reI hx hb hr hlocks dX5_sideOf_19 (by unfold sdI; (repeat' split) <;> first | rfl | omega)
  · skip
    refine lv_iconst (v := (-1)) hx hb dX5_sideOf_4 (by decide) ?_
    refine lv_goto (tgt := 19) hx hb dX5_sideOf_5 (by decide) ?_
    exact reI hx hb hr hlocks dX5_sideOf_19 (by unfold sdI; (repeat' split) <;> first | rfl | omega)
theorem dX5_kindOf_0 : decode cX5_kindOf 0 = .ok (.iload_n 0, 1) := by decide +kernel
theorem dX5_kindOf_1 : decode cX5_kindOf 1 = .ok (.bipush 7, 2) := by decide +kernel
theorem dX5_kindOf_3 : decode cX5_kindOf 3 = .ok (.if_icmp .ge 7, 3) := by decide +kernel
theorem dX5_kindOf_6 : decode cX5_kindOf 6 = .ok (.iload_n 0, 1) := by decide +kernel
theorem dX5_kindOf_7 : decode cX5_kindOf 7 = .ok (.goto 7, 3) := by decide +kernel
theorem dX5_kindOf_10 : decode cX5_kindOf 10 = .ok (.iload_n 0, 1) := by decide +kernel
theorem dX5_kindOf_11 : decode cX5_kindOf 11 = .ok (.bipush 6, 2) := by decide +kernel
theorem dX5_kindOf_13 : decode cX5_kindOf 13 = .ok (.isub, 1) := by decide +kernel
theorem dX5_kindOf_14 : decode cX5_kindOf 14 = .ok (.ireturn, 1) := by decide +kernel
theorem hd_X5_kindOf : yX5_kindOf.cls ≠ "java/lang/invoke/MethodHandle" ∧ yX5_kindOf.cls ≠ "java/lang/invoke/VarHandle" ∧ (parseMethodDescriptor yX5_kindOf.desc).map (fun d => d.parameters.length) = some 1 := by decide +kernel
set_option maxHeartbeats 4000000 in
set_option maxRecDepth 100000 in
/-- kindOf -/
theorem c_X5_kindOf (l : Launch) (k : Nat) (hk : k < 13) : Met l yX5_kindOf (Cond.code yX5_kindOf cX5_kindOf 1 (some .int) :: wsL_law) (rK 0) (va_Pc [.int (nI k)] (fun _ => True)) (vp_Si (fun r => r = nI (kd k))) 0 0 (fun _ => False) := by
  refine entM (by decide) (Nat.le_of_ble_eq_true rfl) ?_
  intro p e s m below meth c ls S0 hr hlocks hG hnm hB hl
  have hx := S0.1
  have hb := S0.2.1
  have hown := S0.2.2.2.1
  have hl : lv_has ls 1 [(0, .int (nI k))] := hl
  refine lv_iload_n hx hb dX5_kindOf_0 rfl (lv_at hl 0 rfl) ?_
  refine lv_bipush (v := (nI 7)) hx hb dX5_kindOf_1 (by decide) ?_
  refine ln_icmp_ge (tgt := 10) hx hb dX5_kindOf_3 (by decide) (by omega) (by decide) (fun c_1 => ?_) (fun c_1 => ?_)
  · skip
    refine lv_iload_n hx hb dX5_kindOf_10 rfl (lv_at hl 0 rfl) ?_
    refine lv_bipush (v := (nI 6)) hx hb dX5_kindOf_11 (by decide) ?_
    refine ln_isub hx hb dX5_kindOf_13 (by omega) ?_
    exact reI hx hb hr hlocks dX5_kindOf_14 (by unfold kd; exact congrArg nI (by (repeat' split) <;> omega))
  · skip
    refine lv_iload_n hx hb dX5_kindOf_6 rfl (lv_at hl 0 rfl) ?_
    refine lv_goto (tgt := 14) hx hb dX5_kindOf_7 (by decide) ?_
    exact reI hx hb hr hlocks dX5_kindOf_14 (by unfold kd; exact congrArg nI (by (repeat' split) <;> omega))
theorem dX5_apart_0 : decode cX5_apart 0 = .ok (.iload_n 0, 1) := by decide +kernel
theorem dX5_apart_1 : decode cX5_apart 1 = .ok (.iload_n 1, 1) := by decide +kernel
theorem dX5_apart_2 : decode cX5_apart 2 = .ok (.if_icmp .le 9, 3) := by decide +kernel
theorem dX5_apart_5 : decode cX5_apart 5 = .ok (.iload_n 0, 1) := by decide +kernel
theorem dX5_apart_6 : decode cX5_apart 6 = .ok (.iload_n 1, 1) := by decide +kernel
theorem dX5_apart_7 : decode cX5_apart 7 = .ok (.isub, 1) := by decide +kernel
theorem dX5_apart_8 : decode cX5_apart 8 = .ok (.goto 6, 3) := by decide +kernel
theorem dX5_apart_11 : decode cX5_apart 11 = .ok (.iload_n 1, 1) := by decide +kernel
theorem dX5_apart_12 : decode cX5_apart 12 = .ok (.iload_n 0, 1) := by decide +kernel
theorem dX5_apart_13 : decode cX5_apart 13 = .ok (.isub, 1) := by decide +kernel
theorem dX5_apart_14 : decode cX5_apart 14 = .ok (.ireturn, 1) := by decide +kernel
theorem hd_X5_apart : yX5_apart.cls ≠ "java/lang/invoke/MethodHandle" ∧ yX5_apart.cls ≠ "java/lang/invoke/VarHandle" ∧ (parseMethodDescriptor yX5_apart.desc).map (fun d => d.parameters.length) = some 2 := by decide +kernel
set_option maxHeartbeats 4000000 in
set_option maxRecDepth 100000 in
/-- apart -/
theorem c_X5_apart (l : Launch) (a b : Nat) (ha : a < 64) (hb9 : b < 64) : Met l yX5_apart (Cond.code yX5_apart cX5_apart 2 (some .int) :: wsL_law) (rK 0) (va_Pc [.int (nI a), .int (nI b)] (fun _ => True)) (vp_Si (fun r => r = nI (ap a b))) 0 0 (fun _ => False) := by
  refine entM (by decide) (Nat.le_of_ble_eq_true rfl) ?_
  intro p e s m below meth c ls S0 hr hlocks hG hnm hB hl
  have hx := S0.1
  have hb := S0.2.1
  have hown := S0.2.2.2.1
  have hl : lv_has ls 2 [(0, .int (nI a)), (1, .int (nI b))] := hl
  refine lv_iload_n hx hb dX5_apart_0 rfl (lv_at hl 0 rfl) ?_
  refine lv_iload_n hx hb dX5_apart_1 rfl (lv_at hl 1 rfl) ?_
  refine ln_icmp_le (tgt := 11) hx hb dX5_apart_2 (by decide) (by omega) (by omega) (fun c_1 => ?_) (fun c_1 => ?_)
  · skip
    refine lv_iload_n hx hb dX5_apart_11 rfl (lv_at hl 1 rfl) ?_
    refine lv_iload_n hx hb dX5_apart_12 rfl (lv_at hl 0 rfl) ?_
    refine ln_isub hx hb dX5_apart_13 (by omega) ?_
    exact reI hx hb hr hlocks dX5_apart_14 (by unfold ap; exact congrArg nI (by (repeat' split) <;> omega))
  · skip
    refine lv_iload_n hx hb dX5_apart_5 rfl (lv_at hl 0 rfl) ?_
    refine lv_iload_n hx hb dX5_apart_6 rfl (lv_at hl 1 rfl) ?_
    refine ln_isub hx hb dX5_apart_7 (by omega) ?_
    refine lv_goto (tgt := 14) hx hb dX5_apart_8 (by decide) ?_
    exact reI hx hb hr hlocks dX5_apart_14 (by unfold ap; exact congrArg nI (by (repeat' split) <;> omega))
theorem dX5_home_0 : decode cX5_home 0 = .ok (.iload_n 0, 1) := by decide +kernel
theorem dX5_home_1 : decode cX5_home 1 = .ok (.ifCond .eq 9, 3) := by decide +kernel
theorem dX5_home_4 : decode cX5_home 4 = .ok (.iload_n 0, 1) := by decide +kernel
theorem dX5_home_5 : decode cX5_home 5 = .ok (.bipush 7, 2) := by decide +kernel
theorem dX5_home_7 : decode cX5_home 7 = .ok (.if_icmp .ne 7, 3) := by decide +kernel
theorem dX5_home_10 : decode cX5_home 10 = .ok (.iconst 4, 1) := by decide +kernel
theorem dX5_home_11 : decode cX5_home 11 = .ok (.goto 43, 3) := by decide +kernel
theorem dX5_home_14 : decode cX5_home 14 = .ok (.iload_n 0, 1) := by decide +kernel
theorem dX5_home_15 : decode cX5_home 15 = .ok (.iconst 1, 1) := by decide +kernel
theorem dX5_home_16 : decode cX5_home 16 = .ok (.if_icmp .eq 9, 3) := by decide +kernel
theorem dX5_home_19 : decode cX5_home 19 = .ok (.iload_n 0, 1) := by decide +kernel
theorem dX5_home_20 : decode cX5_home 20 = .ok (.bipush 6, 2) := by decide +kernel
theorem dX5_home_22 : decode cX5_home 22 = .ok (.if_icmp .ne 7, 3) := by decide +kernel
theorem dX5_home_25 : decode cX5_home 25 = .ok (.iconst 2, 1) := by decide +kernel
theorem dX5_home_26 : decode cX5_home 26 = .ok (.goto 28, 3) := by decide +kernel
theorem dX5_home_29 : decode cX5_home 29 = .ok (.iload_n 0, 1) := by decide +kernel
theorem dX5_home_30 : decode cX5_home 30 = .ok (.iconst 2, 1) := by decide +kernel
theorem dX5_home_31 : decode cX5_home 31 = .ok (.if_icmp .eq 8, 3) := by decide +kernel
theorem dX5_home_34 : decode cX5_home 34 = .ok (.iload_n 0, 1) := by decide +kernel
theorem dX5_home_35 : decode cX5_home 35 = .ok (.iconst 5, 1) := by decide +kernel
theorem dX5_home_36 : decode cX5_home 36 = .ok (.if_icmp .ne 7, 3) := by decide +kernel
theorem dX5_home_39 : decode cX5_home 39 = .ok (.iconst 3, 1) := by decide +kernel
theorem dX5_home_40 : decode cX5_home 40 = .ok (.goto 14, 3) := by decide +kernel
theorem dX5_home_43 : decode cX5_home 43 = .ok (.iload_n 0, 1) := by decide +kernel
theorem dX5_home_44 : decode cX5_home 44 = .ok (.iconst 3, 1) := by decide +kernel
theorem dX5_home_45 : decode cX5_home 45 = .ok (.if_icmp .ne 7, 3) := by decide +kernel
theorem dX5_home_48 : decode cX5_home 48 = .ok (.iconst 5, 1) := by decide +kernel
theorem dX5_home_49 : decode cX5_home 49 = .ok (.goto 5, 3) := by decide +kernel
theorem dX5_home_52 : decode cX5_home 52 = .ok (.bipush 6, 2) := by decide +kernel
theorem dX5_home_54 : decode cX5_home 54 = .ok (.ireturn, 1) := by decide +kernel
theorem hd_X5_home : yX5_home.cls ≠ "java/lang/invoke/MethodHandle" ∧ yX5_home.cls ≠ "java/lang/invoke/VarHandle" ∧ (parseMethodDescriptor yX5_home.desc).map (fun d => d.parameters.length) = some 1 := by decide +kernel
set_option maxHeartbeats 4000000 in
set_option maxRecDepth 100000 in
/-- home -/
theorem c_X5_home (l : Launch) (f : Nat) (hf : f < 8) : Met l yX5_home (Cond.code yX5_home cX5_home 1 (some .int) :: wsL_law) (rK 0) (va_Pc [.int (nI f)] (fun _ => True)) (vp_Si (fun r => r = nI (hmf f))) 0 0 (fun _ => False) := by
  refine entM (by decide) (Nat.le_of_ble_eq_true rfl) ?_
  intro p e s m below meth c ls S0 hr hlocks hG hnm hB hl
  have hx := S0.1
  have hb := S0.2.1
  have hown := S0.2.2.2.1
  have hl : lv_has ls 1 [(0, .int (nI f))] := hl
  refine lv_iload_n hx hb dX5_home_0 rfl (lv_at hl 0 rfl) ?_
  refine ln_if_eq (tgt := 10) hx hb dX5_home_1 (by decide) (by omega) (fun c_1 => ?_) (fun c_1 => ?_)
  · skip
    refine lv_iconst (v := (nI 4)) hx hb dX5_home_10 (by decide) ?_
    refine lv_goto (tgt := 54) hx hb dX5_home_11 (by decide) ?_
    exact reI hx hb hr hlocks dX5_home_54 (by unfold hmf; exact congrArg nI (by (repeat' split) <;> omega))
  · skip
    refine lv_iload_n hx hb dX5_home_4 rfl (lv_at hl 0 rfl) ?_
    refine lv_bipush (v := (nI 7)) hx hb dX5_home_5 (by decide) ?_
    refine ln_icmp_ne (tgt := 14) hx hb dX5_home_7 (by decide) (by omega) (by decide) (fun c_2 => ?_) (fun c_2 => ?_)
    · skip
      refine lv_iload_n hx hb dX5_home_14 rfl (lv_at hl 0 rfl) ?_
      refine lv_iconst (v := (nI 1)) hx hb dX5_home_15 (by decide) ?_
      refine ln_icmp_eq (tgt := 25) hx hb dX5_home_16 (by decide) (by omega) (by decide) (fun c_3 => ?_) (fun c_3 => ?_)
      · skip
        refine lv_iconst (v := (nI 2)) hx hb dX5_home_25 (by decide) ?_
        refine lv_goto (tgt := 54) hx hb dX5_home_26 (by decide) ?_
        exact reI hx hb hr hlocks dX5_home_54 (by unfold hmf; exact congrArg nI (by (repeat' split) <;> omega))
      · skip
        refine lv_iload_n hx hb dX5_home_19 rfl (lv_at hl 0 rfl) ?_
        refine lv_bipush (v := (nI 6)) hx hb dX5_home_20 (by decide) ?_
        refine ln_icmp_ne (tgt := 29) hx hb dX5_home_22 (by decide) (by omega) (by decide) (fun c_4 => ?_) (fun c_4 => ?_)
        · skip
          refine lv_iload_n hx hb dX5_home_29 rfl (lv_at hl 0 rfl) ?_
          refine lv_iconst (v := (nI 2)) hx hb dX5_home_30 (by decide) ?_
          refine ln_icmp_eq (tgt := 39) hx hb dX5_home_31 (by decide) (by omega) (by decide) (fun c_5 => ?_) (fun c_5 => ?_)
          · skip
            refine lv_iconst (v := (nI 3)) hx hb dX5_home_39 (by decide) ?_
            refine lv_goto (tgt := 54) hx hb dX5_home_40 (by decide) ?_
            exact reI hx hb hr hlocks dX5_home_54 (by unfold hmf; exact congrArg nI (by (repeat' split) <;> omega))
          · skip
            refine lv_iload_n hx hb dX5_home_34 rfl (lv_at hl 0 rfl) ?_
            refine lv_iconst (v := (nI 5)) hx hb dX5_home_35 (by decide) ?_
            refine ln_icmp_ne (tgt := 43) hx hb dX5_home_36 (by decide) (by omega) (by decide) (fun c_6 => ?_) (fun c_6 => ?_)
            · skip
              refine lv_iload_n hx hb dX5_home_43 rfl (lv_at hl 0 rfl) ?_
              refine lv_iconst (v := (nI 3)) hx hb dX5_home_44 (by decide) ?_
              refine ln_icmp_ne (tgt := 52) hx hb dX5_home_45 (by decide) (by omega) (by decide) (fun c_7 => ?_) (fun c_7 => ?_)
              · skip
                refine lv_bipush (v := (nI 6)) hx hb dX5_home_52 (by decide) ?_
                exact reI hx hb hr hlocks dX5_home_54 (by unfold hmf; exact congrArg nI (by (repeat' split) <;> omega))
              · skip
                refine lv_iconst (v := (nI 5)) hx hb dX5_home_48 (by decide) ?_
                refine lv_goto (tgt := 54) hx hb dX5_home_49 (by decide) ?_
                exact reI hx hb hr hlocks dX5_home_54 (by unfold hmf; exact congrArg nI (by (repeat' split) <;> omega))
            · skip
              refine lv_iconst (v := (nI 3)) hx hb dX5_home_39 (by decide) ?_
              refine lv_goto (tgt := 54) hx hb dX5_home_40 (by decide) ?_
              exact reI hx hb hr hlocks dX5_home_54 (by unfold hmf; exact congrArg nI (by (repeat' split) <;> omega))
        · skip
          refine lv_iconst (v := (nI 2)) hx hb dX5_home_25 (by decide) ?_
          refine lv_goto (tgt := 54) hx hb dX5_home_26 (by decide) ?_
          exact reI hx hb hr hlocks dX5_home_54 (by unfold hmf; exact congrArg nI (by (repeat' split) <;> omega))
    · skip
      refine lv_iconst (v := (nI 4)) hx hb dX5_home_10 (by decide) ?_
      refine lv_goto (tgt := 54) hx hb dX5_home_11 (by decide) ?_
      exact reI hx hb hr hlocks dX5_home_54 (by unfold hmf; exact congrArg nI (by (repeat' split) <;> omega))
theorem dX5_corner_0 : decode cX5_corner 0 = .ok (.iload_n 0, 1) := by decide +kernel
theorem dX5_corner_1 : decode cX5_corner 1 = .ok (.bipush 7, 2) := by decide +kernel
theorem dX5_corner_3 : decode cX5_corner 3 = .ok (.if_icmp .ne 7, 3) := by decide +kernel
theorem dX5_corner_6 : decode cX5_corner 6 = .ok (.iconst 1, 1) := by decide +kernel
theorem dX5_corner_7 : decode cX5_corner 7 = .ok (.goto 33, 3) := by decide +kernel
theorem dX5_corner_10 : decode cX5_corner 10 = .ok (.iload_n 0, 1) := by decide +kernel
theorem dX5_corner_11 : decode cX5_corner 11 = .ok (.ifCond .ne 7, 3) := by decide +kernel
theorem dX5_corner_14 : decode cX5_corner 14 = .ok (.iconst 2, 1) := by decide +kernel
theorem dX5_corner_15 : decode cX5_corner 15 = .ok (.goto 25, 3) := by decide +kernel
theorem dX5_corner_18 : decode cX5_corner 18 = .ok (.iload_n 0, 1) := by decide +kernel
theorem dX5_corner_19 : decode cX5_corner 19 = .ok (.bipush 63, 2) := by decide +kernel
theorem dX5_corner_21 : decode cX5_corner 21 = .ok (.if_icmp .ne 7, 3) := by decide +kernel
theorem dX5_corner_24 : decode cX5_corner 24 = .ok (.iconst 4, 1) := by decide +kernel
theorem dX5_corner_25 : decode cX5_corner 25 = .ok (.goto 15, 3) := by decide +kernel
theorem dX5_corner_28 : decode cX5_corner 28 = .ok (.iload_n 0, 1) := by decide +kernel
theorem dX5_corner_29 : decode cX5_corner 29 = .ok (.bipush 56, 2) := by decide +kernel
theorem dX5_corner_31 : decode cX5_corner 31 = .ok (.if_icmp .ne 8, 3) := by decide +kernel
theorem dX5_corner_34 : decode cX5_corner 34 = .ok (.bipush 8, 2) := by decide +kernel
theorem dX5_corner_36 : decode cX5_corner 36 = .ok (.goto 4, 3) := by decide +kernel
theorem dX5_corner_39 : decode cX5_corner 39 = .ok (.iconst 0, 1) := by decide +kernel
theorem dX5_corner_40 : decode cX5_corner 40 = .ok (.ireturn, 1) := by decide +kernel
theorem hd_X5_corner : yX5_corner.cls ≠ "java/lang/invoke/MethodHandle" ∧ yX5_corner.cls ≠ "java/lang/invoke/VarHandle" ∧ (parseMethodDescriptor yX5_corner.desc).map (fun d => d.parameters.length) = some 1 := by decide +kernel
set_option maxHeartbeats 4000000 in
set_option maxRecDepth 100000 in
/-- corner -/
theorem c_X5_corner (l : Launch) (q : Nat) (hq : q < 64) : Met l yX5_corner (Cond.code yX5_corner cX5_corner 1 (some .int) :: wsL_law) (rK 0) (va_Pc [.int (nI q)] (fun _ => True)) (vp_Si (fun r => r = nI (crn q))) 0 0 (fun _ => False) := by
  refine entM (by decide) (Nat.le_of_ble_eq_true rfl) ?_
  intro p e s m below meth c ls S0 hr hlocks hG hnm hB hl
  have hx := S0.1
  have hb := S0.2.1
  have hown := S0.2.2.2.1
  have hl : lv_has ls 1 [(0, .int (nI q))] := hl
  refine lv_iload_n hx hb dX5_corner_0 rfl (lv_at hl 0 rfl) ?_
  refine lv_bipush (v := (nI 7)) hx hb dX5_corner_1 (by decide) ?_
  refine ln_icmp_ne (tgt := 10) hx hb dX5_corner_3 (by decide) (by omega) (by decide) (fun c_1 => ?_) (fun c_1 => ?_)
  · skip
    refine lv_iload_n hx hb dX5_corner_10 rfl (lv_at hl 0 rfl) ?_
    refine ln_if_ne (tgt := 18) hx hb dX5_corner_11 (by decide) (by omega) (fun c_2 => ?_) (fun c_2 => ?_)
    · skip
      refine lv_iload_n hx hb dX5_corner_18 rfl (lv_at hl 0 rfl) ?_
      refine lv_bipush (v := (nI 63)) hx hb dX5_corner_19 (by decide) ?_
      refine ln_icmp_ne (tgt := 28) hx hb dX5_corner_21 (by decide) (by omega) (by decide) (fun c_3 => ?_) (fun c_3 => ?_)
      · skip
        refine lv_iload_n hx hb dX5_corner_28 rfl (lv_at hl 0 rfl) ?_
        refine lv_bipush (v := (nI 56)) hx hb dX5_corner_29 (by decide) ?_
        refine ln_icmp_ne (tgt := 39) hx hb dX5_corner_31 (by decide) (by omega) (by decide) (fun c_4 => ?_) (fun c_4 => ?_)
        · skip
          refine lv_iconst (v := (nI 0)) hx hb dX5_corner_39 (by decide) ?_
          exact reI hx hb hr hlocks dX5_corner_40 (by unfold crn; exact congrArg nI (by (repeat' split) <;> omega))
        · skip
          refine lv_bipush (v := (nI 8)) hx hb dX5_corner_34 (by decide) ?_
          refine lv_goto (tgt := 40) hx hb dX5_corner_36 (by decide) ?_
          exact reI hx hb hr hlocks dX5_corner_40 (by unfold crn; exact congrArg nI (by (repeat' split) <;> omega))
      · skip
        refine lv_iconst (v := (nI 4)) hx hb dX5_corner_24 (by decide) ?_
        refine lv_goto (tgt := 40) hx hb dX5_corner_25 (by decide) ?_
        exact reI hx hb hr hlocks dX5_corner_40 (by unfold crn; exact congrArg nI (by (repeat' split) <;> omega))
    · skip
      refine lv_iconst (v := (nI 2)) hx hb dX5_corner_14 (by decide) ?_
      refine lv_goto (tgt := 40) hx hb dX5_corner_15 (by decide) ?_
      exact reI hx hb hr hlocks dX5_corner_40 (by unfold crn; exact congrArg nI (by (repeat' split) <;> omega))
  · skip
    refine lv_iconst (v := (nI 1)) hx hb dX5_corner_6 (by decide) ?_
    refine lv_goto (tgt := 40) hx hb dX5_corner_7 (by decide) ?_
    exact reI hx hb hr hlocks dX5_corner_40 (by unfold crn; exact congrArg nI (by (repeat' split) <;> omega))

theorem dX5_isLegal_0 : decode cX5_isLegal 0 = .ok (.iload_n 2, 1) := by decide +kernel
theorem dX5_isLegal_1 : decode cX5_isLegal 1 = .ok (.bipush 64, 2) := by decide +kernel
theorem dX5_isLegal_3 : decode cX5_isLegal 3 = .ok (.irem, 1) := by decide +kernel
theorem dX5_isLegal_4 : decode cX5_isLegal 4 = .ok (.istore_n 3, 1) := by decide +kernel
theorem dX5_isLegal_5 : decode cX5_isLegal 5 = .ok (.iload_n 2, 1) := by decide +kernel
theorem dX5_isLegal_6 : decode cX5_isLegal 6 = .ok (.bipush 64, 2) := by decide +kernel
theorem dX5_isLegal_8 : decode cX5_isLegal 8 = .ok (.idiv, 1) := by decide +kernel
theorem dX5_isLegal_9 : decode cX5_isLegal 9 = .ok (.bipush 64, 2) := by decide +kernel
theorem dX5_isLegal_11 : decode cX5_isLegal 11 = .ok (.irem, 1) := by decide +kernel
theorem dX5_isLegal_12 : decode cX5_isLegal 12 = .ok (.istore 4, 2) := by decide +kernel
theorem dX5_isLegal_14 : decode cX5_isLegal 14 = .ok (.iload_n 2, 1) := by decide +kernel
theorem dX5_isLegal_15 : decode cX5_isLegal 15 = .ok (.sipush 4096, 3) := by decide +kernel
theorem dX5_isLegal_18 : decode cX5_isLegal 18 = .ok (.idiv, 1) := by decide +kernel
theorem dX5_isLegal_19 : decode cX5_isLegal 19 = .ok (.istore 5, 2) := by decide +kernel
theorem dX5_isLegal_21 : decode cX5_isLegal 21 = .ok (.aload_n 0, 1) := by decide +kernel
theorem dX5_isLegal_22 : decode cX5_isLegal 22 = .ok (.getfield 7, 3) := by decide +kernel
theorem dX5_isLegal_25 : decode cX5_isLegal 25 = .ok (.iload_n 1, 1) := by decide +kernel
theorem dX5_isLegal_26 : decode cX5_isLegal 26 = .ok (.iload_n 3, 1) := by decide +kernel
theorem dX5_isLegal_27 : decode cX5_isLegal 27 = .ok (.iadd, 1) := by decide +kernel
theorem dX5_isLegal_28 : decode cX5_isLegal 28 = .ok (.iaload, 1) := by decide +kernel
theorem dX5_isLegal_29 : decode cX5_isLegal 29 = .ok (.invokestatic 40, 3) := by decide +kernel
theorem dX5_isLegal_32 : decode cX5_isLegal 32 = .ok (.iconst 1, 1) := by decide +kernel
theorem dX5_isLegal_33 : decode cX5_isLegal 33 = .ok (.if_icmp .ne 33, 3) := by decide +kernel
theorem dX5_isLegal_36 : decode cX5_isLegal 36 = .ok (.iload 4, 2) := by decide +kernel
theorem dX5_isLegal_38 : decode cX5_isLegal 38 = .ok (.bipush 8, 2) := by decide +kernel
theorem dX5_isLegal_40 : decode cX5_isLegal 40 = .ok (.idiv, 1) := by decide +kernel
theorem dX5_isLegal_41 : decode cX5_isLegal 41 = .ok (.aload_n 0, 1) := by decide +kernel
theorem dX5_isLegal_42 : decode cX5_isLegal 42 = .ok (.getfield 7, 3) := by decide +kernel
theorem dX5_isLegal_45 : decode cX5_isLegal 45 = .ok (.iload_n 1, 1) := by decide +kernel
theorem dX5_isLegal_46 : decode cX5_isLegal 46 = .ok (.bipush 64, 2) := by decide +kernel
theorem dX5_isLegal_48 : decode cX5_isLegal 48 = .ok (.iadd, 1) := by decide +kernel
theorem dX5_isLegal_49 : decode cX5_isLegal 49 = .ok (.iaload, 1) := by decide +kernel
theorem dX5_isLegal_50 : decode cX5_isLegal 50 = .ok (.ifCond .ne 8, 3) := by decide +kernel
theorem dX5_isLegal_53 : decode cX5_isLegal 53 = .ok (.bipush 7, 2) := by decide +kernel
theorem dX5_isLegal_55 : decode cX5_isLegal 55 = .ok (.goto 4, 3) := by decide +kernel
theorem dX5_isLegal_58 : decode cX5_isLegal 58 = .ok (.iconst 0, 1) := by decide +kernel
theorem dX5_isLegal_59 : decode cX5_isLegal 59 = .ok (.if_icmp .ne 7, 3) := by decide +kernel
theorem dX5_isLegal_62 : decode cX5_isLegal 62 = .ok (.iconst 1, 1) := by decide +kernel
theorem dX5_isLegal_63 : decode cX5_isLegal 63 = .ok (.goto 4, 3) := by decide +kernel
theorem dX5_isLegal_66 : decode cX5_isLegal 66 = .ok (.iconst 0, 1) := by decide +kernel
theorem dX5_isLegal_67 : decode cX5_isLegal 67 = .ok (.istore 6, 2) := by decide +kernel
theorem dX5_isLegal_69 : decode cX5_isLegal 69 = .ok (.iload 5, 2) := by decide +kernel
theorem dX5_isLegal_71 : decode cX5_isLegal 71 = .ok (.iconst 5, 1) := by decide +kernel
theorem dX5_isLegal_72 : decode cX5_isLegal 72 = .ok (.if_icmp .gt 42, 3) := by decide +kernel
theorem dX5_isLegal_75 : decode cX5_isLegal 75 = .ok (.iload 5, 2) := by decide +kernel
theorem dX5_isLegal_77 : decode cX5_isLegal 77 = .ok (.iconst 1, 1) := by decide +kernel
theorem dX5_isLegal_78 : decode cX5_isLegal 78 = .ok (.if_icmp .eq 36, 3) := by decide +kernel
theorem dX5_isLegal_81 : decode cX5_isLegal 81 = .ok (.iload 6, 2) := by decide +kernel
theorem dX5_isLegal_83 : decode cX5_isLegal 83 = .ok (.iload 5, 2) := by decide +kernel
theorem dX5_isLegal_85 : decode cX5_isLegal 85 = .ok (.iconst 1, 1) := by decide +kernel
theorem dX5_isLegal_86 : decode cX5_isLegal 86 = .ok (.if_icmp .le 7, 3) := by decide +kernel
theorem dX5_isLegal_89 : decode cX5_isLegal 89 = .ok (.iconst 1, 1) := by decide +kernel
theorem dX5_isLegal_90 : decode cX5_isLegal 90 = .ok (.goto 4, 3) := by decide +kernel
theorem dX5_isLegal_93 : decode cX5_isLegal 93 = .ok (.iconst 0, 1) := by decide +kernel
theorem dX5_isLegal_94 : decode cX5_isLegal 94 = .ok (.if_icmp .ne 20, 3) := by decide +kernel
theorem dX5_isLegal_97 : decode cX5_isLegal 97 = .ok (.iload_n 3, 1) := by decide +kernel
theorem dX5_isLegal_98 : decode cX5_isLegal 98 = .ok (.iload 4, 2) := by decide +kernel
theorem dX5_isLegal_100 : decode cX5_isLegal 100 = .ok (.if_icmp .eq 14, 3) := by decide +kernel
theorem dX5_isLegal_103 : decode cX5_isLegal 103 = .ok (.aload_n 0, 1) := by decide +kernel
theorem dX5_isLegal_104 : decode cX5_isLegal 104 = .ok (.iload_n 1, 1) := by decide +kernel
theorem dX5_isLegal_105 : decode cX5_isLegal 105 = .ok (.iload_n 3, 1) := by decide +kernel
theorem dX5_isLegal_106 : decode cX5_isLegal 106 = .ok (.iload 4, 2) := by decide +kernel
theorem dX5_isLegal_108 : decode cX5_isLegal 108 = .ok (.invokevirtual 83, 3) := by decide +kernel
theorem dX5_isLegal_111 : decode cX5_isLegal 111 = .ok (.ifCond .ne 5, 3) := by decide +kernel
theorem dX5_isLegal_114 : decode cX5_isLegal 114 = .ok (.iconst 0, 1) := by decide +kernel
theorem dX5_isLegal_115 : decode cX5_isLegal 115 = .ok (.ireturn, 1) := by decide +kernel
theorem dX5_isLegal_116 : decode cX5_isLegal 116 = .ok (.aload_n 0, 1) := by decide +kernel
theorem dX5_isLegal_117 : decode cX5_isLegal 117 = .ok (.iload_n 1, 1) := by decide +kernel
theorem dX5_isLegal_118 : decode cX5_isLegal 118 = .ok (.iload_n 1, 1) := by decide +kernel
theorem dX5_isLegal_119 : decode cX5_isLegal 119 = .ok (.bipush 67, 2) := by decide +kernel
theorem dX5_isLegal_121 : decode cX5_isLegal 121 = .ok (.iadd, 1) := by decide +kernel
theorem dX5_isLegal_122 : decode cX5_isLegal 122 = .ok (.iload_n 2, 1) := by decide +kernel
theorem dX5_isLegal_123 : decode cX5_isLegal 123 = .ok (.invokevirtual 86, 3) := by decide +kernel
theorem dX5_isLegal_126 : decode cX5_isLegal 126 = .ok (.aload_n 0, 1) := by decide +kernel
theorem dX5_isLegal_127 : decode cX5_isLegal 127 = .ok (.iload_n 1, 1) := by decide +kernel
theorem dX5_isLegal_128 : decode cX5_isLegal 128 = .ok (.bipush 67, 2) := by decide +kernel
theorem dX5_isLegal_130 : decode cX5_isLegal 130 = .ok (.iadd, 1) := by decide +kernel
theorem dX5_isLegal_131 : decode cX5_isLegal 131 = .ok (.aload_n 0, 1) := by decide +kernel
theorem dX5_isLegal_132 : decode cX5_isLegal 132 = .ok (.getfield 7, 3) := by decide +kernel
theorem dX5_isLegal_135 : decode cX5_isLegal 135 = .ok (.iload_n 1, 1) := by decide +kernel
theorem dX5_isLegal_136 : decode cX5_isLegal 136 = .ok (.bipush 64, 2) := by decide +kernel
theorem dX5_isLegal_138 : decode cX5_isLegal 138 = .ok (.iadd, 1) := by decide +kernel
theorem dX5_isLegal_139 : decode cX5_isLegal 139 = .ok (.iaload, 1) := by decide +kernel
theorem dX5_isLegal_140 : decode cX5_isLegal 140 = .ok (.invokevirtual 63, 3) := by decide +kernel
theorem dX5_isLegal_143 : decode cX5_isLegal 143 = .ok (.ifCond .ne 7, 3) := by decide +kernel
theorem dX5_isLegal_146 : decode cX5_isLegal 146 = .ok (.iconst 1, 1) := by decide +kernel
theorem dX5_isLegal_147 : decode cX5_isLegal 147 = .ok (.goto 4, 3) := by decide +kernel
theorem dX5_isLegal_150 : decode cX5_isLegal 150 = .ok (.iconst 0, 1) := by decide +kernel
theorem dX5_isLegal_151 : decode cX5_isLegal 151 = .ok (.ireturn, 1) := by decide +kernel
theorem hd_X5_isLegal : yX5_isLegal.cls ≠ "java/lang/invoke/MethodHandle" ∧ yX5_isLegal.cls ≠ "java/lang/invoke/VarHandle" ∧ (parseMethodDescriptor yX5_isLegal.desc).map (fun d => d.parameters.length) = some 2 := by decide +kernel
set_option maxHeartbeats 4000000 in
set_option maxRecDepth 100000 in
/-- isLegal -/
theorem c_X5_isLegal (l : Launch) {D : va_G} {cI cJ : ClassId} {A : Nat → Prop} {hm b0 b1 b2 b3 : Nat} {th mk sz : Int32} {F mv kp li : Nat → Int32} (bd : Nat → Nat) (sd rt ps b : Nat) (hb9 : b ≤ 200) (hBd : Bd F b bd sd rt ps) (hkg : kgs bd sd < 64) (f t k : Nat) (hf : f < 64) (ht : t < 64) (hk6 : k < 6) : Met l yX5_isLegal (Cond.code yX5_isLegal cX5_isLegal 7 (some .boolean) :: wsL_law) (rK 5) (va_Pc [.ref hm, .int (nI b), .int (nI (f + 64 * t + 4096 * k))] (IW D cI cJ A (rW cI hm b0 b1 b2 b3 th mk sz F mv kp li))) (va_Qi (fun r u => r = bI (lgl bd sd rt ps f t k) ∧ Ag F u (b + 67)) (fun (u : Nat → Int32) t => IW D cI cJ A (rW cI hm b0 b1 b2 b3 th mk sz u mv kp li) t) A) 0 0 A := by
  refine entM (by decide) (Nat.le_of_ble_eq_true rfl) ?_
  intro p e s m below meth c ls S0 hr hlocks hG hnm hB hl
  have hx := S0.1
  have hb := S0.2.1
  have hown := S0.2.2.2.1
  have hl : lv_has ls 7 [(0, .ref hm), (1, .int (nI b)), (2, .int (nI (f + 64 * t + 4096 * k)))] := hl
  obtain ⟨hP, hD, hK, hA, hE⟩ := hB
  have hS : va_S A s.heap s.heap [] := va_S.rf
  obtain ⟨hBp, hsd, hs2, hrt, hr16, hps, hp65⟩ := id hBd
  obtain ⟨hfv, hfb⟩ := hBp f hf
  have hkf := kd_lt hfb
  refine lv_iload_n hx hb dX5_isLegal_0 rfl (lv_at hl 2 rfl) ?_
  refine lv_bipush (v := (nI 64)) hx hb dX5_isLegal_1 (by decide) ?_
  refine ln_irem hx hb dX5_isLegal_3 (by omega) (by decide) (by decide) ?_
  refine W.top (y := .int (nI f)) (congrArg Value.int (congrArg nI (by omega))) ?_
  refine lv_istore_n (lv' := [(3, .int (nI f)), (0, .ref hm), (1, .int (nI b)), (2, .int (nI (f + 64 * t + 4096 * k)))]) hx hb dX5_isLegal_4 rfl hl (by decide) rfl (fun ls hl => ?_)
  refine lv_iload_n hx hb dX5_isLegal_5 rfl (lv_at hl 3 rfl) ?_
  refine lv_bipush (v := (nI 64)) hx hb dX5_isLegal_6 (by decide) ?_
  refine ln_idiv hx hb dX5_isLegal_8 (by omega) (by decide) (by decide) ?_
  refine lv_bipush (v := (nI 64)) hx hb dX5_isLegal_9 (by decide) ?_
  refine ln_irem hx hb dX5_isLegal_11 (by omega) (by decide) (by decide) ?_
  refine W.top (y := .int (nI t)) (congrArg Value.int (congrArg nI (by omega))) ?_
  refine lv_istore (lv' := [(4, .int (nI t)), (3, .int (nI f)), (0, .ref hm), (1, .int (nI b)), (2, .int (nI (f + 64 * t + 4096 * k)))]) hx hb dX5_isLegal_12 hl (by decide) rfl (fun ls hl => ?_)
  refine lv_iload_n hx hb dX5_isLegal_14 rfl (lv_at hl 4 rfl) ?_
  refine lv_sipush (v := (nI 4096)) hx hb dX5_isLegal_15 (by decide) ?_
  refine ln_idiv hx hb dX5_isLegal_18 (by omega) (by decide) (by decide) ?_
  refine W.top (y := .int (nI k)) (congrArg Value.int (congrArg nI (by omega))) ?_
  refine lv_istore (lv' := [(5, .int (nI k)), (4, .int (nI t)), (3, .int (nI f)), (0, .ref hm), (1, .int (nI b)), (2, .int (nI (f + 64 * t + 4096 * k)))]) hx hb dX5_isLegal_19 hl (by decide) rfl (fun ls hl => ?_)
  refine lv_aload_n hx hb dX5_isLegal_21 rfl (lv_at hl 3 rfl) ?_
  refine va_get (D := D) (ci := 4) (v := .ref b0) (C := RX5) (T := TX5) (N := 7) hx hb hG wu_X5 hown hK hP 0 rfl rfl 1 (by decide) (hG _ wf_X5_7) (fun _ h9 => h9) rfl dX5_isLegal_22 ?_
  refine lv_iload_n hx hb dX5_isLegal_25 rfl (lv_at hl 4 rfl) ?_
  refine lv_iload_n hx hb dX5_isLegal_26 rfl (lv_at hl 2 rfl) ?_
  refine ln_iadd hx hb dX5_isLegal_27 ?_
  refine va_iald hx hb hK hP 1 0 rfl rfl (vp_in_nI (by omega) (by decide)) dX5_isLegal_28 ?_
  refine W.top (y := .int (F (b + f))) (congrArg (fun z => Value.int (F z)) (nI_clamp (by omega))) ?_
  refine W.top (y := .int (nI (bd f))) (congrArg Value.int hfv) ?_
  refine roI (rnS (As := [.int (nI (bd f))]) (rest := []) S0 (c_X5_kindOf l (bd f) (by omega)) wm_X5_40 wt_X5_kindOf wn_X5 wc_X5_kindOf hd_X5_kindOf ⟨rfl, rfl, by decide, by decide⟩ True.blind (fun _ _ _ => trivial) hl.1 (Nat.le_of_ble_eq_true rfl) dX5_isLegal_29 rfl ⟨by decide, by decide⟩) (fun r_1 hr_1 => ?_)
  subst hr_1
  refine lv_iconst (v := (nI 1)) hx hb dX5_isLegal_32 (by decide) ?_
  refine jnG 67 7 [(5, .int (nI k)), (4, .int (nI t)), (3, .int (nI f)), (0, .ref hm), (1, .int (nI b)), (2, .int (nI (f + 64 * t + 4096 * k)))] [.int (bI (lst bd sd f t))] ?_ (fun hj_67 => ?_)
  · intro ls hl
    refine lv_istore (lv' := [(6, .int (bI (lst bd sd f t))), (5, .int (nI k)), (4, .int (nI t)), (3, .int (nI f)), (0, .ref hm), (1, .int (nI b)), (2, .int (nI (f + 64 * t + 4096 * k)))]) hx hb dX5_isLegal_67 hl (by decide) rfl (fun ls hl => ?_)
    refine lv_iload hx hb dX5_isLegal_69 (lv_at hl 1 rfl) ?_
    refine lv_iconst (v := (nI 5)) hx hb dX5_isLegal_71 (by decide) ?_
    refine ln_icmp_gt (tgt := 114) hx hb dX5_isLegal_72 (by decide) (by omega) (by decide) (fun c72 => ?_) (fun c72 => ?_)
    · skip
      exact absurd c72 (by omega)
    · skip
      refine lv_iload hx hb dX5_isLegal_75 (lv_at hl 1 rfl) ?_
      refine lv_iconst (v := (nI 1)) hx hb dX5_isLegal_77 (by decide) ?_
      refine ln_icmp_eq (tgt := 114) hx hb dX5_isLegal_78 (by decide) (by omega) (by decide) (fun c78 => ?_) (fun c78 => ?_)
      · skip
        refine lv_iconst (v := (nI 0)) hx hb dX5_isLegal_114 (by decide) ?_
        exact weZ (v := false) (F) hx hb hr hlocks dX5_isLegal_115 ⟨congrArg bI (lgl_0 (by unfold pre; first | (rw [decide_eq_true c78]; rfl) | (rw [decide_eq_false c78, decide_eq_false c94]; rfl) | (rw [decide_eq_false c78, decide_eq_true c94, decide_eq_true c100]; rfl) | (rw [decide_eq_false c78, decide_eq_true c94, decide_eq_false c100, c111]; rfl))).symm, Ag.rf⟩ hP hD hK hA hE hS
      · skip
        refine lv_iload hx hb dX5_isLegal_81 (lv_at hl 0 rfl) ?_
        refine lv_iload hx hb dX5_isLegal_83 (lv_at hl 1 rfl) ?_
        refine lv_iconst (v := (nI 1)) hx hb dX5_isLegal_85 (by decide) ?_
        refine jnG 94 7 [(6, .int (bI (lst bd sd f t))), (5, .int (nI k)), (4, .int (nI t)), (3, .int (nI f)), (0, .ref hm), (1, .int (nI b)), (2, .int (nI (f + 64 * t + 4096 * k)))] [.int (bI (decide (1 < k))), .int (bI (lst bd sd f t))] ?_ (fun hj_94 => ?_)
        · intro ls hl
          refine lv_icmp_ne (tgt := 114) hx hb dX5_isLegal_94 (by decide) (fun c94 => ?_) (fun c94 => ?_)
          · skip
            rw [bI_inj] at c94
            refine lv_iconst (v := (nI 0)) hx hb dX5_isLegal_114 (by decide) ?_
            exact weZ (v := false) (F) hx hb hr hlocks dX5_isLegal_115 ⟨congrArg bI (lgl_0 (by unfold pre; first | (rw [decide_eq_true c78]; rfl) | (rw [decide_eq_false c78, decide_eq_false c94]; rfl) | (rw [decide_eq_false c78, decide_eq_true c94, decide_eq_true c100]; rfl) | (rw [decide_eq_false c78, decide_eq_true c94, decide_eq_false c100, c111]; rfl))).symm, Ag.rf⟩ hP hD hK hA hE hS
          · skip
            rw [bI_inj] at c94
            refine lv_iload_n hx hb dX5_isLegal_97 rfl (lv_at hl 3 rfl) ?_
            refine lv_iload hx hb dX5_isLegal_98 (lv_at hl 2 rfl) ?_
            refine ln_icmp_eq (tgt := 114) hx hb dX5_isLegal_100 (by decide) (by omega) (by omega) (fun c100 => ?_) (fun c100 => ?_)
            · skip
              refine lv_iconst (v := (nI 0)) hx hb dX5_isLegal_114 (by decide) ?_
              exact weZ (v := false) (F) hx hb hr hlocks dX5_isLegal_115 ⟨congrArg bI (lgl_0 (by unfold pre; first | (rw [decide_eq_true c78]; rfl) | (rw [decide_eq_false c78, decide_eq_false c94]; rfl) | (rw [decide_eq_false c78, decide_eq_true c94, decide_eq_true c100]; rfl) | (rw [decide_eq_false c78, decide_eq_true c94, decide_eq_false c100, c111]; rfl))).symm, Ag.rf⟩ hP hD hK hA hE hS
            · skip
              refine lv_aload_n hx hb dX5_isLegal_103 rfl (lv_at hl 4 rfl) ?_
              refine lv_iload_n hx hb dX5_isLegal_104 rfl (lv_at hl 5 rfl) ?_
              refine lv_iload_n hx hb dX5_isLegal_105 rfl (lv_at hl 3 rfl) ?_
              refine lv_iload hx hb dX5_isLegal_106 (lv_at hl 2 rfl) ?_
              refine roI (rnV (As := [.int (nI b), .int (nI f), .int (nI t)]) (rest := []) S0 (c_X5_goes l bd sd rt ps b f t (by omega) hf ht hBd) wm_X5_83 wi_X5_goes ws_X5_goes wn_X5 wc_X5_goes hd_X5_goes ⟨rfl, rfl, by decide, by decide⟩ IW.blind (va_recv hK hP (ci := 4) (q0 := 0) rfl rfl) (IW.at hP hD hK hA hE hS) hl.1 (Nat.le_of_ble_eq_true rfl) dX5_isLegal_108 rfl ⟨by decide, by decide⟩) (fun r_2 hr_2 => ?_)
              subst hr_2
              refine lb_if_ne (tgt := 116) hx hb dX5_isLegal_111 (by decide) (fun c111 => ?_) (fun c111 => ?_)
              · skip
                have hpr : pre bd sd rt ps f t k = true := by
                  unfold pre; rw [decide_eq_false c78, decide_eq_true c94, decide_eq_false c100, c111]; rfl
                refine lv_aload_n hx hb dX5_isLegal_116 rfl (lv_at hl 4 rfl) ?_
                refine lv_iload_n hx hb dX5_isLegal_117 rfl (lv_at hl 5 rfl) ?_
                refine lv_iload_n hx hb dX5_isLegal_118 rfl (lv_at hl 5 rfl) ?_
                refine lv_bipush (v := (nI 67)) hx hb dX5_isLegal_119 (by decide) ?_
                refine ln_iadd hx hb dX5_isLegal_121 ?_
                refine lv_iload_n hx hb dX5_isLegal_122 rfl (lv_at hl 6 rfl) ?_
                refine chV (rnV (As := [.int (nI b), .int (nI (b + 67)), .int (nI (f + 64 * t + 4096 * k))]) (rest := []) S0 (c_X5_behind l bd sd rt ps b (b + 67) f t k (by omega) (by omega) hf ht hk6 c111 hBd) wm_X5_86 wi_X5_behind ws_X5_behind wn_X5 wc_X5_behind hd_X5_behind ⟨rfl, rfl, by decide, by decide⟩ IW.blind (va_recv hK hP (ci := 4) (q0 := 0) rfl rfl) (IW.at hP hD hK hA hE hS) hl.1 (Nat.le_of_ble_eq_true rfl) dX5_isLegal_123 rfl ⟨by decide, by decide⟩) hS (fun u_4 H locs hu hP hD hS => ?_)
                obtain ⟨hBn, hAn⟩ := hu
                have hP : va_P D classes (rW cI hm b0 b1 b2 b3 th mk sz u_4 mv kp li) H := hP
                have hD : va_D A (rW cI hm b0 b1 b2 b3 th mk sz u_4 mv kp li) := hD
                refine lv_aload_n hx hb dX5_isLegal_126 rfl (lv_at hl 4 rfl) ?_
                refine lv_iload_n hx hb dX5_isLegal_127 rfl (lv_at hl 5 rfl) ?_
                refine lv_bipush (v := (nI 67)) hx hb dX5_isLegal_128 (by decide) ?_
                refine ln_iadd hx hb dX5_isLegal_130 ?_
                refine lv_aload_n hx hb dX5_isLegal_131 rfl (lv_at hl 4 rfl) ?_
                refine va_get (D := D) (ci := 4) (v := .ref b0) (C := RX5) (T := TX5) (N := 7) hx hb hG wu_X5 hown hK hP 0 rfl rfl 1 (by decide) (hG _ wf_X5_7) (fun _ h9 => h9) rfl dX5_isLegal_132 ?_
                refine lv_iload_n hx hb dX5_isLegal_135 rfl (lv_at hl 5 rfl) ?_
                refine lv_bipush (v := (nI 64)) hx hb dX5_isLegal_136 (by decide) ?_
                refine ln_iadd hx hb dX5_isLegal_138 ?_
                refine va_iald hx hb hK hP 1 0 rfl rfl (vp_in_nI (by omega) (by decide)) dX5_isLegal_139 ?_
                refine W.top (y := .int (u_4 (b + 64))) (congrArg (fun z => Value.int (u_4 z)) (nI_clamp (by omega))) ?_
                refine W.top (y := .int (nI sd)) (congrArg Value.int ((hAn _ (by omega)).trans hsd)) ?_
                refine roI (rnV (As := [.int (nI (b + 67)), .int (nI sd)]) (rest := []) S0 (c_X5_isChecked l (bhB bd sd ps f t k) (b + 67) sd (by omega) hs2 hBn.1 (bh_kgs (rt := rt) (fun q hq => (hBp q hq).2) hs2 hs2 hf ht hk6 hpr hkg)) wm_X5_63 wi_X5_isChecked ws_X5_isChecked wn_X5 wc_X5_isChecked hd_X5_isChecked ⟨rfl, rfl, by decide, by decide⟩ IW.blind (va_recv hK hP (ci := 4) (q0 := 0) rfl rfl) (IW.at hP hD hK hA hE hS) hl.1 (Nat.le_of_ble_eq_true rfl) dX5_isLegal_140 rfl ⟨by decide, by decide⟩) (fun r_5 hr_5 => ?_)
                subst hr_5
                refine lb_if_ne (tgt := 150) hx hb dX5_isLegal_143 (by decide) (fun c143 => ?_) (fun c143 => ?_)
                · skip
                  refine lv_iconst (v := (nI 0)) hx hb dX5_isLegal_150 (by decide) ?_
                  exact weZ (v := false) (u_4) hx hb hr hlocks dX5_isLegal_151 ⟨congrArg bI (by unfold lgl; rw [hpr, c143]; rfl), hAn⟩ hP hD hK hA hE hS
                · skip
                  refine lv_iconst (v := (nI 1)) hx hb dX5_isLegal_146 (by decide) ?_
                  refine lv_goto (tgt := 151) hx hb dX5_isLegal_147 (by decide) ?_
                  exact weZ (v := true) (u_4) hx hb hr hlocks dX5_isLegal_151 ⟨congrArg bI (by unfold lgl; rw [hpr, c143]; rfl), hAn⟩ hP hD hK hA hE hS
              · skip
                refine lv_iconst (v := (nI 0)) hx hb dX5_isLegal_114 (by decide) ?_
                exact weZ (v := false) (F) hx hb hr hlocks dX5_isLegal_115 ⟨congrArg bI (lgl_0 (by unfold pre; first | (rw [decide_eq_true c78]; rfl) | (rw [decide_eq_false c78, decide_eq_false c94]; rfl) | (rw [decide_eq_false c78, decide_eq_true c94, decide_eq_true c100]; rfl) | (rw [decide_eq_false c78, decide_eq_true c94, decide_eq_false c100, c111]; rfl))).symm, Ag.rf⟩ hP hD hK hA hE hS
        · skip
          refine ln_icmp_le (tgt := 93) hx hb dX5_isLegal_86 (by decide) (by omega) (by decide) (fun c86 => ?_) (fun c86 => ?_)
          · skip
            refine lv_iconst (v := (nI 0)) hx hb dX5_isLegal_93 (by decide) ?_
            refine W.top (y := .int (bI (decide (1 < k)))) (congrArg Value.int (by first | (rw [decide_eq_true (show 1 < k by omega)]; rfl) | (rw [decide_eq_false (show ¬ 1 < k by omega)]; rfl))) ?_
            exact hj_94 ls (lv_sub hl [0, 1, 2, 3, 4, 5, 6] rfl)
          · skip
            refine lv_iconst (v := (nI 1)) hx hb dX5_isLegal_89 (by decide) ?_
            refine lv_goto (tgt := 94) hx hb dX5_isLegal_90 (by decide) ?_
            refine W.top (y := .int (bI (decide (1 < k)))) (congrArg Value.int (by first | (rw [decide_eq_true (show 1 < k by omega)]; rfl) | (rw [decide_eq_false (show ¬ 1 < k by omega)]; rfl))) ?_
            exact hj_94 ls (lv_sub hl [0, 1, 2, 3, 4, 5, 6] rfl)
  · skip
    refine ln_icmp_ne (tgt := 66) hx hb dX5_isLegal_33 (by decide) (by omega) (by decide) (fun c33 => ?_) (fun c33 => ?_)
    · skip
      refine lv_iconst (v := (nI 0)) hx hb dX5_isLegal_66 (by decide) ?_
      refine W.top (y := .int (bI (lst bd sd f t))) (congrArg Value.int (by unfold lst; first | (rw [decide_eq_true c33, decide_eq_true c59]; rfl) | (rw [decide_eq_true c33, decide_eq_false c59]; rfl) | (rw [decide_eq_false c33]; rfl))) ?_
      exact hj_67 ls (lv_sub hl [0, 1, 2, 3, 4, 5] rfl)
    · skip
      refine lv_iload hx hb dX5_isLegal_36 (lv_at hl 1 rfl) ?_
      refine lv_bipush (v := (nI 8)) hx hb dX5_isLegal_38 (by decide) ?_
      refine ln_idiv hx hb dX5_isLegal_40 (by omega) (by decide) (by decide) ?_
      refine lv_aload_n hx hb dX5_isLegal_41 rfl (lv_at hl 3 rfl) ?_
      refine va_get (D := D) (ci := 4) (v := .ref b0) (C := RX5) (T := TX5) (N := 7) hx hb hG wu_X5 hown hK hP 0 rfl rfl 1 (by decide) (hG _ wf_X5_7) (fun _ h9 => h9) rfl dX5_isLegal_42 ?_
      refine lv_iload_n hx hb dX5_isLegal_45 rfl (lv_at hl 4 rfl) ?_
      refine lv_bipush (v := (nI 64)) hx hb dX5_isLegal_46 (by decide) ?_
      refine ln_iadd hx hb dX5_isLegal_48 ?_
      refine va_iald hx hb hK hP 1 0 rfl rfl (vp_in_nI (by omega) (by decide)) dX5_isLegal_49 ?_
      refine W.top (y := .int (F (b + 64))) (congrArg (fun z => Value.int (F z)) (nI_clamp (by omega))) ?_
      refine W.top (y := .int (nI sd)) (congrArg Value.int hsd) ?_
      refine jnG 59 7 [(5, .int (nI k)), (4, .int (nI t)), (3, .int (nI f)), (0, .ref hm), (1, .int (nI b)), (2, .int (nI (f + 64 * t + 4096 * k)))] [.int (nI (if sd = 0 then 7 else 0)), .int (nI (t / 8))] ?_ (fun hj_59 => ?_)
      · intro ls hl
        have hif : (if sd = 0 then 7 else 0) < 8 := by split <;> omega
        refine ln_icmp_ne (tgt := 66) hx hb dX5_isLegal_59 (by decide) (by omega) (by omega) (fun c59 => ?_) (fun c59 => ?_)
        · skip
          refine lv_iconst (v := (nI 0)) hx hb dX5_isLegal_66 (by decide) ?_
          refine W.top (y := .int (bI (lst bd sd f t))) (congrArg Value.int (by unfold lst; first | (rw [decide_eq_true c33, decide_eq_true c59]; rfl) | (rw [decide_eq_true c33, decide_eq_false c59]; rfl) | (rw [decide_eq_false c33]; rfl))) ?_
          exact hj_67 ls (lv_sub hl [0, 1, 2, 3, 4, 5] rfl)
        · skip
          refine lv_iconst (v := (nI 1)) hx hb dX5_isLegal_62 (by decide) ?_
          refine lv_goto (tgt := 67) hx hb dX5_isLegal_63 (by decide) ?_
          refine W.top (y := .int (bI (lst bd sd f t))) (congrArg Value.int (by unfold lst; first | (rw [decide_eq_true c33, decide_eq_true c59]; rfl) | (rw [decide_eq_true c33, decide_eq_false c59]; rfl) | (rw [decide_eq_false c33]; rfl))) ?_
          exact hj_67 ls (lv_sub hl [0, 1, 2, 3, 4, 5] rfl)
      · skip
        refine ln_if_ne (tgt := 58) hx hb dX5_isLegal_50 (by decide) (by omega) (fun c50 => ?_) (fun c50 => ?_)
        · skip
          refine lv_iconst (v := (nI 0)) hx hb dX5_isLegal_58 (by decide) ?_
          refine W.top (y := .int (nI (if sd = 0 then 7 else 0))) (congrArg Value.int (congrArg nI (by first | rw [if_pos c50] | rw [if_neg c50]))) ?_
          exact hj_59 ls (lv_sub hl [0, 1, 2, 3, 4, 5] rfl)
        · skip
          refine lv_bipush (v := (nI 7)) hx hb dX5_isLegal_53 (by decide) ?_
          refine lv_goto (tgt := 59) hx hb dX5_isLegal_55 (by decide) ?_
          refine W.top (y := .int (nI (if sd = 0 then 7 else 0))) (congrArg Value.int (congrArg nI (by first | rw [if_pos c50] | rw [if_neg c50]))) ?_
          exact hj_59 ls (lv_sub hl [0, 1, 2, 3, 4, 5] rfl)
theorem dX5_listed_0 : decode cX5_listed 0 = .ok (.iconst 0, 1) := by decide +kernel
theorem dX5_listed_1 : decode cX5_listed 1 = .ok (.istore_n 3, 1) := by decide +kernel
theorem dX5_listed_2 : decode cX5_listed 2 = .ok (.iconst 0, 1) := by decide +kernel
theorem dX5_listed_3 : decode cX5_listed 3 = .ok (.istore 4, 2) := by decide +kernel
theorem dX5_listed_5 : decode cX5_listed 5 = .ok (.iload 4, 2) := by decide +kernel
theorem dX5_listed_7 : decode cX5_listed 7 = .ok (.bipush 64, 2) := by decide +kernel
theorem dX5_listed_9 : decode cX5_listed 9 = .ok (.if_icmp .ge 105, 3) := by decide +kernel
theorem dX5_listed_12 : decode cX5_listed 12 = .ok (.iconst 0, 1) := by decide +kernel
theorem dX5_listed_13 : decode cX5_listed 13 = .ok (.istore 5, 2) := by decide +kernel
theorem dX5_listed_15 : decode cX5_listed 15 = .ok (.iload 5, 2) := by decide +kernel
theorem dX5_listed_17 : decode cX5_listed 17 = .ok (.bipush 64, 2) := by decide +kernel
theorem dX5_listed_19 : decode cX5_listed 19 = .ok (.if_icmp .ge 89, 3) := by decide +kernel
theorem dX5_listed_22 : decode cX5_listed 22 = .ok (.aload_n 0, 1) := by decide +kernel
theorem dX5_listed_23 : decode cX5_listed 23 = .ok (.getfield 7, 3) := by decide +kernel
theorem dX5_listed_26 : decode cX5_listed 26 = .ok (.iload_n 1, 1) := by decide +kernel
theorem dX5_listed_27 : decode cX5_listed 27 = .ok (.iload 4, 2) := by decide +kernel
theorem dX5_listed_29 : decode cX5_listed 29 = .ok (.iadd, 1) := by decide +kernel
theorem dX5_listed_30 : decode cX5_listed 30 = .ok (.iaload, 1) := by decide +kernel
theorem dX5_listed_31 : decode cX5_listed 31 = .ok (.invokestatic 51, 3) := by decide +kernel
theorem dX5_listed_34 : decode cX5_listed 34 = .ok (.aload_n 0, 1) := by decide +kernel
theorem dX5_listed_35 : decode cX5_listed 35 = .ok (.getfield 7, 3) := by decide +kernel
theorem dX5_listed_38 : decode cX5_listed 38 = .ok (.iload_n 1, 1) := by decide +kernel
theorem dX5_listed_39 : decode cX5_listed 39 = .ok (.bipush 64, 2) := by decide +kernel
theorem dX5_listed_41 : decode cX5_listed 41 = .ok (.iadd, 1) := by decide +kernel
theorem dX5_listed_42 : decode cX5_listed 42 = .ok (.iaload, 1) := by decide +kernel
theorem dX5_listed_43 : decode cX5_listed 43 = .ok (.if_icmp .ne 65, 3) := by decide +kernel
theorem dX5_listed_46 : decode cX5_listed 46 = .ok (.iconst 0, 1) := by decide +kernel
theorem dX5_listed_47 : decode cX5_listed 47 = .ok (.istore 6, 2) := by decide +kernel
theorem dX5_listed_49 : decode cX5_listed 49 = .ok (.iload 6, 2) := by decide +kernel
theorem dX5_listed_51 : decode cX5_listed 51 = .ok (.bipush 6, 2) := by decide +kernel
theorem dX5_listed_53 : decode cX5_listed 53 = .ok (.if_icmp .ge 49, 3) := by decide +kernel
theorem dX5_listed_56 : decode cX5_listed 56 = .ok (.iload 4, 2) := by decide +kernel
theorem dX5_listed_58 : decode cX5_listed 58 = .ok (.bipush 64, 2) := by decide +kernel
theorem dX5_listed_60 : decode cX5_listed 60 = .ok (.iload 5, 2) := by decide +kernel
theorem dX5_listed_62 : decode cX5_listed 62 = .ok (.imul, 1) := by decide +kernel
theorem dX5_listed_63 : decode cX5_listed 63 = .ok (.iadd, 1) := by decide +kernel
theorem dX5_listed_64 : decode cX5_listed 64 = .ok (.sipush 4096, 3) := by decide +kernel
theorem dX5_listed_67 : decode cX5_listed 67 = .ok (.iload 6, 2) := by decide +kernel
theorem dX5_listed_69 : decode cX5_listed 69 = .ok (.imul, 1) := by decide +kernel
theorem dX5_listed_70 : decode cX5_listed 70 = .ok (.iadd, 1) := by decide +kernel
theorem dX5_listed_71 : decode cX5_listed 71 = .ok (.istore 7, 2) := by decide +kernel
theorem dX5_listed_73 : decode cX5_listed 73 = .ok (.aload_n 0, 1) := by decide +kernel
theorem dX5_listed_74 : decode cX5_listed 74 = .ok (.iload_n 1, 1) := by decide +kernel
theorem dX5_listed_75 : decode cX5_listed 75 = .ok (.iload 7, 2) := by decide +kernel
theorem dX5_listed_77 : decode cX5_listed 77 = .ok (.invokevirtual 90, 3) := by decide +kernel
theorem dX5_listed_80 : decode cX5_listed 80 = .ok (.ifCond .eq 16, 3) := by decide +kernel
theorem dX5_listed_83 : decode cX5_listed 83 = .ok (.aload_n 0, 1) := by decide +kernel
theorem dX5_listed_84 : decode cX5_listed 84 = .ok (.getfield 19, 3) := by decide +kernel
theorem dX5_listed_87 : decode cX5_listed 87 = .ok (.iload_n 2, 1) := by decide +kernel
theorem dX5_listed_88 : decode cX5_listed 88 = .ok (.iload_n 3, 1) := by decide +kernel
theorem dX5_listed_89 : decode cX5_listed 89 = .ok (.iadd, 1) := by decide +kernel
theorem dX5_listed_90 : decode cX5_listed 90 = .ok (.iload 7, 2) := by decide +kernel
theorem dX5_listed_92 : decode cX5_listed 92 = .ok (.iastore, 1) := by decide +kernel
theorem dX5_listed_93 : decode cX5_listed 93 = .ok (.iinc 3 1, 3) := by decide +kernel
theorem dX5_listed_96 : decode cX5_listed 96 = .ok (.iinc 6 1, 3) := by decide +kernel
theorem dX5_listed_99 : decode cX5_listed 99 = .ok (.goto (-50), 3) := by decide +kernel
theorem dX5_listed_102 : decode cX5_listed 102 = .ok (.iinc 5 1, 3) := by decide +kernel
theorem dX5_listed_105 : decode cX5_listed 105 = .ok (.goto (-90), 3) := by decide +kernel
theorem dX5_listed_108 : decode cX5_listed 108 = .ok (.iinc 4 1, 3) := by decide +kernel
theorem dX5_listed_111 : decode cX5_listed 111 = .ok (.goto (-106), 3) := by decide +kernel
theorem dX5_listed_114 : decode cX5_listed 114 = .ok (.iload_n 3, 1) := by decide +kernel
theorem dX5_listed_115 : decode cX5_listed 115 = .ok (.ireturn, 1) := by decide +kernel
theorem hd_X5_listed : yX5_listed.cls ≠ "java/lang/invoke/MethodHandle" ∧ yX5_listed.cls ≠ "java/lang/invoke/VarHandle" ∧ (parseMethodDescriptor yX5_listed.desc).map (fun d => d.parameters.length) = some 2 := by decide +kernel
set_option maxHeartbeats 4000000 in
set_option maxRecDepth 100000 in
/-- listed -/
theorem c_X5_listed (l : Launch) {D : va_G} {cI cJ : ClassId} {A : Nat → Prop} {hm b0 b1 b2 b3 : Nat} {th mk sz : Int32} {F mv kp li : Nat → Int32} (bd : Nat → Nat) (sd rt ps b : Nat) (hb9 : b ≤ 200) (hBd : Bd F b bd sd rt ps) (hkg : kgs bd sd < 64) (hLen : (legs bd sd rt ps).length ≤ 1024) : Met l yX5_listed (Cond.code yX5_listed cX5_listed 8 (some .int) :: wsL_law) (rK 6) (va_Pc [.ref hm, .int (nI b), .int (nI 0)] (IW D cI cJ A (rW cI hm b0 b1 b2 b3 th mk sz F mv kp li))) (va_Qi (fun r u => r = nI (legs bd sd rt ps).length ∧ Ag F u.1 (b + 67) ∧ LI u.2 (legs bd sd rt ps)) (fun (u : (Nat → Int32) × (Nat → Int32)) t => IW D cI cJ A (rW cI hm b0 b1 b2 b3 th mk sz u.1 mv kp u.2) t) A) 0 0 A := by
  refine entM (by decide) (Nat.le_of_ble_eq_true rfl) ?_
  intro p e s m below meth c ls S0 hr hlocks hG hnm hB hl
  have hx := S0.1
  have hb := S0.2.1
  have hown := S0.2.2.2.1
  have hl : lv_has ls 8 [(0, .ref hm), (1, .int (nI b)), (2, .int (nI 0))] := hl
  obtain ⟨hP, hD, hK, hA, hE⟩ := hB
  have hS : va_S A s.heap s.heap [] := va_S.rf
  obtain ⟨hBp, hsd, hs2, hrt, hr16, hps, hp65⟩ := id hBd
  have hLL : ∀ n, n ≤ 24576 → (lgN bd sd rt ps n).length ≤ 1024 := fun n hn => Nat.le_trans (lgN_len bd sd rt ps n 24576 hn) hLen
  refine lv_iconst (v := (nI 0)) hx hb dX5_listed_0 (by decide) ?_
  refine W.top (y := .int (nI ((lgN bd sd rt ps (0 * 384)).length))) (congrArg Value.int rfl) ?_
  refine lv_istore_n (lv' := [(3, .int (nI ((lgN bd sd rt ps (0 * 384)).length))), (0, .ref hm), (1, .int (nI b)), (2, .int (nI 0))]) hx hb dX5_listed_1 rfl hl (by decide) rfl (fun ls hl => ?_)
  refine lv_iconst (v := (nI 0)) hx hb dX5_listed_2 (by decide) ?_
  refine lv_istore (lv' := [(4, .int (nI 0)), (3, .int (nI ((lgN bd sd rt ps (0 * 384)).length))), (0, .ref hm), (1, .int (nI b)), (2, .int (nI 0))]) hx hb dX5_listed_3 hl (by decide) rfl (fun ls hl => ?_)
  refine lpW (σ := (Nat) × (Nat → Int32) × (Nat → Int32)) 5 8 [] (fun x9 => [(0, .ref hm), (1, .int (nI b)), (2, .int (nI 0)), (3, .int (nI ((lgN bd sd rt ps (x9.1 * 384)).length))), (4, .int (nI x9.1))]) (fun x9 => rW cI hm b0 b1 b2 b3 th mk sz x9.2.1 mv kp x9.2.2) (fun x9 => x9.1 ≤ 64 ∧ Ag F x9.2.1 (b + 67) ∧ LI x9.2.2 (lgN bd sd rt ps (x9.1 * 384))) (fun x9 => 64 - x9.1) (0, F, li) ⟨Nat.zero_le _, Ag.rf, LI_nil⟩ (lv_sub hl [2, 3, 4, 1, 0] rfl) hP hD hS ?_
  clear hP hD hS hl ls
  rintro ⟨f, G, M⟩ H locs hI hP hD hS ih_5 ls hl
  try dsimp only at hI ih_5 hl hP hD
  obtain ⟨hf, hAg, hLI⟩ := hI
  have hl1 := hLL (f * 384) (by omega)
  refine lv_iload hx hb dX5_listed_5 (lv_at hl 4 rfl) ?_
  refine lv_bipush (v := (nI 64)) hx hb dX5_listed_7 (by decide) ?_
  refine ln_icmp_ge (tgt := 114) hx hb dX5_listed_9 (by decide) (by omega) (by decide) (fun c9 => ?_) (fun c9 => ?_)
  · skip
    have hf64 : f = 64 := by omega
    rw [hf64] at hLI hl
    refine lv_iload_n hx hb dX5_listed_114 rfl (lv_at hl 3 rfl) ?_
    exact weI ((G, M)) hx hb hr hlocks dX5_listed_115 ⟨rfl, hAg, hLI⟩ hP hD hK hA hE hS
  · skip
    have hf : f < 64 := by omega
    have hBg := hAg.Bd (by omega) hBd
    obtain ⟨hfv, hfb⟩ := hBp f hf
    refine lv_iconst (v := (nI 0)) hx hb dX5_listed_12 (by decide) ?_
    refine lv_istore (lv' := [(5, .int (nI 0)), (0, .ref hm), (1, .int (nI b)), (2, .int (nI 0)), (3, .int (nI ((lgN bd sd rt ps (f * 384)).length))), (4, .int (nI f))]) hx hb dX5_listed_13 hl (by decide) rfl (fun ls hl => ?_)
    clear hBg
    refine lpW (σ := (Nat) × (Nat → Int32) × (Nat → Int32)) 15 8 [] (fun x9 => [(0, .ref hm), (1, .int (nI b)), (2, .int (nI 0)), (3, .int (nI ((lgN bd sd rt ps (f * 384 + x9.1 * 6)).length))), (4, .int (nI f)), (5, .int (nI x9.1))]) (fun x9 => rW cI hm b0 b1 b2 b3 th mk sz x9.2.1 mv kp x9.2.2) (fun x9 => x9.1 ≤ 64 ∧ Ag F x9.2.1 (b + 67) ∧ LI x9.2.2 (lgN bd sd rt ps (f * 384 + x9.1 * 6))) (fun x9 => 64 - x9.1) (0, G, M) ⟨Nat.zero_le _, hAg, hLI⟩ (lv_sub hl [1, 2, 3, 4, 5, 0] rfl) hP hD hS ?_
    clear hP hD hS hl ls
    rintro ⟨t, G, M⟩ H locs hI hP hD hS ih_15 ls hl
    try dsimp only at hI ih_15 hl hP hD
    clear hAg hLI
    obtain ⟨ht, hAg, hLI⟩ := hI
    have hl2 := hLL (f * 384 + t * 6) (by omega)
    have hBg := hAg.Bd (by omega) hBd
    refine lv_iload hx hb dX5_listed_15 (lv_at hl 5 rfl) ?_
    refine lv_bipush (v := (nI 64)) hx hb dX5_listed_17 (by decide) ?_
    refine ln_icmp_ge (tgt := 108) hx hb dX5_listed_19 (by decide) (by omega) (by decide) (fun c19 => ?_) (fun c19 => ?_)
    · skip
      refine lv_iinc (v := (nI (f + 1))) (lv' := [(4, .int (nI (f + 1))), (0, .ref hm), (1, .int (nI b)), (2, .int (nI 0)), (3, .int (nI ((lgN bd sd rt ps (f * 384 + t * 6)).length))), (5, .int (nI t))]) hx hb dX5_listed_108 hl (k := 4) rfl (show nI f + Int32.ofInt 1 = nI (f + 1) from nI_add _ 1) (by decide) rfl (fun ls hl => ?_)
      refine lv_goto (tgt := 5) hx hb dX5_listed_111 (by decide) ?_
      have hlq : lgN bd sd rt ps (f * 384 + t * 6) = lgN bd sd rt ps ((f + 1) * 384) := by
        first | (rw [show (f + 1) * 384 = f * 384 + 384 by omega, lgN_skip c43 384 (by omega), lgN_skip c43 _ (by omega)]) | (rw [show f * 384 + t * 6 = (f + 1) * 384 by omega])
      rw [hlq] at hl hLI
      exact ih_5 ((f + 1), G, M) H locs ⟨by omega, hAg, hLI⟩ (by (try dsimp only); omega) hP hD hS ls (lv_sub hl [1, 2, 3, 4, 0] rfl)
    · skip
      have ht : t < 64 := by omega
      refine lv_aload_n hx hb dX5_listed_22 rfl (lv_at hl 0 rfl) ?_
      refine va_get (D := D) (ci := 4) (v := .ref b0) (C := RX5) (T := TX5) (N := 7) hx hb hG wu_X5 hown hK hP 0 rfl rfl 1 (by decide) (hG _ wf_X5_7) (fun _ h9 => h9) rfl dX5_listed_23 ?_
      refine lv_iload_n hx hb dX5_listed_26 rfl (lv_at hl 1 rfl) ?_
      refine lv_iload hx hb dX5_listed_27 (lv_at hl 4 rfl) ?_
      refine ln_iadd hx hb dX5_listed_29 ?_
      refine va_iald hx hb hK hP 1 0 rfl rfl (vp_in_nI (by omega) (by decide)) dX5_listed_30 ?_
      refine W.top (y := .int (G (b + f))) (congrArg (fun z => Value.int (G z)) (nI_clamp (by omega))) ?_
      refine W.top (y := .int (nI (bd f))) (congrArg Value.int ((hAg _ (by omega)).trans hfv)) ?_
      refine roI (rnS (As := [.int (nI (bd f))]) (rest := []) S0 (c_X5_sideOf l (bd f) (by omega)) wm_X5_51 wt_X5_sideOf wn_X5 wc_X5_sideOf hd_X5_sideOf ⟨rfl, rfl, by decide, by decide⟩ True.blind (fun _ _ _ => trivial) hl.1 (Nat.le_of_ble_eq_true rfl) dX5_listed_31 rfl ⟨by decide, by decide⟩) (fun r_1 hr_1 => ?_)
      subst hr_1
      refine lv_aload_n hx hb dX5_listed_34 rfl (lv_at hl 0 rfl) ?_
      refine va_get (D := D) (ci := 4) (v := .ref b0) (C := RX5) (T := TX5) (N := 7) hx hb hG wu_X5 hown hK hP 0 rfl rfl 1 (by decide) (hG _ wf_X5_7) (fun _ h9 => h9) rfl dX5_listed_35 ?_
      refine lv_iload_n hx hb dX5_listed_38 rfl (lv_at hl 1 rfl) ?_
      refine lv_bipush (v := (nI 64)) hx hb dX5_listed_39 (by decide) ?_
      refine ln_iadd hx hb dX5_listed_41 ?_
      refine va_iald hx hb hK hP 1 0 rfl rfl (vp_in_nI (by omega) (by decide)) dX5_listed_42 ?_
      refine W.top (y := .int (G (b + 64))) (congrArg (fun z => Value.int (G z)) (nI_clamp (by omega))) ?_
      refine W.top (y := .int (nI sd)) (congrArg Value.int hBg.2.1) ?_
      refine lv_icmp_ne (tgt := 108) hx hb dX5_listed_43 (by decide) (fun c43 => ?_) (fun c43 => ?_)
      · skip
        rw [sdI_eq hs2] at c43
        refine lv_iinc (v := (nI (f + 1))) (lv' := [(4, .int (nI (f + 1))), (0, .ref hm), (1, .int (nI b)), (2, .int (nI 0)), (3, .int (nI ((lgN bd sd rt ps (f * 384 + t * 6)).length))), (5, .int (nI t))]) hx hb dX5_listed_108 hl (k := 4) rfl (show nI f + Int32.ofInt 1 = nI (f + 1) from nI_add _ 1) (by decide) rfl (fun ls hl => ?_)
        refine lv_goto (tgt := 5) hx hb dX5_listed_111 (by decide) ?_
        have hlq : lgN bd sd rt ps (f * 384 + t * 6) = lgN bd sd rt ps ((f + 1) * 384) := by
          first | (rw [show (f + 1) * 384 = f * 384 + 384 by omega, lgN_skip c43 384 (by omega), lgN_skip c43 _ (by omega)]) | (rw [show f * 384 + t * 6 = (f + 1) * 384 by omega])
        rw [hlq] at hl hLI
        exact ih_5 ((f + 1), G, M) H locs ⟨by omega, hAg, hLI⟩ (by (try dsimp only); omega) hP hD hS ls (lv_sub hl [1, 2, 3, 4, 0] rfl)
      · skip
        rw [sdI_eq hs2] at c43
        refine lv_iconst (v := (nI 0)) hx hb dX5_listed_46 (by decide) ?_
        refine lv_istore (lv' := [(6, .int (nI 0)), (0, .ref hm), (1, .int (nI b)), (2, .int (nI 0)), (3, .int (nI ((lgN bd sd rt ps (f * 384 + t * 6)).length))), (4, .int (nI f)), (5, .int (nI t))]) hx hb dX5_listed_47 hl (by decide) rfl (fun ls hl => ?_)
        clear hBg
        refine lpW (σ := (Nat) × (Nat → Int32) × (Nat → Int32)) 49 8 [] (fun x9 => [(0, .ref hm), (1, .int (nI b)), (2, .int (nI 0)), (3, .int (nI ((lgN bd sd rt ps (f * 384 + t * 6 + x9.1)).length))), (4, .int (nI f)), (5, .int (nI t)), (6, .int (nI x9.1))]) (fun x9 => rW cI hm b0 b1 b2 b3 th mk sz x9.2.1 mv kp x9.2.2) (fun x9 => x9.1 ≤ 6 ∧ Ag F x9.2.1 (b + 67) ∧ LI x9.2.2 (lgN bd sd rt ps (f * 384 + t * 6 + x9.1))) (fun x9 => 6 - x9.1) (0, G, M) ⟨Nat.zero_le _, hAg, hLI⟩ (lv_sub hl [1, 2, 3, 4, 5, 6, 0] rfl) hP hD hS ?_
        clear hP hD hS hl ls
        rintro ⟨k, G, M⟩ H locs hI hP hD hS ih_49 ls hl
        try dsimp only at hI ih_49 hl hP hD
        clear hAg hLI
        obtain ⟨hk, hAg, hLI⟩ := hI
        have hl3 := hLL (f * 384 + t * 6 + k) (by omega)
        have hBg := hAg.Bd (by omega) hBd
        refine lv_iload hx hb dX5_listed_49 (lv_at hl 6 rfl) ?_
        refine lv_bipush (v := (nI 6)) hx hb dX5_listed_51 (by decide) ?_
        refine ln_icmp_ge (tgt := 102) hx hb dX5_listed_53 (by decide) (by omega) (by decide) (fun c53 => ?_) (fun c53 => ?_)
        · skip
          refine lv_iinc (v := (nI (t + 1))) (lv' := [(5, .int (nI (t + 1))), (0, .ref hm), (1, .int (nI b)), (2, .int (nI 0)), (3, .int (nI ((lgN bd sd rt ps (f * 384 + t * 6 + k)).length))), (4, .int (nI f)), (6, .int (nI k))]) hx hb dX5_listed_102 hl (k := 5) rfl (show nI t + Int32.ofInt 1 = nI (t + 1) from nI_add _ 1) (by decide) rfl (fun ls hl => ?_)
          refine lv_goto (tgt := 15) hx hb dX5_listed_105 (by decide) ?_
          have hlq : lgN bd sd rt ps (f * 384 + t * 6 + k) = lgN bd sd rt ps (f * 384 + (t + 1) * 6) := by rw [show f * 384 + t * 6 + k = f * 384 + (t + 1) * 6 by omega]
          rw [hlq] at hl hLI
          exact ih_15 ((t + 1), G, M) H locs ⟨by omega, hAg, hLI⟩ (by (try dsimp only); omega) hP hD hS ls (lv_sub hl [1, 2, 3, 4, 5, 0] rfl)
        · skip
          have hk : k < 6 := by omega
          have hl4 := hLL (f * 384 + t * 6 + k + 1) (by omega)
          have hx1 : (f * 384 + t * 6 + k) / 384 = f := by omega
          have hx2 : (f * 384 + t * 6 + k) / 6 % 64 = t := by omega
          have hx3 : (f * 384 + t * 6 + k) % 6 = k := by omega
          have hxl : lgx bd sd rt ps (f * 384 + t * 6 + k) = lgl bd sd rt ps f t k := by unfold lgx; rw [hx1, hx2, hx3]
          have hxm : mvx (f * 384 + t * 6 + k) = f + 64 * t + 4096 * k := by unfold mvx; rw [hx1, hx2, hx3]
          have hls := lgN_s bd sd rt ps (f * 384 + t * 6 + k)
          rw [hxl, hxm] at hls
          refine lv_iload hx hb dX5_listed_56 (lv_at hl 4 rfl) ?_
          refine lv_bipush (v := (nI 64)) hx hb dX5_listed_58 (by decide) ?_
          refine lv_iload hx hb dX5_listed_60 (lv_at hl 5 rfl) ?_
          refine ln_imul hx hb dX5_listed_62 ?_
          refine ln_iadd hx hb dX5_listed_63 ?_
          refine lv_sipush (v := (nI 4096)) hx hb dX5_listed_64 (by decide) ?_
          refine lv_iload hx hb dX5_listed_67 (lv_at hl 6 rfl) ?_
          refine ln_imul hx hb dX5_listed_69 ?_
          refine ln_iadd hx hb dX5_listed_70 ?_
          refine lv_istore (lv' := [(7, .int (nI ((f + (64 * t)) + (4096 * k)))), (0, .ref hm), (1, .int (nI b)), (2, .int (nI 0)), (3, .int (nI ((lgN bd sd rt ps (f * 384 + t * 6 + k)).length))), (4, .int (nI f)), (5, .int (nI t)), (6, .int (nI k))]) hx hb dX5_listed_71 hl (by decide) rfl (fun ls hl => ?_)
          refine lv_aload_n hx hb dX5_listed_73 rfl (lv_at hl 1 rfl) ?_
          refine lv_iload_n hx hb dX5_listed_74 rfl (lv_at hl 2 rfl) ?_
          refine lv_iload hx hb dX5_listed_75 (lv_at hl 0 rfl) ?_
          refine chI (rnV (As := [.int (nI b), .int (nI ((f + (64 * t)) + (4096 * k)))]) (rest := []) S0 (c_X5_isLegal l bd sd rt ps b hb9 hBg hkg f t k hf ht hk) wm_X5_90 wi_X5_isLegal ws_X5_isLegal wn_X5 wc_X5_isLegal hd_X5_isLegal ⟨rfl, rfl, by decide, by decide⟩ IW.blind (va_recv hK hP (ci := 4) (q0 := 0) rfl rfl) (IW.at hP hD hK hA hE hS) hl.1 (Nat.le_of_ble_eq_true rfl) dX5_listed_77 rfl ⟨by decide, by decide⟩) hS (fun r_2 u_3 H locs hu hP hD hS => ?_)
          obtain ⟨he9, hA9⟩ := hu
          subst he9
          have hP : va_P D classes (rW cI hm b0 b1 b2 b3 th mk sz u_3 mv kp M) H := hP
          have hD : va_D A (rW cI hm b0 b1 b2 b3 th mk sz u_3 mv kp M) := hD
          have hA8 : Ag F _ (b + 67) := fun j hj => (hA9 j hj).trans (hAg j hj)
          refine jnW (σ := (Nat → Int32) × (Nat → Int32)) (D := D) (A := A) (H0 := s.heap) 96 8 (fun x9 => [(0, .ref hm), (1, .int (nI b)), (2, .int (nI 0)), (3, .int (nI ((lgN bd sd rt ps (f * 384 + t * 6 + k + 1)).length))), (4, .int (nI f)), (5, .int (nI t)), (6, .int (nI k))]) [] (fun x9 => rW cI hm b0 b1 b2 b3 th mk sz x9.1 mv kp x9.2) (fun x9 => Ag F x9.1 (b + 67) ∧ LI x9.2 (lgN bd sd rt ps (f * 384 + t * 6 + k + 1))) ?_ (fun hj_96 => ?_)
          · clear hP hD hS hl ls
            rintro ⟨G1, M1⟩ H locs hI hP hD hS ls hl
            try dsimp only at hI hP hD hl
            have hI9 : k + 1 ≤ 6 ∧ Ag F G1 (b + 67) ∧ LI M1 (lgN bd sd rt ps (f * 384 + t * 6 + (k + 1))) := ⟨by omega, hI⟩
            refine lv_iinc (v := (nI (k + 1))) (lv' := [(6, .int (nI (k + 1))), (0, .ref hm), (1, .int (nI b)), (2, .int (nI 0)), (3, .int (nI ((lgN bd sd rt ps (f * 384 + t * 6 + k + 1)).length))), (4, .int (nI f)), (5, .int (nI t))]) hx hb dX5_listed_96 hl (k := 6) rfl (show nI k + Int32.ofInt 1 = nI (k + 1) from nI_add _ 1) (by decide) rfl (fun ls hl => ?_)
            refine lv_goto (tgt := 49) hx hb dX5_listed_99 (by decide) ?_
            exact ih_49 ((k + 1), G1, M1) H locs (by assumption) (by (try dsimp only); omega) hP hD hS ls (lv_sub hl [1, 2, 3, 4, 5, 6, 0] rfl)
          · skip
            refine lb_if_eq (tgt := 96) hx hb dX5_listed_80 (by decide) (fun c80 => ?_) (fun c80 => ?_)
            · skip
              rw [if_neg (by rw [c80]; decide), List.append_nil] at hls
              rw [← hls] at hl hLI
              exact hj_96 (u_3, M) H locs (by first | exact ⟨hA8, hLI⟩ | exact ⟨hA8, hLI2⟩) hP hD hS ls (lv_sub hl [1, 2, 3, 4, 5, 6, 7] rfl)
            · skip
              rw [if_pos c80] at hls
              have hll : (lgN bd sd rt ps (f * 384 + t * 6 + k)).length + 1 = (lgN bd sd rt ps (f * 384 + t * 6 + k + 1)).length := by rw [hls, List.length_append]; rfl
              refine lv_aload_n hx hb dX5_listed_83 rfl (lv_at hl 1 rfl) ?_
              refine va_get (D := D) (ci := 4) (v := .ref b3) (C := RX5) (T := TX5) (N := 7) hx hb hG wu_X5 hown hK hP 0 rfl rfl 6 (by decide) (hG _ wf_X5_19) (fun _ h9 => h9) rfl dX5_listed_84 ?_
              refine lv_iload_n hx hb dX5_listed_87 rfl (lv_at hl 3 rfl) ?_
              refine lv_iload_n hx hb dX5_listed_88 rfl (lv_at hl 4 rfl) ?_
              refine ln_iadd hx hb dX5_listed_89 ?_
              refine lv_iload hx hb dX5_listed_90 (lv_at hl 0 rfl) ?_
              refine va_iast hx hb hK hP hD hS 4 0 rfl rfl (vp_in_nI (by omega) (by decide)) dX5_listed_92 (fun H locs hP hD hS => ?_)
              rw [nI_clamp (show (0 + ((lgN bd sd rt ps (f * 384 + t * 6 + k)).length)) < 2 ^ 31 by omega)] at hP hD
              have hP : va_P D classes (rW cI hm b0 b1 b2 b3 th mk sz u_3 mv kp (upd M (0 + ((lgN bd sd rt ps (f * 384 + t * 6 + k)).length)) (nI ((f + (64 * t)) + (4096 * k))))) H := hP
              have hD : va_D A (rW cI hm b0 b1 b2 b3 th mk sz u_3 mv kp (upd M (0 + ((lgN bd sd rt ps (f * 384 + t * 6 + k)).length)) (nI ((f + (64 * t)) + (4096 * k))))) := hD
              have hLI2 := LI_app (x := f + 64 * t + 4096 * k) hLI
              rw [← hls] at hLI2
              refine lv_iinc (v := (nI (((lgN bd sd rt ps (f * 384 + t * 6 + k)).length) + 1))) (lv' := [(3, .int (nI (((lgN bd sd rt ps (f * 384 + t * 6 + k)).length) + 1))), (7, .int (nI ((f + (64 * t)) + (4096 * k)))), (0, .ref hm), (1, .int (nI b)), (2, .int (nI 0)), (4, .int (nI f)), (5, .int (nI t)), (6, .int (nI k))]) hx hb dX5_listed_93 hl (k := 4) rfl (show nI ((lgN bd sd rt ps (f * 384 + t * 6 + k)).length) + Int32.ofInt 1 = nI (((lgN bd sd rt ps (f * 384 + t * 6 + k)).length) + 1) from nI_add _ 1) (by decide) rfl (fun ls hl => ?_)
              rw [hll] at hl
              exact hj_96 (u_3, (upd M (0 + ((lgN bd sd rt ps (f * 384 + t * 6 + k)).length)) (nI ((f + (64 * t)) + (4096 * k))))) H locs (by first | exact ⟨hA8, hLI⟩ | exact ⟨hA8, hLI2⟩) hP hD hS ls (lv_sub hl [2, 3, 4, 0, 5, 6, 7] rfl)

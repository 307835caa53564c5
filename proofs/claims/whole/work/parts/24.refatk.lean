theorem dX5_isFree_0 : decode cX5_isFree 0 = .ok (.iload_n 3, 1) := by decide +kernel
theorem dX5_isFree_1 : decode cX5_isFree 1 = .ok (.bipush 8, 2) := by decide +kernel
theorem dX5_isFree_3 : decode cX5_isFree 3 = .ok (.irem, 1) := by decide +kernel
theorem dX5_isFree_4 : decode cX5_isFree 4 = .ok (.iload_n 2, 1) := by decide +kernel
theorem dX5_isFree_5 : decode cX5_isFree 5 = .ok (.bipush 8, 2) := by decide +kernel
theorem dX5_isFree_7 : decode cX5_isFree 7 = .ok (.irem, 1) := by decide +kernel
theorem dX5_isFree_8 : decode cX5_isFree 8 = .ok (.if_icmp .le 7, 3) := by decide +kernel
theorem dX5_isFree_11 : decode cX5_isFree 11 = .ok (.iconst 1, 1) := by decide +kernel
theorem dX5_isFree_12 : decode cX5_isFree 12 = .ok (.goto 19, 3) := by decide +kernel
theorem dX5_isFree_15 : decode cX5_isFree 15 = .ok (.iload_n 3, 1) := by decide +kernel
theorem dX5_isFree_16 : decode cX5_isFree 16 = .ok (.bipush 8, 2) := by decide +kernel
theorem dX5_isFree_18 : decode cX5_isFree 18 = .ok (.irem, 1) := by decide +kernel
theorem dX5_isFree_19 : decode cX5_isFree 19 = .ok (.iload_n 2, 1) := by decide +kernel
theorem dX5_isFree_20 : decode cX5_isFree 20 = .ok (.bipush 8, 2) := by decide +kernel
theorem dX5_isFree_22 : decode cX5_isFree 22 = .ok (.irem, 1) := by decide +kernel
theorem dX5_isFree_23 : decode cX5_isFree 23 = .ok (.if_icmp .ge 7, 3) := by decide +kernel
theorem dX5_isFree_26 : decode cX5_isFree 26 = .ok (.iconst (-1), 1) := by decide +kernel
theorem dX5_isFree_27 : decode cX5_isFree 27 = .ok (.goto 4, 3) := by decide +kernel
theorem dX5_isFree_30 : decode cX5_isFree 30 = .ok (.iconst 0, 1) := by decide +kernel
theorem dX5_isFree_31 : decode cX5_isFree 31 = .ok (.istore 4, 2) := by decide +kernel
theorem dX5_isFree_33 : decode cX5_isFree 33 = .ok (.iload_n 3, 1) := by decide +kernel
theorem dX5_isFree_34 : decode cX5_isFree 34 = .ok (.bipush 8, 2) := by decide +kernel
theorem dX5_isFree_36 : decode cX5_isFree 36 = .ok (.idiv, 1) := by decide +kernel
theorem dX5_isFree_37 : decode cX5_isFree 37 = .ok (.iload_n 2, 1) := by decide +kernel
theorem dX5_isFree_38 : decode cX5_isFree 38 = .ok (.bipush 8, 2) := by decide +kernel
theorem dX5_isFree_40 : decode cX5_isFree 40 = .ok (.idiv, 1) := by decide +kernel
theorem dX5_isFree_41 : decode cX5_isFree 41 = .ok (.if_icmp .le 7, 3) := by decide +kernel
theorem dX5_isFree_44 : decode cX5_isFree 44 = .ok (.iconst 1, 1) := by decide +kernel
theorem dX5_isFree_45 : decode cX5_isFree 45 = .ok (.goto 19, 3) := by decide +kernel
theorem dX5_isFree_48 : decode cX5_isFree 48 = .ok (.iload_n 3, 1) := by decide +kernel
theorem dX5_isFree_49 : decode cX5_isFree 49 = .ok (.bipush 8, 2) := by decide +kernel
theorem dX5_isFree_51 : decode cX5_isFree 51 = .ok (.idiv, 1) := by decide +kernel
theorem dX5_isFree_52 : decode cX5_isFree 52 = .ok (.iload_n 2, 1) := by decide +kernel
theorem dX5_isFree_53 : decode cX5_isFree 53 = .ok (.bipush 8, 2) := by decide +kernel
theorem dX5_isFree_55 : decode cX5_isFree 55 = .ok (.idiv, 1) := by decide +kernel
theorem dX5_isFree_56 : decode cX5_isFree 56 = .ok (.if_icmp .ge 7, 3) := by decide +kernel
theorem dX5_isFree_59 : decode cX5_isFree 59 = .ok (.iconst (-1), 1) := by decide +kernel
theorem dX5_isFree_60 : decode cX5_isFree 60 = .ok (.goto 4, 3) := by decide +kernel
theorem dX5_isFree_63 : decode cX5_isFree 63 = .ok (.iconst 0, 1) := by decide +kernel
theorem dX5_isFree_64 : decode cX5_isFree 64 = .ok (.istore 5, 2) := by decide +kernel
theorem dX5_isFree_66 : decode cX5_isFree 66 = .ok (.iconst 1, 1) := by decide +kernel
theorem dX5_isFree_67 : decode cX5_isFree 67 = .ok (.istore 6, 2) := by decide +kernel
theorem dX5_isFree_69 : decode cX5_isFree 69 = .ok (.iload_n 2, 1) := by decide +kernel
theorem dX5_isFree_70 : decode cX5_isFree 70 = .ok (.bipush 8, 2) := by decide +kernel
theorem dX5_isFree_72 : decode cX5_isFree 72 = .ok (.iload 5, 2) := by decide +kernel
theorem dX5_isFree_74 : decode cX5_isFree 74 = .ok (.imul, 1) := by decide +kernel
theorem dX5_isFree_75 : decode cX5_isFree 75 = .ok (.iadd, 1) := by decide +kernel
theorem dX5_isFree_76 : decode cX5_isFree 76 = .ok (.iload 4, 2) := by decide +kernel
theorem dX5_isFree_78 : decode cX5_isFree 78 = .ok (.iadd, 1) := by decide +kernel
theorem dX5_isFree_79 : decode cX5_isFree 79 = .ok (.istore 7, 2) := by decide +kernel
theorem dX5_isFree_81 : decode cX5_isFree 81 = .ok (.iload 7, 2) := by decide +kernel
theorem dX5_isFree_83 : decode cX5_isFree 83 = .ok (.iload_n 3, 1) := by decide +kernel
theorem dX5_isFree_84 : decode cX5_isFree 84 = .ok (.if_icmp .eq 43, 3) := by decide +kernel
theorem dX5_isFree_87 : decode cX5_isFree 87 = .ok (.iload 6, 2) := by decide +kernel
theorem dX5_isFree_89 : decode cX5_isFree 89 = .ok (.ifCond .eq 19, 3) := by decide +kernel
theorem dX5_isFree_92 : decode cX5_isFree 92 = .ok (.aload_n 0, 1) := by decide +kernel
theorem dX5_isFree_93 : decode cX5_isFree 93 = .ok (.getfield 7, 3) := by decide +kernel
theorem dX5_isFree_96 : decode cX5_isFree 96 = .ok (.iload_n 1, 1) := by decide +kernel
theorem dX5_isFree_97 : decode cX5_isFree 97 = .ok (.iload 7, 2) := by decide +kernel
theorem dX5_isFree_99 : decode cX5_isFree 99 = .ok (.iadd, 1) := by decide +kernel
theorem dX5_isFree_100 : decode cX5_isFree 100 = .ok (.iaload, 1) := by decide +kernel
theorem dX5_isFree_101 : decode cX5_isFree 101 = .ok (.ifCond .ne 7, 3) := by decide +kernel
theorem dX5_isFree_104 : decode cX5_isFree 104 = .ok (.iconst 1, 1) := by decide +kernel
theorem dX5_isFree_105 : decode cX5_isFree 105 = .ok (.goto 4, 3) := by decide +kernel
theorem dX5_isFree_108 : decode cX5_isFree 108 = .ok (.iconst 0, 1) := by decide +kernel
theorem dX5_isFree_109 : decode cX5_isFree 109 = .ok (.istore 6, 2) := by decide +kernel
theorem dX5_isFree_111 : decode cX5_isFree 111 = .ok (.iload 7, 2) := by decide +kernel
theorem dX5_isFree_113 : decode cX5_isFree 113 = .ok (.bipush 8, 2) := by decide +kernel
theorem dX5_isFree_115 : decode cX5_isFree 115 = .ok (.iload 5, 2) := by decide +kernel
theorem dX5_isFree_117 : decode cX5_isFree 117 = .ok (.imul, 1) := by decide +kernel
theorem dX5_isFree_118 : decode cX5_isFree 118 = .ok (.iload 4, 2) := by decide +kernel
theorem dX5_isFree_120 : decode cX5_isFree 120 = .ok (.iadd, 1) := by decide +kernel
theorem dX5_isFree_121 : decode cX5_isFree 121 = .ok (.iadd, 1) := by decide +kernel
theorem dX5_isFree_122 : decode cX5_isFree 122 = .ok (.istore 7, 2) := by decide +kernel
theorem dX5_isFree_124 : decode cX5_isFree 124 = .ok (.goto (-43), 3) := by decide +kernel
theorem dX5_isFree_127 : decode cX5_isFree 127 = .ok (.iload 6, 2) := by decide +kernel
theorem dX5_isFree_129 : decode cX5_isFree 129 = .ok (.ireturn, 1) := by decide +kernel
theorem hd_X5_isFree : yX5_isFree.cls ≠ "java/lang/invoke/MethodHandle" ∧ yX5_isFree.cls ≠ "java/lang/invoke/VarHandle" ∧ (parseMethodDescriptor yX5_isFree.desc).map (fun d => d.parameters.length) = some 3 := by decide +kernel
set_option maxHeartbeats 4000000 in
set_option maxRecDepth 100000 in
/-- isFree -/
theorem c_X5_isFree (l : Launch) {D : va_G} {cI cJ : ClassId} {A : Nat → Prop} {hm b0 b1 b2 b3 : Nat} {th mk sz : Int32} {F mv kp li : Nat → Int32} (bd : Nat → Nat) (b f t : Nat) (hb9 : b ≤ 300) (hf : f < 64) (ht : t < 64) (hln : lined f t = true) (hBp : Bp F b bd) : Met l yX5_isFree (Cond.code yX5_isFree cX5_isFree 8 (some .boolean) :: wsL_law) (rK 0) (va_Pc [.ref hm, .int (nI b), .int (nI f), .int (nI t)] (IW D cI cJ A (rW cI hm b0 b1 b2 b3 th mk sz F mv kp li))) (vp_Si (fun r => r = bI (fre bd f t))) 0 0 (fun _ => False) := by
  refine entM (by decide) (Nat.le_of_ble_eq_true rfl) ?_
  intro p e s m below meth c ls S0 hr hlocks hG hnm hB hl
  have hx := S0.1
  have hb := S0.2.1
  have hown := S0.2.2.2.1
  have hl : lv_has ls 8 [(0, .ref hm), (1, .int (nI b)), (2, .int (nI f)), (3, .int (nI t))] := hl
  obtain ⟨hP, hD, hK, hA, hE⟩ := hB
  have hS : va_S A s.heap s.heap [] := va_S.rf
  refine lv_iload_n hx hb dX5_isFree_0 rfl (lv_at hl 3 rfl) ?_
  refine lv_bipush (v := (nI 8)) hx hb dX5_isFree_1 (by decide) ?_
  refine ln_irem hx hb dX5_isFree_3 (by omega) (by decide) (by decide) ?_
  refine lv_iload_n hx hb dX5_isFree_4 rfl (lv_at hl 2 rfl) ?_
  refine lv_bipush (v := (nI 8)) hx hb dX5_isFree_5 (by decide) ?_
  refine ln_irem hx hb dX5_isFree_7 (by omega) (by decide) (by decide) ?_
  refine jnG 31 8 [(0, .ref hm), (1, .int (nI b)), (2, .int (nI f)), (3, .int (nI t))] [.int (sgI (f % 8) (t % 8))] ?_ (fun hj_31 => ?_)
  · intro ls hl
    refine lv_istore (lv' := [(4, .int (sgI (f % 8) (t % 8))), (0, .ref hm), (1, .int (nI b)), (2, .int (nI f)), (3, .int (nI t))]) hx hb dX5_isFree_31 hl (by decide) rfl (fun ls hl => ?_)
    refine lv_iload_n hx hb dX5_isFree_33 rfl (lv_at hl 4 rfl) ?_
    refine lv_bipush (v := (nI 8)) hx hb dX5_isFree_34 (by decide) ?_
    refine ln_idiv hx hb dX5_isFree_36 (by omega) (by decide) (by decide) ?_
    refine lv_iload_n hx hb dX5_isFree_37 rfl (lv_at hl 3 rfl) ?_
    refine lv_bipush (v := (nI 8)) hx hb dX5_isFree_38 (by decide) ?_
    refine ln_idiv hx hb dX5_isFree_40 (by omega) (by decide) (by decide) ?_
    refine jnG 64 8 [(4, .int (sgI (f % 8) (t % 8))), (0, .ref hm), (1, .int (nI b)), (2, .int (nI f)), (3, .int (nI t))] [.int (sgI (f / 8) (t / 8))] ?_ (fun hj_64 => ?_)
    · intro ls hl
      refine lv_istore (lv' := [(5, .int (sgI (f / 8) (t / 8))), (4, .int (sgI (f % 8) (t % 8))), (0, .ref hm), (1, .int (nI b)), (2, .int (nI f)), (3, .int (nI t))]) hx hb dX5_isFree_64 hl (by decide) rfl (fun ls hl => ?_)
      refine lv_iconst (v := (nI 1)) hx hb dX5_isFree_66 (by decide) ?_
      refine W.top (y := .int (bI (freN bd f t 1))) (congrArg Value.int rfl) ?_
      refine lv_istore (lv' := [(6, .int (bI (freN bd f t 1))), (5, .int (sgI (f / 8) (t / 8))), (4, .int (sgI (f % 8) (t % 8))), (0, .ref hm), (1, .int (nI b)), (2, .int (nI f)), (3, .int (nI t))]) hx hb dX5_isFree_67 hl (by decide) rfl (fun ls hl => ?_)
      refine lv_iload_n hx hb dX5_isFree_69 rfl (lv_at hl 5 rfl) ?_
      refine lv_bipush (v := (nI 8)) hx hb dX5_isFree_70 (by decide) ?_
      refine lv_iload hx hb dX5_isFree_72 (lv_at hl 1 rfl) ?_
      refine lv_imul hx hb dX5_isFree_74 ?_
      refine lv_iadd hx hb dX5_isFree_75 ?_
      refine lv_iload hx hb dX5_isFree_76 (lv_at hl 2 rfl) ?_
      refine lv_iadd hx hb dX5_isFree_78 ?_
      refine W.top (y := .int (nI (pt f t 1))) (congrArg Value.int (pt_1 hf ht hln)) ?_
      refine lv_istore (lv' := [(7, .int (nI (pt f t 1))), (6, .int (bI (freN bd f t 1))), (5, .int (sgI (f / 8) (t / 8))), (4, .int (sgI (f % 8) (t % 8))), (0, .ref hm), (1, .int (nI b)), (2, .int (nI f)), (3, .int (nI t))]) hx hb dX5_isFree_79 hl (by decide) rfl (fun ls hl => ?_)
      refine lpR (σ := Nat) 81 8 [] (fun x9 => [(0, .ref hm), (1, .int (nI b)), (2, .int (nI f)), (3, .int (nI t)), (4, .int (sgI (f % 8) (t % 8))), (5, .int (sgI (f / 8) (t / 8))), (6, .int (bI (freN bd f t x9))), (7, .int (nI (pt f t x9)))]) (fun x9 => 1 ≤ x9 ∧ x9 ≤ far f t) (fun x9 => far f t - x9) 1 ⟨Nat.le_refl 1, (pt_all hf ht hln).2.2.1⟩ (lv_sub hl [4, 5, 6, 7, 3, 2, 1, 0] rfl) ?_
      clear hl ls
      rintro i hI ih ls hl
      try dsimp only at hI ih hl
      obtain ⟨h1, h2⟩ := hI
      have hpi : pt f t i < 64 := pt_lt hf ht hln h2
      obtain ⟨hv9, hk9⟩ := hBp _ hpi
      refine lv_iload hx hb dX5_isFree_81 (lv_at hl 7 rfl) ?_
      refine lv_iload_n hx hb dX5_isFree_83 rfl (lv_at hl 3 rfl) ?_
      refine ln_icmp_eq (tgt := 127) hx hb dX5_isFree_84 (by decide) (by omega) (by omega) (fun c84 => ?_) (fun c84 => ?_)
      · skip
        refine lv_iload hx hb dX5_isFree_127 (lv_at hl 6 rfl) ?_
        exact reZ (v := freN bd f t i) hx hb hr hlocks dX5_isFree_129 (congrArg bI (by rw [fre, ← pt_end hf ht hln h2 c84]))
      · skip
        have hlt : i < far f t := pt_nend hf ht hln h2 c84
        refine lv_iload hx hb dX5_isFree_87 (lv_at hl 6 rfl) ?_
        refine jnG 109 8 [(0, .ref hm), (1, .int (nI b)), (2, .int (nI f)), (3, .int (nI t)), (4, .int (sgI (f % 8) (t % 8))), (5, .int (sgI (f / 8) (t / 8))), (6, .int (bI (freN bd f t i))), (7, .int (nI (pt f t i)))] [.int (bI (freN bd f t (i + 1)))] ?_ (fun hj_109 => ?_)
        · intro ls hl
          refine lv_istore (lv' := [(6, .int (bI (freN bd f t (i + 1)))), (0, .ref hm), (1, .int (nI b)), (2, .int (nI f)), (3, .int (nI t)), (4, .int (sgI (f % 8) (t % 8))), (5, .int (sgI (f / 8) (t / 8))), (7, .int (nI (pt f t i)))]) hx hb dX5_isFree_109 hl (by decide) rfl (fun ls hl => ?_)
          refine lv_iload hx hb dX5_isFree_111 (lv_at hl 7 rfl) ?_
          refine lv_bipush (v := (nI 8)) hx hb dX5_isFree_113 (by decide) ?_
          refine lv_iload hx hb dX5_isFree_115 (lv_at hl 6 rfl) ?_
          refine lv_imul hx hb dX5_isFree_117 ?_
          refine lv_iload hx hb dX5_isFree_118 (lv_at hl 5 rfl) ?_
          refine lv_iadd hx hb dX5_isFree_120 ?_
          refine lv_iadd hx hb dX5_isFree_121 ?_
          refine W.top (y := .int (nI (pt f t (i + 1)))) (congrArg Value.int (pt_s hf ht hln hlt)) ?_
          refine lv_istore (lv' := [(7, .int (nI (pt f t (i + 1)))), (6, .int (bI (freN bd f t (i + 1)))), (0, .ref hm), (1, .int (nI b)), (2, .int (nI f)), (3, .int (nI t)), (4, .int (sgI (f % 8) (t % 8))), (5, .int (sgI (f / 8) (t / 8)))]) hx hb dX5_isFree_122 hl (by decide) rfl (fun ls hl => ?_)
          refine lv_goto (tgt := 81) hx hb dX5_isFree_124 (by decide) ?_
          exact ih (i + 1) ⟨by omega, by omega⟩ (by (try dsimp only); omega) ls (lv_sub hl [2, 3, 4, 5, 6, 7, 1, 0] rfl)
        · skip
          refine lb_if_eq (tgt := 108) hx hb dX5_isFree_89 (by decide) (fun c89 => ?_) (fun c89 => ?_)
          · skip
            refine lv_iconst (v := (nI 0)) hx hb dX5_isFree_108 (by decide) ?_
            refine W.top (y := .int (bI (freN bd f t (i + 1)))) (congrArg Value.int (by first | exact freN_f c89 | exact freN_n h1 c101 | exact freN_y c89 c101)) ?_
            exact hj_109 ls (lv_sub hl [0, 1, 2, 3, 4, 5, 6, 7] rfl)
          · skip
            refine lv_aload_n hx hb dX5_isFree_92 rfl (lv_at hl 0 rfl) ?_
            refine va_get (D := D) (ci := 4) (v := .ref b0) (C := RX5) (T := TX5) (N := 7) hx hb hG wu_X5 hown hK hP 0 rfl rfl 1 (by decide) (hG _ wf_X5_7) (fun _ h9 => h9) rfl dX5_isFree_93 ?_
            refine lv_iload_n hx hb dX5_isFree_96 rfl (lv_at hl 1 rfl) ?_
            refine lv_iload hx hb dX5_isFree_97 (lv_at hl 7 rfl) ?_
            refine ln_iadd hx hb dX5_isFree_99 ?_
            refine va_iald hx hb hK hP 1 0 rfl rfl (vp_in_nI (by omega) (by decide)) dX5_isFree_100 ?_
            refine W.top (y := .int (F (b + (pt f t i)))) (congrArg (fun z => Value.int (F z)) (nI_clamp (by omega))) ?_
            refine W.top (y := .int (nI (bd (pt f t i)))) (congrArg Value.int hv9) ?_
            refine ln_if_ne (tgt := 108) hx hb dX5_isFree_101 (by decide) (by omega) (fun c101 => ?_) (fun c101 => ?_)
            · skip
              refine lv_iconst (v := (nI 0)) hx hb dX5_isFree_108 (by decide) ?_
              refine W.top (y := .int (bI (freN bd f t (i + 1)))) (congrArg Value.int (by first | exact freN_f c89 | exact freN_n h1 c101 | exact freN_y c89 c101)) ?_
              exact hj_109 ls (lv_sub hl [0, 1, 2, 3, 4, 5, 6, 7] rfl)
            · skip
              refine lv_iconst (v := (nI 1)) hx hb dX5_isFree_104 (by decide) ?_
              refine lv_goto (tgt := 109) hx hb dX5_isFree_105 (by decide) ?_
              refine W.top (y := .int (bI (freN bd f t (i + 1)))) (congrArg Value.int (by first | exact freN_f c89 | exact freN_n h1 c101 | exact freN_y c89 c101)) ?_
              exact hj_109 ls (lv_sub hl [0, 1, 2, 3, 4, 5, 6, 7] rfl)
    · skip
      refine ln_icmp_le (tgt := 48) hx hb dX5_isFree_41 (by decide) (by omega) (by omega) (fun c_1 => ?_) (fun c_1 => ?_)
      · skip
        refine lv_iload_n hx hb dX5_isFree_48 rfl (lv_at hl 4 rfl) ?_
        refine lv_bipush (v := (nI 8)) hx hb dX5_isFree_49 (by decide) ?_
        refine ln_idiv hx hb dX5_isFree_51 (by omega) (by decide) (by decide) ?_
        refine lv_iload_n hx hb dX5_isFree_52 rfl (lv_at hl 3 rfl) ?_
        refine lv_bipush (v := (nI 8)) hx hb dX5_isFree_53 (by decide) ?_
        refine ln_idiv hx hb dX5_isFree_55 (by omega) (by decide) (by decide) ?_
        refine ln_icmp_ge (tgt := 63) hx hb dX5_isFree_56 (by decide) (by omega) (by omega) (fun c_2 => ?_) (fun c_2 => ?_)
        · skip
          refine lv_iconst (v := (nI 0)) hx hb dX5_isFree_63 (by decide) ?_
          refine W.top (y := .int (sgI (f / 8) (t / 8))) (congrArg Value.int (by unfold sgI; (repeat' split) <;> first | rfl | omega)) ?_
          exact hj_64 ls (lv_sub hl [0, 1, 2, 3, 4] rfl)
        · skip
          refine lv_iconst (v := (-1)) hx hb dX5_isFree_59 (by decide) ?_
          refine lv_goto (tgt := 64) hx hb dX5_isFree_60 (by decide) ?_
          refine W.top (y := .int (sgI (f / 8) (t / 8))) (congrArg Value.int (by unfold sgI; (repeat' split) <;> first | rfl | omega)) ?_
          exact hj_64 ls (lv_sub hl [0, 1, 2, 3, 4] rfl)
      · skip
        refine lv_iconst (v := (nI 1)) hx hb dX5_isFree_44 (by decide) ?_
        refine lv_goto (tgt := 64) hx hb dX5_isFree_45 (by decide) ?_
        refine W.top (y := .int (sgI (f / 8) (t / 8))) (congrArg Value.int (by unfold sgI; (repeat' split) <;> first | rfl | omega)) ?_
        exact hj_64 ls (lv_sub hl [0, 1, 2, 3, 4] rfl)
  · skip
    refine ln_icmp_le (tgt := 15) hx hb dX5_isFree_8 (by decide) (by omega) (by omega) (fun c_3 => ?_) (fun c_3 => ?_)
    · skip
      refine lv_iload_n hx hb dX5_isFree_15 rfl (lv_at hl 3 rfl) ?_
      refine lv_bipush (v := (nI 8)) hx hb dX5_isFree_16 (by decide) ?_
      refine ln_irem hx hb dX5_isFree_18 (by omega) (by decide) (by decide) ?_
      refine lv_iload_n hx hb dX5_isFree_19 rfl (lv_at hl 2 rfl) ?_
      refine lv_bipush (v := (nI 8)) hx hb dX5_isFree_20 (by decide) ?_
      refine ln_irem hx hb dX5_isFree_22 (by omega) (by decide) (by decide) ?_
      refine ln_icmp_ge (tgt := 30) hx hb dX5_isFree_23 (by decide) (by omega) (by omega) (fun c_4 => ?_) (fun c_4 => ?_)
      · skip
        refine lv_iconst (v := (nI 0)) hx hb dX5_isFree_30 (by decide) ?_
        refine W.top (y := .int (sgI (f % 8) (t % 8))) (congrArg Value.int (by unfold sgI; (repeat' split) <;> first | rfl | omega)) ?_
        exact hj_31 ls (lv_sub hl [0, 1, 2, 3] rfl)
      · skip
        refine lv_iconst (v := (-1)) hx hb dX5_isFree_26 (by decide) ?_
        refine lv_goto (tgt := 31) hx hb dX5_isFree_27 (by decide) ?_
        refine W.top (y := .int (sgI (f % 8) (t % 8))) (congrArg Value.int (by unfold sgI; (repeat' split) <;> first | rfl | omega)) ?_
        exact hj_31 ls (lv_sub hl [0, 1, 2, 3] rfl)
    · skip
      refine lv_iconst (v := (nI 1)) hx hb dX5_isFree_11 (by decide) ?_
      refine lv_goto (tgt := 31) hx hb dX5_isFree_12 (by decide) ?_
      refine W.top (y := .int (sgI (f % 8) (t % 8))) (congrArg Value.int (by unfold sgI; (repeat' split) <;> first | rfl | omega)) ?_
      exact hj_31 ls (lv_sub hl [0, 1, 2, 3] rfl)
theorem dX5_attacks_0 : decode cX5_attacks 0 = .ok (.aload_n 0, 1) := by decide +kernel
theorem dX5_attacks_1 : decode cX5_attacks 1 = .ok (.getfield 7, 3) := by decide +kernel
theorem dX5_attacks_4 : decode cX5_attacks 4 = .ok (.iload_n 1, 1) := by decide +kernel
theorem dX5_attacks_5 : decode cX5_attacks 5 = .ok (.iload_n 2, 1) := by decide +kernel
theorem dX5_attacks_6 : decode cX5_attacks 6 = .ok (.iadd, 1) := by decide +kernel
theorem dX5_attacks_7 : decode cX5_attacks 7 = .ok (.iaload, 1) := by decide +kernel
theorem dX5_attacks_8 : decode cX5_attacks 8 = .ok (.istore 4, 2) := by decide +kernel
theorem dX5_attacks_10 : decode cX5_attacks 10 = .ok (.iload 4, 2) := by decide +kernel
theorem dX5_attacks_12 : decode cX5_attacks 12 = .ok (.invokestatic 40, 3) := by decide +kernel
theorem dX5_attacks_15 : decode cX5_attacks 15 = .ok (.istore 5, 2) := by decide +kernel
theorem dX5_attacks_17 : decode cX5_attacks 17 = .ok (.iload_n 2, 1) := by decide +kernel
theorem dX5_attacks_18 : decode cX5_attacks 18 = .ok (.bipush 8, 2) := by decide +kernel
theorem dX5_attacks_20 : decode cX5_attacks 20 = .ok (.irem, 1) := by decide +kernel
theorem dX5_attacks_21 : decode cX5_attacks 21 = .ok (.iload_n 3, 1) := by decide +kernel
theorem dX5_attacks_22 : decode cX5_attacks 22 = .ok (.bipush 8, 2) := by decide +kernel
theorem dX5_attacks_24 : decode cX5_attacks 24 = .ok (.irem, 1) := by decide +kernel
theorem dX5_attacks_25 : decode cX5_attacks 25 = .ok (.invokestatic 43, 3) := by decide +kernel
theorem dX5_attacks_28 : decode cX5_attacks 28 = .ok (.istore 6, 2) := by decide +kernel
theorem dX5_attacks_30 : decode cX5_attacks 30 = .ok (.iload_n 2, 1) := by decide +kernel
theorem dX5_attacks_31 : decode cX5_attacks 31 = .ok (.bipush 8, 2) := by decide +kernel
theorem dX5_attacks_33 : decode cX5_attacks 33 = .ok (.idiv, 1) := by decide +kernel
theorem dX5_attacks_34 : decode cX5_attacks 34 = .ok (.iload_n 3, 1) := by decide +kernel
theorem dX5_attacks_35 : decode cX5_attacks 35 = .ok (.bipush 8, 2) := by decide +kernel
theorem dX5_attacks_37 : decode cX5_attacks 37 = .ok (.idiv, 1) := by decide +kernel
theorem dX5_attacks_38 : decode cX5_attacks 38 = .ok (.invokestatic 43, 3) := by decide +kernel
theorem dX5_attacks_41 : decode cX5_attacks 41 = .ok (.istore 7, 2) := by decide +kernel
theorem dX5_attacks_43 : decode cX5_attacks 43 = .ok (.iload 5, 2) := by decide +kernel
theorem dX5_attacks_45 : decode cX5_attacks 45 = .ok (.ifCond .eq 8, 3) := by decide +kernel
theorem dX5_attacks_48 : decode cX5_attacks 48 = .ok (.iload_n 2, 1) := by decide +kernel
theorem dX5_attacks_49 : decode cX5_attacks 49 = .ok (.iload_n 3, 1) := by decide +kernel
theorem dX5_attacks_50 : decode cX5_attacks 50 = .ok (.if_icmp .ne 5, 3) := by decide +kernel
theorem dX5_attacks_53 : decode cX5_attacks 53 = .ok (.iconst 0, 1) := by decide +kernel
theorem dX5_attacks_54 : decode cX5_attacks 54 = .ok (.ireturn, 1) := by decide +kernel
theorem dX5_attacks_55 : decode cX5_attacks 55 = .ok (.iload 5, 2) := by decide +kernel
theorem dX5_attacks_57 : decode cX5_attacks 57 = .ok (.iconst 1, 1) := by decide +kernel
theorem dX5_attacks_58 : decode cX5_attacks 58 = .ok (.if_icmp .ne 38, 3) := by decide +kernel
theorem dX5_attacks_61 : decode cX5_attacks 61 = .ok (.iload 6, 2) := by decide +kernel
theorem dX5_attacks_63 : decode cX5_attacks 63 = .ok (.iconst 1, 1) := by decide +kernel
theorem dX5_attacks_64 : decode cX5_attacks 64 = .ok (.if_icmp .ne 30, 3) := by decide +kernel
theorem dX5_attacks_67 : decode cX5_attacks 67 = .ok (.iload_n 3, 1) := by decide +kernel
theorem dX5_attacks_68 : decode cX5_attacks 68 = .ok (.bipush 8, 2) := by decide +kernel
theorem dX5_attacks_70 : decode cX5_attacks 70 = .ok (.idiv, 1) := by decide +kernel
theorem dX5_attacks_71 : decode cX5_attacks 71 = .ok (.iload_n 2, 1) := by decide +kernel
theorem dX5_attacks_72 : decode cX5_attacks 72 = .ok (.bipush 8, 2) := by decide +kernel
theorem dX5_attacks_74 : decode cX5_attacks 74 = .ok (.idiv, 1) := by decide +kernel
theorem dX5_attacks_75 : decode cX5_attacks 75 = .ok (.isub, 1) := by decide +kernel
theorem dX5_attacks_76 : decode cX5_attacks 76 = .ok (.iload 4, 2) := by decide +kernel
theorem dX5_attacks_78 : decode cX5_attacks 78 = .ok (.iconst 1, 1) := by decide +kernel
theorem dX5_attacks_79 : decode cX5_attacks 79 = .ok (.if_icmp .ne 7, 3) := by decide +kernel
theorem dX5_attacks_82 : decode cX5_attacks 82 = .ok (.iconst 1, 1) := by decide +kernel
theorem dX5_attacks_83 : decode cX5_attacks 83 = .ok (.goto 4, 3) := by decide +kernel
theorem dX5_attacks_86 : decode cX5_attacks 86 = .ok (.iconst (-1), 1) := by decide +kernel
theorem dX5_attacks_87 : decode cX5_attacks 87 = .ok (.if_icmp .ne 7, 3) := by decide +kernel
theorem dX5_attacks_90 : decode cX5_attacks 90 = .ok (.iconst 1, 1) := by decide +kernel
theorem dX5_attacks_91 : decode cX5_attacks 91 = .ok (.goto 4, 3) := by decide +kernel
theorem dX5_attacks_94 : decode cX5_attacks 94 = .ok (.iconst 0, 1) := by decide +kernel
theorem dX5_attacks_95 : decode cX5_attacks 95 = .ok (.ireturn, 1) := by decide +kernel
theorem dX5_attacks_96 : decode cX5_attacks 96 = .ok (.iload 5, 2) := by decide +kernel
theorem dX5_attacks_98 : decode cX5_attacks 98 = .ok (.iconst 2, 1) := by decide +kernel
theorem dX5_attacks_99 : decode cX5_attacks 99 = .ok (.if_icmp .ne 18, 3) := by decide +kernel
theorem dX5_attacks_102 : decode cX5_attacks 102 = .ok (.iload 6, 2) := by decide +kernel
theorem dX5_attacks_104 : decode cX5_attacks 104 = .ok (.iload 7, 2) := by decide +kernel
theorem dX5_attacks_106 : decode cX5_attacks 106 = .ok (.imul, 1) := by decide +kernel
theorem dX5_attacks_107 : decode cX5_attacks 107 = .ok (.iconst 2, 1) := by decide +kernel
theorem dX5_attacks_108 : decode cX5_attacks 108 = .ok (.if_icmp .ne 7, 3) := by decide +kernel
theorem dX5_attacks_111 : decode cX5_attacks 111 = .ok (.iconst 1, 1) := by decide +kernel
theorem dX5_attacks_112 : decode cX5_attacks 112 = .ok (.goto 4, 3) := by decide +kernel
theorem dX5_attacks_115 : decode cX5_attacks 115 = .ok (.iconst 0, 1) := by decide +kernel
theorem dX5_attacks_116 : decode cX5_attacks 116 = .ok (.ireturn, 1) := by decide +kernel
theorem dX5_attacks_117 : decode cX5_attacks 117 = .ok (.iload 5, 2) := by decide +kernel
theorem dX5_attacks_119 : decode cX5_attacks 119 = .ok (.bipush 6, 2) := by decide +kernel
theorem dX5_attacks_121 : decode cX5_attacks 121 = .ok (.if_icmp .ne 21, 3) := by decide +kernel
theorem dX5_attacks_124 : decode cX5_attacks 124 = .ok (.iload 6, 2) := by decide +kernel
theorem dX5_attacks_126 : decode cX5_attacks 126 = .ok (.iconst 2, 1) := by decide +kernel
theorem dX5_attacks_127 : decode cX5_attacks 127 = .ok (.if_icmp .ge 13, 3) := by decide +kernel
theorem dX5_attacks_130 : decode cX5_attacks 130 = .ok (.iload 7, 2) := by decide +kernel
theorem dX5_attacks_132 : decode cX5_attacks 132 = .ok (.iconst 2, 1) := by decide +kernel
theorem dX5_attacks_133 : decode cX5_attacks 133 = .ok (.if_icmp .ge 7, 3) := by decide +kernel
theorem dX5_attacks_136 : decode cX5_attacks 136 = .ok (.iconst 1, 1) := by decide +kernel
theorem dX5_attacks_137 : decode cX5_attacks 137 = .ok (.goto 4, 3) := by decide +kernel
theorem dX5_attacks_140 : decode cX5_attacks 140 = .ok (.iconst 0, 1) := by decide +kernel
theorem dX5_attacks_141 : decode cX5_attacks 141 = .ok (.ireturn, 1) := by decide +kernel
theorem dX5_attacks_142 : decode cX5_attacks 142 = .ok (.iload 6, 2) := by decide +kernel
theorem dX5_attacks_144 : decode cX5_attacks 144 = .ok (.ifCond .eq 8, 3) := by decide +kernel
theorem dX5_attacks_147 : decode cX5_attacks 147 = .ok (.iload 7, 2) := by decide +kernel
theorem dX5_attacks_149 : decode cX5_attacks 149 = .ok (.ifCond .ne 17, 3) := by decide +kernel
theorem dX5_attacks_152 : decode cX5_attacks 152 = .ok (.iload 5, 2) := by decide +kernel
theorem dX5_attacks_154 : decode cX5_attacks 154 = .ok (.iconst 3, 1) := by decide +kernel
theorem dX5_attacks_155 : decode cX5_attacks 155 = .ok (.if_icmp .eq 7, 3) := by decide +kernel
theorem dX5_attacks_158 : decode cX5_attacks 158 = .ok (.iconst 1, 1) := by decide +kernel
theorem dX5_attacks_159 : decode cX5_attacks 159 = .ok (.goto 25, 3) := by decide +kernel
theorem dX5_attacks_162 : decode cX5_attacks 162 = .ok (.iconst 0, 1) := by decide +kernel
theorem dX5_attacks_163 : decode cX5_attacks 163 = .ok (.goto 21, 3) := by decide +kernel
theorem dX5_attacks_166 : decode cX5_attacks 166 = .ok (.iload 6, 2) := by decide +kernel
theorem dX5_attacks_168 : decode cX5_attacks 168 = .ok (.iload 7, 2) := by decide +kernel
theorem dX5_attacks_170 : decode cX5_attacks 170 = .ok (.if_icmp .ne 13, 3) := by decide +kernel
theorem dX5_attacks_173 : decode cX5_attacks 173 = .ok (.iload 5, 2) := by decide +kernel
theorem dX5_attacks_175 : decode cX5_attacks 175 = .ok (.iconst 4, 1) := by decide +kernel
theorem dX5_attacks_176 : decode cX5_attacks 176 = .ok (.if_icmp .eq 7, 3) := by decide +kernel
theorem dX5_attacks_179 : decode cX5_attacks 179 = .ok (.iconst 1, 1) := by decide +kernel
theorem dX5_attacks_180 : decode cX5_attacks 180 = .ok (.goto 4, 3) := by decide +kernel
theorem dX5_attacks_183 : decode cX5_attacks 183 = .ok (.iconst 0, 1) := by decide +kernel
theorem dX5_attacks_184 : decode cX5_attacks 184 = .ok (.istore 8, 2) := by decide +kernel
theorem dX5_attacks_186 : decode cX5_attacks 186 = .ok (.iload 8, 2) := by decide +kernel
theorem dX5_attacks_188 : decode cX5_attacks 188 = .ok (.ifCond .eq 17, 3) := by decide +kernel
theorem dX5_attacks_191 : decode cX5_attacks 191 = .ok (.aload_n 0, 1) := by decide +kernel
theorem dX5_attacks_192 : decode cX5_attacks 192 = .ok (.iload_n 1, 1) := by decide +kernel
theorem dX5_attacks_193 : decode cX5_attacks 193 = .ok (.iload_n 2, 1) := by decide +kernel
theorem dX5_attacks_194 : decode cX5_attacks 194 = .ok (.iload_n 3, 1) := by decide +kernel
theorem dX5_attacks_195 : decode cX5_attacks 195 = .ok (.invokevirtual 47, 3) := by decide +kernel
theorem dX5_attacks_198 : decode cX5_attacks 198 = .ok (.ifCond .eq 7, 3) := by decide +kernel
theorem dX5_attacks_201 : decode cX5_attacks 201 = .ok (.iconst 1, 1) := by decide +kernel
theorem dX5_attacks_202 : decode cX5_attacks 202 = .ok (.goto 4, 3) := by decide +kernel
theorem dX5_attacks_205 : decode cX5_attacks 205 = .ok (.iconst 0, 1) := by decide +kernel
theorem dX5_attacks_206 : decode cX5_attacks 206 = .ok (.ireturn, 1) := by decide +kernel
theorem hd_X5_attacks : yX5_attacks.cls ≠ "java/lang/invoke/MethodHandle" ∧ yX5_attacks.cls ≠ "java/lang/invoke/VarHandle" ∧ (parseMethodDescriptor yX5_attacks.desc).map (fun d => d.parameters.length) = some 3 := by decide +kernel
set_option maxHeartbeats 4000000 in
set_option maxRecDepth 100000 in
/-- attacks -/
theorem c_X5_attacks (l : Launch) {D : va_G} {cI cJ : ClassId} {A : Nat → Prop} {hm b0 b1 b2 b3 : Nat} {th mk sz : Int32} {F mv kp li : Nat → Int32} (bd : Nat → Nat) (b f t : Nat) (hb9 : b ≤ 300) (hf : f < 64) (ht : t < 64) (hBp : Bp F b bd) : Met l yX5_attacks (Cond.code yX5_attacks cX5_attacks 9 (some .boolean) :: wsL_law) (rK 1) (va_Pc [.ref hm, .int (nI b), .int (nI f), .int (nI t)] (IW D cI cJ A (rW cI hm b0 b1 b2 b3 th mk sz F mv kp li))) (vp_Si (fun r => r = bI (atk bd f t))) 0 0 (fun _ => False) := by
  refine entM (by decide) (Nat.le_of_ble_eq_true rfl) ?_
  intro p e s m below meth c ls S0 hr hlocks hG hnm hB hl
  have hx := S0.1
  have hb := S0.2.1
  have hown := S0.2.2.2.1
  have hl : lv_has ls 9 [(0, .ref hm), (1, .int (nI b)), (2, .int (nI f)), (3, .int (nI t))] := hl
  obtain ⟨hP, hD, hK, hA, hE⟩ := hB
  have hS : va_S A s.heap s.heap [] := va_S.rf
  obtain ⟨hv9, hk9⟩ := hBp f hf
  have hkd := kd_lt hk9
  have hap1 : ap (f % 8) (t % 8) < 8 := ap_lt (by omega) (by omega)
  have hap2 : ap (f / 8) (t / 8) < 8 := ap_lt (by omega) (by omega)
  have hapm : ap (f % 8) (t % 8) * ap (f / 8) (t / 8) < 64 := Nat.lt_of_le_of_lt (Nat.mul_le_mul (show _ ≤ 7 by omega) (show _ ≤ 7 by omega)) (by decide)
  refine lv_aload_n hx hb dX5_attacks_0 rfl (lv_at hl 0 rfl) ?_
  refine va_get (D := D) (ci := 4) (v := .ref b0) (C := RX5) (T := TX5) (N := 7) hx hb hG wu_X5 hown hK hP 0 rfl rfl 1 (by decide) (hG _ wf_X5_7) (fun _ h9 => h9) rfl dX5_attacks_1 ?_
  refine lv_iload_n hx hb dX5_attacks_4 rfl (lv_at hl 1 rfl) ?_
  refine lv_iload_n hx hb dX5_attacks_5 rfl (lv_at hl 2 rfl) ?_
  refine ln_iadd hx hb dX5_attacks_6 ?_
  refine va_iald hx hb hK hP 1 0 rfl rfl (vp_in_nI (by omega) (by decide)) dX5_attacks_7 ?_
  refine W.top (y := .int (F (b + f))) (congrArg (fun z => Value.int (F z)) (nI_clamp (by omega))) ?_
  refine W.top (y := .int (nI (bd f))) (congrArg Value.int hv9) ?_
  refine lv_istore (lv' := [(4, .int (nI (bd f))), (0, .ref hm), (1, .int (nI b)), (2, .int (nI f)), (3, .int (nI t))]) hx hb dX5_attacks_8 hl (by decide) rfl (fun ls hl => ?_)
  refine lv_iload hx hb dX5_attacks_10 (lv_at hl 0 rfl) ?_
  refine roI (rnS (As := [.int (nI (bd f))]) (rest := []) S0 (c_X5_kindOf l (bd f) (by omega)) wm_X5_40 wt_X5_kindOf wn_X5 wc_X5_kindOf hd_X5_kindOf ⟨rfl, rfl, by decide, by decide⟩ True.blind (fun _ _ _ => trivial) hl.1 (Nat.le_of_ble_eq_true rfl) dX5_attacks_12 rfl ⟨by decide, by decide⟩) (fun r_1 hr_1 => ?_)
  subst hr_1
  refine lv_istore (lv' := [(5, .int (nI (kd (bd f)))), (4, .int (nI (bd f))), (0, .ref hm), (1, .int (nI b)), (2, .int (nI f)), (3, .int (nI t))]) hx hb dX5_attacks_15 hl (by decide) rfl (fun ls hl => ?_)
  refine lv_iload_n hx hb dX5_attacks_17 rfl (lv_at hl 4 rfl) ?_
  refine lv_bipush (v := (nI 8)) hx hb dX5_attacks_18 (by decide) ?_
  refine ln_irem hx hb dX5_attacks_20 (by omega) (by decide) (by decide) ?_
  refine lv_iload_n hx hb dX5_attacks_21 rfl (lv_at hl 5 rfl) ?_
  refine lv_bipush (v := (nI 8)) hx hb dX5_attacks_22 (by decide) ?_
  refine ln_irem hx hb dX5_attacks_24 (by omega) (by decide) (by decide) ?_
  refine roI (rnS (As := [.int (nI (f % 8)), .int (nI (t % 8))]) (rest := []) S0 (c_X5_apart l (f % 8) (t % 8) (by omega) (by omega)) wm_X5_43 wt_X5_apart wn_X5 wc_X5_apart hd_X5_apart ⟨rfl, rfl, by decide, by decide⟩ True.blind (fun _ _ _ => trivial) hl.1 (Nat.le_of_ble_eq_true rfl) dX5_attacks_25 rfl ⟨by decide, by decide⟩) (fun r_2 hr_2 => ?_)
  subst hr_2
  refine lv_istore (lv' := [(6, .int (nI (ap (f % 8) (t % 8)))), (5, .int (nI (kd (bd f)))), (4, .int (nI (bd f))), (0, .ref hm), (1, .int (nI b)), (2, .int (nI f)), (3, .int (nI t))]) hx hb dX5_attacks_28 hl (by decide) rfl (fun ls hl => ?_)
  refine lv_iload_n hx hb dX5_attacks_30 rfl (lv_at hl 5 rfl) ?_
  refine lv_bipush (v := (nI 8)) hx hb dX5_attacks_31 (by decide) ?_
  refine ln_idiv hx hb dX5_attacks_33 (by omega) (by decide) (by decide) ?_
  refine lv_iload_n hx hb dX5_attacks_34 rfl (lv_at hl 6 rfl) ?_
  refine lv_bipush (v := (nI 8)) hx hb dX5_attacks_35 (by decide) ?_
  refine ln_idiv hx hb dX5_attacks_37 (by omega) (by decide) (by decide) ?_
  refine roI (rnS (As := [.int (nI (f / 8)), .int (nI (t / 8))]) (rest := []) S0 (c_X5_apart l (f / 8) (t / 8) (by omega) (by omega)) wm_X5_43 wt_X5_apart wn_X5 wc_X5_apart hd_X5_apart ⟨rfl, rfl, by decide, by decide⟩ True.blind (fun _ _ _ => trivial) hl.1 (Nat.le_of_ble_eq_true rfl) dX5_attacks_38 rfl ⟨by decide, by decide⟩) (fun r_3 hr_3 => ?_)
  subst hr_3
  refine lv_istore (lv' := [(7, .int (nI (ap (f / 8) (t / 8)))), (6, .int (nI (ap (f % 8) (t % 8)))), (5, .int (nI (kd (bd f)))), (4, .int (nI (bd f))), (0, .ref hm), (1, .int (nI b)), (2, .int (nI f)), (3, .int (nI t))]) hx hb dX5_attacks_41 hl (by decide) rfl (fun ls hl => ?_)
  refine lv_iload hx hb dX5_attacks_43 (lv_at hl 2 rfl) ?_
  refine ln_if_eq (tgt := 53) hx hb dX5_attacks_45 (by decide) (by omega) (fun c45 => ?_) (fun c45 => ?_)
  · skip
    refine lv_iconst (v := (nI 0)) hx hb dX5_attacks_53 (by decide) ?_
    exact reZ (v := false) hx hb hr hlocks dX5_attacks_54 (congrArg bI (atk_0 (by first | exact Or.inl c45 | exact Or.inr c50)).symm)
  · skip
    refine lv_iload_n hx hb dX5_attacks_48 rfl (lv_at hl 6 rfl) ?_
    refine lv_iload_n hx hb dX5_attacks_49 rfl (lv_at hl 7 rfl) ?_
    refine ln_icmp_ne (tgt := 55) hx hb dX5_attacks_50 (by decide) (by omega) (by omega) (fun c50 => ?_) (fun c50 => ?_)
    · skip
      refine lv_iload hx hb dX5_attacks_55 (lv_at hl 2 rfl) ?_
      refine lv_iconst (v := (nI 1)) hx hb dX5_attacks_57 (by decide) ?_
      refine ln_icmp_ne (tgt := 96) hx hb dX5_attacks_58 (by decide) (by omega) (by decide) (fun c58 => ?_) (fun c58 => ?_)
      · skip
        refine lv_iload hx hb dX5_attacks_96 (lv_at hl 2 rfl) ?_
        refine lv_iconst (v := (nI 2)) hx hb dX5_attacks_98 (by decide) ?_
        refine ln_icmp_ne (tgt := 117) hx hb dX5_attacks_99 (by decide) (by omega) (by decide) (fun c99 => ?_) (fun c99 => ?_)
        · skip
          refine lv_iload hx hb dX5_attacks_117 (lv_at hl 2 rfl) ?_
          refine lv_bipush (v := (nI 6)) hx hb dX5_attacks_119 (by decide) ?_
          refine ln_icmp_ne (tgt := 142) hx hb dX5_attacks_121 (by decide) (by omega) (by decide) (fun c121 => ?_) (fun c121 => ?_)
          · skip
            refine lv_iload hx hb dX5_attacks_142 (lv_at hl 1 rfl) ?_
            refine jnG 184 9 [(7, .int (nI (ap (f / 8) (t / 8)))), (6, .int (nI (ap (f % 8) (t % 8)))), (5, .int (nI (kd (bd f)))), (4, .int (nI (bd f))), (0, .ref hm), (1, .int (nI b)), (2, .int (nI f)), (3, .int (nI t))] [.int (bI (gz (kd (bd f)) (ap (f % 8) (t % 8)) (ap (f / 8) (t / 8))))] ?_ (fun hj_184 => ?_)
            · intro ls hl
              refine lv_istore (lv' := [(8, .int (bI (gz (kd (bd f)) (ap (f % 8) (t % 8)) (ap (f / 8) (t / 8))))), (7, .int (nI (ap (f / 8) (t / 8)))), (6, .int (nI (ap (f % 8) (t % 8)))), (5, .int (nI (kd (bd f)))), (4, .int (nI (bd f))), (0, .ref hm), (1, .int (nI b)), (2, .int (nI f)), (3, .int (nI t))]) hx hb dX5_attacks_184 hl (by decide) rfl (fun ls hl => ?_)
              refine lv_iload hx hb dX5_attacks_186 (lv_at hl 0 rfl) ?_
              refine lb_if_eq (tgt := 205) hx hb dX5_attacks_188 (by decide) (fun c188 => ?_) (fun c188 => ?_)
              · skip
                refine lv_iconst (v := (nI 0)) hx hb dX5_attacks_205 (by decide) ?_
                exact reZ (v := false) hx hb hr hlocks dX5_attacks_206 (congrArg bI (by rw [atk_s c45 c50 c58 c99 c121]; first | rw [c188, c198]; rfl | rw [c188]; rfl))
              · skip
                refine lv_aload_n hx hb dX5_attacks_191 rfl (lv_at hl 5 rfl) ?_
                refine lv_iload_n hx hb dX5_attacks_192 rfl (lv_at hl 6 rfl) ?_
                refine lv_iload_n hx hb dX5_attacks_193 rfl (lv_at hl 7 rfl) ?_
                refine lv_iload_n hx hb dX5_attacks_194 rfl (lv_at hl 8 rfl) ?_
                refine roI (rnV (As := [.int (nI b), .int (nI f), .int (nI t)]) (rest := []) S0 (c_X5_isFree l bd b f t hb9 hf ht (gz_lined c50 c188) hBp) wm_X5_47 wi_X5_isFree ws_X5_isFree wn_X5 wc_X5_isFree hd_X5_isFree ⟨rfl, rfl, by decide, by decide⟩ IW.blind (va_recv hK hP (ci := 4) (q0 := 0) rfl rfl) (IW.at hP hD hK hA hE hS) hl.1 (Nat.le_of_ble_eq_true rfl) dX5_attacks_195 rfl ⟨by decide, by decide⟩) (fun r_4 hr_4 => ?_)
                subst hr_4
                refine lb_if_eq (tgt := 205) hx hb dX5_attacks_198 (by decide) (fun c198 => ?_) (fun c198 => ?_)
                · skip
                  refine lv_iconst (v := (nI 0)) hx hb dX5_attacks_205 (by decide) ?_
                  exact reZ (v := false) hx hb hr hlocks dX5_attacks_206 (congrArg bI (by rw [atk_s c45 c50 c58 c99 c121]; first | rw [c188, c198]; rfl | rw [c188]; rfl))
                · skip
                  refine lv_iconst (v := (nI 1)) hx hb dX5_attacks_201 (by decide) ?_
                  refine lv_goto (tgt := 206) hx hb dX5_attacks_202 (by decide) ?_
                  exact reZ (v := true) hx hb hr hlocks dX5_attacks_206 (congrArg bI (by rw [atk_s c45 c50 c58 c99 c121]; first | rw [c188, c198]; rfl | rw [c188]; rfl))
            · skip
              refine ln_if_eq (tgt := 152) hx hb dX5_attacks_144 (by decide) (by omega) (fun c_5 => ?_) (fun c_5 => ?_)
              · skip
                refine lv_iload hx hb dX5_attacks_152 (lv_at hl 2 rfl) ?_
                refine lv_iconst (v := (nI 3)) hx hb dX5_attacks_154 (by decide) ?_
                refine ln_icmp_eq (tgt := 162) hx hb dX5_attacks_155 (by decide) (by omega) (by decide) (fun c_6 => ?_) (fun c_6 => ?_)
                · skip
                  refine lv_iconst (v := (nI 0)) hx hb dX5_attacks_162 (by decide) ?_
                  refine lv_goto (tgt := 184) hx hb dX5_attacks_163 (by decide) ?_
                  refine W.top (y := .int (bI (gz (kd (bd f)) (ap (f % 8) (t % 8)) (ap (f / 8) (t / 8))))) (congrArg Value.int (by unfold gz; (repeat' split) <;> first | omega | (rw [decide_eq_true (by omega)]; rfl) | (rw [decide_eq_false (by omega)]; rfl))) ?_
                  exact hj_184 ls (lv_sub hl [0, 1, 2, 3, 4, 5, 6, 7] rfl)
                · skip
                  refine lv_iconst (v := (nI 1)) hx hb dX5_attacks_158 (by decide) ?_
                  refine lv_goto (tgt := 184) hx hb dX5_attacks_159 (by decide) ?_
                  refine W.top (y := .int (bI (gz (kd (bd f)) (ap (f % 8) (t % 8)) (ap (f / 8) (t / 8))))) (congrArg Value.int (by unfold gz; (repeat' split) <;> first | omega | (rw [decide_eq_true (by omega)]; rfl) | (rw [decide_eq_false (by omega)]; rfl))) ?_
                  exact hj_184 ls (lv_sub hl [0, 1, 2, 3, 4, 5, 6, 7] rfl)
              · skip
                refine lv_iload hx hb dX5_attacks_147 (lv_at hl 0 rfl) ?_
                refine ln_if_ne (tgt := 166) hx hb dX5_attacks_149 (by decide) (by omega) (fun c_7 => ?_) (fun c_7 => ?_)
                · skip
                  refine lv_iload hx hb dX5_attacks_166 (lv_at hl 1 rfl) ?_
                  refine lv_iload hx hb dX5_attacks_168 (lv_at hl 0 rfl) ?_
                  refine ln_icmp_ne (tgt := 183) hx hb dX5_attacks_170 (by decide) (by omega) (by omega) (fun c_8 => ?_) (fun c_8 => ?_)
                  · skip
                    refine lv_iconst (v := (nI 0)) hx hb dX5_attacks_183 (by decide) ?_
                    refine W.top (y := .int (bI (gz (kd (bd f)) (ap (f % 8) (t % 8)) (ap (f / 8) (t / 8))))) (congrArg Value.int (by unfold gz; (repeat' split) <;> first | omega | (rw [decide_eq_true (by omega)]; rfl) | (rw [decide_eq_false (by omega)]; rfl))) ?_
                    exact hj_184 ls (lv_sub hl [0, 1, 2, 3, 4, 5, 6, 7] rfl)
                  · skip
                    refine lv_iload hx hb dX5_attacks_173 (lv_at hl 2 rfl) ?_
                    refine lv_iconst (v := (nI 4)) hx hb dX5_attacks_175 (by decide) ?_
                    refine ln_icmp_eq (tgt := 183) hx hb dX5_attacks_176 (by decide) (by omega) (by decide) (fun c_9 => ?_) (fun c_9 => ?_)
                    · skip
                      refine lv_iconst (v := (nI 0)) hx hb dX5_attacks_183 (by decide) ?_
                      refine W.top (y := .int (bI (gz (kd (bd f)) (ap (f % 8) (t % 8)) (ap (f / 8) (t / 8))))) (congrArg Value.int (by unfold gz; (repeat' split) <;> first | omega | (rw [decide_eq_true (by omega)]; rfl) | (rw [decide_eq_false (by omega)]; rfl))) ?_
                      exact hj_184 ls (lv_sub hl [0, 1, 2, 3, 4, 5, 6, 7] rfl)
                    · skip
                      refine lv_iconst (v := (nI 1)) hx hb dX5_attacks_179 (by decide) ?_
                      refine lv_goto (tgt := 184) hx hb dX5_attacks_180 (by decide) ?_
                      refine W.top (y := .int (bI (gz (kd (bd f)) (ap (f % 8) (t % 8)) (ap (f / 8) (t / 8))))) (congrArg Value.int (by unfold gz; (repeat' split) <;> first | omega | (rw [decide_eq_true (by omega)]; rfl) | (rw [decide_eq_false (by omega)]; rfl))) ?_
                      exact hj_184 ls (lv_sub hl [0, 1, 2, 3, 4, 5, 6, 7] rfl)
                · skip
                  refine lv_iload hx hb dX5_attacks_152 (lv_at hl 2 rfl) ?_
                  refine lv_iconst (v := (nI 3)) hx hb dX5_attacks_154 (by decide) ?_
                  refine ln_icmp_eq (tgt := 162) hx hb dX5_attacks_155 (by decide) (by omega) (by decide) (fun c_10 => ?_) (fun c_10 => ?_)
                  · skip
                    refine lv_iconst (v := (nI 0)) hx hb dX5_attacks_162 (by decide) ?_
                    refine lv_goto (tgt := 184) hx hb dX5_attacks_163 (by decide) ?_
                    refine W.top (y := .int (bI (gz (kd (bd f)) (ap (f % 8) (t % 8)) (ap (f / 8) (t / 8))))) (congrArg Value.int (by unfold gz; (repeat' split) <;> first | omega | (rw [decide_eq_true (by omega)]; rfl) | (rw [decide_eq_false (by omega)]; rfl))) ?_
                    exact hj_184 ls (lv_sub hl [0, 1, 2, 3, 4, 5, 6, 7] rfl)
                  · skip
                    refine lv_iconst (v := (nI 1)) hx hb dX5_attacks_158 (by decide) ?_
                    refine lv_goto (tgt := 184) hx hb dX5_attacks_159 (by decide) ?_
                    refine W.top (y := .int (bI (gz (kd (bd f)) (ap (f % 8) (t % 8)) (ap (f / 8) (t / 8))))) (congrArg Value.int (by unfold gz; (repeat' split) <;> first | omega | (rw [decide_eq_true (by omega)]; rfl) | (rw [decide_eq_false (by omega)]; rfl))) ?_
                    exact hj_184 ls (lv_sub hl [0, 1, 2, 3, 4, 5, 6, 7] rfl)
          · skip
            refine lv_iload hx hb dX5_attacks_124 (lv_at hl 1 rfl) ?_
            refine lv_iconst (v := (nI 2)) hx hb dX5_attacks_126 (by decide) ?_
            refine ln_icmp_ge (tgt := 140) hx hb dX5_attacks_127 (by decide) (by omega) (by decide) (fun c_11 => ?_) (fun c_11 => ?_)
            · skip
              refine lv_iconst (v := (nI 0)) hx hb dX5_attacks_140 (by decide) ?_
              exact reZ (v := false) hx hb hr hlocks dX5_attacks_141 (congrArg bI (by rw [atk_6 c50 c121]; symm; first | exact decide_eq_true ⟨by omega, by omega⟩ | exact decide_eq_false (fun h => by omega)))
            · skip
              refine lv_iload hx hb dX5_attacks_130 (lv_at hl 0 rfl) ?_
              refine lv_iconst (v := (nI 2)) hx hb dX5_attacks_132 (by decide) ?_
              refine ln_icmp_ge (tgt := 140) hx hb dX5_attacks_133 (by decide) (by omega) (by decide) (fun c_12 => ?_) (fun c_12 => ?_)
              · skip
                refine lv_iconst (v := (nI 0)) hx hb dX5_attacks_140 (by decide) ?_
                exact reZ (v := false) hx hb hr hlocks dX5_attacks_141 (congrArg bI (by rw [atk_6 c50 c121]; symm; first | exact decide_eq_true ⟨by omega, by omega⟩ | exact decide_eq_false (fun h => by omega)))
              · skip
                refine lv_iconst (v := (nI 1)) hx hb dX5_attacks_136 (by decide) ?_
                refine lv_goto (tgt := 141) hx hb dX5_attacks_137 (by decide) ?_
                exact reZ (v := true) hx hb hr hlocks dX5_attacks_141 (congrArg bI (by rw [atk_6 c50 c121]; symm; first | exact decide_eq_true ⟨by omega, by omega⟩ | exact decide_eq_false (fun h => by omega)))
        · skip
          refine lv_iload hx hb dX5_attacks_102 (lv_at hl 1 rfl) ?_
          refine lv_iload hx hb dX5_attacks_104 (lv_at hl 0 rfl) ?_
          refine ln_imul hx hb dX5_attacks_106 ?_
          refine lv_iconst (v := (nI 2)) hx hb dX5_attacks_107 (by decide) ?_
          refine ln_icmp_ne (tgt := 115) hx hb dX5_attacks_108 (by decide) (by omega) (by decide) (fun c_13 => ?_) (fun c_13 => ?_)
          · skip
            refine lv_iconst (v := (nI 0)) hx hb dX5_attacks_115 (by decide) ?_
            exact reZ (v := false) hx hb hr hlocks dX5_attacks_116 (congrArg bI (by rw [atk_2 c50 c99]; symm; first | exact decide_eq_true (by assumption) | exact decide_eq_false (by assumption)))
          · skip
            refine lv_iconst (v := (nI 1)) hx hb dX5_attacks_111 (by decide) ?_
            refine lv_goto (tgt := 116) hx hb dX5_attacks_112 (by decide) ?_
            exact reZ (v := true) hx hb hr hlocks dX5_attacks_116 (congrArg bI (by rw [atk_2 c50 c99]; symm; first | exact decide_eq_true (by assumption) | exact decide_eq_false (by assumption)))
      · skip
        refine lv_iload hx hb dX5_attacks_61 (lv_at hl 1 rfl) ?_
        refine lv_iconst (v := (nI 1)) hx hb dX5_attacks_63 (by decide) ?_
        refine ln_icmp_ne (tgt := 94) hx hb dX5_attacks_64 (by decide) (by omega) (by decide) (fun c_14 => ?_) (fun c_14 => ?_)
        · skip
          refine lv_iconst (v := (nI 0)) hx hb dX5_attacks_94 (by decide) ?_
          exact reZ (v := false) hx hb hr hlocks dX5_attacks_95 (congrArg bI (by rw [atk_1 hf ht c50 c58]; symm; first | exact decide_eq_true ⟨by assumption, by assumption⟩ | exact decide_eq_false (fun h => absurd h.1 (by assumption)) | exact decide_eq_false (fun h => absurd h.2 (by assumption))))
        · skip
          refine lv_iload_n hx hb dX5_attacks_67 rfl (lv_at hl 7 rfl) ?_
          refine lv_bipush (v := (nI 8)) hx hb dX5_attacks_68 (by decide) ?_
          refine ln_idiv hx hb dX5_attacks_70 (by omega) (by decide) (by decide) ?_
          refine lv_iload_n hx hb dX5_attacks_71 rfl (lv_at hl 6 rfl) ?_
          refine lv_bipush (v := (nI 8)) hx hb dX5_attacks_72 (by decide) ?_
          refine ln_idiv hx hb dX5_attacks_74 (by omega) (by decide) (by decide) ?_
          refine lv_isub hx hb dX5_attacks_75 ?_
          refine lv_iload hx hb dX5_attacks_76 (lv_at hl 3 rfl) ?_
          refine lv_iconst (v := (nI 1)) hx hb dX5_attacks_78 (by decide) ?_
          refine jnG 87 9 [(7, .int (nI (ap (f / 8) (t / 8)))), (6, .int (nI (ap (f % 8) (t % 8)))), (5, .int (nI (kd (bd f)))), (4, .int (nI (bd f))), (0, .ref hm), (1, .int (nI b)), (2, .int (nI f)), (3, .int (nI t))] [.int (if bd f = 1 then 1 else -1), .int ((nI (t / 8)) - (nI (f / 8)))] ?_ (fun hj_87 => ?_)
          · intro ls hl
            refine lv_icmp_ne (tgt := 94) hx hb dX5_attacks_87 (by decide) (fun c_15 => ?_) (fun c_15 => ?_)
            · skip
              refine lv_iconst (v := (nI 0)) hx hb dX5_attacks_94 (by decide) ?_
              exact reZ (v := false) hx hb hr hlocks dX5_attacks_95 (congrArg bI (by rw [atk_1 hf ht c50 c58]; symm; first | exact decide_eq_true ⟨by assumption, by assumption⟩ | exact decide_eq_false (fun h => absurd h.1 (by assumption)) | exact decide_eq_false (fun h => absurd h.2 (by assumption))))
            · skip
              refine lv_iconst (v := (nI 1)) hx hb dX5_attacks_90 (by decide) ?_
              refine lv_goto (tgt := 95) hx hb dX5_attacks_91 (by decide) ?_
              exact reZ (v := true) hx hb hr hlocks dX5_attacks_95 (congrArg bI (by rw [atk_1 hf ht c50 c58]; symm; first | exact decide_eq_true ⟨by assumption, by assumption⟩ | exact decide_eq_false (fun h => absurd h.1 (by assumption)) | exact decide_eq_false (fun h => absurd h.2 (by assumption))))
          · skip
            refine ln_icmp_ne (tgt := 86) hx hb dX5_attacks_79 (by decide) (by omega) (by decide) (fun c_16 => ?_) (fun c_16 => ?_)
            · skip
              refine lv_iconst (v := (-1)) hx hb dX5_attacks_86 (by decide) ?_
              refine W.top (y := .int (if bd f = 1 then 1 else -1)) (congrArg Value.int (by first | rw [if_pos (by assumption)]; rfl | rw [if_neg (by assumption)])) ?_
              exact hj_87 ls (lv_sub hl [0, 1, 2, 3, 4, 5, 6, 7] rfl)
            · skip
              refine lv_iconst (v := (nI 1)) hx hb dX5_attacks_82 (by decide) ?_
              refine lv_goto (tgt := 87) hx hb dX5_attacks_83 (by decide) ?_
              refine W.top (y := .int (if bd f = 1 then 1 else -1)) (congrArg Value.int (by first | rw [if_pos (by assumption)]; rfl | rw [if_neg (by assumption)])) ?_
              exact hj_87 ls (lv_sub hl [0, 1, 2, 3, 4, 5, 6, 7] rfl)
    · skip
      refine lv_iconst (v := (nI 0)) hx hb dX5_attacks_53 (by decide) ?_
      exact reZ (v := false) hx hb hr hlocks dX5_attacks_54 (congrArg bI (atk_0 (by first | exact Or.inl c45 | exact Or.inr c50)).symm)
theorem dX5_isAttacked_0 : decode cX5_isAttacked 0 = .ok (.iconst 0, 1) := by decide +kernel
theorem dX5_isAttacked_1 : decode cX5_isAttacked 1 = .ok (.istore 4, 2) := by decide +kernel
theorem dX5_isAttacked_3 : decode cX5_isAttacked 3 = .ok (.iconst 0, 1) := by decide +kernel
theorem dX5_isAttacked_4 : decode cX5_isAttacked 4 = .ok (.istore 5, 2) := by decide +kernel
theorem dX5_isAttacked_6 : decode cX5_isAttacked 6 = .ok (.iload 5, 2) := by decide +kernel
theorem dX5_isAttacked_8 : decode cX5_isAttacked 8 = .ok (.bipush 64, 2) := by decide +kernel
theorem dX5_isAttacked_10 : decode cX5_isAttacked 10 = .ok (.if_icmp .ge 48, 3) := by decide +kernel
theorem dX5_isAttacked_13 : decode cX5_isAttacked 13 = .ok (.iload 4, 2) := by decide +kernel
theorem dX5_isAttacked_15 : decode cX5_isAttacked 15 = .ok (.ifCond .ne 43, 3) := by decide +kernel
theorem dX5_isAttacked_18 : decode cX5_isAttacked 18 = .ok (.aload_n 0, 1) := by decide +kernel
theorem dX5_isAttacked_19 : decode cX5_isAttacked 19 = .ok (.getfield 7, 3) := by decide +kernel
theorem dX5_isAttacked_22 : decode cX5_isAttacked 22 = .ok (.iload_n 1, 1) := by decide +kernel
theorem dX5_isAttacked_23 : decode cX5_isAttacked 23 = .ok (.iload 5, 2) := by decide +kernel
theorem dX5_isAttacked_25 : decode cX5_isAttacked 25 = .ok (.iadd, 1) := by decide +kernel
theorem dX5_isAttacked_26 : decode cX5_isAttacked 26 = .ok (.iaload, 1) := by decide +kernel
theorem dX5_isAttacked_27 : decode cX5_isAttacked 27 = .ok (.invokestatic 51, 3) := by decide +kernel
theorem dX5_isAttacked_30 : decode cX5_isAttacked 30 = .ok (.iload_n 3, 1) := by decide +kernel
theorem dX5_isAttacked_31 : decode cX5_isAttacked 31 = .ok (.if_icmp .ne 18, 3) := by decide +kernel
theorem dX5_isAttacked_34 : decode cX5_isAttacked 34 = .ok (.aload_n 0, 1) := by decide +kernel
theorem dX5_isAttacked_35 : decode cX5_isAttacked 35 = .ok (.iload_n 1, 1) := by decide +kernel
theorem dX5_isAttacked_36 : decode cX5_isAttacked 36 = .ok (.iload 5, 2) := by decide +kernel
theorem dX5_isAttacked_38 : decode cX5_isAttacked 38 = .ok (.iload_n 2, 1) := by decide +kernel
theorem dX5_isAttacked_39 : decode cX5_isAttacked 39 = .ok (.invokevirtual 54, 3) := by decide +kernel
theorem dX5_isAttacked_42 : decode cX5_isAttacked 42 = .ok (.ifCond .eq 7, 3) := by decide +kernel
theorem dX5_isAttacked_45 : decode cX5_isAttacked 45 = .ok (.iconst 1, 1) := by decide +kernel
theorem dX5_isAttacked_46 : decode cX5_isAttacked 46 = .ok (.goto 4, 3) := by decide +kernel
theorem dX5_isAttacked_49 : decode cX5_isAttacked 49 = .ok (.iconst 0, 1) := by decide +kernel
theorem dX5_isAttacked_50 : decode cX5_isAttacked 50 = .ok (.istore 4, 2) := by decide +kernel
theorem dX5_isAttacked_52 : decode cX5_isAttacked 52 = .ok (.iinc 5 1, 3) := by decide +kernel
theorem dX5_isAttacked_55 : decode cX5_isAttacked 55 = .ok (.goto (-49), 3) := by decide +kernel
theorem dX5_isAttacked_58 : decode cX5_isAttacked 58 = .ok (.iload 4, 2) := by decide +kernel
theorem dX5_isAttacked_60 : decode cX5_isAttacked 60 = .ok (.ireturn, 1) := by decide +kernel
theorem hd_X5_isAttacked : yX5_isAttacked.cls ≠ "java/lang/invoke/MethodHandle" ∧ yX5_isAttacked.cls ≠ "java/lang/invoke/VarHandle" ∧ (parseMethodDescriptor yX5_isAttacked.desc).map (fun d => d.parameters.length) = some 3 := by decide +kernel
set_option maxHeartbeats 4000000 in
set_option maxRecDepth 100000 in
/-- isAttacked -/
theorem c_X5_isAttacked (l : Launch) {D : va_G} {cI cJ : ClassId} {A : Nat → Prop} {hm b0 b1 b2 b3 : Nat} {th mk sz : Int32} {F mv kp li : Nat → Int32} (bd : Nat → Nat) (b q w : Nat) (hb9 : b ≤ 300) (hq : q < 64) (hw : w < 2) (hBp : Bp F b bd) : Met l yX5_isAttacked (Cond.code yX5_isAttacked cX5_isAttacked 6 (some .boolean) :: wsL_law) (rK 2) (va_Pc [.ref hm, .int (nI b), .int (nI q), .int (nI w)] (IW D cI cJ A (rW cI hm b0 b1 b2 b3 th mk sz F mv kp li))) (vp_Si (fun r => r = bI (isA bd q w))) 0 0 (fun _ => False) := by
  refine entM (by decide) (Nat.le_of_ble_eq_true rfl) ?_
  intro p e s m below meth c ls S0 hr hlocks hG hnm hB hl
  have hx := S0.1
  have hb := S0.2.1
  have hown := S0.2.2.2.1
  have hl : lv_has ls 6 [(0, .ref hm), (1, .int (nI b)), (2, .int (nI q)), (3, .int (nI w))] := hl
  obtain ⟨hP, hD, hK, hA, hE⟩ := hB
  have hS : va_S A s.heap s.heap [] := va_S.rf
  refine lv_iconst (v := (nI 0)) hx hb dX5_isAttacked_0 (by decide) ?_
  refine W.top (y := .int (bI (anyN bd q w 0))) (congrArg Value.int rfl) ?_
  refine lv_istore (lv' := [(4, .int (bI (anyN bd q w 0))), (0, .ref hm), (1, .int (nI b)), (2, .int (nI q)), (3, .int (nI w))]) hx hb dX5_isAttacked_1 hl (by decide) rfl (fun ls hl => ?_)
  refine lv_iconst (v := (nI 0)) hx hb dX5_isAttacked_3 (by decide) ?_
  refine lv_istore (lv' := [(5, .int (nI 0)), (4, .int (bI (anyN bd q w 0))), (0, .ref hm), (1, .int (nI b)), (2, .int (nI q)), (3, .int (nI w))]) hx hb dX5_isAttacked_4 hl (by decide) rfl (fun ls hl => ?_)
  refine lpR (σ := Nat) 6 6 [] (fun x9 => [(0, .ref hm), (1, .int (nI b)), (2, .int (nI q)), (3, .int (nI w)), (4, .int (bI (anyN bd q w x9))), (5, .int (nI x9))]) (fun x9 => x9 ≤ 64) (fun x9 => 64 - x9) 0 (Nat.zero_le _) (lv_sub hl [2, 3, 4, 5, 1, 0] rfl) ?_
  clear hl ls
  rintro i hI ih ls hl
  try dsimp only at hI ih hl
  refine lv_iload hx hb dX5_isAttacked_6 (lv_at hl 5 rfl) ?_
  refine lv_bipush (v := (nI 64)) hx hb dX5_isAttacked_8 (by decide) ?_
  refine ln_icmp_ge (tgt := 58) hx hb dX5_isAttacked_10 (by decide) (by omega) (by decide) (fun c10 => ?_) (fun c10 => ?_)
  · skip
    refine lv_iload hx hb dX5_isAttacked_58 (lv_at hl 4 rfl) ?_
    exact reZ (v := anyN bd q w i) hx hb hr hlocks dX5_isAttacked_60 (congrArg bI (by first | (rw [c15, anyN_t (by omega) c15]) | (rw [show i = 64 by omega]; rfl)))
  · skip
    have hi : i < 64 := by omega
    obtain ⟨hv9, hk9⟩ := hBp i hi
    refine lv_iload hx hb dX5_isAttacked_13 (lv_at hl 4 rfl) ?_
    refine lb_if_ne (tgt := 58) hx hb dX5_isAttacked_15 (by decide) (fun c15 => ?_) (fun c15 => ?_)
    · skip
      refine lv_iload hx hb dX5_isAttacked_58 (lv_at hl 4 rfl) ?_
      exact reZ (v := anyN bd q w i) hx hb hr hlocks dX5_isAttacked_60 (congrArg bI (by first | (rw [c15, anyN_t (by omega) c15]) | (rw [show i = 64 by omega]; rfl)))
    · skip
      refine lv_aload_n hx hb dX5_isAttacked_18 rfl (lv_at hl 0 rfl) ?_
      refine va_get (D := D) (ci := 4) (v := .ref b0) (C := RX5) (T := TX5) (N := 7) hx hb hG wu_X5 hown hK hP 0 rfl rfl 1 (by decide) (hG _ wf_X5_7) (fun _ h9 => h9) rfl dX5_isAttacked_19 ?_
      refine lv_iload_n hx hb dX5_isAttacked_22 rfl (lv_at hl 1 rfl) ?_
      refine lv_iload hx hb dX5_isAttacked_23 (lv_at hl 5 rfl) ?_
      refine ln_iadd hx hb dX5_isAttacked_25 ?_
      refine va_iald hx hb hK hP 1 0 rfl rfl (vp_in_nI (by omega) (by decide)) dX5_isAttacked_26 ?_
      refine W.top (y := .int (F (b + i))) (congrArg (fun z => Value.int (F z)) (nI_clamp (by omega))) ?_
      refine W.top (y := .int (nI (bd i))) (congrArg Value.int hv9) ?_
      refine roI (rnS (As := [.int (nI (bd i))]) (rest := []) S0 (c_X5_sideOf l (bd i) (by omega)) wm_X5_51 wt_X5_sideOf wn_X5 wc_X5_sideOf hd_X5_sideOf ⟨rfl, rfl, by decide, by decide⟩ True.blind (fun _ _ _ => trivial) hl.1 (Nat.le_of_ble_eq_true rfl) dX5_isAttacked_27 rfl ⟨by decide, by decide⟩) (fun r_1 hr_1 => ?_)
      subst hr_1
      refine lv_iload_n hx hb dX5_isAttacked_30 rfl (lv_at hl 3 rfl) ?_
      refine jnG 50 6 [(0, .ref hm), (1, .int (nI b)), (2, .int (nI q)), (3, .int (nI w)), (4, .int (bI (anyN bd q w i))), (5, .int (nI i))] [.int (bI (anyN bd q w (i + 1)))] ?_ (fun hj_50 => ?_)
      · intro ls hl
        refine lv_istore (lv' := [(4, .int (bI (anyN bd q w (i + 1)))), (0, .ref hm), (1, .int (nI b)), (2, .int (nI q)), (3, .int (nI w)), (5, .int (nI i))]) hx hb dX5_isAttacked_50 hl (by decide) rfl (fun ls hl => ?_)
        refine lv_iinc (v := (nI (i + 1))) (lv' := [(5, .int (nI (i + 1))), (4, .int (bI (anyN bd q w (i + 1)))), (0, .ref hm), (1, .int (nI b)), (2, .int (nI q)), (3, .int (nI w))]) hx hb dX5_isAttacked_52 hl (k := 5) rfl (show nI i + Int32.ofInt 1 = nI (i + 1) from nI_add _ 1) (by decide) rfl (fun ls hl => ?_)
        refine lv_goto (tgt := 6) hx hb dX5_isAttacked_55 (by decide) ?_
        exact ih (i + 1) (by omega) (by (try dsimp only); omega) ls (lv_sub hl [2, 3, 4, 5, 1, 0] rfl)
      · skip
        refine lv_icmp_ne (tgt := 49) hx hb dX5_isAttacked_31 (by decide) (fun c31 => ?_) (fun c31 => ?_)
        · skip
          rw [sdI_eq hw] at c31
          refine lv_iconst (v := (nI 0)) hx hb dX5_isAttacked_49 (by decide) ?_
          refine W.top (y := .int (bI (anyN bd q w (i + 1)))) (congrArg Value.int (by rw [anyN_s, c15]; first | rw [decide_eq_false (by assumption)]; rfl | (rw [decide_eq_true (by assumption), c42]; rfl))) ?_
          exact hj_50 ls (lv_sub hl [0, 1, 2, 3, 4, 5] rfl)
        · skip
          rw [sdI_eq hw] at c31
          refine lv_aload_n hx hb dX5_isAttacked_34 rfl (lv_at hl 0 rfl) ?_
          refine lv_iload_n hx hb dX5_isAttacked_35 rfl (lv_at hl 1 rfl) ?_
          refine lv_iload hx hb dX5_isAttacked_36 (lv_at hl 5 rfl) ?_
          refine lv_iload_n hx hb dX5_isAttacked_38 rfl (lv_at hl 2 rfl) ?_
          refine roI (rnV (As := [.int (nI b), .int (nI i), .int (nI q)]) (rest := []) S0 (c_X5_attacks l bd b i q hb9 hi hq hBp) wm_X5_54 wi_X5_attacks ws_X5_attacks wn_X5 wc_X5_attacks hd_X5_attacks ⟨rfl, rfl, by decide, by decide⟩ IW.blind (va_recv hK hP (ci := 4) (q0 := 0) rfl rfl) (IW.at hP hD hK hA hE hS) hl.1 (Nat.le_of_ble_eq_true rfl) dX5_isAttacked_39 rfl ⟨by decide, by decide⟩) (fun r_2 hr_2 => ?_)
          subst hr_2
          refine lb_if_eq (tgt := 49) hx hb dX5_isAttacked_42 (by decide) (fun c42 => ?_) (fun c42 => ?_)
          · skip
            refine lv_iconst (v := (nI 0)) hx hb dX5_isAttacked_49 (by decide) ?_
            refine W.top (y := .int (bI (anyN bd q w (i + 1)))) (congrArg Value.int (by rw [anyN_s, c15]; first | rw [decide_eq_false (by assumption)]; rfl | (rw [decide_eq_true (by assumption), c42]; rfl))) ?_
            exact hj_50 ls (lv_sub hl [0, 1, 2, 3, 4, 5] rfl)
          · skip
            refine lv_iconst (v := (nI 1)) hx hb dX5_isAttacked_45 (by decide) ?_
            refine lv_goto (tgt := 50) hx hb dX5_isAttacked_46 (by decide) ?_
            refine W.top (y := .int (bI (anyN bd q w (i + 1)))) (congrArg Value.int (by rw [anyN_s, c15]; first | rw [decide_eq_false (by assumption)]; rfl | (rw [decide_eq_true (by assumption), c42]; rfl))) ?_
            exact hj_50 ls (lv_sub hl [0, 1, 2, 3, 4, 5] rfl)
theorem dX5_kingOf_0 : decode cX5_kingOf 0 = .ok (.iconst (-1), 1) := by decide +kernel
theorem dX5_kingOf_1 : decode cX5_kingOf 1 = .ok (.istore_n 3, 1) := by decide +kernel
theorem dX5_kingOf_2 : decode cX5_kingOf 2 = .ok (.iconst 0, 1) := by decide +kernel
theorem dX5_kingOf_3 : decode cX5_kingOf 3 = .ok (.istore 4, 2) := by decide +kernel
theorem dX5_kingOf_5 : decode cX5_kingOf 5 = .ok (.iconst 0, 1) := by decide +kernel
theorem dX5_kingOf_6 : decode cX5_kingOf 6 = .ok (.istore 5, 2) := by decide +kernel
theorem dX5_kingOf_8 : decode cX5_kingOf 8 = .ok (.iload 5, 2) := by decide +kernel
theorem dX5_kingOf_10 : decode cX5_kingOf 10 = .ok (.bipush 64, 2) := by decide +kernel
theorem dX5_kingOf_12 : decode cX5_kingOf 12 = .ok (.if_icmp .ge 34, 3) := by decide +kernel
theorem dX5_kingOf_15 : decode cX5_kingOf 15 = .ok (.aload_n 0, 1) := by decide +kernel
theorem dX5_kingOf_16 : decode cX5_kingOf 16 = .ok (.getfield 7, 3) := by decide +kernel
theorem dX5_kingOf_19 : decode cX5_kingOf 19 = .ok (.iload_n 1, 1) := by decide +kernel
theorem dX5_kingOf_20 : decode cX5_kingOf 20 = .ok (.iload 5, 2) := by decide +kernel
theorem dX5_kingOf_22 : decode cX5_kingOf 22 = .ok (.iadd, 1) := by decide +kernel
theorem dX5_kingOf_23 : decode cX5_kingOf 23 = .ok (.iaload, 1) := by decide +kernel
theorem dX5_kingOf_24 : decode cX5_kingOf 24 = .ok (.bipush 6, 2) := by decide +kernel
theorem dX5_kingOf_26 : decode cX5_kingOf 26 = .ok (.bipush 6, 2) := by decide +kernel
theorem dX5_kingOf_28 : decode cX5_kingOf 28 = .ok (.iload_n 2, 1) := by decide +kernel
theorem dX5_kingOf_29 : decode cX5_kingOf 29 = .ok (.imul, 1) := by decide +kernel
theorem dX5_kingOf_30 : decode cX5_kingOf 30 = .ok (.iadd, 1) := by decide +kernel
theorem dX5_kingOf_31 : decode cX5_kingOf 31 = .ok (.if_icmp .ne 9, 3) := by decide +kernel
theorem dX5_kingOf_34 : decode cX5_kingOf 34 = .ok (.iload 5, 2) := by decide +kernel
theorem dX5_kingOf_36 : decode cX5_kingOf 36 = .ok (.istore_n 3, 1) := by decide +kernel
theorem dX5_kingOf_37 : decode cX5_kingOf 37 = .ok (.iinc 4 1, 3) := by decide +kernel
theorem dX5_kingOf_40 : decode cX5_kingOf 40 = .ok (.iinc 5 1, 3) := by decide +kernel
theorem dX5_kingOf_43 : decode cX5_kingOf 43 = .ok (.goto (-35), 3) := by decide +kernel
theorem dX5_kingOf_46 : decode cX5_kingOf 46 = .ok (.iload 4, 2) := by decide +kernel
theorem dX5_kingOf_48 : decode cX5_kingOf 48 = .ok (.iconst 1, 1) := by decide +kernel
theorem dX5_kingOf_49 : decode cX5_kingOf 49 = .ok (.if_icmp .ne 7, 3) := by decide +kernel
theorem dX5_kingOf_52 : decode cX5_kingOf 52 = .ok (.iload_n 3, 1) := by decide +kernel
theorem dX5_kingOf_53 : decode cX5_kingOf 53 = .ok (.goto 4, 3) := by decide +kernel
theorem dX5_kingOf_56 : decode cX5_kingOf 56 = .ok (.iconst (-1), 1) := by decide +kernel
theorem dX5_kingOf_57 : decode cX5_kingOf 57 = .ok (.ireturn, 1) := by decide +kernel
theorem hd_X5_kingOf : yX5_kingOf.cls ≠ "java/lang/invoke/MethodHandle" ∧ yX5_kingOf.cls ≠ "java/lang/invoke/VarHandle" ∧ (parseMethodDescriptor yX5_kingOf.desc).map (fun d => d.parameters.length) = some 2 := by decide +kernel
set_option maxHeartbeats 4000000 in
set_option maxRecDepth 100000 in
/-- kingOf -/
theorem c_X5_kingOf (l : Launch) {D : va_G} {cI cJ : ClassId} {A : Nat → Prop} {hm b0 b1 b2 b3 : Nat} {th mk sz : Int32} {F mv kp li : Nat → Int32} (bd : Nat → Nat) (b w : Nat) (hb9 : b ≤ 300) (hw : w < 2) (hBp : Bp F b bd) : Met l yX5_kingOf (Cond.code yX5_kingOf cX5_kingOf 6 (some .int) :: wsL_law) (rK 0) (va_Pc [.ref hm, .int (nI b), .int (nI w)] (IW D cI cJ A (rW cI hm b0 b1 b2 b3 th mk sz F mv kp li))) (vp_Si (fun r => r = pI (kgs bd w))) 0 0 (fun _ => False) := by
  refine entM (by decide) (Nat.le_of_ble_eq_true rfl) ?_
  intro p e s m below meth c ls S0 hr hlocks hG hnm hB hl
  have hx := S0.1
  have hb := S0.2.1
  have hown := S0.2.2.2.1
  have hl : lv_has ls 6 [(0, .ref hm), (1, .int (nI b)), (2, .int (nI w))] := hl
  obtain ⟨hP, hD, hK, hA, hE⟩ := hB
  have hS : va_S A s.heap s.heap [] := va_S.rf
  refine lv_iconst (v := (-1)) hx hb dX5_kingOf_0 (by decide) ?_
  refine W.top (y := .int (pI (kat bd w 0))) (congrArg Value.int rfl) ?_
  refine lv_istore_n (lv' := [(3, .int (pI (kat bd w 0))), (0, .ref hm), (1, .int (nI b)), (2, .int (nI w))]) hx hb dX5_kingOf_1 rfl hl (by decide) rfl (fun ls hl => ?_)
  refine lv_iconst (v := (nI 0)) hx hb dX5_kingOf_2 (by decide) ?_
  refine W.top (y := .int (nI (kc bd w 0))) (congrArg Value.int rfl) ?_
  refine lv_istore (lv' := [(4, .int (nI (kc bd w 0))), (3, .int (pI (kat bd w 0))), (0, .ref hm), (1, .int (nI b)), (2, .int (nI w))]) hx hb dX5_kingOf_3 hl (by decide) rfl (fun ls hl => ?_)
  refine lv_iconst (v := (nI 0)) hx hb dX5_kingOf_5 (by decide) ?_
  refine lv_istore (lv' := [(5, .int (nI 0)), (4, .int (nI (kc bd w 0))), (3, .int (pI (kat bd w 0))), (0, .ref hm), (1, .int (nI b)), (2, .int (nI w))]) hx hb dX5_kingOf_6 hl (by decide) rfl (fun ls hl => ?_)
  refine lpR (σ := Nat) 8 6 [] (fun x9 => [(0, .ref hm), (1, .int (nI b)), (2, .int (nI w)), (3, .int (pI (kat bd w x9))), (4, .int (nI (kc bd w x9))), (5, .int (nI x9))]) (fun x9 => x9 ≤ 64) (fun x9 => 64 - x9) 0 (Nat.zero_le _) (lv_sub hl [3, 4, 5, 2, 1, 0] rfl) ?_
  clear hl ls
  rintro i hI ih ls hl
  try dsimp only at hI ih hl
  have hkc := kc_le bd w i
  refine lv_iload hx hb dX5_kingOf_8 (lv_at hl 5 rfl) ?_
  refine lv_bipush (v := (nI 64)) hx hb dX5_kingOf_10 (by decide) ?_
  refine ln_icmp_ge (tgt := 46) hx hb dX5_kingOf_12 (by decide) (by omega) (by decide) (fun c_1 => ?_) (fun c_1 => ?_)
  · skip
    have hi64 : i = 64 := by omega
    refine lv_iload hx hb dX5_kingOf_46 (lv_at hl 4 rfl) ?_
    refine lv_iconst (v := (nI 1)) hx hb dX5_kingOf_48 (by decide) ?_
    refine jnG 57 6 [(0, .ref hm), (1, .int (nI b)), (2, .int (nI w)), (3, .int (pI (kat bd w i))), (4, .int (nI (kc bd w i))), (5, .int (nI i))] [.int (pI (kgs bd w))] ?_ (fun hj_57 => ?_)
    · intro ls hl
      exact reI hx hb hr hlocks dX5_kingOf_57 rfl
    · skip
      refine ln_icmp_ne (tgt := 56) hx hb dX5_kingOf_49 (by decide) (by omega) (by decide) (fun c49 => ?_) (fun c49 => ?_)
      · skip
        rw [hi64] at c49
        refine lv_iconst (v := (-1)) hx hb dX5_kingOf_56 (by decide) ?_
        refine W.top (y := .int (pI (kgs bd w))) (congrArg Value.int (by first | (rw [hi64]; unfold kgs; rw [if_pos c49]) | (unfold kgs; rw [if_neg c49, pI_64]))) ?_
        exact hj_57 ls (lv_sub hl [0, 1, 2, 3, 4, 5] rfl)
      · skip
        rw [hi64] at c49
        refine lv_iload_n hx hb dX5_kingOf_52 rfl (lv_at hl 3 rfl) ?_
        refine lv_goto (tgt := 57) hx hb dX5_kingOf_53 (by decide) ?_
        refine W.top (y := .int (pI (kgs bd w))) (congrArg Value.int (by first | (rw [hi64]; unfold kgs; rw [if_pos c49]) | (unfold kgs; rw [if_neg c49, pI_64]))) ?_
        exact hj_57 ls (lv_sub hl [0, 1, 2, 3, 4, 5] rfl)
  · skip
    have hi : i < 64 := by omega
    obtain ⟨hv9, hk9⟩ := hBp i hi
    refine lv_aload_n hx hb dX5_kingOf_15 rfl (lv_at hl 0 rfl) ?_
    refine va_get (D := D) (ci := 4) (v := .ref b0) (C := RX5) (T := TX5) (N := 7) hx hb hG wu_X5 hown hK hP 0 rfl rfl 1 (by decide) (hG _ wf_X5_7) (fun _ h9 => h9) rfl dX5_kingOf_16 ?_
    refine lv_iload_n hx hb dX5_kingOf_19 rfl (lv_at hl 1 rfl) ?_
    refine lv_iload hx hb dX5_kingOf_20 (lv_at hl 5 rfl) ?_
    refine ln_iadd hx hb dX5_kingOf_22 ?_
    refine va_iald hx hb hK hP 1 0 rfl rfl (vp_in_nI (by omega) (by decide)) dX5_kingOf_23 ?_
    refine W.top (y := .int (F (b + i))) (congrArg (fun z => Value.int (F z)) (nI_clamp (by omega))) ?_
    refine W.top (y := .int (nI (bd i))) (congrArg Value.int hv9) ?_
    refine lv_bipush (v := (nI 6)) hx hb dX5_kingOf_24 (by decide) ?_
    refine lv_bipush (v := (nI 6)) hx hb dX5_kingOf_26 (by decide) ?_
    refine lv_iload_n hx hb dX5_kingOf_28 rfl (lv_at hl 2 rfl) ?_
    refine ln_imul hx hb dX5_kingOf_29 ?_
    refine ln_iadd hx hb dX5_kingOf_30 ?_
    refine jnG 40 6 [(0, .ref hm), (1, .int (nI b)), (2, .int (nI w)), (3, .int (pI (kat bd w (i + 1)))), (4, .int (nI (kc bd w (i + 1)))), (5, .int (nI i))] [] ?_ (fun hj_40 => ?_)
    · intro ls hl
      refine lv_iinc (v := (nI (i + 1))) (lv' := [(5, .int (nI (i + 1))), (0, .ref hm), (1, .int (nI b)), (2, .int (nI w)), (3, .int (pI (kat bd w (i + 1)))), (4, .int (nI (kc bd w (i + 1))))]) hx hb dX5_kingOf_40 hl (k := 5) rfl (show nI i + Int32.ofInt 1 = nI (i + 1) from nI_add _ 1) (by decide) rfl (fun ls hl => ?_)
      refine lv_goto (tgt := 8) hx hb dX5_kingOf_43 (by decide) ?_
      exact ih (i + 1) (by omega) (by (try dsimp only); omega) ls (lv_sub hl [1, 2, 3, 4, 5, 0] rfl)
    · skip
      refine ln_icmp_ne (tgt := 40) hx hb dX5_kingOf_31 (by decide) (by omega) (by omega) (fun c31 => ?_) (fun c31 => ?_)
      · skip
        have hl2 : lv_has ls 6 [(0, .ref hm), (1, .int (nI b)), (2, .int (nI w)), (3, .int (pI (kat bd w i))), (4, .int (nI (kc bd w i))), (5, .int (nI i))] := by
          exact lv_sub hl [0, 1, 2, 3, 4, 5] rfl
        exact hj_40 ls (by have e9 : ([(0, .ref hm), (1, .int (nI b)), (2, .int (nI w)), (3, .int (pI (kat bd w i))), (4, .int (nI (kc bd w i))), (5, .int (nI i))] : List (Nat × Value)) = [(0, .ref hm), (1, .int (nI b)), (2, .int (nI w)), (3, .int (pI (kat bd w (i + 1)))), (4, .int (nI (kc bd w (i + 1)))), (5, .int (nI i))] := (by first | simp only [kat, kc, if_neg c31, Nat.add_zero] | simp only [kat, kc, if_pos c31, pI, if_pos hi]); rw [← e9]; exact hl2)
      · skip
        refine lv_iload hx hb dX5_kingOf_34 (lv_at hl 5 rfl) ?_
        refine lv_istore_n (lv' := [(3, .int (nI i)), (0, .ref hm), (1, .int (nI b)), (2, .int (nI w)), (4, .int (nI (kc bd w i))), (5, .int (nI i))]) hx hb dX5_kingOf_36 rfl hl (by decide) rfl (fun ls hl => ?_)
        refine lv_iinc (v := (nI ((kc bd w i) + 1))) (lv' := [(4, .int (nI ((kc bd w i) + 1))), (3, .int (nI i)), (0, .ref hm), (1, .int (nI b)), (2, .int (nI w)), (5, .int (nI i))]) hx hb dX5_kingOf_37 hl (k := 4) rfl (show nI (kc bd w i) + Int32.ofInt 1 = nI ((kc bd w i) + 1) from nI_add _ 1) (by decide) rfl (fun ls hl => ?_)
        have hl2 : lv_has ls 6 [(0, .ref hm), (1, .int (nI b)), (2, .int (nI w)), (3, .int (nI i)), (4, .int (nI ((kc bd w i) + 1))), (5, .int (nI i))] := by
          exact lv_sub hl [2, 3, 4, 1, 0, 5] rfl
        exact hj_40 ls (by have e9 : ([(0, .ref hm), (1, .int (nI b)), (2, .int (nI w)), (3, .int (nI i)), (4, .int (nI ((kc bd w i) + 1))), (5, .int (nI i))] : List (Nat × Value)) = [(0, .ref hm), (1, .int (nI b)), (2, .int (nI w)), (3, .int (pI (kat bd w (i + 1)))), (4, .int (nI (kc bd w (i + 1)))), (5, .int (nI i))] := (by first | simp only [kat, kc, if_neg c31, Nat.add_zero] | simp only [kat, kc, if_pos c31, pI, if_pos hi]); rw [← e9]; exact hl2)
theorem dX5_isChecked_0 : decode cX5_isChecked 0 = .ok (.aload_n 0, 1) := by decide +kernel
theorem dX5_isChecked_1 : decode cX5_isChecked 1 = .ok (.iload_n 1, 1) := by decide +kernel
theorem dX5_isChecked_2 : decode cX5_isChecked 2 = .ok (.aload_n 0, 1) := by decide +kernel
theorem dX5_isChecked_3 : decode cX5_isChecked 3 = .ok (.iload_n 1, 1) := by decide +kernel
theorem dX5_isChecked_4 : decode cX5_isChecked 4 = .ok (.iload_n 2, 1) := by decide +kernel
theorem dX5_isChecked_5 : decode cX5_isChecked 5 = .ok (.invokevirtual 57, 3) := by decide +kernel
theorem dX5_isChecked_8 : decode cX5_isChecked 8 = .ok (.iconst 1, 1) := by decide +kernel
theorem dX5_isChecked_9 : decode cX5_isChecked 9 = .ok (.iload_n 2, 1) := by decide +kernel
theorem dX5_isChecked_10 : decode cX5_isChecked 10 = .ok (.isub, 1) := by decide +kernel
theorem dX5_isChecked_11 : decode cX5_isChecked 11 = .ok (.invokevirtual 60, 3) := by decide +kernel
theorem dX5_isChecked_14 : decode cX5_isChecked 14 = .ok (.ireturn, 1) := by decide +kernel
theorem hd_X5_isChecked : yX5_isChecked.cls ≠ "java/lang/invoke/MethodHandle" ∧ yX5_isChecked.cls ≠ "java/lang/invoke/VarHandle" ∧ (parseMethodDescriptor yX5_isChecked.desc).map (fun d => d.parameters.length) = some 2 := by decide +kernel
set_option maxHeartbeats 4000000 in
set_option maxRecDepth 100000 in
/-- isChecked -/
theorem c_X5_isChecked (l : Launch) {D : va_G} {cI cJ : ClassId} {A : Nat → Prop} {hm b0 b1 b2 b3 : Nat} {th mk sz : Int32} {F mv kp li : Nat → Int32} (bd : Nat → Nat) (b w : Nat) (hb9 : b ≤ 300) (hw : w < 2) (hBp : Bp F b bd) (hkg : kgs bd w < 64) : Met l yX5_isChecked (Cond.code yX5_isChecked cX5_isChecked 3 (some .boolean) :: wsL_law) (rK 3) (va_Pc [.ref hm, .int (nI b), .int (nI w)] (IW D cI cJ A (rW cI hm b0 b1 b2 b3 th mk sz F mv kp li))) (vp_Si (fun r => r = bI (isA bd (kgs bd w) (1 - w)))) 0 0 (fun _ => False) := by
  refine entM (by decide) (Nat.le_of_ble_eq_true rfl) ?_
  intro p e s m below meth c ls S0 hr hlocks hG hnm hB hl
  have hx := S0.1
  have hb := S0.2.1
  have hown := S0.2.2.2.1
  have hl : lv_has ls 3 [(0, .ref hm), (1, .int (nI b)), (2, .int (nI w))] := hl
  obtain ⟨hP, hD, hK, hA, hE⟩ := hB
  have hS : va_S A s.heap s.heap [] := va_S.rf
  refine lv_aload_n hx hb dX5_isChecked_0 rfl (lv_at hl 0 rfl) ?_
  refine lv_iload_n hx hb dX5_isChecked_1 rfl (lv_at hl 1 rfl) ?_
  refine lv_aload_n hx hb dX5_isChecked_2 rfl (lv_at hl 0 rfl) ?_
  refine lv_iload_n hx hb dX5_isChecked_3 rfl (lv_at hl 1 rfl) ?_
  refine lv_iload_n hx hb dX5_isChecked_4 rfl (lv_at hl 2 rfl) ?_
  refine roI (rnV (As := [.int (nI b), .int (nI w)]) (rest := [.int (nI b), .ref hm]) S0 (c_X5_kingOf l bd b w hb9 hw hBp) wm_X5_57 wi_X5_kingOf ws_X5_kingOf wn_X5 wc_X5_kingOf hd_X5_kingOf ⟨rfl, rfl, by decide, by decide⟩ IW.blind (va_recv hK hP (ci := 4) (q0 := 0) rfl rfl) (IW.at hP hD hK hA hE hS) hl.1 (Nat.le_of_ble_eq_true rfl) dX5_isChecked_5 rfl ⟨by decide, by decide⟩) (fun r_1 hr_1 => ?_)
  subst hr_1
  refine W.top (y := .int (nI (kgs bd w))) (congrArg Value.int (pI_lt hkg)) ?_
  refine lv_iconst (v := (nI 1)) hx hb dX5_isChecked_8 (by decide) ?_
  refine lv_iload_n hx hb dX5_isChecked_9 rfl (lv_at hl 2 rfl) ?_
  refine ln_isub hx hb dX5_isChecked_10 (by omega) ?_
  refine roI (rnV (As := [.int (nI b), .int (nI (kgs bd w)), .int (nI (1 - w))]) (rest := []) S0 (c_X5_isAttacked l bd b (kgs bd w) (1 - w) hb9 hkg (by omega) hBp) wm_X5_60 wi_X5_isAttacked ws_X5_isAttacked wn_X5 wc_X5_isAttacked hd_X5_isAttacked ⟨rfl, rfl, by decide, by decide⟩ IW.blind (va_recv hK hP (ci := 4) (q0 := 0) rfl rfl) (IW.at hP hD hK hA hE hS) hl.1 (Nat.le_of_ble_eq_true rfl) dX5_isChecked_11 rfl ⟨by decide, by decide⟩) (fun r_2 hr_2 => ?_)
  subst hr_2
  exact reZ (v := isA bd (kgs bd w) (1 - w)) hx hb hr hlocks dX5_isChecked_14 rfl

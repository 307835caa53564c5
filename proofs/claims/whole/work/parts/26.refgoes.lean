theorem dX5_castles_0 : decode cX5_castles 0 = .ok (.aload_n 0, 1) := by decide +kernel
theorem dX5_castles_1 : decode cX5_castles 1 = .ok (.getfield 7, 3) := by decide +kernel
theorem dX5_castles_4 : decode cX5_castles 4 = .ok (.iload_n 1, 1) := by decide +kernel
theorem dX5_castles_5 : decode cX5_castles 5 = .ok (.bipush 64, 2) := by decide +kernel
theorem dX5_castles_7 : decode cX5_castles 7 = .ok (.iadd, 1) := by decide +kernel
theorem dX5_castles_8 : decode cX5_castles 8 = .ok (.iaload, 1) := by decide +kernel
theorem dX5_castles_9 : decode cX5_castles 9 = .ok (.istore 4, 2) := by decide +kernel
theorem dX5_castles_11 : decode cX5_castles 11 = .ok (.iconst 4, 1) := by decide +kernel
theorem dX5_castles_12 : decode cX5_castles 12 = .ok (.bipush 56, 2) := by decide +kernel
theorem dX5_castles_14 : decode cX5_castles 14 = .ok (.iload 4, 2) := by decide +kernel
theorem dX5_castles_16 : decode cX5_castles 16 = .ok (.imul, 1) := by decide +kernel
theorem dX5_castles_17 : decode cX5_castles 17 = .ok (.iadd, 1) := by decide +kernel
theorem dX5_castles_18 : decode cX5_castles 18 = .ok (.istore 5, 2) := by decide +kernel
theorem dX5_castles_20 : decode cX5_castles 20 = .ok (.iload_n 3, 1) := by decide +kernel
theorem dX5_castles_21 : decode cX5_castles 21 = .ok (.iload_n 2, 1) := by decide +kernel
theorem dX5_castles_22 : decode cX5_castles 22 = .ok (.isub, 1) := by decide +kernel
theorem dX5_castles_23 : decode cX5_castles 23 = .ok (.istore 6, 2) := by decide +kernel
theorem dX5_castles_25 : decode cX5_castles 25 = .ok (.iload_n 2, 1) := by decide +kernel
theorem dX5_castles_26 : decode cX5_castles 26 = .ok (.iload 5, 2) := by decide +kernel
theorem dX5_castles_28 : decode cX5_castles 28 = .ok (.if_icmp .ne 16, 3) := by decide +kernel
theorem dX5_castles_31 : decode cX5_castles 31 = .ok (.iload 6, 2) := by decide +kernel
theorem dX5_castles_33 : decode cX5_castles 33 = .ok (.iconst 2, 1) := by decide +kernel
theorem dX5_castles_34 : decode cX5_castles 34 = .ok (.if_icmp .eq 12, 3) := by decide +kernel
theorem dX5_castles_37 : decode cX5_castles 37 = .ok (.iload 6, 2) := by decide +kernel
theorem dX5_castles_39 : decode cX5_castles 39 = .ok (.bipush (-2), 2) := by decide +kernel
theorem dX5_castles_41 : decode cX5_castles 41 = .ok (.if_icmp .eq 5, 3) := by decide +kernel
theorem dX5_castles_44 : decode cX5_castles 44 = .ok (.iconst 0, 1) := by decide +kernel
theorem dX5_castles_45 : decode cX5_castles 45 = .ok (.ireturn, 1) := by decide +kernel
theorem dX5_castles_46 : decode cX5_castles 46 = .ok (.iload 6, 2) := by decide +kernel
theorem dX5_castles_48 : decode cX5_castles 48 = .ok (.iconst 2, 1) := by decide +kernel
theorem dX5_castles_49 : decode cX5_castles 49 = .ok (.if_icmp .ne 7, 3) := by decide +kernel
theorem dX5_castles_52 : decode cX5_castles 52 = .ok (.iconst 1, 1) := by decide +kernel
theorem dX5_castles_53 : decode cX5_castles 53 = .ok (.goto 4, 3) := by decide +kernel
theorem dX5_castles_56 : decode cX5_castles 56 = .ok (.iconst 2, 1) := by decide +kernel
theorem dX5_castles_57 : decode cX5_castles 57 = .ok (.iconst 2, 1) := by decide +kernel
theorem dX5_castles_58 : decode cX5_castles 58 = .ok (.iload 4, 2) := by decide +kernel
theorem dX5_castles_60 : decode cX5_castles 60 = .ok (.imul, 1) := by decide +kernel
theorem dX5_castles_61 : decode cX5_castles 61 = .ok (.ishl, 1) := by decide +kernel
theorem dX5_castles_62 : decode cX5_castles 62 = .ok (.istore 7, 2) := by decide +kernel
theorem dX5_castles_64 : decode cX5_castles 64 = .ok (.iload 6, 2) := by decide +kernel
theorem dX5_castles_66 : decode cX5_castles 66 = .ok (.iconst 2, 1) := by decide +kernel
theorem dX5_castles_67 : decode cX5_castles 67 = .ok (.if_icmp .ne 10, 3) := by decide +kernel
theorem dX5_castles_70 : decode cX5_castles 70 = .ok (.iload 5, 2) := by decide +kernel
theorem dX5_castles_72 : decode cX5_castles 72 = .ok (.iconst 3, 1) := by decide +kernel
theorem dX5_castles_73 : decode cX5_castles 73 = .ok (.iadd, 1) := by decide +kernel
theorem dX5_castles_74 : decode cX5_castles 74 = .ok (.goto 7, 3) := by decide +kernel
theorem dX5_castles_77 : decode cX5_castles 77 = .ok (.iload 5, 2) := by decide +kernel
theorem dX5_castles_79 : decode cX5_castles 79 = .ok (.iconst 4, 1) := by decide +kernel
theorem dX5_castles_80 : decode cX5_castles 80 = .ok (.isub, 1) := by decide +kernel
theorem dX5_castles_81 : decode cX5_castles 81 = .ok (.istore 8, 2) := by decide +kernel
theorem dX5_castles_83 : decode cX5_castles 83 = .ok (.aload_n 0, 1) := by decide +kernel
theorem dX5_castles_84 : decode cX5_castles 84 = .ok (.getfield 7, 3) := by decide +kernel
theorem dX5_castles_87 : decode cX5_castles 87 = .ok (.iload_n 1, 1) := by decide +kernel
theorem dX5_castles_88 : decode cX5_castles 88 = .ok (.bipush 65, 2) := by decide +kernel
theorem dX5_castles_90 : decode cX5_castles 90 = .ok (.iadd, 1) := by decide +kernel
theorem dX5_castles_91 : decode cX5_castles 91 = .ok (.iaload, 1) := by decide +kernel
theorem dX5_castles_92 : decode cX5_castles 92 = .ok (.iload 7, 2) := by decide +kernel
theorem dX5_castles_94 : decode cX5_castles 94 = .ok (.iand, 1) := by decide +kernel
theorem dX5_castles_95 : decode cX5_castles 95 = .ok (.ifCond .eq 37, 3) := by decide +kernel
theorem dX5_castles_98 : decode cX5_castles 98 = .ok (.aload_n 0, 1) := by decide +kernel
theorem dX5_castles_99 : decode cX5_castles 99 = .ok (.getfield 7, 3) := by decide +kernel
theorem dX5_castles_102 : decode cX5_castles 102 = .ok (.iload_n 1, 1) := by decide +kernel
theorem dX5_castles_103 : decode cX5_castles 103 = .ok (.iload 8, 2) := by decide +kernel
theorem dX5_castles_105 : decode cX5_castles 105 = .ok (.iadd, 1) := by decide +kernel
theorem dX5_castles_106 : decode cX5_castles 106 = .ok (.iaload, 1) := by decide +kernel
theorem dX5_castles_107 : decode cX5_castles 107 = .ok (.iconst 4, 1) := by decide +kernel
theorem dX5_castles_108 : decode cX5_castles 108 = .ok (.bipush 6, 2) := by decide +kernel
theorem dX5_castles_110 : decode cX5_castles 110 = .ok (.iload 4, 2) := by decide +kernel
theorem dX5_castles_112 : decode cX5_castles 112 = .ok (.imul, 1) := by decide +kernel
theorem dX5_castles_113 : decode cX5_castles 113 = .ok (.iadd, 1) := by decide +kernel
theorem dX5_castles_114 : decode cX5_castles 114 = .ok (.if_icmp .ne 18, 3) := by decide +kernel
theorem dX5_castles_117 : decode cX5_castles 117 = .ok (.aload_n 0, 1) := by decide +kernel
theorem dX5_castles_118 : decode cX5_castles 118 = .ok (.iload_n 1, 1) := by decide +kernel
theorem dX5_castles_119 : decode cX5_castles 119 = .ok (.iload_n 2, 1) := by decide +kernel
theorem dX5_castles_120 : decode cX5_castles 120 = .ok (.iload 8, 2) := by decide +kernel
theorem dX5_castles_122 : decode cX5_castles 122 = .ok (.invokevirtual 47, 3) := by decide +kernel
theorem dX5_castles_125 : decode cX5_castles 125 = .ok (.ifCond .eq 7, 3) := by decide +kernel
theorem dX5_castles_128 : decode cX5_castles 128 = .ok (.iconst 1, 1) := by decide +kernel
theorem dX5_castles_129 : decode cX5_castles 129 = .ok (.goto 4, 3) := by decide +kernel
theorem dX5_castles_132 : decode cX5_castles 132 = .ok (.iconst 0, 1) := by decide +kernel
theorem dX5_castles_133 : decode cX5_castles 133 = .ok (.istore 9, 2) := by decide +kernel
theorem dX5_castles_135 : decode cX5_castles 135 = .ok (.iload 9, 2) := by decide +kernel
theorem dX5_castles_137 : decode cX5_castles 137 = .ok (.ifCond .eq 37, 3) := by decide +kernel
theorem dX5_castles_140 : decode cX5_castles 140 = .ok (.aload_n 0, 1) := by decide +kernel
theorem dX5_castles_141 : decode cX5_castles 141 = .ok (.iload_n 1, 1) := by decide +kernel
theorem dX5_castles_142 : decode cX5_castles 142 = .ok (.iload_n 2, 1) := by decide +kernel
theorem dX5_castles_143 : decode cX5_castles 143 = .ok (.iconst 1, 1) := by decide +kernel
theorem dX5_castles_144 : decode cX5_castles 144 = .ok (.iload 4, 2) := by decide +kernel
theorem dX5_castles_146 : decode cX5_castles 146 = .ok (.isub, 1) := by decide +kernel
theorem dX5_castles_147 : decode cX5_castles 147 = .ok (.invokevirtual 60, 3) := by decide +kernel
theorem dX5_castles_150 : decode cX5_castles 150 = .ok (.ifCond .ne 24, 3) := by decide +kernel
theorem dX5_castles_153 : decode cX5_castles 153 = .ok (.aload_n 0, 1) := by decide +kernel
theorem dX5_castles_154 : decode cX5_castles 154 = .ok (.iload_n 1, 1) := by decide +kernel
theorem dX5_castles_155 : decode cX5_castles 155 = .ok (.iload_n 2, 1) := by decide +kernel
theorem dX5_castles_156 : decode cX5_castles 156 = .ok (.iload_n 3, 1) := by decide +kernel
theorem dX5_castles_157 : decode cX5_castles 157 = .ok (.iadd, 1) := by decide +kernel
theorem dX5_castles_158 : decode cX5_castles 158 = .ok (.iconst 2, 1) := by decide +kernel
theorem dX5_castles_159 : decode cX5_castles 159 = .ok (.idiv, 1) := by decide +kernel
theorem dX5_castles_160 : decode cX5_castles 160 = .ok (.iconst 1, 1) := by decide +kernel
theorem dX5_castles_161 : decode cX5_castles 161 = .ok (.iload 4, 2) := by decide +kernel
theorem dX5_castles_163 : decode cX5_castles 163 = .ok (.isub, 1) := by decide +kernel
theorem dX5_castles_164 : decode cX5_castles 164 = .ok (.invokevirtual 60, 3) := by decide +kernel
theorem dX5_castles_167 : decode cX5_castles 167 = .ok (.ifCond .ne 7, 3) := by decide +kernel
theorem dX5_castles_170 : decode cX5_castles 170 = .ok (.iconst 1, 1) := by decide +kernel
theorem dX5_castles_171 : decode cX5_castles 171 = .ok (.goto 4, 3) := by decide +kernel
theorem dX5_castles_174 : decode cX5_castles 174 = .ok (.iconst 0, 1) := by decide +kernel
theorem dX5_castles_175 : decode cX5_castles 175 = .ok (.ireturn, 1) := by decide +kernel
theorem hd_X5_castles : yX5_castles.cls ≠ "java/lang/invoke/MethodHandle" ∧ yX5_castles.cls ≠ "java/lang/invoke/VarHandle" ∧ (parseMethodDescriptor yX5_castles.desc).map (fun d => d.parameters.length) = some 3 := by decide +kernel
set_option maxHeartbeats 4000000 in
set_option maxRecDepth 100000 in
/-- castles -/
theorem c_X5_castles (l : Launch) {D : va_G} {cI cJ : ClassId} {A : Nat → Prop} {hm b0 b1 b2 b3 : Nat} {th mk sz : Int32} {F mv kp li : Nat → Int32} (bd : Nat → Nat) (sd rt ps b f t : Nat) (hb9 : b ≤ 300) (hf : f < 64) (ht : t < 64) (hBd : Bd F b bd sd rt ps) : Met l yX5_castles (Cond.code yX5_castles cX5_castles 10 (some .boolean) :: wsL_law) (rK 3) (va_Pc [.ref hm, .int (nI b), .int (nI f), .int (nI t)] (IW D cI cJ A (rW cI hm b0 b1 b2 b3 th mk sz F mv kp li))) (vp_Si (fun r => r = bI (cas bd sd rt f t))) 0 0 (fun _ => False) := by
  refine entM (by decide) (Nat.le_of_ble_eq_true rfl) ?_
  intro p e s m below meth c ls S0 hr hlocks hG hnm hB hl
  have hx := S0.1
  have hb := S0.2.1
  have hown := S0.2.2.2.1
  have hl : lv_has ls 10 [(0, .ref hm), (1, .int (nI b)), (2, .int (nI f)), (3, .int (nI t))] := hl
  obtain ⟨hP, hD, hK, hA, hE⟩ := hB
  have hS : va_S A s.heap s.heap [] := va_S.rf
  obtain ⟨hBp, hsd, hs2, hrt, hr16, hps, hp65⟩ := id hBd
  have hcl := cnr_lt (f := f) (t := t) hs2
  have hrg := rgt_lt (f := f) (t := t) hs2
  refine lv_aload_n hx hb dX5_castles_0 rfl (lv_at hl 0 rfl) ?_
  refine va_get (D := D) (ci := 4) (v := .ref b0) (C := RX5) (T := TX5) (N := 7) hx hb hG wu_X5 hown hK hP 0 rfl rfl 1 (by decide) (hG _ wf_X5_7) (fun _ h9 => h9) rfl dX5_castles_1 ?_
  refine lv_iload_n hx hb dX5_castles_4 rfl (lv_at hl 1 rfl) ?_
  refine lv_bipush (v := (nI 64)) hx hb dX5_castles_5 (by decide) ?_
  refine ln_iadd hx hb dX5_castles_7 ?_
  refine va_iald hx hb hK hP 1 0 rfl rfl (vp_in_nI (by omega) (by decide)) dX5_castles_8 ?_
  refine W.top (y := .int (F (b + 64))) (congrArg (fun z => Value.int (F z)) (nI_clamp (by omega))) ?_
  refine W.top (y := .int (nI sd)) (congrArg Value.int hsd) ?_
  refine lv_istore (lv' := [(4, .int (nI sd)), (0, .ref hm), (1, .int (nI b)), (2, .int (nI f)), (3, .int (nI t))]) hx hb dX5_castles_9 hl (by decide) rfl (fun ls hl => ?_)
  refine lv_iconst (v := (nI 4)) hx hb dX5_castles_11 (by decide) ?_
  refine lv_bipush (v := (nI 56)) hx hb dX5_castles_12 (by decide) ?_
  refine lv_iload hx hb dX5_castles_14 (lv_at hl 0 rfl) ?_
  refine ln_imul hx hb dX5_castles_16 ?_
  refine ln_iadd hx hb dX5_castles_17 ?_
  refine lv_istore (lv' := [(5, .int (nI (4 + (56 * sd)))), (4, .int (nI sd)), (0, .ref hm), (1, .int (nI b)), (2, .int (nI f)), (3, .int (nI t))]) hx hb dX5_castles_18 hl (by decide) rfl (fun ls hl => ?_)
  refine lv_iload_n hx hb dX5_castles_20 rfl (lv_at hl 5 rfl) ?_
  refine lv_iload_n hx hb dX5_castles_21 rfl (lv_at hl 4 rfl) ?_
  refine lv_isub hx hb dX5_castles_22 ?_
  refine lv_istore (lv' := [(6, .int ((nI t) - (nI f))), (5, .int (nI (4 + (56 * sd)))), (4, .int (nI sd)), (0, .ref hm), (1, .int (nI b)), (2, .int (nI f)), (3, .int (nI t))]) hx hb dX5_castles_23 hl (by decide) rfl (fun ls hl => ?_)
  refine lv_iload_n hx hb dX5_castles_25 rfl (lv_at hl 5 rfl) ?_
  refine lv_iload hx hb dX5_castles_26 (lv_at hl 1 rfl) ?_
  refine ln_icmp_ne (tgt := 44) hx hb dX5_castles_28 (by decide) (by omega) (by omega) (fun c28 => ?_) (fun c28 => ?_)
  · skip
    refine lv_iconst (v := (nI 0)) hx hb dX5_castles_44 (by decide) ?_
    exact reZ (v := false) hx hb hr hlocks dX5_castles_45 (congrArg bI (cas_n (by omega)).symm)
  · skip
    refine lv_iload hx hb dX5_castles_31 (lv_at hl 0 rfl) ?_
    refine lv_iconst (v := (nI 2)) hx hb dX5_castles_33 (by decide) ?_
    refine jnH (t = f + 2 ∨ f = t + 2) 46 10 [(6, .int ((nI t) - (nI f))), (5, .int (nI (4 + (56 * sd)))), (4, .int (nI sd)), (0, .ref hm), (1, .int (nI b)), (2, .int (nI f)), (3, .int (nI t))] [] ?_ (fun hj_46 => ?_)
    · intro hp_46 ls hl
      refine lv_iload hx hb dX5_castles_46 (lv_at hl 0 rfl) ?_
      refine lv_iconst (v := (nI 2)) hx hb dX5_castles_48 (by decide) ?_
      refine jnG 57 10 [(6, .int ((nI t) - (nI f))), (5, .int (nI (4 + (56 * sd)))), (4, .int (nI sd)), (0, .ref hm), (1, .int (nI b)), (2, .int (nI f)), (3, .int (nI t))] [.int (nI (if t = f + 2 then 1 else 2))] ?_ (fun hj_57 => ?_)
      · intro ls hl
        refine lv_iconst (v := (nI 2)) hx hb dX5_castles_57 (by decide) ?_
        refine lv_iload hx hb dX5_castles_58 (lv_at hl 2 rfl) ?_
        refine ln_imul hx hb dX5_castles_60 ?_
        refine lv_ishl hx hb dX5_castles_61 ?_
        refine W.top (y := .int (nI (rgt sd f t))) (congrArg Value.int (rgt_eq hs2)) ?_
        refine lv_istore (lv' := [(7, .int (nI (rgt sd f t))), (6, .int ((nI t) - (nI f))), (5, .int (nI (4 + (56 * sd)))), (4, .int (nI sd)), (0, .ref hm), (1, .int (nI b)), (2, .int (nI f)), (3, .int (nI t))]) hx hb dX5_castles_62 hl (by decide) rfl (fun ls hl => ?_)
        refine lv_iload hx hb dX5_castles_64 (lv_at hl 1 rfl) ?_
        refine lv_iconst (v := (nI 2)) hx hb dX5_castles_66 (by decide) ?_
        refine jnG 81 10 [(7, .int (nI (rgt sd f t))), (6, .int ((nI t) - (nI f))), (5, .int (nI (4 + (56 * sd)))), (4, .int (nI sd)), (0, .ref hm), (1, .int (nI b)), (2, .int (nI f)), (3, .int (nI t))] [.int (nI (cnr sd f t))] ?_ (fun hj_81 => ?_)
        · intro ls hl
          refine lv_istore (lv' := [(8, .int (nI (cnr sd f t))), (7, .int (nI (rgt sd f t))), (6, .int ((nI t) - (nI f))), (5, .int (nI (4 + (56 * sd)))), (4, .int (nI sd)), (0, .ref hm), (1, .int (nI b)), (2, .int (nI f)), (3, .int (nI t))]) hx hb dX5_castles_81 hl (by decide) rfl (fun ls hl => ?_)
          refine lv_aload_n hx hb dX5_castles_83 rfl (lv_at hl 5 rfl) ?_
          refine va_get (D := D) (ci := 4) (v := .ref b0) (C := RX5) (T := TX5) (N := 7) hx hb hG wu_X5 hown hK hP 0 rfl rfl 1 (by decide) (hG _ wf_X5_7) (fun _ h9 => h9) rfl dX5_castles_84 ?_
          refine lv_iload_n hx hb dX5_castles_87 rfl (lv_at hl 6 rfl) ?_
          refine lv_bipush (v := (nI 65)) hx hb dX5_castles_88 (by decide) ?_
          refine ln_iadd hx hb dX5_castles_90 ?_
          refine va_iald hx hb hK hP 1 0 rfl rfl (vp_in_nI (by omega) (by decide)) dX5_castles_91 ?_
          refine W.top (y := .int (F (b + 65))) (congrArg (fun z => Value.int (F z)) (nI_clamp (by omega))) ?_
          refine W.top (y := .int (nI rt)) (congrArg Value.int hrt) ?_
          refine lv_iload hx hb dX5_castles_92 (lv_at hl 1 rfl) ?_
          refine lv_iand hx hb dX5_castles_94 ?_
          refine jnG 133 10 [(8, .int (nI (cnr sd f t))), (7, .int (nI (rgt sd f t))), (6, .int ((nI t) - (nI f))), (5, .int (nI (4 + (56 * sd)))), (4, .int (nI sd)), (0, .ref hm), (1, .int (nI b)), (2, .int (nI f)), (3, .int (nI t))] [.int (bI (can bd sd rt f t))] ?_ (fun hj_133 => ?_)
          · intro ls hl
            refine lv_istore (lv' := [(9, .int (bI (can bd sd rt f t))), (8, .int (nI (cnr sd f t))), (7, .int (nI (rgt sd f t))), (6, .int ((nI t) - (nI f))), (5, .int (nI (4 + (56 * sd)))), (4, .int (nI sd)), (0, .ref hm), (1, .int (nI b)), (2, .int (nI f)), (3, .int (nI t))]) hx hb dX5_castles_133 hl (by decide) rfl (fun ls hl => ?_)
            refine lv_iload hx hb dX5_castles_135 (lv_at hl 0 rfl) ?_
            refine lb_if_eq (tgt := 174) hx hb dX5_castles_137 (by decide) (fun c137 => ?_) (fun c137 => ?_)
            · skip
              refine lv_iconst (v := (nI 0)) hx hb dX5_castles_174 (by decide) ?_
              exact reZ (v := false) hx hb hr hlocks dX5_castles_175 (congrArg bI (by rw [cas_y c28 hp_46]; first | (rw [c137, c150, c167]; rfl) | (rw [c137, c150]; rfl) | (rw [c137]; rfl)))
            · skip
              refine lv_aload_n hx hb dX5_castles_140 rfl (lv_at hl 6 rfl) ?_
              refine lv_iload_n hx hb dX5_castles_141 rfl (lv_at hl 7 rfl) ?_
              refine lv_iload_n hx hb dX5_castles_142 rfl (lv_at hl 8 rfl) ?_
              refine lv_iconst (v := (nI 1)) hx hb dX5_castles_143 (by decide) ?_
              refine lv_iload hx hb dX5_castles_144 (lv_at hl 5 rfl) ?_
              refine ln_isub hx hb dX5_castles_146 (by omega) ?_
              refine roI (rnV (As := [.int (nI b), .int (nI f), .int (nI (1 - sd))]) (rest := []) S0 (c_X5_isAttacked l bd b f (1 - sd) hb9 hf (by omega) hBp) wm_X5_60 wi_X5_isAttacked ws_X5_isAttacked wn_X5 wc_X5_isAttacked hd_X5_isAttacked ⟨rfl, rfl, by decide, by decide⟩ IW.blind (va_recv hK hP (ci := 4) (q0 := 0) rfl rfl) (IW.at hP hD hK hA hE hS) hl.1 (Nat.le_of_ble_eq_true rfl) dX5_castles_147 rfl ⟨by decide, by decide⟩) (fun r_1 hr_1 => ?_)
              subst hr_1
              refine lb_if_ne (tgt := 174) hx hb dX5_castles_150 (by decide) (fun c150 => ?_) (fun c150 => ?_)
              · skip
                refine lv_iconst (v := (nI 0)) hx hb dX5_castles_174 (by decide) ?_
                exact reZ (v := false) hx hb hr hlocks dX5_castles_175 (congrArg bI (by rw [cas_y c28 hp_46]; first | (rw [c137, c150, c167]; rfl) | (rw [c137, c150]; rfl) | (rw [c137]; rfl)))
              · skip
                refine lv_aload_n hx hb dX5_castles_153 rfl (lv_at hl 6 rfl) ?_
                refine lv_iload_n hx hb dX5_castles_154 rfl (lv_at hl 7 rfl) ?_
                refine lv_iload_n hx hb dX5_castles_155 rfl (lv_at hl 8 rfl) ?_
                refine lv_iload_n hx hb dX5_castles_156 rfl (lv_at hl 9 rfl) ?_
                refine ln_iadd hx hb dX5_castles_157 ?_
                refine lv_iconst (v := (nI 2)) hx hb dX5_castles_158 (by decide) ?_
                refine ln_idiv hx hb dX5_castles_159 (by omega) (by decide) (by decide) ?_
                refine lv_iconst (v := (nI 1)) hx hb dX5_castles_160 (by decide) ?_
                refine lv_iload hx hb dX5_castles_161 (lv_at hl 5 rfl) ?_
                refine ln_isub hx hb dX5_castles_163 (by omega) ?_
                refine roI (rnV (As := [.int (nI b), .int (nI ((f + t) / 2)), .int (nI (1 - sd))]) (rest := []) S0 (c_X5_isAttacked l bd b ((f + t) / 2) (1 - sd) hb9 (by omega) (by omega) hBp) wm_X5_60 wi_X5_isAttacked ws_X5_isAttacked wn_X5 wc_X5_isAttacked hd_X5_isAttacked ⟨rfl, rfl, by decide, by decide⟩ IW.blind (va_recv hK hP (ci := 4) (q0 := 0) rfl rfl) (IW.at hP hD hK hA hE hS) hl.1 (Nat.le_of_ble_eq_true rfl) dX5_castles_164 rfl ⟨by decide, by decide⟩) (fun r_2 hr_2 => ?_)
                subst hr_2
                refine lb_if_ne (tgt := 174) hx hb dX5_castles_167 (by decide) (fun c167 => ?_) (fun c167 => ?_)
                · skip
                  refine lv_iconst (v := (nI 0)) hx hb dX5_castles_174 (by decide) ?_
                  exact reZ (v := false) hx hb hr hlocks dX5_castles_175 (congrArg bI (by rw [cas_y c28 hp_46]; first | (rw [c137, c150, c167]; rfl) | (rw [c137, c150]; rfl) | (rw [c137]; rfl)))
                · skip
                  refine lv_iconst (v := (nI 1)) hx hb dX5_castles_170 (by decide) ?_
                  refine lv_goto (tgt := 175) hx hb dX5_castles_171 (by decide) ?_
                  exact reZ (v := true) hx hb hr hlocks dX5_castles_175 (congrArg bI (by rw [cas_y c28 hp_46]; first | (rw [c137, c150, c167]; rfl) | (rw [c137, c150]; rfl) | (rw [c137]; rfl)))
          · skip
            refine lv_if_eq (tgt := 132) hx hb dX5_castles_95 (by decide) (fun c95 => ?_) (fun c95 => ?_)
            · skip
              refine lv_iconst (v := (nI 0)) hx hb dX5_castles_132 (by decide) ?_
              refine W.top (y := .int (bI (can bd sd rt f t))) (congrArg Value.int (by unfold can rgh; first | (rw [decide_eq_false (not_not_intro c95)]; rfl) | (rw [decide_eq_true c95, decide_eq_false c114]; rfl) | (rw [decide_eq_true c95, decide_eq_true c114, c125]; rfl))) ?_
              exact hj_133 ls (lv_sub hl [0, 1, 2, 3, 4, 5, 6, 7, 8] rfl)
            · skip
              refine lv_aload_n hx hb dX5_castles_98 rfl (lv_at hl 5 rfl) ?_
              refine va_get (D := D) (ci := 4) (v := .ref b0) (C := RX5) (T := TX5) (N := 7) hx hb hG wu_X5 hown hK hP 0 rfl rfl 1 (by decide) (hG _ wf_X5_7) (fun _ h9 => h9) rfl dX5_castles_99 ?_
              refine lv_iload_n hx hb dX5_castles_102 rfl (lv_at hl 6 rfl) ?_
              refine lv_iload hx hb dX5_castles_103 (lv_at hl 0 rfl) ?_
              refine ln_iadd hx hb dX5_castles_105 ?_
              have hcb := (hBp _ hcl).2
              refine va_iald hx hb hK hP 1 0 rfl rfl (vp_in_nI (by omega) (by decide)) dX5_castles_106 ?_
              refine W.top (y := .int (F (b + (cnr sd f t)))) (congrArg (fun z => Value.int (F z)) (nI_clamp (by omega))) ?_
              refine W.top (y := .int (nI (bd (cnr sd f t)))) (congrArg Value.int (hBp _ hcl).1) ?_
              refine lv_iconst (v := (nI 4)) hx hb dX5_castles_107 (by decide) ?_
              refine lv_bipush (v := (nI 6)) hx hb dX5_castles_108 (by decide) ?_
              refine lv_iload hx hb dX5_castles_110 (lv_at hl 4 rfl) ?_
              refine ln_imul hx hb dX5_castles_112 ?_
              refine ln_iadd hx hb dX5_castles_113 ?_
              refine ln_icmp_ne (tgt := 132) hx hb dX5_castles_114 (by decide) (by omega) (by omega) (fun c114 => ?_) (fun c114 => ?_)
              · skip
                refine lv_iconst (v := (nI 0)) hx hb dX5_castles_132 (by decide) ?_
                refine W.top (y := .int (bI (can bd sd rt f t))) (congrArg Value.int (by unfold can rgh; first | (rw [decide_eq_false (not_not_intro c95)]; rfl) | (rw [decide_eq_true c95, decide_eq_false c114]; rfl) | (rw [decide_eq_true c95, decide_eq_true c114, c125]; rfl))) ?_
                exact hj_133 ls (lv_sub hl [0, 1, 2, 3, 4, 5, 6, 7, 8] rfl)
              · skip
                refine lv_aload_n hx hb dX5_castles_117 rfl (lv_at hl 5 rfl) ?_
                refine lv_iload_n hx hb dX5_castles_118 rfl (lv_at hl 6 rfl) ?_
                refine lv_iload_n hx hb dX5_castles_119 rfl (lv_at hl 7 rfl) ?_
                refine lv_iload hx hb dX5_castles_120 (lv_at hl 0 rfl) ?_
                refine roI (rnV (As := [.int (nI b), .int (nI f), .int (nI (cnr sd f t))]) (rest := []) S0 (c_X5_isFree l bd b f (cnr sd f t) hb9 hf hcl (cnr_lined hs2 c28) hBp) wm_X5_47 wi_X5_isFree ws_X5_isFree wn_X5 wc_X5_isFree hd_X5_isFree ⟨rfl, rfl, by decide, by decide⟩ IW.blind (va_recv hK hP (ci := 4) (q0 := 0) rfl rfl) (IW.at hP hD hK hA hE hS) hl.1 (Nat.le_of_ble_eq_true rfl) dX5_castles_122 rfl ⟨by decide, by decide⟩) (fun r_3 hr_3 => ?_)
                subst hr_3
                refine lb_if_eq (tgt := 132) hx hb dX5_castles_125 (by decide) (fun c125 => ?_) (fun c125 => ?_)
                · skip
                  refine lv_iconst (v := (nI 0)) hx hb dX5_castles_132 (by decide) ?_
                  refine W.top (y := .int (bI (can bd sd rt f t))) (congrArg Value.int (by unfold can rgh; first | (rw [decide_eq_false (not_not_intro c95)]; rfl) | (rw [decide_eq_true c95, decide_eq_false c114]; rfl) | (rw [decide_eq_true c95, decide_eq_true c114, c125]; rfl))) ?_
                  exact hj_133 ls (lv_sub hl [0, 1, 2, 3, 4, 5, 6, 7, 8] rfl)
                · skip
                  refine lv_iconst (v := (nI 1)) hx hb dX5_castles_128 (by decide) ?_
                  refine lv_goto (tgt := 133) hx hb dX5_castles_129 (by decide) ?_
                  refine W.top (y := .int (bI (can bd sd rt f t))) (congrArg Value.int (by unfold can rgh; first | (rw [decide_eq_false (not_not_intro c95)]; rfl) | (rw [decide_eq_true c95, decide_eq_false c114]; rfl) | (rw [decide_eq_true c95, decide_eq_true c114, c125]; rfl))) ?_
                  exact hj_133 ls (lv_sub hl [0, 1, 2, 3, 4, 5, 6, 7, 8] rfl)
        · skip
          refine lv_icmp_ne (tgt := 77) hx hb dX5_castles_67 (by decide) (fun c67 => ?_) (fun c67 => ?_)
          · skip
            rw [(dif2 hf ht).1] at c67
            refine lv_iload hx hb dX5_castles_77 (lv_at hl 2 rfl) ?_
            refine lv_iconst (v := (nI 4)) hx hb dX5_castles_79 (by decide) ?_
            refine ln_isub hx hb dX5_castles_80 (by omega) ?_
            refine W.top (y := .int (nI (cnr sd f t))) (congrArg Value.int (congrArg nI (by unfold cnr; first | rw [if_pos c67] | rw [if_neg c67]))) ?_
            exact hj_81 ls (lv_sub hl [0, 1, 2, 3, 4, 5, 6, 7] rfl)
          · skip
            rw [(dif2 hf ht).1] at c67
            refine lv_iload hx hb dX5_castles_70 (lv_at hl 2 rfl) ?_
            refine lv_iconst (v := (nI 3)) hx hb dX5_castles_72 (by decide) ?_
            refine ln_iadd hx hb dX5_castles_73 ?_
            refine lv_goto (tgt := 81) hx hb dX5_castles_74 (by decide) ?_
            refine W.top (y := .int (nI (cnr sd f t))) (congrArg Value.int (congrArg nI (by unfold cnr; first | rw [if_pos c67] | rw [if_neg c67]))) ?_
            exact hj_81 ls (lv_sub hl [0, 1, 2, 3, 4, 5, 6, 7] rfl)
      · skip
        refine lv_icmp_ne (tgt := 56) hx hb dX5_castles_49 (by decide) (fun c49 => ?_) (fun c49 => ?_)
        · skip
          rw [(dif2 hf ht).1] at c49
          refine lv_iconst (v := (nI 2)) hx hb dX5_castles_56 (by decide) ?_
          refine W.top (y := .int (nI (if t = f + 2 then 1 else 2))) (congrArg Value.int (congrArg nI (by first | rw [if_pos c49] | rw [if_neg c49]))) ?_
          exact hj_57 ls (lv_sub hl [0, 1, 2, 3, 4, 5, 6] rfl)
        · skip
          rw [(dif2 hf ht).1] at c49
          refine lv_iconst (v := (nI 1)) hx hb dX5_castles_52 (by decide) ?_
          refine lv_goto (tgt := 57) hx hb dX5_castles_53 (by decide) ?_
          refine W.top (y := .int (nI (if t = f + 2 then 1 else 2))) (congrArg Value.int (congrArg nI (by first | rw [if_pos c49] | rw [if_neg c49]))) ?_
          exact hj_57 ls (lv_sub hl [0, 1, 2, 3, 4, 5, 6] rfl)
    · skip
      refine lv_icmp_eq (tgt := 46) hx hb dX5_castles_34 (by decide) (fun c34 => ?_) (fun c34 => ?_)
      · skip
        rw [(dif2 hf ht).1] at c34
        exact hj_46 (by omega) ls (lv_sub hl [0, 1, 2, 3, 4, 5, 6] rfl)
      · skip
        rw [(dif2 hf ht).1] at c34
        refine lv_iload hx hb dX5_castles_37 (lv_at hl 0 rfl) ?_
        refine lv_bipush (v := (-2)) hx hb dX5_castles_39 (by decide) ?_
        refine lv_icmp_eq (tgt := 46) hx hb dX5_castles_41 (by decide) (fun c41 => ?_) (fun c41 => ?_)
        · skip
          rw [(dif2 hf ht).2] at c41
          exact hj_46 (by omega) ls (lv_sub hl [0, 1, 2, 3, 4, 5, 6] rfl)
        · skip
          rw [(dif2 hf ht).2] at c41
          refine lv_iconst (v := (nI 0)) hx hb dX5_castles_44 (by decide) ?_
          exact reZ (v := false) hx hb hr hlocks dX5_castles_45 (congrArg bI (cas_n (by omega)).symm)
theorem dX5_takesPassing_0 : decode cX5_takesPassing 0 = .ok (.aload_n 0, 1) := by decide +kernel
theorem dX5_takesPassing_1 : decode cX5_takesPassing 1 = .ok (.getfield 7, 3) := by decide +kernel
theorem dX5_takesPassing_4 : decode cX5_takesPassing 4 = .ok (.iload_n 1, 1) := by decide +kernel
theorem dX5_takesPassing_5 : decode cX5_takesPassing 5 = .ok (.bipush 64, 2) := by decide +kernel
theorem dX5_takesPassing_7 : decode cX5_takesPassing 7 = .ok (.iadd, 1) := by decide +kernel
theorem dX5_takesPassing_8 : decode cX5_takesPassing 8 = .ok (.iaload, 1) := by decide +kernel
theorem dX5_takesPassing_9 : decode cX5_takesPassing 9 = .ok (.istore 4, 2) := by decide +kernel
theorem dX5_takesPassing_11 : decode cX5_takesPassing 11 = .ok (.iload 4, 2) := by decide +kernel
theorem dX5_takesPassing_13 : decode cX5_takesPassing 13 = .ok (.ifCond .ne 10, 3) := by decide +kernel
theorem dX5_takesPassing_16 : decode cX5_takesPassing 16 = .ok (.iload_n 3, 1) := by decide +kernel
theorem dX5_takesPassing_17 : decode cX5_takesPassing 17 = .ok (.bipush 8, 2) := by decide +kernel
theorem dX5_takesPassing_19 : decode cX5_takesPassing 19 = .ok (.isub, 1) := by decide +kernel
theorem dX5_takesPassing_20 : decode cX5_takesPassing 20 = .ok (.goto 7, 3) := by decide +kernel
theorem dX5_takesPassing_23 : decode cX5_takesPassing 23 = .ok (.iload_n 3, 1) := by decide +kernel
theorem dX5_takesPassing_24 : decode cX5_takesPassing 24 = .ok (.bipush 8, 2) := by decide +kernel
theorem dX5_takesPassing_26 : decode cX5_takesPassing 26 = .ok (.iadd, 1) := by decide +kernel
theorem dX5_takesPassing_27 : decode cX5_takesPassing 27 = .ok (.istore 5, 2) := by decide +kernel
theorem dX5_takesPassing_29 : decode cX5_takesPassing 29 = .ok (.iload_n 3, 1) := by decide +kernel
theorem dX5_takesPassing_30 : decode cX5_takesPassing 30 = .ok (.aload_n 0, 1) := by decide +kernel
theorem dX5_takesPassing_31 : decode cX5_takesPassing 31 = .ok (.getfield 7, 3) := by decide +kernel
theorem dX5_takesPassing_34 : decode cX5_takesPassing 34 = .ok (.iload_n 1, 1) := by decide +kernel
theorem dX5_takesPassing_35 : decode cX5_takesPassing 35 = .ok (.bipush 66, 2) := by decide +kernel
theorem dX5_takesPassing_37 : decode cX5_takesPassing 37 = .ok (.iadd, 1) := by decide +kernel
theorem dX5_takesPassing_38 : decode cX5_takesPassing 38 = .ok (.iaload, 1) := by decide +kernel
theorem dX5_takesPassing_39 : decode cX5_takesPassing 39 = .ok (.if_icmp .ne 68, 3) := by decide +kernel
theorem dX5_takesPassing_42 : decode cX5_takesPassing 42 = .ok (.aload_n 0, 1) := by decide +kernel
theorem dX5_takesPassing_43 : decode cX5_takesPassing 43 = .ok (.getfield 7, 3) := by decide +kernel
theorem dX5_takesPassing_46 : decode cX5_takesPassing 46 = .ok (.iload_n 1, 1) := by decide +kernel
theorem dX5_takesPassing_47 : decode cX5_takesPassing 47 = .ok (.iload_n 3, 1) := by decide +kernel
theorem dX5_takesPassing_48 : decode cX5_takesPassing 48 = .ok (.iadd, 1) := by decide +kernel
theorem dX5_takesPassing_49 : decode cX5_takesPassing 49 = .ok (.iaload, 1) := by decide +kernel
theorem dX5_takesPassing_50 : decode cX5_takesPassing 50 = .ok (.ifCond .ne 57, 3) := by decide +kernel
theorem dX5_takesPassing_53 : decode cX5_takesPassing 53 = .ok (.aload_n 0, 1) := by decide +kernel
theorem dX5_takesPassing_54 : decode cX5_takesPassing 54 = .ok (.iload_n 1, 1) := by decide +kernel
theorem dX5_takesPassing_55 : decode cX5_takesPassing 55 = .ok (.iload_n 2, 1) := by decide +kernel
theorem dX5_takesPassing_56 : decode cX5_takesPassing 56 = .ok (.iload_n 3, 1) := by decide +kernel
theorem dX5_takesPassing_57 : decode cX5_takesPassing 57 = .ok (.invokevirtual 54, 3) := by decide +kernel
theorem dX5_takesPassing_60 : decode cX5_takesPassing 60 = .ok (.ifCond .eq 47, 3) := by decide +kernel
theorem dX5_takesPassing_63 : decode cX5_takesPassing 63 = .ok (.iload 5, 2) := by decide +kernel
theorem dX5_takesPassing_65 : decode cX5_takesPassing 65 = .ok (.invokestatic 36, 3) := by decide +kernel
theorem dX5_takesPassing_68 : decode cX5_takesPassing 68 = .ok (.ifCond .eq 39, 3) := by decide +kernel
theorem dX5_takesPassing_71 : decode cX5_takesPassing 71 = .ok (.aload_n 0, 1) := by decide +kernel
theorem dX5_takesPassing_72 : decode cX5_takesPassing 72 = .ok (.getfield 7, 3) := by decide +kernel
theorem dX5_takesPassing_75 : decode cX5_takesPassing 75 = .ok (.iload_n 1, 1) := by decide +kernel
theorem dX5_takesPassing_76 : decode cX5_takesPassing 76 = .ok (.iload 5, 2) := by decide +kernel
theorem dX5_takesPassing_78 : decode cX5_takesPassing 78 = .ok (.invokestatic 36, 3) := by decide +kernel
theorem dX5_takesPassing_81 : decode cX5_takesPassing 81 = .ok (.ifCond .eq 8, 3) := by decide +kernel
theorem dX5_takesPassing_84 : decode cX5_takesPassing 84 = .ok (.iload 5, 2) := by decide +kernel
theorem dX5_takesPassing_86 : decode cX5_takesPassing 86 = .ok (.goto 4, 3) := by decide +kernel
theorem dX5_takesPassing_89 : decode cX5_takesPassing 89 = .ok (.iconst 0, 1) := by decide +kernel
theorem dX5_takesPassing_90 : decode cX5_takesPassing 90 = .ok (.iadd, 1) := by decide +kernel
theorem dX5_takesPassing_91 : decode cX5_takesPassing 91 = .ok (.iaload, 1) := by decide +kernel
theorem dX5_takesPassing_92 : decode cX5_takesPassing 92 = .ok (.bipush 7, 2) := by decide +kernel
theorem dX5_takesPassing_94 : decode cX5_takesPassing 94 = .ok (.bipush 6, 2) := by decide +kernel
theorem dX5_takesPassing_96 : decode cX5_takesPassing 96 = .ok (.iload 4, 2) := by decide +kernel
theorem dX5_takesPassing_98 : decode cX5_takesPassing 98 = .ok (.imul, 1) := by decide +kernel
theorem dX5_takesPassing_99 : decode cX5_takesPassing 99 = .ok (.isub, 1) := by decide +kernel
theorem dX5_takesPassing_100 : decode cX5_takesPassing 100 = .ok (.if_icmp .ne 7, 3) := by decide +kernel
theorem dX5_takesPassing_103 : decode cX5_takesPassing 103 = .ok (.iconst 1, 1) := by decide +kernel
theorem dX5_takesPassing_104 : decode cX5_takesPassing 104 = .ok (.goto 4, 3) := by decide +kernel
theorem dX5_takesPassing_107 : decode cX5_takesPassing 107 = .ok (.iconst 0, 1) := by decide +kernel
theorem dX5_takesPassing_108 : decode cX5_takesPassing 108 = .ok (.ireturn, 1) := by decide +kernel
theorem hd_X5_takesPassing : yX5_takesPassing.cls ≠ "java/lang/invoke/MethodHandle" ∧ yX5_takesPassing.cls ≠ "java/lang/invoke/VarHandle" ∧ (parseMethodDescriptor yX5_takesPassing.desc).map (fun d => d.parameters.length) = some 3 := by decide +kernel
set_option maxHeartbeats 4000000 in
set_option maxRecDepth 100000 in
/-- takesPassing -/
theorem c_X5_takesPassing (l : Launch) {D : va_G} {cI cJ : ClassId} {A : Nat → Prop} {hm b0 b1 b2 b3 : Nat} {th mk sz : Int32} {F mv kp li : Nat → Int32} (bd : Nat → Nat) (sd rt ps b f t : Nat) (hb9 : b ≤ 300) (hf : f < 64) (ht : t < 64) (hBd : Bd F b bd sd rt ps) : Met l yX5_takesPassing (Cond.code yX5_takesPassing cX5_takesPassing 6 (some .boolean) :: wsL_law) (rK 2) (va_Pc [.ref hm, .int (nI b), .int (nI f), .int (nI t)] (IW D cI cJ A (rW cI hm b0 b1 b2 b3 th mk sz F mv kp li))) (vp_Si (fun r => r = bI (tps bd sd ps f t))) 0 0 (fun _ => False) := by
  refine entM (by decide) (Nat.le_of_ble_eq_true rfl) ?_
  intro p e s m below meth c ls S0 hr hlocks hG hnm hB hl
  have hx := S0.1
  have hb := S0.2.1
  have hown := S0.2.2.2.1
  have hl : lv_has ls 6 [(0, .ref hm), (1, .int (nI b)), (2, .int (nI f)), (3, .int (nI t))] := hl
  obtain ⟨hP, hD, hK, hA, hE⟩ := hB
  have hS : va_S A s.heap s.heap [] := va_S.rf
  obtain ⟨hBp, hsd, hs2, hrt, hr16, hps, hp65⟩ := id hBd
  refine lv_aload_n hx hb dX5_takesPassing_0 rfl (lv_at hl 0 rfl) ?_
  refine va_get (D := D) (ci := 4) (v := .ref b0) (C := RX5) (T := TX5) (N := 7) hx hb hG wu_X5 hown hK hP 0 rfl rfl 1 (by decide) (hG _ wf_X5_7) (fun _ h9 => h9) rfl dX5_takesPassing_1 ?_
  refine lv_iload_n hx hb dX5_takesPassing_4 rfl (lv_at hl 1 rfl) ?_
  refine lv_bipush (v := (nI 64)) hx hb dX5_takesPassing_5 (by decide) ?_
  refine ln_iadd hx hb dX5_takesPassing_7 ?_
  refine va_iald hx hb hK hP 1 0 rfl rfl (vp_in_nI (by omega) (by decide)) dX5_takesPassing_8 ?_
  refine W.top (y := .int (F (b + 64))) (congrArg (fun z => Value.int (F z)) (nI_clamp (by omega))) ?_
  refine W.top (y := .int (nI sd)) (congrArg Value.int hsd) ?_
  refine lv_istore (lv' := [(4, .int (nI sd)), (0, .ref hm), (1, .int (nI b)), (2, .int (nI f)), (3, .int (nI t))]) hx hb dX5_takesPassing_9 hl (by decide) rfl (fun ls hl => ?_)
  refine lv_iload hx hb dX5_takesPassing_11 (lv_at hl 0 rfl) ?_
  refine jnG 27 6 [(4, .int (nI sd)), (0, .ref hm), (1, .int (nI b)), (2, .int (nI f)), (3, .int (nI t))] [.int (bkI sd t)] ?_ (fun hj_27 => ?_)
  · intro ls hl
    refine lv_istore (lv' := [(5, .int (bkI sd t)), (4, .int (nI sd)), (0, .ref hm), (1, .int (nI b)), (2, .int (nI f)), (3, .int (nI t))]) hx hb dX5_takesPassing_27 hl (by decide) rfl (fun ls hl => ?_)
    refine lv_iload_n hx hb dX5_takesPassing_29 rfl (lv_at hl 5 rfl) ?_
    refine lv_aload_n hx hb dX5_takesPassing_30 rfl (lv_at hl 2 rfl) ?_
    refine va_get (D := D) (ci := 4) (v := .ref b0) (C := RX5) (T := TX5) (N := 7) hx hb hG wu_X5 hown hK hP 0 rfl rfl 1 (by decide) (hG _ wf_X5_7) (fun _ h9 => h9) rfl dX5_takesPassing_31 ?_
    refine lv_iload_n hx hb dX5_takesPassing_34 rfl (lv_at hl 3 rfl) ?_
    refine lv_bipush (v := (nI 66)) hx hb dX5_takesPassing_35 (by decide) ?_
    refine ln_iadd hx hb dX5_takesPassing_37 ?_
    refine va_iald hx hb hK hP 1 0 rfl rfl (vp_in_nI (by omega) (by decide)) dX5_takesPassing_38 ?_
    refine W.top (y := .int (F (b + 66))) (congrArg (fun z => Value.int (F z)) (nI_clamp (by omega))) ?_
    refine W.top (y := .int (pI ps)) (congrArg Value.int hps) ?_
    refine lv_icmp_ne (tgt := 107) hx hb dX5_takesPassing_39 (by decide) (fun c39 => ?_) (fun c39 => ?_)
    · skip
      rw [pI_eq ht hp65] at c39
      refine lv_iconst (v := (nI 0)) hx hb dX5_takesPassing_107 (by decide) ?_
      exact reZ (v := false) hx hb hr hlocks dX5_takesPassing_108 (congrArg bI (by unfold tps; first | (rw [decide_eq_true c39, decide_eq_true c50, c60, c68, decide_eq_true c100]; rfl) | (rw [decide_eq_true c39, decide_eq_true c50, c60, c68, decide_eq_false c100]; rfl) | (rw [decide_eq_true c39, decide_eq_true c50, c60, c68]; rfl) | (rw [decide_eq_true c39, decide_eq_true c50, c60]; rfl) | (rw [decide_eq_true c39, decide_eq_false c50]; rfl) | (rw [decide_eq_false c39]; rfl)))
    · skip
      rw [pI_eq ht hp65] at c39
      refine lv_aload_n hx hb dX5_takesPassing_42 rfl (lv_at hl 2 rfl) ?_
      refine va_get (D := D) (ci := 4) (v := .ref b0) (C := RX5) (T := TX5) (N := 7) hx hb hG wu_X5 hown hK hP 0 rfl rfl 1 (by decide) (hG _ wf_X5_7) (fun _ h9 => h9) rfl dX5_takesPassing_43 ?_
      refine lv_iload_n hx hb dX5_takesPassing_46 rfl (lv_at hl 3 rfl) ?_
      refine lv_iload_n hx hb dX5_takesPassing_47 rfl (lv_at hl 5 rfl) ?_
      refine ln_iadd hx hb dX5_takesPassing_48 ?_
      have htb := (hBp _ ht).2
      refine va_iald hx hb hK hP 1 0 rfl rfl (vp_in_nI (by omega) (by decide)) dX5_takesPassing_49 ?_
      refine W.top (y := .int (F (b + t))) (congrArg (fun z => Value.int (F z)) (nI_clamp (by omega))) ?_
      refine W.top (y := .int (nI (bd t))) (congrArg Value.int (hBp _ ht).1) ?_
      refine ln_if_ne (tgt := 107) hx hb dX5_takesPassing_50 (by decide) (by omega) (fun c50 => ?_) (fun c50 => ?_)
      · skip
        refine lv_iconst (v := (nI 0)) hx hb dX5_takesPassing_107 (by decide) ?_
        exact reZ (v := false) hx hb hr hlocks dX5_takesPassing_108 (congrArg bI (by unfold tps; first | (rw [decide_eq_true c39, decide_eq_true c50, c60, c68, decide_eq_true c100]; rfl) | (rw [decide_eq_true c39, decide_eq_true c50, c60, c68, decide_eq_false c100]; rfl) | (rw [decide_eq_true c39, decide_eq_true c50, c60, c68]; rfl) | (rw [decide_eq_true c39, decide_eq_true c50, c60]; rfl) | (rw [decide_eq_true c39, decide_eq_false c50]; rfl) | (rw [decide_eq_false c39]; rfl)))
      · skip
        refine lv_aload_n hx hb dX5_takesPassing_53 rfl (lv_at hl 2 rfl) ?_
        refine lv_iload_n hx hb dX5_takesPassing_54 rfl (lv_at hl 3 rfl) ?_
        refine lv_iload_n hx hb dX5_takesPassing_55 rfl (lv_at hl 4 rfl) ?_
        refine lv_iload_n hx hb dX5_takesPassing_56 rfl (lv_at hl 5 rfl) ?_
        refine roI (rnV (As := [.int (nI b), .int (nI f), .int (nI t)]) (rest := []) S0 (c_X5_attacks l bd b f t hb9 hf ht hBp) wm_X5_54 wi_X5_attacks ws_X5_attacks wn_X5 wc_X5_attacks hd_X5_attacks ⟨rfl, rfl, by decide, by decide⟩ IW.blind (va_recv hK hP (ci := 4) (q0 := 0) rfl rfl) (IW.at hP hD hK hA hE hS) hl.1 (Nat.le_of_ble_eq_true rfl) dX5_takesPassing_57 rfl ⟨by decide, by decide⟩) (fun r_1 hr_1 => ?_)
        subst hr_1
        refine lb_if_eq (tgt := 107) hx hb dX5_takesPassing_60 (by decide) (fun c60 => ?_) (fun c60 => ?_)
        · skip
          refine lv_iconst (v := (nI 0)) hx hb dX5_takesPassing_107 (by decide) ?_
          exact reZ (v := false) hx hb hr hlocks dX5_takesPassing_108 (congrArg bI (by unfold tps; first | (rw [decide_eq_true c39, decide_eq_true c50, c60, c68, decide_eq_true c100]; rfl) | (rw [decide_eq_true c39, decide_eq_true c50, c60, c68, decide_eq_false c100]; rfl) | (rw [decide_eq_true c39, decide_eq_true c50, c60, c68]; rfl) | (rw [decide_eq_true c39, decide_eq_true c50, c60]; rfl) | (rw [decide_eq_true c39, decide_eq_false c50]; rfl) | (rw [decide_eq_false c39]; rfl)))
        · skip
          refine lv_iload hx hb dX5_takesPassing_63 (lv_at hl 0 rfl) ?_
          refine roI (rnS (As := [.int (bkI sd t)]) (rest := []) S0 (c_X5_isSquare l (bkI sd t)) wm_X5_36 wt_X5_isSquare wn_X5 wc_X5_isSquare hd_X5_isSquare ⟨rfl, rfl, by decide, by decide⟩ True.blind (fun _ _ _ => trivial) hl.1 (Nat.le_of_ble_eq_true rfl) dX5_takesPassing_65 rfl ⟨by decide, by decide⟩) (fun r_2 hr_2 => ?_)
          subst hr_2
          refine lb_if_eq (tgt := 107) hx hb dX5_takesPassing_68 (by decide) (fun c68 => ?_) (fun c68 => ?_)
          · skip
            refine lv_iconst (v := (nI 0)) hx hb dX5_takesPassing_107 (by decide) ?_
            exact reZ (v := false) hx hb hr hlocks dX5_takesPassing_108 (congrArg bI (by unfold tps; first | (rw [decide_eq_true c39, decide_eq_true c50, c60, c68, decide_eq_true c100]; rfl) | (rw [decide_eq_true c39, decide_eq_true c50, c60, c68, decide_eq_false c100]; rfl) | (rw [decide_eq_true c39, decide_eq_true c50, c60, c68]; rfl) | (rw [decide_eq_true c39, decide_eq_true c50, c60]; rfl) | (rw [decide_eq_true c39, decide_eq_false c50]; rfl) | (rw [decide_eq_false c39]; rfl)))
          · skip
            obtain ⟨hbe, hbl⟩ := bk_e ht c68
            obtain ⟨hbv, hbk⟩ := hBp _ hbl
            refine lv_aload_n hx hb dX5_takesPassing_71 rfl (lv_at hl 2 rfl) ?_
            refine va_get (D := D) (ci := 4) (v := .ref b0) (C := RX5) (T := TX5) (N := 7) hx hb hG wu_X5 hown hK hP 0 rfl rfl 1 (by decide) (hG _ wf_X5_7) (fun _ h9 => h9) rfl dX5_takesPassing_72 ?_
            refine lv_iload_n hx hb dX5_takesPassing_75 rfl (lv_at hl 3 rfl) ?_
            refine lv_iload hx hb dX5_takesPassing_76 (lv_at hl 0 rfl) ?_
            refine roI (rnS (As := [.int (bkI sd t)]) (rest := [.int (nI b), .ref b0]) S0 (c_X5_isSquare l (bkI sd t)) wm_X5_36 wt_X5_isSquare wn_X5 wc_X5_isSquare hd_X5_isSquare ⟨rfl, rfl, by decide, by decide⟩ True.blind (fun _ _ _ => trivial) hl.1 (Nat.le_of_ble_eq_true rfl) dX5_takesPassing_78 rfl ⟨by decide, by decide⟩) (fun r_3 hr_3 => ?_)
            subst hr_3
            refine lb_if_eq (tgt := 89) hx hb dX5_takesPassing_81 (by decide) (fun c81 => ?_) (fun c81 => ?_)
            · skip
              exact absurd (c68.symm.trans c81) (by decide)
            · skip
              refine lv_iload hx hb dX5_takesPassing_84 (lv_at hl 0 rfl) ?_
              refine W.top (y := .int (nI (bkN sd t))) (congrArg Value.int hbe) ?_
              refine lv_goto (tgt := 90) hx hb dX5_takesPassing_86 (by decide) ?_
              refine ln_iadd hx hb dX5_takesPassing_90 ?_
              refine va_iald hx hb hK hP 1 0 rfl rfl (vp_in_nI (by omega) (by decide)) dX5_takesPassing_91 ?_
              refine W.top (y := .int (F (b + (bkN sd t)))) (congrArg (fun z => Value.int (F z)) (nI_clamp (by omega))) ?_
              refine W.top (y := .int (nI (bd (bkN sd t)))) (congrArg Value.int hbv) ?_
              refine lv_bipush (v := (nI 7)) hx hb dX5_takesPassing_92 (by decide) ?_
              refine lv_bipush (v := (nI 6)) hx hb dX5_takesPassing_94 (by decide) ?_
              refine lv_iload hx hb dX5_takesPassing_96 (lv_at hl 1 rfl) ?_
              refine ln_imul hx hb dX5_takesPassing_98 ?_
              refine ln_isub hx hb dX5_takesPassing_99 (by omega) ?_
              refine ln_icmp_ne (tgt := 107) hx hb dX5_takesPassing_100 (by decide) (by omega) (by omega) (fun c100 => ?_) (fun c100 => ?_)
              · skip
                refine lv_iconst (v := (nI 0)) hx hb dX5_takesPassing_107 (by decide) ?_
                exact reZ (v := false) hx hb hr hlocks dX5_takesPassing_108 (congrArg bI (by unfold tps; first | (rw [decide_eq_true c39, decide_eq_true c50, c60, c68, decide_eq_true c100]; rfl) | (rw [decide_eq_true c39, decide_eq_true c50, c60, c68, decide_eq_false c100]; rfl) | (rw [decide_eq_true c39, decide_eq_true c50, c60, c68]; rfl) | (rw [decide_eq_true c39, decide_eq_true c50, c60]; rfl) | (rw [decide_eq_true c39, decide_eq_false c50]; rfl) | (rw [decide_eq_false c39]; rfl)))
              · skip
                refine lv_iconst (v := (nI 1)) hx hb dX5_takesPassing_103 (by decide) ?_
                refine lv_goto (tgt := 108) hx hb dX5_takesPassing_104 (by decide) ?_
                exact reZ (v := true) hx hb hr hlocks dX5_takesPassing_108 (congrArg bI (by unfold tps; first | (rw [decide_eq_true c39, decide_eq_true c50, c60, c68, decide_eq_true c100]; rfl) | (rw [decide_eq_true c39, decide_eq_true c50, c60, c68, decide_eq_false c100]; rfl) | (rw [decide_eq_true c39, decide_eq_true c50, c60, c68]; rfl) | (rw [decide_eq_true c39, decide_eq_true c50, c60]; rfl) | (rw [decide_eq_true c39, decide_eq_false c50]; rfl) | (rw [decide_eq_false c39]; rfl)))
  · skip
    refine ln_if_ne (tgt := 23) hx hb dX5_takesPassing_13 (by decide) (by omega) (fun c13 => ?_) (fun c13 => ?_)
    · skip
      refine lv_iload_n hx hb dX5_takesPassing_23 rfl (lv_at hl 4 rfl) ?_
      refine lv_bipush (v := (nI 8)) hx hb dX5_takesPassing_24 (by decide) ?_
      refine ln_iadd hx hb dX5_takesPassing_26 ?_
      refine W.top (y := .int (bkI sd t)) (congrArg Value.int (by unfold bkI; first | rw [if_pos c13] | rw [if_neg c13])) ?_
      exact hj_27 ls (lv_sub hl [0, 1, 2, 3, 4] rfl)
    · skip
      refine lv_iload_n hx hb dX5_takesPassing_16 rfl (lv_at hl 4 rfl) ?_
      refine lv_bipush (v := (nI 8)) hx hb dX5_takesPassing_17 (by decide) ?_
      refine lv_isub hx hb dX5_takesPassing_19 ?_
      refine lv_goto (tgt := 27) hx hb dX5_takesPassing_20 (by decide) ?_
      refine W.top (y := .int (bkI sd t)) (congrArg Value.int (by unfold bkI; first | rw [if_pos c13] | rw [if_neg c13])) ?_
      exact hj_27 ls (lv_sub hl [0, 1, 2, 3, 4] rfl)
theorem dX5_pawnGoes_0 : decode cX5_pawnGoes 0 = .ok (.aload_n 0, 1) := by decide +kernel
theorem dX5_pawnGoes_1 : decode cX5_pawnGoes 1 = .ok (.getfield 7, 3) := by decide +kernel
theorem dX5_pawnGoes_4 : decode cX5_pawnGoes 4 = .ok (.iload_n 1, 1) := by decide +kernel
theorem dX5_pawnGoes_5 : decode cX5_pawnGoes 5 = .ok (.bipush 64, 2) := by decide +kernel
theorem dX5_pawnGoes_7 : decode cX5_pawnGoes 7 = .ok (.iadd, 1) := by decide +kernel
theorem dX5_pawnGoes_8 : decode cX5_pawnGoes 8 = .ok (.iaload, 1) := by decide +kernel
theorem dX5_pawnGoes_9 : decode cX5_pawnGoes 9 = .ok (.istore 4, 2) := by decide +kernel
theorem dX5_pawnGoes_11 : decode cX5_pawnGoes 11 = .ok (.iload 4, 2) := by decide +kernel
theorem dX5_pawnGoes_13 : decode cX5_pawnGoes 13 = .ok (.ifCond .ne 8, 3) := by decide +kernel
theorem dX5_pawnGoes_16 : decode cX5_pawnGoes 16 = .ok (.bipush 8, 2) := by decide +kernel
theorem dX5_pawnGoes_18 : decode cX5_pawnGoes 18 = .ok (.goto 5, 3) := by decide +kernel
theorem dX5_pawnGoes_21 : decode cX5_pawnGoes 21 = .ok (.bipush (-8), 2) := by decide +kernel
theorem dX5_pawnGoes_23 : decode cX5_pawnGoes 23 = .ok (.istore 5, 2) := by decide +kernel
theorem dX5_pawnGoes_25 : decode cX5_pawnGoes 25 = .ok (.iload_n 3, 1) := by decide +kernel
theorem dX5_pawnGoes_26 : decode cX5_pawnGoes 26 = .ok (.iload_n 2, 1) := by decide +kernel
theorem dX5_pawnGoes_27 : decode cX5_pawnGoes 27 = .ok (.iload 5, 2) := by decide +kernel
theorem dX5_pawnGoes_29 : decode cX5_pawnGoes 29 = .ok (.iadd, 1) := by decide +kernel
theorem dX5_pawnGoes_30 : decode cX5_pawnGoes 30 = .ok (.if_icmp .ne 20, 3) := by decide +kernel
theorem dX5_pawnGoes_33 : decode cX5_pawnGoes 33 = .ok (.aload_n 0, 1) := by decide +kernel
theorem dX5_pawnGoes_34 : decode cX5_pawnGoes 34 = .ok (.getfield 7, 3) := by decide +kernel
theorem dX5_pawnGoes_37 : decode cX5_pawnGoes 37 = .ok (.iload_n 1, 1) := by decide +kernel
theorem dX5_pawnGoes_38 : decode cX5_pawnGoes 38 = .ok (.iload_n 3, 1) := by decide +kernel
theorem dX5_pawnGoes_39 : decode cX5_pawnGoes 39 = .ok (.iadd, 1) := by decide +kernel
theorem dX5_pawnGoes_40 : decode cX5_pawnGoes 40 = .ok (.iaload, 1) := by decide +kernel
theorem dX5_pawnGoes_41 : decode cX5_pawnGoes 41 = .ok (.ifCond .ne 7, 3) := by decide +kernel
theorem dX5_pawnGoes_44 : decode cX5_pawnGoes 44 = .ok (.iconst 1, 1) := by decide +kernel
theorem dX5_pawnGoes_45 : decode cX5_pawnGoes 45 = .ok (.goto 4, 3) := by decide +kernel
theorem dX5_pawnGoes_48 : decode cX5_pawnGoes 48 = .ok (.iconst 0, 1) := by decide +kernel
theorem dX5_pawnGoes_49 : decode cX5_pawnGoes 49 = .ok (.ireturn, 1) := by decide +kernel
theorem dX5_pawnGoes_50 : decode cX5_pawnGoes 50 = .ok (.iload_n 3, 1) := by decide +kernel
theorem dX5_pawnGoes_51 : decode cX5_pawnGoes 51 = .ok (.iload_n 2, 1) := by decide +kernel
theorem dX5_pawnGoes_52 : decode cX5_pawnGoes 52 = .ok (.iconst 2, 1) := by decide +kernel
theorem dX5_pawnGoes_53 : decode cX5_pawnGoes 53 = .ok (.iload 5, 2) := by decide +kernel
theorem dX5_pawnGoes_55 : decode cX5_pawnGoes 55 = .ok (.imul, 1) := by decide +kernel
theorem dX5_pawnGoes_56 : decode cX5_pawnGoes 56 = .ok (.iadd, 1) := by decide +kernel
theorem dX5_pawnGoes_57 : decode cX5_pawnGoes 57 = .ok (.if_icmp .ne 52, 3) := by decide +kernel
theorem dX5_pawnGoes_60 : decode cX5_pawnGoes 60 = .ok (.iload_n 2, 1) := by decide +kernel
theorem dX5_pawnGoes_61 : decode cX5_pawnGoes 61 = .ok (.bipush 8, 2) := by decide +kernel
theorem dX5_pawnGoes_63 : decode cX5_pawnGoes 63 = .ok (.idiv, 1) := by decide +kernel
theorem dX5_pawnGoes_64 : decode cX5_pawnGoes 64 = .ok (.iload 4, 2) := by decide +kernel
theorem dX5_pawnGoes_66 : decode cX5_pawnGoes 66 = .ok (.ifCond .ne 7, 3) := by decide +kernel
theorem dX5_pawnGoes_69 : decode cX5_pawnGoes 69 = .ok (.iconst 1, 1) := by decide +kernel
theorem dX5_pawnGoes_70 : decode cX5_pawnGoes 70 = .ok (.goto 5, 3) := by decide +kernel
theorem dX5_pawnGoes_73 : decode cX5_pawnGoes 73 = .ok (.bipush 6, 2) := by decide +kernel
theorem dX5_pawnGoes_75 : decode cX5_pawnGoes 75 = .ok (.if_icmp .ne 32, 3) := by decide +kernel
theorem dX5_pawnGoes_78 : decode cX5_pawnGoes 78 = .ok (.aload_n 0, 1) := by decide +kernel
theorem dX5_pawnGoes_79 : decode cX5_pawnGoes 79 = .ok (.getfield 7, 3) := by decide +kernel
theorem dX5_pawnGoes_82 : decode cX5_pawnGoes 82 = .ok (.iload_n 1, 1) := by decide +kernel
theorem dX5_pawnGoes_83 : decode cX5_pawnGoes 83 = .ok (.iload_n 2, 1) := by decide +kernel
theorem dX5_pawnGoes_84 : decode cX5_pawnGoes 84 = .ok (.iadd, 1) := by decide +kernel
theorem dX5_pawnGoes_85 : decode cX5_pawnGoes 85 = .ok (.iload 5, 2) := by decide +kernel
theorem dX5_pawnGoes_87 : decode cX5_pawnGoes 87 = .ok (.iadd, 1) := by decide +kernel
theorem dX5_pawnGoes_88 : decode cX5_pawnGoes 88 = .ok (.iaload, 1) := by decide +kernel
theorem dX5_pawnGoes_89 : decode cX5_pawnGoes 89 = .ok (.ifCond .ne 18, 3) := by decide +kernel
theorem dX5_pawnGoes_92 : decode cX5_pawnGoes 92 = .ok (.aload_n 0, 1) := by decide +kernel
theorem dX5_pawnGoes_93 : decode cX5_pawnGoes 93 = .ok (.getfield 7, 3) := by decide +kernel
theorem dX5_pawnGoes_96 : decode cX5_pawnGoes 96 = .ok (.iload_n 1, 1) := by decide +kernel
theorem dX5_pawnGoes_97 : decode cX5_pawnGoes 97 = .ok (.iload_n 3, 1) := by decide +kernel
theorem dX5_pawnGoes_98 : decode cX5_pawnGoes 98 = .ok (.iadd, 1) := by decide +kernel
theorem dX5_pawnGoes_99 : decode cX5_pawnGoes 99 = .ok (.iaload, 1) := by decide +kernel
theorem dX5_pawnGoes_100 : decode cX5_pawnGoes 100 = .ok (.ifCond .ne 7, 3) := by decide +kernel
theorem dX5_pawnGoes_103 : decode cX5_pawnGoes 103 = .ok (.iconst 1, 1) := by decide +kernel
theorem dX5_pawnGoes_104 : decode cX5_pawnGoes 104 = .ok (.goto 4, 3) := by decide +kernel
theorem dX5_pawnGoes_107 : decode cX5_pawnGoes 107 = .ok (.iconst 0, 1) := by decide +kernel
theorem dX5_pawnGoes_108 : decode cX5_pawnGoes 108 = .ok (.ireturn, 1) := by decide +kernel
theorem dX5_pawnGoes_109 : decode cX5_pawnGoes 109 = .ok (.aload_n 0, 1) := by decide +kernel
theorem dX5_pawnGoes_110 : decode cX5_pawnGoes 110 = .ok (.iload_n 1, 1) := by decide +kernel
theorem dX5_pawnGoes_111 : decode cX5_pawnGoes 111 = .ok (.iload_n 2, 1) := by decide +kernel
theorem dX5_pawnGoes_112 : decode cX5_pawnGoes 112 = .ok (.iload_n 3, 1) := by decide +kernel
theorem dX5_pawnGoes_113 : decode cX5_pawnGoes 113 = .ok (.invokevirtual 54, 3) := by decide +kernel
theorem dX5_pawnGoes_116 : decode cX5_pawnGoes 116 = .ok (.ifCond .eq 21, 3) := by decide +kernel
theorem dX5_pawnGoes_119 : decode cX5_pawnGoes 119 = .ok (.aload_n 0, 1) := by decide +kernel
theorem dX5_pawnGoes_120 : decode cX5_pawnGoes 120 = .ok (.getfield 7, 3) := by decide +kernel
theorem dX5_pawnGoes_123 : decode cX5_pawnGoes 123 = .ok (.iload_n 1, 1) := by decide +kernel
theorem dX5_pawnGoes_124 : decode cX5_pawnGoes 124 = .ok (.iload_n 3, 1) := by decide +kernel
theorem dX5_pawnGoes_125 : decode cX5_pawnGoes 125 = .ok (.iadd, 1) := by decide +kernel
theorem dX5_pawnGoes_126 : decode cX5_pawnGoes 126 = .ok (.iaload, 1) := by decide +kernel
theorem dX5_pawnGoes_127 : decode cX5_pawnGoes 127 = .ok (.invokestatic 51, 3) := by decide +kernel
theorem dX5_pawnGoes_130 : decode cX5_pawnGoes 130 = .ok (.iconst 1, 1) := by decide +kernel
theorem dX5_pawnGoes_131 : decode cX5_pawnGoes 131 = .ok (.iload 4, 2) := by decide +kernel
theorem dX5_pawnGoes_133 : decode cX5_pawnGoes 133 = .ok (.isub, 1) := by decide +kernel
theorem dX5_pawnGoes_134 : decode cX5_pawnGoes 134 = .ok (.if_icmp .eq 13, 3) := by decide +kernel
theorem dX5_pawnGoes_137 : decode cX5_pawnGoes 137 = .ok (.aload_n 0, 1) := by decide +kernel
theorem dX5_pawnGoes_138 : decode cX5_pawnGoes 138 = .ok (.iload_n 1, 1) := by decide +kernel
theorem dX5_pawnGoes_139 : decode cX5_pawnGoes 139 = .ok (.iload_n 2, 1) := by decide +kernel
theorem dX5_pawnGoes_140 : decode cX5_pawnGoes 140 = .ok (.iload_n 3, 1) := by decide +kernel
theorem dX5_pawnGoes_141 : decode cX5_pawnGoes 141 = .ok (.invokevirtual 71, 3) := by decide +kernel
theorem dX5_pawnGoes_144 : decode cX5_pawnGoes 144 = .ok (.ifCond .eq 7, 3) := by decide +kernel
theorem dX5_pawnGoes_147 : decode cX5_pawnGoes 147 = .ok (.iconst 1, 1) := by decide +kernel
theorem dX5_pawnGoes_148 : decode cX5_pawnGoes 148 = .ok (.goto 4, 3) := by decide +kernel
theorem dX5_pawnGoes_151 : decode cX5_pawnGoes 151 = .ok (.iconst 0, 1) := by decide +kernel
theorem dX5_pawnGoes_152 : decode cX5_pawnGoes 152 = .ok (.ireturn, 1) := by decide +kernel
theorem hd_X5_pawnGoes : yX5_pawnGoes.cls ≠ "java/lang/invoke/MethodHandle" ∧ yX5_pawnGoes.cls ≠ "java/lang/invoke/VarHandle" ∧ (parseMethodDescriptor yX5_pawnGoes.desc).map (fun d => d.parameters.length) = some 3 := by decide +kernel
set_option maxHeartbeats 4000000 in
set_option maxRecDepth 100000 in
/-- pawnGoes -/
theorem c_X5_pawnGoes (l : Launch) {D : va_G} {cI cJ : ClassId} {A : Nat → Prop} {hm b0 b1 b2 b3 : Nat} {th mk sz : Int32} {F mv kp li : Nat → Int32} (bd : Nat → Nat) (sd rt ps b f t : Nat) (hb9 : b ≤ 300) (hf : f < 64) (ht : t < 64) (hBd : Bd F b bd sd rt ps) : Met l yX5_pawnGoes (Cond.code yX5_pawnGoes cX5_pawnGoes 6 (some .boolean) :: wsL_law) (rK 3) (va_Pc [.ref hm, .int (nI b), .int (nI f), .int (nI t)] (IW D cI cJ A (rW cI hm b0 b1 b2 b3 th mk sz F mv kp li))) (vp_Si (fun r => r = bI (pgo bd sd ps f t))) 0 0 (fun _ => False) := by
  refine entM (by decide) (Nat.le_of_ble_eq_true rfl) ?_
  intro p e s m below meth c ls S0 hr hlocks hG hnm hB hl
  have hx := S0.1
  have hb := S0.2.1
  have hown := S0.2.2.2.1
  have hl : lv_has ls 6 [(0, .ref hm), (1, .int (nI b)), (2, .int (nI f)), (3, .int (nI t))] := hl
  obtain ⟨hP, hD, hK, hA, hE⟩ := hB
  have hS : va_S A s.heap s.heap [] := va_S.rf
  obtain ⟨hBp, hsd, hs2, hrt, hr16, hps, hp65⟩ := id hBd
  have htb := (hBp _ ht).2
  refine lv_aload_n hx hb dX5_pawnGoes_0 rfl (lv_at hl 0 rfl) ?_
  refine va_get (D := D) (ci := 4) (v := .ref b0) (C := RX5) (T := TX5) (N := 7) hx hb hG wu_X5 hown hK hP 0 rfl rfl 1 (by decide) (hG _ wf_X5_7) (fun _ h9 => h9) rfl dX5_pawnGoes_1 ?_
  refine lv_iload_n hx hb dX5_pawnGoes_4 rfl (lv_at hl 1 rfl) ?_
  refine lv_bipush (v := (nI 64)) hx hb dX5_pawnGoes_5 (by decide) ?_
  refine ln_iadd hx hb dX5_pawnGoes_7 ?_
  refine va_iald hx hb hK hP 1 0 rfl rfl (vp_in_nI (by omega) (by decide)) dX5_pawnGoes_8 ?_
  refine W.top (y := .int (F (b + 64))) (congrArg (fun z => Value.int (F z)) (nI_clamp (by omega))) ?_
  refine W.top (y := .int (nI sd)) (congrArg Value.int hsd) ?_
  refine lv_istore (lv' := [(4, .int (nI sd)), (0, .ref hm), (1, .int (nI b)), (2, .int (nI f)), (3, .int (nI t))]) hx hb dX5_pawnGoes_9 hl (by decide) rfl (fun ls hl => ?_)
  refine lv_iload hx hb dX5_pawnGoes_11 (lv_at hl 0 rfl) ?_
  refine jnG 23 6 [(4, .int (nI sd)), (0, .ref hm), (1, .int (nI b)), (2, .int (nI f)), (3, .int (nI t))] [.int (onI sd)] ?_ (fun hj_23 => ?_)
  · intro ls hl
    refine lv_istore (lv' := [(5, .int (onI sd)), (4, .int (nI sd)), (0, .ref hm), (1, .int (nI b)), (2, .int (nI f)), (3, .int (nI t))]) hx hb dX5_pawnGoes_23 hl (by decide) rfl (fun ls hl => ?_)
    refine lv_iload_n hx hb dX5_pawnGoes_25 rfl (lv_at hl 5 rfl) ?_
    refine lv_iload_n hx hb dX5_pawnGoes_26 rfl (lv_at hl 4 rfl) ?_
    refine lv_iload hx hb dX5_pawnGoes_27 (lv_at hl 0 rfl) ?_
    refine lv_iadd hx hb dX5_pawnGoes_29 ?_
    refine lv_icmp_ne (tgt := 50) hx hb dX5_pawnGoes_30 (by decide) (fun c30 => ?_) (fun c30 => ?_)
    · skip
      rw [st1_e hf ht] at c30
      refine lv_iload_n hx hb dX5_pawnGoes_50 rfl (lv_at hl 5 rfl) ?_
      refine lv_iload_n hx hb dX5_pawnGoes_51 rfl (lv_at hl 4 rfl) ?_
      refine lv_iconst (v := (nI 2)) hx hb dX5_pawnGoes_52 (by decide) ?_
      refine lv_iload hx hb dX5_pawnGoes_53 (lv_at hl 0 rfl) ?_
      refine lv_imul hx hb dX5_pawnGoes_55 ?_
      refine lv_iadd hx hb dX5_pawnGoes_56 ?_
      refine lv_icmp_ne (tgt := 109) hx hb dX5_pawnGoes_57 (by decide) (fun c57 => ?_) (fun c57 => ?_)
      · skip
        rw [st2_e hf ht] at c57
        refine lv_aload_n hx hb dX5_pawnGoes_109 rfl (lv_at hl 2 rfl) ?_
        refine lv_iload_n hx hb dX5_pawnGoes_110 rfl (lv_at hl 3 rfl) ?_
        refine lv_iload_n hx hb dX5_pawnGoes_111 rfl (lv_at hl 4 rfl) ?_
        refine lv_iload_n hx hb dX5_pawnGoes_112 rfl (lv_at hl 5 rfl) ?_
        refine roI (rnV (As := [.int (nI b), .int (nI f), .int (nI t)]) (rest := []) S0 (c_X5_attacks l bd b f t hb9 hf ht hBp) wm_X5_54 wi_X5_attacks ws_X5_attacks wn_X5 wc_X5_attacks hd_X5_attacks ⟨rfl, rfl, by decide, by decide⟩ IW.blind (va_recv hK hP (ci := 4) (q0 := 0) rfl rfl) (IW.at hP hD hK hA hE hS) hl.1 (Nat.le_of_ble_eq_true rfl) dX5_pawnGoes_113 rfl ⟨by decide, by decide⟩) (fun r_1 hr_1 => ?_)
        subst hr_1
        refine lb_if_eq (tgt := 137) hx hb dX5_pawnGoes_116 (by decide) (fun c116 => ?_) (fun c116 => ?_)
        · skip
          refine lv_aload_n hx hb dX5_pawnGoes_137 rfl (lv_at hl 2 rfl) ?_
          refine lv_iload_n hx hb dX5_pawnGoes_138 rfl (lv_at hl 3 rfl) ?_
          refine lv_iload_n hx hb dX5_pawnGoes_139 rfl (lv_at hl 4 rfl) ?_
          refine lv_iload_n hx hb dX5_pawnGoes_140 rfl (lv_at hl 5 rfl) ?_
          refine roI (rnV (As := [.int (nI b), .int (nI f), .int (nI t)]) (rest := []) S0 (c_X5_takesPassing l bd sd rt ps b f t hb9 hf ht hBd) wm_X5_71 wi_X5_takesPassing ws_X5_takesPassing wn_X5 wc_X5_takesPassing hd_X5_takesPassing ⟨rfl, rfl, by decide, by decide⟩ IW.blind (va_recv hK hP (ci := 4) (q0 := 0) rfl rfl) (IW.at hP hD hK hA hE hS) hl.1 (Nat.le_of_ble_eq_true rfl) dX5_pawnGoes_141 rfl ⟨by decide, by decide⟩) (fun r_2 hr_2 => ?_)
          subst hr_2
          refine lb_if_eq (tgt := 151) hx hb dX5_pawnGoes_144 (by decide) (fun c144 => ?_) (fun c144 => ?_)
          · skip
            refine lv_iconst (v := (nI 0)) hx hb dX5_pawnGoes_151 (by decide) ?_
            exact reZ (v := false) hx hb hr hlocks dX5_pawnGoes_152 (congrArg bI (by rw [pgo_3 c30 c57]; first | (rw [c116, decide_eq_true c134]; rfl) | (rw [c116, decide_eq_false c134, c144]; rfl) | (rw [c116, c144]; rfl)))
          · skip
            refine lv_iconst (v := (nI 1)) hx hb dX5_pawnGoes_147 (by decide) ?_
            refine lv_goto (tgt := 152) hx hb dX5_pawnGoes_148 (by decide) ?_
            exact reZ (v := true) hx hb hr hlocks dX5_pawnGoes_152 (congrArg bI (by rw [pgo_3 c30 c57]; first | (rw [c116, decide_eq_true c134]; rfl) | (rw [c116, decide_eq_false c134, c144]; rfl) | (rw [c116, c144]; rfl)))
        · skip
          refine lv_aload_n hx hb dX5_pawnGoes_119 rfl (lv_at hl 2 rfl) ?_
          refine va_get (D := D) (ci := 4) (v := .ref b0) (C := RX5) (T := TX5) (N := 7) hx hb hG wu_X5 hown hK hP 0 rfl rfl 1 (by decide) (hG _ wf_X5_7) (fun _ h9 => h9) rfl dX5_pawnGoes_120 ?_
          refine lv_iload_n hx hb dX5_pawnGoes_123 rfl (lv_at hl 3 rfl) ?_
          refine lv_iload_n hx hb dX5_pawnGoes_124 rfl (lv_at hl 5 rfl) ?_
          refine ln_iadd hx hb dX5_pawnGoes_125 ?_
          refine va_iald hx hb hK hP 1 0 rfl rfl (vp_in_nI (by omega) (by decide)) dX5_pawnGoes_126 ?_
          refine W.top (y := .int (F (b + t))) (congrArg (fun z => Value.int (F z)) (nI_clamp (by omega))) ?_
          refine W.top (y := .int (nI (bd t))) (congrArg Value.int (hBp _ ht).1) ?_
          refine roI (rnS (As := [.int (nI (bd t))]) (rest := []) S0 (c_X5_sideOf l (bd t) (by omega)) wm_X5_51 wt_X5_sideOf wn_X5 wc_X5_sideOf hd_X5_sideOf ⟨rfl, rfl, by decide, by decide⟩ True.blind (fun _ _ _ => trivial) hl.1 (Nat.le_of_ble_eq_true rfl) dX5_pawnGoes_127 rfl ⟨by decide, by decide⟩) (fun r_3 hr_3 => ?_)
          subst hr_3
          refine lv_iconst (v := (nI 1)) hx hb dX5_pawnGoes_130 (by decide) ?_
          refine lv_iload hx hb dX5_pawnGoes_131 (lv_at hl 1 rfl) ?_
          refine ln_isub hx hb dX5_pawnGoes_133 (by omega) ?_
          refine lv_icmp_eq (tgt := 147) hx hb dX5_pawnGoes_134 (by decide) (fun c134 => ?_) (fun c134 => ?_)
          · skip
            rw [sdI_eq (by omega)] at c134
            refine lv_iconst (v := (nI 1)) hx hb dX5_pawnGoes_147 (by decide) ?_
            refine lv_goto (tgt := 152) hx hb dX5_pawnGoes_148 (by decide) ?_
            exact reZ (v := true) hx hb hr hlocks dX5_pawnGoes_152 (congrArg bI (by rw [pgo_3 c30 c57]; first | (rw [c116, decide_eq_true c134]; rfl) | (rw [c116, decide_eq_false c134, c144]; rfl) | (rw [c116, c144]; rfl)))
          · skip
            rw [sdI_eq (by omega)] at c134
            refine lv_aload_n hx hb dX5_pawnGoes_137 rfl (lv_at hl 2 rfl) ?_
            refine lv_iload_n hx hb dX5_pawnGoes_138 rfl (lv_at hl 3 rfl) ?_
            refine lv_iload_n hx hb dX5_pawnGoes_139 rfl (lv_at hl 4 rfl) ?_
            refine lv_iload_n hx hb dX5_pawnGoes_140 rfl (lv_at hl 5 rfl) ?_
            refine roI (rnV (As := [.int (nI b), .int (nI f), .int (nI t)]) (rest := []) S0 (c_X5_takesPassing l bd sd rt ps b f t hb9 hf ht hBd) wm_X5_71 wi_X5_takesPassing ws_X5_takesPassing wn_X5 wc_X5_takesPassing hd_X5_takesPassing ⟨rfl, rfl, by decide, by decide⟩ IW.blind (va_recv hK hP (ci := 4) (q0 := 0) rfl rfl) (IW.at hP hD hK hA hE hS) hl.1 (Nat.le_of_ble_eq_true rfl) dX5_pawnGoes_141 rfl ⟨by decide, by decide⟩) (fun r_4 hr_4 => ?_)
            subst hr_4
            refine lb_if_eq (tgt := 151) hx hb dX5_pawnGoes_144 (by decide) (fun c144 => ?_) (fun c144 => ?_)
            · skip
              refine lv_iconst (v := (nI 0)) hx hb dX5_pawnGoes_151 (by decide) ?_
              exact reZ (v := false) hx hb hr hlocks dX5_pawnGoes_152 (congrArg bI (by rw [pgo_3 c30 c57]; first | (rw [c116, decide_eq_true c134]; rfl) | (rw [c116, decide_eq_false c134, c144]; rfl) | (rw [c116, c144]; rfl)))
            · skip
              refine lv_iconst (v := (nI 1)) hx hb dX5_pawnGoes_147 (by decide) ?_
              refine lv_goto (tgt := 152) hx hb dX5_pawnGoes_148 (by decide) ?_
              exact reZ (v := true) hx hb hr hlocks dX5_pawnGoes_152 (congrArg bI (by rw [pgo_3 c30 c57]; first | (rw [c116, decide_eq_true c134]; rfl) | (rw [c116, decide_eq_false c134, c144]; rfl) | (rw [c116, c144]; rfl)))
      · skip
        rw [st2_e hf ht] at c57
        refine lv_iload_n hx hb dX5_pawnGoes_60 rfl (lv_at hl 4 rfl) ?_
        refine lv_bipush (v := (nI 8)) hx hb dX5_pawnGoes_61 (by decide) ?_
        refine ln_idiv hx hb dX5_pawnGoes_63 (by omega) (by decide) (by decide) ?_
        refine lv_iload hx hb dX5_pawnGoes_64 (lv_at hl 1 rfl) ?_
        refine jnG 75 6 [(5, .int (onI sd)), (4, .int (nI sd)), (0, .ref hm), (1, .int (nI b)), (2, .int (nI f)), (3, .int (nI t))] [.int (nI (if sd = 0 then 1 else 6)), .int (nI (f / 8))] ?_ (fun hj_75 => ?_)
        · intro ls hl
          have hif : (if sd = 0 then 1 else 6) < 7 := by split <;> omega
          refine ln_icmp_ne (tgt := 107) hx hb dX5_pawnGoes_75 (by decide) (by omega) (by omega) (fun c75 => ?_) (fun c75 => ?_)
          · skip
            refine lv_iconst (v := (nI 0)) hx hb dX5_pawnGoes_107 (by decide) ?_
            exact reZ (v := false) hx hb hr hlocks dX5_pawnGoes_108 (congrArg bI (by rw [pgo_2 c30 c57]; first | (rw [decide_eq_true c75, decide_eq_true c89, decide_eq_true c100]; rfl) | (rw [decide_eq_true c75, decide_eq_true c89, decide_eq_false c100]; rfl) | (rw [decide_eq_true c75, decide_eq_false c89]; rfl) | (rw [decide_eq_false c75]; rfl)))
          · skip
            refine lv_aload_n hx hb dX5_pawnGoes_78 rfl (lv_at hl 2 rfl) ?_
            refine va_get (D := D) (ci := 4) (v := .ref b0) (C := RX5) (T := TX5) (N := 7) hx hb hG wu_X5 hown hK hP 0 rfl rfl 1 (by decide) (hG _ wf_X5_7) (fun _ h9 => h9) rfl dX5_pawnGoes_79 ?_
            refine lv_iload_n hx hb dX5_pawnGoes_82 rfl (lv_at hl 3 rfl) ?_
            refine lv_iload_n hx hb dX5_pawnGoes_83 rfl (lv_at hl 4 rfl) ?_
            refine ln_iadd hx hb dX5_pawnGoes_84 ?_
            refine lv_iload hx hb dX5_pawnGoes_85 (lv_at hl 0 rfl) ?_
            refine lv_iadd hx hb dX5_pawnGoes_87 ?_
            refine W.top (y := .int (nI (b + (f + t) / 2))) (congrArg Value.int (st2_m c57)) ?_
            have hmb := (hBp ((f + t) / 2) (by omega)).2
            refine va_iald hx hb hK hP 1 0 rfl rfl (vp_in_nI (by omega) (by decide)) dX5_pawnGoes_88 ?_
            refine W.top (y := .int (F (b + (f + t) / 2))) (congrArg (fun z => Value.int (F z)) (nI_clamp (by omega))) ?_
            refine W.top (y := .int (nI (bd ((f + t) / 2)))) (congrArg Value.int (hBp _ (by omega)).1) ?_
            refine ln_if_ne (tgt := 107) hx hb dX5_pawnGoes_89 (by decide) (by omega) (fun c89 => ?_) (fun c89 => ?_)
            · skip
              refine lv_iconst (v := (nI 0)) hx hb dX5_pawnGoes_107 (by decide) ?_
              exact reZ (v := false) hx hb hr hlocks dX5_pawnGoes_108 (congrArg bI (by rw [pgo_2 c30 c57]; first | (rw [decide_eq_true c75, decide_eq_true c89, decide_eq_true c100]; rfl) | (rw [decide_eq_true c75, decide_eq_true c89, decide_eq_false c100]; rfl) | (rw [decide_eq_true c75, decide_eq_false c89]; rfl) | (rw [decide_eq_false c75]; rfl)))
            · skip
              refine lv_aload_n hx hb dX5_pawnGoes_92 rfl (lv_at hl 2 rfl) ?_
              refine va_get (D := D) (ci := 4) (v := .ref b0) (C := RX5) (T := TX5) (N := 7) hx hb hG wu_X5 hown hK hP 0 rfl rfl 1 (by decide) (hG _ wf_X5_7) (fun _ h9 => h9) rfl dX5_pawnGoes_93 ?_
              refine lv_iload_n hx hb dX5_pawnGoes_96 rfl (lv_at hl 3 rfl) ?_
              refine lv_iload_n hx hb dX5_pawnGoes_97 rfl (lv_at hl 5 rfl) ?_
              refine ln_iadd hx hb dX5_pawnGoes_98 ?_
              refine va_iald hx hb hK hP 1 0 rfl rfl (vp_in_nI (by omega) (by decide)) dX5_pawnGoes_99 ?_
              refine W.top (y := .int (F (b + t))) (congrArg (fun z => Value.int (F z)) (nI_clamp (by omega))) ?_
              refine W.top (y := .int (nI (bd t))) (congrArg Value.int (hBp _ ht).1) ?_
              refine ln_if_ne (tgt := 107) hx hb dX5_pawnGoes_100 (by decide) (by omega) (fun c100 => ?_) (fun c100 => ?_)
              · skip
                refine lv_iconst (v := (nI 0)) hx hb dX5_pawnGoes_107 (by decide) ?_
                exact reZ (v := false) hx hb hr hlocks dX5_pawnGoes_108 (congrArg bI (by rw [pgo_2 c30 c57]; first | (rw [decide_eq_true c75, decide_eq_true c89, decide_eq_true c100]; rfl) | (rw [decide_eq_true c75, decide_eq_true c89, decide_eq_false c100]; rfl) | (rw [decide_eq_true c75, decide_eq_false c89]; rfl) | (rw [decide_eq_false c75]; rfl)))
              · skip
                refine lv_iconst (v := (nI 1)) hx hb dX5_pawnGoes_103 (by decide) ?_
                refine lv_goto (tgt := 108) hx hb dX5_pawnGoes_104 (by decide) ?_
                exact reZ (v := true) hx hb hr hlocks dX5_pawnGoes_108 (congrArg bI (by rw [pgo_2 c30 c57]; first | (rw [decide_eq_true c75, decide_eq_true c89, decide_eq_true c100]; rfl) | (rw [decide_eq_true c75, decide_eq_true c89, decide_eq_false c100]; rfl) | (rw [decide_eq_true c75, decide_eq_false c89]; rfl) | (rw [decide_eq_false c75]; rfl)))
        · skip
          refine ln_if_ne (tgt := 73) hx hb dX5_pawnGoes_66 (by decide) (by omega) (fun c66 => ?_) (fun c66 => ?_)
          · skip
            refine lv_bipush (v := (nI 6)) hx hb dX5_pawnGoes_73 (by decide) ?_
            refine W.top (y := .int (nI (if sd = 0 then 1 else 6))) (congrArg Value.int (congrArg nI (by first | rw [if_pos c66] | rw [if_neg c66]))) ?_
            exact hj_75 ls (lv_sub hl [0, 1, 2, 3, 4, 5] rfl)
          · skip
            refine lv_iconst (v := (nI 1)) hx hb dX5_pawnGoes_69 (by decide) ?_
            refine lv_goto (tgt := 75) hx hb dX5_pawnGoes_70 (by decide) ?_
            refine W.top (y := .int (nI (if sd = 0 then 1 else 6))) (congrArg Value.int (congrArg nI (by first | rw [if_pos c66] | rw [if_neg c66]))) ?_
            exact hj_75 ls (lv_sub hl [0, 1, 2, 3, 4, 5] rfl)
    · skip
      rw [st1_e hf ht] at c30
      refine lv_aload_n hx hb dX5_pawnGoes_33 rfl (lv_at hl 2 rfl) ?_
      refine va_get (D := D) (ci := 4) (v := .ref b0) (C := RX5) (T := TX5) (N := 7) hx hb hG wu_X5 hown hK hP 0 rfl rfl 1 (by decide) (hG _ wf_X5_7) (fun _ h9 => h9) rfl dX5_pawnGoes_34 ?_
      refine lv_iload_n hx hb dX5_pawnGoes_37 rfl (lv_at hl 3 rfl) ?_
      refine lv_iload_n hx hb dX5_pawnGoes_38 rfl (lv_at hl 5 rfl) ?_
      refine ln_iadd hx hb dX5_pawnGoes_39 ?_
      refine va_iald hx hb hK hP 1 0 rfl rfl (vp_in_nI (by omega) (by decide)) dX5_pawnGoes_40 ?_
      refine W.top (y := .int (F (b + t))) (congrArg (fun z => Value.int (F z)) (nI_clamp (by omega))) ?_
      refine W.top (y := .int (nI (bd t))) (congrArg Value.int (hBp _ ht).1) ?_
      refine ln_if_ne (tgt := 48) hx hb dX5_pawnGoes_41 (by decide) (by omega) (fun c41 => ?_) (fun c41 => ?_)
      · skip
        refine lv_iconst (v := (nI 0)) hx hb dX5_pawnGoes_48 (by decide) ?_
        exact reZ (v := false) hx hb hr hlocks dX5_pawnGoes_49 (congrArg bI (by rw [pgo_1 c30]; first | rw [decide_eq_true c41] | rw [decide_eq_false c41]))
      · skip
        refine lv_iconst (v := (nI 1)) hx hb dX5_pawnGoes_44 (by decide) ?_
        refine lv_goto (tgt := 49) hx hb dX5_pawnGoes_45 (by decide) ?_
        exact reZ (v := true) hx hb hr hlocks dX5_pawnGoes_49 (congrArg bI (by rw [pgo_1 c30]; first | rw [decide_eq_true c41] | rw [decide_eq_false c41]))
  · skip
    refine ln_if_ne (tgt := 21) hx hb dX5_pawnGoes_13 (by decide) (by omega) (fun c13 => ?_) (fun c13 => ?_)
    · skip
      refine lv_bipush (v := (-8)) hx hb dX5_pawnGoes_21 (by decide) ?_
      refine W.top (y := .int (onI sd)) (congrArg Value.int (by unfold onI; first | rw [if_pos c13] | rw [if_neg c13])) ?_
      exact hj_23 ls (lv_sub hl [0, 1, 2, 3, 4] rfl)
    · skip
      refine lv_bipush (v := (nI 8)) hx hb dX5_pawnGoes_16 (by decide) ?_
      refine lv_goto (tgt := 23) hx hb dX5_pawnGoes_18 (by decide) ?_
      refine W.top (y := .int (onI sd)) (congrArg Value.int (by unfold onI; first | rw [if_pos c13] | rw [if_neg c13])) ?_
      exact hj_23 ls (lv_sub hl [0, 1, 2, 3, 4] rfl)
theorem dX5_goes_0 : decode cX5_goes 0 = .ok (.aload_n 0, 1) := by decide +kernel
theorem dX5_goes_1 : decode cX5_goes 1 = .ok (.getfield 7, 3) := by decide +kernel
theorem dX5_goes_4 : decode cX5_goes 4 = .ok (.iload_n 1, 1) := by decide +kernel
theorem dX5_goes_5 : decode cX5_goes 5 = .ok (.bipush 64, 2) := by decide +kernel
theorem dX5_goes_7 : decode cX5_goes 7 = .ok (.iadd, 1) := by decide +kernel
theorem dX5_goes_8 : decode cX5_goes 8 = .ok (.iaload, 1) := by decide +kernel
theorem dX5_goes_9 : decode cX5_goes 9 = .ok (.istore 4, 2) := by decide +kernel
theorem dX5_goes_11 : decode cX5_goes 11 = .ok (.aload_n 0, 1) := by decide +kernel
theorem dX5_goes_12 : decode cX5_goes 12 = .ok (.getfield 7, 3) := by decide +kernel
theorem dX5_goes_15 : decode cX5_goes 15 = .ok (.iload_n 1, 1) := by decide +kernel
theorem dX5_goes_16 : decode cX5_goes 16 = .ok (.iload_n 2, 1) := by decide +kernel
theorem dX5_goes_17 : decode cX5_goes 17 = .ok (.iadd, 1) := by decide +kernel
theorem dX5_goes_18 : decode cX5_goes 18 = .ok (.iaload, 1) := by decide +kernel
theorem dX5_goes_19 : decode cX5_goes 19 = .ok (.invokestatic 40, 3) := by decide +kernel
theorem dX5_goes_22 : decode cX5_goes 22 = .ok (.istore 5, 2) := by decide +kernel
theorem dX5_goes_24 : decode cX5_goes 24 = .ok (.aload_n 0, 1) := by decide +kernel
theorem dX5_goes_25 : decode cX5_goes 25 = .ok (.getfield 7, 3) := by decide +kernel
theorem dX5_goes_28 : decode cX5_goes 28 = .ok (.iload_n 1, 1) := by decide +kernel
theorem dX5_goes_29 : decode cX5_goes 29 = .ok (.iload_n 2, 1) := by decide +kernel
theorem dX5_goes_30 : decode cX5_goes 30 = .ok (.iadd, 1) := by decide +kernel
theorem dX5_goes_31 : decode cX5_goes 31 = .ok (.iaload, 1) := by decide +kernel
theorem dX5_goes_32 : decode cX5_goes 32 = .ok (.invokestatic 51, 3) := by decide +kernel
theorem dX5_goes_35 : decode cX5_goes 35 = .ok (.iload 4, 2) := by decide +kernel
theorem dX5_goes_37 : decode cX5_goes 37 = .ok (.if_icmp .ne 35, 3) := by decide +kernel
theorem dX5_goes_40 : decode cX5_goes 40 = .ok (.aload_n 0, 1) := by decide +kernel
theorem dX5_goes_41 : decode cX5_goes 41 = .ok (.getfield 7, 3) := by decide +kernel
theorem dX5_goes_44 : decode cX5_goes 44 = .ok (.iload_n 1, 1) := by decide +kernel
theorem dX5_goes_45 : decode cX5_goes 45 = .ok (.iload_n 3, 1) := by decide +kernel
theorem dX5_goes_46 : decode cX5_goes 46 = .ok (.iadd, 1) := by decide +kernel
theorem dX5_goes_47 : decode cX5_goes 47 = .ok (.iaload, 1) := by decide +kernel
theorem dX5_goes_48 : decode cX5_goes 48 = .ok (.invokestatic 51, 3) := by decide +kernel
theorem dX5_goes_51 : decode cX5_goes 51 = .ok (.iload 4, 2) := by decide +kernel
theorem dX5_goes_53 : decode cX5_goes 53 = .ok (.if_icmp .eq 19, 3) := by decide +kernel
theorem dX5_goes_56 : decode cX5_goes 56 = .ok (.aload_n 0, 1) := by decide +kernel
theorem dX5_goes_57 : decode cX5_goes 57 = .ok (.getfield 7, 3) := by decide +kernel
theorem dX5_goes_60 : decode cX5_goes 60 = .ok (.iload_n 1, 1) := by decide +kernel
theorem dX5_goes_61 : decode cX5_goes 61 = .ok (.iload_n 3, 1) := by decide +kernel
theorem dX5_goes_62 : decode cX5_goes 62 = .ok (.iadd, 1) := by decide +kernel
theorem dX5_goes_63 : decode cX5_goes 63 = .ok (.iaload, 1) := by decide +kernel
theorem dX5_goes_64 : decode cX5_goes 64 = .ok (.invokestatic 40, 3) := by decide +kernel
theorem dX5_goes_67 : decode cX5_goes 67 = .ok (.bipush 6, 2) := by decide +kernel
theorem dX5_goes_69 : decode cX5_goes 69 = .ok (.if_icmp .ne 5, 3) := by decide +kernel
theorem dX5_goes_72 : decode cX5_goes 72 = .ok (.iconst 0, 1) := by decide +kernel
theorem dX5_goes_73 : decode cX5_goes 73 = .ok (.ireturn, 1) := by decide +kernel
theorem dX5_goes_74 : decode cX5_goes 74 = .ok (.iload 5, 2) := by decide +kernel
theorem dX5_goes_76 : decode cX5_goes 76 = .ok (.iconst 1, 1) := by decide +kernel
theorem dX5_goes_77 : decode cX5_goes 77 = .ok (.if_icmp .ne 13, 3) := by decide +kernel
theorem dX5_goes_80 : decode cX5_goes 80 = .ok (.aload_n 0, 1) := by decide +kernel
theorem dX5_goes_81 : decode cX5_goes 81 = .ok (.iload_n 1, 1) := by decide +kernel
theorem dX5_goes_82 : decode cX5_goes 82 = .ok (.iload_n 2, 1) := by decide +kernel
theorem dX5_goes_83 : decode cX5_goes 83 = .ok (.iload_n 3, 1) := by decide +kernel
theorem dX5_goes_84 : decode cX5_goes 84 = .ok (.invokevirtual 74, 3) := by decide +kernel
theorem dX5_goes_87 : decode cX5_goes 87 = .ok (.goto 35, 3) := by decide +kernel
theorem dX5_goes_90 : decode cX5_goes 90 = .ok (.aload_n 0, 1) := by decide +kernel
theorem dX5_goes_91 : decode cX5_goes 91 = .ok (.iload_n 1, 1) := by decide +kernel
theorem dX5_goes_92 : decode cX5_goes 92 = .ok (.iload_n 2, 1) := by decide +kernel
theorem dX5_goes_93 : decode cX5_goes 93 = .ok (.iload_n 3, 1) := by decide +kernel
theorem dX5_goes_94 : decode cX5_goes 94 = .ok (.invokevirtual 54, 3) := by decide +kernel
theorem dX5_goes_97 : decode cX5_goes 97 = .ok (.ifCond .ne 20, 3) := by decide +kernel
theorem dX5_goes_100 : decode cX5_goes 100 = .ok (.iload 5, 2) := by decide +kernel
theorem dX5_goes_102 : decode cX5_goes 102 = .ok (.bipush 6, 2) := by decide +kernel
theorem dX5_goes_104 : decode cX5_goes 104 = .ok (.if_icmp .ne 17, 3) := by decide +kernel
theorem dX5_goes_107 : decode cX5_goes 107 = .ok (.aload_n 0, 1) := by decide +kernel
theorem dX5_goes_108 : decode cX5_goes 108 = .ok (.iload_n 1, 1) := by decide +kernel
theorem dX5_goes_109 : decode cX5_goes 109 = .ok (.iload_n 2, 1) := by decide +kernel
theorem dX5_goes_110 : decode cX5_goes 110 = .ok (.iload_n 3, 1) := by decide +kernel
theorem dX5_goes_111 : decode cX5_goes 111 = .ok (.invokevirtual 77, 3) := by decide +kernel
theorem dX5_goes_114 : decode cX5_goes 114 = .ok (.ifCond .eq 7, 3) := by decide +kernel
theorem dX5_goes_117 : decode cX5_goes 117 = .ok (.iconst 1, 1) := by decide +kernel
theorem dX5_goes_118 : decode cX5_goes 118 = .ok (.goto 4, 3) := by decide +kernel
theorem dX5_goes_121 : decode cX5_goes 121 = .ok (.iconst 0, 1) := by decide +kernel
theorem dX5_goes_122 : decode cX5_goes 122 = .ok (.ireturn, 1) := by decide +kernel
theorem hd_X5_goes : yX5_goes.cls ≠ "java/lang/invoke/MethodHandle" ∧ yX5_goes.cls ≠ "java/lang/invoke/VarHandle" ∧ (parseMethodDescriptor yX5_goes.desc).map (fun d => d.parameters.length) = some 3 := by decide +kernel
set_option maxHeartbeats 4000000 in
set_option maxRecDepth 100000 in
/-- goes -/
theorem c_X5_goes (l : Launch) {D : va_G} {cI cJ : ClassId} {A : Nat → Prop} {hm b0 b1 b2 b3 : Nat} {th mk sz : Int32} {F mv kp li : Nat → Int32} (bd : Nat → Nat) (sd rt ps b f t : Nat) (hb9 : b ≤ 300) (hf : f < 64) (ht : t < 64) (hBd : Bd F b bd sd rt ps) : Met l yX5_goes (Cond.code yX5_goes cX5_goes 6 (some .boolean) :: wsL_law) (rK 4) (va_Pc [.ref hm, .int (nI b), .int (nI f), .int (nI t)] (IW D cI cJ A (rW cI hm b0 b1 b2 b3 th mk sz F mv kp li))) (vp_Si (fun r => r = bI (gos bd sd rt ps f t))) 0 0 (fun _ => False) := by
  refine entM (by decide) (Nat.le_of_ble_eq_true rfl) ?_
  intro p e s m below meth c ls S0 hr hlocks hG hnm hB hl
  have hx := S0.1
  have hb := S0.2.1
  have hown := S0.2.2.2.1
  have hl : lv_has ls 6 [(0, .ref hm), (1, .int (nI b)), (2, .int (nI f)), (3, .int (nI t))] := hl
  obtain ⟨hP, hD, hK, hA, hE⟩ := hB
  have hS : va_S A s.heap s.heap [] := va_S.rf
  obtain ⟨hBp, hsd, hs2, hrt, hr16, hps, hp65⟩ := id hBd
  obtain ⟨htv, htb⟩ := hBp _ ht
  obtain ⟨hfv, hfb⟩ := hBp _ hf
  have hkf := kd_lt hfb
  have hkt := kd_lt htb
  refine lv_aload_n hx hb dX5_goes_0 rfl (lv_at hl 0 rfl) ?_
  refine va_get (D := D) (ci := 4) (v := .ref b0) (C := RX5) (T := TX5) (N := 7) hx hb hG wu_X5 hown hK hP 0 rfl rfl 1 (by decide) (hG _ wf_X5_7) (fun _ h9 => h9) rfl dX5_goes_1 ?_
  refine lv_iload_n hx hb dX5_goes_4 rfl (lv_at hl 1 rfl) ?_
  refine lv_bipush (v := (nI 64)) hx hb dX5_goes_5 (by decide) ?_
  refine ln_iadd hx hb dX5_goes_7 ?_
  refine va_iald hx hb hK hP 1 0 rfl rfl (vp_in_nI (by omega) (by decide)) dX5_goes_8 ?_
  refine W.top (y := .int (F (b + 64))) (congrArg (fun z => Value.int (F z)) (nI_clamp (by omega))) ?_
  refine W.top (y := .int (nI sd)) (congrArg Value.int hsd) ?_
  refine lv_istore (lv' := [(4, .int (nI sd)), (0, .ref hm), (1, .int (nI b)), (2, .int (nI f)), (3, .int (nI t))]) hx hb dX5_goes_9 hl (by decide) rfl (fun ls hl => ?_)
  refine lv_aload_n hx hb dX5_goes_11 rfl (lv_at hl 1 rfl) ?_
  refine va_get (D := D) (ci := 4) (v := .ref b0) (C := RX5) (T := TX5) (N := 7) hx hb hG wu_X5 hown hK hP 0 rfl rfl 1 (by decide) (hG _ wf_X5_7) (fun _ h9 => h9) rfl dX5_goes_12 ?_
  refine lv_iload_n hx hb dX5_goes_15 rfl (lv_at hl 2 rfl) ?_
  refine lv_iload_n hx hb dX5_goes_16 rfl (lv_at hl 3 rfl) ?_
  refine ln_iadd hx hb dX5_goes_17 ?_
  refine va_iald hx hb hK hP 1 0 rfl rfl (vp_in_nI (by omega) (by decide)) dX5_goes_18 ?_
  refine W.top (y := .int (F (b + f))) (congrArg (fun z => Value.int (F z)) (nI_clamp (by omega))) ?_
  refine W.top (y := .int (nI (bd f))) (congrArg Value.int hfv) ?_
  refine roI (rnS (As := [.int (nI (bd f))]) (rest := []) S0 (c_X5_kindOf l (bd f) (by omega)) wm_X5_40 wt_X5_kindOf wn_X5 wc_X5_kindOf hd_X5_kindOf ⟨rfl, rfl, by decide, by decide⟩ True.blind (fun _ _ _ => trivial) hl.1 (Nat.le_of_ble_eq_true rfl) dX5_goes_19 rfl ⟨by decide, by decide⟩) (fun r_1 hr_1 => ?_)
  subst hr_1
  refine lv_istore (lv' := [(5, .int (nI (kd (bd f)))), (4, .int (nI sd)), (0, .ref hm), (1, .int (nI b)), (2, .int (nI f)), (3, .int (nI t))]) hx hb dX5_goes_22 hl (by decide) rfl (fun ls hl => ?_)
  refine lv_aload_n hx hb dX5_goes_24 rfl (lv_at hl 2 rfl) ?_
  refine va_get (D := D) (ci := 4) (v := .ref b0) (C := RX5) (T := TX5) (N := 7) hx hb hG wu_X5 hown hK hP 0 rfl rfl 1 (by decide) (hG _ wf_X5_7) (fun _ h9 => h9) rfl dX5_goes_25 ?_
  refine lv_iload_n hx hb dX5_goes_28 rfl (lv_at hl 3 rfl) ?_
  refine lv_iload_n hx hb dX5_goes_29 rfl (lv_at hl 4 rfl) ?_
  refine ln_iadd hx hb dX5_goes_30 ?_
  refine va_iald hx hb hK hP 1 0 rfl rfl (vp_in_nI (by omega) (by decide)) dX5_goes_31 ?_
  refine W.top (y := .int (F (b + f))) (congrArg (fun z => Value.int (F z)) (nI_clamp (by omega))) ?_
  refine W.top (y := .int (nI (bd f))) (congrArg Value.int hfv) ?_
  refine roI (rnS (As := [.int (nI (bd f))]) (rest := []) S0 (c_X5_sideOf l (bd f) (by omega)) wm_X5_51 wt_X5_sideOf wn_X5 wc_X5_sideOf hd_X5_sideOf ⟨rfl, rfl, by decide, by decide⟩ True.blind (fun _ _ _ => trivial) hl.1 (Nat.le_of_ble_eq_true rfl) dX5_goes_32 rfl ⟨by decide, by decide⟩) (fun r_2 hr_2 => ?_)
  subst hr_2
  refine lv_iload hx hb dX5_goes_35 (lv_at hl 1 rfl) ?_
  refine lv_icmp_ne (tgt := 72) hx hb dX5_goes_37 (by decide) (fun c37 => ?_) (fun c37 => ?_)
  · skip
    rw [sdI_eq hs2] at c37
    refine lv_iconst (v := (nI 0)) hx hb dX5_goes_72 (by decide) ?_
    exact reZ (v := false) hx hb hr hlocks dX5_goes_73 (congrArg bI (gos_0 (by first | exact Or.inl c37 | exact Or.inr (Or.inl c53) | exact Or.inr (Or.inr c69))).symm)
  · skip
    rw [sdI_eq hs2] at c37
    refine lv_aload_n hx hb dX5_goes_40 rfl (lv_at hl 2 rfl) ?_
    refine va_get (D := D) (ci := 4) (v := .ref b0) (C := RX5) (T := TX5) (N := 7) hx hb hG wu_X5 hown hK hP 0 rfl rfl 1 (by decide) (hG _ wf_X5_7) (fun _ h9 => h9) rfl dX5_goes_41 ?_
    refine lv_iload_n hx hb dX5_goes_44 rfl (lv_at hl 3 rfl) ?_
    refine lv_iload_n hx hb dX5_goes_45 rfl (lv_at hl 5 rfl) ?_
    refine ln_iadd hx hb dX5_goes_46 ?_
    refine va_iald hx hb hK hP 1 0 rfl rfl (vp_in_nI (by omega) (by decide)) dX5_goes_47 ?_
    refine W.top (y := .int (F (b + t))) (congrArg (fun z => Value.int (F z)) (nI_clamp (by omega))) ?_
    refine W.top (y := .int (nI (bd t))) (congrArg Value.int htv) ?_
    refine roI (rnS (As := [.int (nI (bd t))]) (rest := []) S0 (c_X5_sideOf l (bd t) (by omega)) wm_X5_51 wt_X5_sideOf wn_X5 wc_X5_sideOf hd_X5_sideOf ⟨rfl, rfl, by decide, by decide⟩ True.blind (fun _ _ _ => trivial) hl.1 (Nat.le_of_ble_eq_true rfl) dX5_goes_48 rfl ⟨by decide, by decide⟩) (fun r_3 hr_3 => ?_)
    subst hr_3
    refine lv_iload hx hb dX5_goes_51 (lv_at hl 1 rfl) ?_
    refine lv_icmp_eq (tgt := 72) hx hb dX5_goes_53 (by decide) (fun c53 => ?_) (fun c53 => ?_)
    · skip
      rw [sdI_eq hs2] at c53
      refine lv_iconst (v := (nI 0)) hx hb dX5_goes_72 (by decide) ?_
      exact reZ (v := false) hx hb hr hlocks dX5_goes_73 (congrArg bI (gos_0 (by first | exact Or.inl c37 | exact Or.inr (Or.inl c53) | exact Or.inr (Or.inr c69))).symm)
    · skip
      rw [sdI_eq hs2] at c53
      refine lv_aload_n hx hb dX5_goes_56 rfl (lv_at hl 2 rfl) ?_
      refine va_get (D := D) (ci := 4) (v := .ref b0) (C := RX5) (T := TX5) (N := 7) hx hb hG wu_X5 hown hK hP 0 rfl rfl 1 (by decide) (hG _ wf_X5_7) (fun _ h9 => h9) rfl dX5_goes_57 ?_
      refine lv_iload_n hx hb dX5_goes_60 rfl (lv_at hl 3 rfl) ?_
      refine lv_iload_n hx hb dX5_goes_61 rfl (lv_at hl 5 rfl) ?_
      refine ln_iadd hx hb dX5_goes_62 ?_
      refine va_iald hx hb hK hP 1 0 rfl rfl (vp_in_nI (by omega) (by decide)) dX5_goes_63 ?_
      refine W.top (y := .int (F (b + t))) (congrArg (fun z => Value.int (F z)) (nI_clamp (by omega))) ?_
      refine W.top (y := .int (nI (bd t))) (congrArg Value.int htv) ?_
      refine roI (rnS (As := [.int (nI (bd t))]) (rest := []) S0 (c_X5_kindOf l (bd t) (by omega)) wm_X5_40 wt_X5_kindOf wn_X5 wc_X5_kindOf hd_X5_kindOf ⟨rfl, rfl, by decide, by decide⟩ True.blind (fun _ _ _ => trivial) hl.1 (Nat.le_of_ble_eq_true rfl) dX5_goes_64 rfl ⟨by decide, by decide⟩) (fun r_4 hr_4 => ?_)
      subst hr_4
      refine lv_bipush (v := (nI 6)) hx hb dX5_goes_67 (by decide) ?_
      refine ln_icmp_ne (tgt := 74) hx hb dX5_goes_69 (by decide) (by omega) (by decide) (fun c69 => ?_) (fun c69 => ?_)
      · skip
        refine lv_iload hx hb dX5_goes_74 (lv_at hl 0 rfl) ?_
        refine lv_iconst (v := (nI 1)) hx hb dX5_goes_76 (by decide) ?_
        refine ln_icmp_ne (tgt := 90) hx hb dX5_goes_77 (by decide) (by omega) (by decide) (fun c77 => ?_) (fun c77 => ?_)
        · skip
          refine lv_aload_n hx hb dX5_goes_90 rfl (lv_at hl 2 rfl) ?_
          refine lv_iload_n hx hb dX5_goes_91 rfl (lv_at hl 3 rfl) ?_
          refine lv_iload_n hx hb dX5_goes_92 rfl (lv_at hl 4 rfl) ?_
          refine lv_iload_n hx hb dX5_goes_93 rfl (lv_at hl 5 rfl) ?_
          refine roI (rnV (As := [.int (nI b), .int (nI f), .int (nI t)]) (rest := []) S0 (c_X5_attacks l bd b f t hb9 hf ht hBp) wm_X5_54 wi_X5_attacks ws_X5_attacks wn_X5 wc_X5_attacks hd_X5_attacks ⟨rfl, rfl, by decide, by decide⟩ IW.blind (va_recv hK hP (ci := 4) (q0 := 0) rfl rfl) (IW.at hP hD hK hA hE hS) hl.1 (Nat.le_of_ble_eq_true rfl) dX5_goes_94 rfl ⟨by decide, by decide⟩) (fun r_5 hr_5 => ?_)
          subst hr_5
          refine lb_if_ne (tgt := 117) hx hb dX5_goes_97 (by decide) (fun c97 => ?_) (fun c97 => ?_)
          · skip
            refine lv_iconst (v := (nI 1)) hx hb dX5_goes_117 (by decide) ?_
            refine lv_goto (tgt := 122) hx hb dX5_goes_118 (by decide) ?_
            exact reZ (v := true) hx hb hr hlocks dX5_goes_122 (congrArg bI (by first | rw [gos_1 c37 c53 c69 c77] | (rw [gos_2 c37 c53 c69 c77, c97]; rfl) | (rw [gos_2 c37 c53 c69 c77, c97, decide_eq_true c104, c114]; rfl) | (rw [gos_2 c37 c53 c69 c77, c97, decide_eq_false c104]; rfl)))
          · skip
            refine lv_iload hx hb dX5_goes_100 (lv_at hl 0 rfl) ?_
            refine lv_bipush (v := (nI 6)) hx hb dX5_goes_102 (by decide) ?_
            refine ln_icmp_ne (tgt := 121) hx hb dX5_goes_104 (by decide) (by omega) (by decide) (fun c104 => ?_) (fun c104 => ?_)
            · skip
              refine lv_iconst (v := (nI 0)) hx hb dX5_goes_121 (by decide) ?_
              exact reZ (v := false) hx hb hr hlocks dX5_goes_122 (congrArg bI (by first | rw [gos_1 c37 c53 c69 c77] | (rw [gos_2 c37 c53 c69 c77, c97]; rfl) | (rw [gos_2 c37 c53 c69 c77, c97, decide_eq_true c104, c114]; rfl) | (rw [gos_2 c37 c53 c69 c77, c97, decide_eq_false c104]; rfl)))
            · skip
              refine lv_aload_n hx hb dX5_goes_107 rfl (lv_at hl 2 rfl) ?_
              refine lv_iload_n hx hb dX5_goes_108 rfl (lv_at hl 3 rfl) ?_
              refine lv_iload_n hx hb dX5_goes_109 rfl (lv_at hl 4 rfl) ?_
              refine lv_iload_n hx hb dX5_goes_110 rfl (lv_at hl 5 rfl) ?_
              refine roI (rnV (As := [.int (nI b), .int (nI f), .int (nI t)]) (rest := []) S0 (c_X5_castles l bd sd rt ps b f t hb9 hf ht hBd) wm_X5_77 wi_X5_castles ws_X5_castles wn_X5 wc_X5_castles hd_X5_castles ⟨rfl, rfl, by decide, by decide⟩ IW.blind (va_recv hK hP (ci := 4) (q0 := 0) rfl rfl) (IW.at hP hD hK hA hE hS) hl.1 (Nat.le_of_ble_eq_true rfl) dX5_goes_111 rfl ⟨by decide, by decide⟩) (fun r_6 hr_6 => ?_)
              subst hr_6
              refine lb_if_eq (tgt := 121) hx hb dX5_goes_114 (by decide) (fun c114 => ?_) (fun c114 => ?_)
              · skip
                refine lv_iconst (v := (nI 0)) hx hb dX5_goes_121 (by decide) ?_
                exact reZ (v := false) hx hb hr hlocks dX5_goes_122 (congrArg bI (by first | rw [gos_1 c37 c53 c69 c77] | (rw [gos_2 c37 c53 c69 c77, c97]; rfl) | (rw [gos_2 c37 c53 c69 c77, c97, decide_eq_true c104, c114]; rfl) | (rw [gos_2 c37 c53 c69 c77, c97, decide_eq_false c104]; rfl)))
              · skip
                refine lv_iconst (v := (nI 1)) hx hb dX5_goes_117 (by decide) ?_
                refine lv_goto (tgt := 122) hx hb dX5_goes_118 (by decide) ?_
                exact reZ (v := true) hx hb hr hlocks dX5_goes_122 (congrArg bI (by first | rw [gos_1 c37 c53 c69 c77] | (rw [gos_2 c37 c53 c69 c77, c97]; rfl) | (rw [gos_2 c37 c53 c69 c77, c97, decide_eq_true c104, c114]; rfl) | (rw [gos_2 c37 c53 c69 c77, c97, decide_eq_false c104]; rfl)))
        · skip
          refine lv_aload_n hx hb dX5_goes_80 rfl (lv_at hl 2 rfl) ?_
          refine lv_iload_n hx hb dX5_goes_81 rfl (lv_at hl 3 rfl) ?_
          refine lv_iload_n hx hb dX5_goes_82 rfl (lv_at hl 4 rfl) ?_
          refine lv_iload_n hx hb dX5_goes_83 rfl (lv_at hl 5 rfl) ?_
          refine roI (rnV (As := [.int (nI b), .int (nI f), .int (nI t)]) (rest := []) S0 (c_X5_pawnGoes l bd sd rt ps b f t hb9 hf ht hBd) wm_X5_74 wi_X5_pawnGoes ws_X5_pawnGoes wn_X5 wc_X5_pawnGoes hd_X5_pawnGoes ⟨rfl, rfl, by decide, by decide⟩ IW.blind (va_recv hK hP (ci := 4) (q0 := 0) rfl rfl) (IW.at hP hD hK hA hE hS) hl.1 (Nat.le_of_ble_eq_true rfl) dX5_goes_84 rfl ⟨by decide, by decide⟩) (fun r_7 hr_7 => ?_)
          subst hr_7
          refine lv_goto (tgt := 122) hx hb dX5_goes_87 (by decide) ?_
          exact reZ (v := pgo bd sd ps f t) hx hb hr hlocks dX5_goes_122 (congrArg bI (by first | rw [gos_1 c37 c53 c69 c77] | (rw [gos_2 c37 c53 c69 c77, c97]; rfl) | (rw [gos_2 c37 c53 c69 c77, c97, decide_eq_true c104, c114]; rfl) | (rw [gos_2 c37 c53 c69 c77, c97, decide_eq_false c104]; rfl)))
      · skip
        refine lv_iconst (v := (nI 0)) hx hb dX5_goes_72 (by decide) ?_
        exact reZ (v := false) hx hb hr hlocks dX5_goes_73 (congrArg bI (gos_0 (by first | exact Or.inl c37 | exact Or.inr (Or.inl c53) | exact Or.inr (Or.inr c69))).symm)

theorem dX3_judgeLine_0 : decode cX3_judgeLine 0 = .ok (.lload_n 1, 1) := by decide +kernel
theorem dX3_judgeLine_1 : decode cX3_judgeLine 1 = .ok (.aload_n 0, 1) := by decide +kernel
theorem dX3_judgeLine_2 : decode cX3_judgeLine 2 = .ok (.getfield 18, 3) := by decide +kernel
theorem dX3_judgeLine_5 : decode cX3_judgeLine 5 = .ok (.land, 1) := by decide +kernel
theorem dX3_judgeLine_6 : decode cX3_judgeLine 6 = .ok (.lstore_n 3, 1) := by decide +kernel
theorem dX3_judgeLine_7 : decode cX3_judgeLine 7 = .ok (.lload_n 3, 1) := by decide +kernel
theorem dX3_judgeLine_8 : decode cX3_judgeLine 8 = .ok (.invokestatic 40, 3) := by decide +kernel
theorem dX3_judgeLine_11 : decode cX3_judgeLine 11 = .ok (.istore 5, 2) := by decide +kernel
theorem dX3_judgeLine_13 : decode cX3_judgeLine 13 = .ok (.iload 5, 2) := by decide +kernel
theorem dX3_judgeLine_15 : decode cX3_judgeLine 15 = .ok (.ifCond .ne 16, 3) := by decide +kernel
theorem dX3_judgeLine_18 : decode cX3_judgeLine 18 = .ok (.aload_n 0, 1) := by decide +kernel
theorem dX3_judgeLine_19 : decode cX3_judgeLine 19 = .ok (.dup, 1) := by decide +kernel
theorem dX3_judgeLine_20 : decode cX3_judgeLine 20 = .ok (.getfield 31, 3) := by decide +kernel
theorem dX3_judgeLine_23 : decode cX3_judgeLine 23 = .ok (.lload_n 1, 1) := by decide +kernel
theorem dX3_judgeLine_24 : decode cX3_judgeLine 24 = .ok (.land, 1) := by decide +kernel
theorem dX3_judgeLine_25 : decode cX3_judgeLine 25 = .ok (.putfield 31, 3) := by decide +kernel
theorem dX3_judgeLine_28 : decode cX3_judgeLine 28 = .ok (.goto 19, 3) := by decide +kernel
theorem dX3_judgeLine_31 : decode cX3_judgeLine 31 = .ok (.iload 5, 2) := by decide +kernel
theorem dX3_judgeLine_33 : decode cX3_judgeLine 33 = .ok (.iconst 1, 1) := by decide +kernel
theorem dX3_judgeLine_34 : decode cX3_judgeLine 34 = .ok (.if_icmp .ne 13, 3) := by decide +kernel
theorem dX3_judgeLine_37 : decode cX3_judgeLine 37 = .ok (.aload_n 0, 1) := by decide +kernel
theorem dX3_judgeLine_38 : decode cX3_judgeLine 38 = .ok (.dup, 1) := by decide +kernel
theorem dX3_judgeLine_39 : decode cX3_judgeLine 39 = .ok (.getfield 34, 3) := by decide +kernel
theorem dX3_judgeLine_42 : decode cX3_judgeLine 42 = .ok (.lload_n 3, 1) := by decide +kernel
theorem dX3_judgeLine_43 : decode cX3_judgeLine 43 = .ok (.lor, 1) := by decide +kernel
theorem dX3_judgeLine_44 : decode cX3_judgeLine 44 = .ok (.putfield 34, 3) := by decide +kernel
theorem dX3_judgeLine_47 : decode cX3_judgeLine 47 = .ok (.return_, 1) := by decide +kernel
theorem hd_X3_judgeLine : yX3_judgeLine.cls ≠ "java/lang/invoke/MethodHandle" ∧ yX3_judgeLine.cls ≠ "java/lang/invoke/VarHandle" ∧ (parseMethodDescriptor yX3_judgeLine.desc).map (fun d => d.parameters.length) = some 1 := by decide +kernel
set_option maxHeartbeats 4000000 in
set_option maxRecDepth 100000 in
/-- judgeLine -/
theorem c_X3_judgeLine (l : Launch) {D : va_G} {cI cJ : ClassId} {A : Nat → Prop} {h0 h1 h2 a0 a1 a2 a3 h3 a4 h4 a5 : Nat} {kn op : Int32} {ow tr fu kg co pn : Int64} {si ri pa ma : Int32} {pcs : Nat → Int32} {sqa : Nat → Int64} {mvs los : Nat → Int32} {lsz : Int32} {lfs : Nat → Int32} {asz : Int32} {afs : Nat → Int32} (x : Int64) : Met l yX3_judgeLine (Cond.code yX3_judgeLine cX3_judgeLine 6 none :: wsL_law) (rK 1) (va_Pc [.ref h1, .long x] (IW D cI cJ A (cW cI cJ h0 h1 h2 a0 a1 a2 a3 h3 a4 h4 a5 kn op ow tr fu kg co pn si ri pa ma pcs sqa mvs los lsz lfs asz afs))) (va_Qv (fun u => u.1 = jlC ow co x ∧ u.2 = jlP ow pn x) (fun (u : Int64 × Int64) t9 => IW D cI cJ A (cW cI cJ h0 h1 h2 a0 a1 a2 a3 h3 a4 h4 a5 kn op ow tr fu kg u.1 u.2 si ri pa ma pcs sqa mvs los lsz lfs asz afs) t9) A) 0 0 A := by
  refine entM (by decide) (Nat.le_of_ble_eq_true rfl) ?_
  intro p e s m below meth c ls S0 hr hlocks hG hnm hB hl
  have hx := S0.1
  have hb := S0.2.1
  have hown := S0.2.2.2.1
  have hl : lv_has ls 6 [(0, .ref h1), (1, .long x)] := hl
  obtain ⟨hP, hD, hK, hA, hE⟩ := hB
  have hS : va_S A s.heap s.heap [] := va_S.rf
  have hpl := pop_le (x &&& ow)
  refine lv_lload_n hx hb dX3_judgeLine_0 rfl (lv_at hl 1 rfl) ?_
  refine lv_aload_n hx hb dX3_judgeLine_1 rfl (lv_at hl 0 rfl) ?_
  refine va_get (D := D) (ci := 2) (v := .long ow) (C := RX3) (T := TX3) (N := 7) hx hb hG wu_X3 hown hK hP 1 rfl rfl 1 (by decide) (hG _ wf_X3_18) (fun _ h9 => h9) rfl dX3_judgeLine_2 ?_
  refine lv_land hx hb dX3_judgeLine_5 ?_
  refine lv_lstore_n (lv' := [(3, .long (x &&& ow)), (0, .ref h1), (1, .long x)]) hx hb dX3_judgeLine_6 rfl hl (by decide) rfl (fun ls hl => ?_)
  refine lv_lload_n hx hb dX3_judgeLine_7 rfl (lv_at hl 0 rfl) ?_
  refine roI (rnS (As := [.long (x &&& ow)]) (rest := []) S0 (c_J13_bitCount_95d88 l (x &&& ow)) wm_X3_40 wt_J13_bitCount_95d88 wn_J13 wc_J13_bitCount_95d88 hd_J13_bitCount_95d88 ⟨rfl, rfl, by decide, by decide⟩ True.blind (fun _ _ _ => trivial) hl.1 (Nat.le_of_ble_eq_true rfl) dX3_judgeLine_8 rfl ⟨by decide, by decide⟩) (fun r_1 hr_1 => ?_)
  subst hr_1
  refine W.top (y := .int (nI (pop (x &&& ow)))) (congrArg Value.int (bcE_pop _)) ?_
  refine lv_istore (lv' := [(5, .int (nI (pop (x &&& ow)))), (3, .long (x &&& ow)), (0, .ref h1), (1, .long x)]) hx hb dX3_judgeLine_11 hl (by decide) rfl (fun ls hl => ?_)
  refine lv_iload hx hb dX3_judgeLine_13 (lv_at hl 0 rfl) ?_
  refine ln_if_ne (tgt := 31) hx hb dX3_judgeLine_15 (by decide) (by omega) (fun c15 => ?_) (fun c15 => ?_)
  · skip
    refine lv_iload hx hb dX3_judgeLine_31 (lv_at hl 0 rfl) ?_
    refine lv_iconst (v := (nI 1)) hx hb dX3_judgeLine_33 (by decide) ?_
    refine ln_icmp_ne (tgt := 47) hx hb dX3_judgeLine_34 (by decide) (by omega) (by decide) (fun c34 => ?_) (fun c34 => ?_)
    · skip
      exact weV ((co, pn)) hx hb hr hlocks dX3_judgeLine_47 ⟨by unfold jlC; first | rw [if_pos c15] | rw [if_neg c15], by unfold jlP; first | rw [if_pos c34] | (rw [if_neg (by omega)])⟩ hP hD hK hA hE hS
    · skip
      refine lv_aload_n hx hb dX3_judgeLine_37 rfl (lv_at hl 2 rfl) ?_
      refine lv_dup hx hb dX3_judgeLine_38 rfl ?_
      refine va_get (D := D) (ci := 2) (v := .long pn) (C := RX3) (T := TX3) (N := 7) hx hb hG wu_X3 hown hK hP 1 rfl rfl 6 (by decide) (hG _ wf_X3_34) (fun _ h9 => h9) rfl dX3_judgeLine_39 ?_
      refine lv_lload_n hx hb dX3_judgeLine_42 rfl (lv_at hl 1 rfl) ?_
      refine lv_lor hx hb dX3_judgeLine_43 ?_
      refine va_put (D := D) (ci := 2) (v := .long (pn ||| (x &&& ow))) (ty := .long) (C := RX3) (T := TX3) (N := 7) hx hb hG wu_X3 tyX3 tyX3_ok nmX3 hown hK hP hD hS 1 rfl rfl 6 (by decide) (hG _ wf_X3_34) (fun _ h9 => h9) rfl (by decide +kernel) rfl rfl (Nat.le_of_ble_eq_true rfl) dX3_judgeLine_44 (fun H locs hP hD hS => ?_)
      have hP : va_P D classes (cW cI cJ h0 h1 h2 a0 a1 a2 a3 h3 a4 h4 a5 kn op ow tr fu kg co (pn ||| (x &&& ow)) si ri pa ma pcs sqa mvs los lsz lfs asz afs) H := hP
      have hD : va_D A (cW cI cJ h0 h1 h2 a0 a1 a2 a3 h3 a4 h4 a5 kn op ow tr fu kg co (pn ||| (x &&& ow)) si ri pa ma pcs sqa mvs los lsz lfs asz afs) := hD
      exact weV ((co, pn ||| (x &&& ow))) hx hb hr hlocks dX3_judgeLine_47 ⟨by unfold jlC; first | rw [if_pos c15] | rw [if_neg c15], by unfold jlP; first | rw [if_pos c34] | (rw [if_neg (by omega)])⟩ hP hD hK hA hE hS
  · skip
    refine lv_aload_n hx hb dX3_judgeLine_18 rfl (lv_at hl 2 rfl) ?_
    refine lv_dup hx hb dX3_judgeLine_19 rfl ?_
    refine va_get (D := D) (ci := 2) (v := .long co) (C := RX3) (T := TX3) (N := 7) hx hb hG wu_X3 hown hK hP 1 rfl rfl 5 (by decide) (hG _ wf_X3_31) (fun _ h9 => h9) rfl dX3_judgeLine_20 ?_
    refine lv_lload_n hx hb dX3_judgeLine_23 rfl (lv_at hl 3 rfl) ?_
    refine lv_land hx hb dX3_judgeLine_24 ?_
    refine va_put (D := D) (ci := 2) (v := .long (co &&& x)) (ty := .long) (C := RX3) (T := TX3) (N := 7) hx hb hG wu_X3 tyX3 tyX3_ok nmX3 hown hK hP hD hS 1 rfl rfl 5 (by decide) (hG _ wf_X3_31) (fun _ h9 => h9) rfl (by decide +kernel) rfl rfl (Nat.le_of_ble_eq_true rfl) dX3_judgeLine_25 (fun H locs hP hD hS => ?_)
    have hP : va_P D classes (cW cI cJ h0 h1 h2 a0 a1 a2 a3 h3 a4 h4 a5 kn op ow tr fu kg (co &&& x) pn si ri pa ma pcs sqa mvs los lsz lfs asz afs) H := hP
    have hD : va_D A (cW cI cJ h0 h1 h2 a0 a1 a2 a3 h3 a4 h4 a5 kn op ow tr fu kg (co &&& x) pn si ri pa ma pcs sqa mvs los lsz lfs asz afs) := hD
    refine lv_goto (tgt := 47) hx hb dX3_judgeLine_28 (by decide) ?_
    exact weV ((co &&& x, pn)) hx hb hr hlocks dX3_judgeLine_47 ⟨by unfold jlC; first | rw [if_pos c15] | rw [if_neg c15], by unfold jlP; first | rw [if_pos c34] | (rw [if_neg (by omega)])⟩ hP hD hK hA hE hS
theorem dX3_survey_0 : decode cX3_survey 0 = .ok (.aload_n 0, 1) := by decide +kernel
theorem dX3_survey_1 : decode cX3_survey 1 = .ok (.getfield 12, 3) := by decide +kernel
theorem dX3_survey_4 : decode cX3_survey 4 = .ok (.getfield 80, 3) := by decide +kernel
theorem dX3_survey_7 : decode cX3_survey 7 = .ok (.istore_n 1, 1) := by decide +kernel
theorem dX3_survey_8 : decode cX3_survey 8 = .ok (.bipush 6, 2) := by decide +kernel
theorem dX3_survey_10 : decode cX3_survey 10 = .ok (.iconst 1, 1) := by decide +kernel
theorem dX3_survey_11 : decode cX3_survey 11 = .ok (.iload_n 1, 1) := by decide +kernel
theorem dX3_survey_12 : decode cX3_survey 12 = .ok (.isub, 1) := by decide +kernel
theorem dX3_survey_13 : decode cX3_survey 13 = .ok (.imul, 1) := by decide +kernel
theorem dX3_survey_14 : decode cX3_survey 14 = .ok (.istore_n 2, 1) := by decide +kernel
theorem dX3_survey_15 : decode cX3_survey 15 = .ok (.aload_n 0, 1) := by decide +kernel
theorem dX3_survey_16 : decode cX3_survey 16 = .ok (.aload_n 0, 1) := by decide +kernel
theorem dX3_survey_17 : decode cX3_survey 17 = .ok (.getfield 12, 3) := by decide +kernel
theorem dX3_survey_20 : decode cX3_survey 20 = .ok (.iload_n 1, 1) := by decide +kernel
theorem dX3_survey_21 : decode cX3_survey 21 = .ok (.invokevirtual 83, 3) := by decide +kernel
theorem dX3_survey_24 : decode cX3_survey 24 = .ok (.putfield 18, 3) := by decide +kernel
theorem dX3_survey_27 : decode cX3_survey 27 = .ok (.aload_n 0, 1) := by decide +kernel
theorem dX3_survey_28 : decode cX3_survey 28 = .ok (.aload_n 0, 1) := by decide +kernel
theorem dX3_survey_29 : decode cX3_survey 29 = .ok (.getfield 12, 3) := by decide +kernel
theorem dX3_survey_32 : decode cX3_survey 32 = .ok (.iconst 1, 1) := by decide +kernel
theorem dX3_survey_33 : decode cX3_survey 33 = .ok (.iload_n 1, 1) := by decide +kernel
theorem dX3_survey_34 : decode cX3_survey 34 = .ok (.isub, 1) := by decide +kernel
theorem dX3_survey_35 : decode cX3_survey 35 = .ok (.invokevirtual 83, 3) := by decide +kernel
theorem dX3_survey_38 : decode cX3_survey 38 = .ok (.putfield 22, 3) := by decide +kernel
theorem dX3_survey_41 : decode cX3_survey 41 = .ok (.aload_n 0, 1) := by decide +kernel
theorem dX3_survey_42 : decode cX3_survey 42 = .ok (.aload_n 0, 1) := by decide +kernel
theorem dX3_survey_43 : decode cX3_survey 43 = .ok (.getfield 18, 3) := by decide +kernel
theorem dX3_survey_46 : decode cX3_survey 46 = .ok (.aload_n 0, 1) := by decide +kernel
theorem dX3_survey_47 : decode cX3_survey 47 = .ok (.getfield 22, 3) := by decide +kernel
theorem dX3_survey_50 : decode cX3_survey 50 = .ok (.lor, 1) := by decide +kernel
theorem dX3_survey_51 : decode cX3_survey 51 = .ok (.putfield 25, 3) := by decide +kernel
theorem dX3_survey_54 : decode cX3_survey 54 = .ok (.aload_n 0, 1) := by decide +kernel
theorem dX3_survey_55 : decode cX3_survey 55 = .ok (.aload_n 0, 1) := by decide +kernel
theorem dX3_survey_56 : decode cX3_survey 56 = .ok (.getfield 12, 3) := by decide +kernel
theorem dX3_survey_59 : decode cX3_survey 59 = .ok (.bipush 6, 2) := by decide +kernel
theorem dX3_survey_61 : decode cX3_survey 61 = .ok (.iload_n 1, 1) := by decide +kernel
theorem dX3_survey_62 : decode cX3_survey 62 = .ok (.imul, 1) := by decide +kernel
theorem dX3_survey_63 : decode cX3_survey 63 = .ok (.bipush 6, 2) := by decide +kernel
theorem dX3_survey_65 : decode cX3_survey 65 = .ok (.iadd, 1) := by decide +kernel
theorem dX3_survey_66 : decode cX3_survey 66 = .ok (.invokevirtual 86, 3) := by decide +kernel
theorem dX3_survey_69 : decode cX3_survey 69 = .ok (.putfield 28, 3) := by decide +kernel
theorem dX3_survey_72 : decode cX3_survey 72 = .ok (.aload_n 0, 1) := by decide +kernel
theorem dX3_survey_73 : decode cX3_survey 73 = .ok (.ldc2_w 89, 3) := by decide +kernel
theorem dX3_survey_76 : decode cX3_survey 76 = .ok (.putfield 31, 3) := by decide +kernel
theorem dX3_survey_79 : decode cX3_survey 79 = .ok (.aload_n 0, 1) := by decide +kernel
theorem dX3_survey_80 : decode cX3_survey 80 = .ok (.lconst 0, 1) := by decide +kernel
theorem dX3_survey_81 : decode cX3_survey 81 = .ok (.putfield 34, 3) := by decide +kernel
theorem dX3_survey_84 : decode cX3_survey 84 = .ok (.aload_n 0, 1) := by decide +kernel
theorem dX3_survey_85 : decode cX3_survey 85 = .ok (.getfield 12, 3) := by decide +kernel
theorem dX3_survey_88 : decode cX3_survey 88 = .ok (.iload_n 2, 1) := by decide +kernel
theorem dX3_survey_89 : decode cX3_survey 89 = .ok (.iconst 5, 1) := by decide +kernel
theorem dX3_survey_90 : decode cX3_survey 90 = .ok (.iadd, 1) := by decide +kernel
theorem dX3_survey_91 : decode cX3_survey 91 = .ok (.invokevirtual 86, 3) := by decide +kernel
theorem dX3_survey_94 : decode cX3_survey 94 = .ok (.lstore_n 3, 1) := by decide +kernel
theorem dX3_survey_95 : decode cX3_survey 95 = .ok (.lload_n 3, 1) := by decide +kernel
theorem dX3_survey_96 : decode cX3_survey 96 = .ok (.aload_n 0, 1) := by decide +kernel
theorem dX3_survey_97 : decode cX3_survey 97 = .ok (.getfield 12, 3) := by decide +kernel
theorem dX3_survey_100 : decode cX3_survey 100 = .ok (.iload_n 2, 1) := by decide +kernel
theorem dX3_survey_101 : decode cX3_survey 101 = .ok (.iconst 4, 1) := by decide +kernel
theorem dX3_survey_102 : decode cX3_survey 102 = .ok (.iadd, 1) := by decide +kernel
theorem dX3_survey_103 : decode cX3_survey 103 = .ok (.invokevirtual 86, 3) := by decide +kernel
theorem dX3_survey_106 : decode cX3_survey 106 = .ok (.lor, 1) := by decide +kernel
theorem dX3_survey_107 : decode cX3_survey 107 = .ok (.lstore 5, 2) := by decide +kernel
theorem dX3_survey_109 : decode cX3_survey 109 = .ok (.lload_n 3, 1) := by decide +kernel
theorem dX3_survey_110 : decode cX3_survey 110 = .ok (.aload_n 0, 1) := by decide +kernel
theorem dX3_survey_111 : decode cX3_survey 111 = .ok (.getfield 12, 3) := by decide +kernel
theorem dX3_survey_114 : decode cX3_survey 114 = .ok (.iload_n 2, 1) := by decide +kernel
theorem dX3_survey_115 : decode cX3_survey 115 = .ok (.iconst 3, 1) := by decide +kernel
theorem dX3_survey_116 : decode cX3_survey 116 = .ok (.iadd, 1) := by decide +kernel
theorem dX3_survey_117 : decode cX3_survey 117 = .ok (.invokevirtual 86, 3) := by decide +kernel
theorem dX3_survey_120 : decode cX3_survey 120 = .ok (.lor, 1) := by decide +kernel
theorem dX3_survey_121 : decode cX3_survey 121 = .ok (.lstore 7, 2) := by decide +kernel
theorem dX3_survey_123 : decode cX3_survey 123 = .ok (.iconst 0, 1) := by decide +kernel
theorem dX3_survey_124 : decode cX3_survey 124 = .ok (.istore 9, 2) := by decide +kernel
theorem dX3_survey_126 : decode cX3_survey 126 = .ok (.iload 9, 2) := by decide +kernel
theorem dX3_survey_128 : decode cX3_survey 128 = .ok (.bipush 8, 2) := by decide +kernel
theorem dX3_survey_130 : decode cX3_survey 130 = .ok (.if_icmp .ge 51, 3) := by decide +kernel
theorem dX3_survey_133 : decode cX3_survey 133 = .ok (.aload_n 0, 1) := by decide +kernel
theorem dX3_survey_134 : decode cX3_survey 134 = .ok (.getfield 28, 3) := by decide +kernel
theorem dX3_survey_137 : decode cX3_survey 137 = .ok (.aload_n 0, 1) := by decide +kernel
theorem dX3_survey_138 : decode cX3_survey 138 = .ok (.getfield 22, 3) := by decide +kernel
theorem dX3_survey_141 : decode cX3_survey 141 = .ok (.iload 9, 2) := by decide +kernel
theorem dX3_survey_143 : decode cX3_survey 143 = .ok (.invokestatic 93, 3) := by decide +kernel
theorem dX3_survey_146 : decode cX3_survey 146 = .ok (.lstore 10, 2) := by decide +kernel
theorem dX3_survey_148 : decode cX3_survey 148 = .ok (.lload 10, 2) := by decide +kernel
theorem dX3_survey_150 : decode cX3_survey 150 = .ok (.iload 9, 2) := by decide +kernel
theorem dX3_survey_152 : decode cX3_survey 152 = .ok (.iconst 4, 1) := by decide +kernel
theorem dX3_survey_153 : decode cX3_survey 153 = .ok (.if_icmp .ge 8, 3) := by decide +kernel
theorem dX3_survey_156 : decode cX3_survey 156 = .ok (.lload 5, 2) := by decide +kernel
theorem dX3_survey_158 : decode cX3_survey 158 = .ok (.goto 5, 3) := by decide +kernel
theorem dX3_survey_161 : decode cX3_survey 161 = .ok (.lload 7, 2) := by decide +kernel
theorem dX3_survey_163 : decode cX3_survey 163 = .ok (.land, 1) := by decide +kernel
theorem dX3_survey_164 : decode cX3_survey 164 = .ok (.lconst 0, 1) := by decide +kernel
theorem dX3_survey_165 : decode cX3_survey 165 = .ok (.lcmp, 1) := by decide +kernel
theorem dX3_survey_166 : decode cX3_survey 166 = .ok (.ifCond .eq 9, 3) := by decide +kernel
theorem dX3_survey_169 : decode cX3_survey 169 = .ok (.aload_n 0, 1) := by decide +kernel
theorem dX3_survey_170 : decode cX3_survey 170 = .ok (.lload 10, 2) := by decide +kernel
theorem dX3_survey_172 : decode cX3_survey 172 = .ok (.invokevirtual 97, 3) := by decide +kernel
theorem dX3_survey_175 : decode cX3_survey 175 = .ok (.iinc 9 1, 3) := by decide +kernel
theorem dX3_survey_178 : decode cX3_survey 178 = .ok (.goto (-52), 3) := by decide +kernel
theorem dX3_survey_181 : decode cX3_survey 181 = .ok (.aload_n 0, 1) := by decide +kernel
theorem dX3_survey_182 : decode cX3_survey 182 = .ok (.getfield 28, 3) := by decide +kernel
theorem dX3_survey_185 : decode cX3_survey 185 = .ok (.invokestatic 101, 3) := by decide +kernel
theorem dX3_survey_188 : decode cX3_survey 188 = .ok (.aload_n 0, 1) := by decide +kernel
theorem dX3_survey_189 : decode cX3_survey 189 = .ok (.getfield 12, 3) := by decide +kernel
theorem dX3_survey_192 : decode cX3_survey 192 = .ok (.iload_n 2, 1) := by decide +kernel
theorem dX3_survey_193 : decode cX3_survey 193 = .ok (.iconst 2, 1) := by decide +kernel
theorem dX3_survey_194 : decode cX3_survey 194 = .ok (.iadd, 1) := by decide +kernel
theorem dX3_survey_195 : decode cX3_survey 195 = .ok (.invokevirtual 86, 3) := by decide +kernel
theorem dX3_survey_198 : decode cX3_survey 198 = .ok (.land, 1) := by decide +kernel
theorem dX3_survey_199 : decode cX3_survey 199 = .ok (.aload_n 0, 1) := by decide +kernel
theorem dX3_survey_200 : decode cX3_survey 200 = .ok (.getfield 28, 3) := by decide +kernel
theorem dX3_survey_203 : decode cX3_survey 203 = .ok (.iload_n 1, 1) := by decide +kernel
theorem dX3_survey_204 : decode cX3_survey 204 = .ok (.invokestatic 105, 3) := by decide +kernel
theorem dX3_survey_207 : decode cX3_survey 207 = .ok (.aload_n 0, 1) := by decide +kernel
theorem dX3_survey_208 : decode cX3_survey 208 = .ok (.getfield 12, 3) := by decide +kernel
theorem dX3_survey_211 : decode cX3_survey 211 = .ok (.iload_n 2, 1) := by decide +kernel
theorem dX3_survey_212 : decode cX3_survey 212 = .ok (.iconst 1, 1) := by decide +kernel
theorem dX3_survey_213 : decode cX3_survey 213 = .ok (.iadd, 1) := by decide +kernel
theorem dX3_survey_214 : decode cX3_survey 214 = .ok (.invokevirtual 86, 3) := by decide +kernel
theorem dX3_survey_217 : decode cX3_survey 217 = .ok (.land, 1) := by decide +kernel
theorem dX3_survey_218 : decode cX3_survey 218 = .ok (.lor, 1) := by decide +kernel
theorem dX3_survey_219 : decode cX3_survey 219 = .ok (.lstore 9, 2) := by decide +kernel
theorem dX3_survey_221 : decode cX3_survey 221 = .ok (.lload 9, 2) := by decide +kernel
theorem dX3_survey_223 : decode cX3_survey 223 = .ok (.lconst 0, 1) := by decide +kernel
theorem dX3_survey_224 : decode cX3_survey 224 = .ok (.lcmp, 1) := by decide +kernel
theorem dX3_survey_225 : decode cX3_survey 225 = .ok (.ifCond .eq 27, 3) := by decide +kernel
theorem dX3_survey_228 : decode cX3_survey 228 = .ok (.aload_n 0, 1) := by decide +kernel
theorem dX3_survey_229 : decode cX3_survey 229 = .ok (.dup, 1) := by decide +kernel
theorem dX3_survey_230 : decode cX3_survey 230 = .ok (.getfield 31, 3) := by decide +kernel
theorem dX3_survey_233 : decode cX3_survey 233 = .ok (.lload 9, 2) := by decide +kernel
theorem dX3_survey_235 : decode cX3_survey 235 = .ok (.invokestatic 40, 3) := by decide +kernel
theorem dX3_survey_238 : decode cX3_survey 238 = .ok (.iconst 1, 1) := by decide +kernel
theorem dX3_survey_239 : decode cX3_survey 239 = .ok (.if_icmp .ne 8, 3) := by decide +kernel
theorem dX3_survey_242 : decode cX3_survey 242 = .ok (.lload 9, 2) := by decide +kernel
theorem dX3_survey_244 : decode cX3_survey 244 = .ok (.goto 4, 3) := by decide +kernel
theorem dX3_survey_247 : decode cX3_survey 247 = .ok (.lconst 0, 1) := by decide +kernel
theorem dX3_survey_248 : decode cX3_survey 248 = .ok (.land, 1) := by decide +kernel
theorem dX3_survey_249 : decode cX3_survey 249 = .ok (.putfield 31, 3) := by decide +kernel
theorem dX3_survey_252 : decode cX3_survey 252 = .ok (.return_, 1) := by decide +kernel
theorem hd_X3_survey : yX3_survey.cls ≠ "java/lang/invoke/MethodHandle" ∧ yX3_survey.cls ≠ "java/lang/invoke/VarHandle" ∧ (parseMethodDescriptor yX3_survey.desc).map (fun d => d.parameters.length) = some 0 := by decide +kernel
set_option maxHeartbeats 4000000 in
set_option maxRecDepth 100000 in
/-- survey -/
theorem c_X3_survey (l : Launch) {D : va_G} {cI cJ : ClassId} {A : Nat → Prop} {h0 h1 h2 a0 a1 a2 a3 h3 a4 h4 a5 : Nat} {kn op : Int32} {ow tr fu kg co pn : Int64} {ri pa ma : Int32} {pcs : Nat → Int32} {sqa : Nat → Int64} {mvs los : Nat → Int32} {lsz : Int32} {lfs : Nat → Int32} {asz : Int32} {afs : Nat → Int32} (bd : Nat → Nat) (hCP : CP pcs sqa bd) (sd : Nat) (hs2 : sd < 2) : Met l yX3_survey (Cond.code yX3_survey cX3_survey 12 none :: wsL_law) (rK 2) (va_Pc [.ref h1] (IW D cI cJ A (cW cI cJ h0 h1 h2 a0 a1 a2 a3 h3 a4 h4 a5 kn op ow tr fu kg co pn (nI sd) ri pa ma pcs sqa mvs los lsz lfs asz afs))) (va_Qv (fun u => u.1 = covS bd sd ∧ u.2 = pinS bd sd) (fun (u : Int64 × Int64) t9 => IW D cI cJ A (cW cI cJ h0 h1 h2 a0 a1 a2 a3 h3 a4 h4 a5 kn op (ownS bd sd) (thrS bd sd) (fulS bd sd) (kngS bd sd) u.1 u.2 (nI sd) ri pa ma pcs sqa mvs los lsz lfs asz afs) t9) A) 0 0 A := by
  refine entM (by decide) (Nat.le_of_ble_eq_true rfl) ?_
  intro p e s m below meth c ls S0 hr hlocks hG hnm hB hl
  have hx := S0.1
  have hb := S0.2.1
  have hown := S0.2.2.2.1
  have hl : lv_has ls 12 [(0, .ref h1)] := hl
  obtain ⟨hP, hD, hK, hA, hE⟩ := hB
  have hS : va_S A s.heap s.heap [] := va_S.rf
  refine lv_aload_n hx hb dX3_survey_0 rfl (lv_at hl 0 rfl) ?_
  refine va_get (D := D) (ci := 2) (v := .ref h2) (C := RX3) (T := TX3) (N := 7) hx hb hG wu_X3 hown hK hP 1 rfl rfl 0 (by decide) (hG _ wf_X3_12) (fun _ h9 => h9) rfl dX3_survey_1 ?_
  refine va_get (D := D) (ci := 1) (v := .int (nI sd)) (C := RX2) (T := TX2) (N := 8) hx hb hG wu_X2 hown hK hP 2 rfl rfl 2 (by decide) (hG _ wf_X3_80) (fun _ h9 => h9) rfl dX3_survey_4 ?_
  refine lv_istore_n (lv' := [(1, .int (nI sd)), (0, .ref h1)]) hx hb dX3_survey_7 rfl hl (by decide) rfl (fun ls hl => ?_)
  refine lv_bipush (v := (nI 6)) hx hb dX3_survey_8 (by decide) ?_
  refine lv_iconst (v := (nI 1)) hx hb dX3_survey_10 (by decide) ?_
  refine lv_iload_n hx hb dX3_survey_11 rfl (lv_at hl 0 rfl) ?_
  refine ln_isub hx hb dX3_survey_12 (by omega) ?_
  refine ln_imul hx hb dX3_survey_13 ?_
  refine lv_istore_n (lv' := [(2, .int (nI (6 * (1 - sd)))), (1, .int (nI sd)), (0, .ref h1)]) hx hb dX3_survey_14 rfl hl (by decide) rfl (fun ls hl => ?_)
  refine lv_aload_n hx hb dX3_survey_15 rfl (lv_at hl 2 rfl) ?_
  refine lv_aload_n hx hb dX3_survey_16 rfl (lv_at hl 2 rfl) ?_
  refine va_get (D := D) (ci := 2) (v := .ref h2) (C := RX3) (T := TX3) (N := 7) hx hb hG wu_X3 hown hK hP 1 rfl rfl 0 (by decide) (hG _ wf_X3_12) (fun _ h9 => h9) rfl dX3_survey_17 ?_
  refine lv_iload_n hx hb dX3_survey_20 rfl (lv_at hl 1 rfl) ?_
  refine roL (rnV (As := [.int (nI sd)]) (rest := [.ref h1]) S0 (c_X2_squaresOfSide l bd hCP sd (by omega)) wm_X3_83 wi_X2_squaresOfSide ws_X2_squaresOfSide wn_X2 wc_X2_squaresOfSide hd_X2_squaresOfSide ⟨rfl, rfl, by decide, by decide⟩ IW.blind (va_recv hK hP (ci := 1) (q0 := 2) rfl rfl) (IW.at hP hD hK hA hE hS) hl.1 (Nat.le_of_ble_eq_true rfl) dX3_survey_21 rfl ⟨by decide, by decide⟩) (fun r_1 hr_1 => ?_)
  subst hr_1
  refine va_put (D := D) (ci := 2) (v := .long (sosN bd sd 6)) (ty := .long) (C := RX3) (T := TX3) (N := 7) hx hb hG wu_X3 tyX3 tyX3_ok nmX3 hown hK hP hD hS 1 rfl rfl 1 (by decide) (hG _ wf_X3_18) (fun _ h9 => h9) rfl (by decide +kernel) rfl rfl (Nat.le_of_ble_eq_true rfl) dX3_survey_24 (fun H locs hP hD hS => ?_)
  have hP : va_P D classes (cW cI cJ h0 h1 h2 a0 a1 a2 a3 h3 a4 h4 a5 kn op (sosN bd sd 6) tr fu kg co pn (nI sd) ri pa ma pcs sqa mvs los lsz lfs asz afs) H := hP
  have hD : va_D A (cW cI cJ h0 h1 h2 a0 a1 a2 a3 h3 a4 h4 a5 kn op (sosN bd sd 6) tr fu kg co pn (nI sd) ri pa ma pcs sqa mvs los lsz lfs asz afs) := hD
  refine lv_aload_n hx hb dX3_survey_27 rfl (lv_at hl 2 rfl) ?_
  refine lv_aload_n hx hb dX3_survey_28 rfl (lv_at hl 2 rfl) ?_
  refine va_get (D := D) (ci := 2) (v := .ref h2) (C := RX3) (T := TX3) (N := 7) hx hb hG wu_X3 hown hK hP 1 rfl rfl 0 (by decide) (hG _ wf_X3_12) (fun _ h9 => h9) rfl dX3_survey_29 ?_
  refine lv_iconst (v := (nI 1)) hx hb dX3_survey_32 (by decide) ?_
  refine lv_iload_n hx hb dX3_survey_33 rfl (lv_at hl 1 rfl) ?_
  refine ln_isub hx hb dX3_survey_34 (by omega) ?_
  refine roL (rnV (As := [.int (nI (1 - sd))]) (rest := [.ref h1]) S0 (c_X2_squaresOfSide l bd hCP (1 - sd) (by omega)) wm_X3_83 wi_X2_squaresOfSide ws_X2_squaresOfSide wn_X2 wc_X2_squaresOfSide hd_X2_squaresOfSide ⟨rfl, rfl, by decide, by decide⟩ IW.blind (va_recv hK hP (ci := 1) (q0 := 2) rfl rfl) (IW.at hP hD hK hA hE hS) hl.1 (Nat.le_of_ble_eq_true rfl) dX3_survey_35 rfl ⟨by decide, by decide⟩) (fun r_2 hr_2 => ?_)
  subst hr_2
  refine va_put (D := D) (ci := 2) (v := .long (sosN bd (1 - sd) 6)) (ty := .long) (C := RX3) (T := TX3) (N := 7) hx hb hG wu_X3 tyX3 tyX3_ok nmX3 hown hK hP hD hS 1 rfl rfl 2 (by decide) (hG _ wf_X3_22) (fun _ h9 => h9) rfl (by decide +kernel) rfl rfl (Nat.le_of_ble_eq_true rfl) dX3_survey_38 (fun H locs hP hD hS => ?_)
  have hP : va_P D classes (cW cI cJ h0 h1 h2 a0 a1 a2 a3 h3 a4 h4 a5 kn op (sosN bd sd 6) (sosN bd (1 - sd) 6) fu kg co pn (nI sd) ri pa ma pcs sqa mvs los lsz lfs asz afs) H := hP
  have hD : va_D A (cW cI cJ h0 h1 h2 a0 a1 a2 a3 h3 a4 h4 a5 kn op (sosN bd sd 6) (sosN bd (1 - sd) 6) fu kg co pn (nI sd) ri pa ma pcs sqa mvs los lsz lfs asz afs) := hD
  refine lv_aload_n hx hb dX3_survey_41 rfl (lv_at hl 2 rfl) ?_
  refine lv_aload_n hx hb dX3_survey_42 rfl (lv_at hl 2 rfl) ?_
  refine va_get (D := D) (ci := 2) (v := .long (sosN bd sd 6)) (C := RX3) (T := TX3) (N := 7) hx hb hG wu_X3 hown hK hP 1 rfl rfl 1 (by decide) (hG _ wf_X3_18) (fun _ h9 => h9) rfl dX3_survey_43 ?_
  refine lv_aload_n hx hb dX3_survey_46 rfl (lv_at hl 2 rfl) ?_
  refine va_get (D := D) (ci := 2) (v := .long (sosN bd (1 - sd) 6)) (C := RX3) (T := TX3) (N := 7) hx hb hG wu_X3 hown hK hP 1 rfl rfl 2 (by decide) (hG _ wf_X3_22) (fun _ h9 => h9) rfl dX3_survey_47 ?_
  refine lv_lor hx hb dX3_survey_50 ?_
  refine va_put (D := D) (ci := 2) (v := .long ((sosN bd sd 6) ||| (sosN bd (1 - sd) 6))) (ty := .long) (C := RX3) (T := TX3) (N := 7) hx hb hG wu_X3 tyX3 tyX3_ok nmX3 hown hK hP hD hS 1 rfl rfl 3 (by decide) (hG _ wf_X3_25) (fun _ h9 => h9) rfl (by decide +kernel) rfl rfl (Nat.le_of_ble_eq_true rfl) dX3_survey_51 (fun H locs hP hD hS => ?_)
  have hP : va_P D classes (cW cI cJ h0 h1 h2 a0 a1 a2 a3 h3 a4 h4 a5 kn op (sosN bd sd 6) (sosN bd (1 - sd) 6) ((sosN bd sd 6) ||| (sosN bd (1 - sd) 6)) kg co pn (nI sd) ri pa ma pcs sqa mvs los lsz lfs asz afs) H := hP
  have hD : va_D A (cW cI cJ h0 h1 h2 a0 a1 a2 a3 h3 a4 h4 a5 kn op (sosN bd sd 6) (sosN bd (1 - sd) 6) ((sosN bd sd 6) ||| (sosN bd (1 - sd) 6)) kg co pn (nI sd) ri pa ma pcs sqa mvs los lsz lfs asz afs) := hD
  refine lv_aload_n hx hb dX3_survey_54 rfl (lv_at hl 2 rfl) ?_
  refine lv_aload_n hx hb dX3_survey_55 rfl (lv_at hl 2 rfl) ?_
  refine va_get (D := D) (ci := 2) (v := .ref h2) (C := RX3) (T := TX3) (N := 7) hx hb hG wu_X3 hown hK hP 1 rfl rfl 0 (by decide) (hG _ wf_X3_12) (fun _ h9 => h9) rfl dX3_survey_56 ?_
  refine lv_bipush (v := (nI 6)) hx hb dX3_survey_59 (by decide) ?_
  refine lv_iload_n hx hb dX3_survey_61 rfl (lv_at hl 1 rfl) ?_
  refine ln_imul hx hb dX3_survey_62 ?_
  refine lv_bipush (v := (nI 6)) hx hb dX3_survey_63 (by decide) ?_
  refine ln_iadd hx hb dX3_survey_65 ?_
  refine roL (rnV (As := [.int (nI ((6 * sd) + 6))]) (rest := [.ref h1]) S0 (c_X2_squaresOf l bd hCP ((6 * sd) + 6) (by omega)) wm_X3_86 wi_X2_squaresOf ws_X2_squaresOf wn_X2 wc_X2_squaresOf hd_X2_squaresOf ⟨rfl, rfl, by decide, by decide⟩ IW.blind (va_recv hK hP (ci := 1) (q0 := 2) rfl rfl) (IW.at hP hD hK hA hE hS) hl.1 (Nat.le_of_ble_eq_true rfl) dX3_survey_66 rfl ⟨by decide, by decide⟩) (fun r_3 hr_3 => ?_)
  subst hr_3
  refine va_put (D := D) (ci := 2) (v := .long (sqs bd ((6 * sd) + 6))) (ty := .long) (C := RX3) (T := TX3) (N := 7) hx hb hG wu_X3 tyX3 tyX3_ok nmX3 hown hK hP hD hS 1 rfl rfl 4 (by decide) (hG _ wf_X3_28) (fun _ h9 => h9) rfl (by decide +kernel) rfl rfl (Nat.le_of_ble_eq_true rfl) dX3_survey_69 (fun H locs hP hD hS => ?_)
  have hP : va_P D classes (cW cI cJ h0 h1 h2 a0 a1 a2 a3 h3 a4 h4 a5 kn op (sosN bd sd 6) (sosN bd (1 - sd) 6) ((sosN bd sd 6) ||| (sosN bd (1 - sd) 6)) (sqs bd ((6 * sd) + 6)) co pn (nI sd) ri pa ma pcs sqa mvs los lsz lfs asz afs) H := hP
  have hD : va_D A (cW cI cJ h0 h1 h2 a0 a1 a2 a3 h3 a4 h4 a5 kn op (sosN bd sd 6) (sosN bd (1 - sd) 6) ((sosN bd sd 6) ||| (sosN bd (1 - sd) 6)) (sqs bd ((6 * sd) + 6)) co pn (nI sd) ri pa ma pcs sqa mvs los lsz lfs asz afs) := hD
  refine lv_aload_n hx hb dX3_survey_72 rfl (lv_at hl 2 rfl) ?_
  refine lv_ldc2 (v := (-1)) hx hb hown (hG _ wk_X3_89) dX3_survey_73 ?_
  refine va_put (D := D) (ci := 2) (v := .long (-1)) (ty := .long) (C := RX3) (T := TX3) (N := 7) hx hb hG wu_X3 tyX3 tyX3_ok nmX3 hown hK hP hD hS 1 rfl rfl 5 (by decide) (hG _ wf_X3_31) (fun _ h9 => h9) rfl (by decide +kernel) rfl rfl (Nat.le_of_ble_eq_true rfl) dX3_survey_76 (fun H locs hP hD hS => ?_)
  have hP : va_P D classes (cW cI cJ h0 h1 h2 a0 a1 a2 a3 h3 a4 h4 a5 kn op (sosN bd sd 6) (sosN bd (1 - sd) 6) ((sosN bd sd 6) ||| (sosN bd (1 - sd) 6)) (sqs bd ((6 * sd) + 6)) (-1) pn (nI sd) ri pa ma pcs sqa mvs los lsz lfs asz afs) H := hP
  have hD : va_D A (cW cI cJ h0 h1 h2 a0 a1 a2 a3 h3 a4 h4 a5 kn op (sosN bd sd 6) (sosN bd (1 - sd) 6) ((sosN bd sd 6) ||| (sosN bd (1 - sd) 6)) (sqs bd ((6 * sd) + 6)) (-1) pn (nI sd) ri pa ma pcs sqa mvs los lsz lfs asz afs) := hD
  refine lv_aload_n hx hb dX3_survey_79 rfl (lv_at hl 2 rfl) ?_
  refine lv_lconst (v := 0) hx hb dX3_survey_80 (by decide) ?_
  refine va_put (D := D) (ci := 2) (v := .long 0) (ty := .long) (C := RX3) (T := TX3) (N := 7) hx hb hG wu_X3 tyX3 tyX3_ok nmX3 hown hK hP hD hS 1 rfl rfl 6 (by decide) (hG _ wf_X3_34) (fun _ h9 => h9) rfl (by decide +kernel) rfl rfl (Nat.le_of_ble_eq_true rfl) dX3_survey_81 (fun H locs hP hD hS => ?_)
  have hP : va_P D classes (cW cI cJ h0 h1 h2 a0 a1 a2 a3 h3 a4 h4 a5 kn op (sosN bd sd 6) (sosN bd (1 - sd) 6) ((sosN bd sd 6) ||| (sosN bd (1 - sd) 6)) (sqs bd ((6 * sd) + 6)) (-1) 0 (nI sd) ri pa ma pcs sqa mvs los lsz lfs asz afs) H := hP
  have hD : va_D A (cW cI cJ h0 h1 h2 a0 a1 a2 a3 h3 a4 h4 a5 kn op (sosN bd sd 6) (sosN bd (1 - sd) 6) ((sosN bd sd 6) ||| (sosN bd (1 - sd) 6)) (sqs bd ((6 * sd) + 6)) (-1) 0 (nI sd) ri pa ma pcs sqa mvs los lsz lfs asz afs) := hD
  refine lv_aload_n hx hb dX3_survey_84 rfl (lv_at hl 2 rfl) ?_
  refine va_get (D := D) (ci := 2) (v := .ref h2) (C := RX3) (T := TX3) (N := 7) hx hb hG wu_X3 hown hK hP 1 rfl rfl 0 (by decide) (hG _ wf_X3_12) (fun _ h9 => h9) rfl dX3_survey_85 ?_
  refine lv_iload_n hx hb dX3_survey_88 rfl (lv_at hl 0 rfl) ?_
  refine lv_iconst (v := (nI 5)) hx hb dX3_survey_89 (by decide) ?_
  refine ln_iadd hx hb dX3_survey_90 ?_
  refine roL (rnV (As := [.int (nI ((6 * (1 - sd)) + 5))]) (rest := []) S0 (c_X2_squaresOf l bd hCP ((6 * (1 - sd)) + 5) (by omega)) wm_X3_86 wi_X2_squaresOf ws_X2_squaresOf wn_X2 wc_X2_squaresOf hd_X2_squaresOf ⟨rfl, rfl, by decide, by decide⟩ IW.blind (va_recv hK hP (ci := 1) (q0 := 2) rfl rfl) (IW.at hP hD hK hA hE hS) hl.1 (Nat.le_of_ble_eq_true rfl) dX3_survey_91 rfl ⟨by decide, by decide⟩) (fun r_4 hr_4 => ?_)
  subst hr_4
  refine lv_lstore_n (lv' := [(3, .long (sqs bd ((6 * (1 - sd)) + 5))), (2, .int (nI (6 * (1 - sd)))), (1, .int (nI sd)), (0, .ref h1)]) hx hb dX3_survey_94 rfl hl (by decide) rfl (fun ls hl => ?_)
  refine lv_lload_n hx hb dX3_survey_95 rfl (lv_at hl 0 rfl) ?_
  refine lv_aload_n hx hb dX3_survey_96 rfl (lv_at hl 3 rfl) ?_
  refine va_get (D := D) (ci := 2) (v := .ref h2) (C := RX3) (T := TX3) (N := 7) hx hb hG wu_X3 hown hK hP 1 rfl rfl 0 (by decide) (hG _ wf_X3_12) (fun _ h9 => h9) rfl dX3_survey_97 ?_
  refine lv_iload_n hx hb dX3_survey_100 rfl (lv_at hl 1 rfl) ?_
  refine lv_iconst (v := (nI 4)) hx hb dX3_survey_101 (by decide) ?_
  refine ln_iadd hx hb dX3_survey_102 ?_
  refine roL (rnV (As := [.int (nI ((6 * (1 - sd)) + 4))]) (rest := [.long (sqs bd ((6 * (1 - sd)) + 5))]) S0 (c_X2_squaresOf l bd hCP ((6 * (1 - sd)) + 4) (by omega)) wm_X3_86 wi_X2_squaresOf ws_X2_squaresOf wn_X2 wc_X2_squaresOf hd_X2_squaresOf ⟨rfl, rfl, by decide, by decide⟩ IW.blind (va_recv hK hP (ci := 1) (q0 := 2) rfl rfl) (IW.at hP hD hK hA hE hS) hl.1 (Nat.le_of_ble_eq_true rfl) dX3_survey_103 rfl ⟨by decide, by decide⟩) (fun r_5 hr_5 => ?_)
  subst hr_5
  refine lv_lor hx hb dX3_survey_106 ?_
  refine W.top (y := .long (stE bd (6 * (1 - sd)))) (congrArg Value.long rfl) ?_
  refine lv_lstore (lv' := [(5, .long (stE bd (6 * (1 - sd)))), (3, .long (sqs bd ((6 * (1 - sd)) + 5))), (2, .int (nI (6 * (1 - sd)))), (1, .int (nI sd)), (0, .ref h1)]) hx hb dX3_survey_107 hl (by decide) rfl (fun ls hl => ?_)
  refine lv_lload_n hx hb dX3_survey_109 rfl (lv_at hl 1 rfl) ?_
  refine lv_aload_n hx hb dX3_survey_110 rfl (lv_at hl 4 rfl) ?_
  refine va_get (D := D) (ci := 2) (v := .ref h2) (C := RX3) (T := TX3) (N := 7) hx hb hG wu_X3 hown hK hP 1 rfl rfl 0 (by decide) (hG _ wf_X3_12) (fun _ h9 => h9) rfl dX3_survey_111 ?_
  refine lv_iload_n hx hb dX3_survey_114 rfl (lv_at hl 2 rfl) ?_
  refine lv_iconst (v := (nI 3)) hx hb dX3_survey_115 (by decide) ?_
  refine ln_iadd hx hb dX3_survey_116 ?_
  refine roL (rnV (As := [.int (nI ((6 * (1 - sd)) + 3))]) (rest := [.long (sqs bd ((6 * (1 - sd)) + 5))]) S0 (c_X2_squaresOf l bd hCP ((6 * (1 - sd)) + 3) (by omega)) wm_X3_86 wi_X2_squaresOf ws_X2_squaresOf wn_X2 wc_X2_squaresOf hd_X2_squaresOf ⟨rfl, rfl, by decide, by decide⟩ IW.blind (va_recv hK hP (ci := 1) (q0 := 2) rfl rfl) (IW.at hP hD hK hA hE hS) hl.1 (Nat.le_of_ble_eq_true rfl) dX3_survey_117 rfl ⟨by decide, by decide⟩) (fun r_6 hr_6 => ?_)
  subst hr_6
  refine lv_lor hx hb dX3_survey_120 ?_
  refine W.top (y := .long (slE bd (6 * (1 - sd)))) (congrArg Value.long rfl) ?_
  refine lv_lstore (lv' := [(7, .long (slE bd (6 * (1 - sd)))), (5, .long (stE bd (6 * (1 - sd)))), (3, .long (sqs bd ((6 * (1 - sd)) + 5))), (2, .int (nI (6 * (1 - sd)))), (1, .int (nI sd)), (0, .ref h1)]) hx hb dX3_survey_121 hl (by decide) rfl (fun ls hl => ?_)
  refine lv_iconst (v := (nI 0)) hx hb dX3_survey_123 (by decide) ?_
  refine lv_istore (lv' := [(9, .int (nI 0)), (7, .long (slE bd (6 * (1 - sd)))), (5, .long (stE bd (6 * (1 - sd)))), (3, .long (sqs bd ((6 * (1 - sd)) + 5))), (2, .int (nI (6 * (1 - sd)))), (1, .int (nI sd)), (0, .ref h1)]) hx hb dX3_survey_124 hl (by decide) rfl (fun ls hl => ?_)
  refine lpW (σ := (Nat) × (Int64) × (Int64)) 126 12 [] (fun x9 => [(0, .ref h1), (1, .int (nI sd)), (2, .int (nI (6 * (1 - sd)))), (5, .long (stE bd (6 * (1 - sd)))), (7, .long (slE bd (6 * (1 - sd)))), (9, .int (nI x9.1))]) (fun x9 => cW cI cJ h0 h1 h2 a0 a1 a2 a3 h3 a4 h4 a5 kn op (ownS bd sd) (thrS bd sd) (fulS bd sd) (kngS bd sd) x9.2.1 x9.2.2 (nI sd) ri pa ma pcs sqa mvs los lsz lfs asz afs) (fun x9 => x9.1 ≤ 8 ∧ x9.2.1 = (svN bd sd x9.1).1 ∧ x9.2.2 = (svN bd sd x9.1).2) (fun x9 => 8 - x9.1) (0, (-1), 0) ⟨Nat.zero_le _, rfl, rfl⟩ (lv_sub hl [6, 5, 4, 2, 1, 0] rfl) hP hD hS ?_
  clear hP hD hS hl ls
  rintro ⟨i, c9, p9⟩ H locs hI hP hD hS ih_126 ls hl
  try dsimp only at hI ih_126 hl hP hD
  obtain ⟨hi, hc9, hp9⟩ := hI
  refine lv_iload hx hb dX3_survey_126 (lv_at hl 5 rfl) ?_
  refine lv_bipush (v := (nI 8)) hx hb dX3_survey_128 (by decide) ?_
  refine ln_icmp_ge (tgt := 181) hx hb dX3_survey_130 (by decide) (by omega) (by decide) (fun c130 => ?_) (fun c130 => ?_)
  · skip
    refine lv_aload_n hx hb dX3_survey_181 rfl (lv_at hl 0 rfl) ?_
    refine va_get (D := D) (ci := 2) (v := .long (kngS bd sd)) (C := RX3) (T := TX3) (N := 7) hx hb hG wu_X3 hown hK hP 1 rfl rfl 4 (by decide) (hG _ wf_X3_28) (fun _ h9 => h9) rfl dX3_survey_182 ?_
    refine roL (rnS (As := [.long (kngS bd sd)]) (rest := []) S0 (c_X0_ofKnights l (kngS bd sd)) wm_X3_101 wt_X0_ofKnights wn_X0 wc_X0_ofKnights hd_X0_ofKnights ⟨rfl, rfl, by decide, by decide⟩ True.blind (fun _ _ _ => trivial) hl.1 (Nat.le_of_ble_eq_true rfl) dX3_survey_185 rfl ⟨by decide, by decide⟩) (fun r_7 hr_7 => ?_)
    subst hr_7
    refine lv_aload_n hx hb dX3_survey_188 rfl (lv_at hl 0 rfl) ?_
    refine va_get (D := D) (ci := 2) (v := .ref h2) (C := RX3) (T := TX3) (N := 7) hx hb hG wu_X3 hown hK hP 1 rfl rfl 0 (by decide) (hG _ wf_X3_12) (fun _ h9 => h9) rfl dX3_survey_189 ?_
    refine lv_iload_n hx hb dX3_survey_192 rfl (lv_at hl 2 rfl) ?_
    refine lv_iconst (v := (nI 2)) hx hb dX3_survey_193 (by decide) ?_
    refine ln_iadd hx hb dX3_survey_194 ?_
    refine roL (rnV (As := [.int (nI ((6 * (1 - sd)) + 2))]) (rest := [.long (okn (kngS bd sd))]) S0 (c_X2_squaresOf l bd hCP ((6 * (1 - sd)) + 2) (by omega)) wm_X3_86 wi_X2_squaresOf ws_X2_squaresOf wn_X2 wc_X2_squaresOf hd_X2_squaresOf ⟨rfl, rfl, by decide, by decide⟩ IW.blind (va_recv hK hP (ci := 1) (q0 := 2) rfl rfl) (IW.at hP hD hK hA hE hS) hl.1 (Nat.le_of_ble_eq_true rfl) dX3_survey_195 rfl ⟨by decide, by decide⟩) (fun r_8 hr_8 => ?_)
    subst hr_8
    refine lv_land hx hb dX3_survey_198 ?_
    refine lv_aload_n hx hb dX3_survey_199 rfl (lv_at hl 0 rfl) ?_
    refine va_get (D := D) (ci := 2) (v := .long (kngS bd sd)) (C := RX3) (T := TX3) (N := 7) hx hb hG wu_X3 hown hK hP 1 rfl rfl 4 (by decide) (hG _ wf_X3_28) (fun _ h9 => h9) rfl dX3_survey_200 ?_
    refine lv_iload_n hx hb dX3_survey_203 rfl (lv_at hl 1 rfl) ?_
    refine roL (rnS (As := [.long (kngS bd sd), .int (nI sd)]) (rest := [.long ((okn (kngS bd sd)) &&& (sqs bd ((6 * (1 - sd)) + 2)))]) S0 (c_X0_ofPawns l (kngS bd sd) sd (by omega)) wm_X3_105 wt_X0_ofPawns wn_X0 wc_X0_ofPawns hd_X0_ofPawns ⟨rfl, rfl, by decide, by decide⟩ True.blind (fun _ _ _ => trivial) hl.1 (Nat.le_of_ble_eq_true rfl) dX3_survey_204 rfl ⟨by decide, by decide⟩) (fun r_9 hr_9 => ?_)
    subst hr_9
    refine lv_aload_n hx hb dX3_survey_207 rfl (lv_at hl 0 rfl) ?_
    refine va_get (D := D) (ci := 2) (v := .ref h2) (C := RX3) (T := TX3) (N := 7) hx hb hG wu_X3 hown hK hP 1 rfl rfl 0 (by decide) (hG _ wf_X3_12) (fun _ h9 => h9) rfl dX3_survey_208 ?_
    refine lv_iload_n hx hb dX3_survey_211 rfl (lv_at hl 2 rfl) ?_
    refine lv_iconst (v := (nI 1)) hx hb dX3_survey_212 (by decide) ?_
    refine ln_iadd hx hb dX3_survey_213 ?_
    refine roL (rnV (As := [.int (nI ((6 * (1 - sd)) + 1))]) (rest := [.long (opw (kngS bd sd) sd), .long ((okn (kngS bd sd)) &&& (sqs bd ((6 * (1 - sd)) + 2)))]) S0 (c_X2_squaresOf l bd hCP ((6 * (1 - sd)) + 1) (by omega)) wm_X3_86 wi_X2_squaresOf ws_X2_squaresOf wn_X2 wc_X2_squaresOf hd_X2_squaresOf ⟨rfl, rfl, by decide, by decide⟩ IW.blind (va_recv hK hP (ci := 1) (q0 := 2) rfl rfl) (IW.at hP hD hK hA hE hS) hl.1 (Nat.le_of_ble_eq_true rfl) dX3_survey_214 rfl ⟨by decide, by decide⟩) (fun r_10 hr_10 => ?_)
    subst hr_10
    refine lv_land hx hb dX3_survey_217 ?_
    refine lv_lor hx hb dX3_survey_218 ?_
    have hi8 : i = 8 := by omega
    rw [hi8] at hc9 hp9
    have hpl := pop_le (lep bd sd)
    refine W.top (y := .long (lep bd sd)) (congrArg Value.long rfl) ?_
    refine lv_lstore (lv' := [(9, .long (lep bd sd)), (0, .ref h1), (1, .int (nI sd)), (2, .int (nI (6 * (1 - sd)))), (5, .long (stE bd (6 * (1 - sd)))), (7, .long (slE bd (6 * (1 - sd))))]) hx hb dX3_survey_219 hl (by decide) rfl (fun ls hl => ?_)
    refine lv_lload hx hb dX3_survey_221 (lv_at hl 0 rfl) ?_
    refine lv_lconst (v := 0) hx hb dX3_survey_223 (by decide) ?_
    refine W.lcmp hx hb dX3_survey_224 ?_
    refine jnW (σ := (Int64)) (D := D) (A := A) (H0 := s.heap) 252 12 (fun x9 => [(9, .long (lep bd sd)), (0, .ref h1), (1, .int (nI sd)), (2, .int (nI (6 * (1 - sd)))), (5, .long (stE bd (6 * (1 - sd)))), (7, .long (slE bd (6 * (1 - sd))))]) [] (fun x9 => cW cI cJ h0 h1 h2 a0 a1 a2 a3 h3 a4 h4 a5 kn op (ownS bd sd) (thrS bd sd) (fulS bd sd) (kngS bd sd) x9 p9 (nI sd) ri pa ma pcs sqa mvs los lsz lfs asz afs) (fun x9 => x9 = covS bd sd) ?_ (fun hj_252 => ?_)
    · clear hP hD hS hl ls
      rintro c7 H locs hI hP hD hS ls hl
      try dsimp only at hI hP hD hl
      have hcv := hI
      exact weV ((c7, p9)) hx hb hr hlocks dX3_survey_252 ⟨hcv, hp9⟩ hP hD hK hA hE hS
    · skip
      refine lc_if_eq (tgt := 252) hx hb dX3_survey_225 (by decide) (fun c225 => ?_) (fun c225 => ?_)
      · skip
        exact hj_252 c9 _ _ (by unfold covS; first | (rw [if_pos c225]; exact hc9) | (rw [if_neg c225, hc9])) hP hD hS ls (lv_sub hl [0, 1, 2, 3, 4, 5] rfl)
      · skip
        refine lv_aload_n hx hb dX3_survey_228 rfl (lv_at hl 1 rfl) ?_
        refine lv_dup hx hb dX3_survey_229 rfl ?_
        refine va_get (D := D) (ci := 2) (v := .long c9) (C := RX3) (T := TX3) (N := 7) hx hb hG wu_X3 hown hK hP 1 rfl rfl 5 (by decide) (hG _ wf_X3_31) (fun _ h9 => h9) rfl dX3_survey_230 ?_
        refine lv_lload hx hb dX3_survey_233 (lv_at hl 0 rfl) ?_
        refine roI (rnS (As := [.long (lep bd sd)]) (rest := [.long c9, .ref h1]) S0 (c_J13_bitCount_95d88 l (lep bd sd)) wm_X3_40 wt_J13_bitCount_95d88 wn_J13 wc_J13_bitCount_95d88 hd_J13_bitCount_95d88 ⟨rfl, rfl, by decide, by decide⟩ True.blind (fun _ _ _ => trivial) hl.1 (Nat.le_of_ble_eq_true rfl) dX3_survey_235 rfl ⟨by decide, by decide⟩) (fun r_11 hr_11 => ?_)
        subst hr_11
        refine W.top (y := .int (nI (pop (lep bd sd)))) (congrArg Value.int (bcE_pop _)) ?_
        refine lv_iconst (v := (nI 1)) hx hb dX3_survey_238 (by decide) ?_
        refine jnG 248 12 [(9, .long (lep bd sd)), (0, .ref h1), (1, .int (nI sd)), (2, .int (nI (6 * (1 - sd)))), (5, .long (stE bd (6 * (1 - sd)))), (7, .long (slE bd (6 * (1 - sd))))] [.long (if pop (lep bd sd) = 1 then lep bd sd else 0), .long c9, .ref h1] ?_ (fun hj_248 => ?_)
        · intro ls hl
          refine lv_land hx hb dX3_survey_248 ?_
          refine va_put (D := D) (ci := 2) (v := .long (c9 &&& (if pop (lep bd sd) = 1 then lep bd sd else 0))) (ty := .long) (C := RX3) (T := TX3) (N := 7) hx hb hG wu_X3 tyX3 tyX3_ok nmX3 hown hK hP hD hS 1 rfl rfl 5 (by decide) (hG _ wf_X3_31) (fun _ h9 => h9) rfl (by decide +kernel) rfl rfl (Nat.le_of_ble_eq_true rfl) dX3_survey_249 (fun H locs hP hD hS => ?_)
          have hP : va_P D classes (cW cI cJ h0 h1 h2 a0 a1 a2 a3 h3 a4 h4 a5 kn op (ownS bd sd) (thrS bd sd) (fulS bd sd) (kngS bd sd) (c9 &&& (if pop (lep bd sd) = 1 then lep bd sd else 0)) p9 (nI sd) ri pa ma pcs sqa mvs los lsz lfs asz afs) H := hP
          have hD : va_D A (cW cI cJ h0 h1 h2 a0 a1 a2 a3 h3 a4 h4 a5 kn op (ownS bd sd) (thrS bd sd) (fulS bd sd) (kngS bd sd) (c9 &&& (if pop (lep bd sd) = 1 then lep bd sd else 0)) p9 (nI sd) ri pa ma pcs sqa mvs los lsz lfs asz afs) := hD
          exact hj_252 (c9 &&& (if pop (lep bd sd) = 1 then lep bd sd else 0)) _ _ (by unfold covS; first | (rw [if_pos c225]; exact hc9) | (rw [if_neg c225, hc9])) hP hD hS ls (lv_sub hl [0, 1, 2, 3, 4, 5] rfl)
        · skip
          refine ln_icmp_ne (tgt := 247) hx hb dX3_survey_239 (by decide) (by omega) (by decide) (fun c239 => ?_) (fun c239 => ?_)
          · skip
            refine lv_lconst (v := 0) hx hb dX3_survey_247 (by decide) ?_
            refine W.top (y := .long (if pop (lep bd sd) = 1 then lep bd sd else 0)) (congrArg Value.long (by first | rw [if_pos c239] | rw [if_neg c239])) ?_
            exact hj_248 ls (lv_sub hl [0, 1, 2, 3, 4, 5] rfl)
          · skip
            refine lv_lload hx hb dX3_survey_242 (lv_at hl 0 rfl) ?_
            refine lv_goto (tgt := 248) hx hb dX3_survey_244 (by decide) ?_
            refine W.top (y := .long (if pop (lep bd sd) = 1 then lep bd sd else 0)) (congrArg Value.long (by first | rw [if_pos c239] | rw [if_neg c239])) ?_
            exact hj_248 ls (lv_sub hl [0, 1, 2, 3, 4, 5] rfl)
  · skip
    refine lv_aload_n hx hb dX3_survey_133 rfl (lv_at hl 0 rfl) ?_
    refine va_get (D := D) (ci := 2) (v := .long (kngS bd sd)) (C := RX3) (T := TX3) (N := 7) hx hb hG wu_X3 hown hK hP 1 rfl rfl 4 (by decide) (hG _ wf_X3_28) (fun _ h9 => h9) rfl dX3_survey_134 ?_
    refine lv_aload_n hx hb dX3_survey_137 rfl (lv_at hl 0 rfl) ?_
    refine va_get (D := D) (ci := 2) (v := .long (thrS bd sd)) (C := RX3) (T := TX3) (N := 7) hx hb hG wu_X3 hown hK hP 1 rfl rfl 2 (by decide) (hG _ wf_X3_22) (fun _ h9 => h9) rfl dX3_survey_138 ?_
    refine lv_iload hx hb dX3_survey_141 (lv_at hl 5 rfl) ?_
    refine roL (rnS (As := [.long (kngS bd sd), .long (thrS bd sd), .int (nI i)]) (rest := []) S0 (c_X0_ray l (kngS bd sd) (thrS bd sd) i (by omega)) wm_X3_93 wt_X0_ray wn_X0 wc_X0_ray hd_X0_ray ⟨rfl, rfl, by decide, by decide⟩ EV.blind (EV.at hE hS) hl.1 (Nat.le_of_ble_eq_true rfl) dX3_survey_143 rfl ⟨by decide, by decide⟩) (fun r_12 hr_12 => ?_)
    subst hr_12
    refine lv_lstore (lv' := [(10, .long (ray (kngS bd sd) (thrS bd sd) i)), (0, .ref h1), (1, .int (nI sd)), (2, .int (nI (6 * (1 - sd)))), (5, .long (stE bd (6 * (1 - sd)))), (7, .long (slE bd (6 * (1 - sd)))), (9, .int (nI i))]) hx hb dX3_survey_146 hl (by decide) rfl (fun ls hl => ?_)
    refine lv_lload hx hb dX3_survey_148 (lv_at hl 0 rfl) ?_
    refine lv_iload hx hb dX3_survey_150 (lv_at hl 6 rfl) ?_
    refine lv_iconst (v := (nI 4)) hx hb dX3_survey_152 (by decide) ?_
    refine jnG 163 12 [(10, .long (ray (kngS bd sd) (thrS bd sd) i)), (0, .ref h1), (1, .int (nI sd)), (2, .int (nI (6 * (1 - sd)))), (5, .long (stE bd (6 * (1 - sd)))), (7, .long (slE bd (6 * (1 - sd)))), (9, .int (nI i))] [.long (if i < 4 then stE bd (6 * (1 - sd)) else slE bd (6 * (1 - sd))), .long (ray (kngS bd sd) (thrS bd sd) i)] ?_ (fun hj_163 => ?_)
    · intro ls hl
      refine lv_land hx hb dX3_survey_163 ?_
      refine lv_lconst (v := 0) hx hb dX3_survey_164 (by decide) ?_
      refine W.lcmp hx hb dX3_survey_165 ?_
      refine jnW (σ := (Int64) × (Int64)) (D := D) (A := A) (H0 := s.heap) 175 12 (fun x9 => [(0, .ref h1), (1, .int (nI sd)), (2, .int (nI (6 * (1 - sd)))), (5, .long (stE bd (6 * (1 - sd)))), (7, .long (slE bd (6 * (1 - sd)))), (9, .int (nI i))]) [] (fun x9 => cW cI cJ h0 h1 h2 a0 a1 a2 a3 h3 a4 h4 a5 kn op (ownS bd sd) (thrS bd sd) (fulS bd sd) (kngS bd sd) x9.1 x9.2 (nI sd) ri pa ma pcs sqa mvs los lsz lfs asz afs) (fun x9 => x9.1 = (svN bd sd (i + 1)).1 ∧ x9.2 = (svN bd sd (i + 1)).2) ?_ (fun hj_175 => ?_)
      · clear hP hD hS hl ls
        rintro ⟨c8, p8⟩ H locs hI hP hD hS ls hl
        try dsimp only at hI hP hD hl
        have hI9 : i + 1 ≤ 8 ∧ c8 = (svN bd sd (i + 1)).1 ∧ p8 = (svN bd sd (i + 1)).2 := ⟨by omega, hI⟩
        refine lv_iinc (v := (nI (i + 1))) (lv' := [(9, .int (nI (i + 1))), (0, .ref h1), (1, .int (nI sd)), (2, .int (nI (6 * (1 - sd)))), (5, .long (stE bd (6 * (1 - sd)))), (7, .long (slE bd (6 * (1 - sd))))]) hx hb dX3_survey_175 hl (k := 5) rfl (show nI i + Int32.ofInt 1 = nI (i + 1) from nI_add _ 1) (by decide) rfl (fun ls hl => ?_)
        refine lv_goto (tgt := 126) hx hb dX3_survey_178 (by decide) ?_
        exact ih_126 ((i + 1), c8, p8) _ _ (by assumption) (by (try dsimp only); omega) hP hD hS ls (lv_sub hl [1, 2, 3, 4, 5, 0] rfl)
      · skip
        refine lc_if_eq (tgt := 175) hx hb dX3_survey_166 (by decide) (fun c166 => ?_) (fun c166 => ?_)
        · skip
          have hht : hit bd sd i = false := by unfold hit; rw [decide_eq_true (show lin bd sd i &&& (if i < 4 then stE bd (6 * (1 - sd)) else slE bd (6 * (1 - sd))) = 0 from c166)]; rfl
          exact hj_175 (c9, p9) _ _ (by unfold svN; first | (rw [if_pos hht]; exact ⟨by rw [hu1, hc9]; rfl, by rw [hu2, hp9]; rfl⟩) | (rw [if_neg (show ¬ hit bd sd i = true by rw [hht]; decide)]; exact ⟨hc9, hp9⟩)) hP hD hS ls (lv_sub hl [1, 2, 3, 4, 5, 6] rfl)
        · skip
          have hht : hit bd sd i = true := by unfold hit; rw [decide_eq_false (show ¬ lin bd sd i &&& (if i < 4 then stE bd (6 * (1 - sd)) else slE bd (6 * (1 - sd))) = 0 from c166)]; rfl
          refine lv_aload_n hx hb dX3_survey_169 rfl (lv_at hl 1 rfl) ?_
          refine lv_lload hx hb dX3_survey_170 (lv_at hl 0 rfl) ?_
          refine chV (rnV (As := [.long (ray (kngS bd sd) (thrS bd sd) i)]) (rest := []) S0 (c_X3_judgeLine l (ray (kngS bd sd) (thrS bd sd) i)) wm_X3_97 wi_X3_judgeLine ws_X3_judgeLine wn_X3 wc_X3_judgeLine hd_X3_judgeLine ⟨rfl, rfl, by decide, by decide⟩ IW.blind (va_recv hK hP (ci := 2) (q0 := 1) rfl rfl) (IW.at hP hD hK hA hE hS) hl.1 (Nat.le_of_ble_eq_true rfl) dX3_survey_172 rfl ⟨by decide, by decide⟩) hS (fun u_14 H locs hu hP hD hS => ?_)
          obtain ⟨hu1, hu2⟩ := hu
          have hP : va_P D classes (cW cI cJ h0 h1 h2 a0 a1 a2 a3 h3 a4 h4 a5 kn op (ownS bd sd) (thrS bd sd) (fulS bd sd) (kngS bd sd) u_14.1 u_14.2 (nI sd) ri pa ma pcs sqa mvs los lsz lfs asz afs) H := hP
          have hD : va_D A (cW cI cJ h0 h1 h2 a0 a1 a2 a3 h3 a4 h4 a5 kn op (ownS bd sd) (thrS bd sd) (fulS bd sd) (kngS bd sd) u_14.1 u_14.2 (nI sd) ri pa ma pcs sqa mvs los lsz lfs asz afs) := hD
          exact hj_175 (u_14.1, u_14.2) _ _ (by unfold svN; first | (rw [if_pos hht]; exact ⟨by rw [hu1, hc9]; rfl, by rw [hu2, hp9]; rfl⟩) | (rw [if_neg (show ¬ hit bd sd i = true by rw [hht]; decide)]; exact ⟨hc9, hp9⟩)) hP hD hS ls (lv_sub hl [1, 2, 3, 4, 5, 6] rfl)
    · skip
      refine ln_icmp_ge (tgt := 161) hx hb dX3_survey_153 (by decide) (by omega) (by decide) (fun c153 => ?_) (fun c153 => ?_)
      · skip
        refine lv_lload hx hb dX3_survey_161 (lv_at hl 5 rfl) ?_
        refine W.top (y := .long (if i < 4 then stE bd (6 * (1 - sd)) else slE bd (6 * (1 - sd)))) (congrArg Value.long (by first | rw [if_pos (show i < 4 by omega)] | rw [if_neg (show ¬ i < 4 by omega)])) ?_
        exact hj_163 ls (lv_sub hl [0, 1, 2, 3, 4, 5, 6] rfl)
      · skip
        refine lv_lload hx hb dX3_survey_156 (lv_at hl 4 rfl) ?_
        refine lv_goto (tgt := 163) hx hb dX3_survey_158 (by decide) ?_
        refine W.top (y := .long (if i < 4 then stE bd (6 * (1 - sd)) else slE bd (6 * (1 - sd)))) (congrArg Value.long (by first | rw [if_pos (show i < 4 by omega)] | rw [if_neg (show ¬ i < 4 by omega)])) ?_
        exact hj_163 ls (lv_sub hl [0, 1, 2, 3, 4, 5, 6] rfl)
theorem dX3_pinnedSquares_0 : decode cX3_pinnedSquares 0 = .ok (.aload_n 0, 1) := by decide +kernel
theorem dX3_pinnedSquares_1 : decode cX3_pinnedSquares 1 = .ok (.invokevirtual 37, 3) := by decide +kernel
theorem dX3_pinnedSquares_4 : decode cX3_pinnedSquares 4 = .ok (.aload_n 0, 1) := by decide +kernel
theorem dX3_pinnedSquares_5 : decode cX3_pinnedSquares 5 = .ok (.getfield 34, 3) := by decide +kernel
theorem dX3_pinnedSquares_8 : decode cX3_pinnedSquares 8 = .ok (.lreturn, 1) := by decide +kernel
theorem hd_X3_pinnedSquares : yX3_pinnedSquares.cls ≠ "java/lang/invoke/MethodHandle" ∧ yX3_pinnedSquares.cls ≠ "java/lang/invoke/VarHandle" ∧ (parseMethodDescriptor yX3_pinnedSquares.desc).map (fun d => d.parameters.length) = some 0 := by decide +kernel
set_option maxHeartbeats 4000000 in
set_option maxRecDepth 100000 in
/-- pinnedSquares -/
theorem c_X3_pinnedSquares (l : Launch) {D : va_G} {cI cJ : ClassId} {A : Nat → Prop} {h0 h1 h2 a0 a1 a2 a3 h3 a4 h4 a5 : Nat} {kn op : Int32} {ow tr fu kg co pn : Int64} {ri pa ma : Int32} {pcs : Nat → Int32} {sqa : Nat → Int64} {mvs los : Nat → Int32} {lsz : Int32} {lfs : Nat → Int32} {asz : Int32} {afs : Nat → Int32} (bd : Nat → Nat) (hCP : CP pcs sqa bd) (sd : Nat) (hs2 : sd < 2) : Met l yX3_pinnedSquares (Cond.code yX3_pinnedSquares cX3_pinnedSquares 1 (some .long) :: wsL_law) (rK 3) (va_Pc [.ref h1] (IW D cI cJ A (cW cI cJ h0 h1 h2 a0 a1 a2 a3 h3 a4 h4 a5 kn op ow tr fu kg co pn (nI sd) ri pa ma pcs sqa mvs los lsz lfs asz afs))) (va_Ql (fun r _ => r = pinS bd sd) (fun (u : Unit) t9 => IW D cI cJ A (cW cI cJ h0 h1 h2 a0 a1 a2 a3 h3 a4 h4 a5 kn op (ownS bd sd) (thrS bd sd) (fulS bd sd) (kngS bd sd) (covS bd sd) (pinS bd sd) (nI sd) ri pa ma pcs sqa mvs los lsz lfs asz afs) t9) A) 0 0 A := by
  refine entM (by decide) (Nat.le_of_ble_eq_true rfl) ?_
  intro p e s m below meth c ls S0 hr hlocks hG hnm hB hl
  have hx := S0.1
  have hb := S0.2.1
  have hown := S0.2.2.2.1
  have hl : lv_has ls 1 [(0, .ref h1)] := hl
  obtain ⟨hP, hD, hK, hA, hE⟩ := hB
  have hS : va_S A s.heap s.heap [] := va_S.rf
  refine lv_aload_n hx hb dX3_pinnedSquares_0 rfl (lv_at hl 0 rfl) ?_
  refine chV (rnV (As := []) (rest := []) S0 (c_X3_survey l bd hCP sd hs2) wm_X3_37 wi_X3_survey ws_X3_survey wn_X3 wc_X3_survey hd_X3_survey ⟨rfl, rfl, by decide, by decide⟩ IW.blind (va_recv hK hP (ci := 2) (q0 := 1) rfl rfl) (IW.at hP hD hK hA hE hS) hl.1 (Nat.le_of_ble_eq_true rfl) dX3_pinnedSquares_1 rfl ⟨by decide, by decide⟩) hS (fun u_2 H locs hu hP hD hS => ?_)
  obtain ⟨hu1, hu2⟩ := hu
  rw [hu1, hu2] at hP hD
  have hP : va_P D classes (cW cI cJ h0 h1 h2 a0 a1 a2 a3 h3 a4 h4 a5 kn op (ownS bd sd) (thrS bd sd) (fulS bd sd) (kngS bd sd) (covS bd sd) (pinS bd sd) (nI sd) ri pa ma pcs sqa mvs los lsz lfs asz afs) H := hP
  have hD : va_D A (cW cI cJ h0 h1 h2 a0 a1 a2 a3 h3 a4 h4 a5 kn op (ownS bd sd) (thrS bd sd) (fulS bd sd) (kngS bd sd) (covS bd sd) (pinS bd sd) (nI sd) ri pa ma pcs sqa mvs los lsz lfs asz afs) := hD
  refine lv_aload_n hx hb dX3_pinnedSquares_4 rfl (lv_at hl 0 rfl) ?_
  refine va_get (D := D) (ci := 2) (v := .long (pinS bd sd)) (C := RX3) (T := TX3) (N := 7) hx hb hG wu_X3 hown hK hP 1 rfl rfl 6 (by decide) (hG _ wf_X3_34) (fun _ h9 => h9) rfl dX3_pinnedSquares_5 ?_
  exact weL (()) hx hb hr hlocks dX3_pinnedSquares_8 rfl hP hD hK hA hE hS
theorem dX3_isPawn_0 : decode cX3_isPawn 0 = .ok (.aload_n 0, 1) := by decide +kernel
theorem dX3_isPawn_1 : decode cX3_isPawn 1 = .ok (.getfield 12, 3) := by decide +kernel
theorem dX3_isPawn_4 : decode cX3_isPawn 4 = .ok (.iload_n 1, 1) := by decide +kernel
theorem dX3_isPawn_5 : decode cX3_isPawn 5 = .ok (.invokevirtual 73, 3) := by decide +kernel
theorem dX3_isPawn_8 : decode cX3_isPawn 8 = .ok (.invokestatic 77, 3) := by decide +kernel
theorem dX3_isPawn_11 : decode cX3_isPawn 11 = .ok (.iconst 1, 1) := by decide +kernel
theorem dX3_isPawn_12 : decode cX3_isPawn 12 = .ok (.if_icmp .ne 7, 3) := by decide +kernel
theorem dX3_isPawn_15 : decode cX3_isPawn 15 = .ok (.iconst 1, 1) := by decide +kernel
theorem dX3_isPawn_16 : decode cX3_isPawn 16 = .ok (.goto 4, 3) := by decide +kernel
theorem dX3_isPawn_19 : decode cX3_isPawn 19 = .ok (.iconst 0, 1) := by decide +kernel
theorem dX3_isPawn_20 : decode cX3_isPawn 20 = .ok (.ireturn, 1) := by decide +kernel
theorem hd_X3_isPawn : yX3_isPawn.cls ≠ "java/lang/invoke/MethodHandle" ∧ yX3_isPawn.cls ≠ "java/lang/invoke/VarHandle" ∧ (parseMethodDescriptor yX3_isPawn.desc).map (fun d => d.parameters.length) = some 1 := by decide +kernel
set_option maxHeartbeats 4000000 in
set_option maxRecDepth 100000 in
/-- isPawn -/
theorem c_X3_isPawn (l : Launch) {D : va_G} {cI cJ : ClassId} {A : Nat → Prop} {h0 h1 h2 a0 a1 a2 a3 h3 a4 h4 a5 : Nat} {kn op : Int32} {ow tr fu kg co pn : Int64} {si ri pa ma : Int32} {pcs : Nat → Int32} {sqa : Nat → Int64} {mvs los : Nat → Int32} {lsz : Int32} {lfs : Nat → Int32} {asz : Int32} {afs : Nat → Int32} (bd : Nat → Nat) (hCP : CP pcs sqa bd) (q : Nat) (hq : q < 64) : Met l yX3_isPawn (Cond.code yX3_isPawn cX3_isPawn 2 (some .boolean) :: wsL_law) (rK 1) (va_Pc [.ref h1, .int (nI q)] (IW D cI cJ A (cW cI cJ h0 h1 h2 a0 a1 a2 a3 h3 a4 h4 a5 kn op ow tr fu kg co pn si ri pa ma pcs sqa mvs los lsz lfs asz afs))) (vp_Si (fun r => r = bI (decide (kd (bd q) = 1)))) 0 0 (fun _ => False) := by
  refine entM (by decide) (Nat.le_of_ble_eq_true rfl) ?_
  intro p e s m below meth c ls S0 hr hlocks hG hnm hB hl
  have hx := S0.1
  have hb := S0.2.1
  have hown := S0.2.2.2.1
  have hl : lv_has ls 2 [(0, .ref h1), (1, .int (nI q))] := hl
  obtain ⟨hP, hD, hK, hA, hE⟩ := hB
  have hS : va_S A s.heap s.heap [] := va_S.rf
  have hbq := (hCP.1 q hq).2
  have hkd := kd_lt hbq
  refine lv_aload_n hx hb dX3_isPawn_0 rfl (lv_at hl 0 rfl) ?_
  refine va_get (D := D) (ci := 2) (v := .ref h2) (C := RX3) (T := TX3) (N := 7) hx hb hG wu_X3 hown hK hP 1 rfl rfl 0 (by decide) (hG _ wf_X3_12) (fun _ h9 => h9) rfl dX3_isPawn_1 ?_
  refine lv_iload_n hx hb dX3_isPawn_4 rfl (lv_at hl 1 rfl) ?_
  refine roI (rnV (As := [.int (nI q)]) (rest := []) S0 (c_X2_pieceOn l bd hCP q (by omega)) wm_X3_73 wi_X2_pieceOn ws_X2_pieceOn wn_X2 wc_X2_pieceOn hd_X2_pieceOn ⟨rfl, rfl, by decide, by decide⟩ IW.blind (va_recv hK hP (ci := 1) (q0 := 2) rfl rfl) (IW.at hP hD hK hA hE hS) hl.1 (Nat.le_of_ble_eq_true rfl) dX3_isPawn_5 rfl ⟨by decide, by decide⟩) (fun r_1 hr_1 => ?_)
  subst hr_1
  refine roI (rnSN (host := RX4) (As := [.int (nI (bd q))]) (rest := []) S0 (c_X4_typeOf l (bd q) (by omega)) (nl_X3_77 hE.1) wt_X4_typeOf wn_X4 wc_X4_typeOf hd_X4_typeOf ⟨rfl, rfl, by decide, by decide⟩ True.blind (fun _ _ _ => trivial) hl.1 (Nat.le_of_ble_eq_true rfl) dX3_isPawn_8 rfl ⟨by decide, by decide⟩) (fun r_2 hr_2 => ?_)
  subst hr_2
  refine lv_iconst (v := (nI 1)) hx hb dX3_isPawn_11 (by decide) ?_
  refine ln_icmp_ne (tgt := 19) hx hb dX3_isPawn_12 (by decide) (by omega) (by decide) (fun c12 => ?_) (fun c12 => ?_)
  · skip
    refine lv_iconst (v := (nI 0)) hx hb dX3_isPawn_19 (by decide) ?_
    exact reZ (v := false) hx hb hr hlocks dX3_isPawn_20 (congrArg bI (by first | rw [decide_eq_true c12] | rw [decide_eq_false c12]))
  · skip
    refine lv_iconst (v := (nI 1)) hx hb dX3_isPawn_15 (by decide) ?_
    refine lv_goto (tgt := 20) hx hb dX3_isPawn_16 (by decide) ?_
    exact reZ (v := true) hx hb hr hlocks dX3_isPawn_20 (congrArg bI (by first | rw [decide_eq_true c12] | rw [decide_eq_false c12]))

theorem dX5_listAt_0 : decode cX5_listAt 0 = .ok (.aload_n 0, 1) := by decide +kernel
theorem dX5_listAt_1 : decode cX5_listAt 1 = .ok (.iload_n 1, 1) := by decide +kernel
theorem dX5_listAt_2 : decode cX5_listAt 2 = .ok (.iconst 0, 1) := by decide +kernel
theorem dX5_listAt_3 : decode cX5_listAt 3 = .ok (.invokevirtual 93, 3) := by decide +kernel
theorem dX5_listAt_6 : decode cX5_listAt 6 = .ok (.istore_n 3, 1) := by decide +kernel
theorem dX5_listAt_7 : decode cX5_listAt 7 = .ok (.iload_n 2, 1) := by decide +kernel
theorem dX5_listAt_8 : decode cX5_listAt 8 = .ok (.iload_n 3, 1) := by decide +kernel
theorem dX5_listAt_9 : decode cX5_listAt 9 = .ok (.if_icmp .ge 12, 3) := by decide +kernel
theorem dX5_listAt_12 : decode cX5_listAt 12 = .ok (.aload_n 0, 1) := by decide +kernel
theorem dX5_listAt_13 : decode cX5_listAt 13 = .ok (.getfield 19, 3) := by decide +kernel
theorem dX5_listAt_16 : decode cX5_listAt 16 = .ok (.iload_n 2, 1) := by decide +kernel
theorem dX5_listAt_17 : decode cX5_listAt 17 = .ok (.iaload, 1) := by decide +kernel
theorem dX5_listAt_18 : decode cX5_listAt 18 = .ok (.goto 4, 3) := by decide +kernel
theorem dX5_listAt_21 : decode cX5_listAt 21 = .ok (.iconst 0, 1) := by decide +kernel
theorem dX5_listAt_22 : decode cX5_listAt 22 = .ok (.ireturn, 1) := by decide +kernel
theorem hd_X5_listAt : yX5_listAt.cls ≠ "java/lang/invoke/MethodHandle" ∧ yX5_listAt.cls ≠ "java/lang/invoke/VarHandle" ∧ (parseMethodDescriptor yX5_listAt.desc).map (fun d => d.parameters.length) = some 2 := by decide +kernel
set_option maxHeartbeats 4000000 in
set_option maxRecDepth 100000 in
/-- listAt -/
theorem c_X5_listAt (l : Launch) {D : va_G} {cI cJ : ClassId} {A : Nat → Prop} {hm b0 b1 b2 b3 : Nat} {th mk sz : Int32} {F mv kp li : Nat → Int32} (bd : Nat → Nat) (sd rt ps b : Nat) (hb9 : b ≤ 200) (hBd : Bd F b bd sd rt ps) (hkg : kgs bd sd < 64) (hLen : (legs bd sd rt ps).length ≤ 1024) (i : Nat) (hi : i < (legs bd sd rt ps).length) : Met l yX5_listAt (Cond.code yX5_listAt cX5_listAt 4 (some .int) :: wsL_law) (rK 7) (va_Pc [.ref hm, .int (nI b), .int (nI i)] (IW D cI cJ A (rW cI hm b0 b1 b2 b3 th mk sz F mv kp li))) (va_Qi (fun r u => r = nI ((legs bd sd rt ps).getD i 0) ∧ Ag F u.1 (b + 67) ∧ LI u.2 (legs bd sd rt ps)) (fun (u : (Nat → Int32) × (Nat → Int32)) t => IW D cI cJ A (rW cI hm b0 b1 b2 b3 th mk sz u.1 mv kp u.2) t) A) 0 0 A := by
  refine entM (by decide) (Nat.le_of_ble_eq_true rfl) ?_
  intro p e s m below meth c ls S0 hr hlocks hG hnm hB hl
  have hx := S0.1
  have hb := S0.2.1
  have hown := S0.2.2.2.1
  have hl : lv_has ls 4 [(0, .ref hm), (1, .int (nI b)), (2, .int (nI i))] := hl
  obtain ⟨hP, hD, hK, hA, hE⟩ := hB
  have hS : va_S A s.heap s.heap [] := va_S.rf
  refine lv_aload_n hx hb dX5_listAt_0 rfl (lv_at hl 0 rfl) ?_
  refine lv_iload_n hx hb dX5_listAt_1 rfl (lv_at hl 1 rfl) ?_
  refine lv_iconst (v := (nI 0)) hx hb dX5_listAt_2 (by decide) ?_
  refine chI (rnV (As := [.int (nI b), .int (nI 0)]) (rest := []) S0 (c_X5_listed l bd sd rt ps b hb9 hBd hkg hLen) wm_X5_93 wi_X5_listed ws_X5_listed wn_X5 wc_X5_listed hd_X5_listed ⟨rfl, rfl, by decide, by decide⟩ IW.blind (va_recv hK hP (ci := 4) (q0 := 0) rfl rfl) (IW.at hP hD hK hA hE hS) hl.1 (Nat.le_of_ble_eq_true rfl) dX5_listAt_3 rfl ⟨by decide, by decide⟩) hS (fun r_1 u_2 H locs hu hP hD hS => ?_)
  obtain ⟨he9, hA9, hL9⟩ := hu
  subst he9
  have hP : va_P D classes (rW cI hm b0 b1 b2 b3 th mk sz u_2.1 mv kp u_2.2) H := hP
  have hD : va_D A (rW cI hm b0 b1 b2 b3 th mk sz u_2.1 mv kp u_2.2) := hD
  refine lv_istore_n (lv' := [(3, .int (nI ((legs bd sd rt ps).length))), (0, .ref hm), (1, .int (nI b)), (2, .int (nI i))]) hx hb dX5_listAt_6 rfl hl (by decide) rfl (fun ls hl => ?_)
  refine lv_iload_n hx hb dX5_listAt_7 rfl (lv_at hl 3 rfl) ?_
  refine lv_iload_n hx hb dX5_listAt_8 rfl (lv_at hl 0 rfl) ?_
  refine ln_icmp_ge (tgt := 21) hx hb dX5_listAt_9 (by decide) (by omega) (by omega) (fun c9 => ?_) (fun c9 => ?_)
  · skip
    exact absurd c9 (by omega)
  · skip
    refine lv_aload_n hx hb dX5_listAt_12 rfl (lv_at hl 1 rfl) ?_
    refine va_get (D := D) (ci := 4) (v := .ref b3) (C := RX5) (T := TX5) (N := 7) hx hb hG wu_X5 hown hK hP 0 rfl rfl 6 (by decide) (hG _ wf_X5_19) (fun _ h9 => h9) rfl dX5_listAt_13 ?_
    refine lv_iload_n hx hb dX5_listAt_16 rfl (lv_at hl 3 rfl) ?_
    refine va_iald hx hb hK hP 4 0 rfl rfl (vp_in_nI (by omega) (by decide)) dX5_listAt_17 ?_
    refine W.top (y := .int (u_2.2 i)) (congrArg (fun z => Value.int (u_2.2 z)) (nI_clamp (by omega))) ?_
    refine W.top (y := .int (nI ((legs bd sd rt ps).getD i 0))) (congrArg Value.int (hL9 i hi)) ?_
    refine lv_goto (tgt := 22) hx hb dX5_listAt_18 (by decide) ?_
    exact weI ((u_2.1, u_2.2)) hx hb hr hlocks dX5_listAt_22 ⟨rfl, hA9, hL9⟩ hP hD hK hA hE hS
theorem dX5_deeper_0 : decode cX5_deeper 0 = .ok (.lconst 0, 1) := by decide +kernel
theorem dX5_deeper_1 : decode cX5_deeper 1 = .ok (.lstore_n 2, 1) := by decide +kernel
theorem dX5_deeper_2 : decode cX5_deeper 2 = .ok (.iconst 0, 1) := by decide +kernel
theorem dX5_deeper_3 : decode cX5_deeper 3 = .ok (.istore 4, 2) := by decide +kernel
theorem dX5_deeper_5 : decode cX5_deeper 5 = .ok (.iload 4, 2) := by decide +kernel
theorem dX5_deeper_7 : decode cX5_deeper 7 = .ok (.iload_n 1, 1) := by decide +kernel
theorem dX5_deeper_8 : decode cX5_deeper 8 = .ok (.if_icmp .ge 42, 3) := by decide +kernel
theorem dX5_deeper_11 : decode cX5_deeper 11 = .ok (.aload_n 0, 1) := by decide +kernel
theorem dX5_deeper_12 : decode cX5_deeper 12 = .ok (.bipush 67, 2) := by decide +kernel
theorem dX5_deeper_14 : decode cX5_deeper 14 = .ok (.iload 4, 2) := by decide +kernel
theorem dX5_deeper_16 : decode cX5_deeper 16 = .ok (.invokevirtual 106, 3) := by decide +kernel
theorem dX5_deeper_19 : decode cX5_deeper 19 = .ok (.istore 5, 2) := by decide +kernel
theorem dX5_deeper_21 : decode cX5_deeper 21 = .ok (.aload_n 0, 1) := by decide +kernel
theorem dX5_deeper_22 : decode cX5_deeper 22 = .ok (.bipush 67, 2) := by decide +kernel
theorem dX5_deeper_24 : decode cX5_deeper 24 = .ok (.sipush 134, 3) := by decide +kernel
theorem dX5_deeper_27 : decode cX5_deeper 27 = .ok (.iload 5, 2) := by decide +kernel
theorem dX5_deeper_29 : decode cX5_deeper 29 = .ok (.invokevirtual 86, 3) := by decide +kernel
theorem dX5_deeper_32 : decode cX5_deeper 32 = .ok (.lload_n 2, 1) := by decide +kernel
theorem dX5_deeper_33 : decode cX5_deeper 33 = .ok (.aload_n 0, 1) := by decide +kernel
theorem dX5_deeper_34 : decode cX5_deeper 34 = .ok (.sipush 134, 3) := by decide +kernel
theorem dX5_deeper_37 : decode cX5_deeper 37 = .ok (.iconst 0, 1) := by decide +kernel
theorem dX5_deeper_38 : decode cX5_deeper 38 = .ok (.invokevirtual 93, 3) := by decide +kernel
theorem dX5_deeper_41 : decode cX5_deeper 41 = .ok (.i2l, 1) := by decide +kernel
theorem dX5_deeper_42 : decode cX5_deeper 42 = .ok (.ladd, 1) := by decide +kernel
theorem dX5_deeper_43 : decode cX5_deeper 43 = .ok (.lstore_n 2, 1) := by decide +kernel
theorem dX5_deeper_44 : decode cX5_deeper 44 = .ok (.iinc 4 1, 3) := by decide +kernel
theorem dX5_deeper_47 : decode cX5_deeper 47 = .ok (.goto (-42), 3) := by decide +kernel
theorem dX5_deeper_50 : decode cX5_deeper 50 = .ok (.lload_n 2, 1) := by decide +kernel
theorem dX5_deeper_51 : decode cX5_deeper 51 = .ok (.lreturn, 1) := by decide +kernel
theorem hd_X5_deeper : yX5_deeper.cls ≠ "java/lang/invoke/MethodHandle" ∧ yX5_deeper.cls ≠ "java/lang/invoke/VarHandle" ∧ (parseMethodDescriptor yX5_deeper.desc).map (fun d => d.parameters.length) = some 1 := by decide +kernel
set_option maxHeartbeats 4000000 in
set_option maxRecDepth 100000 in
/-- deeper -/
theorem c_X5_deeper (l : Launch) {D : va_G} {cI cJ : ClassId} {A : Nat → Prop} {hm b0 b1 b2 b3 : Nat} {th mk sz : Int32} {F mv kp li : Nat → Int32} (bd : Nat → Nat) (sd rt ps : Nat) (hLA : LenOK) (hBd : Bd F 67 bd sd rt ps) (hkg : ∀ w, w < 2 → kgs bd w < 64) : Met l yX5_deeper (Cond.code yX5_deeper cX5_deeper 6 (some .long) :: wsL_law) (rK 8) (va_Pc [.ref hm, .int (nI ((legs bd sd rt ps).length))] (IW D cI cJ A (rW cI hm b0 b1 b2 b3 th mk sz F mv kp li))) (va_Ql (fun r u => r = lN (cn2 bd sd rt ps) ∧ ∀ j, j < 134 → u.1 j = F j) (fun (u : (Nat → Int32) × (Nat → Int32)) t => IW D cI cJ A (rW cI hm b0 b1 b2 b3 th mk sz u.1 mv kp u.2) t) A) 0 0 A := by
  refine entM (by decide) (Nat.le_of_ble_eq_true rfl) ?_
  intro p e s m below meth c ls S0 hr hlocks hG hnm hB hl
  have hx := S0.1
  have hb := S0.2.1
  have hown := S0.2.2.2.1
  have hl : lv_has ls 6 [(0, .ref hm), (1, .int (nI ((legs bd sd rt ps).length)))] := hl
  obtain ⟨hP, hD, hK, hA, hE⟩ := hB
  have hS : va_S A s.heap s.heap [] := va_S.rf
  have hs2 := hBd.2.2.1
  have hLn := hLA.le hBd
  refine lv_lconst (v := 0) hx hb dX5_deeper_0 (by decide) ?_
  refine W.top (y := .long (lN (smT (legs bd sd rt ps) (fun y => cn1 (nB bd sd ps y) (1 - sd) (nR bd sd rt y) (nP bd sd ps y)) 0))) (congrArg Value.long rfl) ?_
  refine lv_lstore_n (lv' := [(2, .long (lN (smT (legs bd sd rt ps) (fun y => cn1 (nB bd sd ps y) (1 - sd) (nR bd sd rt y) (nP bd sd ps y)) 0))), (0, .ref hm), (1, .int (nI ((legs bd sd rt ps).length)))]) hx hb dX5_deeper_1 rfl hl (by decide) rfl (fun ls hl => ?_)
  refine lv_iconst (v := (nI 0)) hx hb dX5_deeper_2 (by decide) ?_
  refine lv_istore (lv' := [(4, .int (nI 0)), (2, .long (lN (smT (legs bd sd rt ps) (fun y => cn1 (nB bd sd ps y) (1 - sd) (nR bd sd rt y) (nP bd sd ps y)) 0))), (0, .ref hm), (1, .int (nI ((legs bd sd rt ps).length)))]) hx hb dX5_deeper_3 hl (by decide) rfl (fun ls hl => ?_)
  refine lpW (σ := (Nat) × (Nat → Int32) × (Nat → Int32)) 5 6 [] (fun x9 => [(0, .ref hm), (1, .int (nI ((legs bd sd rt ps).length))), (2, .long (lN (smT (legs bd sd rt ps) (fun y => cn1 (nB bd sd ps y) (1 - sd) (nR bd sd rt y) (nP bd sd ps y)) x9.1))), (4, .int (nI x9.1))]) (fun x9 => rW cI hm b0 b1 b2 b3 th mk sz x9.2.1 mv kp x9.2.2) (fun x9 => x9.1 ≤ (legs bd sd rt ps).length ∧ ∀ j, j < 134 → x9.2.1 j = F j) (fun x9 => (legs bd sd rt ps).length - x9.1) (0, F, li) ⟨Nat.zero_le _, fun _ _ => rfl⟩ (lv_sub hl [2, 3, 1, 0] rfl) hP hD hS ?_
  clear hP hD hS hl ls
  rintro ⟨i, G, M⟩ H locs hI hP hD hS ih_5 ls hl
  try dsimp only at hI ih_5 hl hP hD
  obtain ⟨hi, hsm⟩ := hI
  refine lv_iload hx hb dX5_deeper_5 (lv_at hl 3 rfl) ?_
  refine lv_iload_n hx hb dX5_deeper_7 rfl (lv_at hl 1 rfl) ?_
  refine ln_icmp_ge (tgt := 50) hx hb dX5_deeper_8 (by decide) (by omega) (by omega) (fun c8 => ?_) (fun c8 => ?_)
  · skip
    refine lv_lload_n hx hb dX5_deeper_50 rfl (lv_at hl 2 rfl) ?_
    exact weL ((G, M)) hx hb hr hlocks dX5_deeper_51 ⟨by rw [show i = (legs bd sd rt ps).length by omega, smT_all]; rfl, hsm⟩ hP hD hK hA hE hS
  · skip
    have hi : i < (legs bd sd rt ps).length := by omega
    have hBg : Bd G 67 bd sd rt ps := Bd_cp hBd (fun j hj => hsm _ (by omega))
    obtain ⟨f, t, k, hf, ht, hk, hy, hlg⟩ := legs_of (getD_mem hi)
    obtain ⟨y1, y2, y3, y4, y5⟩ := nB_e (bd := bd) (sd := sd) (ps := ps) hf ht hy
    have hgo := (pre_go (lgl_pre hlg).1).1
    refine lv_aload_n hx hb dX5_deeper_11 rfl (lv_at hl 0 rfl) ?_
    refine lv_bipush (v := (nI 67)) hx hb dX5_deeper_12 (by decide) ?_
    refine lv_iload hx hb dX5_deeper_14 (lv_at hl 3 rfl) ?_
    refine chI (rnV (As := [.int (nI 67), .int (nI i)]) (rest := []) S0 (c_X5_listAt l bd sd rt ps 67 (by decide) hBg (hkg _ hs2) hLn i hi) wm_X5_106 wi_X5_listAt ws_X5_listAt wn_X5 wc_X5_listAt hd_X5_listAt ⟨rfl, rfl, by decide, by decide⟩ IW.blind (va_recv hK hP (ci := 4) (q0 := 0) rfl rfl) (IW.at hP hD hK hA hE hS) hl.1 (Nat.le_of_ble_eq_true rfl) dX5_deeper_16 rfl ⟨by decide, by decide⟩) hS (fun r_1 u1 H locs hu hP hD hS => ?_)
    obtain ⟨he9, hA9, hL9⟩ := hu
    subst he9
    have hP : va_P D classes (rW cI hm b0 b1 b2 b3 th mk sz u1.1 mv kp u1.2) H := hP
    have hD : va_D A (rW cI hm b0 b1 b2 b3 th mk sz u1.1 mv kp u1.2) := hD
    refine W.top (y := .int (nI (f + 64 * t + 4096 * k))) (congrArg Value.int (congrArg nI hy)) ?_
    have hA8 := hA9
    have hB1 := hA8.Bd (by decide) hBg
    refine lv_istore (lv' := [(5, .int (nI (f + 64 * t + 4096 * k))), (0, .ref hm), (1, .int (nI ((legs bd sd rt ps).length))), (2, .long (lN (smT (legs bd sd rt ps) (fun y => cn1 (nB bd sd ps y) (1 - sd) (nR bd sd rt y) (nP bd sd ps y)) i))), (4, .int (nI i))]) hx hb dX5_deeper_19 hl (by decide) rfl (fun ls hl => ?_)
    refine lv_aload_n hx hb dX5_deeper_21 rfl (lv_at hl 1 rfl) ?_
    refine lv_bipush (v := (nI 67)) hx hb dX5_deeper_22 (by decide) ?_
    refine lv_sipush (v := (nI 134)) hx hb dX5_deeper_24 (by decide) ?_
    refine lv_iload hx hb dX5_deeper_27 (lv_at hl 0 rfl) ?_
    refine chV (rnV (As := [.int (nI 67), .int (nI 134), .int (nI (f + 64 * t + 4096 * k))]) (rest := []) S0 (c_X5_behind l bd sd rt ps 67 134 f t k (by decide) (by decide) hf ht hk hgo hB1) wm_X5_86 wi_X5_behind ws_X5_behind wn_X5 wc_X5_behind hd_X5_behind ⟨rfl, rfl, by decide, by decide⟩ IW.blind (va_recv hK hP (ci := 4) (q0 := 0) rfl rfl) (IW.at hP hD hK hA hE hS) hl.1 (Nat.le_of_ble_eq_true rfl) dX5_deeper_29 rfl ⟨by decide, by decide⟩) hS (fun u2 H locs hu hP hD hS => ?_)
    obtain ⟨hBn, hAn⟩ := hu
    have hP : va_P D classes (rW cI hm b0 b1 b2 b3 th mk sz u2 mv kp u1.2) H := hP
    have hD : va_D A (rW cI hm b0 b1 b2 b3 th mk sz u2 mv kp u1.2) := hD
    refine lv_lload_n hx hb dX5_deeper_32 rfl (lv_at hl 3 rfl) ?_
    refine lv_aload_n hx hb dX5_deeper_33 rfl (lv_at hl 1 rfl) ?_
    refine lv_sipush (v := (nI 134)) hx hb dX5_deeper_34 (by decide) ?_
    refine lv_iconst (v := (nI 0)) hx hb dX5_deeper_37 (by decide) ?_
    refine chI (rnV (As := [.int (nI 134), .int (nI 0)]) (rest := [.long (lN (smT (legs bd sd rt ps) (fun y => cn1 (nB bd sd ps y) (1 - sd) (nR bd sd rt y) (nP bd sd ps y)) i))]) S0 (c_X5_listed l (bhB bd sd ps f t k) (1 - sd) (bhR bd sd rt f t) (bhP bd sd ps f t k) 134 (by decide) hBn (lgl_kg hBd.lt hs2 (by omega) hf ht hk hlg (hkg _ (by omega))) (hLA.le hBn)) wm_X5_93 wi_X5_listed ws_X5_listed wn_X5 wc_X5_listed hd_X5_listed ⟨rfl, rfl, by decide, by decide⟩ IW.blind (va_recv hK hP (ci := 4) (q0 := 0) rfl rfl) (IW.at hP hD hK hA hE hS) hl.1 (Nat.le_of_ble_eq_true rfl) dX5_deeper_38 rfl ⟨by decide, by decide⟩) hS (fun r_3 u3 H locs hu hP hD hS => ?_)
    obtain ⟨he9, hA9, hL9⟩ := hu
    subst he9
    have hP : va_P D classes (rW cI hm b0 b1 b2 b3 th mk sz u3.1 mv kp u3.2) H := hP
    have hD : va_D A (rW cI hm b0 b1 b2 b3 th mk sz u3.1 mv kp u3.2) := hD
    have hl7 := hLA.le hBn
    refine lv_i2l hx hb dX5_deeper_41 rfl ?_
    refine W.top (y := .long (lN (legs (bhB bd sd ps f t k) (1 - sd) (bhR bd sd rt f t) (bhP bd sd ps f t k)).length)) (congrArg Value.long (nI_l (by omega))) ?_
    refine lv_ladd hx hb dX5_deeper_42 ?_
    refine W.top (y := .long (lN (smT (legs bd sd rt ps) (fun y => cn1 (nB bd sd ps y) (1 - sd) (nR bd sd rt y) (nP bd sd ps y)) (i + 1)))) (congrArg Value.long (by rw [lN_add, smT_s hi]; unfold cn1 nR; rw [y4, y5, y1, y2])) ?_
    refine lv_lstore_n (lv' := [(2, .long (lN (smT (legs bd sd rt ps) (fun y => cn1 (nB bd sd ps y) (1 - sd) (nR bd sd rt y) (nP bd sd ps y)) (i + 1)))), (5, .int (nI (f + 64 * t + 4096 * k))), (0, .ref hm), (1, .int (nI ((legs bd sd rt ps).length))), (4, .int (nI i))]) hx hb dX5_deeper_43 rfl hl (by decide) rfl (fun ls hl => ?_)
    refine lv_iinc (v := (nI (i + 1))) (lv' := [(4, .int (nI (i + 1))), (2, .long (lN (smT (legs bd sd rt ps) (fun y => cn1 (nB bd sd ps y) (1 - sd) (nR bd sd rt y) (nP bd sd ps y)) (i + 1)))), (5, .int (nI (f + 64 * t + 4096 * k))), (0, .ref hm), (1, .int (nI ((legs bd sd rt ps).length)))]) hx hb dX5_deeper_44 hl (k := 4) rfl (show nI i + Int32.ofInt 1 = nI (i + 1) from nI_add _ 1) (by decide) rfl (fun ls hl => ?_)
    refine lv_goto (tgt := 5) hx hb dX5_deeper_47 (by decide) ?_
    exact ih_5 ((i + 1), u3.1, u3.2) _ _ ⟨by omega, fun j hj => ((hA9 j (by omega)).trans (hAn j (by omega))).trans ((hA8 j (by omega)).trans (hsm j hj))⟩ (by (try dsimp only); omega) hP hD hS ls (lv_sub hl [3, 4, 1, 0] rfl)
theorem dX5_kind_0 : decode cX5_kind 0 = .ok (.aload_n 0, 1) := by decide +kernel
theorem dX5_kind_1 : decode cX5_kind 1 = .ok (.aload_n 0, 1) := by decide +kernel
theorem dX5_kind_2 : decode cX5_kind 2 = .ok (.invokevirtual 99, 3) := by decide +kernel
theorem dX5_kind_5 : decode cX5_kind 5 = .ok (.putfield 22, 3) := by decide +kernel
theorem dX5_kind_8 : decode cX5_kind 8 = .ok (.aload_n 0, 1) := by decide +kernel
theorem dX5_kind_9 : decode cX5_kind 9 = .ok (.aload_n 0, 1) := by decide +kernel
theorem dX5_kind_10 : decode cX5_kind 10 = .ok (.getfield 22, 3) := by decide +kernel
theorem dX5_kind_13 : decode cX5_kind 13 = .ok (.ifCond .ne 15, 3) := by decide +kernel
theorem dX5_kind_16 : decode cX5_kind 16 = .ok (.aload_n 0, 1) := by decide +kernel
theorem dX5_kind_17 : decode cX5_kind 17 = .ok (.iload_n 1, 1) := by decide +kernel
theorem dX5_kind_18 : decode cX5_kind 18 = .ok (.invokevirtual 103, 3) := by decide +kernel
theorem dX5_kind_21 : decode cX5_kind 21 = .ok (.ifCond .ge 7, 3) := by decide +kernel
theorem dX5_kind_24 : decode cX5_kind 24 = .ok (.iconst 2, 1) := by decide +kernel
theorem dX5_kind_25 : decode cX5_kind 25 = .ok (.goto 7, 3) := by decide +kernel
theorem dX5_kind_28 : decode cX5_kind 28 = .ok (.aload_n 0, 1) := by decide +kernel
theorem dX5_kind_29 : decode cX5_kind 29 = .ok (.getfield 22, 3) := by decide +kernel
theorem dX5_kind_32 : decode cX5_kind 32 = .ok (.putfield 22, 3) := by decide +kernel
theorem dX5_kind_35 : decode cX5_kind 35 = .ok (.aload_n 0, 1) := by decide +kernel
theorem dX5_kind_36 : decode cX5_kind 36 = .ok (.getfield 22, 3) := by decide +kernel
theorem dX5_kind_39 : decode cX5_kind 39 = .ok (.ifCond .le 5, 3) := by decide +kernel
theorem dX5_kind_42 : decode cX5_kind 42 = .ok (.iconst 0, 1) := by decide +kernel
theorem dX5_kind_43 : decode cX5_kind 43 = .ok (.ireturn, 1) := by decide +kernel
theorem dX5_kind_44 : decode cX5_kind 44 = .ok (.iload_n 1, 1) := by decide +kernel
theorem dX5_kind_45 : decode cX5_kind 45 = .ok (.bipush 64, 2) := by decide +kernel
theorem dX5_kind_47 : decode cX5_kind 47 = .ok (.irem, 1) := by decide +kernel
theorem dX5_kind_48 : decode cX5_kind 48 = .ok (.istore_n 2, 1) := by decide +kernel
theorem dX5_kind_49 : decode cX5_kind 49 = .ok (.iload_n 1, 1) := by decide +kernel
theorem dX5_kind_50 : decode cX5_kind 50 = .ok (.bipush 64, 2) := by decide +kernel
theorem dX5_kind_52 : decode cX5_kind 52 = .ok (.idiv, 1) := by decide +kernel
theorem dX5_kind_53 : decode cX5_kind 53 = .ok (.bipush 64, 2) := by decide +kernel
theorem dX5_kind_55 : decode cX5_kind 55 = .ok (.irem, 1) := by decide +kernel
theorem dX5_kind_56 : decode cX5_kind 56 = .ok (.istore_n 3, 1) := by decide +kernel
theorem dX5_kind_57 : decode cX5_kind 57 = .ok (.aload_n 0, 1) := by decide +kernel
theorem dX5_kind_58 : decode cX5_kind 58 = .ok (.getfield 7, 3) := by decide +kernel
theorem dX5_kind_61 : decode cX5_kind 61 = .ok (.iload_n 2, 1) := by decide +kernel
theorem dX5_kind_62 : decode cX5_kind 62 = .ok (.iaload, 1) := by decide +kernel
theorem dX5_kind_63 : decode cX5_kind 63 = .ok (.invokestatic 40, 3) := by decide +kernel
theorem dX5_kind_66 : decode cX5_kind 66 = .ok (.istore 4, 2) := by decide +kernel
theorem dX5_kind_68 : decode cX5_kind 68 = .ok (.iload 4, 2) := by decide +kernel
theorem dX5_kind_70 : decode cX5_kind 70 = .ok (.iconst 1, 1) := by decide +kernel
theorem dX5_kind_71 : decode cX5_kind 71 = .ok (.if_icmp .ne 17, 3) := by decide +kernel
theorem dX5_kind_74 : decode cX5_kind 74 = .ok (.aload_n 0, 1) := by decide +kernel
theorem dX5_kind_75 : decode cX5_kind 75 = .ok (.iconst 0, 1) := by decide +kernel
theorem dX5_kind_76 : decode cX5_kind 76 = .ok (.iload_n 2, 1) := by decide +kernel
theorem dX5_kind_77 : decode cX5_kind 77 = .ok (.iload_n 3, 1) := by decide +kernel
theorem dX5_kind_78 : decode cX5_kind 78 = .ok (.invokevirtual 71, 3) := by decide +kernel
theorem dX5_kind_81 : decode cX5_kind 81 = .ok (.ifCond .eq 7, 3) := by decide +kernel
theorem dX5_kind_84 : decode cX5_kind 84 = .ok (.iconst 1, 1) := by decide +kernel
theorem dX5_kind_85 : decode cX5_kind 85 = .ok (.goto 4, 3) := by decide +kernel
theorem dX5_kind_88 : decode cX5_kind 88 = .ok (.iconst 0, 1) := by decide +kernel
theorem dX5_kind_89 : decode cX5_kind 89 = .ok (.istore 5, 2) := by decide +kernel
theorem dX5_kind_91 : decode cX5_kind 91 = .ok (.aload_n 0, 1) := by decide +kernel
theorem dX5_kind_92 : decode cX5_kind 92 = .ok (.getfield 7, 3) := by decide +kernel
theorem dX5_kind_95 : decode cX5_kind 95 = .ok (.iload_n 3, 1) := by decide +kernel
theorem dX5_kind_96 : decode cX5_kind 96 = .ok (.iaload, 1) := by decide +kernel
theorem dX5_kind_97 : decode cX5_kind 97 = .ok (.ifCond .gt 8, 3) := by decide +kernel
theorem dX5_kind_100 : decode cX5_kind 100 = .ok (.iload 5, 2) := by decide +kernel
theorem dX5_kind_102 : decode cX5_kind 102 = .ok (.ifCond .eq 7, 3) := by decide +kernel
theorem dX5_kind_105 : decode cX5_kind 105 = .ok (.iconst 1, 1) := by decide +kernel
theorem dX5_kind_106 : decode cX5_kind 106 = .ok (.goto 4, 3) := by decide +kernel
theorem dX5_kind_109 : decode cX5_kind 109 = .ok (.iconst 0, 1) := by decide +kernel
theorem dX5_kind_110 : decode cX5_kind 110 = .ok (.istore 6, 2) := by decide +kernel
theorem dX5_kind_112 : decode cX5_kind 112 = .ok (.iload 6, 2) := by decide +kernel
theorem dX5_kind_114 : decode cX5_kind 114 = .ok (.iload 5, 2) := by decide +kernel
theorem dX5_kind_116 : decode cX5_kind 116 = .ok (.ifCond .eq 7, 3) := by decide +kernel
theorem dX5_kind_119 : decode cX5_kind 119 = .ok (.iconst 2, 1) := by decide +kernel
theorem dX5_kind_120 : decode cX5_kind 120 = .ok (.goto 4, 3) := by decide +kernel
theorem dX5_kind_123 : decode cX5_kind 123 = .ok (.iconst 0, 1) := by decide +kernel
theorem dX5_kind_124 : decode cX5_kind 124 = .ok (.iadd, 1) := by decide +kernel
theorem dX5_kind_125 : decode cX5_kind 125 = .ok (.istore 6, 2) := by decide +kernel
theorem dX5_kind_127 : decode cX5_kind 127 = .ok (.iload 6, 2) := by decide +kernel
theorem dX5_kind_129 : decode cX5_kind 129 = .ok (.iload 4, 2) := by decide +kernel
theorem dX5_kind_131 : decode cX5_kind 131 = .ok (.bipush 6, 2) := by decide +kernel
theorem dX5_kind_133 : decode cX5_kind 133 = .ok (.if_icmp .ne 22, 3) := by decide +kernel
theorem dX5_kind_136 : decode cX5_kind 136 = .ok (.iload_n 2, 1) := by decide +kernel
theorem dX5_kind_137 : decode cX5_kind 137 = .ok (.bipush 8, 2) := by decide +kernel
theorem dX5_kind_139 : decode cX5_kind 139 = .ok (.irem, 1) := by decide +kernel
theorem dX5_kind_140 : decode cX5_kind 140 = .ok (.iload_n 3, 1) := by decide +kernel
theorem dX5_kind_141 : decode cX5_kind 141 = .ok (.bipush 8, 2) := by decide +kernel
theorem dX5_kind_143 : decode cX5_kind 143 = .ok (.irem, 1) := by decide +kernel
theorem dX5_kind_144 : decode cX5_kind 144 = .ok (.invokestatic 43, 3) := by decide +kernel
theorem dX5_kind_147 : decode cX5_kind 147 = .ok (.iconst 2, 1) := by decide +kernel
theorem dX5_kind_148 : decode cX5_kind 148 = .ok (.if_icmp .ne 7, 3) := by decide +kernel
theorem dX5_kind_151 : decode cX5_kind 151 = .ok (.iconst 4, 1) := by decide +kernel
theorem dX5_kind_152 : decode cX5_kind 152 = .ok (.goto 4, 3) := by decide +kernel
theorem dX5_kind_155 : decode cX5_kind 155 = .ok (.iconst 0, 1) := by decide +kernel
theorem dX5_kind_156 : decode cX5_kind 156 = .ok (.iadd, 1) := by decide +kernel
theorem dX5_kind_157 : decode cX5_kind 157 = .ok (.istore 6, 2) := by decide +kernel
theorem dX5_kind_159 : decode cX5_kind 159 = .ok (.iload 6, 2) := by decide +kernel
theorem dX5_kind_161 : decode cX5_kind 161 = .ok (.iload_n 1, 1) := by decide +kernel
theorem dX5_kind_162 : decode cX5_kind 162 = .ok (.sipush 4096, 3) := by decide +kernel
theorem dX5_kind_165 : decode cX5_kind 165 = .ok (.if_icmp .lt 8, 3) := by decide +kernel
theorem dX5_kind_168 : decode cX5_kind 168 = .ok (.bipush 8, 2) := by decide +kernel
theorem dX5_kind_170 : decode cX5_kind 170 = .ok (.goto 4, 3) := by decide +kernel
theorem dX5_kind_173 : decode cX5_kind 173 = .ok (.iconst 0, 1) := by decide +kernel
theorem dX5_kind_174 : decode cX5_kind 174 = .ok (.iadd, 1) := by decide +kernel
theorem dX5_kind_175 : decode cX5_kind 175 = .ok (.istore 6, 2) := by decide +kernel
theorem dX5_kind_177 : decode cX5_kind 177 = .ok (.aload_n 0, 1) := by decide +kernel
theorem dX5_kind_178 : decode cX5_kind 178 = .ok (.iconst 0, 1) := by decide +kernel
theorem dX5_kind_179 : decode cX5_kind 179 = .ok (.bipush 67, 2) := by decide +kernel
theorem dX5_kind_181 : decode cX5_kind 181 = .ok (.iload_n 1, 1) := by decide +kernel
theorem dX5_kind_182 : decode cX5_kind 182 = .ok (.invokevirtual 86, 3) := by decide +kernel
theorem dX5_kind_185 : decode cX5_kind 185 = .ok (.iload 6, 2) := by decide +kernel
theorem dX5_kind_187 : decode cX5_kind 187 = .ok (.aload_n 0, 1) := by decide +kernel
theorem dX5_kind_188 : decode cX5_kind 188 = .ok (.bipush 67, 2) := by decide +kernel
theorem dX5_kind_190 : decode cX5_kind 190 = .ok (.aload_n 0, 1) := by decide +kernel
theorem dX5_kind_191 : decode cX5_kind 191 = .ok (.getfield 7, 3) := by decide +kernel
theorem dX5_kind_194 : decode cX5_kind 194 = .ok (.sipush 131, 3) := by decide +kernel
theorem dX5_kind_197 : decode cX5_kind 197 = .ok (.iaload, 1) := by decide +kernel
theorem dX5_kind_198 : decode cX5_kind 198 = .ok (.invokevirtual 63, 3) := by decide +kernel
theorem dX5_kind_201 : decode cX5_kind 201 = .ok (.ifCond .eq 8, 3) := by decide +kernel
theorem dX5_kind_204 : decode cX5_kind 204 = .ok (.bipush 16, 2) := by decide +kernel
theorem dX5_kind_206 : decode cX5_kind 206 = .ok (.goto 4, 3) := by decide +kernel
theorem dX5_kind_209 : decode cX5_kind 209 = .ok (.iconst 0, 1) := by decide +kernel
theorem dX5_kind_210 : decode cX5_kind 210 = .ok (.iadd, 1) := by decide +kernel
theorem dX5_kind_211 : decode cX5_kind 211 = .ok (.istore 6, 2) := by decide +kernel
theorem dX5_kind_213 : decode cX5_kind 213 = .ok (.iload 6, 2) := by decide +kernel
theorem dX5_kind_215 : decode cX5_kind 215 = .ok (.aload_n 0, 1) := by decide +kernel
theorem dX5_kind_216 : decode cX5_kind 216 = .ok (.bipush 67, 2) := by decide +kernel
theorem dX5_kind_218 : decode cX5_kind 218 = .ok (.iconst 0, 1) := by decide +kernel
theorem dX5_kind_219 : decode cX5_kind 219 = .ok (.invokevirtual 93, 3) := by decide +kernel
theorem dX5_kind_222 : decode cX5_kind 222 = .ok (.ifCond .ne 8, 3) := by decide +kernel
theorem dX5_kind_225 : decode cX5_kind 225 = .ok (.bipush 32, 2) := by decide +kernel
theorem dX5_kind_227 : decode cX5_kind 227 = .ok (.goto 4, 3) := by decide +kernel
theorem dX5_kind_230 : decode cX5_kind 230 = .ok (.iconst 0, 1) := by decide +kernel
theorem dX5_kind_231 : decode cX5_kind 231 = .ok (.iadd, 1) := by decide +kernel
theorem dX5_kind_232 : decode cX5_kind 232 = .ok (.ireturn, 1) := by decide +kernel
theorem hd_X5_kind : yX5_kind.cls ≠ "java/lang/invoke/MethodHandle" ∧ yX5_kind.cls ≠ "java/lang/invoke/VarHandle" ∧ (parseMethodDescriptor yX5_kind.desc).map (fun d => d.parameters.length) = some 1 := by decide +kernel
set_option maxHeartbeats 4000000 in
set_option maxRecDepth 100000 in
/-- kind -/
theorem c_X5_kind (l : Launch) {D : va_G} {cI cJ : ClassId} {A : Nat → Prop} {hm b0 b1 b2 b3 : Nat} {th mk sz : Int32} {F mv kp li : Nat → Int32} (bd : Nat → Nat) (sd rt ps : Nat) (hBd : Bd F 0 bd sd rt ps) (hLA : LenOK) (x : Int32) : Met l yX5_kind (Cond.code yX5_kind cX5_kind 7 (some .int) :: wsL_law) (rK 9) (va_Pc [.ref hm, .int x] (IW D cI cJ A (rW cI hm b0 b1 b2 b3 th mk sz F mv kp li))) (va_Qi (fun r u => (kdc bd sd rt ps x = 0 → ∃ f t k, f < 64 ∧ t < 64 ∧ k < 6 ∧ x = nI (f + 64 * t + 4096 * k) ∧ lgl bd sd rt ps f t k = true ∧ r = nI (knd bd sd rt ps f t k)) ∧ Bd u.1 0 bd sd rt ps) (fun (u : (Nat → Int32) × (Nat → Int32)) t => IW D cI cJ A (rW cI hm b0 b1 b2 b3 (nI (kdc bd sd rt ps x)) mk (nI (szN bd sd rt ps)) u.1 mv kp u.2) t) A) 0 0 A := by
  refine entM (by decide) (Nat.le_of_ble_eq_true rfl) ?_
  intro p e s m below meth c ls S0 hr hlocks hG hnm hB hl
  have hx := S0.1
  have hb := S0.2.1
  have hown := S0.2.2.2.1
  have hl : lv_has ls 7 [(0, .ref hm), (1, .int x)] := hl
  obtain ⟨hP, hD, hK, hA, hE⟩ := hB
  have hS : va_S A s.heap s.heap [] := va_S.rf
  obtain ⟨hBp, hsd, hs2, hrt, hr16, hps, hp65⟩ := id hBd
  have hnd : ndN bd sd < 2 := by unfold ndN; split <;> omega
  have hLen : plb bd sd = true → (legs bd sd rt ps).length ≤ 1024 := fun _ => hLA.le hBd
  have hszl : szN bd sd rt ps ≤ 1024 := by unfold szN; split; exact hLA.le hBd; exact Nat.zero_le _
  have hlgl : (lgs bd sd rt ps).length ≤ 1024 := by rw [← szN_eq]; exact hszl
  refine lv_aload_n hx hb dX5_kind_0 rfl (lv_at hl 0 rfl) ?_
  refine lv_aload_n hx hb dX5_kind_1 rfl (lv_at hl 0 rfl) ?_
  refine chI (rnV (As := []) (rest := [.ref hm]) S0 (c_X5_need l bd sd rt ps hBd hLen) wm_X5_99 wi_X5_need ws_X5_need wn_X5 wc_X5_need hd_X5_need ⟨rfl, rfl, by decide, by decide⟩ IW.blind (va_recv hK hP (ci := 4) (q0 := 0) rfl rfl) (IW.at hP hD hK hA hE hS) hl.1 (Nat.le_of_ble_eq_true rfl) dX5_kind_2 rfl ⟨by decide, by decide⟩) hS (fun r_1 u1 H locs hu hP hD hS => ?_)
  obtain ⟨he9, hA9, hL9⟩ := hu
  subst he9
  have hP : va_P D classes (rW cI hm b0 b1 b2 b3 th mk (nI (szN bd sd rt ps)) u1.1 mv kp u1.2) H := hP
  have hD : va_D A (rW cI hm b0 b1 b2 b3 th mk (nI (szN bd sd rt ps)) u1.1 mv kp u1.2) := hD
  have hB8 := hA9.Bd (b := 0) (by decide) hBd
  refine va_put (D := D) (ci := 4) (v := .int (nI (ndN bd sd))) (ty := .int) (C := RX5) (T := TX5) (N := 7) hx hb hG wu_X5 tyX5 tyX5_ok nmX5 hown hK hP hD hS 0 rfl rfl 0 (by decide) (hG _ wf_X5_22) (fun _ h9 => h9) rfl (by decide +kernel) rfl rfl (Nat.le_of_ble_eq_true rfl) dX5_kind_5 (fun H locs hP hD hS => ?_)
  have hP : va_P D classes (rW cI hm b0 b1 b2 b3 (nI (ndN bd sd)) mk (nI (szN bd sd rt ps)) u1.1 mv kp u1.2) H := hP
  have hD : va_D A (rW cI hm b0 b1 b2 b3 (nI (ndN bd sd)) mk (nI (szN bd sd rt ps)) u1.1 mv kp u1.2) := hD
  refine lv_aload_n hx hb dX5_kind_8 rfl (lv_at hl 0 rfl) ?_
  refine lv_aload_n hx hb dX5_kind_9 rfl (lv_at hl 0 rfl) ?_
  refine va_get (D := D) (ci := 4) (v := .int (nI (ndN bd sd))) (C := RX5) (T := TX5) (N := 7) hx hb hG wu_X5 hown hK hP 0 rfl rfl 0 (by decide) (hG _ wf_X5_22) (fun _ h9 => h9) rfl dX5_kind_10 ?_
  refine jnG 32 7 [(0, .ref hm), (1, .int x)] [.int (nI (kdc bd sd rt ps x)), .ref hm] ?_ (fun hj_32 => ?_)
  · intro ls hl
    refine va_put (D := D) (ci := 4) (v := .int (nI (kdc bd sd rt ps x))) (ty := .int) (C := RX5) (T := TX5) (N := 7) hx hb hG wu_X5 tyX5 tyX5_ok nmX5 hown hK hP hD hS 0 rfl rfl 0 (by decide) (hG _ wf_X5_22) (fun _ h9 => h9) rfl (by decide +kernel) rfl rfl (Nat.le_of_ble_eq_true rfl) dX5_kind_32 (fun H locs hP hD hS => ?_)
    have hP : va_P D classes (rW cI hm b0 b1 b2 b3 (nI (kdc bd sd rt ps x)) mk (nI (szN bd sd rt ps)) u1.1 mv kp u1.2) H := hP
    have hD : va_D A (rW cI hm b0 b1 b2 b3 (nI (kdc bd sd rt ps x)) mk (nI (szN bd sd rt ps)) u1.1 mv kp u1.2) := hD
    have hkc : kdc bd sd rt ps x < 3 := by unfold kdc; (repeat' split) <;> omega
    refine lv_aload_n hx hb dX5_kind_35 rfl (lv_at hl 0 rfl) ?_
    refine va_get (D := D) (ci := 4) (v := .int (nI (kdc bd sd rt ps x))) (C := RX5) (T := TX5) (N := 7) hx hb hG wu_X5 hown hK hP 0 rfl rfl 0 (by decide) (hG _ wf_X5_22) (fun _ h9 => h9) rfl dX5_kind_36 ?_
    refine ln_if_le (tgt := 44) hx hb dX5_kind_39 (by decide) (by omega) (fun c39 => ?_) (fun c39 => ?_)
    · skip
      obtain ⟨hpl, hge⟩ := kdc_0 c39
      obtain ⟨f, t, k, hf, ht, hk, hx9, hlg⟩ := isl_of hpl hlgl hge
      have hkg : ∀ w, w < 2 → kgs bd w < 64 := fun w hw => plb_k hw hpl
      have hgo := (pre_go (lgl_pre hlg).1).1
      obtain ⟨hvf, hfb⟩ := hB8.1 f hf
      rw [Nat.zero_add] at hvf
      obtain ⟨hvt, htb⟩ := hB8.1 t ht
      rw [Nat.zero_add] at hvt
      have hkf := kd_lt hfb
      have hap1 : ap (f % 8) (t % 8) < 8 := ap_lt (by omega) (by omega)
      refine lv_iload_n hx hb dX5_kind_44 rfl (lv_at hl 1 rfl) ?_
      refine W.top (y := .int (nI (f + 64 * t + 4096 * k))) (congrArg Value.int hx9) ?_
      refine lv_bipush (v := (nI 64)) hx hb dX5_kind_45 (by decide) ?_
      refine ln_irem hx hb dX5_kind_47 (by omega) (by decide) (by decide) ?_
      refine W.top (y := .int (nI f)) (congrArg Value.int (congrArg nI (by omega))) ?_
      refine lv_istore_n (lv' := [(2, .int (nI f)), (0, .ref hm), (1, .int x)]) hx hb dX5_kind_48 rfl hl (by decide) rfl (fun ls hl => ?_)
      refine lv_iload_n hx hb dX5_kind_49 rfl (lv_at hl 2 rfl) ?_
      refine W.top (y := .int (nI (f + 64 * t + 4096 * k))) (congrArg Value.int hx9) ?_
      refine lv_bipush (v := (nI 64)) hx hb dX5_kind_50 (by decide) ?_
      refine ln_idiv hx hb dX5_kind_52 (by omega) (by decide) (by decide) ?_
      refine lv_bipush (v := (nI 64)) hx hb dX5_kind_53 (by decide) ?_
      refine ln_irem hx hb dX5_kind_55 (by omega) (by decide) (by decide) ?_
      refine W.top (y := .int (nI t)) (congrArg Value.int (congrArg nI (by omega))) ?_
      refine lv_istore_n (lv' := [(3, .int (nI t)), (2, .int (nI f)), (0, .ref hm), (1, .int x)]) hx hb dX5_kind_56 rfl hl (by decide) rfl (fun ls hl => ?_)
      refine lv_aload_n hx hb dX5_kind_57 rfl (lv_at hl 2 rfl) ?_
      refine va_get (D := D) (ci := 4) (v := .ref b0) (C := RX5) (T := TX5) (N := 7) hx hb hG wu_X5 hown hK hP 0 rfl rfl 1 (by decide) (hG _ wf_X5_7) (fun _ h9 => h9) rfl dX5_kind_58 ?_
      refine lv_iload_n hx hb dX5_kind_61 rfl (lv_at hl 1 rfl) ?_
      refine va_iald hx hb hK hP 1 0 rfl rfl (vp_in_nI (by omega) (by decide)) dX5_kind_62 ?_
      refine W.top (y := .int (u1.1 f)) (congrArg (fun z => Value.int (u1.1 z)) (nI_clamp (by omega))) ?_
      refine W.top (y := .int (nI (bd f))) (congrArg Value.int hvf) ?_
      refine roI (rnS (As := [.int (nI (bd f))]) (rest := []) S0 (c_X5_kindOf l (bd f) (by omega)) wm_X5_40 wt_X5_kindOf wn_X5 wc_X5_kindOf hd_X5_kindOf ⟨rfl, rfl, by decide, by decide⟩ True.blind (fun _ _ _ => trivial) hl.1 (Nat.le_of_ble_eq_true rfl) dX5_kind_63 rfl ⟨by decide, by decide⟩) (fun r_2 hr_2 => ?_)
      subst hr_2
      refine lv_istore (lv' := [(4, .int (nI (kd (bd f)))), (3, .int (nI t)), (2, .int (nI f)), (0, .ref hm), (1, .int x)]) hx hb dX5_kind_66 hl (by decide) rfl (fun ls hl => ?_)
      refine lv_iload hx hb dX5_kind_68 (lv_at hl 0 rfl) ?_
      refine lv_iconst (v := (nI 1)) hx hb dX5_kind_70 (by decide) ?_
      refine jnG 89 7 [(4, .int (nI (kd (bd f)))), (3, .int (nI t)), (2, .int (nI f)), (0, .ref hm), (1, .int x)] [.int (bI (inp bd sd ps f t))] ?_ (fun hj_89 => ?_)
      · intro ls hl
        refine lv_istore (lv' := [(5, .int (bI (inp bd sd ps f t))), (4, .int (nI (kd (bd f)))), (3, .int (nI t)), (2, .int (nI f)), (0, .ref hm), (1, .int x)]) hx hb dX5_kind_89 hl (by decide) rfl (fun ls hl => ?_)
        refine lv_aload_n hx hb dX5_kind_91 rfl (lv_at hl 4 rfl) ?_
        refine va_get (D := D) (ci := 4) (v := .ref b0) (C := RX5) (T := TX5) (N := 7) hx hb hG wu_X5 hown hK hP 0 rfl rfl 1 (by decide) (hG _ wf_X5_7) (fun _ h9 => h9) rfl dX5_kind_92 ?_
        refine lv_iload_n hx hb dX5_kind_95 rfl (lv_at hl 2 rfl) ?_
        refine va_iald hx hb hK hP 1 0 rfl rfl (vp_in_nI (by omega) (by decide)) dX5_kind_96 ?_
        refine W.top (y := .int (u1.1 t)) (congrArg (fun z => Value.int (u1.1 z)) (nI_clamp (by omega))) ?_
        refine W.top (y := .int (nI (bd t))) (congrArg Value.int hvt) ?_
        refine jnG 110 7 [(5, .int (bI (inp bd sd ps f t))), (4, .int (nI (kd (bd f)))), (3, .int (nI t)), (2, .int (nI f)), (0, .ref hm), (1, .int x)] [.int (nI (if ¬ bd t = 0 ∨ inp bd sd ps f t = true then 1 else 0))] ?_ (fun hj_110 => ?_)
        · intro ls hl
          refine lv_istore (lv' := [(6, .int (nI (if ¬ bd t = 0 ∨ inp bd sd ps f t = true then 1 else 0))), (5, .int (bI (inp bd sd ps f t))), (4, .int (nI (kd (bd f)))), (3, .int (nI t)), (2, .int (nI f)), (0, .ref hm), (1, .int x)]) hx hb dX5_kind_110 hl (by decide) rfl (fun ls hl => ?_)
          refine lv_iload hx hb dX5_kind_112 (lv_at hl 0 rfl) ?_
          refine lv_iload hx hb dX5_kind_114 (lv_at hl 1 rfl) ?_
          refine jnG 124 7 [(6, .int (nI (if ¬ bd t = 0 ∨ inp bd sd ps f t = true then 1 else 0))), (5, .int (bI (inp bd sd ps f t))), (4, .int (nI (kd (bd f)))), (3, .int (nI t)), (2, .int (nI f)), (0, .ref hm), (1, .int x)] [.int (nI (if inp bd sd ps f t = true then 2 else 0)), .int (nI (if ¬ bd t = 0 ∨ inp bd sd ps f t = true then 1 else 0))] ?_ (fun hj_124 => ?_)
          · intro ls hl
            refine ln_iadd hx hb dX5_kind_124 ?_
            refine lv_istore (lv' := [(6, .int (nI ((if ¬ bd t = 0 ∨ inp bd sd ps f t = true then 1 else 0) + (if inp bd sd ps f t = true then 2 else 0)))), (5, .int (bI (inp bd sd ps f t))), (4, .int (nI (kd (bd f)))), (3, .int (nI t)), (2, .int (nI f)), (0, .ref hm), (1, .int x)]) hx hb dX5_kind_125 hl (by decide) rfl (fun ls hl => ?_)
            refine lv_iload hx hb dX5_kind_127 (lv_at hl 0 rfl) ?_
            refine lv_iload hx hb dX5_kind_129 (lv_at hl 2 rfl) ?_
            refine lv_bipush (v := (nI 6)) hx hb dX5_kind_131 (by decide) ?_
            refine jnG 156 7 [(6, .int (nI ((if ¬ bd t = 0 ∨ inp bd sd ps f t = true then 1 else 0) + (if inp bd sd ps f t = true then 2 else 0)))), (5, .int (bI (inp bd sd ps f t))), (4, .int (nI (kd (bd f)))), (3, .int (nI t)), (2, .int (nI f)), (0, .ref hm), (1, .int x)] [.int (nI (if ctl bd f t = true then 4 else 0)), .int (nI ((if ¬ bd t = 0 ∨ inp bd sd ps f t = true then 1 else 0) + (if inp bd sd ps f t = true then 2 else 0)))] ?_ (fun hj_156 => ?_)
            · intro ls hl
              refine ln_iadd hx hb dX5_kind_156 ?_
              refine lv_istore (lv' := [(6, .int (nI (((if ¬ bd t = 0 ∨ inp bd sd ps f t = true then 1 else 0) + (if inp bd sd ps f t = true then 2 else 0)) + (if ctl bd f t = true then 4 else 0)))), (5, .int (bI (inp bd sd ps f t))), (4, .int (nI (kd (bd f)))), (3, .int (nI t)), (2, .int (nI f)), (0, .ref hm), (1, .int x)]) hx hb dX5_kind_157 hl (by decide) rfl (fun ls hl => ?_)
              refine lv_iload hx hb dX5_kind_159 (lv_at hl 0 rfl) ?_
              refine lv_iload_n hx hb dX5_kind_161 rfl (lv_at hl 6 rfl) ?_
              refine W.top (y := .int (nI (f + 64 * t + 4096 * k))) (congrArg Value.int hx9) ?_
              refine lv_sipush (v := (nI 4096)) hx hb dX5_kind_162 (by decide) ?_
              refine jnG 174 7 [(6, .int (nI (((if ¬ bd t = 0 ∨ inp bd sd ps f t = true then 1 else 0) + (if inp bd sd ps f t = true then 2 else 0)) + (if ctl bd f t = true then 4 else 0)))), (5, .int (bI (inp bd sd ps f t))), (4, .int (nI (kd (bd f)))), (3, .int (nI t)), (2, .int (nI f)), (0, .ref hm), (1, .int x)] [.int (nI (if k = 0 then 0 else 8)), .int (nI (((if ¬ bd t = 0 ∨ inp bd sd ps f t = true then 1 else 0) + (if inp bd sd ps f t = true then 2 else 0)) + (if ctl bd f t = true then 4 else 0)))] ?_ (fun hj_174 => ?_)
              · intro ls hl
                refine ln_iadd hx hb dX5_kind_174 ?_
                refine lv_istore (lv' := [(6, .int (nI ((((if ¬ bd t = 0 ∨ inp bd sd ps f t = true then 1 else 0) + (if inp bd sd ps f t = true then 2 else 0)) + (if ctl bd f t = true then 4 else 0)) + (if k = 0 then 0 else 8)))), (5, .int (bI (inp bd sd ps f t))), (4, .int (nI (kd (bd f)))), (3, .int (nI t)), (2, .int (nI f)), (0, .ref hm), (1, .int x)]) hx hb dX5_kind_175 hl (by decide) rfl (fun ls hl => ?_)
                refine lv_aload_n hx hb dX5_kind_177 rfl (lv_at hl 5 rfl) ?_
                refine lv_iconst (v := (nI 0)) hx hb dX5_kind_178 (by decide) ?_
                refine lv_bipush (v := (nI 67)) hx hb dX5_kind_179 (by decide) ?_
                refine lv_iload_n hx hb dX5_kind_181 rfl (lv_at hl 6 rfl) ?_
                refine W.top (y := .int (nI (f + 64 * t + 4096 * k))) (congrArg Value.int hx9) ?_
                refine chV (rnV (As := [.int (nI 0), .int (nI 67), .int (nI (f + 64 * t + 4096 * k))]) (rest := []) S0 (c_X5_behind l bd sd rt ps 0 67 f t k (by decide) (by decide) hf ht hk hgo hB8) wm_X5_86 wi_X5_behind ws_X5_behind wn_X5 wc_X5_behind hd_X5_behind ⟨rfl, rfl, by decide, by decide⟩ IW.blind (va_recv hK hP (ci := 4) (q0 := 0) rfl rfl) (IW.at hP hD hK hA hE hS) hl.1 (Nat.le_of_ble_eq_true rfl) dX5_kind_182 rfl ⟨by decide, by decide⟩) hS (fun u2 H locs hu hP hD hS => ?_)
                obtain ⟨hBn, hAn⟩ := hu
                have hP : va_P D classes (rW cI hm b0 b1 b2 b3 (nI (kdc bd sd rt ps x)) mk (nI (szN bd sd rt ps)) u2 mv kp u1.2) H := hP
                have hD : va_D A (rW cI hm b0 b1 b2 b3 (nI (kdc bd sd rt ps x)) mk (nI (szN bd sd rt ps)) u2 mv kp u1.2) := hD
                refine lv_iload hx hb dX5_kind_185 (lv_at hl 0 rfl) ?_
                refine lv_aload_n hx hb dX5_kind_187 rfl (lv_at hl 5 rfl) ?_
                refine lv_bipush (v := (nI 67)) hx hb dX5_kind_188 (by decide) ?_
                refine lv_aload_n hx hb dX5_kind_190 rfl (lv_at hl 5 rfl) ?_
                refine va_get (D := D) (ci := 4) (v := .ref b0) (C := RX5) (T := TX5) (N := 7) hx hb hG wu_X5 hown hK hP 0 rfl rfl 1 (by decide) (hG _ wf_X5_7) (fun _ h9 => h9) rfl dX5_kind_191 ?_
                refine lv_sipush (v := (nI 131)) hx hb dX5_kind_194 (by decide) ?_
                refine va_iald hx hb hK hP 1 0 rfl rfl (vp_in_nI (by decide) (by decide)) dX5_kind_197 ?_
                refine W.top (y := .int (u2 131)) (congrArg (fun z => Value.int (u2 z)) (nI_clamp (by decide))) ?_
                refine W.top (y := .int (nI (1 - sd))) (congrArg Value.int hBn.2.1) ?_
                refine roI (rnV (As := [.int (nI 67), .int (nI (1 - sd))]) (rest := [.int (nI ((((if ¬ bd t = 0 ∨ inp bd sd ps f t = true then 1 else 0) + (if inp bd sd ps f t = true then 2 else 0)) + (if ctl bd f t = true then 4 else 0)) + (if k = 0 then 0 else 8)))]) S0 (c_X5_isChecked l (bhB bd sd ps f t k) 67 (1 - sd) (by decide) (by omega) hBn.1 (lgl_kg hBd.lt hs2 (by omega) hf ht hk hlg (hkg _ (by omega)))) wm_X5_63 wi_X5_isChecked ws_X5_isChecked wn_X5 wc_X5_isChecked hd_X5_isChecked ⟨rfl, rfl, by decide, by decide⟩ IW.blind (va_recv hK hP (ci := 4) (q0 := 0) rfl rfl) (IW.at hP hD hK hA hE hS) hl.1 (Nat.le_of_ble_eq_true rfl) dX5_kind_198 rfl ⟨by decide, by decide⟩) (fun r_4 hr_4 => ?_)
                subst hr_4
                refine jnG 210 7 [(6, .int (nI ((((if ¬ bd t = 0 ∨ inp bd sd ps f t = true then 1 else 0) + (if inp bd sd ps f t = true then 2 else 0)) + (if ctl bd f t = true then 4 else 0)) + (if k = 0 then 0 else 8)))), (5, .int (bI (inp bd sd ps f t))), (4, .int (nI (kd (bd f)))), (3, .int (nI t)), (2, .int (nI f)), (0, .ref hm), (1, .int x)] [.int (nI (if isA (bhB bd sd ps f t k) (kgs (bhB bd sd ps f t k) (1 - sd)) (1 - (1 - sd)) = true then 16 else 0)), .int (nI ((((if ¬ bd t = 0 ∨ inp bd sd ps f t = true then 1 else 0) + (if inp bd sd ps f t = true then 2 else 0)) + (if ctl bd f t = true then 4 else 0)) + (if k = 0 then 0 else 8)))] ?_ (fun hj_210 => ?_)
                · intro ls hl
                  refine ln_iadd hx hb dX5_kind_210 ?_
                  refine lv_istore (lv' := [(6, .int (nI (((((if ¬ bd t = 0 ∨ inp bd sd ps f t = true then 1 else 0) + (if inp bd sd ps f t = true then 2 else 0)) + (if ctl bd f t = true then 4 else 0)) + (if k = 0 then 0 else 8)) + (if isA (bhB bd sd ps f t k) (kgs (bhB bd sd ps f t k) (1 - sd)) (1 - (1 - sd)) = true then 16 else 0)))), (5, .int (bI (inp bd sd ps f t))), (4, .int (nI (kd (bd f)))), (3, .int (nI t)), (2, .int (nI f)), (0, .ref hm), (1, .int x)]) hx hb dX5_kind_211 hl (by decide) rfl (fun ls hl => ?_)
                  refine lv_iload hx hb dX5_kind_213 (lv_at hl 0 rfl) ?_
                  refine lv_aload_n hx hb dX5_kind_215 rfl (lv_at hl 5 rfl) ?_
                  refine lv_bipush (v := (nI 67)) hx hb dX5_kind_216 (by decide) ?_
                  refine lv_iconst (v := (nI 0)) hx hb dX5_kind_218 (by decide) ?_
                  refine chI (rnV (As := [.int (nI 67), .int (nI 0)]) (rest := [.int (nI (((((if ¬ bd t = 0 ∨ inp bd sd ps f t = true then 1 else 0) + (if inp bd sd ps f t = true then 2 else 0)) + (if ctl bd f t = true then 4 else 0)) + (if k = 0 then 0 else 8)) + (if isA (bhB bd sd ps f t k) (kgs (bhB bd sd ps f t k) (1 - sd)) (1 - (1 - sd)) = true then 16 else 0)))]) S0 (c_X5_listed l (bhB bd sd ps f t k) (1 - sd) (bhR bd sd rt f t) (bhP bd sd ps f t k) 67 (by decide) hBn (lgl_kg hBd.lt hs2 (by omega) hf ht hk hlg (hkg _ (by omega))) (hLA.le hBn)) wm_X5_93 wi_X5_listed ws_X5_listed wn_X5 wc_X5_listed hd_X5_listed ⟨rfl, rfl, by decide, by decide⟩ IW.blind (va_recv hK hP (ci := 4) (q0 := 0) rfl rfl) (IW.at hP hD hK hA hE hS) hl.1 (Nat.le_of_ble_eq_true rfl) dX5_kind_219 rfl ⟨by decide, by decide⟩) hS (fun r_5 u3 H locs hu hP hD hS => ?_)
                  obtain ⟨he9, hA9, hL9⟩ := hu
                  subst he9
                  have hP : va_P D classes (rW cI hm b0 b1 b2 b3 (nI (kdc bd sd rt ps x)) mk (nI (szN bd sd rt ps)) u3.1 mv kp u3.2) H := hP
                  have hD : va_D A (rW cI hm b0 b1 b2 b3 (nI (kdc bd sd rt ps x)) mk (nI (szN bd sd rt ps)) u3.1 mv kp u3.2) := hD
                  have hl7 := hLA.le hBn
                  refine jnG 231 7 [(6, .int (nI (((((if ¬ bd t = 0 ∨ inp bd sd ps f t = true then 1 else 0) + (if inp bd sd ps f t = true then 2 else 0)) + (if ctl bd f t = true then 4 else 0)) + (if k = 0 then 0 else 8)) + (if isA (bhB bd sd ps f t k) (kgs (bhB bd sd ps f t k) (1 - sd)) (1 - (1 - sd)) = true then 16 else 0)))), (5, .int (bI (inp bd sd ps f t))), (4, .int (nI (kd (bd f)))), (3, .int (nI t)), (2, .int (nI f)), (0, .ref hm), (1, .int x)] [.int (nI (if (legs (bhB bd sd ps f t k) (1 - sd) (bhR bd sd rt f t) (bhP bd sd ps f t k)).length = 0 then 32 else 0)), .int (nI (((((if ¬ bd t = 0 ∨ inp bd sd ps f t = true then 1 else 0) + (if inp bd sd ps f t = true then 2 else 0)) + (if ctl bd f t = true then 4 else 0)) + (if k = 0 then 0 else 8)) + (if isA (bhB bd sd ps f t k) (kgs (bhB bd sd ps f t k) (1 - sd)) (1 - (1 - sd)) = true then 16 else 0)))] ?_ (fun hj_231 => ?_)
                  · intro ls hl
                    refine ln_iadd hx hb dX5_kind_231 ?_
                    exact weI ((u3.1, u3.2)) hx hb hr hlocks dX5_kind_232 ⟨fun _ => ⟨f, t, k, hf, ht, hk, hx9, hlg, rfl⟩, Bd_cp hB8 (fun j hj => by rw [Nat.zero_add]; exact (hA9 j (by omega)).trans (hAn j (by omega)))⟩ hP hD hK hA hE hS
                  · skip
                    refine ln_if_ne (tgt := 230) hx hb dX5_kind_222 (by decide) (by omega) (fun c222 => ?_) (fun c222 => ?_)
                    · skip
                      refine lv_iconst (v := (nI 0)) hx hb dX5_kind_230 (by decide) ?_
                      refine W.top (y := .int (nI (if (legs (bhB bd sd ps f t k) (1 - sd) (bhR bd sd rt f t) (bhP bd sd ps f t k)).length = 0 then 32 else 0))) (congrArg Value.int (congrArg nI (by first | rw [if_pos c222] | rw [if_neg c222]))) ?_
                      exact hj_231 ls (lv_sub hl [0, 1, 2, 3, 4, 5, 6] rfl)
                    · skip
                      refine lv_bipush (v := (nI 32)) hx hb dX5_kind_225 (by decide) ?_
                      refine lv_goto (tgt := 231) hx hb dX5_kind_227 (by decide) ?_
                      refine W.top (y := .int (nI (if (legs (bhB bd sd ps f t k) (1 - sd) (bhR bd sd rt f t) (bhP bd sd ps f t k)).length = 0 then 32 else 0))) (congrArg Value.int (congrArg nI (by first | rw [if_pos c222] | rw [if_neg c222]))) ?_
                      exact hj_231 ls (lv_sub hl [0, 1, 2, 3, 4, 5, 6] rfl)
                · skip
                  refine lb_if_eq (tgt := 209) hx hb dX5_kind_201 (by decide) (fun c201 => ?_) (fun c201 => ?_)
                  · skip
                    refine lv_iconst (v := (nI 0)) hx hb dX5_kind_209 (by decide) ?_
                    refine W.top (y := .int (nI (if isA (bhB bd sd ps f t k) (kgs (bhB bd sd ps f t k) (1 - sd)) (1 - (1 - sd)) = true then 16 else 0))) (congrArg Value.int (congrArg nI (by first | rw [if_pos c201] | (rw [c201]; rfl)))) ?_
                    exact hj_210 ls (lv_sub hl [0, 1, 2, 3, 4, 5, 6] rfl)
                  · skip
                    refine lv_bipush (v := (nI 16)) hx hb dX5_kind_204 (by decide) ?_
                    refine lv_goto (tgt := 210) hx hb dX5_kind_206 (by decide) ?_
                    refine W.top (y := .int (nI (if isA (bhB bd sd ps f t k) (kgs (bhB bd sd ps f t k) (1 - sd)) (1 - (1 - sd)) = true then 16 else 0))) (congrArg Value.int (congrArg nI (by first | rw [if_pos c201] | (rw [c201]; rfl)))) ?_
                    exact hj_210 ls (lv_sub hl [0, 1, 2, 3, 4, 5, 6] rfl)
              · skip
                refine ln_icmp_lt (tgt := 173) hx hb dX5_kind_165 (by decide) (by omega) (by decide) (fun c165 => ?_) (fun c165 => ?_)
                · skip
                  refine lv_iconst (v := (nI 0)) hx hb dX5_kind_173 (by decide) ?_
                  refine W.top (y := .int (nI (if k = 0 then 0 else 8))) (congrArg Value.int (congrArg nI (by first | rw [if_pos (show k = 0 by omega)] | rw [if_neg (show ¬ k = 0 by omega)]))) ?_
                  exact hj_174 ls (lv_sub hl [0, 1, 2, 3, 4, 5, 6] rfl)
                · skip
                  refine lv_bipush (v := (nI 8)) hx hb dX5_kind_168 (by decide) ?_
                  refine lv_goto (tgt := 174) hx hb dX5_kind_170 (by decide) ?_
                  refine W.top (y := .int (nI (if k = 0 then 0 else 8))) (congrArg Value.int (congrArg nI (by first | rw [if_pos (show k = 0 by omega)] | rw [if_neg (show ¬ k = 0 by omega)]))) ?_
                  exact hj_174 ls (lv_sub hl [0, 1, 2, 3, 4, 5, 6] rfl)
            · skip
              refine ln_icmp_ne (tgt := 155) hx hb dX5_kind_133 (by decide) (by omega) (by decide) (fun c133 => ?_) (fun c133 => ?_)
              · skip
                refine lv_iconst (v := (nI 0)) hx hb dX5_kind_155 (by decide) ?_
                refine W.top (y := .int (nI (if ctl bd f t = true then 4 else 0))) (congrArg Value.int (congrArg nI (by unfold ctl; first | (rw [decide_eq_true c133, decide_eq_true c148]; rfl) | (rw [decide_eq_true c133, decide_eq_false c148]; rfl) | (rw [decide_eq_false c133]; rfl)))) ?_
                exact hj_156 ls (lv_sub hl [0, 1, 2, 3, 4, 5, 6] rfl)
              · skip
                refine lv_iload_n hx hb dX5_kind_136 rfl (lv_at hl 4 rfl) ?_
                refine lv_bipush (v := (nI 8)) hx hb dX5_kind_137 (by decide) ?_
                refine ln_irem hx hb dX5_kind_139 (by omega) (by decide) (by decide) ?_
                refine lv_iload_n hx hb dX5_kind_140 rfl (lv_at hl 3 rfl) ?_
                refine lv_bipush (v := (nI 8)) hx hb dX5_kind_141 (by decide) ?_
                refine ln_irem hx hb dX5_kind_143 (by omega) (by decide) (by decide) ?_
                refine roI (rnS (As := [.int (nI (f % 8)), .int (nI (t % 8))]) (rest := [.int (nI ((if ¬ bd t = 0 ∨ inp bd sd ps f t = true then 1 else 0) + (if inp bd sd ps f t = true then 2 else 0)))]) S0 (c_X5_apart l (f % 8) (t % 8) (by omega) (by omega)) wm_X5_43 wt_X5_apart wn_X5 wc_X5_apart hd_X5_apart ⟨rfl, rfl, by decide, by decide⟩ True.blind (fun _ _ _ => trivial) hl.1 (Nat.le_of_ble_eq_true rfl) dX5_kind_144 rfl ⟨by decide, by decide⟩) (fun r_6 hr_6 => ?_)
                subst hr_6
                refine lv_iconst (v := (nI 2)) hx hb dX5_kind_147 (by decide) ?_
                refine ln_icmp_ne (tgt := 155) hx hb dX5_kind_148 (by decide) (by omega) (by decide) (fun c148 => ?_) (fun c148 => ?_)
                · skip
                  refine lv_iconst (v := (nI 0)) hx hb dX5_kind_155 (by decide) ?_
                  refine W.top (y := .int (nI (if ctl bd f t = true then 4 else 0))) (congrArg Value.int (congrArg nI (by unfold ctl; first | (rw [decide_eq_true c133, decide_eq_true c148]; rfl) | (rw [decide_eq_true c133, decide_eq_false c148]; rfl) | (rw [decide_eq_false c133]; rfl)))) ?_
                  exact hj_156 ls (lv_sub hl [0, 1, 2, 3, 4, 5, 6] rfl)
                · skip
                  refine lv_iconst (v := (nI 4)) hx hb dX5_kind_151 (by decide) ?_
                  refine lv_goto (tgt := 156) hx hb dX5_kind_152 (by decide) ?_
                  refine W.top (y := .int (nI (if ctl bd f t = true then 4 else 0))) (congrArg Value.int (congrArg nI (by unfold ctl; first | (rw [decide_eq_true c133, decide_eq_true c148]; rfl) | (rw [decide_eq_true c133, decide_eq_false c148]; rfl) | (rw [decide_eq_false c133]; rfl)))) ?_
                  exact hj_156 ls (lv_sub hl [0, 1, 2, 3, 4, 5, 6] rfl)
          · skip
            refine lb_if_eq (tgt := 123) hx hb dX5_kind_116 (by decide) (fun c116 => ?_) (fun c116 => ?_)
            · skip
              refine lv_iconst (v := (nI 0)) hx hb dX5_kind_123 (by decide) ?_
              refine W.top (y := .int (nI (if inp bd sd ps f t = true then 2 else 0))) (congrArg Value.int (congrArg nI (by first | rw [if_pos c116] | rw [if_neg (show ¬ inp bd sd ps f t = true by rw [c116]; decide)]))) ?_
              exact hj_124 ls (lv_sub hl [0, 1, 2, 3, 4, 5, 6] rfl)
            · skip
              refine lv_iconst (v := (nI 2)) hx hb dX5_kind_119 (by decide) ?_
              refine lv_goto (tgt := 124) hx hb dX5_kind_120 (by decide) ?_
              refine W.top (y := .int (nI (if inp bd sd ps f t = true then 2 else 0))) (congrArg Value.int (congrArg nI (by first | rw [if_pos c116] | rw [if_neg (show ¬ inp bd sd ps f t = true by rw [c116]; decide)]))) ?_
              exact hj_124 ls (lv_sub hl [0, 1, 2, 3, 4, 5, 6] rfl)
        · skip
          refine ln_if_gt (tgt := 105) hx hb dX5_kind_97 (by decide) (by omega) (fun c97 => ?_) (fun c97 => ?_)
          · skip
            refine lv_iconst (v := (nI 1)) hx hb dX5_kind_105 (by decide) ?_
            refine lv_goto (tgt := 110) hx hb dX5_kind_106 (by decide) ?_
            refine W.top (y := .int (nI (if ¬ bd t = 0 ∨ inp bd sd ps f t = true then 1 else 0))) (congrArg Value.int (congrArg nI (by first | rw [if_pos (Or.inl c97)] | rw [if_pos (Or.inr c102)] | rw [if_neg hno]))) ?_
            exact hj_110 ls (lv_sub hl [0, 1, 2, 3, 4, 5] rfl)
          · skip
            refine lv_iload hx hb dX5_kind_100 (lv_at hl 0 rfl) ?_
            refine lb_if_eq (tgt := 109) hx hb dX5_kind_102 (by decide) (fun c102 => ?_) (fun c102 => ?_)
            · skip
              have hno : ¬ (¬ bd t = 0 ∨ inp bd sd ps f t = true) := fun z => z.elim (fun w => w c97) (fun w => by rw [c102] at w; exact absurd w (by decide))
              refine lv_iconst (v := (nI 0)) hx hb dX5_kind_109 (by decide) ?_
              refine W.top (y := .int (nI (if ¬ bd t = 0 ∨ inp bd sd ps f t = true then 1 else 0))) (congrArg Value.int (congrArg nI (by first | rw [if_pos (Or.inl c97)] | rw [if_pos (Or.inr c102)] | rw [if_neg hno]))) ?_
              exact hj_110 ls (lv_sub hl [0, 1, 2, 3, 4, 5] rfl)
            · skip
              refine lv_iconst (v := (nI 1)) hx hb dX5_kind_105 (by decide) ?_
              refine lv_goto (tgt := 110) hx hb dX5_kind_106 (by decide) ?_
              refine W.top (y := .int (nI (if ¬ bd t = 0 ∨ inp bd sd ps f t = true then 1 else 0))) (congrArg Value.int (congrArg nI (by first | rw [if_pos (Or.inl c97)] | rw [if_pos (Or.inr c102)] | rw [if_neg hno]))) ?_
              exact hj_110 ls (lv_sub hl [0, 1, 2, 3, 4, 5] rfl)
      · skip
        refine ln_icmp_ne (tgt := 88) hx hb dX5_kind_71 (by decide) (by omega) (by decide) (fun c71 => ?_) (fun c71 => ?_)
        · skip
          refine lv_iconst (v := (nI 0)) hx hb dX5_kind_88 (by decide) ?_
          refine W.top (y := .int (bI (inp bd sd ps f t))) (congrArg Value.int (by unfold inp; first | (rw [decide_eq_true c71, c81]; rfl) | (rw [decide_eq_false c71]; rfl))) ?_
          exact hj_89 ls (lv_sub hl [0, 1, 2, 3, 4] rfl)
        · skip
          refine lv_aload_n hx hb dX5_kind_74 rfl (lv_at hl 3 rfl) ?_
          refine lv_iconst (v := (nI 0)) hx hb dX5_kind_75 (by decide) ?_
          refine lv_iload_n hx hb dX5_kind_76 rfl (lv_at hl 2 rfl) ?_
          refine lv_iload_n hx hb dX5_kind_77 rfl (lv_at hl 1 rfl) ?_
          refine roI (rnV (As := [.int (nI 0), .int (nI f), .int (nI t)]) (rest := []) S0 (c_X5_takesPassing l bd sd rt ps 0 f t (by decide) hf ht hB8) wm_X5_71 wi_X5_takesPassing ws_X5_takesPassing wn_X5 wc_X5_takesPassing hd_X5_takesPassing ⟨rfl, rfl, by decide, by decide⟩ IW.blind (va_recv hK hP (ci := 4) (q0 := 0) rfl rfl) (IW.at hP hD hK hA hE hS) hl.1 (Nat.le_of_ble_eq_true rfl) dX5_kind_78 rfl ⟨by decide, by decide⟩) (fun r_7 hr_7 => ?_)
          subst hr_7
          refine lb_if_eq (tgt := 88) hx hb dX5_kind_81 (by decide) (fun c81 => ?_) (fun c81 => ?_)
          · skip
            refine lv_iconst (v := (nI 0)) hx hb dX5_kind_88 (by decide) ?_
            refine W.top (y := .int (bI (inp bd sd ps f t))) (congrArg Value.int (by unfold inp; first | (rw [decide_eq_true c71, c81]; rfl) | (rw [decide_eq_false c71]; rfl))) ?_
            exact hj_89 ls (lv_sub hl [0, 1, 2, 3, 4] rfl)
          · skip
            refine lv_iconst (v := (nI 1)) hx hb dX5_kind_84 (by decide) ?_
            refine lv_goto (tgt := 89) hx hb dX5_kind_85 (by decide) ?_
            refine W.top (y := .int (bI (inp bd sd ps f t))) (congrArg Value.int (by unfold inp; first | (rw [decide_eq_true c71, c81]; rfl) | (rw [decide_eq_false c71]; rfl))) ?_
            exact hj_89 ls (lv_sub hl [0, 1, 2, 3, 4] rfl)
    · skip
      refine lv_iconst (v := (nI 0)) hx hb dX5_kind_42 (by decide) ?_
      exact weI ((u1.1, u1.2)) hx hb hr hlocks dX5_kind_43 ⟨fun z => absurd z c39, hB8⟩ hP hD hK hA hE hS
  · skip
    refine ln_if_ne (tgt := 28) hx hb dX5_kind_13 (by decide) (by omega) (fun c13 => ?_) (fun c13 => ?_)
    · skip
      refine lv_aload_n hx hb dX5_kind_28 rfl (lv_at hl 0 rfl) ?_
      refine va_get (D := D) (ci := 4) (v := .int (nI (ndN bd sd))) (C := RX5) (T := TX5) (N := 7) hx hb hG wu_X5 hown hK hP 0 rfl rfl 0 (by decide) (hG _ wf_X5_22) (fun _ h9 => h9) rfl dX5_kind_29 ?_
      refine W.top (y := .int (nI (kdc bd sd rt ps x))) (congrArg Value.int (congrArg nI (by unfold kdc; first | rw [if_neg c13] | (rw [if_pos c13, if_pos c21]; exact c13) | rw [if_pos c13, if_neg c21]))) ?_
      exact hj_32 ls (lv_sub hl [0, 1] rfl)
    · skip
      refine lv_aload_n hx hb dX5_kind_16 rfl (lv_at hl 0 rfl) ?_
      refine lv_iload_n hx hb dX5_kind_17 rfl (lv_at hl 1 rfl) ?_
      refine roI (rnV (As := [.int x]) (rest := [.ref hm]) S0 (c_X5_placeOf l x (lgs bd sd rt ps) hL9 (congrArg nI (szN_eq bd sd rt ps)) (by rw [← szN_eq]; exact hszl)) wm_X5_103 wi_X5_placeOf ws_X5_placeOf wn_X5 wc_X5_placeOf hd_X5_placeOf ⟨rfl, rfl, by decide, by decide⟩ IW.blind (va_recv hK hP (ci := 4) (q0 := 0) rfl rfl) (IW.at hP hD hK hA hE hS) hl.1 (Nat.le_of_ble_eq_true rfl) dX5_kind_18 rfl ⟨by decide, by decide⟩) (fun r_8 hr_8 => ?_)
      subst hr_8
      refine lv_if_ge (tgt := 28) hx hb dX5_kind_21 (by decide) (fun c21 => ?_) (fun c21 => ?_)
      · skip
        refine lv_aload_n hx hb dX5_kind_28 rfl (lv_at hl 0 rfl) ?_
        refine va_get (D := D) (ci := 4) (v := .int (nI (ndN bd sd))) (C := RX5) (T := TX5) (N := 7) hx hb hG wu_X5 hown hK hP 0 rfl rfl 0 (by decide) (hG _ wf_X5_22) (fun _ h9 => h9) rfl dX5_kind_29 ?_
        refine W.top (y := .int (nI (kdc bd sd rt ps x))) (congrArg Value.int (congrArg nI (by unfold kdc; first | rw [if_neg c13] | (rw [if_pos c13, if_pos c21]; exact c13) | rw [if_pos c13, if_neg c21]))) ?_
        exact hj_32 ls (lv_sub hl [0, 1] rfl)
      · skip
        refine lv_iconst (v := (nI 2)) hx hb dX5_kind_24 (by decide) ?_
        refine lv_goto (tgt := 32) hx hb dX5_kind_25 (by decide) ?_
        refine W.top (y := .int (nI (kdc bd sd rt ps x))) (congrArg Value.int (congrArg nI (by unfold kdc; first | rw [if_neg c13] | (rw [if_pos c13, if_pos c21]; exact c13) | rw [if_pos c13, if_neg c21]))) ?_
        exact hj_32 ls (lv_sub hl [0, 1] rfl)
theorem dX5_lines_0 : decode cX5_lines 0 = .ok (.aload_n 0, 1) := by decide +kernel
theorem dX5_lines_1 : decode cX5_lines 1 = .ok (.aload_n 0, 1) := by decide +kernel
theorem dX5_lines_2 : decode cX5_lines 2 = .ok (.invokevirtual 99, 3) := by decide +kernel
theorem dX5_lines_5 : decode cX5_lines 5 = .ok (.putfield 22, 3) := by decide +kernel
theorem dX5_lines_8 : decode cX5_lines 8 = .ok (.aload_n 0, 1) := by decide +kernel
theorem dX5_lines_9 : decode cX5_lines 9 = .ok (.aload_n 0, 1) := by decide +kernel
theorem dX5_lines_10 : decode cX5_lines 10 = .ok (.getfield 22, 3) := by decide +kernel
theorem dX5_lines_13 : decode cX5_lines 13 = .ok (.ifCond .ne 16, 3) := by decide +kernel
theorem dX5_lines_16 : decode cX5_lines 16 = .ok (.iload_n 1, 1) := by decide +kernel
theorem dX5_lines_17 : decode cX5_lines 17 = .ok (.ifCond .lt 8, 3) := by decide +kernel
theorem dX5_lines_20 : decode cX5_lines 20 = .ok (.iload_n 1, 1) := by decide +kernel
theorem dX5_lines_21 : decode cX5_lines 21 = .ok (.iconst 3, 1) := by decide +kernel
theorem dX5_lines_22 : decode cX5_lines 22 = .ok (.if_icmp .le 7, 3) := by decide +kernel
theorem dX5_lines_25 : decode cX5_lines 25 = .ok (.iconst 2, 1) := by decide +kernel
theorem dX5_lines_26 : decode cX5_lines 26 = .ok (.goto 7, 3) := by decide +kernel
theorem dX5_lines_29 : decode cX5_lines 29 = .ok (.aload_n 0, 1) := by decide +kernel
theorem dX5_lines_30 : decode cX5_lines 30 = .ok (.getfield 22, 3) := by decide +kernel
theorem dX5_lines_33 : decode cX5_lines 33 = .ok (.putfield 22, 3) := by decide +kernel
theorem dX5_lines_36 : decode cX5_lines 36 = .ok (.aload_n 0, 1) := by decide +kernel
theorem dX5_lines_37 : decode cX5_lines 37 = .ok (.getfield 22, 3) := by decide +kernel
theorem dX5_lines_40 : decode cX5_lines 40 = .ok (.ifCond .le 5, 3) := by decide +kernel
theorem dX5_lines_43 : decode cX5_lines 43 = .ok (.lconst 0, 1) := by decide +kernel
theorem dX5_lines_44 : decode cX5_lines 44 = .ok (.lreturn, 1) := by decide +kernel
theorem dX5_lines_45 : decode cX5_lines 45 = .ok (.iload_n 1, 1) := by decide +kernel
theorem dX5_lines_46 : decode cX5_lines 46 = .ok (.iconst 2, 1) := by decide +kernel
theorem dX5_lines_47 : decode cX5_lines 47 = .ok (.if_icmp .ge 17, 3) := by decide +kernel
theorem dX5_lines_50 : decode cX5_lines 50 = .ok (.iload_n 1, 1) := by decide +kernel
theorem dX5_lines_51 : decode cX5_lines 51 = .ok (.ifCond .ne 7, 3) := by decide +kernel
theorem dX5_lines_54 : decode cX5_lines 54 = .ok (.lconst 1, 1) := by decide +kernel
theorem dX5_lines_55 : decode cX5_lines 55 = .ok (.goto 8, 3) := by decide +kernel
theorem dX5_lines_58 : decode cX5_lines 58 = .ok (.aload_n 0, 1) := by decide +kernel
theorem dX5_lines_59 : decode cX5_lines 59 = .ok (.getfield 96, 3) := by decide +kernel
theorem dX5_lines_62 : decode cX5_lines 62 = .ok (.i2l, 1) := by decide +kernel
theorem dX5_lines_63 : decode cX5_lines 63 = .ok (.lreturn, 1) := by decide +kernel
theorem dX5_lines_64 : decode cX5_lines 64 = .ok (.aload_n 0, 1) := by decide +kernel
theorem dX5_lines_65 : decode cX5_lines 65 = .ok (.getfield 96, 3) := by decide +kernel
theorem dX5_lines_68 : decode cX5_lines 68 = .ok (.istore_n 2, 1) := by decide +kernel
theorem dX5_lines_69 : decode cX5_lines 69 = .ok (.lconst 0, 1) := by decide +kernel
theorem dX5_lines_70 : decode cX5_lines 70 = .ok (.lstore_n 3, 1) := by decide +kernel
theorem dX5_lines_71 : decode cX5_lines 71 = .ok (.iconst 0, 1) := by decide +kernel
theorem dX5_lines_72 : decode cX5_lines 72 = .ok (.istore 5, 2) := by decide +kernel
theorem dX5_lines_74 : decode cX5_lines 74 = .ok (.iload 5, 2) := by decide +kernel
theorem dX5_lines_76 : decode cX5_lines 76 = .ok (.iload_n 2, 1) := by decide +kernel
theorem dX5_lines_77 : decode cX5_lines 77 = .ok (.if_icmp .ge 56, 3) := by decide +kernel
theorem dX5_lines_80 : decode cX5_lines 80 = .ok (.aload_n 0, 1) := by decide +kernel
theorem dX5_lines_81 : decode cX5_lines 81 = .ok (.iconst 0, 1) := by decide +kernel
theorem dX5_lines_82 : decode cX5_lines 82 = .ok (.iload 5, 2) := by decide +kernel
theorem dX5_lines_84 : decode cX5_lines 84 = .ok (.invokevirtual 106, 3) := by decide +kernel
theorem dX5_lines_87 : decode cX5_lines 87 = .ok (.istore 6, 2) := by decide +kernel
theorem dX5_lines_89 : decode cX5_lines 89 = .ok (.aload_n 0, 1) := by decide +kernel
theorem dX5_lines_90 : decode cX5_lines 90 = .ok (.iconst 0, 1) := by decide +kernel
theorem dX5_lines_91 : decode cX5_lines 91 = .ok (.bipush 67, 2) := by decide +kernel
theorem dX5_lines_93 : decode cX5_lines 93 = .ok (.iload 6, 2) := by decide +kernel
theorem dX5_lines_95 : decode cX5_lines 95 = .ok (.invokevirtual 86, 3) := by decide +kernel
theorem dX5_lines_98 : decode cX5_lines 98 = .ok (.aload_n 0, 1) := by decide +kernel
theorem dX5_lines_99 : decode cX5_lines 99 = .ok (.bipush 67, 2) := by decide +kernel
theorem dX5_lines_101 : decode cX5_lines 101 = .ok (.iconst 0, 1) := by decide +kernel
theorem dX5_lines_102 : decode cX5_lines 102 = .ok (.invokevirtual 93, 3) := by decide +kernel
theorem dX5_lines_105 : decode cX5_lines 105 = .ok (.istore 7, 2) := by decide +kernel
theorem dX5_lines_107 : decode cX5_lines 107 = .ok (.lload_n 3, 1) := by decide +kernel
theorem dX5_lines_108 : decode cX5_lines 108 = .ok (.iload_n 1, 1) := by decide +kernel
theorem dX5_lines_109 : decode cX5_lines 109 = .ok (.iconst 2, 1) := by decide +kernel
theorem dX5_lines_110 : decode cX5_lines 110 = .ok (.if_icmp .ne 9, 3) := by decide +kernel
theorem dX5_lines_113 : decode cX5_lines 113 = .ok (.iload 7, 2) := by decide +kernel
theorem dX5_lines_115 : decode cX5_lines 115 = .ok (.i2l, 1) := by decide +kernel
theorem dX5_lines_116 : decode cX5_lines 116 = .ok (.goto 9, 3) := by decide +kernel
theorem dX5_lines_119 : decode cX5_lines 119 = .ok (.aload_n 0, 1) := by decide +kernel
theorem dX5_lines_120 : decode cX5_lines 120 = .ok (.iload 7, 2) := by decide +kernel
theorem dX5_lines_122 : decode cX5_lines 122 = .ok (.invokevirtual 109, 3) := by decide +kernel
theorem dX5_lines_125 : decode cX5_lines 125 = .ok (.ladd, 1) := by decide +kernel
theorem dX5_lines_126 : decode cX5_lines 126 = .ok (.lstore_n 3, 1) := by decide +kernel
theorem dX5_lines_127 : decode cX5_lines 127 = .ok (.iinc 5 1, 3) := by decide +kernel
theorem dX5_lines_130 : decode cX5_lines 130 = .ok (.goto (-56), 3) := by decide +kernel
theorem dX5_lines_133 : decode cX5_lines 133 = .ok (.lload_n 3, 1) := by decide +kernel
theorem dX5_lines_134 : decode cX5_lines 134 = .ok (.lreturn, 1) := by decide +kernel
theorem hd_X5_lines : yX5_lines.cls ≠ "java/lang/invoke/MethodHandle" ∧ yX5_lines.cls ≠ "java/lang/invoke/VarHandle" ∧ (parseMethodDescriptor yX5_lines.desc).map (fun d => d.parameters.length) = some 1 := by decide +kernel
set_option maxHeartbeats 4000000 in
set_option maxRecDepth 100000 in
/-- lines -/
theorem c_X5_lines (l : Launch) {D : va_G} {cI cJ : ClassId} {A : Nat → Prop} {hm b0 b1 b2 b3 : Nat} {th mk sz : Int32} {F mv kp li : Nat → Int32} (bd : Nat → Nat) (sd rt ps : Nat) (hBd : Bd F 0 bd sd rt ps) (hLA : LenOK) (x : Int32) : Met l yX5_lines (Cond.code yX5_lines cX5_lines 8 (some .long) :: wsL_law) (rK 9) (va_Pc [.ref hm, .int x] (IW D cI cJ A (rW cI hm b0 b1 b2 b3 th mk sz F mv kp li))) (va_Ql (fun r u => (lnc bd sd x = 0 → ∃ d, d < 4 ∧ x = nI d ∧ r = lN (cnD bd sd rt ps d)) ∧ Bd u.1 0 bd sd rt ps) (fun (u : (Nat → Int32) × (Nat → Int32)) t => IW D cI cJ A (rW cI hm b0 b1 b2 b3 (nI (lnc bd sd x)) mk (nI (szN bd sd rt ps)) u.1 mv kp u.2) t) A) 0 0 A := by
  refine entM (by decide) (Nat.le_of_ble_eq_true rfl) ?_
  intro p e s m below meth c ls S0 hr hlocks hG hnm hB hl
  have hx := S0.1
  have hb := S0.2.1
  have hown := S0.2.2.2.1
  have hl : lv_has ls 8 [(0, .ref hm), (1, .int x)] := hl
  obtain ⟨hP, hD, hK, hA, hE⟩ := hB
  have hS : va_S A s.heap s.heap [] := va_S.rf
  obtain ⟨hBp, hsd, hs2, hrt, hr16, hps, hp65⟩ := id hBd
  have hnd : ndN bd sd < 2 := by unfold ndN; split <;> omega
  have hLen : plb bd sd = true → (legs bd sd rt ps).length ≤ 1024 := fun _ => hLA.le hBd
  have hszl : szN bd sd rt ps ≤ 1024 := by unfold szN; split; exact hLA.le hBd; exact Nat.zero_le _
  have hlgl : (lgs bd sd rt ps).length ≤ 1024 := by rw [← szN_eq]; exact hszl
  refine lv_aload_n hx hb dX5_lines_0 rfl (lv_at hl 0 rfl) ?_
  refine lv_aload_n hx hb dX5_lines_1 rfl (lv_at hl 0 rfl) ?_
  refine chI (rnV (As := []) (rest := [.ref hm]) S0 (c_X5_need l bd sd rt ps hBd hLen) wm_X5_99 wi_X5_need ws_X5_need wn_X5 wc_X5_need hd_X5_need ⟨rfl, rfl, by decide, by decide⟩ IW.blind (va_recv hK hP (ci := 4) (q0 := 0) rfl rfl) (IW.at hP hD hK hA hE hS) hl.1 (Nat.le_of_ble_eq_true rfl) dX5_lines_2 rfl ⟨by decide, by decide⟩) hS (fun r_1 u1 H locs hu hP hD hS => ?_)
  obtain ⟨he9, hA9, hL9⟩ := hu
  subst he9
  have hP : va_P D classes (rW cI hm b0 b1 b2 b3 th mk (nI (szN bd sd rt ps)) u1.1 mv kp u1.2) H := hP
  have hD : va_D A (rW cI hm b0 b1 b2 b3 th mk (nI (szN bd sd rt ps)) u1.1 mv kp u1.2) := hD
  have hB8 := hA9.Bd (b := 0) (by decide) hBd
  refine va_put (D := D) (ci := 4) (v := .int (nI (ndN bd sd))) (ty := .int) (C := RX5) (T := TX5) (N := 7) hx hb hG wu_X5 tyX5 tyX5_ok nmX5 hown hK hP hD hS 0 rfl rfl 0 (by decide) (hG _ wf_X5_22) (fun _ h9 => h9) rfl (by decide +kernel) rfl rfl (Nat.le_of_ble_eq_true rfl) dX5_lines_5 (fun H locs hP hD hS => ?_)
  have hP : va_P D classes (rW cI hm b0 b1 b2 b3 (nI (ndN bd sd)) mk (nI (szN bd sd rt ps)) u1.1 mv kp u1.2) H := hP
  have hD : va_D A (rW cI hm b0 b1 b2 b3 (nI (ndN bd sd)) mk (nI (szN bd sd rt ps)) u1.1 mv kp u1.2) := hD
  refine lv_aload_n hx hb dX5_lines_8 rfl (lv_at hl 0 rfl) ?_
  refine lv_aload_n hx hb dX5_lines_9 rfl (lv_at hl 0 rfl) ?_
  refine va_get (D := D) (ci := 4) (v := .int (nI (ndN bd sd))) (C := RX5) (T := TX5) (N := 7) hx hb hG wu_X5 hown hK hP 0 rfl rfl 0 (by decide) (hG _ wf_X5_22) (fun _ h9 => h9) rfl dX5_lines_10 ?_
  refine jnG 33 8 [(0, .ref hm), (1, .int x)] [.int (nI (lnc bd sd x)), .ref hm] ?_ (fun hj_33 => ?_)
  · intro ls hl
    refine va_put (D := D) (ci := 4) (v := .int (nI (lnc bd sd x))) (ty := .int) (C := RX5) (T := TX5) (N := 7) hx hb hG wu_X5 tyX5 tyX5_ok nmX5 hown hK hP hD hS 0 rfl rfl 0 (by decide) (hG _ wf_X5_22) (fun _ h9 => h9) rfl (by decide +kernel) rfl rfl (Nat.le_of_ble_eq_true rfl) dX5_lines_33 (fun H locs hP hD hS => ?_)
    have hP : va_P D classes (rW cI hm b0 b1 b2 b3 (nI (lnc bd sd x)) mk (nI (szN bd sd rt ps)) u1.1 mv kp u1.2) H := hP
    have hD : va_D A (rW cI hm b0 b1 b2 b3 (nI (lnc bd sd x)) mk (nI (szN bd sd rt ps)) u1.1 mv kp u1.2) := hD
    have hkc : lnc bd sd x < 3 := by unfold lnc; (repeat' split) <;> omega
    refine lv_aload_n hx hb dX5_lines_36 rfl (lv_at hl 0 rfl) ?_
    refine va_get (D := D) (ci := 4) (v := .int (nI (lnc bd sd x))) (C := RX5) (T := TX5) (N := 7) hx hb hG wu_X5 hown hK hP 0 rfl rfl 0 (by decide) (hG _ wf_X5_22) (fun _ h9 => h9) rfl dX5_lines_37 ?_
    refine ln_if_le (tgt := 45) hx hb dX5_lines_40 (by decide) (by omega) (fun c40 => ?_) (fun c40 => ?_)
    · skip
      obtain ⟨hpl, d, hd, hx9⟩ := lnc_0 c40
      have hkg : ∀ w, w < 2 → kgs bd w < 64 := fun w hw => plb_k hw hpl
      have hsz : szN bd sd rt ps = (legs bd sd rt ps).length := by unfold szN; rw [if_pos hpl]
      refine lv_iload_n hx hb dX5_lines_45 rfl (lv_at hl 1 rfl) ?_
      refine W.top (y := .int (nI d)) (congrArg Value.int hx9) ?_
      refine lv_iconst (v := (nI 2)) hx hb dX5_lines_46 (by decide) ?_
      refine ln_icmp_ge (tgt := 64) hx hb dX5_lines_47 (by decide) (by omega) (by decide) (fun c47 => ?_) (fun c47 => ?_)
      · skip
        refine lv_aload_n hx hb dX5_lines_64 rfl (lv_at hl 0 rfl) ?_
        refine va_get (D := D) (ci := 4) (v := .int (nI (szN bd sd rt ps))) (C := RX5) (T := TX5) (N := 7) hx hb hG wu_X5 hown hK hP 0 rfl rfl 5 (by decide) (hG _ wf_X5_96) (fun _ h9 => h9) rfl dX5_lines_65 ?_
        refine W.top (y := .int (nI ((legs bd sd rt ps).length))) (congrArg Value.int (congrArg nI hsz)) ?_
        refine lv_istore_n (lv' := [(2, .int (nI ((legs bd sd rt ps).length))), (0, .ref hm), (1, .int x)]) hx hb dX5_lines_68 rfl hl (by decide) rfl (fun ls hl => ?_)
        refine lv_lconst (v := 0) hx hb dX5_lines_69 (by decide) ?_
        refine W.top (y := .long (lN (smT (legs bd sd rt ps) (fun y => if d = 2 then cn1 (nB bd sd ps y) (1 - sd) (nR bd sd rt y) (nP bd sd ps y) else cn2 (nB bd sd ps y) (1 - sd) (nR bd sd rt y) (nP bd sd ps y)) 0))) (congrArg Value.long rfl) ?_
        refine lv_lstore_n (lv' := [(3, .long (lN (smT (legs bd sd rt ps) (fun y => if d = 2 then cn1 (nB bd sd ps y) (1 - sd) (nR bd sd rt y) (nP bd sd ps y) else cn2 (nB bd sd ps y) (1 - sd) (nR bd sd rt y) (nP bd sd ps y)) 0))), (2, .int (nI ((legs bd sd rt ps).length))), (0, .ref hm), (1, .int x)]) hx hb dX5_lines_70 rfl hl (by decide) rfl (fun ls hl => ?_)
        refine lv_iconst (v := (nI 0)) hx hb dX5_lines_71 (by decide) ?_
        refine lv_istore (lv' := [(5, .int (nI 0)), (3, .long (lN (smT (legs bd sd rt ps) (fun y => if d = 2 then cn1 (nB bd sd ps y) (1 - sd) (nR bd sd rt y) (nP bd sd ps y) else cn2 (nB bd sd ps y) (1 - sd) (nR bd sd rt y) (nP bd sd ps y)) 0))), (2, .int (nI ((legs bd sd rt ps).length))), (0, .ref hm), (1, .int x)]) hx hb dX5_lines_72 hl (by decide) rfl (fun ls hl => ?_)
        refine lpW (σ := (Nat) × (Nat → Int32) × (Nat → Int32)) 74 8 [] (fun x9 => [(0, .ref hm), (1, .int x), (2, .int (nI ((legs bd sd rt ps).length))), (3, .long (lN (smT (legs bd sd rt ps) (fun y => if d = 2 then cn1 (nB bd sd ps y) (1 - sd) (nR bd sd rt y) (nP bd sd ps y) else cn2 (nB bd sd ps y) (1 - sd) (nR bd sd rt y) (nP bd sd ps y)) x9.1))), (5, .int (nI x9.1))]) (fun x9 => rW cI hm b0 b1 b2 b3 (nI (lnc bd sd x)) mk (nI (szN bd sd rt ps)) x9.2.1 mv kp x9.2.2) (fun x9 => x9.1 ≤ (legs bd sd rt ps).length ∧ Bd x9.2.1 0 bd sd rt ps) (fun x9 => (legs bd sd rt ps).length - x9.1) (0, u1.1, u1.2) ⟨Nat.zero_le _, hB8⟩ (lv_sub hl [3, 4, 2, 1, 0] rfl) hP hD hS ?_
        clear hP hD hS hl ls
        rintro ⟨i, G, M⟩ H locs hI hP hD hS ih_74 ls hl
        try dsimp only at hI ih_74 hl hP hD
        clear hB8 hA9 hL9
        obtain ⟨hi, hBg⟩ := hI
        refine lv_iload hx hb dX5_lines_74 (lv_at hl 4 rfl) ?_
        refine lv_iload_n hx hb dX5_lines_76 rfl (lv_at hl 2 rfl) ?_
        refine ln_icmp_ge (tgt := 133) hx hb dX5_lines_77 (by decide) (by omega) (by omega) (fun c77 => ?_) (fun c77 => ?_)
        · skip
          refine lv_lload_n hx hb dX5_lines_133 rfl (lv_at hl 3 rfl) ?_
          exact weL ((G, M)) hx hb hr hlocks dX5_lines_134 ⟨fun _ => ⟨d, hd, hx9, by rw [show i = (legs bd sd rt ps).length by omega, smT_all, cnD_23 (by omega) hd]⟩, hBg⟩ hP hD hK hA hE hS
        · skip
          have hi : i < (legs bd sd rt ps).length := by omega
          obtain ⟨f, t, k, hf, ht, hk, hy, hlg⟩ := legs_of (getD_mem hi)
          obtain ⟨y1, y2, y3, y4, y5⟩ := nB_e (bd := bd) (sd := sd) (ps := ps) hf ht hy
          have hgo := (pre_go (lgl_pre hlg).1).1
          refine lv_aload_n hx hb dX5_lines_80 rfl (lv_at hl 0 rfl) ?_
          refine lv_iconst (v := (nI 0)) hx hb dX5_lines_81 (by decide) ?_
          refine lv_iload hx hb dX5_lines_82 (lv_at hl 4 rfl) ?_
          refine chI (rnV (As := [.int (nI 0), .int (nI i)]) (rest := []) S0 (c_X5_listAt l bd sd rt ps 0 (by decide) hBg (hkg _ hs2) (hLA.le hBg) i hi) wm_X5_106 wi_X5_listAt ws_X5_listAt wn_X5 wc_X5_listAt hd_X5_listAt ⟨rfl, rfl, by decide, by decide⟩ IW.blind (va_recv hK hP (ci := 4) (q0 := 0) rfl rfl) (IW.at hP hD hK hA hE hS) hl.1 (Nat.le_of_ble_eq_true rfl) dX5_lines_84 rfl ⟨by decide, by decide⟩) hS (fun r_2 u2 H locs hu hP hD hS => ?_)
          obtain ⟨he9, hA9, hL9⟩ := hu
          subst he9
          have hP : va_P D classes (rW cI hm b0 b1 b2 b3 (nI (lnc bd sd x)) mk (nI (szN bd sd rt ps)) u2.1 mv kp u2.2) H := hP
          have hD : va_D A (rW cI hm b0 b1 b2 b3 (nI (lnc bd sd x)) mk (nI (szN bd sd rt ps)) u2.1 mv kp u2.2) := hD
          refine W.top (y := .int (nI (f + 64 * t + 4096 * k))) (congrArg Value.int (congrArg nI hy)) ?_
          have hB1 := hA9.Bd (b := 0) (by decide) hBg
          refine lv_istore (lv' := [(6, .int (nI (f + 64 * t + 4096 * k))), (0, .ref hm), (1, .int x), (2, .int (nI ((legs bd sd rt ps).length))), (3, .long (lN (smT (legs bd sd rt ps) (fun y => if d = 2 then cn1 (nB bd sd ps y) (1 - sd) (nR bd sd rt y) (nP bd sd ps y) else cn2 (nB bd sd ps y) (1 - sd) (nR bd sd rt y) (nP bd sd ps y)) i))), (5, .int (nI i))]) hx hb dX5_lines_87 hl (by decide) rfl (fun ls hl => ?_)
          refine lv_aload_n hx hb dX5_lines_89 rfl (lv_at hl 1 rfl) ?_
          refine lv_iconst (v := (nI 0)) hx hb dX5_lines_90 (by decide) ?_
          refine lv_bipush (v := (nI 67)) hx hb dX5_lines_91 (by decide) ?_
          refine lv_iload hx hb dX5_lines_93 (lv_at hl 0 rfl) ?_
          refine chV (rnV (As := [.int (nI 0), .int (nI 67), .int (nI (f + 64 * t + 4096 * k))]) (rest := []) S0 (c_X5_behind l bd sd rt ps 0 67 f t k (by decide) (by decide) hf ht hk hgo hB1) wm_X5_86 wi_X5_behind ws_X5_behind wn_X5 wc_X5_behind hd_X5_behind ⟨rfl, rfl, by decide, by decide⟩ IW.blind (va_recv hK hP (ci := 4) (q0 := 0) rfl rfl) (IW.at hP hD hK hA hE hS) hl.1 (Nat.le_of_ble_eq_true rfl) dX5_lines_95 rfl ⟨by decide, by decide⟩) hS (fun u3 H locs hu hP hD hS => ?_)
          obtain ⟨hBn, hAn⟩ := hu
          have hP : va_P D classes (rW cI hm b0 b1 b2 b3 (nI (lnc bd sd x)) mk (nI (szN bd sd rt ps)) u3 mv kp u2.2) H := hP
          have hD : va_D A (rW cI hm b0 b1 b2 b3 (nI (lnc bd sd x)) mk (nI (szN bd sd rt ps)) u3 mv kp u2.2) := hD
          refine lv_aload_n hx hb dX5_lines_98 rfl (lv_at hl 1 rfl) ?_
          refine lv_bipush (v := (nI 67)) hx hb dX5_lines_99 (by decide) ?_
          refine lv_iconst (v := (nI 0)) hx hb dX5_lines_101 (by decide) ?_
          refine chI (rnV (As := [.int (nI 67), .int (nI 0)]) (rest := []) S0 (c_X5_listed l (bhB bd sd ps f t k) (1 - sd) (bhR bd sd rt f t) (bhP bd sd ps f t k) 67 (by decide) hBn (lgl_kg hBg.lt hs2 (by omega) hf ht hk hlg (hkg _ (by omega))) (hLA.le hBn)) wm_X5_93 wi_X5_listed ws_X5_listed wn_X5 wc_X5_listed hd_X5_listed ⟨rfl, rfl, by decide, by decide⟩ IW.blind (va_recv hK hP (ci := 4) (q0 := 0) rfl rfl) (IW.at hP hD hK hA hE hS) hl.1 (Nat.le_of_ble_eq_true rfl) dX5_lines_102 rfl ⟨by decide, by decide⟩) hS (fun r_4 u4 H locs hu hP hD hS => ?_)
          obtain ⟨he9, hA9, hL9⟩ := hu
          subst he9
          have hP : va_P D classes (rW cI hm b0 b1 b2 b3 (nI (lnc bd sd x)) mk (nI (szN bd sd rt ps)) u4.1 mv kp u4.2) H := hP
          have hD : va_D A (rW cI hm b0 b1 b2 b3 (nI (lnc bd sd x)) mk (nI (szN bd sd rt ps)) u4.1 mv kp u4.2) := hD
          have hl7 := hLA.le hBn
          have hB5 : Bd u4.1 0 bd sd rt ps := Bd_cp hB1 (fun j hj => by rw [Nat.zero_add]; exact (hA9 j (by omega)).trans (hAn j (by omega)))
          have hB4 := hA9.Bd (b := 67) (by decide) hBn
          refine lv_istore (lv' := [(7, .int (nI ((legs (bhB bd sd ps f t k) (1 - sd) (bhR bd sd rt f t) (bhP bd sd ps f t k)).length))), (6, .int (nI (f + 64 * t + 4096 * k))), (0, .ref hm), (1, .int x), (2, .int (nI ((legs bd sd rt ps).length))), (3, .long (lN (smT (legs bd sd rt ps) (fun y => if d = 2 then cn1 (nB bd sd ps y) (1 - sd) (nR bd sd rt y) (nP bd sd ps y) else cn2 (nB bd sd ps y) (1 - sd) (nR bd sd rt y) (nP bd sd ps y)) i))), (5, .int (nI i))]) hx hb dX5_lines_105 hl (by decide) rfl (fun ls hl => ?_)
          refine lv_lload_n hx hb dX5_lines_107 rfl (lv_at hl 5 rfl) ?_
          refine lv_iload_n hx hb dX5_lines_108 rfl (lv_at hl 3 rfl) ?_
          refine W.top (y := .int (nI d)) (congrArg Value.int hx9) ?_
          refine lv_iconst (v := (nI 2)) hx hb dX5_lines_109 (by decide) ?_
          refine jnW (σ := (Nat → Int32) × (Nat → Int32)) (D := D) (A := A) (H0 := s.heap) 125 8 (fun x9 => [(7, .int (nI ((legs (bhB bd sd ps f t k) (1 - sd) (bhR bd sd rt f t) (bhP bd sd ps f t k)).length))), (6, .int (nI (f + 64 * t + 4096 * k))), (0, .ref hm), (1, .int x), (2, .int (nI ((legs bd sd rt ps).length))), (3, .long (lN (smT (legs bd sd rt ps) (fun y => if d = 2 then cn1 (nB bd sd ps y) (1 - sd) (nR bd sd rt y) (nP bd sd ps y) else cn2 (nB bd sd ps y) (1 - sd) (nR bd sd rt y) (nP bd sd ps y)) i))), (5, .int (nI i))]) [.long (lN (if d = 2 then cn1 (bhB bd sd ps f t k) (1 - sd) (bhR bd sd rt f t) (bhP bd sd ps f t k) else cn2 (bhB bd sd ps f t k) (1 - sd) (bhR bd sd rt f t) (bhP bd sd ps f t k))), .long (lN (smT (legs bd sd rt ps) (fun y => if d = 2 then cn1 (nB bd sd ps y) (1 - sd) (nR bd sd rt y) (nP bd sd ps y) else cn2 (nB bd sd ps y) (1 - sd) (nR bd sd rt y) (nP bd sd ps y)) i))] (fun x9 => rW cI hm b0 b1 b2 b3 (nI (lnc bd sd x)) mk (nI (szN bd sd rt ps)) x9.1 mv kp x9.2) (fun x9 => Bd x9.1 0 bd sd rt ps) ?_ (fun hj_125 => ?_)
          · clear hP hD hS hl ls
            rintro ⟨G6, M6⟩ H locs hI hP hD hS ls hl
            try dsimp only at hI hP hD hl
            have hB6 := hI
            refine lv_ladd hx hb dX5_lines_125 ?_
            refine W.top (y := .long (lN (smT (legs bd sd rt ps) (fun y => if d = 2 then cn1 (nB bd sd ps y) (1 - sd) (nR bd sd rt y) (nP bd sd ps y) else cn2 (nB bd sd ps y) (1 - sd) (nR bd sd rt y) (nP bd sd ps y)) (i + 1)))) (congrArg Value.long (by rw [lN_add, smT_s hi]; unfold nR; rw [y4, y5, y1, y2])) ?_
            refine lv_lstore_n (lv' := [(3, .long (lN (smT (legs bd sd rt ps) (fun y => if d = 2 then cn1 (nB bd sd ps y) (1 - sd) (nR bd sd rt y) (nP bd sd ps y) else cn2 (nB bd sd ps y) (1 - sd) (nR bd sd rt y) (nP bd sd ps y)) (i + 1)))), (7, .int (nI ((legs (bhB bd sd ps f t k) (1 - sd) (bhR bd sd rt f t) (bhP bd sd ps f t k)).length))), (6, .int (nI (f + 64 * t + 4096 * k))), (0, .ref hm), (1, .int x), (2, .int (nI ((legs bd sd rt ps).length))), (5, .int (nI i))]) hx hb dX5_lines_126 rfl hl (by decide) rfl (fun ls hl => ?_)
            refine lv_iinc (v := (nI (i + 1))) (lv' := [(5, .int (nI (i + 1))), (3, .long (lN (smT (legs bd sd rt ps) (fun y => if d = 2 then cn1 (nB bd sd ps y) (1 - sd) (nR bd sd rt y) (nP bd sd ps y) else cn2 (nB bd sd ps y) (1 - sd) (nR bd sd rt y) (nP bd sd ps y)) (i + 1)))), (7, .int (nI ((legs (bhB bd sd ps f t k) (1 - sd) (bhR bd sd rt f t) (bhP bd sd ps f t k)).length))), (6, .int (nI (f + 64 * t + 4096 * k))), (0, .ref hm), (1, .int x), (2, .int (nI ((legs bd sd rt ps).length)))]) hx hb dX5_lines_127 hl (k := 6) rfl (show nI i + Int32.ofInt 1 = nI (i + 1) from nI_add _ 1) (by decide) rfl (fun ls hl => ?_)
            refine lv_goto (tgt := 74) hx hb dX5_lines_130 (by decide) ?_
            exact ih_74 ((i + 1), G6, M6) _ _ ⟨by omega, hB6⟩ (by (try dsimp only); omega) hP hD hS ls (lv_sub hl [4, 5, 6, 1, 0] rfl)
          · skip
            refine ln_icmp_ne (tgt := 119) hx hb dX5_lines_110 (by decide) (by omega) (by decide) (fun c110 => ?_) (fun c110 => ?_)
            · skip
              refine lv_aload_n hx hb dX5_lines_119 rfl (lv_at hl 2 rfl) ?_
              refine lv_iload hx hb dX5_lines_120 (lv_at hl 0 rfl) ?_
              refine chL (rnV (As := [.int (nI ((legs (bhB bd sd ps f t k) (1 - sd) (bhR bd sd rt f t) (bhP bd sd ps f t k)).length))]) (rest := [.long (lN (smT (legs bd sd rt ps) (fun y => if d = 2 then cn1 (nB bd sd ps y) (1 - sd) (nR bd sd rt y) (nP bd sd ps y) else cn2 (nB bd sd ps y) (1 - sd) (nR bd sd rt y) (nP bd sd ps y)) i))]) S0 (c_X5_deeper l (bhB bd sd ps f t k) (1 - sd) (bhR bd sd rt f t) (bhP bd sd ps f t k) hLA hB4 (fun w hw => lgl_kg hBg.lt hs2 hw hf ht hk hlg (hkg w hw))) wm_X5_109 wi_X5_deeper ws_X5_deeper wn_X5 wc_X5_deeper hd_X5_deeper ⟨rfl, rfl, by decide, by decide⟩ IW.blind (va_recv hK hP (ci := 4) (q0 := 0) rfl rfl) (IW.at hP hD hK hA hE hS) hl.1 (Nat.le_of_ble_eq_true rfl) dX5_lines_122 rfl ⟨by decide, by decide⟩) hS (fun r_5 u5 H locs hu hP hD hS => ?_)
              obtain ⟨he9, hsm9⟩ := hu
              subst he9
              have hP : va_P D classes (rW cI hm b0 b1 b2 b3 (nI (lnc bd sd x)) mk (nI (szN bd sd rt ps)) u5.1 mv kp u5.2) H := hP
              have hD : va_D A (rW cI hm b0 b1 b2 b3 (nI (lnc bd sd x)) mk (nI (szN bd sd rt ps)) u5.1 mv kp u5.2) := hD
              refine W.top (y := .long (lN (if d = 2 then cn1 (bhB bd sd ps f t k) (1 - sd) (bhR bd sd rt f t) (bhP bd sd ps f t k) else cn2 (bhB bd sd ps f t k) (1 - sd) (bhR bd sd rt f t) (bhP bd sd ps f t k)))) (congrArg Value.long (congrArg lN (by first | (rw [if_pos c110]; rfl) | rw [if_neg c110]))) ?_
              exact hj_125 (u5.1, u5.2) _ _ (by first | exact hB5 | exact Bd_cp hB5 (fun j hj => by rw [Nat.zero_add]; exact hsm9 j (by omega))) hP hD hS ls (lv_sub hl [0, 1, 2, 3, 4, 5, 6] rfl)
            · skip
              refine lv_iload hx hb dX5_lines_113 (lv_at hl 0 rfl) ?_
              refine lv_i2l hx hb dX5_lines_115 rfl ?_
              refine W.top (y := .long (lN (legs (bhB bd sd ps f t k) (1 - sd) (bhR bd sd rt f t) (bhP bd sd ps f t k)).length)) (congrArg Value.long (nI_l (by omega))) ?_
              refine lv_goto (tgt := 125) hx hb dX5_lines_116 (by decide) ?_
              refine W.top (y := .long (lN (if d = 2 then cn1 (bhB bd sd ps f t k) (1 - sd) (bhR bd sd rt f t) (bhP bd sd ps f t k) else cn2 (bhB bd sd ps f t k) (1 - sd) (bhR bd sd rt f t) (bhP bd sd ps f t k)))) (congrArg Value.long (congrArg lN (by first | (rw [if_pos c110]; rfl) | rw [if_neg c110]))) ?_
              exact hj_125 (u4.1, u4.2) _ _ (by first | exact hB5 | exact Bd_cp hB5 (fun j hj => by rw [Nat.zero_add]; exact hsm9 j (by omega))) hP hD hS ls (lv_sub hl [0, 1, 2, 3, 4, 5, 6] rfl)
      · skip
        refine lv_iload_n hx hb dX5_lines_50 rfl (lv_at hl 1 rfl) ?_
        refine W.top (y := .int (nI d)) (congrArg Value.int hx9) ?_
        refine ln_if_ne (tgt := 58) hx hb dX5_lines_51 (by decide) (by omega) (fun c51 => ?_) (fun c51 => ?_)
        · skip
          refine lv_aload_n hx hb dX5_lines_58 rfl (lv_at hl 0 rfl) ?_
          refine va_get (D := D) (ci := 4) (v := .int (nI (szN bd sd rt ps))) (C := RX5) (T := TX5) (N := 7) hx hb hG wu_X5 hown hK hP 0 rfl rfl 5 (by decide) (hG _ wf_X5_96) (fun _ h9 => h9) rfl dX5_lines_59 ?_
          refine lv_i2l hx hb dX5_lines_62 rfl ?_
          refine W.top (y := .long (lN (cnD bd sd rt ps d))) (congrArg Value.long (by rw [nI_l (by omega), hsz]; unfold cnD; rw [if_neg c51, if_pos (show d = 1 by omega)]; rfl)) ?_
          exact weL ((u1.1, u1.2)) hx hb hr hlocks dX5_lines_63 ⟨fun _ => ⟨d, hd, hx9, rfl⟩, hB8⟩ hP hD hK hA hE hS
        · skip
          refine lv_lconst (v := 1) hx hb dX5_lines_54 (by decide) ?_
          refine W.top (y := .long (lN (cnD bd sd rt ps d))) (congrArg Value.long (by unfold cnD; rw [if_pos c51]; rfl)) ?_
          refine lv_goto (tgt := 63) hx hb dX5_lines_55 (by decide) ?_
          exact weL ((u1.1, u1.2)) hx hb hr hlocks dX5_lines_63 ⟨fun _ => ⟨d, hd, hx9, rfl⟩, hB8⟩ hP hD hK hA hE hS
    · skip
      refine lv_lconst (v := 0) hx hb dX5_lines_43 (by decide) ?_
      exact weL ((u1.1, u1.2)) hx hb hr hlocks dX5_lines_44 ⟨fun z => absurd z c40, hB8⟩ hP hD hK hA hE hS
  · skip
    refine ln_if_ne (tgt := 29) hx hb dX5_lines_13 (by decide) (by omega) (fun c13 => ?_) (fun c13 => ?_)
    · skip
      refine lv_aload_n hx hb dX5_lines_29 rfl (lv_at hl 0 rfl) ?_
      refine va_get (D := D) (ci := 4) (v := .int (nI (ndN bd sd))) (C := RX5) (T := TX5) (N := 7) hx hb hG wu_X5 hown hK hP 0 rfl rfl 0 (by decide) (hG _ wf_X5_22) (fun _ h9 => h9) rfl dX5_lines_30 ?_
      refine W.top (y := .int (nI (lnc bd sd x))) (congrArg Value.int (congrArg nI (by unfold lnc; first | rw [if_neg c13] | rw [if_pos c13, if_pos (Or.inl c17)] | rw [if_pos c13, if_pos (Or.inr c22)] | (rw [if_pos c13, if_neg (fun z => z.elim c17 (fun w => w c22))]; exact c13)))) ?_
      exact hj_33 ls (lv_sub hl [0, 1] rfl)
    · skip
      refine lv_iload_n hx hb dX5_lines_16 rfl (lv_at hl 1 rfl) ?_
      refine lv_if_lt (tgt := 25) hx hb dX5_lines_17 (by decide) (fun c17 => ?_) (fun c17 => ?_)
      · skip
        refine lv_iconst (v := (nI 2)) hx hb dX5_lines_25 (by decide) ?_
        refine lv_goto (tgt := 33) hx hb dX5_lines_26 (by decide) ?_
        refine W.top (y := .int (nI (lnc bd sd x))) (congrArg Value.int (congrArg nI (by unfold lnc; first | rw [if_neg c13] | rw [if_pos c13, if_pos (Or.inl c17)] | rw [if_pos c13, if_pos (Or.inr c22)] | (rw [if_pos c13, if_neg (fun z => z.elim c17 (fun w => w c22))]; exact c13)))) ?_
        exact hj_33 ls (lv_sub hl [0, 1] rfl)
      · skip
        refine lv_iload_n hx hb dX5_lines_20 rfl (lv_at hl 1 rfl) ?_
        refine lv_iconst (v := (nI 3)) hx hb dX5_lines_21 (by decide) ?_
        refine lv_icmp_le (tgt := 29) hx hb dX5_lines_22 (by decide) (fun c22 => ?_) (fun c22 => ?_)
        · skip
          refine lv_aload_n hx hb dX5_lines_29 rfl (lv_at hl 0 rfl) ?_
          refine va_get (D := D) (ci := 4) (v := .int (nI (ndN bd sd))) (C := RX5) (T := TX5) (N := 7) hx hb hG wu_X5 hown hK hP 0 rfl rfl 0 (by decide) (hG _ wf_X5_22) (fun _ h9 => h9) rfl dX5_lines_30 ?_
          refine W.top (y := .int (nI (lnc bd sd x))) (congrArg Value.int (congrArg nI (by unfold lnc; first | rw [if_neg c13] | rw [if_pos c13, if_pos (Or.inl c17)] | rw [if_pos c13, if_pos (Or.inr c22)] | (rw [if_pos c13, if_neg (fun z => z.elim c17 (fun w => w c22))]; exact c13)))) ?_
          exact hj_33 ls (lv_sub hl [0, 1] rfl)
        · skip
          refine lv_iconst (v := (nI 2)) hx hb dX5_lines_25 (by decide) ?_
          refine lv_goto (tgt := 33) hx hb dX5_lines_26 (by decide) ?_
          refine W.top (y := .int (nI (lnc bd sd x))) (congrArg Value.int (congrArg nI (by unfold lnc; first | rw [if_neg c13] | rw [if_pos c13, if_pos (Or.inl c17)] | rw [if_pos c13, if_pos (Or.inr c22)] | (rw [if_pos c13, if_neg (fun z => z.elim c17 (fun w => w c22))]; exact c13)))) ?_
          exact hj_33 ls (lv_sub hl [0, 1] rfl)

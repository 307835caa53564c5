theorem dX5_placeOf_0 : decode cX5_placeOf 0 = .ok (.iconst (-1), 1) := by decide +kernel
theorem dX5_placeOf_1 : decode cX5_placeOf 1 = .ok (.istore_n 2, 1) := by decide +kernel
theorem dX5_placeOf_2 : decode cX5_placeOf 2 = .ok (.iconst 0, 1) := by decide +kernel
theorem dX5_placeOf_3 : decode cX5_placeOf 3 = .ok (.istore_n 3, 1) := by decide +kernel
theorem dX5_placeOf_4 : decode cX5_placeOf 4 = .ok (.iload_n 3, 1) := by decide +kernel
theorem dX5_placeOf_5 : decode cX5_placeOf 5 = .ok (.aload_n 0, 1) := by decide +kernel
theorem dX5_placeOf_6 : decode cX5_placeOf 6 = .ok (.getfield 96, 3) := by decide +kernel
theorem dX5_placeOf_9 : decode cX5_placeOf 9 = .ok (.if_icmp .ge 25, 3) := by decide +kernel
theorem dX5_placeOf_12 : decode cX5_placeOf 12 = .ok (.aload_n 0, 1) := by decide +kernel
theorem dX5_placeOf_13 : decode cX5_placeOf 13 = .ok (.getfield 19, 3) := by decide +kernel
theorem dX5_placeOf_16 : decode cX5_placeOf 16 = .ok (.iload_n 3, 1) := by decide +kernel
theorem dX5_placeOf_17 : decode cX5_placeOf 17 = .ok (.iaload, 1) := by decide +kernel
theorem dX5_placeOf_18 : decode cX5_placeOf 18 = .ok (.iload_n 1, 1) := by decide +kernel
theorem dX5_placeOf_19 : decode cX5_placeOf 19 = .ok (.if_icmp .ne 7, 3) := by decide +kernel
theorem dX5_placeOf_22 : decode cX5_placeOf 22 = .ok (.iload_n 3, 1) := by decide +kernel
theorem dX5_placeOf_23 : decode cX5_placeOf 23 = .ok (.goto 4, 3) := by decide +kernel
theorem dX5_placeOf_26 : decode cX5_placeOf 26 = .ok (.iload_n 2, 1) := by decide +kernel
theorem dX5_placeOf_27 : decode cX5_placeOf 27 = .ok (.istore_n 2, 1) := by decide +kernel
theorem dX5_placeOf_28 : decode cX5_placeOf 28 = .ok (.iinc 3 1, 3) := by decide +kernel
theorem dX5_placeOf_31 : decode cX5_placeOf 31 = .ok (.goto (-27), 3) := by decide +kernel
theorem dX5_placeOf_34 : decode cX5_placeOf 34 = .ok (.iload_n 2, 1) := by decide +kernel
theorem dX5_placeOf_35 : decode cX5_placeOf 35 = .ok (.ireturn, 1) := by decide +kernel
theorem hd_X5_placeOf : yX5_placeOf.cls ≠ "java/lang/invoke/MethodHandle" ∧ yX5_placeOf.cls ≠ "java/lang/invoke/VarHandle" ∧ (parseMethodDescriptor yX5_placeOf.desc).map (fun d => d.parameters.length) = some 1 := by decide +kernel
set_option maxHeartbeats 4000000 in
set_option maxRecDepth 100000 in
/-- placeOf -/
theorem c_X5_placeOf (l : Launch) {D : va_G} {cI cJ : ClassId} {A : Nat → Prop} {hm b0 b1 b2 b3 : Nat} {th mk sz : Int32} {F mv kp li : Nat → Int32} (x : Int32) (L : List Nat) (hL : LI li L) (hsz : sz = nI L.length) (hLn : L.length ≤ 1024) : Met l yX5_placeOf (Cond.code yX5_placeOf cX5_placeOf 4 (some .int) :: wsL_law) (rK 0) (va_Pc [.ref hm, .int x] (IW D cI cJ A (rW cI hm b0 b1 b2 b3 th mk sz F mv kp li))) (vp_Si (fun r => r = plc L x L.length)) 0 0 (fun _ => False) := by
  refine entM (by decide) (Nat.le_of_ble_eq_true rfl) ?_
  intro p e s m below meth c ls S0 hr hlocks hG hnm hB hl
  have hx := S0.1
  have hb := S0.2.1
  have hown := S0.2.2.2.1
  have hl : lv_has ls 4 [(0, .ref hm), (1, .int x)] := hl
  obtain ⟨hP, hD, hK, hA, hE⟩ := hB
  have hS : va_S A s.heap s.heap [] := va_S.rf
  refine lv_iconst (v := (-1)) hx hb dX5_placeOf_0 (by decide) ?_
  refine W.top (y := .int (plc L x 0)) (congrArg Value.int rfl) ?_
  refine lv_istore_n (lv' := [(2, .int (plc L x 0)), (0, .ref hm), (1, .int x)]) hx hb dX5_placeOf_1 rfl hl (by decide) rfl (fun ls hl => ?_)
  refine lv_iconst (v := (nI 0)) hx hb dX5_placeOf_2 (by decide) ?_
  refine lv_istore_n (lv' := [(3, .int (nI 0)), (2, .int (plc L x 0)), (0, .ref hm), (1, .int x)]) hx hb dX5_placeOf_3 rfl hl (by decide) rfl (fun ls hl => ?_)
  refine lpR (σ := (Nat)) 4 4 [] (fun x9 => [(0, .ref hm), (1, .int x), (2, .int (plc L x x9)), (3, .int (nI x9))]) (fun x9 => x9 ≤ L.length) (fun x9 => L.length - x9) 0 (Nat.zero_le _) (lv_sub hl [2, 3, 1, 0] rfl) ?_
  clear hl ls
  rintro i hI ih_4 ls hl
  try dsimp only at hI ih_4 hl
  refine lv_iload_n hx hb dX5_placeOf_4 rfl (lv_at hl 3 rfl) ?_
  refine lv_aload_n hx hb dX5_placeOf_5 rfl (lv_at hl 0 rfl) ?_
  refine va_get (D := D) (ci := 4) (v := .int sz) (C := RX5) (T := TX5) (N := 7) hx hb hG wu_X5 hown hK hP 0 rfl rfl 5 (by decide) (hG _ wf_X5_96) (fun _ h9 => h9) rfl dX5_placeOf_6 ?_
  refine W.top (y := .int (nI L.length)) (congrArg Value.int hsz) ?_
  refine ln_icmp_ge (tgt := 34) hx hb dX5_placeOf_9 (by decide) (by omega) (by omega) (fun c9 => ?_) (fun c9 => ?_)
  · skip
    refine lv_iload_n hx hb dX5_placeOf_34 rfl (lv_at hl 2 rfl) ?_
    exact reI hx hb hr hlocks dX5_placeOf_35 (by rw [show i = L.length by omega])
  · skip
    have hi : i < L.length := by omega
    refine lv_aload_n hx hb dX5_placeOf_12 rfl (lv_at hl 0 rfl) ?_
    refine va_get (D := D) (ci := 4) (v := .ref b3) (C := RX5) (T := TX5) (N := 7) hx hb hG wu_X5 hown hK hP 0 rfl rfl 6 (by decide) (hG _ wf_X5_19) (fun _ h9 => h9) rfl dX5_placeOf_13 ?_
    refine lv_iload_n hx hb dX5_placeOf_16 rfl (lv_at hl 3 rfl) ?_
    refine va_iald hx hb hK hP 4 0 rfl rfl (vp_in_nI (by omega) (by decide)) dX5_placeOf_17 ?_
    refine W.top (y := .int (li i)) (congrArg (fun z => Value.int (li z)) (nI_clamp (by omega))) ?_
    refine W.top (y := .int (nI (L.getD i 0))) (congrArg Value.int (hL i hi)) ?_
    refine lv_iload_n hx hb dX5_placeOf_18 rfl (lv_at hl 1 rfl) ?_
    refine jnG 27 4 [(0, .ref hm), (1, .int x), (2, .int (plc L x i)), (3, .int (nI i))] [.int (plc L x (i + 1))] ?_ (fun hj_27 => ?_)
    · intro ls hl
      refine lv_istore_n (lv' := [(2, .int (plc L x (i + 1))), (0, .ref hm), (1, .int x), (3, .int (nI i))]) hx hb dX5_placeOf_27 rfl hl (by decide) rfl (fun ls hl => ?_)
      refine lv_iinc (v := (nI (i + 1))) (lv' := [(3, .int (nI (i + 1))), (2, .int (plc L x (i + 1))), (0, .ref hm), (1, .int x)]) hx hb dX5_placeOf_28 hl (k := 3) rfl (show nI i + Int32.ofInt 1 = nI (i + 1) from nI_add _ 1) (by decide) rfl (fun ls hl => ?_)
      refine lv_goto (tgt := 4) hx hb dX5_placeOf_31 (by decide) ?_
      exact ih_4 (i + 1) (by omega) (by (try dsimp only); omega) ls (lv_sub hl [2, 3, 1, 0] rfl)
    · skip
      refine lv_icmp_ne (tgt := 26) hx hb dX5_placeOf_19 (by decide) (fun c19 => ?_) (fun c19 => ?_)
      · skip
        refine lv_iload_n hx hb dX5_placeOf_26 rfl (lv_at hl 2 rfl) ?_
        refine W.top (y := .int (plc L x (i + 1))) (congrArg Value.int (by rw [plc_s]; first | rw [if_pos c19] | rw [if_neg c19])) ?_
        exact hj_27 ls (lv_sub hl [0, 1, 2, 3] rfl)
      · skip
        refine lv_iload_n hx hb dX5_placeOf_22 rfl (lv_at hl 3 rfl) ?_
        refine lv_goto (tgt := 27) hx hb dX5_placeOf_23 (by decide) ?_
        refine W.top (y := .int (plc L x (i + 1))) (congrArg Value.int (by rw [plc_s]; first | rw [if_pos c19] | rw [if_neg c19])) ?_
        exact hj_27 ls (lv_sub hl [0, 1, 2, 3] rfl)
theorem dX5_count_0 : decode cX5_count 0 = .ok (.aload_n 0, 1) := by decide +kernel
theorem dX5_count_1 : decode cX5_count 1 = .ok (.aload_n 0, 1) := by decide +kernel
theorem dX5_count_2 : decode cX5_count 2 = .ok (.invokevirtual 99, 3) := by decide +kernel
theorem dX5_count_5 : decode cX5_count 5 = .ok (.putfield 22, 3) := by decide +kernel
theorem dX5_count_8 : decode cX5_count 8 = .ok (.aload_n 0, 1) := by decide +kernel
theorem dX5_count_9 : decode cX5_count 9 = .ok (.getfield 96, 3) := by decide +kernel
theorem dX5_count_12 : decode cX5_count 12 = .ok (.ireturn, 1) := by decide +kernel
theorem hd_X5_count : yX5_count.cls ≠ "java/lang/invoke/MethodHandle" ∧ yX5_count.cls ≠ "java/lang/invoke/VarHandle" ∧ (parseMethodDescriptor yX5_count.desc).map (fun d => d.parameters.length) = some 0 := by decide +kernel
set_option maxHeartbeats 4000000 in
set_option maxRecDepth 100000 in
/-- count -/
theorem c_X5_count (l : Launch) {D : va_G} {cI cJ : ClassId} {A : Nat → Prop} {hm b0 b1 b2 b3 : Nat} {th mk sz : Int32} {F mv kp li : Nat → Int32} (bd : Nat → Nat) (sd rt ps : Nat) (hBd : Bd F 0 bd sd rt ps) (hLen : plb bd sd = true → (legs bd sd rt ps).length ≤ 1024) : Met l yX5_count (Cond.code yX5_count cX5_count 1 (some .int) :: wsL_law) (rK 8) (va_Pc [.ref hm] (IW D cI cJ A (rW cI hm b0 b1 b2 b3 th mk sz F mv kp li))) (va_Qi (fun r u => r = nI (szN bd sd rt ps) ∧ Ag F u.1 67 ∧ LI u.2 (lgs bd sd rt ps)) (fun (u : (Nat → Int32) × (Nat → Int32)) t => IW D cI cJ A (rW cI hm b0 b1 b2 b3 (nI (ndN bd sd)) mk (nI (szN bd sd rt ps)) u.1 mv kp u.2) t) A) 0 0 A := by
  refine entM (by decide) (Nat.le_of_ble_eq_true rfl) ?_
  intro p e s m below meth c ls S0 hr hlocks hG hnm hB hl
  have hx := S0.1
  have hb := S0.2.1
  have hown := S0.2.2.2.1
  have hl : lv_has ls 1 [(0, .ref hm)] := hl
  obtain ⟨hP, hD, hK, hA, hE⟩ := hB
  have hS : va_S A s.heap s.heap [] := va_S.rf
  obtain ⟨hBp, hsd, hs2, hrt, hr16, hps, hp65⟩ := id hBd
  have hnd : ndN bd sd < 2 := by unfold ndN; split <;> omega
  refine lv_aload_n hx hb dX5_count_0 rfl (lv_at hl 0 rfl) ?_
  refine lv_aload_n hx hb dX5_count_1 rfl (lv_at hl 0 rfl) ?_
  refine chI (rnV (As := []) (rest := [.ref hm]) S0 (c_X5_need l bd sd rt ps hBd hLen) wm_X5_99 wi_X5_need ws_X5_need wn_X5 wc_X5_need hd_X5_need ⟨rfl, rfl, by decide, by decide⟩ IW.blind (va_recv hK hP (ci := 4) (q0 := 0) rfl rfl) (IW.at hP hD hK hA hE hS) hl.1 (Nat.le_of_ble_eq_true rfl) dX5_count_2 rfl ⟨by decide, by decide⟩) hS (fun r_1 u_2 H locs hu hP hD hS => ?_)
  obtain ⟨he9, hA9, hL9⟩ := hu
  subst he9
  have hP : va_P D classes (rW cI hm b0 b1 b2 b3 th mk (nI (szN bd sd rt ps)) u_2.1 mv kp u_2.2) H := hP
  have hD : va_D A (rW cI hm b0 b1 b2 b3 th mk (nI (szN bd sd rt ps)) u_2.1 mv kp u_2.2) := hD
  refine va_put (D := D) (ci := 4) (v := .int (nI (ndN bd sd))) (ty := .int) (C := RX5) (T := TX5) (N := 7) hx hb hG wu_X5 tyX5 tyX5_ok nmX5 hown hK hP hD hS 0 rfl rfl 0 (by decide) (hG _ wf_X5_22) (fun _ h9 => h9) rfl (by decide +kernel) rfl rfl (Nat.le_of_ble_eq_true rfl) dX5_count_5 (fun H locs hP hD hS => ?_)
  have hP : va_P D classes (rW cI hm b0 b1 b2 b3 (nI (ndN bd sd)) mk (nI (szN bd sd rt ps)) u_2.1 mv kp u_2.2) H := hP
  have hD : va_D A (rW cI hm b0 b1 b2 b3 (nI (ndN bd sd)) mk (nI (szN bd sd rt ps)) u_2.1 mv kp u_2.2) := hD
  refine lv_aload_n hx hb dX5_count_8 rfl (lv_at hl 0 rfl) ?_
  refine va_get (D := D) (ci := 4) (v := .int (nI (szN bd sd rt ps))) (C := RX5) (T := TX5) (N := 7) hx hb hG wu_X5 hown hK hP 0 rfl rfl 5 (by decide) (hG _ wf_X5_96) (fun _ h9 => h9) rfl dX5_count_9 ?_
  exact weI ((u_2.1, u_2.2)) hx hb hr hlocks dX5_count_12 ⟨rfl, hA9, hL9⟩ hP hD hK hA hE hS
theorem dX5_move_0 : decode cX5_move 0 = .ok (.aload_n 0, 1) := by decide +kernel
theorem dX5_move_1 : decode cX5_move 1 = .ok (.aload_n 0, 1) := by decide +kernel
theorem dX5_move_2 : decode cX5_move 2 = .ok (.invokevirtual 99, 3) := by decide +kernel
theorem dX5_move_5 : decode cX5_move 5 = .ok (.putfield 22, 3) := by decide +kernel
theorem dX5_move_8 : decode cX5_move 8 = .ok (.aload_n 0, 1) := by decide +kernel
theorem dX5_move_9 : decode cX5_move 9 = .ok (.aload_n 0, 1) := by decide +kernel
theorem dX5_move_10 : decode cX5_move 10 = .ok (.getfield 22, 3) := by decide +kernel
theorem dX5_move_13 : decode cX5_move 13 = .ok (.ifCond .ne 19, 3) := by decide +kernel
theorem dX5_move_16 : decode cX5_move 16 = .ok (.iload_n 1, 1) := by decide +kernel
theorem dX5_move_17 : decode cX5_move 17 = .ok (.ifCond .lt 11, 3) := by decide +kernel
theorem dX5_move_20 : decode cX5_move 20 = .ok (.iload_n 1, 1) := by decide +kernel
theorem dX5_move_21 : decode cX5_move 21 = .ok (.aload_n 0, 1) := by decide +kernel
theorem dX5_move_22 : decode cX5_move 22 = .ok (.getfield 96, 3) := by decide +kernel
theorem dX5_move_25 : decode cX5_move 25 = .ok (.if_icmp .lt 7, 3) := by decide +kernel
theorem dX5_move_28 : decode cX5_move 28 = .ok (.iconst 2, 1) := by decide +kernel
theorem dX5_move_29 : decode cX5_move 29 = .ok (.goto 7, 3) := by decide +kernel
theorem dX5_move_32 : decode cX5_move 32 = .ok (.aload_n 0, 1) := by decide +kernel
theorem dX5_move_33 : decode cX5_move 33 = .ok (.getfield 22, 3) := by decide +kernel
theorem dX5_move_36 : decode cX5_move 36 = .ok (.putfield 22, 3) := by decide +kernel
theorem dX5_move_39 : decode cX5_move 39 = .ok (.aload_n 0, 1) := by decide +kernel
theorem dX5_move_40 : decode cX5_move 40 = .ok (.getfield 22, 3) := by decide +kernel
theorem dX5_move_43 : decode cX5_move 43 = .ok (.ifCond .le 7, 3) := by decide +kernel
theorem dX5_move_46 : decode cX5_move 46 = .ok (.iconst 0, 1) := by decide +kernel
theorem dX5_move_47 : decode cX5_move 47 = .ok (.goto 9, 3) := by decide +kernel
theorem dX5_move_50 : decode cX5_move 50 = .ok (.aload_n 0, 1) := by decide +kernel
theorem dX5_move_51 : decode cX5_move 51 = .ok (.getfield 19, 3) := by decide +kernel
theorem dX5_move_54 : decode cX5_move 54 = .ok (.iload_n 1, 1) := by decide +kernel
theorem dX5_move_55 : decode cX5_move 55 = .ok (.iaload, 1) := by decide +kernel
theorem dX5_move_56 : decode cX5_move 56 = .ok (.ireturn, 1) := by decide +kernel
theorem hd_X5_move : yX5_move.cls ≠ "java/lang/invoke/MethodHandle" ∧ yX5_move.cls ≠ "java/lang/invoke/VarHandle" ∧ (parseMethodDescriptor yX5_move.desc).map (fun d => d.parameters.length) = some 1 := by decide +kernel
set_option maxHeartbeats 4000000 in
set_option maxRecDepth 100000 in
/-- move -/
theorem c_X5_move (l : Launch) {D : va_G} {cI cJ : ClassId} {A : Nat → Prop} {hm b0 b1 b2 b3 : Nat} {th mk sz : Int32} {F mv kp li : Nat → Int32} (bd : Nat → Nat) (sd rt ps : Nat) (hBd : Bd F 0 bd sd rt ps) (hLen : plb bd sd = true → (legs bd sd rt ps).length ≤ 1024) (x : Int32) : Met l yX5_move (Cond.code yX5_move cX5_move 2 (some .int) :: wsL_law) (rK 8) (va_Pc [.ref hm, .int x] (IW D cI cJ A (rW cI hm b0 b1 b2 b3 th mk sz F mv kp li))) (va_Qi (fun r u => r = (if mvc bd sd rt ps x = 0 then nI ((lgs bd sd rt ps).getD x.toNatClampNeg 0) else nI 0) ∧ Ag F u.1 67 ∧ LI u.2 (lgs bd sd rt ps)) (fun (u : (Nat → Int32) × (Nat → Int32)) t => IW D cI cJ A (rW cI hm b0 b1 b2 b3 (nI (mvc bd sd rt ps x)) mk (nI (szN bd sd rt ps)) u.1 mv kp u.2) t) A) 0 0 A := by
  refine entM (by decide) (Nat.le_of_ble_eq_true rfl) ?_
  intro p e s m below meth c ls S0 hr hlocks hG hnm hB hl
  have hx := S0.1
  have hb := S0.2.1
  have hown := S0.2.2.2.1
  have hl : lv_has ls 2 [(0, .ref hm), (1, .int x)] := hl
  obtain ⟨hP, hD, hK, hA, hE⟩ := hB
  have hS : va_S A s.heap s.heap [] := va_S.rf
  obtain ⟨hBp, hsd, hs2, hrt, hr16, hps, hp65⟩ := id hBd
  have hnd : ndN bd sd < 2 := by unfold ndN; split <;> omega
  have hszl : szN bd sd rt ps ≤ 1024 := by unfold szN; split; (rename_i h9; exact hLen h9); exact Nat.zero_le _
  refine lv_aload_n hx hb dX5_move_0 rfl (lv_at hl 0 rfl) ?_
  refine lv_aload_n hx hb dX5_move_1 rfl (lv_at hl 0 rfl) ?_
  refine chI (rnV (As := []) (rest := [.ref hm]) S0 (c_X5_need l bd sd rt ps hBd hLen) wm_X5_99 wi_X5_need ws_X5_need wn_X5 wc_X5_need hd_X5_need ⟨rfl, rfl, by decide, by decide⟩ IW.blind (va_recv hK hP (ci := 4) (q0 := 0) rfl rfl) (IW.at hP hD hK hA hE hS) hl.1 (Nat.le_of_ble_eq_true rfl) dX5_move_2 rfl ⟨by decide, by decide⟩) hS (fun r_1 u_2 H locs hu hP hD hS => ?_)
  obtain ⟨he9, hA9, hL9⟩ := hu
  subst he9
  have hP : va_P D classes (rW cI hm b0 b1 b2 b3 th mk (nI (szN bd sd rt ps)) u_2.1 mv kp u_2.2) H := hP
  have hD : va_D A (rW cI hm b0 b1 b2 b3 th mk (nI (szN bd sd rt ps)) u_2.1 mv kp u_2.2) := hD
  refine va_put (D := D) (ci := 4) (v := .int (nI (ndN bd sd))) (ty := .int) (C := RX5) (T := TX5) (N := 7) hx hb hG wu_X5 tyX5 tyX5_ok nmX5 hown hK hP hD hS 0 rfl rfl 0 (by decide) (hG _ wf_X5_22) (fun _ h9 => h9) rfl (by decide +kernel) rfl rfl (Nat.le_of_ble_eq_true rfl) dX5_move_5 (fun H locs hP hD hS => ?_)
  have hP : va_P D classes (rW cI hm b0 b1 b2 b3 (nI (ndN bd sd)) mk (nI (szN bd sd rt ps)) u_2.1 mv kp u_2.2) H := hP
  have hD : va_D A (rW cI hm b0 b1 b2 b3 (nI (ndN bd sd)) mk (nI (szN bd sd rt ps)) u_2.1 mv kp u_2.2) := hD
  refine lv_aload_n hx hb dX5_move_8 rfl (lv_at hl 0 rfl) ?_
  refine lv_aload_n hx hb dX5_move_9 rfl (lv_at hl 0 rfl) ?_
  refine va_get (D := D) (ci := 4) (v := .int (nI (ndN bd sd))) (C := RX5) (T := TX5) (N := 7) hx hb hG wu_X5 hown hK hP 0 rfl rfl 0 (by decide) (hG _ wf_X5_22) (fun _ h9 => h9) rfl dX5_move_10 ?_
  refine jnG 36 2 [(0, .ref hm), (1, .int x)] [.int (nI (mvc bd sd rt ps x)), .ref hm] ?_ (fun hj_36 => ?_)
  · intro ls hl
    refine va_put (D := D) (ci := 4) (v := .int (nI (mvc bd sd rt ps x))) (ty := .int) (C := RX5) (T := TX5) (N := 7) hx hb hG wu_X5 tyX5 tyX5_ok nmX5 hown hK hP hD hS 0 rfl rfl 0 (by decide) (hG _ wf_X5_22) (fun _ h9 => h9) rfl (by decide +kernel) rfl rfl (Nat.le_of_ble_eq_true rfl) dX5_move_36 (fun H locs hP hD hS => ?_)
    have hP : va_P D classes (rW cI hm b0 b1 b2 b3 (nI (mvc bd sd rt ps x)) mk (nI (szN bd sd rt ps)) u_2.1 mv kp u_2.2) H := hP
    have hD : va_D A (rW cI hm b0 b1 b2 b3 (nI (mvc bd sd rt ps x)) mk (nI (szN bd sd rt ps)) u_2.1 mv kp u_2.2) := hD
    have hmc : mvc bd sd rt ps x < 3 := by unfold mvc; (repeat' split) <;> omega
    refine lv_aload_n hx hb dX5_move_39 rfl (lv_at hl 0 rfl) ?_
    refine va_get (D := D) (ci := 4) (v := .int (nI (mvc bd sd rt ps x))) (C := RX5) (T := TX5) (N := 7) hx hb hG wu_X5 hown hK hP 0 rfl rfl 0 (by decide) (hG _ wf_X5_22) (fun _ h9 => h9) rfl dX5_move_40 ?_
    refine ln_if_le (tgt := 50) hx hb dX5_move_43 (by decide) (by omega) (fun c43 => ?_) (fun c43 => ?_)
    · skip
      obtain ⟨j9, hj9, hx9⟩ := mvc_0 c43 (by omega)
      have hL8 := hL9 j9 (by rw [← szN_eq]; exact hj9)
      refine lv_aload_n hx hb dX5_move_50 rfl (lv_at hl 0 rfl) ?_
      refine va_get (D := D) (ci := 4) (v := .ref b3) (C := RX5) (T := TX5) (N := 7) hx hb hG wu_X5 hown hK hP 0 rfl rfl 6 (by decide) (hG _ wf_X5_19) (fun _ h9 => h9) rfl dX5_move_51 ?_
      refine lv_iload_n hx hb dX5_move_54 rfl (lv_at hl 1 rfl) ?_
      refine W.top (y := .int (nI j9)) (congrArg Value.int hx9) ?_
      refine va_iald hx hb hK hP 4 0 rfl rfl (vp_in_nI (by omega) (by decide)) dX5_move_55 ?_
      refine W.top (y := .int (u_2.2 j9)) (congrArg (fun z => Value.int (u_2.2 z)) (nI_clamp (by omega))) ?_
      refine W.top (y := .int (nI ((lgs bd sd rt ps).getD j9 0))) (congrArg Value.int hL8) ?_
      exact weI ((u_2.1, u_2.2)) hx hb hr hlocks dX5_move_56 ⟨by first | (rw [if_pos c43, hx9, nI_clamp (by omega)]) | (rw [if_neg c43]), hA9, hL9⟩ hP hD hK hA hE hS
    · skip
      refine lv_iconst (v := (nI 0)) hx hb dX5_move_46 (by decide) ?_
      refine lv_goto (tgt := 56) hx hb dX5_move_47 (by decide) ?_
      exact weI ((u_2.1, u_2.2)) hx hb hr hlocks dX5_move_56 ⟨by first | (rw [if_pos c43, hx9, nI_clamp (by omega)]) | (rw [if_neg c43]), hA9, hL9⟩ hP hD hK hA hE hS
  · skip
    refine ln_if_ne (tgt := 32) hx hb dX5_move_13 (by decide) (by omega) (fun c13 => ?_) (fun c13 => ?_)
    · skip
      refine lv_aload_n hx hb dX5_move_32 rfl (lv_at hl 0 rfl) ?_
      refine va_get (D := D) (ci := 4) (v := .int (nI (ndN bd sd))) (C := RX5) (T := TX5) (N := 7) hx hb hG wu_X5 hown hK hP 0 rfl rfl 0 (by decide) (hG _ wf_X5_22) (fun _ h9 => h9) rfl dX5_move_33 ?_
      refine W.top (y := .int (nI (mvc bd sd rt ps x))) (congrArg Value.int (congrArg nI (by unfold mvc; first | (rw [if_neg c13]) | (rw [if_pos c13, if_pos (Or.inl c17)]) | (rw [if_pos c13, if_pos (Or.inr c25)]) | (rw [if_pos c13, if_neg (fun z => z.elim c17 (fun y => y c25)), c13])))) ?_
      exact hj_36 ls (lv_sub hl [0, 1] rfl)
    · skip
      refine lv_iload_n hx hb dX5_move_16 rfl (lv_at hl 1 rfl) ?_
      refine lv_if_lt (tgt := 28) hx hb dX5_move_17 (by decide) (fun c17 => ?_) (fun c17 => ?_)
      · skip
        refine lv_iconst (v := (nI 2)) hx hb dX5_move_28 (by decide) ?_
        refine lv_goto (tgt := 36) hx hb dX5_move_29 (by decide) ?_
        refine W.top (y := .int (nI (mvc bd sd rt ps x))) (congrArg Value.int (congrArg nI (by unfold mvc; first | (rw [if_neg c13]) | (rw [if_pos c13, if_pos (Or.inl c17)]) | (rw [if_pos c13, if_pos (Or.inr c25)]) | (rw [if_pos c13, if_neg (fun z => z.elim c17 (fun y => y c25)), c13])))) ?_
        exact hj_36 ls (lv_sub hl [0, 1] rfl)
      · skip
        refine lv_iload_n hx hb dX5_move_20 rfl (lv_at hl 1 rfl) ?_
        refine lv_aload_n hx hb dX5_move_21 rfl (lv_at hl 0 rfl) ?_
        refine va_get (D := D) (ci := 4) (v := .int (nI (szN bd sd rt ps))) (C := RX5) (T := TX5) (N := 7) hx hb hG wu_X5 hown hK hP 0 rfl rfl 5 (by decide) (hG _ wf_X5_96) (fun _ h9 => h9) rfl dX5_move_22 ?_
        refine lv_icmp_lt (tgt := 32) hx hb dX5_move_25 (by decide) (fun c25 => ?_) (fun c25 => ?_)
        · skip
          refine lv_aload_n hx hb dX5_move_32 rfl (lv_at hl 0 rfl) ?_
          refine va_get (D := D) (ci := 4) (v := .int (nI (ndN bd sd))) (C := RX5) (T := TX5) (N := 7) hx hb hG wu_X5 hown hK hP 0 rfl rfl 0 (by decide) (hG _ wf_X5_22) (fun _ h9 => h9) rfl dX5_move_33 ?_
          refine W.top (y := .int (nI (mvc bd sd rt ps x))) (congrArg Value.int (congrArg nI (by unfold mvc; first | (rw [if_neg c13]) | (rw [if_pos c13, if_pos (Or.inl c17)]) | (rw [if_pos c13, if_pos (Or.inr c25)]) | (rw [if_pos c13, if_neg (fun z => z.elim c17 (fun y => y c25)), c13])))) ?_
          exact hj_36 ls (lv_sub hl [0, 1] rfl)
        · skip
          refine lv_iconst (v := (nI 2)) hx hb dX5_move_28 (by decide) ?_
          refine lv_goto (tgt := 36) hx hb dX5_move_29 (by decide) ?_
          refine W.top (y := .int (nI (mvc bd sd rt ps x))) (congrArg Value.int (congrArg nI (by unfold mvc; first | (rw [if_neg c13]) | (rw [if_pos c13, if_pos (Or.inl c17)]) | (rw [if_pos c13, if_pos (Or.inr c25)]) | (rw [if_pos c13, if_neg (fun z => z.elim c17 (fun y => y c25)), c13])))) ?_
          exact hj_36 ls (lv_sub hl [0, 1] rfl)
theorem dX5_place_0 : decode cX5_place 0 = .ok (.aload_n 0, 1) := by decide +kernel
theorem dX5_place_1 : decode cX5_place 1 = .ok (.aload_n 0, 1) := by decide +kernel
theorem dX5_place_2 : decode cX5_place 2 = .ok (.invokevirtual 99, 3) := by decide +kernel
theorem dX5_place_5 : decode cX5_place 5 = .ok (.putfield 22, 3) := by decide +kernel
theorem dX5_place_8 : decode cX5_place 8 = .ok (.aload_n 0, 1) := by decide +kernel
theorem dX5_place_9 : decode cX5_place 9 = .ok (.getfield 22, 3) := by decide +kernel
theorem dX5_place_12 : decode cX5_place 12 = .ok (.ifCond .le 7, 3) := by decide +kernel
theorem dX5_place_15 : decode cX5_place 15 = .ok (.iconst 0, 1) := by decide +kernel
theorem dX5_place_16 : decode cX5_place 16 = .ok (.goto 8, 3) := by decide +kernel
theorem dX5_place_19 : decode cX5_place 19 = .ok (.aload_n 0, 1) := by decide +kernel
theorem dX5_place_20 : decode cX5_place 20 = .ok (.iload_n 1, 1) := by decide +kernel
theorem dX5_place_21 : decode cX5_place 21 = .ok (.invokevirtual 103, 3) := by decide +kernel
theorem dX5_place_24 : decode cX5_place 24 = .ok (.ireturn, 1) := by decide +kernel
theorem hd_X5_place : yX5_place.cls ≠ "java/lang/invoke/MethodHandle" ∧ yX5_place.cls ≠ "java/lang/invoke/VarHandle" ∧ (parseMethodDescriptor yX5_place.desc).map (fun d => d.parameters.length) = some 1 := by decide +kernel
set_option maxHeartbeats 4000000 in
set_option maxRecDepth 100000 in
/-- place -/
theorem c_X5_place (l : Launch) {D : va_G} {cI cJ : ClassId} {A : Nat → Prop} {hm b0 b1 b2 b3 : Nat} {th mk sz : Int32} {F mv kp li : Nat → Int32} (bd : Nat → Nat) (sd rt ps : Nat) (hBd : Bd F 0 bd sd rt ps) (hLen : plb bd sd = true → (legs bd sd rt ps).length ≤ 1024) (x : Int32) : Met l yX5_place (Cond.code yX5_place cX5_place 2 (some .int) :: wsL_law) (rK 8) (va_Pc [.ref hm, .int x] (IW D cI cJ A (rW cI hm b0 b1 b2 b3 th mk sz F mv kp li))) (va_Qi (fun r u => r = (if ndN bd sd = 0 then plc (lgs bd sd rt ps) x (lgs bd sd rt ps).length else nI 0) ∧ Ag F u.1 67 ∧ LI u.2 (lgs bd sd rt ps)) (fun (u : (Nat → Int32) × (Nat → Int32)) t => IW D cI cJ A (rW cI hm b0 b1 b2 b3 (nI (ndN bd sd)) mk (nI (szN bd sd rt ps)) u.1 mv kp u.2) t) A) 0 0 A := by
  refine entM (by decide) (Nat.le_of_ble_eq_true rfl) ?_
  intro p e s m below meth c ls S0 hr hlocks hG hnm hB hl
  have hx := S0.1
  have hb := S0.2.1
  have hown := S0.2.2.2.1
  have hl : lv_has ls 2 [(0, .ref hm), (1, .int x)] := hl
  obtain ⟨hP, hD, hK, hA, hE⟩ := hB
  have hS : va_S A s.heap s.heap [] := va_S.rf
  obtain ⟨hBp, hsd, hs2, hrt, hr16, hps, hp65⟩ := id hBd
  have hnd : ndN bd sd < 2 := by unfold ndN; split <;> omega
  have hszl : szN bd sd rt ps ≤ 1024 := by unfold szN; split; (rename_i h9; exact hLen h9); exact Nat.zero_le _
  refine lv_aload_n hx hb dX5_place_0 rfl (lv_at hl 0 rfl) ?_
  refine lv_aload_n hx hb dX5_place_1 rfl (lv_at hl 0 rfl) ?_
  refine chI (rnV (As := []) (rest := [.ref hm]) S0 (c_X5_need l bd sd rt ps hBd hLen) wm_X5_99 wi_X5_need ws_X5_need wn_X5 wc_X5_need hd_X5_need ⟨rfl, rfl, by decide, by decide⟩ IW.blind (va_recv hK hP (ci := 4) (q0 := 0) rfl rfl) (IW.at hP hD hK hA hE hS) hl.1 (Nat.le_of_ble_eq_true rfl) dX5_place_2 rfl ⟨by decide, by decide⟩) hS (fun r_1 u_2 H locs hu hP hD hS => ?_)
  obtain ⟨he9, hA9, hL9⟩ := hu
  subst he9
  have hP : va_P D classes (rW cI hm b0 b1 b2 b3 th mk (nI (szN bd sd rt ps)) u_2.1 mv kp u_2.2) H := hP
  have hD : va_D A (rW cI hm b0 b1 b2 b3 th mk (nI (szN bd sd rt ps)) u_2.1 mv kp u_2.2) := hD
  refine va_put (D := D) (ci := 4) (v := .int (nI (ndN bd sd))) (ty := .int) (C := RX5) (T := TX5) (N := 7) hx hb hG wu_X5 tyX5 tyX5_ok nmX5 hown hK hP hD hS 0 rfl rfl 0 (by decide) (hG _ wf_X5_22) (fun _ h9 => h9) rfl (by decide +kernel) rfl rfl (Nat.le_of_ble_eq_true rfl) dX5_place_5 (fun H locs hP hD hS => ?_)
  have hP : va_P D classes (rW cI hm b0 b1 b2 b3 (nI (ndN bd sd)) mk (nI (szN bd sd rt ps)) u_2.1 mv kp u_2.2) H := hP
  have hD : va_D A (rW cI hm b0 b1 b2 b3 (nI (ndN bd sd)) mk (nI (szN bd sd rt ps)) u_2.1 mv kp u_2.2) := hD
  refine lv_aload_n hx hb dX5_place_8 rfl (lv_at hl 0 rfl) ?_
  refine va_get (D := D) (ci := 4) (v := .int (nI (ndN bd sd))) (C := RX5) (T := TX5) (N := 7) hx hb hG wu_X5 hown hK hP 0 rfl rfl 0 (by decide) (hG _ wf_X5_22) (fun _ h9 => h9) rfl dX5_place_9 ?_
  refine ln_if_le (tgt := 19) hx hb dX5_place_12 (by decide) (by omega) (fun c12 => ?_) (fun c12 => ?_)
  · skip
    refine lv_aload_n hx hb dX5_place_19 rfl (lv_at hl 0 rfl) ?_
    refine lv_iload_n hx hb dX5_place_20 rfl (lv_at hl 1 rfl) ?_
    refine roI (rnV (As := [.int x]) (rest := []) S0 (c_X5_placeOf l x (lgs bd sd rt ps) hL9 (congrArg nI (szN_eq bd sd rt ps)) (by rw [← szN_eq]; exact hszl)) wm_X5_103 wi_X5_placeOf ws_X5_placeOf wn_X5 wc_X5_placeOf hd_X5_placeOf ⟨rfl, rfl, by decide, by decide⟩ IW.blind (va_recv hK hP (ci := 4) (q0 := 0) rfl rfl) (IW.at hP hD hK hA hE hS) hl.1 (Nat.le_of_ble_eq_true rfl) dX5_place_21 rfl ⟨by decide, by decide⟩) (fun r_3 hr_3 => ?_)
    subst hr_3
    exact weI ((u_2.1, u_2.2)) hx hb hr hlocks dX5_place_24 ⟨by first | rw [if_pos c12] | rw [if_neg c12], hA9, hL9⟩ hP hD hK hA hE hS
  · skip
    refine lv_iconst (v := (nI 0)) hx hb dX5_place_15 (by decide) ?_
    refine lv_goto (tgt := 24) hx hb dX5_place_16 (by decide) ?_
    exact weI ((u_2.1, u_2.2)) hx hb hr hlocks dX5_place_24 ⟨by first | rw [if_pos c12] | rw [if_neg c12], hA9, hL9⟩ hP hD hK hA hE hS
theorem dX5_on_0 : decode cX5_on 0 = .ok (.aload_n 0, 1) := by decide +kernel
theorem dX5_on_1 : decode cX5_on 1 = .ok (.aload_n 0, 1) := by decide +kernel
theorem dX5_on_2 : decode cX5_on 2 = .ok (.invokevirtual 99, 3) := by decide +kernel
theorem dX5_on_5 : decode cX5_on 5 = .ok (.putfield 22, 3) := by decide +kernel
theorem dX5_on_8 : decode cX5_on 8 = .ok (.iconst 0, 1) := by decide +kernel
theorem dX5_on_9 : decode cX5_on 9 = .ok (.istore_n 3, 1) := by decide +kernel
theorem dX5_on_10 : decode cX5_on 10 = .ok (.iconst 0, 1) := by decide +kernel
theorem dX5_on_11 : decode cX5_on 11 = .ok (.istore 4, 2) := by decide +kernel
theorem dX5_on_13 : decode cX5_on 13 = .ok (.iload 4, 2) := by decide +kernel
theorem dX5_on_15 : decode cX5_on 15 = .ok (.aload_n 0, 1) := by decide +kernel
theorem dX5_on_16 : decode cX5_on 16 = .ok (.getfield 96, 3) := by decide +kernel
theorem dX5_on_19 : decode cX5_on 19 = .ok (.if_icmp .ge 51, 3) := by decide +kernel
theorem dX5_on_22 : decode cX5_on 22 = .ok (.iload_n 3, 1) := by decide +kernel
theorem dX5_on_23 : decode cX5_on 23 = .ok (.iload_n 2, 1) := by decide +kernel
theorem dX5_on_24 : decode cX5_on 24 = .ok (.ifCond .eq 16, 3) := by decide +kernel
theorem dX5_on_27 : decode cX5_on 27 = .ok (.aload_n 0, 1) := by decide +kernel
theorem dX5_on_28 : decode cX5_on 28 = .ok (.getfield 19, 3) := by decide +kernel
theorem dX5_on_31 : decode cX5_on 31 = .ok (.iload 4, 2) := by decide +kernel
theorem dX5_on_33 : decode cX5_on 33 = .ok (.iaload, 1) := by decide +kernel
theorem dX5_on_34 : decode cX5_on 34 = .ok (.bipush 64, 2) := by decide +kernel
theorem dX5_on_36 : decode cX5_on 36 = .ok (.irem, 1) := by decide +kernel
theorem dX5_on_37 : decode cX5_on 37 = .ok (.goto 16, 3) := by decide +kernel
theorem dX5_on_40 : decode cX5_on 40 = .ok (.aload_n 0, 1) := by decide +kernel
theorem dX5_on_41 : decode cX5_on 41 = .ok (.getfield 19, 3) := by decide +kernel
theorem dX5_on_44 : decode cX5_on 44 = .ok (.iload 4, 2) := by decide +kernel
theorem dX5_on_46 : decode cX5_on 46 = .ok (.iaload, 1) := by decide +kernel
theorem dX5_on_47 : decode cX5_on 47 = .ok (.bipush 64, 2) := by decide +kernel
theorem dX5_on_49 : decode cX5_on 49 = .ok (.idiv, 1) := by decide +kernel
theorem dX5_on_50 : decode cX5_on 50 = .ok (.bipush 64, 2) := by decide +kernel
theorem dX5_on_52 : decode cX5_on 52 = .ok (.irem, 1) := by decide +kernel
theorem dX5_on_53 : decode cX5_on 53 = .ok (.iload_n 1, 1) := by decide +kernel
theorem dX5_on_54 : decode cX5_on 54 = .ok (.if_icmp .ne 7, 3) := by decide +kernel
theorem dX5_on_57 : decode cX5_on 57 = .ok (.iconst 1, 1) := by decide +kernel
theorem dX5_on_58 : decode cX5_on 58 = .ok (.goto 4, 3) := by decide +kernel
theorem dX5_on_61 : decode cX5_on 61 = .ok (.iconst 0, 1) := by decide +kernel
theorem dX5_on_62 : decode cX5_on 62 = .ok (.iadd, 1) := by decide +kernel
theorem dX5_on_63 : decode cX5_on 63 = .ok (.istore_n 3, 1) := by decide +kernel
theorem dX5_on_64 : decode cX5_on 64 = .ok (.iinc 4 1, 3) := by decide +kernel
theorem dX5_on_67 : decode cX5_on 67 = .ok (.goto (-54), 3) := by decide +kernel
theorem dX5_on_70 : decode cX5_on 70 = .ok (.iload_n 3, 1) := by decide +kernel
theorem dX5_on_71 : decode cX5_on 71 = .ok (.ireturn, 1) := by decide +kernel
theorem hd_X5_on : yX5_on.cls ≠ "java/lang/invoke/MethodHandle" ∧ yX5_on.cls ≠ "java/lang/invoke/VarHandle" ∧ (parseMethodDescriptor yX5_on.desc).map (fun d => d.parameters.length) = some 2 := by decide +kernel
set_option maxHeartbeats 4000000 in
set_option maxRecDepth 100000 in
/-- on -/
theorem c_X5_on (l : Launch) {D : va_G} {cI cJ : ClassId} {A : Nat → Prop} {hm b0 b1 b2 b3 : Nat} {th mk sz : Int32} {F mv kp li : Nat → Int32} (bd : Nat → Nat) (sd rt ps : Nat) (hBd : Bd F 0 bd sd rt ps) (hLen : plb bd sd = true → (legs bd sd rt ps).length ≤ 1024) (x : Int32) (w : Bool) : Met l yX5_on (Cond.code yX5_on cX5_on 5 (some .int) :: wsL_law) (rK 8) (va_Pc [.ref hm, .int x, .int (bI w)] (IW D cI cJ A (rW cI hm b0 b1 b2 b3 th mk sz F mv kp li))) (va_Qi (fun r u => r = nI (onc (lgs bd sd rt ps) x w (lgs bd sd rt ps).length) ∧ Ag F u.1 67 ∧ LI u.2 (lgs bd sd rt ps)) (fun (u : (Nat → Int32) × (Nat → Int32)) t => IW D cI cJ A (rW cI hm b0 b1 b2 b3 (nI (ndN bd sd)) mk (nI (szN bd sd rt ps)) u.1 mv kp u.2) t) A) 0 0 A := by
  refine entM (by decide) (Nat.le_of_ble_eq_true rfl) ?_
  intro p e s m below meth c ls S0 hr hlocks hG hnm hB hl
  have hx := S0.1
  have hb := S0.2.1
  have hown := S0.2.2.2.1
  have hl : lv_has ls 5 [(0, .ref hm), (1, .int x), (2, .int (bI w))] := hl
  obtain ⟨hP, hD, hK, hA, hE⟩ := hB
  have hS : va_S A s.heap s.heap [] := va_S.rf
  obtain ⟨hBp, hsd, hs2, hrt, hr16, hps, hp65⟩ := id hBd
  have hnd : ndN bd sd < 2 := by unfold ndN; split <;> omega
  have hszl : szN bd sd rt ps ≤ 1024 := by unfold szN; split; (rename_i h9; exact hLen h9); exact Nat.zero_le _
  refine lv_aload_n hx hb dX5_on_0 rfl (lv_at hl 0 rfl) ?_
  refine lv_aload_n hx hb dX5_on_1 rfl (lv_at hl 0 rfl) ?_
  refine chI (rnV (As := []) (rest := [.ref hm]) S0 (c_X5_need l bd sd rt ps hBd hLen) wm_X5_99 wi_X5_need ws_X5_need wn_X5 wc_X5_need hd_X5_need ⟨rfl, rfl, by decide, by decide⟩ IW.blind (va_recv hK hP (ci := 4) (q0 := 0) rfl rfl) (IW.at hP hD hK hA hE hS) hl.1 (Nat.le_of_ble_eq_true rfl) dX5_on_2 rfl ⟨by decide, by decide⟩) hS (fun r_1 u_2 H locs hu hP hD hS => ?_)
  obtain ⟨he9, hA9, hL9⟩ := hu
  subst he9
  have hP : va_P D classes (rW cI hm b0 b1 b2 b3 th mk (nI (szN bd sd rt ps)) u_2.1 mv kp u_2.2) H := hP
  have hD : va_D A (rW cI hm b0 b1 b2 b3 th mk (nI (szN bd sd rt ps)) u_2.1 mv kp u_2.2) := hD
  refine va_put (D := D) (ci := 4) (v := .int (nI (ndN bd sd))) (ty := .int) (C := RX5) (T := TX5) (N := 7) hx hb hG wu_X5 tyX5 tyX5_ok nmX5 hown hK hP hD hS 0 rfl rfl 0 (by decide) (hG _ wf_X5_22) (fun _ h9 => h9) rfl (by decide +kernel) rfl rfl (Nat.le_of_ble_eq_true rfl) dX5_on_5 (fun H locs hP hD hS => ?_)
  have hP : va_P D classes (rW cI hm b0 b1 b2 b3 (nI (ndN bd sd)) mk (nI (szN bd sd rt ps)) u_2.1 mv kp u_2.2) H := hP
  have hD : va_D A (rW cI hm b0 b1 b2 b3 (nI (ndN bd sd)) mk (nI (szN bd sd rt ps)) u_2.1 mv kp u_2.2) := hD
  refine lv_iconst (v := (nI 0)) hx hb dX5_on_8 (by decide) ?_
  refine W.top (y := .int (nI (onc (lgs bd sd rt ps) x w 0))) (congrArg Value.int rfl) ?_
  refine lv_istore_n (lv' := [(3, .int (nI (onc (lgs bd sd rt ps) x w 0))), (0, .ref hm), (1, .int x), (2, .int (bI w))]) hx hb dX5_on_9 rfl hl (by decide) rfl (fun ls hl => ?_)
  refine lv_iconst (v := (nI 0)) hx hb dX5_on_10 (by decide) ?_
  refine lv_istore (lv' := [(4, .int (nI 0)), (3, .int (nI (onc (lgs bd sd rt ps) x w 0))), (0, .ref hm), (1, .int x), (2, .int (bI w))]) hx hb dX5_on_11 hl (by decide) rfl (fun ls hl => ?_)
  refine lpW (σ := (Nat) × (Nat → Int32) × (Nat → Int32)) 13 5 [] (fun x9 => [(0, .ref hm), (1, .int x), (2, .int (bI w)), (3, .int (nI (onc (lgs bd sd rt ps) x w x9.1))), (4, .int (nI x9.1))]) (fun x9 => rW cI hm b0 b1 b2 b3 (nI (ndN bd sd)) mk (nI (szN bd sd rt ps)) x9.2.1 mv kp x9.2.2) (fun x9 => x9.1 ≤ szN bd sd rt ps ∧ Ag F x9.2.1 67 ∧ LI x9.2.2 (lgs bd sd rt ps)) (fun x9 => szN bd sd rt ps - x9.1) (0, u_2.1, u_2.2) ⟨Nat.zero_le _, hA9, hL9⟩ (lv_sub hl [2, 3, 4, 1, 0] rfl) hP hD hS ?_
  clear hP hD hS hl ls
  rintro ⟨i, G, M⟩ H locs hI hP hD hS ih_13 ls hl
  try dsimp only at hI ih_13 hl hP hD
  clear hA9 hL9
  obtain ⟨hi, hA9, hL9⟩ := hI
  have hon := onc_le (lgs bd sd rt ps) x w i
  refine lv_iload hx hb dX5_on_13 (lv_at hl 4 rfl) ?_
  refine lv_aload_n hx hb dX5_on_15 rfl (lv_at hl 0 rfl) ?_
  refine va_get (D := D) (ci := 4) (v := .int (nI (szN bd sd rt ps))) (C := RX5) (T := TX5) (N := 7) hx hb hG wu_X5 hown hK hP 0 rfl rfl 5 (by decide) (hG _ wf_X5_96) (fun _ h9 => h9) rfl dX5_on_16 ?_
  refine ln_icmp_ge (tgt := 70) hx hb dX5_on_19 (by decide) (by omega) (by omega) (fun c19 => ?_) (fun c19 => ?_)
  · skip
    refine lv_iload_n hx hb dX5_on_70 rfl (lv_at hl 3 rfl) ?_
    exact weI ((G, M)) hx hb hr hlocks dX5_on_71 ⟨by rw [show i = (lgs bd sd rt ps).length by rw [← szN_eq]; omega], hA9, hL9⟩ hP hD hK hA hE hS
  · skip
    have hi2 : i < szN bd sd rt ps := by omega
    have hv9 := hL9 i (by rw [← szN_eq]; exact hi2)
    have hv8 : (lgs bd sd rt ps).getD i 0 < 24576 := getD_lt lgs_lt (by decide)
    refine lv_iload_n hx hb dX5_on_22 rfl (lv_at hl 3 rfl) ?_
    refine lv_iload_n hx hb dX5_on_23 rfl (lv_at hl 2 rfl) ?_
    refine jnG 53 5 [(0, .ref hm), (1, .int x), (2, .int (bI w)), (3, .int (nI (onc (lgs bd sd rt ps) x w i))), (4, .int (nI i))] [.int (nI (if w = true then (lgs bd sd rt ps).getD i 0 % 64 else (lgs bd sd rt ps).getD i 0 / 64 % 64)), .int (nI (onc (lgs bd sd rt ps) x w i))] ?_ (fun hj_53 => ?_)
    · intro ls hl
      refine lv_iload_n hx hb dX5_on_53 rfl (lv_at hl 1 rfl) ?_
      refine jnG 62 5 [(0, .ref hm), (1, .int x), (2, .int (bI w)), (3, .int (nI (onc (lgs bd sd rt ps) x w i))), (4, .int (nI i))] [.int (nI (if nI (if w = true then (lgs bd sd rt ps).getD i 0 % 64 else (lgs bd sd rt ps).getD i 0 / 64 % 64) = x then 1 else 0)), .int (nI (onc (lgs bd sd rt ps) x w i))] ?_ (fun hj_62 => ?_)
      · intro ls hl
        refine ln_iadd hx hb dX5_on_62 ?_
        refine lv_istore_n (lv' := [(3, .int (nI ((onc (lgs bd sd rt ps) x w i) + (if nI (if w = true then (lgs bd sd rt ps).getD i 0 % 64 else (lgs bd sd rt ps).getD i 0 / 64 % 64) = x then 1 else 0)))), (0, .ref hm), (1, .int x), (2, .int (bI w)), (4, .int (nI i))]) hx hb dX5_on_63 rfl hl (by decide) rfl (fun ls hl => ?_)
        refine lv_iinc (v := (nI (i + 1))) (lv' := [(4, .int (nI (i + 1))), (3, .int (nI ((onc (lgs bd sd rt ps) x w i) + (if nI (if w = true then (lgs bd sd rt ps).getD i 0 % 64 else (lgs bd sd rt ps).getD i 0 / 64 % 64) = x then 1 else 0)))), (0, .ref hm), (1, .int x), (2, .int (bI w))]) hx hb dX5_on_64 hl (k := 4) rfl (show nI i + Int32.ofInt 1 = nI (i + 1) from nI_add _ 1) (by decide) rfl (fun ls hl => ?_)
        refine lv_goto (tgt := 13) hx hb dX5_on_67 (by decide) ?_
        exact ih_13 ((i + 1), G, M) _ _ ⟨by omega, hA9, hL9⟩ (by (try dsimp only); omega) hP hD hS ls (lv_sub hl [2, 3, 4, 1, 0] rfl)
      · skip
        refine lv_icmp_ne (tgt := 61) hx hb dX5_on_54 (by decide) (fun c54 => ?_) (fun c54 => ?_)
        · skip
          refine lv_iconst (v := (nI 0)) hx hb dX5_on_61 (by decide) ?_
          refine W.top (y := .int (nI (if nI (if w = true then (lgs bd sd rt ps).getD i 0 % 64 else (lgs bd sd rt ps).getD i 0 / 64 % 64) = x then 1 else 0))) (congrArg Value.int (congrArg nI (by first | rw [if_pos c54] | rw [if_neg c54]))) ?_
          exact hj_62 ls (lv_sub hl [0, 1, 2, 3, 4] rfl)
        · skip
          refine lv_iconst (v := (nI 1)) hx hb dX5_on_57 (by decide) ?_
          refine lv_goto (tgt := 62) hx hb dX5_on_58 (by decide) ?_
          refine W.top (y := .int (nI (if nI (if w = true then (lgs bd sd rt ps).getD i 0 % 64 else (lgs bd sd rt ps).getD i 0 / 64 % 64) = x then 1 else 0))) (congrArg Value.int (congrArg nI (by first | rw [if_pos c54] | rw [if_neg c54]))) ?_
          exact hj_62 ls (lv_sub hl [0, 1, 2, 3, 4] rfl)
    · skip
      refine lb_if_eq (tgt := 40) hx hb dX5_on_24 (by decide) (fun c24 => ?_) (fun c24 => ?_)
      · skip
        refine lv_aload_n hx hb dX5_on_40 rfl (lv_at hl 0 rfl) ?_
        refine va_get (D := D) (ci := 4) (v := .ref b3) (C := RX5) (T := TX5) (N := 7) hx hb hG wu_X5 hown hK hP 0 rfl rfl 6 (by decide) (hG _ wf_X5_19) (fun _ h9 => h9) rfl dX5_on_41 ?_
        refine lv_iload hx hb dX5_on_44 (lv_at hl 4 rfl) ?_
        refine va_iald hx hb hK hP 4 0 rfl rfl (vp_in_nI (by omega) (by decide)) dX5_on_46 ?_
        refine W.top (y := .int (M i)) (congrArg (fun z => Value.int (M z)) (nI_clamp (by omega))) ?_
        refine W.top (y := .int (nI ((lgs bd sd rt ps).getD i 0))) (congrArg Value.int hv9) ?_
        refine lv_bipush (v := (nI 64)) hx hb dX5_on_47 (by decide) ?_
        refine ln_idiv hx hb dX5_on_49 (by omega) (by decide) (by decide) ?_
        refine lv_bipush (v := (nI 64)) hx hb dX5_on_50 (by decide) ?_
        refine ln_irem hx hb dX5_on_52 (by omega) (by decide) (by decide) ?_
        refine W.top (y := .int (nI (if w = true then (lgs bd sd rt ps).getD i 0 % 64 else (lgs bd sd rt ps).getD i 0 / 64 % 64))) (congrArg Value.int (congrArg nI (by first | rw [if_pos c24] | rw [if_neg (show ¬ w = true by rw [c24]; decide)]))) ?_
        exact hj_53 ls (lv_sub hl [0, 1, 2, 3, 4] rfl)
      · skip
        refine lv_aload_n hx hb dX5_on_27 rfl (lv_at hl 0 rfl) ?_
        refine va_get (D := D) (ci := 4) (v := .ref b3) (C := RX5) (T := TX5) (N := 7) hx hb hG wu_X5 hown hK hP 0 rfl rfl 6 (by decide) (hG _ wf_X5_19) (fun _ h9 => h9) rfl dX5_on_28 ?_
        refine lv_iload hx hb dX5_on_31 (lv_at hl 4 rfl) ?_
        refine va_iald hx hb hK hP 4 0 rfl rfl (vp_in_nI (by omega) (by decide)) dX5_on_33 ?_
        refine W.top (y := .int (M i)) (congrArg (fun z => Value.int (M z)) (nI_clamp (by omega))) ?_
        refine W.top (y := .int (nI ((lgs bd sd rt ps).getD i 0))) (congrArg Value.int hv9) ?_
        refine lv_bipush (v := (nI 64)) hx hb dX5_on_34 (by decide) ?_
        refine ln_irem hx hb dX5_on_36 (by omega) (by decide) (by decide) ?_
        refine lv_goto (tgt := 53) hx hb dX5_on_37 (by decide) ?_
        refine W.top (y := .int (nI (if w = true then (lgs bd sd rt ps).getD i 0 % 64 else (lgs bd sd rt ps).getD i 0 / 64 % 64))) (congrArg Value.int (congrArg nI (by first | rw [if_pos c24] | rw [if_neg (show ¬ w = true by rw [c24]; decide)]))) ?_
        exact hj_53 ls (lv_sub hl [0, 1, 2, 3, 4] rfl)

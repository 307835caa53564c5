theorem dX5_clear_0 : decode cX5_clear 0 = .ok (.aload_n 0, 1) := by decide +kernel
theorem dX5_clear_1 : decode cX5_clear 1 = .ok (.iconst 0, 1) := by decide +kernel
theorem dX5_clear_2 : decode cX5_clear 2 = .ok (.putfield 22, 3) := by decide +kernel
theorem dX5_clear_5 : decode cX5_clear 5 = .ok (.iconst 0, 1) := by decide +kernel
theorem dX5_clear_6 : decode cX5_clear 6 = .ok (.istore_n 1, 1) := by decide +kernel
theorem dX5_clear_7 : decode cX5_clear 7 = .ok (.iload_n 1, 1) := by decide +kernel
theorem dX5_clear_8 : decode cX5_clear 8 = .ok (.bipush 67, 2) := by decide +kernel
theorem dX5_clear_10 : decode cX5_clear 10 = .ok (.if_icmp .ge 16, 3) := by decide +kernel
theorem dX5_clear_13 : decode cX5_clear 13 = .ok (.aload_n 0, 1) := by decide +kernel
theorem dX5_clear_14 : decode cX5_clear 14 = .ok (.getfield 7, 3) := by decide +kernel
theorem dX5_clear_17 : decode cX5_clear 17 = .ok (.iload_n 1, 1) := by decide +kernel
theorem dX5_clear_18 : decode cX5_clear 18 = .ok (.iconst 0, 1) := by decide +kernel
theorem dX5_clear_19 : decode cX5_clear 19 = .ok (.iastore, 1) := by decide +kernel
theorem dX5_clear_20 : decode cX5_clear 20 = .ok (.iinc 1 1, 3) := by decide +kernel
theorem dX5_clear_23 : decode cX5_clear 23 = .ok (.goto (-16), 3) := by decide +kernel
theorem dX5_clear_26 : decode cX5_clear 26 = .ok (.aload_n 0, 1) := by decide +kernel
theorem dX5_clear_27 : decode cX5_clear 27 = .ok (.getfield 7, 3) := by decide +kernel
theorem dX5_clear_30 : decode cX5_clear 30 = .ok (.bipush 66, 2) := by decide +kernel
theorem dX5_clear_32 : decode cX5_clear 32 = .ok (.iconst (-1), 1) := by decide +kernel
theorem dX5_clear_33 : decode cX5_clear 33 = .ok (.iastore, 1) := by decide +kernel
theorem dX5_clear_34 : decode cX5_clear 34 = .ok (.aload_n 0, 1) := by decide +kernel
theorem dX5_clear_35 : decode cX5_clear 35 = .ok (.iconst 0, 1) := by decide +kernel
theorem dX5_clear_36 : decode cX5_clear 36 = .ok (.putfield 26, 3) := by decide +kernel
theorem dX5_clear_39 : decode cX5_clear 39 = .ok (.return_, 1) := by decide +kernel
theorem hd_X5_clear : yX5_clear.cls ≠ "java/lang/invoke/MethodHandle" ∧ yX5_clear.cls ≠ "java/lang/invoke/VarHandle" ∧ (parseMethodDescriptor yX5_clear.desc).map (fun d => d.parameters.length) = some 0 := by decide +kernel
set_option maxHeartbeats 4000000 in
set_option maxRecDepth 100000 in
/-- clear -/
theorem c_X5_clear (l : Launch) {D : va_G} {cI cJ : ClassId} {A : Nat → Prop} {hm b0 b1 b2 b3 : Nat} {th mk sz : Int32} {F mv kp li : Nat → Int32}  : Met l yX5_clear (Cond.code yX5_clear cX5_clear 2 none :: wsL_law) (rK 0) (va_Pc [.ref hm] (IW D cI cJ A (rW cI hm b0 b1 b2 b3 th mk sz F mv kp li))) (va_Qv (fun u => Bd u 0 (fun _ => 0) 0 0 64) (fun (u : Nat → Int32) t => IW D cI cJ A (rW cI hm b0 b1 b2 b3 (nI 0) (nI 0) sz u mv kp li) t) A) 0 0 A := by
  refine entM (by decide) (Nat.le_of_ble_eq_true rfl) ?_
  intro p e s m below meth c ls S0 hr hlocks hG hnm hB hl
  have hx := S0.1
  have hb := S0.2.1
  have hown := S0.2.2.2.1
  have hl : lv_has ls 2 [(0, .ref hm)] := hl
  obtain ⟨hP, hD, hK, hA, hE⟩ := hB
  have hS : va_S A s.heap s.heap [] := va_S.rf
  refine lv_aload_n hx hb dX5_clear_0 rfl (lv_at hl 0 rfl) ?_
  refine lv_iconst (v := (nI 0)) hx hb dX5_clear_1 (by decide) ?_
  refine va_put (D := D) (ci := 4) (v := .int (nI 0)) (ty := .int) (C := RX5) (T := TX5) (N := 7) hx hb hG wu_X5 tyX5 tyX5_ok nmX5 hown hK hP hD hS 0 rfl rfl 0 (by decide) (hG _ wf_X5_22) (fun _ h9 => h9) rfl (by decide +kernel) rfl rfl (Nat.le_of_ble_eq_true rfl) dX5_clear_2 (fun H locs hP hD hS => ?_)
  have hP : va_P D classes (rW cI hm b0 b1 b2 b3 (nI 0) mk sz F mv kp li) H := hP
  have hD : va_D A (rW cI hm b0 b1 b2 b3 (nI 0) mk sz F mv kp li) := hD
  refine lv_iconst (v := (nI 0)) hx hb dX5_clear_5 (by decide) ?_
  refine lv_istore_n (lv' := [(1, .int (nI 0)), (0, .ref hm)]) hx hb dX5_clear_6 rfl hl (by decide) rfl (fun ls hl => ?_)
  refine lpW (σ := (Nat) × (Nat → Int32)) 7 2 [] (fun x9 => [(0, .ref hm), (1, .int (nI x9.1))]) (fun x9 => rW cI hm b0 b1 b2 b3 (nI 0) mk sz x9.2 mv kp li) (fun x9 => x9.1 ≤ 67 ∧ ∀ j, j < x9.1 → x9.2 j = nI 0) (fun x9 => 67 - x9.1) (0, F) ⟨Nat.zero_le _, fun _ h => absurd h (Nat.not_lt_zero _)⟩ (lv_sub hl [1, 0] rfl) hP hD hS ?_
  clear hP hD hS hl ls
  rintro ⟨i, G⟩ H locs hI hP hD hS ih_7 ls hl
  try dsimp only at hI ih_7 hl hP hD
  obtain ⟨hi, hz⟩ := hI
  refine lv_iload_n hx hb dX5_clear_7 rfl (lv_at hl 1 rfl) ?_
  refine lv_bipush (v := (nI 67)) hx hb dX5_clear_8 (by decide) ?_
  refine ln_icmp_ge (tgt := 26) hx hb dX5_clear_10 (by decide) (by omega) (by decide) (fun c_1 => ?_) (fun c_1 => ?_)
  · skip
    refine lv_aload_n hx hb dX5_clear_26 rfl (lv_at hl 0 rfl) ?_
    refine va_get (D := D) (ci := 4) (v := .ref b0) (C := RX5) (T := TX5) (N := 7) hx hb hG wu_X5 hown hK hP 0 rfl rfl 1 (by decide) (hG _ wf_X5_7) (fun _ h9 => h9) rfl dX5_clear_27 ?_
    refine lv_bipush (v := (nI 66)) hx hb dX5_clear_30 (by decide) ?_
    refine lv_iconst (v := (-1)) hx hb dX5_clear_32 (by decide) ?_
    refine va_iast hx hb hK hP hD hS 1 0 rfl rfl (vp_in_nI (by decide) (by decide)) dX5_clear_33 (fun H locs hP hD hS => ?_)
    rw [nI_clamp (show 66 < 2 ^ 31 by omega)] at hP hD
    have hP : va_P D classes (rW cI hm b0 b1 b2 b3 (nI 0) mk sz (upd G 66 (-1)) mv kp li) H := hP
    have hD : va_D A (rW cI hm b0 b1 b2 b3 (nI 0) mk sz (upd G 66 (-1)) mv kp li) := hD
    refine lv_aload_n hx hb dX5_clear_34 rfl (lv_at hl 0 rfl) ?_
    refine lv_iconst (v := (nI 0)) hx hb dX5_clear_35 (by decide) ?_
    refine va_put (D := D) (ci := 4) (v := .int (nI 0)) (ty := .int) (C := RX5) (T := TX5) (N := 7) hx hb hG wu_X5 tyX5 tyX5_ok nmX5 hown hK hP hD hS 0 rfl rfl 2 (by decide) (hG _ wf_X5_26) (fun _ h9 => h9) rfl (by decide +kernel) rfl rfl (Nat.le_of_ble_eq_true rfl) dX5_clear_36 (fun H locs hP hD hS => ?_)
    have hP : va_P D classes (rW cI hm b0 b1 b2 b3 (nI 0) (nI 0) sz (upd G 66 (-1)) mv kp li) H := hP
    have hD : va_D A (rW cI hm b0 b1 b2 b3 (nI 0) (nI 0) sz (upd G 66 (-1)) mv kp li) := hD
    exact weV (upd G 66 (-1)) hx hb hr hlocks dX5_clear_39 ⟨fun q hq => ⟨by rw [pk_un (by omega)]; exact hz _ (by omega), (show 0 < 13 by decide)⟩, by rw [pk_un (by omega)]; exact hz _ (by omega), by decide, by rw [pk_un (by omega)]; exact hz _ (by omega), by decide, pk_us, by decide⟩ hP hD hK hA hE hS
  · skip
    refine lv_aload_n hx hb dX5_clear_13 rfl (lv_at hl 0 rfl) ?_
    refine va_get (D := D) (ci := 4) (v := .ref b0) (C := RX5) (T := TX5) (N := 7) hx hb hG wu_X5 hown hK hP 0 rfl rfl 1 (by decide) (hG _ wf_X5_7) (fun _ h9 => h9) rfl dX5_clear_14 ?_
    refine lv_iload_n hx hb dX5_clear_17 rfl (lv_at hl 1 rfl) ?_
    refine lv_iconst (v := (nI 0)) hx hb dX5_clear_18 (by decide) ?_
    refine va_iast hx hb hK hP hD hS 1 0 rfl rfl (vp_in_nI (by omega) (by decide)) dX5_clear_19 (fun H locs hP hD hS => ?_)
    rw [nI_clamp (show i < 2 ^ 31 by omega)] at hP hD
    have hP : va_P D classes (rW cI hm b0 b1 b2 b3 (nI 0) mk sz (upd G i (nI 0)) mv kp li) H := hP
    have hD : va_D A (rW cI hm b0 b1 b2 b3 (nI 0) mk sz (upd G i (nI 0)) mv kp li) := hD
    refine lv_iinc (v := (nI (i + 1))) (lv' := [(1, .int (nI (i + 1))), (0, .ref hm)]) hx hb dX5_clear_20 hl (k := 1) rfl (show nI i + Int32.ofInt 1 = nI (i + 1) from nI_add _ 1) (by decide) rfl (fun ls hl => ?_)
    refine lv_goto (tgt := 7) hx hb dX5_clear_23 (by decide) ?_
    exact ih_7 ((i + 1), (upd G i (nI 0))) _ _ ⟨by omega, cl_s hz⟩ (by (try dsimp only); omega) hP hD hS ls (lv_sub hl [1, 0] rfl)
theorem dX5_begin_0 : decode cX5_begin 0 = .ok (.aload_n 0, 1) := by decide +kernel
theorem dX5_begin_1 : decode cX5_begin 1 = .ok (.invokevirtual 29, 3) := by decide +kernel
theorem dX5_begin_4 : decode cX5_begin 4 = .ok (.iconst 0, 1) := by decide +kernel
theorem dX5_begin_5 : decode cX5_begin 5 = .ok (.istore_n 1, 1) := by decide +kernel
theorem dX5_begin_6 : decode cX5_begin 6 = .ok (.iload_n 1, 1) := by decide +kernel
theorem dX5_begin_7 : decode cX5_begin 7 = .ok (.bipush 8, 2) := by decide +kernel
theorem dX5_begin_9 : decode cX5_begin 9 = .ok (.if_icmp .ge 56, 3) := by decide +kernel
theorem dX5_begin_12 : decode cX5_begin 12 = .ok (.aload_n 0, 1) := by decide +kernel
theorem dX5_begin_13 : decode cX5_begin 13 = .ok (.getfield 7, 3) := by decide +kernel
theorem dX5_begin_16 : decode cX5_begin 16 = .ok (.iload_n 1, 1) := by decide +kernel
theorem dX5_begin_17 : decode cX5_begin 17 = .ok (.iload_n 1, 1) := by decide +kernel
theorem dX5_begin_18 : decode cX5_begin 18 = .ok (.invokestatic 32, 3) := by decide +kernel
theorem dX5_begin_21 : decode cX5_begin 21 = .ok (.iastore, 1) := by decide +kernel
theorem dX5_begin_22 : decode cX5_begin 22 = .ok (.aload_n 0, 1) := by decide +kernel
theorem dX5_begin_23 : decode cX5_begin 23 = .ok (.getfield 7, 3) := by decide +kernel
theorem dX5_begin_26 : decode cX5_begin 26 = .ok (.bipush 8, 2) := by decide +kernel
theorem dX5_begin_28 : decode cX5_begin 28 = .ok (.iload_n 1, 1) := by decide +kernel
theorem dX5_begin_29 : decode cX5_begin 29 = .ok (.iadd, 1) := by decide +kernel
theorem dX5_begin_30 : decode cX5_begin 30 = .ok (.iconst 1, 1) := by decide +kernel
theorem dX5_begin_31 : decode cX5_begin 31 = .ok (.iastore, 1) := by decide +kernel
theorem dX5_begin_32 : decode cX5_begin 32 = .ok (.aload_n 0, 1) := by decide +kernel
theorem dX5_begin_33 : decode cX5_begin 33 = .ok (.getfield 7, 3) := by decide +kernel
theorem dX5_begin_36 : decode cX5_begin 36 = .ok (.bipush 48, 2) := by decide +kernel
theorem dX5_begin_38 : decode cX5_begin 38 = .ok (.iload_n 1, 1) := by decide +kernel
theorem dX5_begin_39 : decode cX5_begin 39 = .ok (.iadd, 1) := by decide +kernel
theorem dX5_begin_40 : decode cX5_begin 40 = .ok (.bipush 7, 2) := by decide +kernel
theorem dX5_begin_42 : decode cX5_begin 42 = .ok (.iastore, 1) := by decide +kernel
theorem dX5_begin_43 : decode cX5_begin 43 = .ok (.aload_n 0, 1) := by decide +kernel
theorem dX5_begin_44 : decode cX5_begin 44 = .ok (.getfield 7, 3) := by decide +kernel
theorem dX5_begin_47 : decode cX5_begin 47 = .ok (.bipush 56, 2) := by decide +kernel
theorem dX5_begin_49 : decode cX5_begin 49 = .ok (.iload_n 1, 1) := by decide +kernel
theorem dX5_begin_50 : decode cX5_begin 50 = .ok (.iadd, 1) := by decide +kernel
theorem dX5_begin_51 : decode cX5_begin 51 = .ok (.bipush 6, 2) := by decide +kernel
theorem dX5_begin_53 : decode cX5_begin 53 = .ok (.iload_n 1, 1) := by decide +kernel
theorem dX5_begin_54 : decode cX5_begin 54 = .ok (.invokestatic 32, 3) := by decide +kernel
theorem dX5_begin_57 : decode cX5_begin 57 = .ok (.iadd, 1) := by decide +kernel
theorem dX5_begin_58 : decode cX5_begin 58 = .ok (.iastore, 1) := by decide +kernel
theorem dX5_begin_59 : decode cX5_begin 59 = .ok (.iinc 1 1, 3) := by decide +kernel
theorem dX5_begin_62 : decode cX5_begin 62 = .ok (.goto (-56), 3) := by decide +kernel
theorem dX5_begin_65 : decode cX5_begin 65 = .ok (.aload_n 0, 1) := by decide +kernel
theorem dX5_begin_66 : decode cX5_begin 66 = .ok (.getfield 7, 3) := by decide +kernel
theorem dX5_begin_69 : decode cX5_begin 69 = .ok (.bipush 65, 2) := by decide +kernel
theorem dX5_begin_71 : decode cX5_begin 71 = .ok (.bipush 15, 2) := by decide +kernel
theorem dX5_begin_73 : decode cX5_begin 73 = .ok (.iastore, 1) := by decide +kernel
theorem dX5_begin_74 : decode cX5_begin 74 = .ok (.return_, 1) := by decide +kernel
theorem hd_X5_begin : yX5_begin.cls ≠ "java/lang/invoke/MethodHandle" ∧ yX5_begin.cls ≠ "java/lang/invoke/VarHandle" ∧ (parseMethodDescriptor yX5_begin.desc).map (fun d => d.parameters.length) = some 0 := by decide +kernel
set_option maxHeartbeats 4000000 in
set_option maxRecDepth 100000 in
/-- begin -/
theorem c_X5_begin (l : Launch) {D : va_G} {cI cJ : ClassId} {A : Nat → Prop} {hm b0 b1 b2 b3 : Nat} {th mk sz : Int32} {F mv kp li : Nat → Int32}  : Met l yX5_begin (Cond.code yX5_begin cX5_begin 2 none :: wsL_law) (rK 1) (va_Pc [.ref hm] (IW D cI cJ A (rW cI hm b0 b1 b2 b3 th mk sz F mv kp li))) (va_Qv (fun u => Bd u 0 bgn 0 15 64) (fun (u : Nat → Int32) t => IW D cI cJ A (rW cI hm b0 b1 b2 b3 (nI 0) (nI 0) sz u mv kp li) t) A) 0 0 A := by
  refine entM (by decide) (Nat.le_of_ble_eq_true rfl) ?_
  intro p e s m below meth c ls S0 hr hlocks hG hnm hB hl
  have hx := S0.1
  have hb := S0.2.1
  have hown := S0.2.2.2.1
  have hl : lv_has ls 2 [(0, .ref hm)] := hl
  obtain ⟨hP, hD, hK, hA, hE⟩ := hB
  have hS : va_S A s.heap s.heap [] := va_S.rf
  refine lv_aload_n hx hb dX5_begin_0 rfl (lv_at hl 0 rfl) ?_
  refine chV (rnV (As := []) (rest := []) S0 (c_X5_clear l ) wm_X5_29 wi_X5_clear ws_X5_clear wn_X5 wc_X5_clear hd_X5_clear ⟨rfl, rfl, by decide, by decide⟩ IW.blind (va_recv hK hP (ci := 4) (q0 := 0) rfl rfl) (IW.at hP hD hK hA hE hS) hl.1 (Nat.le_of_ble_eq_true rfl) dX5_begin_1 rfl ⟨by decide, by decide⟩) hS (fun u_2 H locs hu hP hD hS => ?_)
  have hP : va_P D classes (rW cI hm b0 b1 b2 b3 (nI 0) (nI 0) sz u_2 mv kp li) H := hP
  have hD : va_D A (rW cI hm b0 b1 b2 b3 (nI 0) (nI 0) sz u_2 mv kp li) := hD
  obtain ⟨a1, a2, -, a4, -, a6, -⟩ := hu
  refine lv_iconst (v := (nI 0)) hx hb dX5_begin_4 (by decide) ?_
  refine lv_istore_n (lv' := [(1, .int (nI 0)), (0, .ref hm)]) hx hb dX5_begin_5 rfl hl (by decide) rfl (fun ls hl => ?_)
  refine lpW (σ := (Nat) × (Nat → Int32)) 6 2 [] (fun x9 => [(0, .ref hm), (1, .int (nI x9.1))]) (fun x9 => rW cI hm b0 b1 b2 b3 (nI 0) (nI 0) sz x9.2 mv kp li) (fun x9 => x9.1 ≤ 8 ∧ (∀ q, q < 64 → x9.2 q = nI (if q % 8 < x9.1 then bgn q else 0)) ∧ x9.2 64 = nI 0 ∧ x9.2 65 = nI 0 ∧ x9.2 66 = pI 64) (fun x9 => 8 - x9.1) (0, u_2) ⟨Nat.zero_le _, fun q hq => by rw [if_neg (Nat.not_lt_zero _)]; have := (a1 q hq).1; rwa [Nat.zero_add] at this, a2, a4, a6⟩ (lv_sub hl [1, 0] rfl) hP hD hS ?_
  clear hP hD hS hl ls
  rintro ⟨i, G⟩ H locs hI hP hD hS ih_6 ls hl
  try dsimp only at hI ih_6 hl hP hD
  obtain ⟨hi, hg, g64, g65, g66⟩ := hI
  refine lv_iload_n hx hb dX5_begin_6 rfl (lv_at hl 1 rfl) ?_
  refine lv_bipush (v := (nI 8)) hx hb dX5_begin_7 (by decide) ?_
  refine ln_icmp_ge (tgt := 65) hx hb dX5_begin_9 (by decide) (by omega) (by decide) (fun c9 => ?_) (fun c9 => ?_)
  · skip
    refine lv_aload_n hx hb dX5_begin_65 rfl (lv_at hl 0 rfl) ?_
    refine va_get (D := D) (ci := 4) (v := .ref b0) (C := RX5) (T := TX5) (N := 7) hx hb hG wu_X5 hown hK hP 0 rfl rfl 1 (by decide) (hG _ wf_X5_7) (fun _ h9 => h9) rfl dX5_begin_66 ?_
    refine lv_bipush (v := (nI 65)) hx hb dX5_begin_69 (by decide) ?_
    refine lv_bipush (v := (nI 15)) hx hb dX5_begin_71 (by decide) ?_
    refine va_iast hx hb hK hP hD hS 1 0 rfl rfl (vp_in_nI (by decide) (by decide)) dX5_begin_73 (fun H locs hP hD hS => ?_)
    rw [nI_clamp (show 65 < 2 ^ 31 by omega)] at hP hD
    have hP : va_P D classes (rW cI hm b0 b1 b2 b3 (nI 0) (nI 0) sz (upd G 65 (nI 15)) mv kp li) H := hP
    have hD : va_D A (rW cI hm b0 b1 b2 b3 (nI 0) (nI 0) sz (upd G 65 (nI 15)) mv kp li) := hD
    exact weV (upd G 65 (nI 15)) hx hb hr hlocks dX5_begin_74 ⟨fun q hq => ⟨by rw [pk_un (by omega), Nat.zero_add, hg q hq, if_pos (by omega)], bgn_lt q hq⟩, by rw [pk_un (by omega)]; exact g64, by decide, pk_us, by decide, by rw [pk_un (by omega)]; exact g66, by decide⟩ hP hD hK hA hE hS
  · skip
    have hhm := hmf_lt i
    refine lv_aload_n hx hb dX5_begin_12 rfl (lv_at hl 0 rfl) ?_
    refine va_get (D := D) (ci := 4) (v := .ref b0) (C := RX5) (T := TX5) (N := 7) hx hb hG wu_X5 hown hK hP 0 rfl rfl 1 (by decide) (hG _ wf_X5_7) (fun _ h9 => h9) rfl dX5_begin_13 ?_
    refine lv_iload_n hx hb dX5_begin_16 rfl (lv_at hl 1 rfl) ?_
    refine lv_iload_n hx hb dX5_begin_17 rfl (lv_at hl 1 rfl) ?_
    refine roI (rnS (As := [.int (nI i)]) (rest := [.int (nI i), .ref b0]) S0 (c_X5_home l i (by omega)) wm_X5_32 wt_X5_home wn_X5 wc_X5_home hd_X5_home ⟨rfl, rfl, by decide, by decide⟩ True.blind (fun _ _ _ => trivial) hl.1 (Nat.le_of_ble_eq_true rfl) dX5_begin_18 rfl ⟨by decide, by decide⟩) (fun r_3 hr_3 => ?_)
    subst hr_3
    refine va_iast hx hb hK hP hD hS 1 0 rfl rfl (vp_in_nI (by omega) (by decide)) dX5_begin_21 (fun H locs hP hD hS => ?_)
    rw [nI_clamp (show i < 2 ^ 31 by omega)] at hP hD
    have hP : va_P D classes (rW cI hm b0 b1 b2 b3 (nI 0) (nI 0) sz (upd G i (nI (hmf i))) mv kp li) H := hP
    have hD : va_D A (rW cI hm b0 b1 b2 b3 (nI 0) (nI 0) sz (upd G i (nI (hmf i))) mv kp li) := hD
    refine lv_aload_n hx hb dX5_begin_22 rfl (lv_at hl 0 rfl) ?_
    refine va_get (D := D) (ci := 4) (v := .ref b0) (C := RX5) (T := TX5) (N := 7) hx hb hG wu_X5 hown hK hP 0 rfl rfl 1 (by decide) (hG _ wf_X5_7) (fun _ h9 => h9) rfl dX5_begin_23 ?_
    refine lv_bipush (v := (nI 8)) hx hb dX5_begin_26 (by decide) ?_
    refine lv_iload_n hx hb dX5_begin_28 rfl (lv_at hl 1 rfl) ?_
    refine ln_iadd hx hb dX5_begin_29 ?_
    refine lv_iconst (v := (nI 1)) hx hb dX5_begin_30 (by decide) ?_
    refine va_iast hx hb hK hP hD hS 1 0 rfl rfl (vp_in_nI (by omega) (by decide)) dX5_begin_31 (fun H locs hP hD hS => ?_)
    rw [nI_clamp (show (8 + i) < 2 ^ 31 by omega)] at hP hD
    have hP : va_P D classes (rW cI hm b0 b1 b2 b3 (nI 0) (nI 0) sz (upd (upd G i (nI (hmf i))) (8 + i) (nI 1)) mv kp li) H := hP
    have hD : va_D A (rW cI hm b0 b1 b2 b3 (nI 0) (nI 0) sz (upd (upd G i (nI (hmf i))) (8 + i) (nI 1)) mv kp li) := hD
    refine lv_aload_n hx hb dX5_begin_32 rfl (lv_at hl 0 rfl) ?_
    refine va_get (D := D) (ci := 4) (v := .ref b0) (C := RX5) (T := TX5) (N := 7) hx hb hG wu_X5 hown hK hP 0 rfl rfl 1 (by decide) (hG _ wf_X5_7) (fun _ h9 => h9) rfl dX5_begin_33 ?_
    refine lv_bipush (v := (nI 48)) hx hb dX5_begin_36 (by decide) ?_
    refine lv_iload_n hx hb dX5_begin_38 rfl (lv_at hl 1 rfl) ?_
    refine ln_iadd hx hb dX5_begin_39 ?_
    refine lv_bipush (v := (nI 7)) hx hb dX5_begin_40 (by decide) ?_
    refine va_iast hx hb hK hP hD hS 1 0 rfl rfl (vp_in_nI (by omega) (by decide)) dX5_begin_42 (fun H locs hP hD hS => ?_)
    rw [nI_clamp (show (48 + i) < 2 ^ 31 by omega)] at hP hD
    have hP : va_P D classes (rW cI hm b0 b1 b2 b3 (nI 0) (nI 0) sz (upd (upd (upd G i (nI (hmf i))) (8 + i) (nI 1)) (48 + i) (nI 7)) mv kp li) H := hP
    have hD : va_D A (rW cI hm b0 b1 b2 b3 (nI 0) (nI 0) sz (upd (upd (upd G i (nI (hmf i))) (8 + i) (nI 1)) (48 + i) (nI 7)) mv kp li) := hD
    refine lv_aload_n hx hb dX5_begin_43 rfl (lv_at hl 0 rfl) ?_
    refine va_get (D := D) (ci := 4) (v := .ref b0) (C := RX5) (T := TX5) (N := 7) hx hb hG wu_X5 hown hK hP 0 rfl rfl 1 (by decide) (hG _ wf_X5_7) (fun _ h9 => h9) rfl dX5_begin_44 ?_
    refine lv_bipush (v := (nI 56)) hx hb dX5_begin_47 (by decide) ?_
    refine lv_iload_n hx hb dX5_begin_49 rfl (lv_at hl 1 rfl) ?_
    refine ln_iadd hx hb dX5_begin_50 ?_
    refine lv_bipush (v := (nI 6)) hx hb dX5_begin_51 (by decide) ?_
    refine lv_iload_n hx hb dX5_begin_53 rfl (lv_at hl 1 rfl) ?_
    refine roI (rnS (As := [.int (nI i)]) (rest := [.int (nI 6), .int (nI (56 + i)), .ref b0]) S0 (c_X5_home l i (by omega)) wm_X5_32 wt_X5_home wn_X5 wc_X5_home hd_X5_home ⟨rfl, rfl, by decide, by decide⟩ True.blind (fun _ _ _ => trivial) hl.1 (Nat.le_of_ble_eq_true rfl) dX5_begin_54 rfl ⟨by decide, by decide⟩) (fun r_4 hr_4 => ?_)
    subst hr_4
    refine ln_iadd hx hb dX5_begin_57 ?_
    refine va_iast hx hb hK hP hD hS 1 0 rfl rfl (vp_in_nI (by omega) (by decide)) dX5_begin_58 (fun H locs hP hD hS => ?_)
    rw [nI_clamp (show (56 + i) < 2 ^ 31 by omega)] at hP hD
    have hP : va_P D classes (rW cI hm b0 b1 b2 b3 (nI 0) (nI 0) sz (upd (upd (upd (upd G i (nI (hmf i))) (8 + i) (nI 1)) (48 + i) (nI 7)) (56 + i) (nI (6 + (hmf i)))) mv kp li) H := hP
    have hD : va_D A (rW cI hm b0 b1 b2 b3 (nI 0) (nI 0) sz (upd (upd (upd (upd G i (nI (hmf i))) (8 + i) (nI 1)) (48 + i) (nI 7)) (56 + i) (nI (6 + (hmf i)))) mv kp li) := hD
    refine lv_iinc (v := (nI (i + 1))) (lv' := [(1, .int (nI (i + 1))), (0, .ref hm)]) hx hb dX5_begin_59 hl (k := 1) rfl (show nI i + Int32.ofInt 1 = nI (i + 1) from nI_add _ 1) (by decide) rfl (fun ls hl => ?_)
    refine lv_goto (tgt := 6) hx hb dX5_begin_62 (by decide) ?_
    exact ih_6 ((i + 1), (upd (upd (upd (upd G i (nI (hmf i))) (8 + i) (nI 1)) (48 + i) (nI 7)) (56 + i) (nI (6 + (hmf i))))) _ _ ⟨by omega, bg_s (by omega) hg, by dsimp only; rw [pk_un (by omega), pk_un (by omega), pk_un (by omega), pk_un (by omega)]; exact g64, by dsimp only; rw [pk_un (by omega), pk_un (by omega), pk_un (by omega), pk_un (by omega)]; exact g65, by dsimp only; rw [pk_un (by omega), pk_un (by omega), pk_un (by omega), pk_un (by omega)]; exact g66⟩ (by (try dsimp only); omega) hP hD hS ls (lv_sub hl [1, 0] rfl)
theorem dX5_put_0 : decode cX5_put 0 = .ok (.aload_n 0, 1) := by decide +kernel
theorem dX5_put_1 : decode cX5_put 1 = .ok (.iload_n 1, 1) := by decide +kernel
theorem dX5_put_2 : decode cX5_put 2 = .ok (.invokestatic 36, 3) := by decide +kernel
theorem dX5_put_5 : decode cX5_put 5 = .ok (.ifCond .ne 7, 3) := by decide +kernel
theorem dX5_put_8 : decode cX5_put 8 = .ok (.iconst 1, 1) := by decide +kernel
theorem dX5_put_9 : decode cX5_put 9 = .ok (.goto 18, 3) := by decide +kernel
theorem dX5_put_12 : decode cX5_put 12 = .ok (.iload_n 2, 1) := by decide +kernel
theorem dX5_put_13 : decode cX5_put 13 = .ok (.ifCond .lt 9, 3) := by decide +kernel
theorem dX5_put_16 : decode cX5_put 16 = .ok (.iload_n 2, 1) := by decide +kernel
theorem dX5_put_17 : decode cX5_put 17 = .ok (.bipush 12, 2) := by decide +kernel
theorem dX5_put_19 : decode cX5_put 19 = .ok (.if_icmp .le 7, 3) := by decide +kernel
theorem dX5_put_22 : decode cX5_put 22 = .ok (.iconst 2, 1) := by decide +kernel
theorem dX5_put_23 : decode cX5_put 23 = .ok (.goto 4, 3) := by decide +kernel
theorem dX5_put_26 : decode cX5_put 26 = .ok (.iconst 0, 1) := by decide +kernel
theorem dX5_put_27 : decode cX5_put 27 = .ok (.putfield 22, 3) := by decide +kernel
theorem dX5_put_30 : decode cX5_put 30 = .ok (.aload_n 0, 1) := by decide +kernel
theorem dX5_put_31 : decode cX5_put 31 = .ok (.getfield 22, 3) := by decide +kernel
theorem dX5_put_34 : decode cX5_put 34 = .ok (.ifCond .le 4, 3) := by decide +kernel
theorem dX5_put_37 : decode cX5_put 37 = .ok (.return_, 1) := by decide +kernel
theorem dX5_put_38 : decode cX5_put 38 = .ok (.aload_n 0, 1) := by decide +kernel
theorem dX5_put_39 : decode cX5_put 39 = .ok (.getfield 7, 3) := by decide +kernel
theorem dX5_put_42 : decode cX5_put 42 = .ok (.iload_n 1, 1) := by decide +kernel
theorem dX5_put_43 : decode cX5_put 43 = .ok (.iload_n 2, 1) := by decide +kernel
theorem dX5_put_44 : decode cX5_put 44 = .ok (.iastore, 1) := by decide +kernel
theorem dX5_put_45 : decode cX5_put 45 = .ok (.aload_n 0, 1) := by decide +kernel
theorem dX5_put_46 : decode cX5_put 46 = .ok (.iconst 0, 1) := by decide +kernel
theorem dX5_put_47 : decode cX5_put 47 = .ok (.putfield 26, 3) := by decide +kernel
theorem dX5_put_50 : decode cX5_put 50 = .ok (.return_, 1) := by decide +kernel
theorem hd_X5_put : yX5_put.cls ≠ "java/lang/invoke/MethodHandle" ∧ yX5_put.cls ≠ "java/lang/invoke/VarHandle" ∧ (parseMethodDescriptor yX5_put.desc).map (fun d => d.parameters.length) = some 2 := by decide +kernel
set_option maxHeartbeats 4000000 in
set_option maxRecDepth 100000 in
/-- put -/
theorem c_X5_put (l : Launch) {D : va_G} {cI cJ : ClassId} {A : Nat → Prop} {hm b0 b1 b2 b3 : Nat} {th mk sz : Int32} {F mv kp li : Nat → Int32} (bd : Nat → Nat) (sd rt ps : Nat) (hBd : Bd F 0 bd sd rt ps) (x y : Int32) : Met l yX5_put (Cond.code yX5_put cX5_put 3 none :: wsL_law) (rK 1) (va_Pc [.ref hm, .int x, .int y] (IW D cI cJ A (rW cI hm b0 b1 b2 b3 th mk sz F mv kp li))) (va_Qv (fun u => (pt0 x y = 0 → ∃ q v, q < 64 ∧ v < 13 ∧ x = nI q ∧ y = nI v ∧ Bd u.1 0 (upN bd q v) sd rt ps ∧ u.2 = nI 0) ∧ (¬ pt0 x y = 0 → u.1 = F ∧ u.2 = mk)) (fun (u : (Nat → Int32) × Int32) t => IW D cI cJ A (rW cI hm b0 b1 b2 b3 (nI (pt0 x y)) u.2 sz u.1 mv kp li) t) A) 0 0 A := by
  refine entM (by decide) (Nat.le_of_ble_eq_true rfl) ?_
  intro p e s m below meth c ls S0 hr hlocks hG hnm hB hl
  have hx := S0.1
  have hb := S0.2.1
  have hown := S0.2.2.2.1
  have hl : lv_has ls 3 [(0, .ref hm), (1, .int x), (2, .int y)] := hl
  obtain ⟨hP, hD, hK, hA, hE⟩ := hB
  have hS : va_S A s.heap s.heap [] := va_S.rf
  have hp0 : pt0 x y < 3 := by unfold pt0; (repeat' split) <;> omega
  refine lv_aload_n hx hb dX5_put_0 rfl (lv_at hl 0 rfl) ?_
  refine lv_iload_n hx hb dX5_put_1 rfl (lv_at hl 1 rfl) ?_
  refine roI (rnS (As := [.int x]) (rest := [.ref hm]) S0 (c_X5_isSquare l x) wm_X5_36 wt_X5_isSquare wn_X5 wc_X5_isSquare hd_X5_isSquare ⟨rfl, rfl, by decide, by decide⟩ True.blind (fun _ _ _ => trivial) hl.1 (Nat.le_of_ble_eq_true rfl) dX5_put_2 rfl ⟨by decide, by decide⟩) (fun r_1 hr_1 => ?_)
  subst hr_1
  refine jnG 27 3 [(0, .ref hm), (1, .int x), (2, .int y)] [.int (nI (pt0 x y)), .ref hm] ?_ (fun hj_27 => ?_)
  · intro ls hl
    refine va_put (D := D) (ci := 4) (v := .int (nI (pt0 x y))) (ty := .int) (C := RX5) (T := TX5) (N := 7) hx hb hG wu_X5 tyX5 tyX5_ok nmX5 hown hK hP hD hS 0 rfl rfl 0 (by decide) (hG _ wf_X5_22) (fun _ h9 => h9) rfl (by decide +kernel) rfl rfl (Nat.le_of_ble_eq_true rfl) dX5_put_27 (fun H locs hP hD hS => ?_)
    have hP : va_P D classes (rW cI hm b0 b1 b2 b3 (nI (pt0 x y)) mk sz F mv kp li) H := hP
    have hD : va_D A (rW cI hm b0 b1 b2 b3 (nI (pt0 x y)) mk sz F mv kp li) := hD
    refine lv_aload_n hx hb dX5_put_30 rfl (lv_at hl 0 rfl) ?_
    refine va_get (D := D) (ci := 4) (v := .int (nI (pt0 x y))) (C := RX5) (T := TX5) (N := 7) hx hb hG wu_X5 hown hK hP 0 rfl rfl 0 (by decide) (hG _ wf_X5_22) (fun _ h9 => h9) rfl dX5_put_31 ?_
    refine ln_if_le (tgt := 38) hx hb dX5_put_34 (by decide) (by omega) (fun c34 => ?_) (fun c34 => ?_)
    · skip
      obtain ⟨q9, v9, hq9, hv9, hx9, hy9⟩ := pt0_0 c34
      refine lv_aload_n hx hb dX5_put_38 rfl (lv_at hl 0 rfl) ?_
      refine va_get (D := D) (ci := 4) (v := .ref b0) (C := RX5) (T := TX5) (N := 7) hx hb hG wu_X5 hown hK hP 0 rfl rfl 1 (by decide) (hG _ wf_X5_7) (fun _ h9 => h9) rfl dX5_put_39 ?_
      refine lv_iload_n hx hb dX5_put_42 rfl (lv_at hl 1 rfl) ?_
      refine W.top (y := .int (nI q9)) (congrArg Value.int hx9) ?_
      refine lv_iload_n hx hb dX5_put_43 rfl (lv_at hl 2 rfl) ?_
      refine W.top (y := .int (nI v9)) (congrArg Value.int hy9) ?_
      refine va_iast hx hb hK hP hD hS 1 0 rfl rfl (vp_in_nI (by omega) (by decide)) dX5_put_44 (fun H locs hP hD hS => ?_)
      rw [nI_clamp (show q9 < 2 ^ 31 by omega)] at hP hD
      have hP : va_P D classes (rW cI hm b0 b1 b2 b3 (nI (pt0 x y)) mk sz (upd F q9 (nI v9)) mv kp li) H := hP
      have hD : va_D A (rW cI hm b0 b1 b2 b3 (nI (pt0 x y)) mk sz (upd F q9 (nI v9)) mv kp li) := hD
      refine lv_aload_n hx hb dX5_put_45 rfl (lv_at hl 0 rfl) ?_
      refine lv_iconst (v := (nI 0)) hx hb dX5_put_46 (by decide) ?_
      refine va_put (D := D) (ci := 4) (v := .int (nI 0)) (ty := .int) (C := RX5) (T := TX5) (N := 7) hx hb hG wu_X5 tyX5 tyX5_ok nmX5 hown hK hP hD hS 0 rfl rfl 2 (by decide) (hG _ wf_X5_26) (fun _ h9 => h9) rfl (by decide +kernel) rfl rfl (Nat.le_of_ble_eq_true rfl) dX5_put_47 (fun H locs hP hD hS => ?_)
      have hP : va_P D classes (rW cI hm b0 b1 b2 b3 (nI (pt0 x y)) (nI 0) sz (upd F q9 (nI v9)) mv kp li) H := hP
      have hD : va_D A (rW cI hm b0 b1 b2 b3 (nI (pt0 x y)) (nI 0) sz (upd F q9 (nI v9)) mv kp li) := hD
      exact weV ((upd F q9 (nI v9), (nI 0))) hx hb hr hlocks dX5_put_50 ⟨fun _ => ⟨q9, v9, hq9, hv9, hx9, hy9, Bd_up hBd hq9 hv9, rfl⟩, fun z => absurd c34 z⟩ hP hD hK hA hE hS
    · skip
      exact weV ((F, mk)) hx hb hr hlocks dX5_put_37 ⟨fun z => absurd z c34, fun _ => ⟨rfl, rfl⟩⟩ hP hD hK hA hE hS
  · skip
    refine lb_if_ne (tgt := 12) hx hb dX5_put_5 (by decide) (fun c5 => ?_) (fun c5 => ?_)
    · skip
      refine lv_iload_n hx hb dX5_put_12 rfl (lv_at hl 2 rfl) ?_
      refine lv_if_lt (tgt := 22) hx hb dX5_put_13 (by decide) (fun c13 => ?_) (fun c13 => ?_)
      · skip
        refine lv_iconst (v := (nI 2)) hx hb dX5_put_22 (by decide) ?_
        refine lv_goto (tgt := 27) hx hb dX5_put_23 (by decide) ?_
        refine W.top (y := .int (nI (pt0 x y))) (congrArg Value.int (congrArg nI (by unfold pt0; first | rw [if_pos c5] | (rw [if_neg (show ¬ isq x = false by rw [c5]; decide)]; first | rw [if_pos (Or.inl c13)] | rw [if_pos (Or.inr c19)] | rw [if_neg (fun z => z.elim c13 (fun w => w c19))])))) ?_
        exact hj_27 ls (lv_sub hl [0, 1, 2] rfl)
      · skip
        refine lv_iload_n hx hb dX5_put_16 rfl (lv_at hl 2 rfl) ?_
        refine lv_bipush (v := (nI 12)) hx hb dX5_put_17 (by decide) ?_
        refine lv_icmp_le (tgt := 26) hx hb dX5_put_19 (by decide) (fun c19 => ?_) (fun c19 => ?_)
        · skip
          refine lv_iconst (v := (nI 0)) hx hb dX5_put_26 (by decide) ?_
          refine W.top (y := .int (nI (pt0 x y))) (congrArg Value.int (congrArg nI (by unfold pt0; first | rw [if_pos c5] | (rw [if_neg (show ¬ isq x = false by rw [c5]; decide)]; first | rw [if_pos (Or.inl c13)] | rw [if_pos (Or.inr c19)] | rw [if_neg (fun z => z.elim c13 (fun w => w c19))])))) ?_
          exact hj_27 ls (lv_sub hl [0, 1, 2] rfl)
        · skip
          refine lv_iconst (v := (nI 2)) hx hb dX5_put_22 (by decide) ?_
          refine lv_goto (tgt := 27) hx hb dX5_put_23 (by decide) ?_
          refine W.top (y := .int (nI (pt0 x y))) (congrArg Value.int (congrArg nI (by unfold pt0; first | rw [if_pos c5] | (rw [if_neg (show ¬ isq x = false by rw [c5]; decide)]; first | rw [if_pos (Or.inl c13)] | rw [if_pos (Or.inr c19)] | rw [if_neg (fun z => z.elim c13 (fun w => w c19))])))) ?_
          exact hj_27 ls (lv_sub hl [0, 1, 2] rfl)
    · skip
      refine lv_iconst (v := (nI 1)) hx hb dX5_put_8 (by decide) ?_
      refine lv_goto (tgt := 27) hx hb dX5_put_9 (by decide) ?_
      refine W.top (y := .int (nI (pt0 x y))) (congrArg Value.int (congrArg nI (by unfold pt0; first | rw [if_pos c5] | (rw [if_neg (show ¬ isq x = false by rw [c5]; decide)]; first | rw [if_pos (Or.inl c13)] | rw [if_pos (Or.inr c19)] | rw [if_neg (fun z => z.elim c13 (fun w => w c19))])))) ?_
      exact hj_27 ls (lv_sub hl [0, 1, 2] rfl)
theorem dX5_state_0 : decode cX5_state 0 = .ok (.aload_n 0, 1) := by decide +kernel
theorem dX5_state_1 : decode cX5_state 1 = .ok (.iload_n 1, 1) := by decide +kernel
theorem dX5_state_2 : decode cX5_state 2 = .ok (.ifCond .lt 29, 3) := by decide +kernel
theorem dX5_state_5 : decode cX5_state 5 = .ok (.iload_n 1, 1) := by decide +kernel
theorem dX5_state_6 : decode cX5_state 6 = .ok (.iconst 1, 1) := by decide +kernel
theorem dX5_state_7 : decode cX5_state 7 = .ok (.if_icmp .gt 24, 3) := by decide +kernel
theorem dX5_state_10 : decode cX5_state 10 = .ok (.iload_n 2, 1) := by decide +kernel
theorem dX5_state_11 : decode cX5_state 11 = .ok (.ifCond .lt 20, 3) := by decide +kernel
theorem dX5_state_14 : decode cX5_state 14 = .ok (.iload_n 2, 1) := by decide +kernel
theorem dX5_state_15 : decode cX5_state 15 = .ok (.bipush 15, 2) := by decide +kernel
theorem dX5_state_17 : decode cX5_state 17 = .ok (.if_icmp .gt 14, 3) := by decide +kernel
theorem dX5_state_20 : decode cX5_state 20 = .ok (.iload_n 3, 1) := by decide +kernel
theorem dX5_state_21 : decode cX5_state 21 = .ok (.iconst (-1), 1) := by decide +kernel
theorem dX5_state_22 : decode cX5_state 22 = .ok (.if_icmp .lt 9, 3) := by decide +kernel
theorem dX5_state_25 : decode cX5_state 25 = .ok (.iload_n 3, 1) := by decide +kernel
theorem dX5_state_26 : decode cX5_state 26 = .ok (.bipush 63, 2) := by decide +kernel
theorem dX5_state_28 : decode cX5_state 28 = .ok (.if_icmp .le 7, 3) := by decide +kernel
theorem dX5_state_31 : decode cX5_state 31 = .ok (.iconst 1, 1) := by decide +kernel
theorem dX5_state_32 : decode cX5_state 32 = .ok (.goto 4, 3) := by decide +kernel
theorem dX5_state_35 : decode cX5_state 35 = .ok (.iconst 0, 1) := by decide +kernel
theorem dX5_state_36 : decode cX5_state 36 = .ok (.putfield 22, 3) := by decide +kernel
theorem dX5_state_39 : decode cX5_state 39 = .ok (.aload_n 0, 1) := by decide +kernel
theorem dX5_state_40 : decode cX5_state 40 = .ok (.getfield 22, 3) := by decide +kernel
theorem dX5_state_43 : decode cX5_state 43 = .ok (.ifCond .le 4, 3) := by decide +kernel
theorem dX5_state_46 : decode cX5_state 46 = .ok (.return_, 1) := by decide +kernel
theorem dX5_state_47 : decode cX5_state 47 = .ok (.aload_n 0, 1) := by decide +kernel
theorem dX5_state_48 : decode cX5_state 48 = .ok (.getfield 7, 3) := by decide +kernel
theorem dX5_state_51 : decode cX5_state 51 = .ok (.bipush 64, 2) := by decide +kernel
theorem dX5_state_53 : decode cX5_state 53 = .ok (.iload_n 1, 1) := by decide +kernel
theorem dX5_state_54 : decode cX5_state 54 = .ok (.iastore, 1) := by decide +kernel
theorem dX5_state_55 : decode cX5_state 55 = .ok (.aload_n 0, 1) := by decide +kernel
theorem dX5_state_56 : decode cX5_state 56 = .ok (.getfield 7, 3) := by decide +kernel
theorem dX5_state_59 : decode cX5_state 59 = .ok (.bipush 65, 2) := by decide +kernel
theorem dX5_state_61 : decode cX5_state 61 = .ok (.iload_n 2, 1) := by decide +kernel
theorem dX5_state_62 : decode cX5_state 62 = .ok (.iastore, 1) := by decide +kernel
theorem dX5_state_63 : decode cX5_state 63 = .ok (.aload_n 0, 1) := by decide +kernel
theorem dX5_state_64 : decode cX5_state 64 = .ok (.getfield 7, 3) := by decide +kernel
theorem dX5_state_67 : decode cX5_state 67 = .ok (.bipush 66, 2) := by decide +kernel
theorem dX5_state_69 : decode cX5_state 69 = .ok (.iload_n 3, 1) := by decide +kernel
theorem dX5_state_70 : decode cX5_state 70 = .ok (.iastore, 1) := by decide +kernel
theorem dX5_state_71 : decode cX5_state 71 = .ok (.aload_n 0, 1) := by decide +kernel
theorem dX5_state_72 : decode cX5_state 72 = .ok (.iconst 0, 1) := by decide +kernel
theorem dX5_state_73 : decode cX5_state 73 = .ok (.putfield 26, 3) := by decide +kernel
theorem dX5_state_76 : decode cX5_state 76 = .ok (.return_, 1) := by decide +kernel
theorem hd_X5_state : yX5_state.cls ≠ "java/lang/invoke/MethodHandle" ∧ yX5_state.cls ≠ "java/lang/invoke/VarHandle" ∧ (parseMethodDescriptor yX5_state.desc).map (fun d => d.parameters.length) = some 3 := by decide +kernel
set_option maxHeartbeats 4000000 in
set_option maxRecDepth 100000 in
/-- state -/
theorem c_X5_state (l : Launch) {D : va_G} {cI cJ : ClassId} {A : Nat → Prop} {hm b0 b1 b2 b3 : Nat} {th mk sz : Int32} {F mv kp li : Nat → Int32} (bd : Nat → Nat) (sd rt ps : Nat) (hBd : Bd F 0 bd sd rt ps) (x y z : Int32) : Met l yX5_state (Cond.code yX5_state cX5_state 4 none :: wsL_law) (rK 0) (va_Pc [.ref hm, .int x, .int y, .int z] (IW D cI cJ A (rW cI hm b0 b1 b2 b3 th mk sz F mv kp li))) (va_Qv (fun u => (st0 x y z = 0 → ∃ a b n, a < 2 ∧ b < 16 ∧ n < 65 ∧ x = nI a ∧ y = nI b ∧ z = pI n ∧ Bd u.1 0 bd a b n ∧ u.2 = nI 0) ∧ (¬ st0 x y z = 0 → u.1 = F ∧ u.2 = mk)) (fun (u : (Nat → Int32) × Int32) t => IW D cI cJ A (rW cI hm b0 b1 b2 b3 (nI (st0 x y z)) u.2 sz u.1 mv kp li) t) A) 0 0 A := by
  refine entM (by decide) (Nat.le_of_ble_eq_true rfl) ?_
  intro p e s m below meth c ls S0 hr hlocks hG hnm hB hl
  have hx := S0.1
  have hb := S0.2.1
  have hown := S0.2.2.2.1
  have hl : lv_has ls 4 [(0, .ref hm), (1, .int x), (2, .int y), (3, .int z)] := hl
  obtain ⟨hP, hD, hK, hA, hE⟩ := hB
  have hS : va_S A s.heap s.heap [] := va_S.rf
  have hp0 : st0 x y z < 3 := by unfold st0; (repeat' split) <;> omega
  refine lv_aload_n hx hb dX5_state_0 rfl (lv_at hl 0 rfl) ?_
  refine lv_iload_n hx hb dX5_state_1 rfl (lv_at hl 1 rfl) ?_
  refine jnG 36 4 [(0, .ref hm), (1, .int x), (2, .int y), (3, .int z)] [.int (nI (st0 x y z)), .ref hm] ?_ (fun hj_36 => ?_)
  · intro ls hl
    refine va_put (D := D) (ci := 4) (v := .int (nI (st0 x y z))) (ty := .int) (C := RX5) (T := TX5) (N := 7) hx hb hG wu_X5 tyX5 tyX5_ok nmX5 hown hK hP hD hS 0 rfl rfl 0 (by decide) (hG _ wf_X5_22) (fun _ h9 => h9) rfl (by decide +kernel) rfl rfl (Nat.le_of_ble_eq_true rfl) dX5_state_36 (fun H locs hP hD hS => ?_)
    have hP : va_P D classes (rW cI hm b0 b1 b2 b3 (nI (st0 x y z)) mk sz F mv kp li) H := hP
    have hD : va_D A (rW cI hm b0 b1 b2 b3 (nI (st0 x y z)) mk sz F mv kp li) := hD
    refine lv_aload_n hx hb dX5_state_39 rfl (lv_at hl 0 rfl) ?_
    refine va_get (D := D) (ci := 4) (v := .int (nI (st0 x y z))) (C := RX5) (T := TX5) (N := 7) hx hb hG wu_X5 hown hK hP 0 rfl rfl 0 (by decide) (hG _ wf_X5_22) (fun _ h9 => h9) rfl dX5_state_40 ?_
    refine ln_if_le (tgt := 47) hx hb dX5_state_43 (by decide) (by omega) (fun c43 => ?_) (fun c43 => ?_)
    · skip
      obtain ⟨a9, b9, n9, ha9, hb9, hn9, hx9, hy9, hz9⟩ := st0_0 c43
      refine lv_aload_n hx hb dX5_state_47 rfl (lv_at hl 0 rfl) ?_
      refine va_get (D := D) (ci := 4) (v := .ref b0) (C := RX5) (T := TX5) (N := 7) hx hb hG wu_X5 hown hK hP 0 rfl rfl 1 (by decide) (hG _ wf_X5_7) (fun _ h9 => h9) rfl dX5_state_48 ?_
      refine lv_bipush (v := (nI 64)) hx hb dX5_state_51 (by decide) ?_
      refine lv_iload_n hx hb dX5_state_53 rfl (lv_at hl 1 rfl) ?_
      refine W.top (y := .int (nI a9)) (congrArg Value.int hx9) ?_
      refine va_iast hx hb hK hP hD hS 1 0 rfl rfl (vp_in_nI (by decide) (by decide)) dX5_state_54 (fun H locs hP hD hS => ?_)
      rw [nI_clamp (show 64 < 2 ^ 31 by omega)] at hP hD
      have hP : va_P D classes (rW cI hm b0 b1 b2 b3 (nI (st0 x y z)) mk sz (upd F 64 (nI a9)) mv kp li) H := hP
      have hD : va_D A (rW cI hm b0 b1 b2 b3 (nI (st0 x y z)) mk sz (upd F 64 (nI a9)) mv kp li) := hD
      refine lv_aload_n hx hb dX5_state_55 rfl (lv_at hl 0 rfl) ?_
      refine va_get (D := D) (ci := 4) (v := .ref b0) (C := RX5) (T := TX5) (N := 7) hx hb hG wu_X5 hown hK hP 0 rfl rfl 1 (by decide) (hG _ wf_X5_7) (fun _ h9 => h9) rfl dX5_state_56 ?_
      refine lv_bipush (v := (nI 65)) hx hb dX5_state_59 (by decide) ?_
      refine lv_iload_n hx hb dX5_state_61 rfl (lv_at hl 2 rfl) ?_
      refine W.top (y := .int (nI b9)) (congrArg Value.int hy9) ?_
      refine va_iast hx hb hK hP hD hS 1 0 rfl rfl (vp_in_nI (by decide) (by decide)) dX5_state_62 (fun H locs hP hD hS => ?_)
      rw [nI_clamp (show 65 < 2 ^ 31 by omega)] at hP hD
      have hP : va_P D classes (rW cI hm b0 b1 b2 b3 (nI (st0 x y z)) mk sz (upd (upd F 64 (nI a9)) 65 (nI b9)) mv kp li) H := hP
      have hD : va_D A (rW cI hm b0 b1 b2 b3 (nI (st0 x y z)) mk sz (upd (upd F 64 (nI a9)) 65 (nI b9)) mv kp li) := hD
      refine lv_aload_n hx hb dX5_state_63 rfl (lv_at hl 0 rfl) ?_
      refine va_get (D := D) (ci := 4) (v := .ref b0) (C := RX5) (T := TX5) (N := 7) hx hb hG wu_X5 hown hK hP 0 rfl rfl 1 (by decide) (hG _ wf_X5_7) (fun _ h9 => h9) rfl dX5_state_64 ?_
      refine lv_bipush (v := (nI 66)) hx hb dX5_state_67 (by decide) ?_
      refine lv_iload_n hx hb dX5_state_69 rfl (lv_at hl 3 rfl) ?_
      refine W.top (y := .int (pI n9)) (congrArg Value.int hz9) ?_
      refine va_iast hx hb hK hP hD hS 1 0 rfl rfl (vp_in_nI (by decide) (by decide)) dX5_state_70 (fun H locs hP hD hS => ?_)
      rw [nI_clamp (show 66 < 2 ^ 31 by omega)] at hP hD
      have hP : va_P D classes (rW cI hm b0 b1 b2 b3 (nI (st0 x y z)) mk sz (upd (upd (upd F 64 (nI a9)) 65 (nI b9)) 66 (pI n9)) mv kp li) H := hP
      have hD : va_D A (rW cI hm b0 b1 b2 b3 (nI (st0 x y z)) mk sz (upd (upd (upd F 64 (nI a9)) 65 (nI b9)) 66 (pI n9)) mv kp li) := hD
      refine lv_aload_n hx hb dX5_state_71 rfl (lv_at hl 0 rfl) ?_
      refine lv_iconst (v := (nI 0)) hx hb dX5_state_72 (by decide) ?_
      refine va_put (D := D) (ci := 4) (v := .int (nI 0)) (ty := .int) (C := RX5) (T := TX5) (N := 7) hx hb hG wu_X5 tyX5 tyX5_ok nmX5 hown hK hP hD hS 0 rfl rfl 2 (by decide) (hG _ wf_X5_26) (fun _ h9 => h9) rfl (by decide +kernel) rfl rfl (Nat.le_of_ble_eq_true rfl) dX5_state_73 (fun H locs hP hD hS => ?_)
      have hP : va_P D classes (rW cI hm b0 b1 b2 b3 (nI (st0 x y z)) (nI 0) sz (upd (upd (upd F 64 (nI a9)) 65 (nI b9)) 66 (pI n9)) mv kp li) H := hP
      have hD : va_D A (rW cI hm b0 b1 b2 b3 (nI (st0 x y z)) (nI 0) sz (upd (upd (upd F 64 (nI a9)) 65 (nI b9)) 66 (pI n9)) mv kp li) := hD
      exact weV ((upd (upd (upd F 64 (nI a9)) 65 (nI b9)) 66 (pI n9), (nI 0))) hx hb hr hlocks dX5_state_76 ⟨fun _ => ⟨a9, b9, n9, ha9, hb9, hn9, hx9, hy9, hz9, Bd_st hBd ha9 hb9 hn9, rfl⟩, fun z => absurd c43 z⟩ hP hD hK hA hE hS
    · skip
      exact weV ((F, mk)) hx hb hr hlocks dX5_state_46 ⟨fun z => absurd z c43, fun _ => ⟨rfl, rfl⟩⟩ hP hD hK hA hE hS
  · skip
    refine lv_if_lt (tgt := 31) hx hb dX5_state_2 (by decide) (fun c2 => ?_) (fun c2 => ?_)
    · skip
      refine lv_iconst (v := (nI 1)) hx hb dX5_state_31 (by decide) ?_
      refine lv_goto (tgt := 36) hx hb dX5_state_32 (by decide) ?_
      refine W.top (y := .int (nI (st0 x y z))) (congrArg Value.int (congrArg nI (by unfold st0; first | rw [if_pos (Or.inl c2)] | rw [if_pos (Or.inr (Or.inl c7))] | rw [if_pos (Or.inr (Or.inr (Or.inl c11)))] | rw [if_pos (Or.inr (Or.inr (Or.inr (Or.inl c17))))] | rw [if_pos (Or.inr (Or.inr (Or.inr (Or.inr (Or.inl c22)))))] | rw [if_pos (Or.inr (Or.inr (Or.inr (Or.inr (Or.inr c28)))))] | rw [if_neg (fun q => q.elim c2 (fun q => q.elim c7 (fun q => q.elim c11 (fun q => q.elim c17 (fun q => q.elim c22 (fun w => w c28))))))]))) ?_
      exact hj_36 ls (lv_sub hl [0, 1, 2, 3] rfl)
    · skip
      refine lv_iload_n hx hb dX5_state_5 rfl (lv_at hl 1 rfl) ?_
      refine lv_iconst (v := (nI 1)) hx hb dX5_state_6 (by decide) ?_
      refine lv_icmp_gt (tgt := 31) hx hb dX5_state_7 (by decide) (fun c7 => ?_) (fun c7 => ?_)
      · skip
        refine lv_iconst (v := (nI 1)) hx hb dX5_state_31 (by decide) ?_
        refine lv_goto (tgt := 36) hx hb dX5_state_32 (by decide) ?_
        refine W.top (y := .int (nI (st0 x y z))) (congrArg Value.int (congrArg nI (by unfold st0; first | rw [if_pos (Or.inl c2)] | rw [if_pos (Or.inr (Or.inl c7))] | rw [if_pos (Or.inr (Or.inr (Or.inl c11)))] | rw [if_pos (Or.inr (Or.inr (Or.inr (Or.inl c17))))] | rw [if_pos (Or.inr (Or.inr (Or.inr (Or.inr (Or.inl c22)))))] | rw [if_pos (Or.inr (Or.inr (Or.inr (Or.inr (Or.inr c28)))))] | rw [if_neg (fun q => q.elim c2 (fun q => q.elim c7 (fun q => q.elim c11 (fun q => q.elim c17 (fun q => q.elim c22 (fun w => w c28))))))]))) ?_
        exact hj_36 ls (lv_sub hl [0, 1, 2, 3] rfl)
      · skip
        refine lv_iload_n hx hb dX5_state_10 rfl (lv_at hl 2 rfl) ?_
        refine lv_if_lt (tgt := 31) hx hb dX5_state_11 (by decide) (fun c11 => ?_) (fun c11 => ?_)
        · skip
          refine lv_iconst (v := (nI 1)) hx hb dX5_state_31 (by decide) ?_
          refine lv_goto (tgt := 36) hx hb dX5_state_32 (by decide) ?_
          refine W.top (y := .int (nI (st0 x y z))) (congrArg Value.int (congrArg nI (by unfold st0; first | rw [if_pos (Or.inl c2)] | rw [if_pos (Or.inr (Or.inl c7))] | rw [if_pos (Or.inr (Or.inr (Or.inl c11)))] | rw [if_pos (Or.inr (Or.inr (Or.inr (Or.inl c17))))] | rw [if_pos (Or.inr (Or.inr (Or.inr (Or.inr (Or.inl c22)))))] | rw [if_pos (Or.inr (Or.inr (Or.inr (Or.inr (Or.inr c28)))))] | rw [if_neg (fun q => q.elim c2 (fun q => q.elim c7 (fun q => q.elim c11 (fun q => q.elim c17 (fun q => q.elim c22 (fun w => w c28))))))]))) ?_
          exact hj_36 ls (lv_sub hl [0, 1, 2, 3] rfl)
        · skip
          refine lv_iload_n hx hb dX5_state_14 rfl (lv_at hl 2 rfl) ?_
          refine lv_bipush (v := (nI 15)) hx hb dX5_state_15 (by decide) ?_
          refine lv_icmp_gt (tgt := 31) hx hb dX5_state_17 (by decide) (fun c17 => ?_) (fun c17 => ?_)
          · skip
            refine lv_iconst (v := (nI 1)) hx hb dX5_state_31 (by decide) ?_
            refine lv_goto (tgt := 36) hx hb dX5_state_32 (by decide) ?_
            refine W.top (y := .int (nI (st0 x y z))) (congrArg Value.int (congrArg nI (by unfold st0; first | rw [if_pos (Or.inl c2)] | rw [if_pos (Or.inr (Or.inl c7))] | rw [if_pos (Or.inr (Or.inr (Or.inl c11)))] | rw [if_pos (Or.inr (Or.inr (Or.inr (Or.inl c17))))] | rw [if_pos (Or.inr (Or.inr (Or.inr (Or.inr (Or.inl c22)))))] | rw [if_pos (Or.inr (Or.inr (Or.inr (Or.inr (Or.inr c28)))))] | rw [if_neg (fun q => q.elim c2 (fun q => q.elim c7 (fun q => q.elim c11 (fun q => q.elim c17 (fun q => q.elim c22 (fun w => w c28))))))]))) ?_
            exact hj_36 ls (lv_sub hl [0, 1, 2, 3] rfl)
          · skip
            refine lv_iload_n hx hb dX5_state_20 rfl (lv_at hl 3 rfl) ?_
            refine lv_iconst (v := (-1)) hx hb dX5_state_21 (by decide) ?_
            refine lv_icmp_lt (tgt := 31) hx hb dX5_state_22 (by decide) (fun c22 => ?_) (fun c22 => ?_)
            · skip
              refine lv_iconst (v := (nI 1)) hx hb dX5_state_31 (by decide) ?_
              refine lv_goto (tgt := 36) hx hb dX5_state_32 (by decide) ?_
              refine W.top (y := .int (nI (st0 x y z))) (congrArg Value.int (congrArg nI (by unfold st0; first | rw [if_pos (Or.inl c2)] | rw [if_pos (Or.inr (Or.inl c7))] | rw [if_pos (Or.inr (Or.inr (Or.inl c11)))] | rw [if_pos (Or.inr (Or.inr (Or.inr (Or.inl c17))))] | rw [if_pos (Or.inr (Or.inr (Or.inr (Or.inr (Or.inl c22)))))] | rw [if_pos (Or.inr (Or.inr (Or.inr (Or.inr (Or.inr c28)))))] | rw [if_neg (fun q => q.elim c2 (fun q => q.elim c7 (fun q => q.elim c11 (fun q => q.elim c17 (fun q => q.elim c22 (fun w => w c28))))))]))) ?_
              exact hj_36 ls (lv_sub hl [0, 1, 2, 3] rfl)
            · skip
              refine lv_iload_n hx hb dX5_state_25 rfl (lv_at hl 3 rfl) ?_
              refine lv_bipush (v := (nI 63)) hx hb dX5_state_26 (by decide) ?_
              refine lv_icmp_le (tgt := 35) hx hb dX5_state_28 (by decide) (fun c28 => ?_) (fun c28 => ?_)
              · skip
                refine lv_iconst (v := (nI 0)) hx hb dX5_state_35 (by decide) ?_
                refine W.top (y := .int (nI (st0 x y z))) (congrArg Value.int (congrArg nI (by unfold st0; first | rw [if_pos (Or.inl c2)] | rw [if_pos (Or.inr (Or.inl c7))] | rw [if_pos (Or.inr (Or.inr (Or.inl c11)))] | rw [if_pos (Or.inr (Or.inr (Or.inr (Or.inl c17))))] | rw [if_pos (Or.inr (Or.inr (Or.inr (Or.inr (Or.inl c22)))))] | rw [if_pos (Or.inr (Or.inr (Or.inr (Or.inr (Or.inr c28)))))] | rw [if_neg (fun q => q.elim c2 (fun q => q.elim c7 (fun q => q.elim c11 (fun q => q.elim c17 (fun q => q.elim c22 (fun w => w c28))))))]))) ?_
                exact hj_36 ls (lv_sub hl [0, 1, 2, 3] rfl)
              · skip
                refine lv_iconst (v := (nI 1)) hx hb dX5_state_31 (by decide) ?_
                refine lv_goto (tgt := 36) hx hb dX5_state_32 (by decide) ?_
                refine W.top (y := .int (nI (st0 x y z))) (congrArg Value.int (congrArg nI (by unfold st0; first | rw [if_pos (Or.inl c2)] | rw [if_pos (Or.inr (Or.inl c7))] | rw [if_pos (Or.inr (Or.inr (Or.inl c11)))] | rw [if_pos (Or.inr (Or.inr (Or.inr (Or.inl c17))))] | rw [if_pos (Or.inr (Or.inr (Or.inr (Or.inr (Or.inl c22)))))] | rw [if_pos (Or.inr (Or.inr (Or.inr (Or.inr (Or.inr c28)))))] | rw [if_neg (fun q => q.elim c2 (fun q => q.elim c7 (fun q => q.elim c11 (fun q => q.elim c17 (fun q => q.elim c22 (fun w => w c28))))))]))) ?_
                exact hj_36 ls (lv_sub hl [0, 1, 2, 3] rfl)
theorem dX5_at_0 : decode cX5_at 0 = .ok (.aload_n 0, 1) := by decide +kernel
theorem dX5_at_1 : decode cX5_at 1 = .ok (.iconst 0, 1) := by decide +kernel
theorem dX5_at_2 : decode cX5_at 2 = .ok (.putfield 22, 3) := by decide +kernel
theorem dX5_at_5 : decode cX5_at 5 = .ok (.iload_n 1, 1) := by decide +kernel
theorem dX5_at_6 : decode cX5_at 6 = .ok (.invokestatic 36, 3) := by decide +kernel
theorem dX5_at_9 : decode cX5_at 9 = .ok (.ifCond .eq 12, 3) := by decide +kernel
theorem dX5_at_12 : decode cX5_at 12 = .ok (.aload_n 0, 1) := by decide +kernel
theorem dX5_at_13 : decode cX5_at 13 = .ok (.getfield 7, 3) := by decide +kernel
theorem dX5_at_16 : decode cX5_at 16 = .ok (.iload_n 1, 1) := by decide +kernel
theorem dX5_at_17 : decode cX5_at 17 = .ok (.iaload, 1) := by decide +kernel
theorem dX5_at_18 : decode cX5_at 18 = .ok (.goto 4, 3) := by decide +kernel
theorem dX5_at_21 : decode cX5_at 21 = .ok (.iconst (-1), 1) := by decide +kernel
theorem dX5_at_22 : decode cX5_at 22 = .ok (.ireturn, 1) := by decide +kernel
theorem hd_X5_at : yX5_at.cls ≠ "java/lang/invoke/MethodHandle" ∧ yX5_at.cls ≠ "java/lang/invoke/VarHandle" ∧ (parseMethodDescriptor yX5_at.desc).map (fun d => d.parameters.length) = some 1 := by decide +kernel
set_option maxHeartbeats 4000000 in
set_option maxRecDepth 100000 in
/-- at -/
theorem c_X5_at (l : Launch) {D : va_G} {cI cJ : ClassId} {A : Nat → Prop} {hm b0 b1 b2 b3 : Nat} {th mk sz : Int32} {F mv kp li : Nat → Int32} (bd : Nat → Nat) (sd rt ps : Nat) (hBd : Bd F 0 bd sd rt ps) (x : Int32) : Met l yX5_at (Cond.code yX5_at cX5_at 2 (some .int) :: wsL_law) (rK 1) (va_Pc [.ref hm, .int x] (IW D cI cJ A (rW cI hm b0 b1 b2 b3 th mk sz F mv kp li))) (va_Qi (fun r _ => r = (if isq x = true then nI (bd x.toNatClampNeg) else -1)) (fun (u : Unit) t => IW D cI cJ A (rW cI hm b0 b1 b2 b3 (nI 0) mk sz F mv kp li) t) A) 0 0 A := by
  refine entM (by decide) (Nat.le_of_ble_eq_true rfl) ?_
  intro p e s m below meth c ls S0 hr hlocks hG hnm hB hl
  have hx := S0.1
  have hb := S0.2.1
  have hown := S0.2.2.2.1
  have hl : lv_has ls 2 [(0, .ref hm), (1, .int x)] := hl
  obtain ⟨hP, hD, hK, hA, hE⟩ := hB
  have hS : va_S A s.heap s.heap [] := va_S.rf
  refine lv_aload_n hx hb dX5_at_0 rfl (lv_at hl 0 rfl) ?_
  refine lv_iconst (v := (nI 0)) hx hb dX5_at_1 (by decide) ?_
  refine va_put (D := D) (ci := 4) (v := .int (nI 0)) (ty := .int) (C := RX5) (T := TX5) (N := 7) hx hb hG wu_X5 tyX5 tyX5_ok nmX5 hown hK hP hD hS 0 rfl rfl 0 (by decide) (hG _ wf_X5_22) (fun _ h9 => h9) rfl (by decide +kernel) rfl rfl (Nat.le_of_ble_eq_true rfl) dX5_at_2 (fun H locs hP hD hS => ?_)
  have hP : va_P D classes (rW cI hm b0 b1 b2 b3 (nI 0) mk sz F mv kp li) H := hP
  have hD : va_D A (rW cI hm b0 b1 b2 b3 (nI 0) mk sz F mv kp li) := hD
  refine lv_iload_n hx hb dX5_at_5 rfl (lv_at hl 1 rfl) ?_
  refine roI (rnS (As := [.int x]) (rest := []) S0 (c_X5_isSquare l x) wm_X5_36 wt_X5_isSquare wn_X5 wc_X5_isSquare hd_X5_isSquare ⟨rfl, rfl, by decide, by decide⟩ True.blind (fun _ _ _ => trivial) hl.1 (Nat.le_of_ble_eq_true rfl) dX5_at_6 rfl ⟨by decide, by decide⟩) (fun r_1 hr_1 => ?_)
  subst hr_1
  refine lb_if_eq (tgt := 21) hx hb dX5_at_9 (by decide) (fun c9 => ?_) (fun c9 => ?_)
  · skip
    refine lv_iconst (v := (-1)) hx hb dX5_at_21 (by decide) ?_
    exact weI (()) hx hb hr hlocks dX5_at_22 (by first | (rw [if_pos c9, hx9, nI_clamp (by omega)]) | rw [if_neg (show ¬ isq x = true by rw [c9]; decide)]) hP hD hK hA hE hS
  · skip
    obtain ⟨j9, hj9, hx9⟩ := isq_of c9
    have hv9 := (hBd.1 j9 hj9).1
    rw [Nat.zero_add] at hv9
    refine lv_aload_n hx hb dX5_at_12 rfl (lv_at hl 0 rfl) ?_
    refine va_get (D := D) (ci := 4) (v := .ref b0) (C := RX5) (T := TX5) (N := 7) hx hb hG wu_X5 hown hK hP 0 rfl rfl 1 (by decide) (hG _ wf_X5_7) (fun _ h9 => h9) rfl dX5_at_13 ?_
    refine lv_iload_n hx hb dX5_at_16 rfl (lv_at hl 1 rfl) ?_
    refine W.top (y := .int (nI j9)) (congrArg Value.int hx9) ?_
    refine va_iald hx hb hK hP 1 0 rfl rfl (vp_in_nI (by omega) (by decide)) dX5_at_17 ?_
    refine W.top (y := .int (F j9)) (congrArg (fun z => Value.int (F z)) (nI_clamp (by omega))) ?_
    refine W.top (y := .int (nI (bd j9))) (congrArg Value.int hv9) ?_
    refine lv_goto (tgt := 22) hx hb dX5_at_18 (by decide) ?_
    exact weI (()) hx hb hr hlocks dX5_at_22 (by first | (rw [if_pos c9, hx9, nI_clamp (by omega)]) | rw [if_neg (show ¬ isq x = true by rw [c9]; decide)]) hP hD hK hA hE hS
theorem dX5_look_0 : decode cX5_look 0 = .ok (.aload_n 0, 1) := by decide +kernel
theorem dX5_look_1 : decode cX5_look 1 = .ok (.iconst 0, 1) := by decide +kernel
theorem dX5_look_2 : decode cX5_look 2 = .ok (.putfield 22, 3) := by decide +kernel
theorem dX5_look_5 : decode cX5_look 5 = .ok (.iload_n 1, 1) := by decide +kernel
theorem dX5_look_6 : decode cX5_look 6 = .ok (.ifCond .lt 20, 3) := by decide +kernel
theorem dX5_look_9 : decode cX5_look 9 = .ok (.iload_n 1, 1) := by decide +kernel
theorem dX5_look_10 : decode cX5_look 10 = .ok (.iconst 3, 1) := by decide +kernel
theorem dX5_look_11 : decode cX5_look 11 = .ok (.if_icmp .ge 15, 3) := by decide +kernel
theorem dX5_look_14 : decode cX5_look 14 = .ok (.aload_n 0, 1) := by decide +kernel
theorem dX5_look_15 : decode cX5_look 15 = .ok (.getfield 7, 3) := by decide +kernel
theorem dX5_look_18 : decode cX5_look 18 = .ok (.bipush 64, 2) := by decide +kernel
theorem dX5_look_20 : decode cX5_look 20 = .ok (.iload_n 1, 1) := by decide +kernel
theorem dX5_look_21 : decode cX5_look 21 = .ok (.iadd, 1) := by decide +kernel
theorem dX5_look_22 : decode cX5_look 22 = .ok (.iaload, 1) := by decide +kernel
theorem dX5_look_23 : decode cX5_look 23 = .ok (.goto 16, 3) := by decide +kernel
theorem dX5_look_26 : decode cX5_look 26 = .ok (.iload_n 1, 1) := by decide +kernel
theorem dX5_look_27 : decode cX5_look 27 = .ok (.iconst 3, 1) := by decide +kernel
theorem dX5_look_28 : decode cX5_look 28 = .ok (.if_icmp .ne 10, 3) := by decide +kernel
theorem dX5_look_31 : decode cX5_look 31 = .ok (.aload_n 0, 1) := by decide +kernel
theorem dX5_look_32 : decode cX5_look 32 = .ok (.getfield 26, 3) := by decide +kernel
theorem dX5_look_35 : decode cX5_look 35 = .ok (.goto 4, 3) := by decide +kernel
theorem dX5_look_38 : decode cX5_look 38 = .ok (.iconst (-1), 1) := by decide +kernel
theorem dX5_look_39 : decode cX5_look 39 = .ok (.ireturn, 1) := by decide +kernel
theorem hd_X5_look : yX5_look.cls ≠ "java/lang/invoke/MethodHandle" ∧ yX5_look.cls ≠ "java/lang/invoke/VarHandle" ∧ (parseMethodDescriptor yX5_look.desc).map (fun d => d.parameters.length) = some 1 := by decide +kernel
set_option maxHeartbeats 4000000 in
set_option maxRecDepth 100000 in
/-- look -/
theorem c_X5_look (l : Launch) {D : va_G} {cI cJ : ClassId} {A : Nat → Prop} {hm b0 b1 b2 b3 : Nat} {th mk sz : Int32} {F mv kp li : Nat → Int32} (bd : Nat → Nat) (sd rt ps : Nat) (hBd : Bd F 0 bd sd rt ps) (x : Int32) : Met l yX5_look (Cond.code yX5_look cX5_look 2 (some .int) :: wsL_law) (rK 0) (va_Pc [.ref hm, .int x] (IW D cI cJ A (rW cI hm b0 b1 b2 b3 th mk sz F mv kp li))) (va_Qi (fun r _ => r = lk0 sd rt ps mk x) (fun (u : Unit) t => IW D cI cJ A (rW cI hm b0 b1 b2 b3 (nI 0) mk sz F mv kp li) t) A) 0 0 A := by
  refine entM (by decide) (Nat.le_of_ble_eq_true rfl) ?_
  intro p e s m below meth c ls S0 hr hlocks hG hnm hB hl
  have hx := S0.1
  have hb := S0.2.1
  have hown := S0.2.2.2.1
  have hl : lv_has ls 2 [(0, .ref hm), (1, .int x)] := hl
  obtain ⟨hP, hD, hK, hA, hE⟩ := hB
  have hS : va_S A s.heap s.heap [] := va_S.rf
  refine lv_aload_n hx hb dX5_look_0 rfl (lv_at hl 0 rfl) ?_
  refine lv_iconst (v := (nI 0)) hx hb dX5_look_1 (by decide) ?_
  refine va_put (D := D) (ci := 4) (v := .int (nI 0)) (ty := .int) (C := RX5) (T := TX5) (N := 7) hx hb hG wu_X5 tyX5 tyX5_ok nmX5 hown hK hP hD hS 0 rfl rfl 0 (by decide) (hG _ wf_X5_22) (fun _ h9 => h9) rfl (by decide +kernel) rfl rfl (Nat.le_of_ble_eq_true rfl) dX5_look_2 (fun H locs hP hD hS => ?_)
  have hP : va_P D classes (rW cI hm b0 b1 b2 b3 (nI 0) mk sz F mv kp li) H := hP
  have hD : va_D A (rW cI hm b0 b1 b2 b3 (nI 0) mk sz F mv kp li) := hD
  refine lv_iload_n hx hb dX5_look_5 rfl (lv_at hl 1 rfl) ?_
  refine lv_if_lt (tgt := 26) hx hb dX5_look_6 (by decide) (fun c6 => ?_) (fun c6 => ?_)
  · skip
    have hno : ¬ (¬ x < 0 ∧ ¬ nI 3 ≤ x) := fun z => z.1 c6
    refine lv_iload_n hx hb dX5_look_26 rfl (lv_at hl 1 rfl) ?_
    refine lv_iconst (v := (nI 3)) hx hb dX5_look_27 (by decide) ?_
    refine lv_icmp_ne (tgt := 38) hx hb dX5_look_28 (by decide) (fun c28 => ?_) (fun c28 => ?_)
    · skip
      refine lv_iconst (v := (-1)) hx hb dX5_look_38 (by decide) ?_
      exact weI (()) hx hb hr hlocks dX5_look_39 (by unfold lk0; first | (rw [if_pos ⟨c6, c11⟩, hx9, nI_clamp hj9]) | (rw [if_neg hno, if_pos c28]) | (rw [if_neg hno, if_neg c28])) hP hD hK hA hE hS
    · skip
      refine lv_aload_n hx hb dX5_look_31 rfl (lv_at hl 0 rfl) ?_
      refine va_get (D := D) (ci := 4) (v := .int mk) (C := RX5) (T := TX5) (N := 7) hx hb hG wu_X5 hown hK hP 0 rfl rfl 2 (by decide) (hG _ wf_X5_26) (fun _ h9 => h9) rfl dX5_look_32 ?_
      refine lv_goto (tgt := 39) hx hb dX5_look_35 (by decide) ?_
      exact weI (()) hx hb hr hlocks dX5_look_39 (by unfold lk0; first | (rw [if_pos ⟨c6, c11⟩, hx9, nI_clamp hj9]) | (rw [if_neg hno, if_pos c28]) | (rw [if_neg hno, if_neg c28])) hP hD hK hA hE hS
  · skip
    refine lv_iload_n hx hb dX5_look_9 rfl (lv_at hl 1 rfl) ?_
    refine lv_iconst (v := (nI 3)) hx hb dX5_look_10 (by decide) ?_
    refine lv_icmp_ge (tgt := 26) hx hb dX5_look_11 (by decide) (fun c11 => ?_) (fun c11 => ?_)
    · skip
      have hno : ¬ (¬ x < 0 ∧ ¬ nI 3 ≤ x) := fun z => z.2 c11
      refine lv_iload_n hx hb dX5_look_26 rfl (lv_at hl 1 rfl) ?_
      refine lv_iconst (v := (nI 3)) hx hb dX5_look_27 (by decide) ?_
      refine lv_icmp_ne (tgt := 38) hx hb dX5_look_28 (by decide) (fun c28 => ?_) (fun c28 => ?_)
      · skip
        refine lv_iconst (v := (-1)) hx hb dX5_look_38 (by decide) ?_
        exact weI (()) hx hb hr hlocks dX5_look_39 (by unfold lk0; first | (rw [if_pos ⟨c6, c11⟩, hx9, nI_clamp hj9]) | (rw [if_neg hno, if_pos c28]) | (rw [if_neg hno, if_neg c28])) hP hD hK hA hE hS
      · skip
        refine lv_aload_n hx hb dX5_look_31 rfl (lv_at hl 0 rfl) ?_
        refine va_get (D := D) (ci := 4) (v := .int mk) (C := RX5) (T := TX5) (N := 7) hx hb hG wu_X5 hown hK hP 0 rfl rfl 2 (by decide) (hG _ wf_X5_26) (fun _ h9 => h9) rfl dX5_look_32 ?_
        refine lv_goto (tgt := 39) hx hb dX5_look_35 (by decide) ?_
        exact weI (()) hx hb hr hlocks dX5_look_39 (by unfold lk0; first | (rw [if_pos ⟨c6, c11⟩, hx9, nI_clamp hj9]) | (rw [if_neg hno, if_pos c28]) | (rw [if_neg hno, if_neg c28])) hP hD hK hA hE hS
    · skip
      obtain ⟨j9, hj9, hx9⟩ := nI_of c6
      have hj3 : j9 < 3 := by rw [hx9] at c11; exact Nat.lt_of_not_le (fun z => c11 ((nI_leI (by decide) hj9).mpr z))
      refine lv_aload_n hx hb dX5_look_14 rfl (lv_at hl 0 rfl) ?_
      refine va_get (D := D) (ci := 4) (v := .ref b0) (C := RX5) (T := TX5) (N := 7) hx hb hG wu_X5 hown hK hP 0 rfl rfl 1 (by decide) (hG _ wf_X5_7) (fun _ h9 => h9) rfl dX5_look_15 ?_
      refine lv_bipush (v := (nI 64)) hx hb dX5_look_18 (by decide) ?_
      refine lv_iload_n hx hb dX5_look_20 rfl (lv_at hl 1 rfl) ?_
      refine W.top (y := .int (nI j9)) (congrArg Value.int hx9) ?_
      refine ln_iadd hx hb dX5_look_21 ?_
      refine va_iald hx hb hK hP 1 0 rfl rfl (vp_in_nI (by omega) (by decide)) dX5_look_22 ?_
      refine W.top (y := .int (F (64 + j9))) (congrArg (fun z => Value.int (F z)) (nI_clamp (by omega))) ?_
      refine W.top (y := .int (lk3 sd rt ps j9)) (congrArg Value.int (lk3_at hBd hj3)) ?_
      refine lv_goto (tgt := 39) hx hb dX5_look_23 (by decide) ?_
      exact weI (()) hx hb hr hlocks dX5_look_39 (by unfold lk0; first | (rw [if_pos ⟨c6, c11⟩, hx9, nI_clamp hj9]) | (rw [if_neg hno, if_pos c28]) | (rw [if_neg hno, if_neg c28])) hP hD hK hA hE hS
theorem dX5_check_0 : decode cX5_check 0 = .ok (.aload_n 0, 1) := by decide +kernel
theorem dX5_check_1 : decode cX5_check 1 = .ok (.aload_n 0, 1) := by decide +kernel
theorem dX5_check_2 : decode cX5_check 2 = .ok (.invokevirtual 67, 3) := by decide +kernel
theorem dX5_check_5 : decode cX5_check 5 = .ok (.ifCond .eq 7, 3) := by decide +kernel
theorem dX5_check_8 : decode cX5_check 8 = .ok (.iconst 0, 1) := by decide +kernel
theorem dX5_check_9 : decode cX5_check 9 = .ok (.goto 4, 3) := by decide +kernel
theorem dX5_check_12 : decode cX5_check 12 = .ok (.iconst 1, 1) := by decide +kernel
theorem dX5_check_13 : decode cX5_check 13 = .ok (.putfield 22, 3) := by decide +kernel
theorem dX5_check_16 : decode cX5_check 16 = .ok (.aload_n 0, 1) := by decide +kernel
theorem dX5_check_17 : decode cX5_check 17 = .ok (.getfield 22, 3) := by decide +kernel
theorem dX5_check_20 : decode cX5_check 20 = .ok (.ifCond .ne 22, 3) := by decide +kernel
theorem dX5_check_23 : decode cX5_check 23 = .ok (.aload_n 0, 1) := by decide +kernel
theorem dX5_check_24 : decode cX5_check 24 = .ok (.iconst 0, 1) := by decide +kernel
theorem dX5_check_25 : decode cX5_check 25 = .ok (.aload_n 0, 1) := by decide +kernel
theorem dX5_check_26 : decode cX5_check 26 = .ok (.getfield 7, 3) := by decide +kernel
theorem dX5_check_29 : decode cX5_check 29 = .ok (.bipush 64, 2) := by decide +kernel
theorem dX5_check_31 : decode cX5_check 31 = .ok (.iaload, 1) := by decide +kernel
theorem dX5_check_32 : decode cX5_check 32 = .ok (.invokevirtual 63, 3) := by decide +kernel
theorem dX5_check_35 : decode cX5_check 35 = .ok (.ifCond .eq 7, 3) := by decide +kernel
theorem dX5_check_38 : decode cX5_check 38 = .ok (.iconst 1, 1) := by decide +kernel
theorem dX5_check_39 : decode cX5_check 39 = .ok (.goto 4, 3) := by decide +kernel
theorem dX5_check_42 : decode cX5_check 42 = .ok (.iconst 0, 1) := by decide +kernel
theorem dX5_check_43 : decode cX5_check 43 = .ok (.ireturn, 1) := by decide +kernel
theorem hd_X5_check : yX5_check.cls ≠ "java/lang/invoke/MethodHandle" ∧ yX5_check.cls ≠ "java/lang/invoke/VarHandle" ∧ (parseMethodDescriptor yX5_check.desc).map (fun d => d.parameters.length) = some 0 := by decide +kernel
set_option maxHeartbeats 4000000 in
set_option maxRecDepth 100000 in
/-- check -/
theorem c_X5_check (l : Launch) {D : va_G} {cI cJ : ClassId} {A : Nat → Prop} {hm b0 b1 b2 b3 : Nat} {th mk sz : Int32} {F mv kp li : Nat → Int32} (bd : Nat → Nat) (sd rt ps : Nat) (hBd : Bd F 0 bd sd rt ps) : Met l yX5_check (Cond.code yX5_check cX5_check 1 (some .boolean) :: wsL_law) (rK 5) (va_Pc [.ref hm] (IW D cI cJ A (rW cI hm b0 b1 b2 b3 th mk sz F mv kp li))) (va_Qi (fun r _ => r = bI (plb bd sd && isA bd (kgs bd sd) (1 - sd))) (fun (u : Unit) t => IW D cI cJ A (rW cI hm b0 b1 b2 b3 (nI (ndN bd sd)) mk sz F mv kp li) t) A) 0 0 A := by
  refine entM (by decide) (Nat.le_of_ble_eq_true rfl) ?_
  intro p e s m below meth c ls S0 hr hlocks hG hnm hB hl
  have hx := S0.1
  have hb := S0.2.1
  have hown := S0.2.2.2.1
  have hl : lv_has ls 1 [(0, .ref hm)] := hl
  obtain ⟨hP, hD, hK, hA, hE⟩ := hB
  have hS : va_S A s.heap s.heap [] := va_S.rf
  obtain ⟨hBp, hsd, hs2, hrt, hr16, hps, hp65⟩ := id hBd
  have hnd : ndN bd sd < 2 := by unfold ndN; split <;> omega
  refine lv_aload_n hx hb dX5_check_0 rfl (lv_at hl 0 rfl) ?_
  refine lv_aload_n hx hb dX5_check_1 rfl (lv_at hl 0 rfl) ?_
  refine roI (rnV (As := []) (rest := [.ref hm]) S0 (c_X5_isPlayable l bd sd rt ps hBd) wm_X5_67 wi_X5_isPlayable ws_X5_isPlayable wn_X5 wc_X5_isPlayable hd_X5_isPlayable ⟨rfl, rfl, by decide, by decide⟩ IW.blind (va_recv hK hP (ci := 4) (q0 := 0) rfl rfl) (IW.at hP hD hK hA hE hS) hl.1 (Nat.le_of_ble_eq_true rfl) dX5_check_2 rfl ⟨by decide, by decide⟩) (fun r_1 hr_1 => ?_)
  subst hr_1
  refine jnG 13 1 [(0, .ref hm)] [.int (nI (ndN bd sd)), .ref hm] ?_ (fun hj_13 => ?_)
  · intro ls hl
    refine va_put (D := D) (ci := 4) (v := .int (nI (ndN bd sd))) (ty := .int) (C := RX5) (T := TX5) (N := 7) hx hb hG wu_X5 tyX5 tyX5_ok nmX5 hown hK hP hD hS 0 rfl rfl 0 (by decide) (hG _ wf_X5_22) (fun _ h9 => h9) rfl (by decide +kernel) rfl rfl (Nat.le_of_ble_eq_true rfl) dX5_check_13 (fun H locs hP hD hS => ?_)
    have hP : va_P D classes (rW cI hm b0 b1 b2 b3 (nI (ndN bd sd)) mk sz F mv kp li) H := hP
    have hD : va_D A (rW cI hm b0 b1 b2 b3 (nI (ndN bd sd)) mk sz F mv kp li) := hD
    refine lv_aload_n hx hb dX5_check_16 rfl (lv_at hl 0 rfl) ?_
    refine va_get (D := D) (ci := 4) (v := .int (nI (ndN bd sd))) (C := RX5) (T := TX5) (N := 7) hx hb hG wu_X5 hown hK hP 0 rfl rfl 0 (by decide) (hG _ wf_X5_22) (fun _ h9 => h9) rfl dX5_check_17 ?_
    refine ln_if_ne (tgt := 42) hx hb dX5_check_20 (by decide) (by omega) (fun c20 => ?_) (fun c20 => ?_)
    · skip
      rw [ndN_0] at c20
      refine lv_iconst (v := (nI 0)) hx hb dX5_check_42 (by decide) ?_
      exact weZ (v := false) (()) hx hb hr hlocks dX5_check_43 (congrArg bI (by first | (rw [c20, c35]; rfl) | (rw [Bool.eq_false_iff.mpr c20]; rfl))) hP hD hK hA hE hS
    · skip
      rw [ndN_0] at c20
      refine lv_aload_n hx hb dX5_check_23 rfl (lv_at hl 0 rfl) ?_
      refine lv_iconst (v := (nI 0)) hx hb dX5_check_24 (by decide) ?_
      refine lv_aload_n hx hb dX5_check_25 rfl (lv_at hl 0 rfl) ?_
      refine va_get (D := D) (ci := 4) (v := .ref b0) (C := RX5) (T := TX5) (N := 7) hx hb hG wu_X5 hown hK hP 0 rfl rfl 1 (by decide) (hG _ wf_X5_7) (fun _ h9 => h9) rfl dX5_check_26 ?_
      refine lv_bipush (v := (nI 64)) hx hb dX5_check_29 (by decide) ?_
      refine va_iald hx hb hK hP 1 0 rfl rfl (vp_in_nI (by decide) (by decide)) dX5_check_31 ?_
      refine W.top (y := .int (F 64)) (congrArg (fun z => Value.int (F z)) (nI_clamp (by decide))) ?_
      refine W.top (y := .int (nI sd)) (congrArg Value.int hsd) ?_
      refine roI (rnV (As := [.int (nI 0), .int (nI sd)]) (rest := []) S0 (c_X5_isChecked l bd 0 sd (by decide) hs2 hBp (plb_k hs2 c20)) wm_X5_63 wi_X5_isChecked ws_X5_isChecked wn_X5 wc_X5_isChecked hd_X5_isChecked ⟨rfl, rfl, by decide, by decide⟩ IW.blind (va_recv hK hP (ci := 4) (q0 := 0) rfl rfl) (IW.at hP hD hK hA hE hS) hl.1 (Nat.le_of_ble_eq_true rfl) dX5_check_32 rfl ⟨by decide, by decide⟩) (fun r_2 hr_2 => ?_)
      subst hr_2
      refine lb_if_eq (tgt := 42) hx hb dX5_check_35 (by decide) (fun c35 => ?_) (fun c35 => ?_)
      · skip
        refine lv_iconst (v := (nI 0)) hx hb dX5_check_42 (by decide) ?_
        exact weZ (v := false) (()) hx hb hr hlocks dX5_check_43 (congrArg bI (by first | (rw [c20, c35]; rfl) | (rw [Bool.eq_false_iff.mpr c20]; rfl))) hP hD hK hA hE hS
      · skip
        refine lv_iconst (v := (nI 1)) hx hb dX5_check_38 (by decide) ?_
        refine lv_goto (tgt := 43) hx hb dX5_check_39 (by decide) ?_
        exact weZ (v := true) (()) hx hb hr hlocks dX5_check_43 (congrArg bI (by first | (rw [c20, c35]; rfl) | (rw [Bool.eq_false_iff.mpr c20]; rfl))) hP hD hK hA hE hS
  · skip
    refine lb_if_eq (tgt := 12) hx hb dX5_check_5 (by decide) (fun c5 => ?_) (fun c5 => ?_)
    · skip
      refine lv_iconst (v := (nI 1)) hx hb dX5_check_12 (by decide) ?_
      refine W.top (y := .int (nI (ndN bd sd))) (congrArg Value.int (congrArg nI (by unfold ndN; first | rw [if_pos c5] | rw [if_neg (show ¬ plb bd sd = true by rw [c5]; decide)]))) ?_
      exact hj_13 ls (lv_sub hl [0] rfl)
    · skip
      refine lv_iconst (v := (nI 0)) hx hb dX5_check_8 (by decide) ?_
      refine lv_goto (tgt := 13) hx hb dX5_check_9 (by decide) ?_
      refine W.top (y := .int (nI (ndN bd sd))) (congrArg Value.int (congrArg nI (by unfold ndN; first | rw [if_pos c5] | rw [if_neg (show ¬ plb bd sd = true by rw [c5]; decide)]))) ?_
      exact hj_13 ls (lv_sub hl [0] rfl)
theorem dX5_unmake_0 : decode cX5_unmake 0 = .ok (.aload_n 0, 1) := by decide +kernel
theorem dX5_unmake_1 : decode cX5_unmake 1 = .ok (.iconst 0, 1) := by decide +kernel
theorem dX5_unmake_2 : decode cX5_unmake 2 = .ok (.putfield 22, 3) := by decide +kernel
theorem dX5_unmake_5 : decode cX5_unmake 5 = .ok (.aload_n 0, 1) := by decide +kernel
theorem dX5_unmake_6 : decode cX5_unmake 6 = .ok (.getfield 26, 3) := by decide +kernel
theorem dX5_unmake_9 : decode cX5_unmake 9 = .ok (.ifCond .ne 5, 3) := by decide +kernel
theorem dX5_unmake_12 : decode cX5_unmake 12 = .ok (.iconst (-1), 1) := by decide +kernel
theorem dX5_unmake_13 : decode cX5_unmake 13 = .ok (.ireturn, 1) := by decide +kernel
theorem dX5_unmake_14 : decode cX5_unmake 14 = .ok (.aload_n 0, 1) := by decide +kernel
theorem dX5_unmake_15 : decode cX5_unmake 15 = .ok (.dup, 1) := by decide +kernel
theorem dX5_unmake_16 : decode cX5_unmake 16 = .ok (.getfield 26, 3) := by decide +kernel
theorem dX5_unmake_19 : decode cX5_unmake 19 = .ok (.iconst 1, 1) := by decide +kernel
theorem dX5_unmake_20 : decode cX5_unmake 20 = .ok (.isub, 1) := by decide +kernel
theorem dX5_unmake_21 : decode cX5_unmake 21 = .ok (.putfield 26, 3) := by decide +kernel
theorem dX5_unmake_24 : decode cX5_unmake 24 = .ok (.iconst 0, 1) := by decide +kernel
theorem dX5_unmake_25 : decode cX5_unmake 25 = .ok (.istore_n 1, 1) := by decide +kernel
theorem dX5_unmake_26 : decode cX5_unmake 26 = .ok (.iload_n 1, 1) := by decide +kernel
theorem dX5_unmake_27 : decode cX5_unmake 27 = .ok (.bipush 67, 2) := by decide +kernel
theorem dX5_unmake_29 : decode cX5_unmake 29 = .ok (.if_icmp .ge 29, 3) := by decide +kernel
theorem dX5_unmake_32 : decode cX5_unmake 32 = .ok (.aload_n 0, 1) := by decide +kernel
theorem dX5_unmake_33 : decode cX5_unmake 33 = .ok (.getfield 7, 3) := by decide +kernel
theorem dX5_unmake_36 : decode cX5_unmake 36 = .ok (.iload_n 1, 1) := by decide +kernel
theorem dX5_unmake_37 : decode cX5_unmake 37 = .ok (.aload_n 0, 1) := by decide +kernel
theorem dX5_unmake_38 : decode cX5_unmake 38 = .ok (.getfield 16, 3) := by decide +kernel
theorem dX5_unmake_41 : decode cX5_unmake 41 = .ok (.bipush 67, 2) := by decide +kernel
theorem dX5_unmake_43 : decode cX5_unmake 43 = .ok (.aload_n 0, 1) := by decide +kernel
theorem dX5_unmake_44 : decode cX5_unmake 44 = .ok (.getfield 26, 3) := by decide +kernel
theorem dX5_unmake_47 : decode cX5_unmake 47 = .ok (.imul, 1) := by decide +kernel
theorem dX5_unmake_48 : decode cX5_unmake 48 = .ok (.iload_n 1, 1) := by decide +kernel
theorem dX5_unmake_49 : decode cX5_unmake 49 = .ok (.iadd, 1) := by decide +kernel
theorem dX5_unmake_50 : decode cX5_unmake 50 = .ok (.iaload, 1) := by decide +kernel
theorem dX5_unmake_51 : decode cX5_unmake 51 = .ok (.iastore, 1) := by decide +kernel
theorem dX5_unmake_52 : decode cX5_unmake 52 = .ok (.iinc 1 1, 3) := by decide +kernel
theorem dX5_unmake_55 : decode cX5_unmake 55 = .ok (.goto (-29), 3) := by decide +kernel
theorem dX5_unmake_58 : decode cX5_unmake 58 = .ok (.aload_n 0, 1) := by decide +kernel
theorem dX5_unmake_59 : decode cX5_unmake 59 = .ok (.getfield 13, 3) := by decide +kernel
theorem dX5_unmake_62 : decode cX5_unmake 62 = .ok (.aload_n 0, 1) := by decide +kernel
theorem dX5_unmake_63 : decode cX5_unmake 63 = .ok (.getfield 26, 3) := by decide +kernel
theorem dX5_unmake_66 : decode cX5_unmake 66 = .ok (.iaload, 1) := by decide +kernel
theorem dX5_unmake_67 : decode cX5_unmake 67 = .ok (.ireturn, 1) := by decide +kernel
theorem hd_X5_unmake : yX5_unmake.cls ≠ "java/lang/invoke/MethodHandle" ∧ yX5_unmake.cls ≠ "java/lang/invoke/VarHandle" ∧ (parseMethodDescriptor yX5_unmake.desc).map (fun d => d.parameters.length) = some 0 := by decide +kernel
set_option maxHeartbeats 4000000 in
set_option maxRecDepth 100000 in
/-- unmake -/
theorem c_X5_unmake (l : Launch) {D : va_G} {cI cJ : ClassId} {A : Nat → Prop} {hm b0 b1 b2 b3 : Nat} {th sz : Int32} {F mv kp li : Nat → Int32} (n : Nat) (hn : n ≤ 200) : Met l yX5_unmake (Cond.code yX5_unmake cX5_unmake 2 (some .int) :: wsL_law) (rK 0) (va_Pc [.ref hm] (IW D cI cJ A (rW cI hm b0 b1 b2 b3 th (nI n) sz F mv kp li))) (va_Qi (fun r u => (n = 0 → r = -1 ∧ u.1 = F ∧ u.2 = nI 0) ∧ (¬ n = 0 → r = mv (n - 1) ∧ u.2 = nI (n - 1) ∧ ∀ j, j < 67 → u.1 j = kp (67 * (n - 1) + j))) (fun (u : (Nat → Int32) × Int32) t => IW D cI cJ A (rW cI hm b0 b1 b2 b3 (nI 0) u.2 sz u.1 mv kp li) t) A) 0 0 A := by
  refine entM (by decide) (Nat.le_of_ble_eq_true rfl) ?_
  intro p e s m below meth c ls S0 hr hlocks hG hnm hB hl
  have hx := S0.1
  have hb := S0.2.1
  have hown := S0.2.2.2.1
  have hl : lv_has ls 2 [(0, .ref hm)] := hl
  obtain ⟨hP, hD, hK, hA, hE⟩ := hB
  have hS : va_S A s.heap s.heap [] := va_S.rf
  refine lv_aload_n hx hb dX5_unmake_0 rfl (lv_at hl 0 rfl) ?_
  refine lv_iconst (v := (nI 0)) hx hb dX5_unmake_1 (by decide) ?_
  refine va_put (D := D) (ci := 4) (v := .int (nI 0)) (ty := .int) (C := RX5) (T := TX5) (N := 7) hx hb hG wu_X5 tyX5 tyX5_ok nmX5 hown hK hP hD hS 0 rfl rfl 0 (by decide) (hG _ wf_X5_22) (fun _ h9 => h9) rfl (by decide +kernel) rfl rfl (Nat.le_of_ble_eq_true rfl) dX5_unmake_2 (fun H locs hP hD hS => ?_)
  have hP : va_P D classes (rW cI hm b0 b1 b2 b3 (nI 0) (nI n) sz F mv kp li) H := hP
  have hD : va_D A (rW cI hm b0 b1 b2 b3 (nI 0) (nI n) sz F mv kp li) := hD
  refine lv_aload_n hx hb dX5_unmake_5 rfl (lv_at hl 0 rfl) ?_
  refine va_get (D := D) (ci := 4) (v := .int (nI n)) (C := RX5) (T := TX5) (N := 7) hx hb hG wu_X5 hown hK hP 0 rfl rfl 2 (by decide) (hG _ wf_X5_26) (fun _ h9 => h9) rfl dX5_unmake_6 ?_
  refine ln_if_ne (tgt := 14) hx hb dX5_unmake_9 (by decide) (by omega) (fun c9 => ?_) (fun c9 => ?_)
  · skip
    have hn1 : n - 1 ≤ 199 := by omega
    refine lv_aload_n hx hb dX5_unmake_14 rfl (lv_at hl 0 rfl) ?_
    refine lv_dup hx hb dX5_unmake_15 rfl ?_
    refine va_get (D := D) (ci := 4) (v := .int (nI n)) (C := RX5) (T := TX5) (N := 7) hx hb hG wu_X5 hown hK hP 0 rfl rfl 2 (by decide) (hG _ wf_X5_26) (fun _ h9 => h9) rfl dX5_unmake_16 ?_
    refine lv_iconst (v := (nI 1)) hx hb dX5_unmake_19 (by decide) ?_
    refine ln_isub hx hb dX5_unmake_20 (by omega) ?_
    refine va_put (D := D) (ci := 4) (v := .int (nI (n - 1))) (ty := .int) (C := RX5) (T := TX5) (N := 7) hx hb hG wu_X5 tyX5 tyX5_ok nmX5 hown hK hP hD hS 0 rfl rfl 2 (by decide) (hG _ wf_X5_26) (fun _ h9 => h9) rfl (by decide +kernel) rfl rfl (Nat.le_of_ble_eq_true rfl) dX5_unmake_21 (fun H locs hP hD hS => ?_)
    have hP : va_P D classes (rW cI hm b0 b1 b2 b3 (nI 0) (nI (n - 1)) sz F mv kp li) H := hP
    have hD : va_D A (rW cI hm b0 b1 b2 b3 (nI 0) (nI (n - 1)) sz F mv kp li) := hD
    refine lv_iconst (v := (nI 0)) hx hb dX5_unmake_24 (by decide) ?_
    refine lv_istore_n (lv' := [(1, .int (nI 0)), (0, .ref hm)]) hx hb dX5_unmake_25 rfl hl (by decide) rfl (fun ls hl => ?_)
    refine lpW (σ := (Nat) × (Nat → Int32)) 26 2 [] (fun x9 => [(0, .ref hm), (1, .int (nI x9.1))]) (fun x9 => rW cI hm b0 b1 b2 b3 (nI 0) (nI (n - 1)) sz x9.2 mv kp li) (fun x9 => x9.1 ≤ 67 ∧ ∀ j, j < x9.1 → x9.2 j = kp (67 * (n - 1) + j)) (fun x9 => 67 - x9.1) (0, F) ⟨Nat.zero_le _, fun _ h => absurd h (Nat.not_lt_zero _)⟩ (lv_sub hl [1, 0] rfl) hP hD hS ?_
    clear hP hD hS hl ls
    rintro ⟨i, G⟩ H locs hI hP hD hS ih_26 ls hl
    try dsimp only at hI ih_26 hl hP hD
    obtain ⟨hi, hz⟩ := hI
    refine lv_iload_n hx hb dX5_unmake_26 rfl (lv_at hl 1 rfl) ?_
    refine lv_bipush (v := (nI 67)) hx hb dX5_unmake_27 (by decide) ?_
    refine ln_icmp_ge (tgt := 58) hx hb dX5_unmake_29 (by decide) (by omega) (by decide) (fun c_1 => ?_) (fun c_1 => ?_)
    · skip
      refine lv_aload_n hx hb dX5_unmake_58 rfl (lv_at hl 0 rfl) ?_
      refine va_get (D := D) (ci := 4) (v := .ref b1) (C := RX5) (T := TX5) (N := 7) hx hb hG wu_X5 hown hK hP 0 rfl rfl 3 (by decide) (hG _ wf_X5_13) (fun _ h9 => h9) rfl dX5_unmake_59 ?_
      refine lv_aload_n hx hb dX5_unmake_62 rfl (lv_at hl 0 rfl) ?_
      refine va_get (D := D) (ci := 4) (v := .int (nI (n - 1))) (C := RX5) (T := TX5) (N := 7) hx hb hG wu_X5 hown hK hP 0 rfl rfl 2 (by decide) (hG _ wf_X5_26) (fun _ h9 => h9) rfl dX5_unmake_63 ?_
      refine va_iald hx hb hK hP 2 0 rfl rfl (vp_in_nI (by omega) (by decide)) dX5_unmake_66 ?_
      refine W.top (y := .int (mv (n - 1))) (congrArg (fun z => Value.int (mv z)) (nI_clamp (by omega))) ?_
      exact weI ((G, (nI (n - 1)))) hx hb hr hlocks dX5_unmake_67 ⟨fun z => absurd z c9, fun _ => ⟨rfl, rfl, fun j hj => hz j (by omega)⟩⟩ hP hD hK hA hE hS
    · skip
      refine lv_aload_n hx hb dX5_unmake_32 rfl (lv_at hl 0 rfl) ?_
      refine va_get (D := D) (ci := 4) (v := .ref b0) (C := RX5) (T := TX5) (N := 7) hx hb hG wu_X5 hown hK hP 0 rfl rfl 1 (by decide) (hG _ wf_X5_7) (fun _ h9 => h9) rfl dX5_unmake_33 ?_
      refine lv_iload_n hx hb dX5_unmake_36 rfl (lv_at hl 1 rfl) ?_
      refine lv_aload_n hx hb dX5_unmake_37 rfl (lv_at hl 0 rfl) ?_
      refine va_get (D := D) (ci := 4) (v := .ref b2) (C := RX5) (T := TX5) (N := 7) hx hb hG wu_X5 hown hK hP 0 rfl rfl 4 (by decide) (hG _ wf_X5_16) (fun _ h9 => h9) rfl dX5_unmake_38 ?_
      refine lv_bipush (v := (nI 67)) hx hb dX5_unmake_41 (by decide) ?_
      refine lv_aload_n hx hb dX5_unmake_43 rfl (lv_at hl 0 rfl) ?_
      refine va_get (D := D) (ci := 4) (v := .int (nI (n - 1))) (C := RX5) (T := TX5) (N := 7) hx hb hG wu_X5 hown hK hP 0 rfl rfl 2 (by decide) (hG _ wf_X5_26) (fun _ h9 => h9) rfl dX5_unmake_44 ?_
      refine ln_imul hx hb dX5_unmake_47 ?_
      refine lv_iload_n hx hb dX5_unmake_48 rfl (lv_at hl 1 rfl) ?_
      refine ln_iadd hx hb dX5_unmake_49 ?_
      refine va_iald hx hb hK hP 3 0 rfl rfl (vp_in_nI (by omega) (by decide)) dX5_unmake_50 ?_
      refine W.top (y := .int (kp ((67 * (n - 1)) + i))) (congrArg (fun z => Value.int (kp z)) (nI_clamp (by omega))) ?_
      refine va_iast hx hb hK hP hD hS 1 0 rfl rfl (vp_in_nI (by omega) (by decide)) dX5_unmake_51 (fun H locs hP hD hS => ?_)
      rw [nI_clamp (show i < 2 ^ 31 by omega)] at hP hD
      have hP : va_P D classes (rW cI hm b0 b1 b2 b3 (nI 0) (nI (n - 1)) sz (upd G i (kp ((67 * (n - 1)) + i))) mv kp li) H := hP
      have hD : va_D A (rW cI hm b0 b1 b2 b3 (nI 0) (nI (n - 1)) sz (upd G i (kp ((67 * (n - 1)) + i))) mv kp li) := hD
      refine lv_iinc (v := (nI (i + 1))) (lv' := [(1, .int (nI (i + 1))), (0, .ref hm)]) hx hb dX5_unmake_52 hl (k := 1) rfl (show nI i + Int32.ofInt 1 = nI (i + 1) from nI_add _ 1) (by decide) rfl (fun ls hl => ?_)
      refine lv_goto (tgt := 26) hx hb dX5_unmake_55 (by decide) ?_
      exact ih_26 ((i + 1), (upd G i (kp ((67 * (n - 1)) + i)))) _ _ ⟨by omega, cpy_s (f := fun j => kp (67 * (n - 1) + j)) hz⟩ (by (try dsimp only); omega) hP hD hS ls (lv_sub hl [1, 0] rfl)
  · skip
    refine lv_iconst (v := (-1)) hx hb dX5_unmake_12 (by decide) ?_
    exact weI ((F, (nI n))) hx hb hr hlocks dX5_unmake_13 ⟨fun _ => ⟨rfl, rfl, congrArg nI c9⟩, fun z => absurd c9 z⟩ hP hD hK hA hE hS

theorem dX5_make_0 : decode cX5_make 0 = .ok (.aload_n 0, 1) := by decide +kernel
theorem dX5_make_1 : decode cX5_make 1 = .ok (.aload_n 0, 1) := by decide +kernel
theorem dX5_make_2 : decode cX5_make 2 = .ok (.invokevirtual 99, 3) := by decide +kernel
theorem dX5_make_5 : decode cX5_make 5 = .ok (.putfield 22, 3) := by decide +kernel
theorem dX5_make_8 : decode cX5_make 8 = .ok (.aload_n 0, 1) := by decide +kernel
theorem dX5_make_9 : decode cX5_make 9 = .ok (.aload_n 0, 1) := by decide +kernel
theorem dX5_make_10 : decode cX5_make 10 = .ok (.getfield 22, 3) := by decide +kernel
theorem dX5_make_13 : decode cX5_make 13 = .ok (.ifCond .le 10, 3) := by decide +kernel
theorem dX5_make_16 : decode cX5_make 16 = .ok (.aload_n 0, 1) := by decide +kernel
theorem dX5_make_17 : decode cX5_make 17 = .ok (.getfield 22, 3) := by decide +kernel
theorem dX5_make_20 : decode cX5_make 20 = .ok (.goto 30, 3) := by decide +kernel
theorem dX5_make_23 : decode cX5_make 23 = .ok (.aload_n 0, 1) := by decide +kernel
theorem dX5_make_24 : decode cX5_make 24 = .ok (.iload_n 1, 1) := by decide +kernel
theorem dX5_make_25 : decode cX5_make 25 = .ok (.invokevirtual 103, 3) := by decide +kernel
theorem dX5_make_28 : decode cX5_make 28 = .ok (.ifCond .ge 7, 3) := by decide +kernel
theorem dX5_make_31 : decode cX5_make 31 = .ok (.iconst 2, 1) := by decide +kernel
theorem dX5_make_32 : decode cX5_make 32 = .ok (.goto 18, 3) := by decide +kernel
theorem dX5_make_35 : decode cX5_make 35 = .ok (.aload_n 0, 1) := by decide +kernel
theorem dX5_make_36 : decode cX5_make 36 = .ok (.getfield 26, 3) := by decide +kernel
theorem dX5_make_39 : decode cX5_make 39 = .ok (.sipush 200, 3) := by decide +kernel
theorem dX5_make_42 : decode cX5_make 42 = .ok (.if_icmp .ne 7, 3) := by decide +kernel
theorem dX5_make_45 : decode cX5_make 45 = .ok (.iconst 3, 1) := by decide +kernel
theorem dX5_make_46 : decode cX5_make 46 = .ok (.goto 4, 3) := by decide +kernel
theorem dX5_make_49 : decode cX5_make 49 = .ok (.iconst 0, 1) := by decide +kernel
theorem dX5_make_50 : decode cX5_make 50 = .ok (.putfield 22, 3) := by decide +kernel
theorem dX5_make_53 : decode cX5_make 53 = .ok (.aload_n 0, 1) := by decide +kernel
theorem dX5_make_54 : decode cX5_make 54 = .ok (.getfield 22, 3) := by decide +kernel
theorem dX5_make_57 : decode cX5_make 57 = .ok (.ifCond .le 5, 3) := by decide +kernel
theorem dX5_make_60 : decode cX5_make 60 = .ok (.iconst 0, 1) := by decide +kernel
theorem dX5_make_61 : decode cX5_make 61 = .ok (.ireturn, 1) := by decide +kernel
theorem dX5_make_62 : decode cX5_make 62 = .ok (.iconst 0, 1) := by decide +kernel
theorem dX5_make_63 : decode cX5_make 63 = .ok (.istore_n 2, 1) := by decide +kernel
theorem dX5_make_64 : decode cX5_make 64 = .ok (.iload_n 2, 1) := by decide +kernel
theorem dX5_make_65 : decode cX5_make 65 = .ok (.bipush 67, 2) := by decide +kernel
theorem dX5_make_67 : decode cX5_make 67 = .ok (.if_icmp .ge 29, 3) := by decide +kernel
theorem dX5_make_70 : decode cX5_make 70 = .ok (.aload_n 0, 1) := by decide +kernel
theorem dX5_make_71 : decode cX5_make 71 = .ok (.getfield 16, 3) := by decide +kernel
theorem dX5_make_74 : decode cX5_make 74 = .ok (.bipush 67, 2) := by decide +kernel
theorem dX5_make_76 : decode cX5_make 76 = .ok (.aload_n 0, 1) := by decide +kernel
theorem dX5_make_77 : decode cX5_make 77 = .ok (.getfield 26, 3) := by decide +kernel
theorem dX5_make_80 : decode cX5_make 80 = .ok (.imul, 1) := by decide +kernel
theorem dX5_make_81 : decode cX5_make 81 = .ok (.iload_n 2, 1) := by decide +kernel
theorem dX5_make_82 : decode cX5_make 82 = .ok (.iadd, 1) := by decide +kernel
theorem dX5_make_83 : decode cX5_make 83 = .ok (.aload_n 0, 1) := by decide +kernel
theorem dX5_make_84 : decode cX5_make 84 = .ok (.getfield 7, 3) := by decide +kernel
theorem dX5_make_87 : decode cX5_make 87 = .ok (.iload_n 2, 1) := by decide +kernel
theorem dX5_make_88 : decode cX5_make 88 = .ok (.iaload, 1) := by decide +kernel
theorem dX5_make_89 : decode cX5_make 89 = .ok (.iastore, 1) := by decide +kernel
theorem dX5_make_90 : decode cX5_make 90 = .ok (.iinc 2 1, 3) := by decide +kernel
theorem dX5_make_93 : decode cX5_make 93 = .ok (.goto (-29), 3) := by decide +kernel
theorem dX5_make_96 : decode cX5_make 96 = .ok (.aload_n 0, 1) := by decide +kernel
theorem dX5_make_97 : decode cX5_make 97 = .ok (.getfield 13, 3) := by decide +kernel
theorem dX5_make_100 : decode cX5_make 100 = .ok (.aload_n 0, 1) := by decide +kernel
theorem dX5_make_101 : decode cX5_make 101 = .ok (.getfield 26, 3) := by decide +kernel
theorem dX5_make_104 : decode cX5_make 104 = .ok (.iload_n 1, 1) := by decide +kernel
theorem dX5_make_105 : decode cX5_make 105 = .ok (.iastore, 1) := by decide +kernel
theorem dX5_make_106 : decode cX5_make 106 = .ok (.aload_n 0, 1) := by decide +kernel
theorem dX5_make_107 : decode cX5_make 107 = .ok (.dup, 1) := by decide +kernel
theorem dX5_make_108 : decode cX5_make 108 = .ok (.getfield 26, 3) := by decide +kernel
theorem dX5_make_111 : decode cX5_make 111 = .ok (.iconst 1, 1) := by decide +kernel
theorem dX5_make_112 : decode cX5_make 112 = .ok (.iadd, 1) := by decide +kernel
theorem dX5_make_113 : decode cX5_make 113 = .ok (.putfield 26, 3) := by decide +kernel
theorem dX5_make_116 : decode cX5_make 116 = .ok (.aload_n 0, 1) := by decide +kernel
theorem dX5_make_117 : decode cX5_make 117 = .ok (.iconst 0, 1) := by decide +kernel
theorem dX5_make_118 : decode cX5_make 118 = .ok (.bipush 67, 2) := by decide +kernel
theorem dX5_make_120 : decode cX5_make 120 = .ok (.iload_n 1, 1) := by decide +kernel
theorem dX5_make_121 : decode cX5_make 121 = .ok (.invokevirtual 86, 3) := by decide +kernel
theorem dX5_make_124 : decode cX5_make 124 = .ok (.iconst 0, 1) := by decide +kernel
theorem dX5_make_125 : decode cX5_make 125 = .ok (.istore_n 2, 1) := by decide +kernel
theorem dX5_make_126 : decode cX5_make 126 = .ok (.iload_n 2, 1) := by decide +kernel
theorem dX5_make_127 : decode cX5_make 127 = .ok (.bipush 67, 2) := by decide +kernel
theorem dX5_make_129 : decode cX5_make 129 = .ok (.if_icmp .ge 24, 3) := by decide +kernel
theorem dX5_make_132 : decode cX5_make 132 = .ok (.aload_n 0, 1) := by decide +kernel
theorem dX5_make_133 : decode cX5_make 133 = .ok (.getfield 7, 3) := by decide +kernel
theorem dX5_make_136 : decode cX5_make 136 = .ok (.iload_n 2, 1) := by decide +kernel
theorem dX5_make_137 : decode cX5_make 137 = .ok (.aload_n 0, 1) := by decide +kernel
theorem dX5_make_138 : decode cX5_make 138 = .ok (.getfield 7, 3) := by decide +kernel
theorem dX5_make_141 : decode cX5_make 141 = .ok (.bipush 67, 2) := by decide +kernel
theorem dX5_make_143 : decode cX5_make 143 = .ok (.iload_n 2, 1) := by decide +kernel
theorem dX5_make_144 : decode cX5_make 144 = .ok (.iadd, 1) := by decide +kernel
theorem dX5_make_145 : decode cX5_make 145 = .ok (.iaload, 1) := by decide +kernel
theorem dX5_make_146 : decode cX5_make 146 = .ok (.iastore, 1) := by decide +kernel
theorem dX5_make_147 : decode cX5_make 147 = .ok (.iinc 2 1, 3) := by decide +kernel
theorem dX5_make_150 : decode cX5_make 150 = .ok (.goto (-24), 3) := by decide +kernel
theorem dX5_make_153 : decode cX5_make 153 = .ok (.aload_n 0, 1) := by decide +kernel
theorem dX5_make_154 : decode cX5_make 154 = .ok (.iconst 0, 1) := by decide +kernel
theorem dX5_make_155 : decode cX5_make 155 = .ok (.iconst 0, 1) := by decide +kernel
theorem dX5_make_156 : decode cX5_make 156 = .ok (.invokevirtual 93, 3) := by decide +kernel
theorem dX5_make_159 : decode cX5_make 159 = .ok (.ireturn, 1) := by decide +kernel
theorem hd_X5_make : yX5_make.cls ≠ "java/lang/invoke/MethodHandle" ∧ yX5_make.cls ≠ "java/lang/invoke/VarHandle" ∧ (parseMethodDescriptor yX5_make.desc).map (fun d => d.parameters.length) = some 1 := by decide +kernel
set_option maxHeartbeats 4000000 in
set_option maxRecDepth 100000 in
/-- make -/
theorem c_X5_make (l : Launch) {D : va_G} {cI cJ : ClassId} {A : Nat → Prop} {hm b0 b1 b2 b3 : Nat} {th sz : Int32} {F mv kp li : Nat → Int32} (bd : Nat → Nat) (sd rt ps : Nat) (hBd : Bd F 0 bd sd rt ps) (hLA : LenOK) (n : Nat) (hn : n ≤ 200) (x : Int32) : Met l yX5_make (Cond.code yX5_make cX5_make 3 (some .int) :: wsL_law) (rK 9) (va_Pc [.ref hm, .int x] (IW D cI cJ A (rW cI hm b0 b1 b2 b3 th (nI n) sz F mv kp li))) (va_Qi (fun r u => (mkc bd sd rt ps n x = 0 → ∃ f t k, f < 64 ∧ t < 64 ∧ k < 6 ∧ x = nI (f + 64 * t + 4096 * k) ∧ lgl bd sd rt ps f t k = true ∧ r = nI (legs (bhB bd sd ps f t k) (1 - sd) (bhR bd sd rt f t) (bhP bd sd ps f t k)).length ∧ Bd u.1 0 (bhB bd sd ps f t k) (1 - sd) (bhR bd sd rt f t) (bhP bd sd ps f t k) ∧ u.2.1 = nI (n + 1) ∧ u.2.2.1 = upd mv n x ∧ (∀ j, j < 67 → u.2.2.2.1 (67 * n + j) = F j) ∧ ∀ j, j < 67 * n → u.2.2.2.1 j = kp j) ∧ (¬ mkc bd sd rt ps n x = 0 → Bd u.1 0 bd sd rt ps ∧ u.2.1 = nI n ∧ u.2.2.1 = mv ∧ u.2.2.2.1 = kp)) (fun (u : (Nat → Int32) × Int32 × (Nat → Int32) × (Nat → Int32) × (Nat → Int32)) t => IW D cI cJ A (rW cI hm b0 b1 b2 b3 (nI (mkc bd sd rt ps n x)) u.2.1 (nI (szN bd sd rt ps)) u.1 u.2.2.1 u.2.2.2.1 u.2.2.2.2) t) A) 0 0 A := by
  refine entM (by decide) (Nat.le_of_ble_eq_true rfl) ?_
  intro p e s m below meth c ls S0 hr hlocks hG hnm hB hl
  have hx := S0.1
  have hb := S0.2.1
  have hown := S0.2.2.2.1
  have hl : lv_has ls 3 [(0, .ref hm), (1, .int x)] := hl
  obtain ⟨hP, hD, hK, hA, hE⟩ := hB
  have hS : va_S A s.heap s.heap [] := va_S.rf
  obtain ⟨hBp, hsd, hs2, hrt, hr16, hps, hp65⟩ := id hBd
  have hnd : ndN bd sd < 2 := by unfold ndN; split <;> omega
  have hLen : plb bd sd = true → (legs bd sd rt ps).length ≤ 1024 := fun _ => hLA.le hBd
  have hszl : szN bd sd rt ps ≤ 1024 := by unfold szN; split; exact hLA.le hBd; exact Nat.zero_le _
  have hlgl : (lgs bd sd rt ps).length ≤ 1024 := by rw [← szN_eq]; exact hszl
  refine lv_aload_n hx hb dX5_make_0 rfl (lv_at hl 0 rfl) ?_
  refine lv_aload_n hx hb dX5_make_1 rfl (lv_at hl 0 rfl) ?_
  refine chI (rnV (As := []) (rest := [.ref hm]) S0 (c_X5_need l bd sd rt ps hBd hLen) wm_X5_99 wi_X5_need ws_X5_need wn_X5 wc_X5_need hd_X5_need ⟨rfl, rfl, by decide, by decide⟩ IW.blind (va_recv hK hP (ci := 4) (q0 := 0) rfl rfl) (IW.at hP hD hK hA hE hS) hl.1 (Nat.le_of_ble_eq_true rfl) dX5_make_2 rfl ⟨by decide, by decide⟩) hS (fun r_1 u1 H locs hu hP hD hS => ?_)
  obtain ⟨he9, hA9, hL9⟩ := hu
  subst he9
  have hP : va_P D classes (rW cI hm b0 b1 b2 b3 th (nI n) (nI (szN bd sd rt ps)) u1.1 mv kp u1.2) H := hP
  have hD : va_D A (rW cI hm b0 b1 b2 b3 th (nI n) (nI (szN bd sd rt ps)) u1.1 mv kp u1.2) := hD
  have hB8 := hA9.Bd (b := 0) (by decide) hBd
  refine va_put (D := D) (ci := 4) (v := .int (nI (ndN bd sd))) (ty := .int) (C := RX5) (T := TX5) (N := 7) hx hb hG wu_X5 tyX5 tyX5_ok nmX5 hown hK hP hD hS 0 rfl rfl 0 (by decide) (hG _ wf_X5_22) (fun _ h9 => h9) rfl (by decide +kernel) rfl rfl (Nat.le_of_ble_eq_true rfl) dX5_make_5 (fun H locs hP hD hS => ?_)
  have hP : va_P D classes (rW cI hm b0 b1 b2 b3 (nI (ndN bd sd)) (nI n) (nI (szN bd sd rt ps)) u1.1 mv kp u1.2) H := hP
  have hD : va_D A (rW cI hm b0 b1 b2 b3 (nI (ndN bd sd)) (nI n) (nI (szN bd sd rt ps)) u1.1 mv kp u1.2) := hD
  refine lv_aload_n hx hb dX5_make_8 rfl (lv_at hl 0 rfl) ?_
  refine lv_aload_n hx hb dX5_make_9 rfl (lv_at hl 0 rfl) ?_
  refine va_get (D := D) (ci := 4) (v := .int (nI (ndN bd sd))) (C := RX5) (T := TX5) (N := 7) hx hb hG wu_X5 hown hK hP 0 rfl rfl 0 (by decide) (hG _ wf_X5_22) (fun _ h9 => h9) rfl dX5_make_10 ?_
  refine jnG 50 3 [(0, .ref hm), (1, .int x)] [.int (nI (mkc bd sd rt ps n x)), .ref hm] ?_ (fun hj_50 => ?_)
  · intro ls hl
    refine va_put (D := D) (ci := 4) (v := .int (nI (mkc bd sd rt ps n x))) (ty := .int) (C := RX5) (T := TX5) (N := 7) hx hb hG wu_X5 tyX5 tyX5_ok nmX5 hown hK hP hD hS 0 rfl rfl 0 (by decide) (hG _ wf_X5_22) (fun _ h9 => h9) rfl (by decide +kernel) rfl rfl (Nat.le_of_ble_eq_true rfl) dX5_make_50 (fun H locs hP hD hS => ?_)
    have hP : va_P D classes (rW cI hm b0 b1 b2 b3 (nI (mkc bd sd rt ps n x)) (nI n) (nI (szN bd sd rt ps)) u1.1 mv kp u1.2) H := hP
    have hD : va_D A (rW cI hm b0 b1 b2 b3 (nI (mkc bd sd rt ps n x)) (nI n) (nI (szN bd sd rt ps)) u1.1 mv kp u1.2) := hD
    have hkc : mkc bd sd rt ps n x < 4 := by unfold mkc; (repeat' split) <;> omega
    refine lv_aload_n hx hb dX5_make_53 rfl (lv_at hl 0 rfl) ?_
    refine va_get (D := D) (ci := 4) (v := .int (nI (mkc bd sd rt ps n x))) (C := RX5) (T := TX5) (N := 7) hx hb hG wu_X5 hown hK hP 0 rfl rfl 0 (by decide) (hG _ wf_X5_22) (fun _ h9 => h9) rfl dX5_make_54 ?_
    refine ln_if_le (tgt := 62) hx hb dX5_make_57 (by decide) (by omega) (fun c57 => ?_) (fun c57 => ?_)
    · skip
      obtain ⟨hpl, hge, hn2⟩ := mkc_0 c57
      have hn3 : n < 200 := by omega
      obtain ⟨f, t, k, hf, ht, hk, hx9, hlg⟩ := isl_of hpl hlgl hge
      have hkg : ∀ w, w < 2 → kgs bd w < 64 := fun w hw => plb_k hw hpl
      have hgo := (pre_go (lgl_pre hlg).1).1
      refine lv_iconst (v := (nI 0)) hx hb dX5_make_62 (by decide) ?_
      refine lv_istore_n (lv' := [(2, .int (nI 0)), (0, .ref hm), (1, .int x)]) hx hb dX5_make_63 rfl hl (by decide) rfl (fun ls hl => ?_)
      refine lpW (σ := (Nat) × (Nat → Int32)) 64 3 [] (fun x9 => [(0, .ref hm), (1, .int x), (2, .int (nI x9.1))]) (fun x9 => rW cI hm b0 b1 b2 b3 (nI (mkc bd sd rt ps n x)) (nI n) (nI (szN bd sd rt ps)) u1.1 mv x9.2 u1.2) (fun x9 => x9.1 ≤ 67 ∧ (∀ j, j < x9.1 → x9.2 (67 * n + j) = u1.1 j) ∧ ∀ j, j < 67 * n → x9.2 j = kp j) (fun x9 => 67 - x9.1) (0, kp) ⟨Nat.zero_le _, fun _ h => absurd h (Nat.not_lt_zero _), fun _ _ => rfl⟩ (lv_sub hl [1, 2, 0] rfl) hP hD hS ?_
      clear hP hD hS hl ls
      rintro ⟨i, K⟩ H locs hI hP hD hS ih_64 ls hl
      try dsimp only at hI ih_64 hl hP hD
      obtain ⟨hi, hk1, hk2⟩ := hI
      refine lv_iload_n hx hb dX5_make_64 rfl (lv_at hl 2 rfl) ?_
      refine lv_bipush (v := (nI 67)) hx hb dX5_make_65 (by decide) ?_
      refine ln_icmp_ge (tgt := 96) hx hb dX5_make_67 (by decide) (by omega) (by decide) (fun c67 => ?_) (fun c67 => ?_)
      · skip
        have hk3 : ∀ j, j < 67 → K (67 * n + j) = F j := fun j hj => (hk1 j (by omega)).trans (hA9 j (by omega))
        refine lv_aload_n hx hb dX5_make_96 rfl (lv_at hl 0 rfl) ?_
        refine va_get (D := D) (ci := 4) (v := .ref b1) (C := RX5) (T := TX5) (N := 7) hx hb hG wu_X5 hown hK hP 0 rfl rfl 3 (by decide) (hG _ wf_X5_13) (fun _ h9 => h9) rfl dX5_make_97 ?_
        refine lv_aload_n hx hb dX5_make_100 rfl (lv_at hl 0 rfl) ?_
        refine va_get (D := D) (ci := 4) (v := .int (nI n)) (C := RX5) (T := TX5) (N := 7) hx hb hG wu_X5 hown hK hP 0 rfl rfl 2 (by decide) (hG _ wf_X5_26) (fun _ h9 => h9) rfl dX5_make_101 ?_
        refine lv_iload_n hx hb dX5_make_104 rfl (lv_at hl 1 rfl) ?_
        refine va_iast hx hb hK hP hD hS 2 0 rfl rfl (vp_in_nI (by omega) (by decide)) dX5_make_105 (fun H locs hP hD hS => ?_)
        rw [nI_clamp (show n < 2 ^ 31 by omega)] at hP hD
        have hP : va_P D classes (rW cI hm b0 b1 b2 b3 (nI (mkc bd sd rt ps n x)) (nI n) (nI (szN bd sd rt ps)) u1.1 (upd mv n x) K u1.2) H := hP
        have hD : va_D A (rW cI hm b0 b1 b2 b3 (nI (mkc bd sd rt ps n x)) (nI n) (nI (szN bd sd rt ps)) u1.1 (upd mv n x) K u1.2) := hD
        refine lv_aload_n hx hb dX5_make_106 rfl (lv_at hl 0 rfl) ?_
        refine lv_dup hx hb dX5_make_107 rfl ?_
        refine va_get (D := D) (ci := 4) (v := .int (nI n)) (C := RX5) (T := TX5) (N := 7) hx hb hG wu_X5 hown hK hP 0 rfl rfl 2 (by decide) (hG _ wf_X5_26) (fun _ h9 => h9) rfl dX5_make_108 ?_
        refine lv_iconst (v := (nI 1)) hx hb dX5_make_111 (by decide) ?_
        refine ln_iadd hx hb dX5_make_112 ?_
        refine va_put (D := D) (ci := 4) (v := .int (nI (n + 1))) (ty := .int) (C := RX5) (T := TX5) (N := 7) hx hb hG wu_X5 tyX5 tyX5_ok nmX5 hown hK hP hD hS 0 rfl rfl 2 (by decide) (hG _ wf_X5_26) (fun _ h9 => h9) rfl (by decide +kernel) rfl rfl (Nat.le_of_ble_eq_true rfl) dX5_make_113 (fun H locs hP hD hS => ?_)
        have hP : va_P D classes (rW cI hm b0 b1 b2 b3 (nI (mkc bd sd rt ps n x)) (nI (n + 1)) (nI (szN bd sd rt ps)) u1.1 (upd mv n x) K u1.2) H := hP
        have hD : va_D A (rW cI hm b0 b1 b2 b3 (nI (mkc bd sd rt ps n x)) (nI (n + 1)) (nI (szN bd sd rt ps)) u1.1 (upd mv n x) K u1.2) := hD
        refine lv_aload_n hx hb dX5_make_116 rfl (lv_at hl 0 rfl) ?_
        refine lv_iconst (v := (nI 0)) hx hb dX5_make_117 (by decide) ?_
        refine lv_bipush (v := (nI 67)) hx hb dX5_make_118 (by decide) ?_
        refine lv_iload_n hx hb dX5_make_120 rfl (lv_at hl 1 rfl) ?_
        refine W.top (y := .int (nI (f + 64 * t + 4096 * k))) (congrArg Value.int hx9) ?_
        refine chV (rnV (As := [.int (nI 0), .int (nI 67), .int (nI (f + 64 * t + 4096 * k))]) (rest := []) S0 (c_X5_behind l bd sd rt ps 0 67 f t k (by decide) (by decide) hf ht hk hgo hB8) wm_X5_86 wi_X5_behind ws_X5_behind wn_X5 wc_X5_behind hd_X5_behind ⟨rfl, rfl, by decide, by decide⟩ IW.blind (va_recv hK hP (ci := 4) (q0 := 0) rfl rfl) (IW.at hP hD hK hA hE hS) hl.1 (Nat.le_of_ble_eq_true rfl) dX5_make_121 rfl ⟨by decide, by decide⟩) hS (fun u2 H locs hu hP hD hS => ?_)
        obtain ⟨hBn, hAn⟩ := hu
        have hP : va_P D classes (rW cI hm b0 b1 b2 b3 (nI (mkc bd sd rt ps n x)) (nI (n + 1)) (nI (szN bd sd rt ps)) u2 (upd mv n x) K u1.2) H := hP
        have hD : va_D A (rW cI hm b0 b1 b2 b3 (nI (mkc bd sd rt ps n x)) (nI (n + 1)) (nI (szN bd sd rt ps)) u2 (upd mv n x) K u1.2) := hD
        refine lv_iconst (v := (nI 0)) hx hb dX5_make_124 (by decide) ?_
        refine lv_istore_n (lv' := [(2, .int (nI 0)), (0, .ref hm), (1, .int x)]) hx hb dX5_make_125 rfl hl (by decide) rfl (fun ls hl => ?_)
        refine lpW (σ := (Nat) × (Nat → Int32)) 126 3 [] (fun x9 => [(0, .ref hm), (1, .int x), (2, .int (nI x9.1))]) (fun x9 => rW cI hm b0 b1 b2 b3 (nI (mkc bd sd rt ps n x)) (nI (n + 1)) (nI (szN bd sd rt ps)) x9.2 (upd mv n x) K u1.2) (fun x9 => x9.1 ≤ 67 ∧ (∀ j, j < x9.1 → x9.2 j = u2 (67 + j)) ∧ ∀ j, 67 ≤ j → x9.2 j = u2 j) (fun x9 => 67 - x9.1) (0, u2) ⟨Nat.zero_le _, fun _ h => absurd h (Nat.not_lt_zero _), fun _ _ => rfl⟩ (lv_sub hl [1, 2, 0] rfl) hP hD hS ?_
        clear hP hD hS hl ls
        rintro ⟨i, G⟩ H locs hI hP hD hS ih_126 ls hl
        try dsimp only at hI ih_126 hl hP hD
        obtain ⟨hi, hg1, hg2⟩ := hI
        refine lv_iload_n hx hb dX5_make_126 rfl (lv_at hl 2 rfl) ?_
        refine lv_bipush (v := (nI 67)) hx hb dX5_make_127 (by decide) ?_
        refine ln_icmp_ge (tgt := 153) hx hb dX5_make_129 (by decide) (by omega) (by decide) (fun c129 => ?_) (fun c129 => ?_)
        · skip
          have hB7 : Bd G 0 (bhB bd sd ps f t k) (1 - sd) (bhR bd sd rt f t) (bhP bd sd ps f t k) := Bd_cp hBn (fun j hj => by rw [Nat.zero_add]; exact hg1 j (by omega))
          refine lv_aload_n hx hb dX5_make_153 rfl (lv_at hl 0 rfl) ?_
          refine lv_iconst (v := (nI 0)) hx hb dX5_make_154 (by decide) ?_
          refine lv_iconst (v := (nI 0)) hx hb dX5_make_155 (by decide) ?_
          refine chI (rnV (As := [.int (nI 0), .int (nI 0)]) (rest := []) S0 (c_X5_listed l (bhB bd sd ps f t k) (1 - sd) (bhR bd sd rt f t) (bhP bd sd ps f t k) 0 (by decide) hB7 (lgl_kg hB8.lt hs2 (by omega) hf ht hk hlg (hkg _ (by omega))) (hLA.le hB7)) wm_X5_93 wi_X5_listed ws_X5_listed wn_X5 wc_X5_listed hd_X5_listed ⟨rfl, rfl, by decide, by decide⟩ IW.blind (va_recv hK hP (ci := 4) (q0 := 0) rfl rfl) (IW.at hP hD hK hA hE hS) hl.1 (Nat.le_of_ble_eq_true rfl) dX5_make_156 rfl ⟨by decide, by decide⟩) hS (fun r_3 u3 H locs hu hP hD hS => ?_)
          obtain ⟨he9, hA9, hL9⟩ := hu
          subst he9
          have hP : va_P D classes (rW cI hm b0 b1 b2 b3 (nI (mkc bd sd rt ps n x)) (nI (n + 1)) (nI (szN bd sd rt ps)) u3.1 (upd mv n x) K u3.2) H := hP
          have hD : va_D A (rW cI hm b0 b1 b2 b3 (nI (mkc bd sd rt ps n x)) (nI (n + 1)) (nI (szN bd sd rt ps)) u3.1 (upd mv n x) K u3.2) := hD
          have hB6 := hA9.Bd (b := 0) (by decide) hB7
          exact weI ((u3.1, (nI (n + 1)), upd mv n x, K, u3.2)) hx hb hr hlocks dX5_make_159 ⟨fun _ => ⟨f, t, k, hf, ht, hk, hx9, hlg, rfl, hB6, rfl, rfl, hk3, hk2⟩, fun z => absurd c57 z⟩ hP hD hK hA hE hS
        · skip
          refine lv_aload_n hx hb dX5_make_132 rfl (lv_at hl 0 rfl) ?_
          refine va_get (D := D) (ci := 4) (v := .ref b0) (C := RX5) (T := TX5) (N := 7) hx hb hG wu_X5 hown hK hP 0 rfl rfl 1 (by decide) (hG _ wf_X5_7) (fun _ h9 => h9) rfl dX5_make_133 ?_
          refine lv_iload_n hx hb dX5_make_136 rfl (lv_at hl 2 rfl) ?_
          refine lv_aload_n hx hb dX5_make_137 rfl (lv_at hl 0 rfl) ?_
          refine va_get (D := D) (ci := 4) (v := .ref b0) (C := RX5) (T := TX5) (N := 7) hx hb hG wu_X5 hown hK hP 0 rfl rfl 1 (by decide) (hG _ wf_X5_7) (fun _ h9 => h9) rfl dX5_make_138 ?_
          refine lv_bipush (v := (nI 67)) hx hb dX5_make_141 (by decide) ?_
          refine lv_iload_n hx hb dX5_make_143 rfl (lv_at hl 2 rfl) ?_
          refine ln_iadd hx hb dX5_make_144 ?_
          refine va_iald hx hb hK hP 1 0 rfl rfl (vp_in_nI (by omega) (by decide)) dX5_make_145 ?_
          refine W.top (y := .int (G (67 + i))) (congrArg (fun z => Value.int (G z)) (nI_clamp (by omega))) ?_
          refine va_iast hx hb hK hP hD hS 1 0 rfl rfl (vp_in_nI (by omega) (by decide)) dX5_make_146 (fun H locs hP hD hS => ?_)
          rw [nI_clamp (show i < 2 ^ 31 by omega)] at hP hD
          have hP : va_P D classes (rW cI hm b0 b1 b2 b3 (nI (mkc bd sd rt ps n x)) (nI (n + 1)) (nI (szN bd sd rt ps)) (upd G i (G (67 + i))) (upd mv n x) K u1.2) H := hP
          have hD : va_D A (rW cI hm b0 b1 b2 b3 (nI (mkc bd sd rt ps n x)) (nI (n + 1)) (nI (szN bd sd rt ps)) (upd G i (G (67 + i))) (upd mv n x) K u1.2) := hD
          refine lv_iinc (v := (nI (i + 1))) (lv' := [(2, .int (nI (i + 1))), (0, .ref hm), (1, .int x)]) hx hb dX5_make_147 hl (k := 2) rfl (show nI i + Int32.ofInt 1 = nI (i + 1) from nI_add _ 1) (by decide) rfl (fun ls hl => ?_)
          refine lv_goto (tgt := 126) hx hb dX5_make_150 (by decide) ?_
          exact ih_126 ((i + 1), (upd G i (G (67 + i)))) _ _ ⟨by omega, by dsimp only; rw [hg2 _ (by omega)]; exact cpy_s (f := fun j => u2 (67 + j)) hg1, fun j hj => by dsimp only; rw [pk_un (by omega)]; exact hg2 j hj⟩ (by (try dsimp only); omega) hP hD hS ls (lv_sub hl [1, 2, 0] rfl)
      · skip
        refine lv_aload_n hx hb dX5_make_70 rfl (lv_at hl 0 rfl) ?_
        refine va_get (D := D) (ci := 4) (v := .ref b2) (C := RX5) (T := TX5) (N := 7) hx hb hG wu_X5 hown hK hP 0 rfl rfl 4 (by decide) (hG _ wf_X5_16) (fun _ h9 => h9) rfl dX5_make_71 ?_
        refine lv_bipush (v := (nI 67)) hx hb dX5_make_74 (by decide) ?_
        refine lv_aload_n hx hb dX5_make_76 rfl (lv_at hl 0 rfl) ?_
        refine va_get (D := D) (ci := 4) (v := .int (nI n)) (C := RX5) (T := TX5) (N := 7) hx hb hG wu_X5 hown hK hP 0 rfl rfl 2 (by decide) (hG _ wf_X5_26) (fun _ h9 => h9) rfl dX5_make_77 ?_
        refine ln_imul hx hb dX5_make_80 ?_
        refine lv_iload_n hx hb dX5_make_81 rfl (lv_at hl 2 rfl) ?_
        refine ln_iadd hx hb dX5_make_82 ?_
        refine lv_aload_n hx hb dX5_make_83 rfl (lv_at hl 0 rfl) ?_
        refine va_get (D := D) (ci := 4) (v := .ref b0) (C := RX5) (T := TX5) (N := 7) hx hb hG wu_X5 hown hK hP 0 rfl rfl 1 (by decide) (hG _ wf_X5_7) (fun _ h9 => h9) rfl dX5_make_84 ?_
        refine lv_iload_n hx hb dX5_make_87 rfl (lv_at hl 2 rfl) ?_
        refine va_iald hx hb hK hP 1 0 rfl rfl (vp_in_nI (by omega) (by decide)) dX5_make_88 ?_
        refine W.top (y := .int (u1.1 i)) (congrArg (fun z => Value.int (u1.1 z)) (nI_clamp (by omega))) ?_
        refine va_iast hx hb hK hP hD hS 3 0 rfl rfl (vp_in_nI (by omega) (by decide)) dX5_make_89 (fun H locs hP hD hS => ?_)
        rw [nI_clamp (show ((67 * n) + i) < 2 ^ 31 by omega)] at hP hD
        have hP : va_P D classes (rW cI hm b0 b1 b2 b3 (nI (mkc bd sd rt ps n x)) (nI n) (nI (szN bd sd rt ps)) u1.1 mv (upd K ((67 * n) + i) (u1.1 i)) u1.2) H := hP
        have hD : va_D A (rW cI hm b0 b1 b2 b3 (nI (mkc bd sd rt ps n x)) (nI n) (nI (szN bd sd rt ps)) u1.1 mv (upd K ((67 * n) + i) (u1.1 i)) u1.2) := hD
        refine lv_iinc (v := (nI (i + 1))) (lv' := [(2, .int (nI (i + 1))), (0, .ref hm), (1, .int x)]) hx hb dX5_make_90 hl (k := 2) rfl (show nI i + Int32.ofInt 1 = nI (i + 1) from nI_add _ 1) (by decide) rfl (fun ls hl => ?_)
        refine lv_goto (tgt := 64) hx hb dX5_make_93 (by decide) ?_
        exact ih_64 ((i + 1), (upd K ((67 * n) + i) (u1.1 i))) _ _ ⟨by omega, cpo_s hk1, fun j hj => by dsimp only; rw [pk_un (by omega)]; exact hk2 j hj⟩ (by (try dsimp only); omega) hP hD hS ls (lv_sub hl [1, 2, 0] rfl)
    · skip
      refine lv_iconst (v := (nI 0)) hx hb dX5_make_60 (by decide) ?_
      exact weI ((u1.1, (nI n), mv, kp, u1.2)) hx hb hr hlocks dX5_make_61 ⟨fun z => absurd z c57, fun _ => ⟨hB8, rfl, rfl, rfl⟩⟩ hP hD hK hA hE hS
  · skip
    refine ln_if_le (tgt := 23) hx hb dX5_make_13 (by decide) (by omega) (fun c13 => ?_) (fun c13 => ?_)
    · skip
      refine lv_aload_n hx hb dX5_make_23 rfl (lv_at hl 0 rfl) ?_
      refine lv_iload_n hx hb dX5_make_24 rfl (lv_at hl 1 rfl) ?_
      refine roI (rnV (As := [.int x]) (rest := [.ref hm]) S0 (c_X5_placeOf l x (lgs bd sd rt ps) hL9 (congrArg nI (szN_eq bd sd rt ps)) (by rw [← szN_eq]; exact hszl)) wm_X5_103 wi_X5_placeOf ws_X5_placeOf wn_X5 wc_X5_placeOf hd_X5_placeOf ⟨rfl, rfl, by decide, by decide⟩ IW.blind (va_recv hK hP (ci := 4) (q0 := 0) rfl rfl) (IW.at hP hD hK hA hE hS) hl.1 (Nat.le_of_ble_eq_true rfl) dX5_make_25 rfl ⟨by decide, by decide⟩) (fun r_4 hr_4 => ?_)
      subst hr_4
      refine lv_if_ge (tgt := 35) hx hb dX5_make_28 (by decide) (fun c28 => ?_) (fun c28 => ?_)
      · skip
        refine lv_aload_n hx hb dX5_make_35 rfl (lv_at hl 0 rfl) ?_
        refine va_get (D := D) (ci := 4) (v := .int (nI n)) (C := RX5) (T := TX5) (N := 7) hx hb hG wu_X5 hown hK hP 0 rfl rfl 2 (by decide) (hG _ wf_X5_26) (fun _ h9 => h9) rfl dX5_make_36 ?_
        refine lv_sipush (v := (nI 200)) hx hb dX5_make_39 (by decide) ?_
        refine ln_icmp_ne (tgt := 49) hx hb dX5_make_42 (by decide) (by omega) (by decide) (fun c42 => ?_) (fun c42 => ?_)
        · skip
          refine lv_iconst (v := (nI 0)) hx hb dX5_make_49 (by decide) ?_
          refine W.top (y := .int (nI (mkc bd sd rt ps n x))) (congrArg Value.int (congrArg nI (by unfold mkc; first | rw [if_neg c13] | rw [if_pos c13, if_neg c28] | rw [if_pos c13, if_pos c28, if_pos c42] | rw [if_pos c13, if_pos c28, if_neg c42]))) ?_
          exact hj_50 ls (lv_sub hl [0, 1] rfl)
        · skip
          refine lv_iconst (v := (nI 3)) hx hb dX5_make_45 (by decide) ?_
          refine lv_goto (tgt := 50) hx hb dX5_make_46 (by decide) ?_
          refine W.top (y := .int (nI (mkc bd sd rt ps n x))) (congrArg Value.int (congrArg nI (by unfold mkc; first | rw [if_neg c13] | rw [if_pos c13, if_neg c28] | rw [if_pos c13, if_pos c28, if_pos c42] | rw [if_pos c13, if_pos c28, if_neg c42]))) ?_
          exact hj_50 ls (lv_sub hl [0, 1] rfl)
      · skip
        refine lv_iconst (v := (nI 2)) hx hb dX5_make_31 (by decide) ?_
        refine lv_goto (tgt := 50) hx hb dX5_make_32 (by decide) ?_
        refine W.top (y := .int (nI (mkc bd sd rt ps n x))) (congrArg Value.int (congrArg nI (by unfold mkc; first | rw [if_neg c13] | rw [if_pos c13, if_neg c28] | rw [if_pos c13, if_pos c28, if_pos c42] | rw [if_pos c13, if_pos c28, if_neg c42]))) ?_
        exact hj_50 ls (lv_sub hl [0, 1] rfl)
    · skip
      refine lv_aload_n hx hb dX5_make_16 rfl (lv_at hl 0 rfl) ?_
      refine va_get (D := D) (ci := 4) (v := .int (nI (ndN bd sd))) (C := RX5) (T := TX5) (N := 7) hx hb hG wu_X5 hown hK hP 0 rfl rfl 0 (by decide) (hG _ wf_X5_22) (fun _ h9 => h9) rfl dX5_make_17 ?_
      refine lv_goto (tgt := 50) hx hb dX5_make_20 (by decide) ?_
      refine W.top (y := .int (nI (mkc bd sd rt ps n x))) (congrArg Value.int (congrArg nI (by unfold mkc; first | rw [if_neg c13] | rw [if_pos c13, if_neg c28] | rw [if_pos c13, if_pos c28, if_pos c42] | rw [if_pos c13, if_pos c28, if_neg c42]))) ?_
      exact hj_50 ls (lv_sub hl [0, 1] rfl)
theorem dX5_pinned_0 : decode cX5_pinned 0 = .ok (.aload_n 0, 1) := by decide +kernel
theorem dX5_pinned_1 : decode cX5_pinned 1 = .ok (.aload_n 0, 1) := by decide +kernel
theorem dX5_pinned_2 : decode cX5_pinned 2 = .ok (.invokevirtual 67, 3) := by decide +kernel
theorem dX5_pinned_5 : decode cX5_pinned 5 = .ok (.ifCond .eq 7, 3) := by decide +kernel
theorem dX5_pinned_8 : decode cX5_pinned 8 = .ok (.iconst 0, 1) := by decide +kernel
theorem dX5_pinned_9 : decode cX5_pinned 9 = .ok (.goto 4, 3) := by decide +kernel
theorem dX5_pinned_12 : decode cX5_pinned 12 = .ok (.iconst 1, 1) := by decide +kernel
theorem dX5_pinned_13 : decode cX5_pinned 13 = .ok (.putfield 22, 3) := by decide +kernel
theorem dX5_pinned_16 : decode cX5_pinned 16 = .ok (.lconst 0, 1) := by decide +kernel
theorem dX5_pinned_17 : decode cX5_pinned 17 = .ok (.lstore_n 1, 1) := by decide +kernel
theorem dX5_pinned_18 : decode cX5_pinned 18 = .ok (.aload_n 0, 1) := by decide +kernel
theorem dX5_pinned_19 : decode cX5_pinned 19 = .ok (.getfield 7, 3) := by decide +kernel
theorem dX5_pinned_22 : decode cX5_pinned 22 = .ok (.bipush 64, 2) := by decide +kernel
theorem dX5_pinned_24 : decode cX5_pinned 24 = .ok (.iaload, 1) := by decide +kernel
theorem dX5_pinned_25 : decode cX5_pinned 25 = .ok (.istore_n 3, 1) := by decide +kernel
theorem dX5_pinned_26 : decode cX5_pinned 26 = .ok (.iconst 0, 1) := by decide +kernel
theorem dX5_pinned_27 : decode cX5_pinned 27 = .ok (.istore 4, 2) := by decide +kernel
theorem dX5_pinned_29 : decode cX5_pinned 29 = .ok (.iload 4, 2) := by decide +kernel
theorem dX5_pinned_31 : decode cX5_pinned 31 = .ok (.bipush 64, 2) := by decide +kernel
theorem dX5_pinned_33 : decode cX5_pinned 33 = .ok (.if_icmp .ge 193, 3) := by decide +kernel
theorem dX5_pinned_36 : decode cX5_pinned 36 = .ok (.aload_n 0, 1) := by decide +kernel
theorem dX5_pinned_37 : decode cX5_pinned 37 = .ok (.getfield 22, 3) := by decide +kernel
theorem dX5_pinned_40 : decode cX5_pinned 40 = .ok (.ifCond .ne 186, 3) := by decide +kernel
theorem dX5_pinned_43 : decode cX5_pinned 43 = .ok (.aload_n 0, 1) := by decide +kernel
theorem dX5_pinned_44 : decode cX5_pinned 44 = .ok (.getfield 7, 3) := by decide +kernel
theorem dX5_pinned_47 : decode cX5_pinned 47 = .ok (.iload 4, 2) := by decide +kernel
theorem dX5_pinned_49 : decode cX5_pinned 49 = .ok (.iaload, 1) := by decide +kernel
theorem dX5_pinned_50 : decode cX5_pinned 50 = .ok (.istore 5, 2) := by decide +kernel
theorem dX5_pinned_52 : decode cX5_pinned 52 = .ok (.iload 5, 2) := by decide +kernel
theorem dX5_pinned_54 : decode cX5_pinned 54 = .ok (.invokestatic 51, 3) := by decide +kernel
theorem dX5_pinned_57 : decode cX5_pinned 57 = .ok (.iload_n 3, 1) := by decide +kernel
theorem dX5_pinned_58 : decode cX5_pinned 58 = .ok (.if_icmp .ne 162, 3) := by decide +kernel
theorem dX5_pinned_61 : decode cX5_pinned 61 = .ok (.iload 5, 2) := by decide +kernel
theorem dX5_pinned_63 : decode cX5_pinned 63 = .ok (.invokestatic 40, 3) := by decide +kernel
theorem dX5_pinned_66 : decode cX5_pinned 66 = .ok (.bipush 6, 2) := by decide +kernel
theorem dX5_pinned_68 : decode cX5_pinned 68 = .ok (.if_icmp .eq 152, 3) := by decide +kernel
theorem dX5_pinned_71 : decode cX5_pinned 71 = .ok (.iconst 0, 1) := by decide +kernel
theorem dX5_pinned_72 : decode cX5_pinned 72 = .ok (.istore 6, 2) := by decide +kernel
theorem dX5_pinned_74 : decode cX5_pinned 74 = .ok (.iconst 0, 1) := by decide +kernel
theorem dX5_pinned_75 : decode cX5_pinned 75 = .ok (.istore 7, 2) := by decide +kernel
theorem dX5_pinned_77 : decode cX5_pinned 77 = .ok (.iload 7, 2) := by decide +kernel
theorem dX5_pinned_79 : decode cX5_pinned 79 = .ok (.bipush 64, 2) := by decide +kernel
theorem dX5_pinned_81 : decode cX5_pinned 81 = .ok (.if_icmp .ge 123, 3) := by decide +kernel
theorem dX5_pinned_84 : decode cX5_pinned 84 = .ok (.aload_n 0, 1) := by decide +kernel
theorem dX5_pinned_85 : decode cX5_pinned 85 = .ok (.getfield 7, 3) := by decide +kernel
theorem dX5_pinned_88 : decode cX5_pinned 88 = .ok (.iload 7, 2) := by decide +kernel
theorem dX5_pinned_90 : decode cX5_pinned 90 = .ok (.iaload, 1) := by decide +kernel
theorem dX5_pinned_91 : decode cX5_pinned 91 = .ok (.invokestatic 40, 3) := by decide +kernel
theorem dX5_pinned_94 : decode cX5_pinned 94 = .ok (.istore 8, 2) := by decide +kernel
theorem dX5_pinned_96 : decode cX5_pinned 96 = .ok (.aload_n 0, 1) := by decide +kernel
theorem dX5_pinned_97 : decode cX5_pinned 97 = .ok (.getfield 7, 3) := by decide +kernel
theorem dX5_pinned_100 : decode cX5_pinned 100 = .ok (.iload 7, 2) := by decide +kernel
theorem dX5_pinned_102 : decode cX5_pinned 102 = .ok (.iaload, 1) := by decide +kernel
theorem dX5_pinned_103 : decode cX5_pinned 103 = .ok (.invokestatic 51, 3) := by decide +kernel
theorem dX5_pinned_106 : decode cX5_pinned 106 = .ok (.iconst 1, 1) := by decide +kernel
theorem dX5_pinned_107 : decode cX5_pinned 107 = .ok (.iload_n 3, 1) := by decide +kernel
theorem dX5_pinned_108 : decode cX5_pinned 108 = .ok (.isub, 1) := by decide +kernel
theorem dX5_pinned_109 : decode cX5_pinned 109 = .ok (.if_icmp .ne 20, 3) := by decide +kernel
theorem dX5_pinned_112 : decode cX5_pinned 112 = .ok (.iload 8, 2) := by decide +kernel
theorem dX5_pinned_114 : decode cX5_pinned 114 = .ok (.iconst 2, 1) := by decide +kernel
theorem dX5_pinned_115 : decode cX5_pinned 115 = .ok (.if_icmp .le 14, 3) := by decide +kernel
theorem dX5_pinned_118 : decode cX5_pinned 118 = .ok (.iload 8, 2) := by decide +kernel
theorem dX5_pinned_120 : decode cX5_pinned 120 = .ok (.bipush 6, 2) := by decide +kernel
theorem dX5_pinned_122 : decode cX5_pinned 122 = .ok (.if_icmp .ge 7, 3) := by decide +kernel
theorem dX5_pinned_125 : decode cX5_pinned 125 = .ok (.iconst 1, 1) := by decide +kernel
theorem dX5_pinned_126 : decode cX5_pinned 126 = .ok (.goto 4, 3) := by decide +kernel
theorem dX5_pinned_129 : decode cX5_pinned 129 = .ok (.iconst 0, 1) := by decide +kernel
theorem dX5_pinned_130 : decode cX5_pinned 130 = .ok (.istore 9, 2) := by decide +kernel
theorem dX5_pinned_132 : decode cX5_pinned 132 = .ok (.iload 9, 2) := by decide +kernel
theorem dX5_pinned_134 : decode cX5_pinned 134 = .ok (.ifCond .eq 64, 3) := by decide +kernel
theorem dX5_pinned_137 : decode cX5_pinned 137 = .ok (.aload_n 0, 1) := by decide +kernel
theorem dX5_pinned_138 : decode cX5_pinned 138 = .ok (.iconst 0, 1) := by decide +kernel
theorem dX5_pinned_139 : decode cX5_pinned 139 = .ok (.iload 7, 2) := by decide +kernel
theorem dX5_pinned_141 : decode cX5_pinned 141 = .ok (.aload_n 0, 1) := by decide +kernel
theorem dX5_pinned_142 : decode cX5_pinned 142 = .ok (.iconst 0, 1) := by decide +kernel
theorem dX5_pinned_143 : decode cX5_pinned 143 = .ok (.iload_n 3, 1) := by decide +kernel
theorem dX5_pinned_144 : decode cX5_pinned 144 = .ok (.invokevirtual 57, 3) := by decide +kernel
theorem dX5_pinned_147 : decode cX5_pinned 147 = .ok (.invokevirtual 54, 3) := by decide +kernel
theorem dX5_pinned_150 : decode cX5_pinned 150 = .ok (.ifCond .ne 48, 3) := by decide +kernel
theorem dX5_pinned_153 : decode cX5_pinned 153 = .ok (.aload_n 0, 1) := by decide +kernel
theorem dX5_pinned_154 : decode cX5_pinned 154 = .ok (.getfield 7, 3) := by decide +kernel
theorem dX5_pinned_157 : decode cX5_pinned 157 = .ok (.iload 4, 2) := by decide +kernel
theorem dX5_pinned_159 : decode cX5_pinned 159 = .ok (.iconst 0, 1) := by decide +kernel
theorem dX5_pinned_160 : decode cX5_pinned 160 = .ok (.iastore, 1) := by decide +kernel
theorem dX5_pinned_161 : decode cX5_pinned 161 = .ok (.iload 6, 2) := by decide +kernel
theorem dX5_pinned_163 : decode cX5_pinned 163 = .ok (.ifCond .ne 19, 3) := by decide +kernel
theorem dX5_pinned_166 : decode cX5_pinned 166 = .ok (.aload_n 0, 1) := by decide +kernel
theorem dX5_pinned_167 : decode cX5_pinned 167 = .ok (.iconst 0, 1) := by decide +kernel
theorem dX5_pinned_168 : decode cX5_pinned 168 = .ok (.iload 7, 2) := by decide +kernel
theorem dX5_pinned_170 : decode cX5_pinned 170 = .ok (.aload_n 0, 1) := by decide +kernel
theorem dX5_pinned_171 : decode cX5_pinned 171 = .ok (.iconst 0, 1) := by decide +kernel
theorem dX5_pinned_172 : decode cX5_pinned 172 = .ok (.iload_n 3, 1) := by decide +kernel
theorem dX5_pinned_173 : decode cX5_pinned 173 = .ok (.invokevirtual 57, 3) := by decide +kernel
theorem dX5_pinned_176 : decode cX5_pinned 176 = .ok (.invokevirtual 54, 3) := by decide +kernel
theorem dX5_pinned_179 : decode cX5_pinned 179 = .ok (.ifCond .eq 7, 3) := by decide +kernel
theorem dX5_pinned_182 : decode cX5_pinned 182 = .ok (.iconst 1, 1) := by decide +kernel
theorem dX5_pinned_183 : decode cX5_pinned 183 = .ok (.goto 4, 3) := by decide +kernel
theorem dX5_pinned_186 : decode cX5_pinned 186 = .ok (.iconst 0, 1) := by decide +kernel
theorem dX5_pinned_187 : decode cX5_pinned 187 = .ok (.istore 6, 2) := by decide +kernel
theorem dX5_pinned_189 : decode cX5_pinned 189 = .ok (.aload_n 0, 1) := by decide +kernel
theorem dX5_pinned_190 : decode cX5_pinned 190 = .ok (.getfield 7, 3) := by decide +kernel
theorem dX5_pinned_193 : decode cX5_pinned 193 = .ok (.iload 4, 2) := by decide +kernel
theorem dX5_pinned_195 : decode cX5_pinned 195 = .ok (.iload 5, 2) := by decide +kernel
theorem dX5_pinned_197 : decode cX5_pinned 197 = .ok (.iastore, 1) := by decide +kernel
theorem dX5_pinned_198 : decode cX5_pinned 198 = .ok (.iinc 7 1, 3) := by decide +kernel
theorem dX5_pinned_201 : decode cX5_pinned 201 = .ok (.goto (-124), 3) := by decide +kernel
theorem dX5_pinned_204 : decode cX5_pinned 204 = .ok (.iload 6, 2) := by decide +kernel
theorem dX5_pinned_206 : decode cX5_pinned 206 = .ok (.ifCond .eq 12, 3) := by decide +kernel
theorem dX5_pinned_209 : decode cX5_pinned 209 = .ok (.lload_n 1, 1) := by decide +kernel
theorem dX5_pinned_210 : decode cX5_pinned 210 = .ok (.lconst 1, 1) := by decide +kernel
theorem dX5_pinned_211 : decode cX5_pinned 211 = .ok (.iload 4, 2) := by decide +kernel
theorem dX5_pinned_213 : decode cX5_pinned 213 = .ok (.lshl, 1) := by decide +kernel
theorem dX5_pinned_214 : decode cX5_pinned 214 = .ok (.lor, 1) := by decide +kernel
theorem dX5_pinned_215 : decode cX5_pinned 215 = .ok (.goto 4, 3) := by decide +kernel
theorem dX5_pinned_218 : decode cX5_pinned 218 = .ok (.lload_n 1, 1) := by decide +kernel
theorem dX5_pinned_219 : decode cX5_pinned 219 = .ok (.lstore_n 1, 1) := by decide +kernel
theorem dX5_pinned_220 : decode cX5_pinned 220 = .ok (.iinc 4 1, 3) := by decide +kernel
theorem dX5_pinned_223 : decode cX5_pinned 223 = .ok (.goto (-194), 3) := by decide +kernel
theorem dX5_pinned_226 : decode cX5_pinned 226 = .ok (.lload_n 1, 1) := by decide +kernel
theorem dX5_pinned_227 : decode cX5_pinned 227 = .ok (.lreturn, 1) := by decide +kernel
theorem hd_X5_pinned : yX5_pinned.cls ≠ "java/lang/invoke/MethodHandle" ∧ yX5_pinned.cls ≠ "java/lang/invoke/VarHandle" ∧ (parseMethodDescriptor yX5_pinned.desc).map (fun d => d.parameters.length) = some 0 := by decide +kernel
set_option maxHeartbeats 4000000 in
set_option maxRecDepth 100000 in
/-- pinned -/
theorem c_X5_pinned (l : Launch) {D : va_G} {cI cJ : ClassId} {A : Nat → Prop} {hm b0 b1 b2 b3 : Nat} {th mk sz : Int32} {F mv kp li : Nat → Int32} (bd : Nat → Nat) (sd rt ps : Nat) (hBd : Bd F 0 bd sd rt ps) : Met l yX5_pinned (Cond.code yX5_pinned cX5_pinned 10 (some .long) :: wsL_law) (rK 5) (va_Pc [.ref hm] (IW D cI cJ A (rW cI hm b0 b1 b2 b3 th mk sz F mv kp li))) (va_Ql (fun r _ => ndN bd sd = 0 → r = pnN bd sd 64) (fun (u : Unit) t => IW D cI cJ A (rW cI hm b0 b1 b2 b3 (nI (ndN bd sd)) mk sz F mv kp li) t) A) 0 0 A := by
  refine entM (by decide) (Nat.le_of_ble_eq_true rfl) ?_
  intro p e s m below meth c ls S0 hr hlocks hG hnm hB hl
  have hx := S0.1
  have hb := S0.2.1
  have hown := S0.2.2.2.1
  have hl : lv_has ls 10 [(0, .ref hm)] := hl
  obtain ⟨hP, hD, hK, hA, hE⟩ := hB
  have hS : va_S A s.heap s.heap [] := va_S.rf
  obtain ⟨hBp, hsd, hs2, hrt, hr16, hps, hp65⟩ := id hBd
  have hnd : ndN bd sd < 2 := by unfold ndN; split <;> omega
  have hat : ∀ q, q < 64 → F q = nI (bd q) ∧ bd q < 13 := fun q hq => by have := hBp q hq; rwa [Nat.zero_add] at this
  refine lv_aload_n hx hb dX5_pinned_0 rfl (lv_at hl 0 rfl) ?_
  refine lv_aload_n hx hb dX5_pinned_1 rfl (lv_at hl 0 rfl) ?_
  refine roI (rnV (As := []) (rest := [.ref hm]) S0 (c_X5_isPlayable l bd sd rt ps hBd) wm_X5_67 wi_X5_isPlayable ws_X5_isPlayable wn_X5 wc_X5_isPlayable hd_X5_isPlayable ⟨rfl, rfl, by decide, by decide⟩ IW.blind (va_recv hK hP (ci := 4) (q0 := 0) rfl rfl) (IW.at hP hD hK hA hE hS) hl.1 (Nat.le_of_ble_eq_true rfl) dX5_pinned_2 rfl ⟨by decide, by decide⟩) (fun r_1 hr_1 => ?_)
  subst hr_1
  refine jnG 13 10 [(0, .ref hm)] [.int (nI (ndN bd sd)), .ref hm] ?_ (fun hj_13 => ?_)
  · intro ls hl
    refine va_put (D := D) (ci := 4) (v := .int (nI (ndN bd sd))) (ty := .int) (C := RX5) (T := TX5) (N := 7) hx hb hG wu_X5 tyX5 tyX5_ok nmX5 hown hK hP hD hS 0 rfl rfl 0 (by decide) (hG _ wf_X5_22) (fun _ h9 => h9) rfl (by decide +kernel) rfl rfl (Nat.le_of_ble_eq_true rfl) dX5_pinned_13 (fun H locs hP hD hS => ?_)
    have hP : va_P D classes (rW cI hm b0 b1 b2 b3 (nI (ndN bd sd)) mk sz F mv kp li) H := hP
    have hD : va_D A (rW cI hm b0 b1 b2 b3 (nI (ndN bd sd)) mk sz F mv kp li) := hD
    refine lv_lconst (v := 0) hx hb dX5_pinned_16 (by decide) ?_
    refine W.top (y := .long (pnN bd sd 0)) (congrArg Value.long rfl) ?_
    refine lv_lstore_n (lv' := [(1, .long (pnN bd sd 0)), (0, .ref hm)]) hx hb dX5_pinned_17 rfl hl (by decide) rfl (fun ls hl => ?_)
    refine lv_aload_n hx hb dX5_pinned_18 rfl (lv_at hl 1 rfl) ?_
    refine va_get (D := D) (ci := 4) (v := .ref b0) (C := RX5) (T := TX5) (N := 7) hx hb hG wu_X5 hown hK hP 0 rfl rfl 1 (by decide) (hG _ wf_X5_7) (fun _ h9 => h9) rfl dX5_pinned_19 ?_
    refine lv_bipush (v := (nI 64)) hx hb dX5_pinned_22 (by decide) ?_
    refine va_iald hx hb hK hP 1 0 rfl rfl (vp_in_nI (by decide) (by decide)) dX5_pinned_24 ?_
    refine W.top (y := .int (F 64)) (congrArg (fun z => Value.int (F z)) (nI_clamp (by decide))) ?_
    refine W.top (y := .int (nI sd)) (congrArg Value.int hsd) ?_
    refine lv_istore_n (lv' := [(3, .int (nI sd)), (1, .long (pnN bd sd 0)), (0, .ref hm)]) hx hb dX5_pinned_25 rfl hl (by decide) rfl (fun ls hl => ?_)
    refine lv_iconst (v := (nI 0)) hx hb dX5_pinned_26 (by decide) ?_
    refine lv_istore (lv' := [(4, .int (nI 0)), (3, .int (nI sd)), (1, .long (pnN bd sd 0)), (0, .ref hm)]) hx hb dX5_pinned_27 hl (by decide) rfl (fun ls hl => ?_)
    refine lpW (σ := (Nat)) 29 10 [] (fun x9 => [(0, .ref hm), (1, .long (pnN bd sd x9)), (3, .int (nI sd)), (4, .int (nI x9))]) (fun x9 => rW cI hm b0 b1 b2 b3 (nI (ndN bd sd)) mk sz F mv kp li) (fun x9 => x9 ≤ 64) (fun x9 => 64 - x9) 0 (Nat.zero_le _) (lv_sub hl [3, 2, 1, 0] rfl) hP hD hS ?_
    clear hP hD hS hl ls
    rintro i H locs hI hP hD hS ih_29 ls hl
    try dsimp only at hI ih_29 hl hP hD
    refine lv_iload hx hb dX5_pinned_29 (lv_at hl 3 rfl) ?_
    refine lv_bipush (v := (nI 64)) hx hb dX5_pinned_31 (by decide) ?_
    refine ln_icmp_ge (tgt := 226) hx hb dX5_pinned_33 (by decide) (by omega) (by decide) (fun c33 => ?_) (fun c33 => ?_)
    · skip
      refine lv_lload_n hx hb dX5_pinned_226 rfl (lv_at hl 1 rfl) ?_
      exact weL (()) hx hb hr hlocks dX5_pinned_227 (fun z => by first | exact absurd z c40 | rw [show i = 64 by omega]) hP hD hK hA hE hS
    · skip
      have hi : i < 64 := by omega
      obtain ⟨hvi, hbi⟩ := hat i hi
      have hki := kd_lt hbi
      refine lv_aload_n hx hb dX5_pinned_36 rfl (lv_at hl 0 rfl) ?_
      refine va_get (D := D) (ci := 4) (v := .int (nI (ndN bd sd))) (C := RX5) (T := TX5) (N := 7) hx hb hG wu_X5 hown hK hP 0 rfl rfl 0 (by decide) (hG _ wf_X5_22) (fun _ h9 => h9) rfl dX5_pinned_37 ?_
      refine ln_if_ne (tgt := 226) hx hb dX5_pinned_40 (by decide) (by omega) (fun c40 => ?_) (fun c40 => ?_)
      · skip
        refine lv_lload_n hx hb dX5_pinned_226 rfl (lv_at hl 1 rfl) ?_
        exact weL (()) hx hb hr hlocks dX5_pinned_227 (fun z => by first | exact absurd z c40 | rw [show i = 64 by omega]) hP hD hK hA hE hS
      · skip
        have hpl := ndN_0.mp c40
        have hkg := plb_k hs2 hpl
        refine lv_aload_n hx hb dX5_pinned_43 rfl (lv_at hl 0 rfl) ?_
        refine va_get (D := D) (ci := 4) (v := .ref b0) (C := RX5) (T := TX5) (N := 7) hx hb hG wu_X5 hown hK hP 0 rfl rfl 1 (by decide) (hG _ wf_X5_7) (fun _ h9 => h9) rfl dX5_pinned_44 ?_
        refine lv_iload hx hb dX5_pinned_47 (lv_at hl 3 rfl) ?_
        refine va_iald hx hb hK hP 1 0 rfl rfl (vp_in_nI (by omega) (by decide)) dX5_pinned_49 ?_
        refine W.top (y := .int (F i)) (congrArg (fun z => Value.int (F z)) (nI_clamp (by omega))) ?_
        refine W.top (y := .int (nI (bd i))) (congrArg Value.int hvi) ?_
        refine lv_istore (lv' := [(5, .int (nI (bd i))), (0, .ref hm), (1, .long (pnN bd sd i)), (3, .int (nI sd)), (4, .int (nI i))]) hx hb dX5_pinned_50 hl (by decide) rfl (fun ls hl => ?_)
        refine lv_iload hx hb dX5_pinned_52 (lv_at hl 0 rfl) ?_
        refine roI (rnS (As := [.int (nI (bd i))]) (rest := []) S0 (c_X5_sideOf l (bd i) (by omega)) wm_X5_51 wt_X5_sideOf wn_X5 wc_X5_sideOf hd_X5_sideOf ⟨rfl, rfl, by decide, by decide⟩ True.blind (fun _ _ _ => trivial) hl.1 (Nat.le_of_ble_eq_true rfl) dX5_pinned_54 rfl ⟨by decide, by decide⟩) (fun r_2 hr_2 => ?_)
        subst hr_2
        refine lv_iload_n hx hb dX5_pinned_57 rfl (lv_at hl 3 rfl) ?_
        refine jnW (σ := (Unit)) (D := D) (A := A) (H0 := s.heap) 220 10 (fun x9 => [(0, .ref hm), (1, .long (pnN bd sd (i + 1))), (3, .int (nI sd)), (4, .int (nI i))]) [] (fun x9 => rW cI hm b0 b1 b2 b3 (nI (ndN bd sd)) mk sz F mv kp li) (fun x9 => True) ?_ (fun hj_220 => ?_)
        · clear hP hD hS hl ls
          rintro z H locs hI hP hD hS ls hl
          try dsimp only at hI hP hD hl
          refine lv_iinc (v := (nI (i + 1))) (lv' := [(4, .int (nI (i + 1))), (0, .ref hm), (1, .long (pnN bd sd (i + 1))), (3, .int (nI sd))]) hx hb dX5_pinned_220 hl (k := 3) rfl (show nI i + Int32.ofInt 1 = nI (i + 1) from nI_add _ 1) (by decide) rfl (fun ls hl => ?_)
          refine lv_goto (tgt := 29) hx hb dX5_pinned_223 (by decide) ?_
          exact ih_29 (i + 1) _ _ (by omega) (by (try dsimp only); omega) hP hD hS ls (lv_sub hl [1, 2, 3, 0] rfl)
        · skip
          refine lv_icmp_ne (tgt := 220) hx hb dX5_pinned_58 (by decide) (fun c58 => ?_) (fun c58 => ?_)
          · skip
            rw [sdI_eq hs2] at c58
            have hpe : pnN bd sd i = pnN bd sd (i + 1) := pnN_no (by unfold pnq; rw [decide_eq_false c58]; rfl)
            rw [hpe] at hl
            exact hj_220 () _ _ trivial hP hD hS ls (lv_sub hl [1, 2, 3, 4] rfl)
          · skip
            rw [sdI_eq hs2] at c58
            refine lv_iload hx hb dX5_pinned_61 (lv_at hl 0 rfl) ?_
            refine roI (rnS (As := [.int (nI (bd i))]) (rest := []) S0 (c_X5_kindOf l (bd i) (by omega)) wm_X5_40 wt_X5_kindOf wn_X5 wc_X5_kindOf hd_X5_kindOf ⟨rfl, rfl, by decide, by decide⟩ True.blind (fun _ _ _ => trivial) hl.1 (Nat.le_of_ble_eq_true rfl) dX5_pinned_63 rfl ⟨by decide, by decide⟩) (fun r_3 hr_3 => ?_)
            subst hr_3
            refine lv_bipush (v := (nI 6)) hx hb dX5_pinned_66 (by decide) ?_
            refine ln_icmp_eq (tgt := 220) hx hb dX5_pinned_68 (by decide) (by omega) (by decide) (fun c68 => ?_) (fun c68 => ?_)
            · skip
              have hpe : pnN bd sd i = pnN bd sd (i + 1) := pnN_no (by unfold pnq; rw [decide_eq_true c58, decide_eq_true c68]; rfl)
              rw [hpe] at hl
              exact hj_220 () _ _ trivial hP hD hS ls (lv_sub hl [1, 2, 3, 4] rfl)
            · skip
              refine lv_iconst (v := (nI 0)) hx hb dX5_pinned_71 (by decide) ?_
              refine W.top (y := .int (bI (mor bd sd i 0))) (congrArg Value.int rfl) ?_
              refine lv_istore (lv' := [(6, .int (bI (mor bd sd i 0))), (5, .int (nI (bd i))), (0, .ref hm), (1, .long (pnN bd sd i)), (3, .int (nI sd)), (4, .int (nI i))]) hx hb dX5_pinned_72 hl (by decide) rfl (fun ls hl => ?_)
              refine lv_iconst (v := (nI 0)) hx hb dX5_pinned_74 (by decide) ?_
              refine lv_istore (lv' := [(7, .int (nI 0)), (6, .int (bI (mor bd sd i 0))), (5, .int (nI (bd i))), (0, .ref hm), (1, .long (pnN bd sd i)), (3, .int (nI sd)), (4, .int (nI i))]) hx hb dX5_pinned_75 hl (by decide) rfl (fun ls hl => ?_)
              refine lpW (σ := (Nat)) 77 10 [] (fun x9 => [(0, .ref hm), (1, .long (pnN bd sd i)), (3, .int (nI sd)), (4, .int (nI i)), (5, .int (nI (bd i))), (6, .int (bI (mor bd sd i x9))), (7, .int (nI x9))]) (fun x9 => rW cI hm b0 b1 b2 b3 (nI (ndN bd sd)) mk sz F mv kp li) (fun x9 => x9 ≤ 64) (fun x9 => 64 - x9) 0 (Nat.zero_le _) (lv_sub hl [3, 4, 5, 6, 2, 1, 0] rfl) hP hD hS ?_
              clear hP hD hS hl ls
              rintro t H locs hI hP hD hS ih_77 ls hl
              try dsimp only at hI ih_77 hl hP hD
              refine lv_iload hx hb dX5_pinned_77 (lv_at hl 6 rfl) ?_
              refine lv_bipush (v := (nI 64)) hx hb dX5_pinned_79 (by decide) ?_
              refine ln_icmp_ge (tgt := 204) hx hb dX5_pinned_81 (by decide) (by omega) (by decide) (fun c81 => ?_) (fun c81 => ?_)
              · skip
                have ht64 : t = 64 := by omega
                refine lv_iload hx hb dX5_pinned_204 (lv_at hl 5 rfl) ?_
                refine jnG 219 10 [(0, .ref hm), (1, .long (pnN bd sd i)), (3, .int (nI sd)), (4, .int (nI i)), (5, .int (nI (bd i))), (6, .int (bI (mor bd sd i t))), (7, .int (nI t))] [.long (pnN bd sd (i + 1))] ?_ (fun hj_219 => ?_)
                · intro ls hl
                  refine lv_lstore_n (lv' := [(1, .long (pnN bd sd (i + 1))), (0, .ref hm), (3, .int (nI sd)), (4, .int (nI i)), (5, .int (nI (bd i))), (6, .int (bI (mor bd sd i t))), (7, .int (nI t))]) hx hb dX5_pinned_219 rfl hl (by decide) rfl (fun ls hl => ?_)
                  exact hj_220 () _ _ trivial hP hD hS ls (lv_sub hl [1, 0, 2, 3] rfl)
                · skip
                  refine lb_if_eq (tgt := 218) hx hb dX5_pinned_206 (by decide) (fun c206 => ?_) (fun c206 => ?_)
                  · skip
                    rw [ht64] at c206
                    refine lv_lload_n hx hb dX5_pinned_218 rfl (lv_at hl 1 rfl) ?_
                    refine W.top (y := .long (pnN bd sd (i + 1))) (congrArg Value.long (by first | exact pnN_yes (by unfold pnq; rw [decide_eq_true c58, decide_eq_false c68, c206]; rfl) | exact pnN_no (by unfold pnq; rw [decide_eq_true c58, decide_eq_false c68, c206]; rfl))) ?_
                    exact hj_219 ls (lv_sub hl [0, 1, 2, 3, 4, 5, 6] rfl)
                  · skip
                    rw [ht64] at c206
                    refine lv_lload_n hx hb dX5_pinned_209 rfl (lv_at hl 1 rfl) ?_
                    refine lv_lconst (v := 1) hx hb dX5_pinned_210 (by decide) ?_
                    refine lv_iload hx hb dX5_pinned_211 (lv_at hl 3 rfl) ?_
                    refine lv_lshl (v := bsl 1 (nI i)) hx hb dX5_pinned_213 rfl ?_
                    refine lv_lor hx hb dX5_pinned_214 ?_
                    refine lv_goto (tgt := 219) hx hb dX5_pinned_215 (by decide) ?_
                    refine W.top (y := .long (pnN bd sd (i + 1))) (congrArg Value.long (by first | exact pnN_yes (by unfold pnq; rw [decide_eq_true c58, decide_eq_false c68, c206]; rfl) | exact pnN_no (by unfold pnq; rw [decide_eq_true c58, decide_eq_false c68, c206]; rfl))) ?_
                    exact hj_219 ls (lv_sub hl [0, 1, 2, 3, 4, 5, 6] rfl)
              · skip
                have ht : t < 64 := by omega
                obtain ⟨hvt, hbt⟩ := hat t ht
                have hkt := kd_lt hbt
                refine lv_aload_n hx hb dX5_pinned_84 rfl (lv_at hl 0 rfl) ?_
                refine va_get (D := D) (ci := 4) (v := .ref b0) (C := RX5) (T := TX5) (N := 7) hx hb hG wu_X5 hown hK hP 0 rfl rfl 1 (by decide) (hG _ wf_X5_7) (fun _ h9 => h9) rfl dX5_pinned_85 ?_
                refine lv_iload hx hb dX5_pinned_88 (lv_at hl 6 rfl) ?_
                refine va_iald hx hb hK hP 1 0 rfl rfl (vp_in_nI (by omega) (by decide)) dX5_pinned_90 ?_
                refine W.top (y := .int (F t)) (congrArg (fun z => Value.int (F z)) (nI_clamp (by omega))) ?_
                refine W.top (y := .int (nI (bd t))) (congrArg Value.int hvt) ?_
                refine roI (rnS (As := [.int (nI (bd t))]) (rest := []) S0 (c_X5_kindOf l (bd t) (by omega)) wm_X5_40 wt_X5_kindOf wn_X5 wc_X5_kindOf hd_X5_kindOf ⟨rfl, rfl, by decide, by decide⟩ True.blind (fun _ _ _ => trivial) hl.1 (Nat.le_of_ble_eq_true rfl) dX5_pinned_91 rfl ⟨by decide, by decide⟩) (fun r_4 hr_4 => ?_)
                subst hr_4
                refine lv_istore (lv' := [(8, .int (nI (kd (bd t)))), (0, .ref hm), (1, .long (pnN bd sd i)), (3, .int (nI sd)), (4, .int (nI i)), (5, .int (nI (bd i))), (6, .int (bI (mor bd sd i t))), (7, .int (nI t))]) hx hb dX5_pinned_94 hl (by decide) rfl (fun ls hl => ?_)
                refine lv_aload_n hx hb dX5_pinned_96 rfl (lv_at hl 1 rfl) ?_
                refine va_get (D := D) (ci := 4) (v := .ref b0) (C := RX5) (T := TX5) (N := 7) hx hb hG wu_X5 hown hK hP 0 rfl rfl 1 (by decide) (hG _ wf_X5_7) (fun _ h9 => h9) rfl dX5_pinned_97 ?_
                refine lv_iload hx hb dX5_pinned_100 (lv_at hl 7 rfl) ?_
                refine va_iald hx hb hK hP 1 0 rfl rfl (vp_in_nI (by omega) (by decide)) dX5_pinned_102 ?_
                refine W.top (y := .int (F t)) (congrArg (fun z => Value.int (F z)) (nI_clamp (by omega))) ?_
                refine W.top (y := .int (nI (bd t))) (congrArg Value.int hvt) ?_
                refine roI (rnS (As := [.int (nI (bd t))]) (rest := []) S0 (c_X5_sideOf l (bd t) (by omega)) wm_X5_51 wt_X5_sideOf wn_X5 wc_X5_sideOf hd_X5_sideOf ⟨rfl, rfl, by decide, by decide⟩ True.blind (fun _ _ _ => trivial) hl.1 (Nat.le_of_ble_eq_true rfl) dX5_pinned_103 rfl ⟨by decide, by decide⟩) (fun r_5 hr_5 => ?_)
                subst hr_5
                refine lv_iconst (v := (nI 1)) hx hb dX5_pinned_106 (by decide) ?_
                refine lv_iload_n hx hb dX5_pinned_107 rfl (lv_at hl 3 rfl) ?_
                refine ln_isub hx hb dX5_pinned_108 (by omega) ?_
                refine jnG 130 10 [(8, .int (nI (kd (bd t)))), (0, .ref hm), (1, .long (pnN bd sd i)), (3, .int (nI sd)), (4, .int (nI i)), (5, .int (nI (bd i))), (6, .int (bI (mor bd sd i t))), (7, .int (nI t))] [.int (bI (slq bd sd t))] ?_ (fun hj_130 => ?_)
                · intro ls hl
                  refine lv_istore (lv' := [(9, .int (bI (slq bd sd t))), (8, .int (nI (kd (bd t)))), (0, .ref hm), (1, .long (pnN bd sd i)), (3, .int (nI sd)), (4, .int (nI i)), (5, .int (nI (bd i))), (6, .int (bI (mor bd sd i t))), (7, .int (nI t))]) hx hb dX5_pinned_130 hl (by decide) rfl (fun ls hl => ?_)
                  refine lv_iload hx hb dX5_pinned_132 (lv_at hl 0 rfl) ?_
                  refine jnW (σ := (Unit)) (D := D) (A := A) (H0 := s.heap) 198 10 (fun x9 => [(0, .ref hm), (1, .long (pnN bd sd i)), (3, .int (nI sd)), (4, .int (nI i)), (5, .int (nI (bd i))), (6, .int (bI (mor bd sd i (t + 1)))), (7, .int (nI t))]) [] (fun x9 => rW cI hm b0 b1 b2 b3 (nI (ndN bd sd)) mk sz F mv kp li) (fun x9 => True) ?_ (fun hj_198 => ?_)
                  · clear hP hD hS hl ls
                    rintro z H locs hI hP hD hS ls hl
                    try dsimp only at hI hP hD hl
                    refine lv_iinc (v := (nI (t + 1))) (lv' := [(7, .int (nI (t + 1))), (0, .ref hm), (1, .long (pnN bd sd i)), (3, .int (nI sd)), (4, .int (nI i)), (5, .int (nI (bd i))), (6, .int (bI (mor bd sd i (t + 1))))]) hx hb dX5_pinned_198 hl (k := 6) rfl (show nI t + Int32.ofInt 1 = nI (t + 1) from nI_add _ 1) (by decide) rfl (fun ls hl => ?_)
                    refine lv_goto (tgt := 77) hx hb dX5_pinned_201 (by decide) ?_
                    exact ih_77 (t + 1) _ _ (by omega) (by (try dsimp only); omega) hP hD hS ls (lv_sub hl [1, 2, 3, 4, 5, 6, 0] rfl)
                  · skip
                    refine lb_if_eq (tgt := 198) hx hb dX5_pinned_134 (by decide) (fun c134 => ?_) (fun c134 => ?_)
                    · skip
                      have hms : mor bd sd i t = mor bd sd i (t + 1) := by rw [mor_s]; unfold moq; rw [c134, Bool.false_and, Bool.or_false]
                      rw [hms] at hl
                      exact hj_198 () _ _ trivial hP hD hS ls (lv_sub hl [2, 3, 4, 5, 6, 7, 8] rfl)
                    · skip
                      refine lv_aload_n hx hb dX5_pinned_137 rfl (lv_at hl 2 rfl) ?_
                      refine lv_iconst (v := (nI 0)) hx hb dX5_pinned_138 (by decide) ?_
                      refine lv_iload hx hb dX5_pinned_139 (lv_at hl 8 rfl) ?_
                      refine lv_aload_n hx hb dX5_pinned_141 rfl (lv_at hl 2 rfl) ?_
                      refine lv_iconst (v := (nI 0)) hx hb dX5_pinned_142 (by decide) ?_
                      refine lv_iload_n hx hb dX5_pinned_143 rfl (lv_at hl 4 rfl) ?_
                      refine roI (rnV (As := [.int (nI 0), .int (nI sd)]) (rest := [.int (nI t), .int (nI 0), .ref hm]) S0 (c_X5_kingOf l bd 0 sd (by decide) hs2 hBp) wm_X5_57 wi_X5_kingOf ws_X5_kingOf wn_X5 wc_X5_kingOf hd_X5_kingOf ⟨rfl, rfl, by decide, by decide⟩ IW.blind (va_recv hK hP (ci := 4) (q0 := 0) rfl rfl) (IW.at hP hD hK hA hE hS) hl.1 (Nat.le_of_ble_eq_true rfl) dX5_pinned_144 rfl ⟨by decide, by decide⟩) (fun r_6 hr_6 => ?_)
                      subst hr_6
                      refine W.top (y := .int (nI (kgs bd sd))) (congrArg Value.int (pI_lt hkg)) ?_
                      refine roI (rnV (As := [.int (nI 0), .int (nI t), .int (nI (kgs bd sd))]) (rest := []) S0 (c_X5_attacks l bd 0 t (kgs bd sd) (by decide) ht hkg hBp) wm_X5_54 wi_X5_attacks ws_X5_attacks wn_X5 wc_X5_attacks hd_X5_attacks ⟨rfl, rfl, by decide, by decide⟩ IW.blind (va_recv hK hP (ci := 4) (q0 := 0) rfl rfl) (IW.at hP hD hK hA hE hS) hl.1 (Nat.le_of_ble_eq_true rfl) dX5_pinned_147 rfl ⟨by decide, by decide⟩) (fun r_7 hr_7 => ?_)
                      subst hr_7
                      refine lb_if_ne (tgt := 198) hx hb dX5_pinned_150 (by decide) (fun c150 => ?_) (fun c150 => ?_)
                      · skip
                        have hms : mor bd sd i t = mor bd sd i (t + 1) := by rw [mor_s]; unfold moq; rw [c134, c150]; simp
                        rw [hms] at hl
                        exact hj_198 () _ _ trivial hP hD hS ls (lv_sub hl [2, 3, 4, 5, 6, 7, 8] rfl)
                      · skip
                        refine lv_aload_n hx hb dX5_pinned_153 rfl (lv_at hl 2 rfl) ?_
                        refine va_get (D := D) (ci := 4) (v := .ref b0) (C := RX5) (T := TX5) (N := 7) hx hb hG wu_X5 hown hK hP 0 rfl rfl 1 (by decide) (hG _ wf_X5_7) (fun _ h9 => h9) rfl dX5_pinned_154 ?_
                        refine lv_iload hx hb dX5_pinned_157 (lv_at hl 5 rfl) ?_
                        refine lv_iconst (v := (nI 0)) hx hb dX5_pinned_159 (by decide) ?_
                        refine va_iast hx hb hK hP hD hS 1 0 rfl rfl (vp_in_nI (by omega) (by decide)) dX5_pinned_160 (fun H locs hP hD hS => ?_)
                        rw [nI_clamp (show i < 2 ^ 31 by omega)] at hP hD
                        have hP : va_P D classes (rW cI hm b0 b1 b2 b3 (nI (ndN bd sd)) mk sz (upd F i (nI 0)) mv kp li) H := hP
                        have hD : va_D A (rW cI hm b0 b1 b2 b3 (nI (ndN bd sd)) mk sz (upd F i (nI 0)) mv kp li) := hD
                        have hB2 : Bp (upd F i (nI 0)) 0 (upN bd i 0) := by
                          have := Bp_in hBp hi (show 0 < 13 by decide); rwa [Nat.zero_add] at this
                        refine lv_iload hx hb dX5_pinned_161 (lv_at hl 7 rfl) ?_
                        refine jnG 187 10 [(9, .int (bI (slq bd sd t))), (8, .int (nI (kd (bd t)))), (0, .ref hm), (1, .long (pnN bd sd i)), (3, .int (nI sd)), (4, .int (nI i)), (5, .int (nI (bd i))), (6, .int (bI (mor bd sd i t))), (7, .int (nI t))] [.int (bI (mor bd sd i (t + 1)))] ?_ (fun hj_187 => ?_)
                        · intro ls hl
                          refine lv_istore (lv' := [(6, .int (bI (mor bd sd i (t + 1)))), (9, .int (bI (slq bd sd t))), (8, .int (nI (kd (bd t)))), (0, .ref hm), (1, .long (pnN bd sd i)), (3, .int (nI sd)), (4, .int (nI i)), (5, .int (nI (bd i))), (7, .int (nI t))]) hx hb dX5_pinned_187 hl (by decide) rfl (fun ls hl => ?_)
                          refine lv_aload_n hx hb dX5_pinned_189 rfl (lv_at hl 3 rfl) ?_
                          refine va_get (D := D) (ci := 4) (v := .ref b0) (C := RX5) (T := TX5) (N := 7) hx hb hG wu_X5 hown hK hP 0 rfl rfl 1 (by decide) (hG _ wf_X5_7) (fun _ h9 => h9) rfl dX5_pinned_190 ?_
                          refine lv_iload hx hb dX5_pinned_193 (lv_at hl 6 rfl) ?_
                          refine lv_iload hx hb dX5_pinned_195 (lv_at hl 7 rfl) ?_
                          refine va_iast hx hb hK hP hD hS 1 0 rfl rfl (vp_in_nI (by omega) (by decide)) dX5_pinned_197 (fun H locs hP hD hS => ?_)
                          rw [nI_clamp (show i < 2 ^ 31 by omega)] at hP hD
                          have hP : va_P D classes (rW cI hm b0 b1 b2 b3 (nI (ndN bd sd)) mk sz (upd (upd F i (nI 0)) i (nI (bd i))) mv kp li) H := hP
                          have hD : va_D A (rW cI hm b0 b1 b2 b3 (nI (ndN bd sd)) mk sz (upd (upd F i (nI 0)) i (nI (bd i))) mv kp li) := hD
                          rw [upd_bk hvi] at hP hD
                          have hP : va_P D classes (rW cI hm b0 b1 b2 b3 (nI (ndN bd sd)) mk sz F mv kp li) H := hP
                          have hD : va_D A (rW cI hm b0 b1 b2 b3 (nI (ndN bd sd)) mk sz F mv kp li) := hD
                          exact hj_198 () _ _ trivial hP hD hS ls (lv_sub hl [3, 4, 5, 6, 7, 0, 8] rfl)
                        · skip
                          refine lb_if_ne (tgt := 182) hx hb dX5_pinned_163 (by decide) (fun c163 => ?_) (fun c163 => ?_)
                          · skip
                            refine lv_iconst (v := (nI 1)) hx hb dX5_pinned_182 (by decide) ?_
                            refine lv_goto (tgt := 187) hx hb dX5_pinned_183 (by decide) ?_
                            refine W.top (y := .int (bI (mor bd sd i (t + 1)))) (congrArg Value.int (by rw [mor_s]; unfold moq; first | (rw [c163]; rfl) | (rw [c163, c134, c150, c179]; rfl))) ?_
                            exact hj_187 ls (lv_sub hl [0, 1, 2, 3, 4, 5, 6, 7, 8] rfl)
                          · skip
                            refine lv_aload_n hx hb dX5_pinned_166 rfl (lv_at hl 2 rfl) ?_
                            refine lv_iconst (v := (nI 0)) hx hb dX5_pinned_167 (by decide) ?_
                            refine lv_iload hx hb dX5_pinned_168 (lv_at hl 8 rfl) ?_
                            refine lv_aload_n hx hb dX5_pinned_170 rfl (lv_at hl 2 rfl) ?_
                            refine lv_iconst (v := (nI 0)) hx hb dX5_pinned_171 (by decide) ?_
                            refine lv_iload_n hx hb dX5_pinned_172 rfl (lv_at hl 4 rfl) ?_
                            refine roI (rnV (As := [.int (nI 0), .int (nI sd)]) (rest := [.int (nI t), .int (nI 0), .ref hm]) S0 (c_X5_kingOf l (upN bd i 0) 0 sd (by decide) hs2 hB2) wm_X5_57 wi_X5_kingOf ws_X5_kingOf wn_X5 wc_X5_kingOf hd_X5_kingOf ⟨rfl, rfl, by decide, by decide⟩ IW.blind (va_recv hK hP (ci := 4) (q0 := 0) rfl rfl) (IW.at hP hD hK hA hE hS) hl.1 (Nat.le_of_ble_eq_true rfl) dX5_pinned_173 rfl ⟨by decide, by decide⟩) (fun r_8 hr_8 => ?_)
                            subst hr_8
                            refine W.top (y := .int (nI (kgs bd sd))) (congrArg Value.int (by rw [kgs_up0 hi hs2 c68]; exact pI_lt hkg)) ?_
                            refine roI (rnV (As := [.int (nI 0), .int (nI t), .int (nI (kgs bd sd))]) (rest := []) S0 (c_X5_attacks l (upN bd i 0) 0 t (kgs bd sd) (by decide) ht hkg hB2) wm_X5_54 wi_X5_attacks ws_X5_attacks wn_X5 wc_X5_attacks hd_X5_attacks ⟨rfl, rfl, by decide, by decide⟩ IW.blind (va_recv hK hP (ci := 4) (q0 := 0) rfl rfl) (IW.at hP hD hK hA hE hS) hl.1 (Nat.le_of_ble_eq_true rfl) dX5_pinned_176 rfl ⟨by decide, by decide⟩) (fun r_9 hr_9 => ?_)
                            subst hr_9
                            refine lb_if_eq (tgt := 186) hx hb dX5_pinned_179 (by decide) (fun c179 => ?_) (fun c179 => ?_)
                            · skip
                              refine lv_iconst (v := (nI 0)) hx hb dX5_pinned_186 (by decide) ?_
                              refine W.top (y := .int (bI (mor bd sd i (t + 1)))) (congrArg Value.int (by rw [mor_s]; unfold moq; first | (rw [c163]; rfl) | (rw [c163, c134, c150, c179]; rfl))) ?_
                              exact hj_187 ls (lv_sub hl [0, 1, 2, 3, 4, 5, 6, 7, 8] rfl)
                            · skip
                              refine lv_iconst (v := (nI 1)) hx hb dX5_pinned_182 (by decide) ?_
                              refine lv_goto (tgt := 187) hx hb dX5_pinned_183 (by decide) ?_
                              refine W.top (y := .int (bI (mor bd sd i (t + 1)))) (congrArg Value.int (by rw [mor_s]; unfold moq; first | (rw [c163]; rfl) | (rw [c163, c134, c150, c179]; rfl))) ?_
                              exact hj_187 ls (lv_sub hl [0, 1, 2, 3, 4, 5, 6, 7, 8] rfl)
                · skip
                  refine lv_icmp_ne (tgt := 129) hx hb dX5_pinned_109 (by decide) (fun c109 => ?_) (fun c109 => ?_)
                  · skip
                    rw [sdI_eq (by omega)] at c109
                    refine lv_iconst (v := (nI 0)) hx hb dX5_pinned_129 (by decide) ?_
                    refine W.top (y := .int (bI (slq bd sd t))) (congrArg Value.int (by unfold slq; first | (rw [decide_eq_false c109]; rfl) | (rw [decide_eq_true c109, decide_eq_false (show ¬ 2 < kd (bd t) by omega)]; rfl) | (rw [decide_eq_true c109, decide_eq_true (show 2 < kd (bd t) by omega), decide_eq_false (show ¬ kd (bd t) < 6 by omega)]; rfl) | (rw [decide_eq_true c109, decide_eq_true (show 2 < kd (bd t) by omega), decide_eq_true (show kd (bd t) < 6 by omega)]; rfl))) ?_
                    exact hj_130 ls (lv_sub hl [0, 1, 2, 3, 4, 5, 6, 7] rfl)
                  · skip
                    rw [sdI_eq (by omega)] at c109
                    refine lv_iload hx hb dX5_pinned_112 (lv_at hl 0 rfl) ?_
                    refine lv_iconst (v := (nI 2)) hx hb dX5_pinned_114 (by decide) ?_
                    refine ln_icmp_le (tgt := 129) hx hb dX5_pinned_115 (by decide) (by omega) (by decide) (fun c115 => ?_) (fun c115 => ?_)
                    · skip
                      refine lv_iconst (v := (nI 0)) hx hb dX5_pinned_129 (by decide) ?_
                      refine W.top (y := .int (bI (slq bd sd t))) (congrArg Value.int (by unfold slq; first | (rw [decide_eq_false c109]; rfl) | (rw [decide_eq_true c109, decide_eq_false (show ¬ 2 < kd (bd t) by omega)]; rfl) | (rw [decide_eq_true c109, decide_eq_true (show 2 < kd (bd t) by omega), decide_eq_false (show ¬ kd (bd t) < 6 by omega)]; rfl) | (rw [decide_eq_true c109, decide_eq_true (show 2 < kd (bd t) by omega), decide_eq_true (show kd (bd t) < 6 by omega)]; rfl))) ?_
                      exact hj_130 ls (lv_sub hl [0, 1, 2, 3, 4, 5, 6, 7] rfl)
                    · skip
                      refine lv_iload hx hb dX5_pinned_118 (lv_at hl 0 rfl) ?_
                      refine lv_bipush (v := (nI 6)) hx hb dX5_pinned_120 (by decide) ?_
                      refine ln_icmp_ge (tgt := 129) hx hb dX5_pinned_122 (by decide) (by omega) (by decide) (fun c122 => ?_) (fun c122 => ?_)
                      · skip
                        refine lv_iconst (v := (nI 0)) hx hb dX5_pinned_129 (by decide) ?_
                        refine W.top (y := .int (bI (slq bd sd t))) (congrArg Value.int (by unfold slq; first | (rw [decide_eq_false c109]; rfl) | (rw [decide_eq_true c109, decide_eq_false (show ¬ 2 < kd (bd t) by omega)]; rfl) | (rw [decide_eq_true c109, decide_eq_true (show 2 < kd (bd t) by omega), decide_eq_false (show ¬ kd (bd t) < 6 by omega)]; rfl) | (rw [decide_eq_true c109, decide_eq_true (show 2 < kd (bd t) by omega), decide_eq_true (show kd (bd t) < 6 by omega)]; rfl))) ?_
                        exact hj_130 ls (lv_sub hl [0, 1, 2, 3, 4, 5, 6, 7] rfl)
                      · skip
                        refine lv_iconst (v := (nI 1)) hx hb dX5_pinned_125 (by decide) ?_
                        refine lv_goto (tgt := 130) hx hb dX5_pinned_126 (by decide) ?_
                        refine W.top (y := .int (bI (slq bd sd t))) (congrArg Value.int (by unfold slq; first | (rw [decide_eq_false c109]; rfl) | (rw [decide_eq_true c109, decide_eq_false (show ¬ 2 < kd (bd t) by omega)]; rfl) | (rw [decide_eq_true c109, decide_eq_true (show 2 < kd (bd t) by omega), decide_eq_false (show ¬ kd (bd t) < 6 by omega)]; rfl) | (rw [decide_eq_true c109, decide_eq_true (show 2 < kd (bd t) by omega), decide_eq_true (show kd (bd t) < 6 by omega)]; rfl))) ?_
                        exact hj_130 ls (lv_sub hl [0, 1, 2, 3, 4, 5, 6, 7] rfl)
  · skip
    refine lb_if_eq (tgt := 12) hx hb dX5_pinned_5 (by decide) (fun c5 => ?_) (fun c5 => ?_)
    · skip
      refine lv_iconst (v := (nI 1)) hx hb dX5_pinned_12 (by decide) ?_
      refine W.top (y := .int (nI (ndN bd sd))) (congrArg Value.int (congrArg nI (by unfold ndN; first | rw [if_pos c5] | rw [if_neg (show ¬ plb bd sd = true by rw [c5]; decide)]))) ?_
      exact hj_13 ls (lv_sub hl [0] rfl)
    · skip
      refine lv_iconst (v := (nI 0)) hx hb dX5_pinned_8 (by decide) ?_
      refine lv_goto (tgt := 13) hx hb dX5_pinned_9 (by decide) ?_
      refine W.top (y := .int (nI (ndN bd sd))) (congrArg Value.int (congrArg nI (by unfold ndN; first | rw [if_pos c5] | rw [if_neg (show ¬ plb bd sd = true by rw [c5]; decide)]))) ?_
      exact hj_13 ls (lv_sub hl [0] rfl)

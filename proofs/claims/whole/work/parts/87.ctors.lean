/-! constructors -/
section
variable {p : Program} {l : Launch} {e : Env} {R : Room} {s : State} {m : MethodId} {args : Array Value} {below : List Frame} {meth : Method} {c : Code} {H : Heap} {locs : List Loc} {cells slots : Nat} {Q : State → Prop}
variable {y : MethodName} {bytes cc : ByteArray} {maxL nL mc ms index pc : Nat} {rm : Room} {Qc : Array Value → State → Outcome → State → Prop} {free : Addr → Prop} {own : String} {b : Addr} {As rest st : List Value} {c0 : Cond} {ls : Array Slot} {B : State → Prop}
theorem rnI (S : CallFix p m c cc nL s args (c0 :: wsL_law) own) (hM : Met l y (Cond.code y bytes maxL none :: wsL_law) rm (va_Pc (.ref b :: As) B) Qc mc ms free) (hy : y.name = "<init>")
    (wl : Cond.methodLink own index y ∈ wsL_law) (wi : Cond.instanceMethod y ∈ wsL_law) (wn : Cond.initialized y.cls ∈ wsL_law) (wc : Cond.code y bytes maxL none ∈ wsL_law)
    (hd : y.cls ≠ "java/lang/invoke/MethodHandle" ∧ y.cls ≠ "java/lang/invoke/VarHandle" ∧ (parseMethodDescriptor y.desc).map (fun d => d.parameters.length) = some As.length) (hR : rm.cells = mc ∧ rm.slots = ms ∧ rm.frames + 1 ≤ R.frames ∧ 8 + (maxL + 11) + rm.locals ≤ R.locals)
    (hbl : FrameBlind (va_Pc (.ref b :: As) B)) (hpre : ∀ U : State, U.heap = H → s.WarmedH U.vm → B U) (hsize : ls.size = nL) (hW : (rest.map fun v => v.category).sum ≤ 8) (hdg : decode cc pc = .ok (.invokespecial index, 3)) (hst : st = As.reverse ++ .ref b :: rest) (hf : cells + mc ≤ R.cells ∧ slots + ms ≤ R.slots) :
    va_Run p l e R s m args below meth c H locs cells slots mc ms (F0 m pc ls st) rest (Qc (Value.ref b :: As).toArray) free := by
  have hG : ∀ w ∈ wsL_law, w.before args s = true := fun w h => S.2.2.2.2 w (List.mem_cons_of_mem _ h)
  exact va_runI S hM ⟨callB_of As.length S.2.2.2.2 (wq_gg wc) rfl hR.1 hR.2.1 (hG _ wn) (hG _ wl) hd hR.2.2, hy, hG _ wi⟩ ⟨hbl, fun U h1 h2 => ⟨rfl, hpre U h1 h2⟩⟩ rfl rfl hsize hst (lv_room hW) hdg hf
theorem nwI {D : va_G} {cI cJ : ClassId} {A : Nat → Prop} {ws : va_W} {N : Nat} (hx : p.tables.exec = Jvm.exec) (hb : c.code = cc) (harr : (Cond.arrayClass .int).before args s = true) (hK : va_K D classes [(cI, .int), (cJ, .long)] s) (hP : va_P D classes ws H) (hD : va_D A ws) (hS : va_S A s.heap H locs) (hA : ∀ q : Nat, s.heap.size ≤ q → A q) (hN : N < 100000) (hc : cells + 1 ≤ R.cells) (hs : slots + N ≤ R.slots) (hdg : decode cc pc = .ok (.newarray .int, 2))
    (kk : ∀ (q : Nat) (H1 : Heap), va_P D classes (ws ++ [(q, .inl (cI, N, .inl (fun _ => 0)))]) H1 → va_D A (ws ++ [(q, .inl (cI, N, .inl (fun _ => 0)))]) → va_S A s.heap H1 locs → W p l e R s m args below meth c H1 locs (cells + 1) (slots + N) Q (F0 m (pc + 2) ls (.ref q :: rest))) : W p l e R s m args below meth c H locs cells slots Q (F0 m pc ls (.int (nI N) :: rest)) := by
  refine va_newa (atype := .int) (ty := .int) (a0 := (N, .inl (fun _ => 0))) hx hb harr rfl hK hP hD hS hA (fun _ => rfl) (nI_pos (by omega)) (nI_clamp (by omega)) (by show N * 4 ≤ _; omega) hc hs hdg (fun q cA H1 hK1 hP1 hD1 hS1 => ?_)
  have e1 : s.vm.findClass ("[" ++ FieldType.int.toString) = some cA := (hK1.2 2 _ rfl).2
  have e2 : s.vm.findClass ("[" ++ FieldType.int.toString) = some cI := (hK.2 0 _ rfl).2
  cases Option.some.inj (e1.symm.trans e2)
  exact kk q H1 hP1 hD1 hS1
theorem nwJ {D : va_G} {cI cJ : ClassId} {A : Nat → Prop} {ws : va_W} {N : Nat} (hx : p.tables.exec = Jvm.exec) (hb : c.code = cc) (harr : (Cond.arrayClass .long).before args s = true) (hK : va_K D classes [(cI, .int), (cJ, .long)] s) (hP : va_P D classes ws H) (hD : va_D A ws) (hS : va_S A s.heap H locs) (hA : ∀ q : Nat, s.heap.size ≤ q → A q) (hN : N < 100000) (hc : cells + 1 ≤ R.cells) (hs : slots + N ≤ R.slots) (hdg : decode cc pc = .ok (.newarray .long, 2))
    (kk : ∀ (q : Nat) (H1 : Heap), va_P D classes (ws ++ [(q, .inl (cJ, N, .inr (.inl (fun _ => 0))))]) H1 → va_D A (ws ++ [(q, .inl (cJ, N, .inr (.inl (fun _ => 0))))]) → va_S A s.heap H1 locs → W p l e R s m args below meth c H1 locs (cells + 1) (slots + N) Q (F0 m (pc + 2) ls (.ref q :: rest))) : W p l e R s m args below meth c H locs cells slots Q (F0 m pc ls (.int (nI N) :: rest)) := by
  refine va_newa (atype := .long) (ty := .long) (a0 := (N, .inr (.inl (fun _ => 0)))) hx hb harr rfl hK hP hD hS hA (fun _ => rfl) (nI_pos (by omega)) (nI_clamp (by omega)) (by show N * 8 ≤ _; omega) hc hs hdg (fun q cA H1 hK1 hP1 hD1 hS1 => ?_)
  have e1 : s.vm.findClass ("[" ++ FieldType.long.toString) = some cA := (hK1.2 2 _ rfl).2
  have e2 : s.vm.findClass ("[" ++ FieldType.long.toString) = some cJ := (hK.2 1 _ rfl).2
  cases Option.some.inj (e1.symm.trans e2)
  exact kk q H1 hP1 hD1 hS1
theorem weC {Sx : Type} {post : Sx → Prop} {D : va_G} {cI cJ : ClassId} {A : Nat → Prop} {w' : Sx → va_W} (u : Sx) (hx : p.tables.exec = Jvm.exec) (hb : c.code = cc) (hr : meth.sig.returnType = none) (hlocks : meth.locks = false) (hdg : decode cc pc = .ok (.return_, 1)) (hp : post u) (hP : va_P D classes (w' u) H) (hD : va_D A (w' u)) (hK : va_K D classes [(cI, .int), (cJ, .long)] s) (hA : ∀ q : Nat, s.heap.size ≤ q → A q) (hE : EV A s s.heap) (hS : va_S A s.heap H locs) :
    W p l e R s m args below meth c H locs cells slots (MQ below (va_Qv post (fun u t => IW D cI cJ A (w' u) t) A) args s cells slots A) (F0 m pc ls []) := W.vret hx hb hr (fun t ht hW => ⟨⟨u, rfl, hp, IW.at hP hD hK hA hE hS t ht hW⟩, hS.F ht⟩) hS.2.2 hdg hlocks
end
theorem dX1_init_0 : decode cX1_init 0 = .ok (.aload_n 0, 1) := by decide +kernel
theorem dX1_init_1 : decode cX1_init 1 = .ok (.invokespecial 3, 3) := by decide +kernel
theorem dX1_init_4 : decode cX1_init 4 = .ok (.aload_n 0, 1) := by decide +kernel
theorem dX1_init_5 : decode cX1_init 5 = .ok (.sipush 700, 3) := by decide +kernel
theorem dX1_init_8 : decode cX1_init 8 = .ok (.newarray .int, 2) := by decide +kernel
theorem dX1_init_10 : decode cX1_init 10 = .ok (.putfield 9, 3) := by decide +kernel
theorem dX1_init_13 : decode cX1_init 13 = .ok (.aload_n 0, 1) := by decide +kernel
theorem dX1_init_14 : decode cX1_init 14 = .ok (.iconst 0, 1) := by decide +kernel
theorem dX1_init_15 : decode cX1_init 15 = .ok (.putfield 15, 3) := by decide +kernel
theorem dX1_init_18 : decode cX1_init 18 = .ok (.return_, 1) := by decide +kernel
theorem hd_X1_init : yX1_init.cls ≠ "java/lang/invoke/MethodHandle" ∧ yX1_init.cls ≠ "java/lang/invoke/VarHandle" ∧ (parseMethodDescriptor yX1_init.desc).map (fun d => d.parameters.length) = some 0 := by decide +kernel
set_option maxHeartbeats 4000000 in
set_option maxRecDepth 100000 in
theorem c_X1_init (l : Launch) {D : va_G} {cI cJ : ClassId} {A : Nat → Prop} {g0 : Nat} : Met l yX1_init (Cond.code yX1_init cX1_init 1 none :: wsL_law) { frames := 1, cells := 1, slots := 700, locals := 96 } (va_Pc [.ref g0] (IW D cI cJ A ([(g0, .inr (0, [.null, .int 0]))]))) (va_Qv (fun _ => True) (fun (u : Nat) t9 => IW D cI cJ A ([(g0, .inr (0, [.ref u, .int (nI 0)])), (u, .inl (cI, 700, .inl (fun _ => 0)))]) t9) A) 1 700 A := by
  refine entM (by decide) (Nat.le_of_ble_eq_true rfl) ?_
  intro p e s m below meth c ls S0 hr hlocks hG hnm hB hl
  have hx := S0.1
  have hb := S0.2.1
  have hown := S0.2.2.2.1
  have hl : lv_has ls 1 [(0, .ref g0)] := hl
  obtain ⟨hP, hD, hK, hA, hE⟩ := hB
  have hS : va_S A s.heap s.heap [] := va_S.rf
  refine lv_aload_n hx hb dX1_init_0 rfl (lv_at hl 0 rfl) ?_
  refine W.objInit hx hb hown (hG _ wm_X1_3) (hG _ wi_objectInit) (hG _ wc_objectInit) rfl (by rw [S0.2.2.1]; exact hl.1) rfl dX1_init_1 (Nat.le_of_ble_eq_true rfl) (Nat.le_of_ble_eq_true rfl) ?_
  refine W.eq (g2 := F0 m 4 ls []) rfl ?_
  refine lv_aload_n hx hb dX1_init_4 rfl (lv_at hl 0 rfl) ?_
  refine lv_sipush (v := nI 700) hx hb dX1_init_5 (by decide) ?_
  refine nwI hx hb (hG _ wa_int) hK hP hD hS hA (by decide) (by decide) (by decide) dX1_init_8 (fun u H hP hD hS => ?_)
  have hP : va_P D classes ([(g0, .inr (0, [.null, .int 0])), (u, .inl (cI, 700, .inl (fun _ => 0)))]) H := hP
  have hD : va_D A ([(g0, .inr (0, [.null, .int 0])), (u, .inl (cI, 700, .inl (fun _ => 0)))]) := hD
  refine va_putF (D := D) (ci := 0) (v := .ref u) (ty := .array .int) (C := RX1) (T := TX1) (N := 2) hx hb hG wu_X1 tyX1 tyX1_ok nmX1 hown hK hP hD hS 0 rfl rfl 0 (by decide) (hG _ wf_X1_9) (fun _ h9 => h9) rfl hnm rfl (by decide +kernel) rfl rfl (Nat.le_of_ble_eq_true rfl) dX1_init_10 (fun H locs hP hD hS => ?_)
  have hP : va_P D classes ([(g0, .inr (0, [.ref u, .int 0])), (u, .inl (cI, 700, .inl (fun _ => 0)))]) H := hP
  have hD : va_D A ([(g0, .inr (0, [.ref u, .int 0])), (u, .inl (cI, 700, .inl (fun _ => 0)))]) := hD
  refine lv_aload_n hx hb dX1_init_13 rfl (lv_at hl 0 rfl) ?_
  refine lv_iconst (v := nI 0) hx hb dX1_init_14 (by decide) ?_
  refine va_put (D := D) (ci := 0) (v := .int (nI 0)) (ty := .int) (C := RX1) (T := TX1) (N := 2) hx hb hG wu_X1 tyX1 tyX1_ok nmX1 hown hK hP hD hS 0 rfl rfl 1 (by decide) (hG _ wf_X1_15) (fun _ h9 => h9) rfl (by decide +kernel) rfl rfl (Nat.le_of_ble_eq_true rfl) dX1_init_15 (fun H locs hP hD hS => ?_)
  have hP : va_P D classes ([(g0, .inr (0, [.ref u, .int (nI 0)])), (u, .inl (cI, 700, .inl (fun _ => 0)))]) H := hP
  have hD : va_D A ([(g0, .inr (0, [.ref u, .int (nI 0)])), (u, .inl (cI, 700, .inl (fun _ => 0)))]) := hD
  exact weC (u) hx hb hr hlocks dX1_init_18 trivial hP hD hK hA hE hS
theorem dX2_init_0 : decode cX2_init 0 = .ok (.aload_n 0, 1) := by decide +kernel
theorem dX2_init_1 : decode cX2_init 1 = .ok (.invokespecial 3, 3) := by decide +kernel
theorem dX2_init_4 : decode cX2_init 4 = .ok (.aload_n 0, 1) := by decide +kernel
theorem dX2_init_5 : decode cX2_init 5 = .ok (.bipush 64, 2) := by decide +kernel
theorem dX2_init_7 : decode cX2_init 7 = .ok (.newarray .int, 2) := by decide +kernel
theorem dX2_init_9 : decode cX2_init 9 = .ok (.putfield 9, 3) := by decide +kernel
theorem dX2_init_12 : decode cX2_init 12 = .ok (.aload_n 0, 1) := by decide +kernel
theorem dX2_init_13 : decode cX2_init 13 = .ok (.bipush 13, 2) := by decide +kernel
theorem dX2_init_15 : decode cX2_init 15 = .ok (.newarray .long, 2) := by decide +kernel
theorem dX2_init_17 : decode cX2_init 17 = .ok (.putfield 15, 3) := by decide +kernel
theorem dX2_init_20 : decode cX2_init 20 = .ok (.aload_n 0, 1) := by decide +kernel
theorem dX2_init_21 : decode cX2_init 21 = .ok (.getfield 15, 3) := by decide +kernel
theorem dX2_init_24 : decode cX2_init 24 = .ok (.iconst 0, 1) := by decide +kernel
theorem dX2_init_25 : decode cX2_init 25 = .ok (.ldc2_w 19, 3) := by decide +kernel
theorem dX2_init_28 : decode cX2_init 28 = .ok (.lastore, 1) := by decide +kernel
theorem dX2_init_29 : decode cX2_init 29 = .ok (.aload_n 0, 1) := by decide +kernel
theorem dX2_init_30 : decode cX2_init 30 = .ok (.iconst 0, 1) := by decide +kernel
theorem dX2_init_31 : decode cX2_init 31 = .ok (.putfield 21, 3) := by decide +kernel
theorem dX2_init_34 : decode cX2_init 34 = .ok (.aload_n 0, 1) := by decide +kernel
theorem dX2_init_35 : decode cX2_init 35 = .ok (.iconst 0, 1) := by decide +kernel
theorem dX2_init_36 : decode cX2_init 36 = .ok (.putfield 25, 3) := by decide +kernel
theorem dX2_init_39 : decode cX2_init 39 = .ok (.aload_n 0, 1) := by decide +kernel
theorem dX2_init_40 : decode cX2_init 40 = .ok (.iconst (-1), 1) := by decide +kernel
theorem dX2_init_41 : decode cX2_init 41 = .ok (.putfield 28, 3) := by decide +kernel
theorem dX2_init_44 : decode cX2_init 44 = .ok (.aload_n 0, 1) := by decide +kernel
theorem dX2_init_45 : decode cX2_init 45 = .ok (.sipush 204, 3) := by decide +kernel
theorem dX2_init_48 : decode cX2_init 48 = .ok (.newarray .int, 2) := by decide +kernel
theorem dX2_init_50 : decode cX2_init 50 = .ok (.putfield 31, 3) := by decide +kernel
theorem dX2_init_53 : decode cX2_init 53 = .ok (.aload_n 0, 1) := by decide +kernel
theorem dX2_init_54 : decode cX2_init 54 = .ok (.sipush 204, 3) := by decide +kernel
theorem dX2_init_57 : decode cX2_init 57 = .ok (.newarray .int, 2) := by decide +kernel
theorem dX2_init_59 : decode cX2_init 59 = .ok (.putfield 34, 3) := by decide +kernel
theorem dX2_init_62 : decode cX2_init 62 = .ok (.aload_n 0, 1) := by decide +kernel
theorem dX2_init_63 : decode cX2_init 63 = .ok (.iconst 0, 1) := by decide +kernel
theorem dX2_init_64 : decode cX2_init 64 = .ok (.putfield 37, 3) := by decide +kernel
theorem dX2_init_67 : decode cX2_init 67 = .ok (.return_, 1) := by decide +kernel
theorem hd_X2_init : yX2_init.cls ≠ "java/lang/invoke/MethodHandle" ∧ yX2_init.cls ≠ "java/lang/invoke/VarHandle" ∧ (parseMethodDescriptor yX2_init.desc).map (fun d => d.parameters.length) = some 0 := by decide +kernel
set_option maxHeartbeats 4000000 in
set_option maxRecDepth 100000 in
theorem c_X2_init (l : Launch) {D : va_G} {cI cJ : ClassId} {A : Nat → Prop} {h2 : Nat} : Met l yX2_init (Cond.code yX2_init cX2_init 1 none :: wsL_law) { frames := 1, cells := 4, slots := 485, locals := 96 } (va_Pc [.ref h2] (IW D cI cJ A ([(h2, .inr (1, [.null, .null, .int 0, .int 0, .int 0, .null, .null, .int 0]))]))) (va_Qv (fun _ => True) (fun (u : Nat × Nat × Nat × Nat) t9 => IW D cI cJ A ([(h2, .inr (1, [.ref u.1, .ref u.2.1, .int (nI 0), .int (nI 0), .int (-1), .ref u.2.2.1, .ref u.2.2.2, .int (nI 0)])), (u.1, .inl (cI, 64, .inl (fun _ => 0))), (u.2.1, .inl (cJ, 13, .inr (.inl (vp_updL (fun _ => 0) (nI 0).toNatClampNeg (-1))))), (u.2.2.1, .inl (cI, 204, .inl (fun _ => 0))), (u.2.2.2, .inl (cI, 204, .inl (fun _ => 0)))]) t9) A) 4 485 A := by
  refine entM (by decide) (Nat.le_of_ble_eq_true rfl) ?_
  intro p e s m below meth c ls S0 hr hlocks hG hnm hB hl
  have hx := S0.1
  have hb := S0.2.1
  have hown := S0.2.2.2.1
  have hl : lv_has ls 1 [(0, .ref h2)] := hl
  obtain ⟨hP, hD, hK, hA, hE⟩ := hB
  have hS : va_S A s.heap s.heap [] := va_S.rf
  refine lv_aload_n hx hb dX2_init_0 rfl (lv_at hl 0 rfl) ?_
  refine W.objInit hx hb hown (hG _ wm_X2_3) (hG _ wi_objectInit) (hG _ wc_objectInit) rfl (by rw [S0.2.2.1]; exact hl.1) rfl dX2_init_1 (Nat.le_of_ble_eq_true rfl) (Nat.le_of_ble_eq_true rfl) ?_
  refine W.eq (g2 := F0 m 4 ls []) rfl ?_
  refine lv_aload_n hx hb dX2_init_4 rfl (lv_at hl 0 rfl) ?_
  refine lv_bipush (v := nI 64) hx hb dX2_init_5 (by decide) ?_
  refine nwI hx hb (hG _ wa_int) hK hP hD hS hA (by decide) (by decide) (by decide) dX2_init_7 (fun a0 H hP hD hS => ?_)
  have hP : va_P D classes ([(h2, .inr (1, [.null, .null, .int 0, .int 0, .int 0, .null, .null, .int 0])), (a0, .inl (cI, 64, .inl (fun _ => 0)))]) H := hP
  have hD : va_D A ([(h2, .inr (1, [.null, .null, .int 0, .int 0, .int 0, .null, .null, .int 0])), (a0, .inl (cI, 64, .inl (fun _ => 0)))]) := hD
  refine va_putF (D := D) (ci := 1) (v := .ref a0) (ty := .array .int) (C := RX2) (T := TX2) (N := 8) hx hb hG wu_X2 tyX2 tyX2_ok nmX2 hown hK hP hD hS 0 rfl rfl 0 (by decide) (hG _ wf_X2_9) (fun _ h9 => h9) rfl hnm rfl (by decide +kernel) rfl rfl (Nat.le_of_ble_eq_true rfl) dX2_init_9 (fun H locs hP hD hS => ?_)
  have hP : va_P D classes ([(h2, .inr (1, [.ref a0, .null, .int 0, .int 0, .int 0, .null, .null, .int 0])), (a0, .inl (cI, 64, .inl (fun _ => 0)))]) H := hP
  have hD : va_D A ([(h2, .inr (1, [.ref a0, .null, .int 0, .int 0, .int 0, .null, .null, .int 0])), (a0, .inl (cI, 64, .inl (fun _ => 0)))]) := hD
  refine lv_aload_n hx hb dX2_init_12 rfl (lv_at hl 0 rfl) ?_
  refine lv_bipush (v := nI 13) hx hb dX2_init_13 (by decide) ?_
  refine nwJ hx hb (hG _ wa_long) hK hP hD hS hA (by decide) (by decide) (by decide) dX2_init_15 (fun a1 H hP hD hS => ?_)
  have hP : va_P D classes ([(h2, .inr (1, [.ref a0, .null, .int 0, .int 0, .int 0, .null, .null, .int 0])), (a0, .inl (cI, 64, .inl (fun _ => 0))), (a1, .inl (cJ, 13, .inr (.inl (fun _ => 0))))]) H := hP
  have hD : va_D A ([(h2, .inr (1, [.ref a0, .null, .int 0, .int 0, .int 0, .null, .null, .int 0])), (a0, .inl (cI, 64, .inl (fun _ => 0))), (a1, .inl (cJ, 13, .inr (.inl (fun _ => 0))))]) := hD
  refine va_putF (D := D) (ci := 1) (v := .ref a1) (ty := .array .long) (C := RX2) (T := TX2) (N := 8) hx hb hG wu_X2 tyX2 tyX2_ok nmX2 hown hK hP hD hS 0 rfl rfl 1 (by decide) (hG _ wf_X2_15) (fun _ h9 => h9) rfl hnm rfl (by decide +kernel) rfl rfl (Nat.le_of_ble_eq_true rfl) dX2_init_17 (fun H locs hP hD hS => ?_)
  have hP : va_P D classes ([(h2, .inr (1, [.ref a0, .ref a1, .int 0, .int 0, .int 0, .null, .null, .int 0])), (a0, .inl (cI, 64, .inl (fun _ => 0))), (a1, .inl (cJ, 13, .inr (.inl (fun _ => 0))))]) H := hP
  have hD : va_D A ([(h2, .inr (1, [.ref a0, .ref a1, .int 0, .int 0, .int 0, .null, .null, .int 0])), (a0, .inl (cI, 64, .inl (fun _ => 0))), (a1, .inl (cJ, 13, .inr (.inl (fun _ => 0))))]) := hD
  refine lv_aload_n hx hb dX2_init_20 rfl (lv_at hl 0 rfl) ?_
  refine va_get (D := D) (ci := 1) (v := .ref a1) (C := RX2) (T := TX2) (N := 8) hx hb hG wu_X2 hown hK hP 0 rfl rfl 1 (by decide) (hG _ wf_X2_15) (fun _ h9 => h9) rfl dX2_init_21 ?_
  refine lv_iconst (v := nI 0) hx hb dX2_init_24 (by decide) ?_
  refine lv_ldc2 (v := (-1)) hx hb hown (hG _ wk_X2_19) dX2_init_25 ?_
  refine va_last hx hb hK hP hD hS 2 1 rfl rfl (vp_in_nI (by decide) (by decide)) dX2_init_28 (fun H locs hP hD hS => ?_)
  have hP : va_P D classes ([(h2, .inr (1, [.ref a0, .ref a1, .int 0, .int 0, .int 0, .null, .null, .int 0])), (a0, .inl (cI, 64, .inl (fun _ => 0))), (a1, .inl (cJ, 13, .inr (.inl (vp_updL (fun _ => 0) (nI 0).toNatClampNeg (-1)))))]) H := hP
  have hD : va_D A ([(h2, .inr (1, [.ref a0, .ref a1, .int 0, .int 0, .int 0, .null, .null, .int 0])), (a0, .inl (cI, 64, .inl (fun _ => 0))), (a1, .inl (cJ, 13, .inr (.inl (vp_updL (fun _ => 0) (nI 0).toNatClampNeg (-1)))))]) := hD
  refine lv_aload_n hx hb dX2_init_29 rfl (lv_at hl 0 rfl) ?_
  refine lv_iconst (v := nI 0) hx hb dX2_init_30 (by decide) ?_
  refine va_put (D := D) (ci := 1) (v := .int (nI 0)) (ty := .int) (C := RX2) (T := TX2) (N := 8) hx hb hG wu_X2 tyX2 tyX2_ok nmX2 hown hK hP hD hS 0 rfl rfl 2 (by decide) (hG _ wf_X2_21) (fun _ h9 => h9) rfl (by decide +kernel) rfl rfl (Nat.le_of_ble_eq_true rfl) dX2_init_31 (fun H locs hP hD hS => ?_)
  have hP : va_P D classes ([(h2, .inr (1, [.ref a0, .ref a1, .int (nI 0), .int 0, .int 0, .null, .null, .int 0])), (a0, .inl (cI, 64, .inl (fun _ => 0))), (a1, .inl (cJ, 13, .inr (.inl (vp_updL (fun _ => 0) (nI 0).toNatClampNeg (-1)))))]) H := hP
  have hD : va_D A ([(h2, .inr (1, [.ref a0, .ref a1, .int (nI 0), .int 0, .int 0, .null, .null, .int 0])), (a0, .inl (cI, 64, .inl (fun _ => 0))), (a1, .inl (cJ, 13, .inr (.inl (vp_updL (fun _ => 0) (nI 0).toNatClampNeg (-1)))))]) := hD
  refine lv_aload_n hx hb dX2_init_34 rfl (lv_at hl 0 rfl) ?_
  refine lv_iconst (v := nI 0) hx hb dX2_init_35 (by decide) ?_
  refine va_put (D := D) (ci := 1) (v := .int (nI 0)) (ty := .int) (C := RX2) (T := TX2) (N := 8) hx hb hG wu_X2 tyX2 tyX2_ok nmX2 hown hK hP hD hS 0 rfl rfl 3 (by decide) (hG _ wf_X2_25) (fun _ h9 => h9) rfl (by decide +kernel) rfl rfl (Nat.le_of_ble_eq_true rfl) dX2_init_36 (fun H locs hP hD hS => ?_)
  have hP : va_P D classes ([(h2, .inr (1, [.ref a0, .ref a1, .int (nI 0), .int (nI 0), .int 0, .null, .null, .int 0])), (a0, .inl (cI, 64, .inl (fun _ => 0))), (a1, .inl (cJ, 13, .inr (.inl (vp_updL (fun _ => 0) (nI 0).toNatClampNeg (-1)))))]) H := hP
  have hD : va_D A ([(h2, .inr (1, [.ref a0, .ref a1, .int (nI 0), .int (nI 0), .int 0, .null, .null, .int 0])), (a0, .inl (cI, 64, .inl (fun _ => 0))), (a1, .inl (cJ, 13, .inr (.inl (vp_updL (fun _ => 0) (nI 0).toNatClampNeg (-1)))))]) := hD
  refine lv_aload_n hx hb dX2_init_39 rfl (lv_at hl 0 rfl) ?_
  refine lv_iconst (v := (-1)) hx hb dX2_init_40 (by decide) ?_
  refine va_put (D := D) (ci := 1) (v := .int (-1)) (ty := .int) (C := RX2) (T := TX2) (N := 8) hx hb hG wu_X2 tyX2 tyX2_ok nmX2 hown hK hP hD hS 0 rfl rfl 4 (by decide) (hG _ wf_X2_28) (fun _ h9 => h9) rfl (by decide +kernel) rfl rfl (Nat.le_of_ble_eq_true rfl) dX2_init_41 (fun H locs hP hD hS => ?_)
  have hP : va_P D classes ([(h2, .inr (1, [.ref a0, .ref a1, .int (nI 0), .int (nI 0), .int (-1), .null, .null, .int 0])), (a0, .inl (cI, 64, .inl (fun _ => 0))), (a1, .inl (cJ, 13, .inr (.inl (vp_updL (fun _ => 0) (nI 0).toNatClampNeg (-1)))))]) H := hP
  have hD : va_D A ([(h2, .inr (1, [.ref a0, .ref a1, .int (nI 0), .int (nI 0), .int (-1), .null, .null, .int 0])), (a0, .inl (cI, 64, .inl (fun _ => 0))), (a1, .inl (cJ, 13, .inr (.inl (vp_updL (fun _ => 0) (nI 0).toNatClampNeg (-1)))))]) := hD
  refine lv_aload_n hx hb dX2_init_44 rfl (lv_at hl 0 rfl) ?_
  refine lv_sipush (v := nI 204) hx hb dX2_init_45 (by decide) ?_
  refine nwI hx hb (hG _ wa_int) hK hP hD hS hA (by decide) (by decide) (by decide) dX2_init_48 (fun a2 H hP hD hS => ?_)
  have hP : va_P D classes ([(h2, .inr (1, [.ref a0, .ref a1, .int (nI 0), .int (nI 0), .int (-1), .null, .null, .int 0])), (a0, .inl (cI, 64, .inl (fun _ => 0))), (a1, .inl (cJ, 13, .inr (.inl (vp_updL (fun _ => 0) (nI 0).toNatClampNeg (-1))))), (a2, .inl (cI, 204, .inl (fun _ => 0)))]) H := hP
  have hD : va_D A ([(h2, .inr (1, [.ref a0, .ref a1, .int (nI 0), .int (nI 0), .int (-1), .null, .null, .int 0])), (a0, .inl (cI, 64, .inl (fun _ => 0))), (a1, .inl (cJ, 13, .inr (.inl (vp_updL (fun _ => 0) (nI 0).toNatClampNeg (-1))))), (a2, .inl (cI, 204, .inl (fun _ => 0)))]) := hD
  refine va_putF (D := D) (ci := 1) (v := .ref a2) (ty := .array .int) (C := RX2) (T := TX2) (N := 8) hx hb hG wu_X2 tyX2 tyX2_ok nmX2 hown hK hP hD hS 0 rfl rfl 5 (by decide) (hG _ wf_X2_31) (fun _ h9 => h9) rfl hnm rfl (by decide +kernel) rfl rfl (Nat.le_of_ble_eq_true rfl) dX2_init_50 (fun H locs hP hD hS => ?_)
  have hP : va_P D classes ([(h2, .inr (1, [.ref a0, .ref a1, .int (nI 0), .int (nI 0), .int (-1), .ref a2, .null, .int 0])), (a0, .inl (cI, 64, .inl (fun _ => 0))), (a1, .inl (cJ, 13, .inr (.inl (vp_updL (fun _ => 0) (nI 0).toNatClampNeg (-1))))), (a2, .inl (cI, 204, .inl (fun _ => 0)))]) H := hP
  have hD : va_D A ([(h2, .inr (1, [.ref a0, .ref a1, .int (nI 0), .int (nI 0), .int (-1), .ref a2, .null, .int 0])), (a0, .inl (cI, 64, .inl (fun _ => 0))), (a1, .inl (cJ, 13, .inr (.inl (vp_updL (fun _ => 0) (nI 0).toNatClampNeg (-1))))), (a2, .inl (cI, 204, .inl (fun _ => 0)))]) := hD
  refine lv_aload_n hx hb dX2_init_53 rfl (lv_at hl 0 rfl) ?_
  refine lv_sipush (v := nI 204) hx hb dX2_init_54 (by decide) ?_
  refine nwI hx hb (hG _ wa_int) hK hP hD hS hA (by decide) (by decide) (by decide) dX2_init_57 (fun a3 H hP hD hS => ?_)
  have hP : va_P D classes ([(h2, .inr (1, [.ref a0, .ref a1, .int (nI 0), .int (nI 0), .int (-1), .ref a2, .null, .int 0])), (a0, .inl (cI, 64, .inl (fun _ => 0))), (a1, .inl (cJ, 13, .inr (.inl (vp_updL (fun _ => 0) (nI 0).toNatClampNeg (-1))))), (a2, .inl (cI, 204, .inl (fun _ => 0))), (a3, .inl (cI, 204, .inl (fun _ => 0)))]) H := hP
  have hD : va_D A ([(h2, .inr (1, [.ref a0, .ref a1, .int (nI 0), .int (nI 0), .int (-1), .ref a2, .null, .int 0])), (a0, .inl (cI, 64, .inl (fun _ => 0))), (a1, .inl (cJ, 13, .inr (.inl (vp_updL (fun _ => 0) (nI 0).toNatClampNeg (-1))))), (a2, .inl (cI, 204, .inl (fun _ => 0))), (a3, .inl (cI, 204, .inl (fun _ => 0)))]) := hD
  refine va_putF (D := D) (ci := 1) (v := .ref a3) (ty := .array .int) (C := RX2) (T := TX2) (N := 8) hx hb hG wu_X2 tyX2 tyX2_ok nmX2 hown hK hP hD hS 0 rfl rfl 6 (by decide) (hG _ wf_X2_34) (fun _ h9 => h9) rfl hnm rfl (by decide +kernel) rfl rfl (Nat.le_of_ble_eq_true rfl) dX2_init_59 (fun H locs hP hD hS => ?_)
  have hP : va_P D classes ([(h2, .inr (1, [.ref a0, .ref a1, .int (nI 0), .int (nI 0), .int (-1), .ref a2, .ref a3, .int 0])), (a0, .inl (cI, 64, .inl (fun _ => 0))), (a1, .inl (cJ, 13, .inr (.inl (vp_updL (fun _ => 0) (nI 0).toNatClampNeg (-1))))), (a2, .inl (cI, 204, .inl (fun _ => 0))), (a3, .inl (cI, 204, .inl (fun _ => 0)))]) H := hP
  have hD : va_D A ([(h2, .inr (1, [.ref a0, .ref a1, .int (nI 0), .int (nI 0), .int (-1), .ref a2, .ref a3, .int 0])), (a0, .inl (cI, 64, .inl (fun _ => 0))), (a1, .inl (cJ, 13, .inr (.inl (vp_updL (fun _ => 0) (nI 0).toNatClampNeg (-1))))), (a2, .inl (cI, 204, .inl (fun _ => 0))), (a3, .inl (cI, 204, .inl (fun _ => 0)))]) := hD
  refine lv_aload_n hx hb dX2_init_62 rfl (lv_at hl 0 rfl) ?_
  refine lv_iconst (v := nI 0) hx hb dX2_init_63 (by decide) ?_
  refine va_put (D := D) (ci := 1) (v := .int (nI 0)) (ty := .int) (C := RX2) (T := TX2) (N := 8) hx hb hG wu_X2 tyX2 tyX2_ok nmX2 hown hK hP hD hS 0 rfl rfl 7 (by decide) (hG _ wf_X2_37) (fun _ h9 => h9) rfl (by decide +kernel) rfl rfl (Nat.le_of_ble_eq_true rfl) dX2_init_64 (fun H locs hP hD hS => ?_)
  have hP : va_P D classes ([(h2, .inr (1, [.ref a0, .ref a1, .int (nI 0), .int (nI 0), .int (-1), .ref a2, .ref a3, .int (nI 0)])), (a0, .inl (cI, 64, .inl (fun _ => 0))), (a1, .inl (cJ, 13, .inr (.inl (vp_updL (fun _ => 0) (nI 0).toNatClampNeg (-1))))), (a2, .inl (cI, 204, .inl (fun _ => 0))), (a3, .inl (cI, 204, .inl (fun _ => 0)))]) H := hP
  have hD : va_D A ([(h2, .inr (1, [.ref a0, .ref a1, .int (nI 0), .int (nI 0), .int (-1), .ref a2, .ref a3, .int (nI 0)])), (a0, .inl (cI, 64, .inl (fun _ => 0))), (a1, .inl (cJ, 13, .inr (.inl (vp_updL (fun _ => 0) (nI 0).toNatClampNeg (-1))))), (a2, .inl (cI, 204, .inl (fun _ => 0))), (a3, .inl (cI, 204, .inl (fun _ => 0)))]) := hD
  exact weC ((a0, a1, a2, a3)) hx hb hr hlocks dX2_init_67 trivial hP hD hK hA hE hS
theorem dX3_init_0 : decode cX3_init 0 = .ok (.aload_n 0, 1) := by decide +kernel
theorem dX3_init_1 : decode cX3_init 1 = .ok (.invokespecial 3, 3) := by decide +kernel
theorem dX3_init_4 : decode cX3_init 4 = .ok (.aload_n 0, 1) := by decide +kernel
theorem dX3_init_5 : decode cX3_init 5 = .ok (.new 9, 3) := by decide +kernel
theorem dX3_init_8 : decode cX3_init 8 = .ok (.dup, 1) := by decide +kernel
theorem dX3_init_9 : decode cX3_init 9 = .ok (.invokespecial 11, 3) := by decide +kernel
theorem dX3_init_12 : decode cX3_init 12 = .ok (.putfield 12, 3) := by decide +kernel
theorem dX3_init_15 : decode cX3_init 15 = .ok (.aload_n 0, 1) := by decide +kernel
theorem dX3_init_16 : decode cX3_init 16 = .ok (.lconst 0, 1) := by decide +kernel
theorem dX3_init_17 : decode cX3_init 17 = .ok (.putfield 18, 3) := by decide +kernel
theorem dX3_init_20 : decode cX3_init 20 = .ok (.aload_n 0, 1) := by decide +kernel
theorem dX3_init_21 : decode cX3_init 21 = .ok (.lconst 0, 1) := by decide +kernel
theorem dX3_init_22 : decode cX3_init 22 = .ok (.putfield 22, 3) := by decide +kernel
theorem dX3_init_25 : decode cX3_init 25 = .ok (.aload_n 0, 1) := by decide +kernel
theorem dX3_init_26 : decode cX3_init 26 = .ok (.lconst 0, 1) := by decide +kernel
theorem dX3_init_27 : decode cX3_init 27 = .ok (.putfield 25, 3) := by decide +kernel
theorem dX3_init_30 : decode cX3_init 30 = .ok (.aload_n 0, 1) := by decide +kernel
theorem dX3_init_31 : decode cX3_init 31 = .ok (.lconst 0, 1) := by decide +kernel
theorem dX3_init_32 : decode cX3_init 32 = .ok (.putfield 28, 3) := by decide +kernel
theorem dX3_init_35 : decode cX3_init 35 = .ok (.aload_n 0, 1) := by decide +kernel
theorem dX3_init_36 : decode cX3_init 36 = .ok (.lconst 0, 1) := by decide +kernel
theorem dX3_init_37 : decode cX3_init 37 = .ok (.putfield 31, 3) := by decide +kernel
theorem dX3_init_40 : decode cX3_init 40 = .ok (.aload_n 0, 1) := by decide +kernel
theorem dX3_init_41 : decode cX3_init 41 = .ok (.lconst 0, 1) := by decide +kernel
theorem dX3_init_42 : decode cX3_init 42 = .ok (.putfield 34, 3) := by decide +kernel
theorem dX3_init_45 : decode cX3_init 45 = .ok (.return_, 1) := by decide +kernel
theorem hd_X3_init : yX3_init.cls ≠ "java/lang/invoke/MethodHandle" ∧ yX3_init.cls ≠ "java/lang/invoke/VarHandle" ∧ (parseMethodDescriptor yX3_init.desc).map (fun d => d.parameters.length) = some 0 := by decide +kernel
set_option maxHeartbeats 4000000 in
set_option maxRecDepth 100000 in
theorem c_X3_init (l : Launch) {D : va_G} {cI cJ : ClassId} {A : Nat → Prop} {h1 : Nat} : Met l yX3_init (Cond.code yX3_init cX3_init 1 none :: wsL_law) { frames := 2, cells := 5, slots := 493, locals := 144 } (va_Pc [.ref h1] (IW D cI cJ A ([(h1, .inr (2, [.null, .long 0, .long 0, .long 0, .long 0, .long 0, .long 0]))]))) (va_Qv (fun _ => True) (fun (u : Nat × Nat × Nat × Nat × Nat) t9 => IW D cI cJ A ([(u.1, .inr (1, [.ref u.2.1, .ref u.2.2.1, .int (nI 0), .int (nI 0), .int (-1), .ref u.2.2.2.1, .ref u.2.2.2.2, .int (nI 0)])), (u.2.1, .inl (cI, 64, .inl (fun _ => 0))), (u.2.2.1, .inl (cJ, 13, .inr (.inl (vp_updL (fun _ => 0) (nI 0).toNatClampNeg (-1))))), (u.2.2.2.1, .inl (cI, 204, .inl (fun _ => 0))), (u.2.2.2.2, .inl (cI, 204, .inl (fun _ => 0))), (h1, .inr (2, [.ref u.1, .long 0, .long 0, .long 0, .long 0, .long 0, .long 0]))]) t9) A) 5 493 A := by
  refine entM (by decide) (Nat.le_of_ble_eq_true rfl) ?_
  intro p e s m below meth c ls S0 hr hlocks hG hnm hB hl
  have hx := S0.1
  have hb := S0.2.1
  have hown := S0.2.2.2.1
  have hl : lv_has ls 1 [(0, .ref h1)] := hl
  obtain ⟨hP, hD, hK, hA, hE⟩ := hB
  have hS : va_S A s.heap s.heap [] := va_S.rf
  refine lv_aload_n hx hb dX3_init_0 rfl (lv_at hl 0 rfl) ?_
  refine W.objInit hx hb hown (hG _ wm_X3_3) (hG _ wi_objectInit) (hG _ wc_objectInit) rfl (by rw [S0.2.2.1]; exact hl.1) rfl dX3_init_1 (Nat.le_of_ble_eq_true rfl) (Nat.le_of_ble_eq_true rfl) ?_
  refine W.eq (g2 := F0 m 4 ls []) rfl ?_
  refine lv_aload_n hx hb dX3_init_4 rfl (lv_at hl 0 rfl) ?_
  refine va_new (ci := 1) (fs := [.null, .null, .int 0, .int 0, .int 0, .null, .null, .int 0]) (C := RX2) (T := TX2) (N := 8) hx hb hG wu_X2 tyX2 tyX2_ok hown (hG _ wl_X3_9) (hG _ wb_X2) (hG _ wn_X2) hK hP hD hS hA rfl (by decide) (by decide) (by decide) dX3_init_5 (fun h2 H hP hD hS => ?_)
  have hP : va_P D classes ([(h1, .inr (2, [.null, .long 0, .long 0, .long 0, .long 0, .long 0, .long 0])), (h2, .inr (1, [.null, .null, .int 0, .int 0, .int 0, .null, .null, .int 0]))]) H := hP
  have hD : va_D A ([(h1, .inr (2, [.null, .long 0, .long 0, .long 0, .long 0, .long 0, .long 0])), (h2, .inr (1, [.null, .null, .int 0, .int 0, .int 0, .null, .null, .int 0]))]) := hD
  refine lv_dup hx hb dX3_init_8 rfl ?_
  have hPr : va_P D classes ([(h2, .inr (1, [.null, .null, .int 0, .int 0, .int 0, .null, .null, .int 0]))] ++ [(h1, .inr (2, [.null, .long 0, .long 0, .long 0, .long 0, .long 0, .long 0]))]) H := va_P.rot (a := [(h1, .inr (2, [.null, .long 0, .long 0, .long 0, .long 0, .long 0, .long 0]))]) (b := [(h2, .inr (1, [.null, .null, .int 0, .int 0, .int 0, .null, .null, .int 0]))]) hP
  have hDr : va_D A ([(h2, .inr (1, [.null, .null, .int 0, .int 0, .int 0, .null, .null, .int 0]))] ++ [(h1, .inr (2, [.null, .long 0, .long 0, .long 0, .long 0, .long 0, .long 0]))]) := va_D.rot (a := [(h1, .inr (2, [.null, .long 0, .long 0, .long 0, .long 0, .long 0, .long 0]))]) (b := [(h2, .inr (1, [.null, .null, .int 0, .int 0, .int 0, .null, .null, .int 0]))]) hD
  refine ftV (A := A) (wc := [(h2, .inr (1, [.null, .null, .int 0, .int 0, .int 0, .null, .null, .int 0]))]) (wr := [(h1, .inr (2, [.null, .long 0, .long 0, .long 0, .long 0, .long 0, .long 0]))]) (rnI (As := []) (rest := [.ref h2, .ref h1]) S0 (c_X2_init l (A := va_A ([(h2, .inr (1, [.null, .null, .int 0, .int 0, .int 0, .null, .null, .int 0]))]) H.size)) rfl wm_X3_11 wi_X2_init wn_X2 wc_X2_init hd_X2_init ⟨rfl, rfl, by decide, by decide⟩ IW.blind (IW.cut hPr hDr hK hA hE hS) hl.1 (Nat.le_of_ble_eq_true rfl) dX3_init_9 rfl ⟨by decide, by decide⟩) hPr hDr hA hS (fun u H locs hu hP hD hS => ?_)
  have hP : va_P D classes ([(h2, .inr (1, [.ref u.1, .ref u.2.1, .int (nI 0), .int (nI 0), .int (-1), .ref u.2.2.1, .ref u.2.2.2, .int (nI 0)])), (u.1, .inl (cI, 64, .inl (fun _ => 0))), (u.2.1, .inl (cJ, 13, .inr (.inl (vp_updL (fun _ => 0) (nI 0).toNatClampNeg (-1))))), (u.2.2.1, .inl (cI, 204, .inl (fun _ => 0))), (u.2.2.2, .inl (cI, 204, .inl (fun _ => 0))), (h1, .inr (2, [.null, .long 0, .long 0, .long 0, .long 0, .long 0, .long 0]))]) H := hP
  have hD : va_D A ([(h2, .inr (1, [.ref u.1, .ref u.2.1, .int (nI 0), .int (nI 0), .int (-1), .ref u.2.2.1, .ref u.2.2.2, .int (nI 0)])), (u.1, .inl (cI, 64, .inl (fun _ => 0))), (u.2.1, .inl (cJ, 13, .inr (.inl (vp_updL (fun _ => 0) (nI 0).toNatClampNeg (-1))))), (u.2.2.1, .inl (cI, 204, .inl (fun _ => 0))), (u.2.2.2, .inl (cI, 204, .inl (fun _ => 0))), (h1, .inr (2, [.null, .long 0, .long 0, .long 0, .long 0, .long 0, .long 0]))]) := hD
  refine va_putF (D := D) (ci := 2) (v := .ref h2) (ty := .object "MoveList$Position") (C := RX3) (T := TX3) (N := 7) hx hb hG wu_X3 tyX3 tyX3_ok nmX3 hown hK hP hD hS 5 rfl rfl 0 (by decide) (hG _ wf_X3_12) (fun _ h9 => h9) rfl hnm rfl (by decide +kernel) rfl rfl (Nat.le_of_ble_eq_true rfl) dX3_init_12 (fun H locs hP hD hS => ?_)
  have hP : va_P D classes ([(h2, .inr (1, [.ref u.1, .ref u.2.1, .int (nI 0), .int (nI 0), .int (-1), .ref u.2.2.1, .ref u.2.2.2, .int (nI 0)])), (u.1, .inl (cI, 64, .inl (fun _ => 0))), (u.2.1, .inl (cJ, 13, .inr (.inl (vp_updL (fun _ => 0) (nI 0).toNatClampNeg (-1))))), (u.2.2.1, .inl (cI, 204, .inl (fun _ => 0))), (u.2.2.2, .inl (cI, 204, .inl (fun _ => 0))), (h1, .inr (2, [.ref h2, .long 0, .long 0, .long 0, .long 0, .long 0, .long 0]))]) H := hP
  have hD : va_D A ([(h2, .inr (1, [.ref u.1, .ref u.2.1, .int (nI 0), .int (nI 0), .int (-1), .ref u.2.2.1, .ref u.2.2.2, .int (nI 0)])), (u.1, .inl (cI, 64, .inl (fun _ => 0))), (u.2.1, .inl (cJ, 13, .inr (.inl (vp_updL (fun _ => 0) (nI 0).toNatClampNeg (-1))))), (u.2.2.1, .inl (cI, 204, .inl (fun _ => 0))), (u.2.2.2, .inl (cI, 204, .inl (fun _ => 0))), (h1, .inr (2, [.ref h2, .long 0, .long 0, .long 0, .long 0, .long 0, .long 0]))]) := hD
  refine lv_aload_n hx hb dX3_init_15 rfl (lv_at hl 0 rfl) ?_
  refine lv_lconst (v := 0) hx hb dX3_init_16 (by decide) ?_
  refine va_put (D := D) (ci := 2) (v := .long 0) (ty := .long) (C := RX3) (T := TX3) (N := 7) hx hb hG wu_X3 tyX3 tyX3_ok nmX3 hown hK hP hD hS 5 rfl rfl 1 (by decide) (hG _ wf_X3_18) (fun _ h9 => h9) rfl (by decide +kernel) rfl rfl (Nat.le_of_ble_eq_true rfl) dX3_init_17 (fun H locs hP hD hS => ?_)
  have hP : va_P D classes ([(h2, .inr (1, [.ref u.1, .ref u.2.1, .int (nI 0), .int (nI 0), .int (-1), .ref u.2.2.1, .ref u.2.2.2, .int (nI 0)])), (u.1, .inl (cI, 64, .inl (fun _ => 0))), (u.2.1, .inl (cJ, 13, .inr (.inl (vp_updL (fun _ => 0) (nI 0).toNatClampNeg (-1))))), (u.2.2.1, .inl (cI, 204, .inl (fun _ => 0))), (u.2.2.2, .inl (cI, 204, .inl (fun _ => 0))), (h1, .inr (2, [.ref h2, .long 0, .long 0, .long 0, .long 0, .long 0, .long 0]))]) H := hP
  have hD : va_D A ([(h2, .inr (1, [.ref u.1, .ref u.2.1, .int (nI 0), .int (nI 0), .int (-1), .ref u.2.2.1, .ref u.2.2.2, .int (nI 0)])), (u.1, .inl (cI, 64, .inl (fun _ => 0))), (u.2.1, .inl (cJ, 13, .inr (.inl (vp_updL (fun _ => 0) (nI 0).toNatClampNeg (-1))))), (u.2.2.1, .inl (cI, 204, .inl (fun _ => 0))), (u.2.2.2, .inl (cI, 204, .inl (fun _ => 0))), (h1, .inr (2, [.ref h2, .long 0, .long 0, .long 0, .long 0, .long 0, .long 0]))]) := hD
  refine lv_aload_n hx hb dX3_init_20 rfl (lv_at hl 0 rfl) ?_
  refine lv_lconst (v := 0) hx hb dX3_init_21 (by decide) ?_
  refine va_put (D := D) (ci := 2) (v := .long 0) (ty := .long) (C := RX3) (T := TX3) (N := 7) hx hb hG wu_X3 tyX3 tyX3_ok nmX3 hown hK hP hD hS 5 rfl rfl 2 (by decide) (hG _ wf_X3_22) (fun _ h9 => h9) rfl (by decide +kernel) rfl rfl (Nat.le_of_ble_eq_true rfl) dX3_init_22 (fun H locs hP hD hS => ?_)
  have hP : va_P D classes ([(h2, .inr (1, [.ref u.1, .ref u.2.1, .int (nI 0), .int (nI 0), .int (-1), .ref u.2.2.1, .ref u.2.2.2, .int (nI 0)])), (u.1, .inl (cI, 64, .inl (fun _ => 0))), (u.2.1, .inl (cJ, 13, .inr (.inl (vp_updL (fun _ => 0) (nI 0).toNatClampNeg (-1))))), (u.2.2.1, .inl (cI, 204, .inl (fun _ => 0))), (u.2.2.2, .inl (cI, 204, .inl (fun _ => 0))), (h1, .inr (2, [.ref h2, .long 0, .long 0, .long 0, .long 0, .long 0, .long 0]))]) H := hP
  have hD : va_D A ([(h2, .inr (1, [.ref u.1, .ref u.2.1, .int (nI 0), .int (nI 0), .int (-1), .ref u.2.2.1, .ref u.2.2.2, .int (nI 0)])), (u.1, .inl (cI, 64, .inl (fun _ => 0))), (u.2.1, .inl (cJ, 13, .inr (.inl (vp_updL (fun _ => 0) (nI 0).toNatClampNeg (-1))))), (u.2.2.1, .inl (cI, 204, .inl (fun _ => 0))), (u.2.2.2, .inl (cI, 204, .inl (fun _ => 0))), (h1, .inr (2, [.ref h2, .long 0, .long 0, .long 0, .long 0, .long 0, .long 0]))]) := hD
  refine lv_aload_n hx hb dX3_init_25 rfl (lv_at hl 0 rfl) ?_
  refine lv_lconst (v := 0) hx hb dX3_init_26 (by decide) ?_
  refine va_put (D := D) (ci := 2) (v := .long 0) (ty := .long) (C := RX3) (T := TX3) (N := 7) hx hb hG wu_X3 tyX3 tyX3_ok nmX3 hown hK hP hD hS 5 rfl rfl 3 (by decide) (hG _ wf_X3_25) (fun _ h9 => h9) rfl (by decide +kernel) rfl rfl (Nat.le_of_ble_eq_true rfl) dX3_init_27 (fun H locs hP hD hS => ?_)
  have hP : va_P D classes ([(h2, .inr (1, [.ref u.1, .ref u.2.1, .int (nI 0), .int (nI 0), .int (-1), .ref u.2.2.1, .ref u.2.2.2, .int (nI 0)])), (u.1, .inl (cI, 64, .inl (fun _ => 0))), (u.2.1, .inl (cJ, 13, .inr (.inl (vp_updL (fun _ => 0) (nI 0).toNatClampNeg (-1))))), (u.2.2.1, .inl (cI, 204, .inl (fun _ => 0))), (u.2.2.2, .inl (cI, 204, .inl (fun _ => 0))), (h1, .inr (2, [.ref h2, .long 0, .long 0, .long 0, .long 0, .long 0, .long 0]))]) H := hP
  have hD : va_D A ([(h2, .inr (1, [.ref u.1, .ref u.2.1, .int (nI 0), .int (nI 0), .int (-1), .ref u.2.2.1, .ref u.2.2.2, .int (nI 0)])), (u.1, .inl (cI, 64, .inl (fun _ => 0))), (u.2.1, .inl (cJ, 13, .inr (.inl (vp_updL (fun _ => 0) (nI 0).toNatClampNeg (-1))))), (u.2.2.1, .inl (cI, 204, .inl (fun _ => 0))), (u.2.2.2, .inl (cI, 204, .inl (fun _ => 0))), (h1, .inr (2, [.ref h2, .long 0, .long 0, .long 0, .long 0, .long 0, .long 0]))]) := hD
  refine lv_aload_n hx hb dX3_init_30 rfl (lv_at hl 0 rfl) ?_
  refine lv_lconst (v := 0) hx hb dX3_init_31 (by decide) ?_
  refine va_put (D := D) (ci := 2) (v := .long 0) (ty := .long) (C := RX3) (T := TX3) (N := 7) hx hb hG wu_X3 tyX3 tyX3_ok nmX3 hown hK hP hD hS 5 rfl rfl 4 (by decide) (hG _ wf_X3_28) (fun _ h9 => h9) rfl (by decide +kernel) rfl rfl (Nat.le_of_ble_eq_true rfl) dX3_init_32 (fun H locs hP hD hS => ?_)
  have hP : va_P D classes ([(h2, .inr (1, [.ref u.1, .ref u.2.1, .int (nI 0), .int (nI 0), .int (-1), .ref u.2.2.1, .ref u.2.2.2, .int (nI 0)])), (u.1, .inl (cI, 64, .inl (fun _ => 0))), (u.2.1, .inl (cJ, 13, .inr (.inl (vp_updL (fun _ => 0) (nI 0).toNatClampNeg (-1))))), (u.2.2.1, .inl (cI, 204, .inl (fun _ => 0))), (u.2.2.2, .inl (cI, 204, .inl (fun _ => 0))), (h1, .inr (2, [.ref h2, .long 0, .long 0, .long 0, .long 0, .long 0, .long 0]))]) H := hP
  have hD : va_D A ([(h2, .inr (1, [.ref u.1, .ref u.2.1, .int (nI 0), .int (nI 0), .int (-1), .ref u.2.2.1, .ref u.2.2.2, .int (nI 0)])), (u.1, .inl (cI, 64, .inl (fun _ => 0))), (u.2.1, .inl (cJ, 13, .inr (.inl (vp_updL (fun _ => 0) (nI 0).toNatClampNeg (-1))))), (u.2.2.1, .inl (cI, 204, .inl (fun _ => 0))), (u.2.2.2, .inl (cI, 204, .inl (fun _ => 0))), (h1, .inr (2, [.ref h2, .long 0, .long 0, .long 0, .long 0, .long 0, .long 0]))]) := hD
  refine lv_aload_n hx hb dX3_init_35 rfl (lv_at hl 0 rfl) ?_
  refine lv_lconst (v := 0) hx hb dX3_init_36 (by decide) ?_
  refine va_put (D := D) (ci := 2) (v := .long 0) (ty := .long) (C := RX3) (T := TX3) (N := 7) hx hb hG wu_X3 tyX3 tyX3_ok nmX3 hown hK hP hD hS 5 rfl rfl 5 (by decide) (hG _ wf_X3_31) (fun _ h9 => h9) rfl (by decide +kernel) rfl rfl (Nat.le_of_ble_eq_true rfl) dX3_init_37 (fun H locs hP hD hS => ?_)
  have hP : va_P D classes ([(h2, .inr (1, [.ref u.1, .ref u.2.1, .int (nI 0), .int (nI 0), .int (-1), .ref u.2.2.1, .ref u.2.2.2, .int (nI 0)])), (u.1, .inl (cI, 64, .inl (fun _ => 0))), (u.2.1, .inl (cJ, 13, .inr (.inl (vp_updL (fun _ => 0) (nI 0).toNatClampNeg (-1))))), (u.2.2.1, .inl (cI, 204, .inl (fun _ => 0))), (u.2.2.2, .inl (cI, 204, .inl (fun _ => 0))), (h1, .inr (2, [.ref h2, .long 0, .long 0, .long 0, .long 0, .long 0, .long 0]))]) H := hP
  have hD : va_D A ([(h2, .inr (1, [.ref u.1, .ref u.2.1, .int (nI 0), .int (nI 0), .int (-1), .ref u.2.2.1, .ref u.2.2.2, .int (nI 0)])), (u.1, .inl (cI, 64, .inl (fun _ => 0))), (u.2.1, .inl (cJ, 13, .inr (.inl (vp_updL (fun _ => 0) (nI 0).toNatClampNeg (-1))))), (u.2.2.1, .inl (cI, 204, .inl (fun _ => 0))), (u.2.2.2, .inl (cI, 204, .inl (fun _ => 0))), (h1, .inr (2, [.ref h2, .long 0, .long 0, .long 0, .long 0, .long 0, .long 0]))]) := hD
  refine lv_aload_n hx hb dX3_init_40 rfl (lv_at hl 0 rfl) ?_
  refine lv_lconst (v := 0) hx hb dX3_init_41 (by decide) ?_
  refine va_put (D := D) (ci := 2) (v := .long 0) (ty := .long) (C := RX3) (T := TX3) (N := 7) hx hb hG wu_X3 tyX3 tyX3_ok nmX3 hown hK hP hD hS 5 rfl rfl 6 (by decide) (hG _ wf_X3_34) (fun _ h9 => h9) rfl (by decide +kernel) rfl rfl (Nat.le_of_ble_eq_true rfl) dX3_init_42 (fun H locs hP hD hS => ?_)
  have hP : va_P D classes ([(h2, .inr (1, [.ref u.1, .ref u.2.1, .int (nI 0), .int (nI 0), .int (-1), .ref u.2.2.1, .ref u.2.2.2, .int (nI 0)])), (u.1, .inl (cI, 64, .inl (fun _ => 0))), (u.2.1, .inl (cJ, 13, .inr (.inl (vp_updL (fun _ => 0) (nI 0).toNatClampNeg (-1))))), (u.2.2.1, .inl (cI, 204, .inl (fun _ => 0))), (u.2.2.2, .inl (cI, 204, .inl (fun _ => 0))), (h1, .inr (2, [.ref h2, .long 0, .long 0, .long 0, .long 0, .long 0, .long 0]))]) H := hP
  have hD : va_D A ([(h2, .inr (1, [.ref u.1, .ref u.2.1, .int (nI 0), .int (nI 0), .int (-1), .ref u.2.2.1, .ref u.2.2.2, .int (nI 0)])), (u.1, .inl (cI, 64, .inl (fun _ => 0))), (u.2.1, .inl (cJ, 13, .inr (.inl (vp_updL (fun _ => 0) (nI 0).toNatClampNeg (-1))))), (u.2.2.1, .inl (cI, 204, .inl (fun _ => 0))), (u.2.2.2, .inl (cI, 204, .inl (fun _ => 0))), (h1, .inr (2, [.ref h2, .long 0, .long 0, .long 0, .long 0, .long 0, .long 0]))]) := hD
  exact weC ((h2, u)) hx hb hr hlocks dX3_init_45 trivial hP hD hK hA hE hS
abbrev cs0 : CS := ((bI false, bI false, 0, 0, 0, 0, 0, 0), (nI 0, nI 0, -1, nI 0), (fun _ => 0, vp_updL (fun _ => 0) (nI 0).toNatClampNeg (-1), fun _ => 0, fun _ => 0), nI 0, fun _ => 0, nI 0, fun _ => 0)
theorem dX4_init_0 : decode cX4_init 0 = .ok (.aload_n 0, 1) := by decide +kernel
theorem dX4_init_1 : decode cX4_init 1 = .ok (.invokespecial 3, 3) := by decide +kernel
theorem dX4_init_4 : decode cX4_init 4 = .ok (.aload_n 0, 1) := by decide +kernel
theorem dX4_init_5 : decode cX4_init 5 = .ok (.new 9, 3) := by decide +kernel
theorem dX4_init_8 : decode cX4_init 8 = .ok (.dup, 1) := by decide +kernel
theorem dX4_init_9 : decode cX4_init 9 = .ok (.invokespecial 11, 3) := by decide +kernel
theorem dX4_init_12 : decode cX4_init 12 = .ok (.putfield 12, 3) := by decide +kernel
theorem dX4_init_15 : decode cX4_init 15 = .ok (.aload_n 0, 1) := by decide +kernel
theorem dX4_init_16 : decode cX4_init 16 = .ok (.aload_n 0, 1) := by decide +kernel
theorem dX4_init_17 : decode cX4_init 17 = .ok (.getfield 12, 3) := by decide +kernel
theorem dX4_init_20 : decode cX4_init 20 = .ok (.getfield 16, 3) := by decide +kernel
theorem dX4_init_23 : decode cX4_init 23 = .ok (.putfield 20, 3) := by decide +kernel
theorem dX4_init_26 : decode cX4_init 26 = .ok (.aload_n 0, 1) := by decide +kernel
theorem dX4_init_27 : decode cX4_init 27 = .ok (.new 21, 3) := by decide +kernel
theorem dX4_init_30 : decode cX4_init 30 = .ok (.dup, 1) := by decide +kernel
theorem dX4_init_31 : decode cX4_init 31 = .ok (.invokespecial 23, 3) := by decide +kernel
theorem dX4_init_34 : decode cX4_init 34 = .ok (.putfield 24, 3) := by decide +kernel
theorem dX4_init_37 : decode cX4_init 37 = .ok (.aload_n 0, 1) := by decide +kernel
theorem dX4_init_38 : decode cX4_init 38 = .ok (.new 21, 3) := by decide +kernel
theorem dX4_init_41 : decode cX4_init 41 = .ok (.dup, 1) := by decide +kernel
theorem dX4_init_42 : decode cX4_init 42 = .ok (.invokespecial 23, 3) := by decide +kernel
theorem dX4_init_45 : decode cX4_init 45 = .ok (.putfield 28, 3) := by decide +kernel
theorem dX4_init_48 : decode cX4_init 48 = .ok (.aload_n 0, 1) := by decide +kernel
theorem dX4_init_49 : decode cX4_init 49 = .ok (.iconst 0, 1) := by decide +kernel
theorem dX4_init_50 : decode cX4_init 50 = .ok (.putfield 31, 3) := by decide +kernel
theorem dX4_init_53 : decode cX4_init 53 = .ok (.aload_n 0, 1) := by decide +kernel
theorem dX4_init_54 : decode cX4_init 54 = .ok (.iconst 0, 1) := by decide +kernel
theorem dX4_init_55 : decode cX4_init 55 = .ok (.putfield 35, 3) := by decide +kernel
theorem dX4_init_58 : decode cX4_init 58 = .ok (.return_, 1) := by decide +kernel
theorem hd_X4_init : yX4_init.cls ≠ "java/lang/invoke/MethodHandle" ∧ yX4_init.cls ≠ "java/lang/invoke/VarHandle" ∧ (parseMethodDescriptor yX4_init.desc).map (fun d => d.parameters.length) = some 0 := by decide +kernel
set_option maxHeartbeats 4000000 in
set_option maxRecDepth 100000 in
theorem c_X4_init (l : Launch) {D : va_G} {cI cJ : ClassId} {A : Nat → Prop} {h0 : Nat} : Met l yX4_init (Cond.code yX4_init cX4_init 1 none :: wsL_law) { frames := 3, cells := 10, slots := 1904, locals := 192 } (va_Pc [.ref h0] (IW D cI cJ A ([(h0, .inr (3, [.null, .null, .null, .null, .int 0, .int 0]))]))) (va_Qv (fun _ => True) (fun (u : Nat × (Nat × Nat × Nat × Nat × Nat) × (Nat × Nat × Nat × Nat)) t9 => IW D cI cJ A (cV cI cJ h0 u.1 u.2.1.1 u.2.1.2.1 u.2.1.2.2.1 u.2.1.2.2.2.1 u.2.1.2.2.2.2 u.2.2.1 u.2.2.2.1 u.2.2.2.2.1 u.2.2.2.2.2 cs0) t9) A) 10 1904 A := by
  refine entM (by decide) (Nat.le_of_ble_eq_true rfl) ?_
  intro p e s m below meth c ls S0 hr hlocks hG hnm hB hl
  have hx := S0.1
  have hb := S0.2.1
  have hown := S0.2.2.2.1
  have hl : lv_has ls 1 [(0, .ref h0)] := hl
  obtain ⟨hP, hD, hK, hA, hE⟩ := hB
  have hS : va_S A s.heap s.heap [] := va_S.rf
  refine lv_aload_n hx hb dX4_init_0 rfl (lv_at hl 0 rfl) ?_
  refine W.objInit hx hb hown (hG _ wm_X4_3) (hG _ wi_objectInit) (hG _ wc_objectInit) rfl (by rw [S0.2.2.1]; exact hl.1) rfl dX4_init_1 (Nat.le_of_ble_eq_true rfl) (Nat.le_of_ble_eq_true rfl) ?_
  refine W.eq (g2 := F0 m 4 ls []) rfl ?_
  refine lv_aload_n hx hb dX4_init_4 rfl (lv_at hl 0 rfl) ?_
  refine va_new (ci := 2) (fs := [.null, .long 0, .long 0, .long 0, .long 0, .long 0, .long 0]) (C := RX3) (T := TX3) (N := 7) hx hb hG wu_X3 tyX3 tyX3_ok hown (hG _ wl_X4_9) (hG _ wb_X3) (hG _ wn_X3) hK hP hD hS hA rfl (by decide) (by decide) (by decide) dX4_init_5 (fun h1 H hP hD hS => ?_)
  have hP : va_P D classes ([(h0, .inr (3, [.null, .null, .null, .null, .int 0, .int 0])), (h1, .inr (2, [.null, .long 0, .long 0, .long 0, .long 0, .long 0, .long 0]))]) H := hP
  have hD : va_D A ([(h0, .inr (3, [.null, .null, .null, .null, .int 0, .int 0])), (h1, .inr (2, [.null, .long 0, .long 0, .long 0, .long 0, .long 0, .long 0]))]) := hD
  refine lv_dup hx hb dX4_init_8 rfl ?_
  have hPr : va_P D classes ([(h1, .inr (2, [.null, .long 0, .long 0, .long 0, .long 0, .long 0, .long 0]))] ++ [(h0, .inr (3, [.null, .null, .null, .null, .int 0, .int 0]))]) H := va_P.rot (a := [(h0, .inr (3, [.null, .null, .null, .null, .int 0, .int 0]))]) (b := [(h1, .inr (2, [.null, .long 0, .long 0, .long 0, .long 0, .long 0, .long 0]))]) hP
  have hDr : va_D A ([(h1, .inr (2, [.null, .long 0, .long 0, .long 0, .long 0, .long 0, .long 0]))] ++ [(h0, .inr (3, [.null, .null, .null, .null, .int 0, .int 0]))]) := va_D.rot (a := [(h0, .inr (3, [.null, .null, .null, .null, .int 0, .int 0]))]) (b := [(h1, .inr (2, [.null, .long 0, .long 0, .long 0, .long 0, .long 0, .long 0]))]) hD
  refine ftV (A := A) (wc := [(h1, .inr (2, [.null, .long 0, .long 0, .long 0, .long 0, .long 0, .long 0]))]) (wr := [(h0, .inr (3, [.null, .null, .null, .null, .int 0, .int 0]))]) (rnI (As := []) (rest := [.ref h1, .ref h0]) S0 (c_X3_init l (A := va_A ([(h1, .inr (2, [.null, .long 0, .long 0, .long 0, .long 0, .long 0, .long 0]))]) H.size)) rfl wm_X4_11 wi_X3_init wn_X3 wc_X3_init hd_X3_init ⟨rfl, rfl, by decide, by decide⟩ IW.blind (IW.cut hPr hDr hK hA hE hS) hl.1 (Nat.le_of_ble_eq_true rfl) dX4_init_9 rfl ⟨by decide, by decide⟩) hPr hDr hA hS (fun u H locs hu hP hD hS => ?_)
  have hP : va_P D classes ([(u.1, .inr (1, [.ref u.2.1, .ref u.2.2.1, .int (nI 0), .int (nI 0), .int (-1), .ref u.2.2.2.1, .ref u.2.2.2.2, .int (nI 0)])), (u.2.1, .inl (cI, 64, .inl (fun _ => 0))), (u.2.2.1, .inl (cJ, 13, .inr (.inl (vp_updL (fun _ => 0) (nI 0).toNatClampNeg (-1))))), (u.2.2.2.1, .inl (cI, 204, .inl (fun _ => 0))), (u.2.2.2.2, .inl (cI, 204, .inl (fun _ => 0))), (h1, .inr (2, [.ref u.1, .long 0, .long 0, .long 0, .long 0, .long 0, .long 0])), (h0, .inr (3, [.null, .null, .null, .null, .int 0, .int 0]))]) H := hP
  have hD : va_D A ([(u.1, .inr (1, [.ref u.2.1, .ref u.2.2.1, .int (nI 0), .int (nI 0), .int (-1), .ref u.2.2.2.1, .ref u.2.2.2.2, .int (nI 0)])), (u.2.1, .inl (cI, 64, .inl (fun _ => 0))), (u.2.2.1, .inl (cJ, 13, .inr (.inl (vp_updL (fun _ => 0) (nI 0).toNatClampNeg (-1))))), (u.2.2.2.1, .inl (cI, 204, .inl (fun _ => 0))), (u.2.2.2.2, .inl (cI, 204, .inl (fun _ => 0))), (h1, .inr (2, [.ref u.1, .long 0, .long 0, .long 0, .long 0, .long 0, .long 0])), (h0, .inr (3, [.null, .null, .null, .null, .int 0, .int 0]))]) := hD
  refine va_putF (D := D) (ci := 3) (v := .ref h1) (ty := .object "MoveList$Sight") (C := RX4) (T := TX4) (N := 6) hx hb hG wu_X4 tyX4 tyX4_ok nmX4 hown hK hP hD hS 6 rfl rfl 0 (by decide) (hG _ wf_X4_12) (fun _ h9 => h9) rfl hnm rfl (by decide +kernel) rfl rfl (Nat.le_of_ble_eq_true rfl) dX4_init_12 (fun H locs hP hD hS => ?_)
  have hP : va_P D classes ([(u.1, .inr (1, [.ref u.2.1, .ref u.2.2.1, .int (nI 0), .int (nI 0), .int (-1), .ref u.2.2.2.1, .ref u.2.2.2.2, .int (nI 0)])), (u.2.1, .inl (cI, 64, .inl (fun _ => 0))), (u.2.2.1, .inl (cJ, 13, .inr (.inl (vp_updL (fun _ => 0) (nI 0).toNatClampNeg (-1))))), (u.2.2.2.1, .inl (cI, 204, .inl (fun _ => 0))), (u.2.2.2.2, .inl (cI, 204, .inl (fun _ => 0))), (h1, .inr (2, [.ref u.1, .long 0, .long 0, .long 0, .long 0, .long 0, .long 0])), (h0, .inr (3, [.ref h1, .null, .null, .null, .int 0, .int 0]))]) H := hP
  have hD : va_D A ([(u.1, .inr (1, [.ref u.2.1, .ref u.2.2.1, .int (nI 0), .int (nI 0), .int (-1), .ref u.2.2.2.1, .ref u.2.2.2.2, .int (nI 0)])), (u.2.1, .inl (cI, 64, .inl (fun _ => 0))), (u.2.2.1, .inl (cJ, 13, .inr (.inl (vp_updL (fun _ => 0) (nI 0).toNatClampNeg (-1))))), (u.2.2.2.1, .inl (cI, 204, .inl (fun _ => 0))), (u.2.2.2.2, .inl (cI, 204, .inl (fun _ => 0))), (h1, .inr (2, [.ref u.1, .long 0, .long 0, .long 0, .long 0, .long 0, .long 0])), (h0, .inr (3, [.ref h1, .null, .null, .null, .int 0, .int 0]))]) := hD
  refine lv_aload_n hx hb dX4_init_15 rfl (lv_at hl 0 rfl) ?_
  refine lv_aload_n hx hb dX4_init_16 rfl (lv_at hl 0 rfl) ?_
  refine va_get (D := D) (ci := 3) (v := .ref h1) (C := RX4) (T := TX4) (N := 6) hx hb hG wu_X4 hown hK hP 6 rfl rfl 0 (by decide) (hG _ wf_X4_12) (fun _ h9 => h9) rfl dX4_init_17 ?_
  refine va_get (D := D) (ci := 2) (v := .ref u.1) (C := RX3) (T := TX3) (N := 7) hx hb hG wu_X3 hown hK hP 5 rfl rfl 0 (by decide) (hG _ wf_X4_16) (fun _ h9 => h9) rfl dX4_init_20 ?_
  refine va_putF (D := D) (ci := 3) (v := .ref u.1) (ty := .object "MoveList$Position") (C := RX4) (T := TX4) (N := 6) hx hb hG wu_X4 tyX4 tyX4_ok nmX4 hown hK hP hD hS 6 rfl rfl 1 (by decide) (hG _ wf_X4_20) (fun _ h9 => h9) rfl hnm rfl (by decide +kernel) rfl rfl (Nat.le_of_ble_eq_true rfl) dX4_init_23 (fun H locs hP hD hS => ?_)
  have hP : va_P D classes ([(u.1, .inr (1, [.ref u.2.1, .ref u.2.2.1, .int (nI 0), .int (nI 0), .int (-1), .ref u.2.2.2.1, .ref u.2.2.2.2, .int (nI 0)])), (u.2.1, .inl (cI, 64, .inl (fun _ => 0))), (u.2.2.1, .inl (cJ, 13, .inr (.inl (vp_updL (fun _ => 0) (nI 0).toNatClampNeg (-1))))), (u.2.2.2.1, .inl (cI, 204, .inl (fun _ => 0))), (u.2.2.2.2, .inl (cI, 204, .inl (fun _ => 0))), (h1, .inr (2, [.ref u.1, .long 0, .long 0, .long 0, .long 0, .long 0, .long 0])), (h0, .inr (3, [.ref h1, .ref u.1, .null, .null, .int 0, .int 0]))]) H := hP
  have hD : va_D A ([(u.1, .inr (1, [.ref u.2.1, .ref u.2.2.1, .int (nI 0), .int (nI 0), .int (-1), .ref u.2.2.2.1, .ref u.2.2.2.2, .int (nI 0)])), (u.2.1, .inl (cI, 64, .inl (fun _ => 0))), (u.2.2.1, .inl (cJ, 13, .inr (.inl (vp_updL (fun _ => 0) (nI 0).toNatClampNeg (-1))))), (u.2.2.2.1, .inl (cI, 204, .inl (fun _ => 0))), (u.2.2.2.2, .inl (cI, 204, .inl (fun _ => 0))), (h1, .inr (2, [.ref u.1, .long 0, .long 0, .long 0, .long 0, .long 0, .long 0])), (h0, .inr (3, [.ref h1, .ref u.1, .null, .null, .int 0, .int 0]))]) := hD
  refine lv_aload_n hx hb dX4_init_26 rfl (lv_at hl 0 rfl) ?_
  refine va_new (ci := 0) (fs := [.null, .int 0]) (C := RX1) (T := TX1) (N := 2) hx hb hG wu_X1 tyX1 tyX1_ok hown (hG _ wl_X4_21) (hG _ wb_X1) (hG _ wn_X1) hK hP hD hS hA rfl (by decide) (by decide) (by decide) dX4_init_27 (fun h3 H hP hD hS => ?_)
  have hP : va_P D classes ([(u.1, .inr (1, [.ref u.2.1, .ref u.2.2.1, .int (nI 0), .int (nI 0), .int (-1), .ref u.2.2.2.1, .ref u.2.2.2.2, .int (nI 0)])), (u.2.1, .inl (cI, 64, .inl (fun _ => 0))), (u.2.2.1, .inl (cJ, 13, .inr (.inl (vp_updL (fun _ => 0) (nI 0).toNatClampNeg (-1))))), (u.2.2.2.1, .inl (cI, 204, .inl (fun _ => 0))), (u.2.2.2.2, .inl (cI, 204, .inl (fun _ => 0))), (h1, .inr (2, [.ref u.1, .long 0, .long 0, .long 0, .long 0, .long 0, .long 0])), (h0, .inr (3, [.ref h1, .ref u.1, .null, .null, .int 0, .int 0])), (h3, .inr (0, [.null, .int 0]))]) H := hP
  have hD : va_D A ([(u.1, .inr (1, [.ref u.2.1, .ref u.2.2.1, .int (nI 0), .int (nI 0), .int (-1), .ref u.2.2.2.1, .ref u.2.2.2.2, .int (nI 0)])), (u.2.1, .inl (cI, 64, .inl (fun _ => 0))), (u.2.2.1, .inl (cJ, 13, .inr (.inl (vp_updL (fun _ => 0) (nI 0).toNatClampNeg (-1))))), (u.2.2.2.1, .inl (cI, 204, .inl (fun _ => 0))), (u.2.2.2.2, .inl (cI, 204, .inl (fun _ => 0))), (h1, .inr (2, [.ref u.1, .long 0, .long 0, .long 0, .long 0, .long 0, .long 0])), (h0, .inr (3, [.ref h1, .ref u.1, .null, .null, .int 0, .int 0])), (h3, .inr (0, [.null, .int 0]))]) := hD
  refine lv_dup hx hb dX4_init_30 rfl ?_
  have hPr : va_P D classes ([(h3, .inr (0, [.null, .int 0]))] ++ [(u.1, .inr (1, [.ref u.2.1, .ref u.2.2.1, .int (nI 0), .int (nI 0), .int (-1), .ref u.2.2.2.1, .ref u.2.2.2.2, .int (nI 0)])), (u.2.1, .inl (cI, 64, .inl (fun _ => 0))), (u.2.2.1, .inl (cJ, 13, .inr (.inl (vp_updL (fun _ => 0) (nI 0).toNatClampNeg (-1))))), (u.2.2.2.1, .inl (cI, 204, .inl (fun _ => 0))), (u.2.2.2.2, .inl (cI, 204, .inl (fun _ => 0))), (h1, .inr (2, [.ref u.1, .long 0, .long 0, .long 0, .long 0, .long 0, .long 0])), (h0, .inr (3, [.ref h1, .ref u.1, .null, .null, .int 0, .int 0]))]) H := va_P.rot (a := [(u.1, .inr (1, [.ref u.2.1, .ref u.2.2.1, .int (nI 0), .int (nI 0), .int (-1), .ref u.2.2.2.1, .ref u.2.2.2.2, .int (nI 0)])), (u.2.1, .inl (cI, 64, .inl (fun _ => 0))), (u.2.2.1, .inl (cJ, 13, .inr (.inl (vp_updL (fun _ => 0) (nI 0).toNatClampNeg (-1))))), (u.2.2.2.1, .inl (cI, 204, .inl (fun _ => 0))), (u.2.2.2.2, .inl (cI, 204, .inl (fun _ => 0))), (h1, .inr (2, [.ref u.1, .long 0, .long 0, .long 0, .long 0, .long 0, .long 0])), (h0, .inr (3, [.ref h1, .ref u.1, .null, .null, .int 0, .int 0]))]) (b := [(h3, .inr (0, [.null, .int 0]))]) hP
  have hDr : va_D A ([(h3, .inr (0, [.null, .int 0]))] ++ [(u.1, .inr (1, [.ref u.2.1, .ref u.2.2.1, .int (nI 0), .int (nI 0), .int (-1), .ref u.2.2.2.1, .ref u.2.2.2.2, .int (nI 0)])), (u.2.1, .inl (cI, 64, .inl (fun _ => 0))), (u.2.2.1, .inl (cJ, 13, .inr (.inl (vp_updL (fun _ => 0) (nI 0).toNatClampNeg (-1))))), (u.2.2.2.1, .inl (cI, 204, .inl (fun _ => 0))), (u.2.2.2.2, .inl (cI, 204, .inl (fun _ => 0))), (h1, .inr (2, [.ref u.1, .long 0, .long 0, .long 0, .long 0, .long 0, .long 0])), (h0, .inr (3, [.ref h1, .ref u.1, .null, .null, .int 0, .int 0]))]) := va_D.rot (a := [(u.1, .inr (1, [.ref u.2.1, .ref u.2.2.1, .int (nI 0), .int (nI 0), .int (-1), .ref u.2.2.2.1, .ref u.2.2.2.2, .int (nI 0)])), (u.2.1, .inl (cI, 64, .inl (fun _ => 0))), (u.2.2.1, .inl (cJ, 13, .inr (.inl (vp_updL (fun _ => 0) (nI 0).toNatClampNeg (-1))))), (u.2.2.2.1, .inl (cI, 204, .inl (fun _ => 0))), (u.2.2.2.2, .inl (cI, 204, .inl (fun _ => 0))), (h1, .inr (2, [.ref u.1, .long 0, .long 0, .long 0, .long 0, .long 0, .long 0])), (h0, .inr (3, [.ref h1, .ref u.1, .null, .null, .int 0, .int 0]))]) (b := [(h3, .inr (0, [.null, .int 0]))]) hD
  refine ftV (A := A) (wc := [(h3, .inr (0, [.null, .int 0]))]) (wr := [(u.1, .inr (1, [.ref u.2.1, .ref u.2.2.1, .int (nI 0), .int (nI 0), .int (-1), .ref u.2.2.2.1, .ref u.2.2.2.2, .int (nI 0)])), (u.2.1, .inl (cI, 64, .inl (fun _ => 0))), (u.2.2.1, .inl (cJ, 13, .inr (.inl (vp_updL (fun _ => 0) (nI 0).toNatClampNeg (-1))))), (u.2.2.2.1, .inl (cI, 204, .inl (fun _ => 0))), (u.2.2.2.2, .inl (cI, 204, .inl (fun _ => 0))), (h1, .inr (2, [.ref u.1, .long 0, .long 0, .long 0, .long 0, .long 0, .long 0])), (h0, .inr (3, [.ref h1, .ref u.1, .null, .null, .int 0, .int 0]))]) (rnI (As := []) (rest := [.ref h3, .ref h0]) S0 (c_X1_init l (A := va_A ([(h3, .inr (0, [.null, .int 0]))]) H.size)) rfl wm_X4_23 wi_X1_init wn_X1 wc_X1_init hd_X1_init ⟨rfl, rfl, by decide, by decide⟩ IW.blind (IW.cut hPr hDr hK hA hE hS) hl.1 (Nat.le_of_ble_eq_true rfl) dX4_init_31 rfl ⟨by decide, by decide⟩) hPr hDr hA hS (fun v H locs hu hP hD hS => ?_)
  have hP : va_P D classes ([(h3, .inr (0, [.ref v, .int (nI 0)])), (v, .inl (cI, 700, .inl (fun _ => 0))), (u.1, .inr (1, [.ref u.2.1, .ref u.2.2.1, .int (nI 0), .int (nI 0), .int (-1), .ref u.2.2.2.1, .ref u.2.2.2.2, .int (nI 0)])), (u.2.1, .inl (cI, 64, .inl (fun _ => 0))), (u.2.2.1, .inl (cJ, 13, .inr (.inl (vp_updL (fun _ => 0) (nI 0).toNatClampNeg (-1))))), (u.2.2.2.1, .inl (cI, 204, .inl (fun _ => 0))), (u.2.2.2.2, .inl (cI, 204, .inl (fun _ => 0))), (h1, .inr (2, [.ref u.1, .long 0, .long 0, .long 0, .long 0, .long 0, .long 0])), (h0, .inr (3, [.ref h1, .ref u.1, .null, .null, .int 0, .int 0]))]) H := hP
  have hD : va_D A ([(h3, .inr (0, [.ref v, .int (nI 0)])), (v, .inl (cI, 700, .inl (fun _ => 0))), (u.1, .inr (1, [.ref u.2.1, .ref u.2.2.1, .int (nI 0), .int (nI 0), .int (-1), .ref u.2.2.2.1, .ref u.2.2.2.2, .int (nI 0)])), (u.2.1, .inl (cI, 64, .inl (fun _ => 0))), (u.2.2.1, .inl (cJ, 13, .inr (.inl (vp_updL (fun _ => 0) (nI 0).toNatClampNeg (-1))))), (u.2.2.2.1, .inl (cI, 204, .inl (fun _ => 0))), (u.2.2.2.2, .inl (cI, 204, .inl (fun _ => 0))), (h1, .inr (2, [.ref u.1, .long 0, .long 0, .long 0, .long 0, .long 0, .long 0])), (h0, .inr (3, [.ref h1, .ref u.1, .null, .null, .int 0, .int 0]))]) := hD
  refine va_putF (D := D) (ci := 3) (v := .ref h3) (ty := .object "MoveList$Moves") (C := RX4) (T := TX4) (N := 6) hx hb hG wu_X4 tyX4 tyX4_ok nmX4 hown hK hP hD hS 8 rfl rfl 2 (by decide) (hG _ wf_X4_24) (fun _ h9 => h9) rfl hnm rfl (by decide +kernel) rfl rfl (Nat.le_of_ble_eq_true rfl) dX4_init_34 (fun H locs hP hD hS => ?_)
  have hP : va_P D classes ([(h3, .inr (0, [.ref v, .int (nI 0)])), (v, .inl (cI, 700, .inl (fun _ => 0))), (u.1, .inr (1, [.ref u.2.1, .ref u.2.2.1, .int (nI 0), .int (nI 0), .int (-1), .ref u.2.2.2.1, .ref u.2.2.2.2, .int (nI 0)])), (u.2.1, .inl (cI, 64, .inl (fun _ => 0))), (u.2.2.1, .inl (cJ, 13, .inr (.inl (vp_updL (fun _ => 0) (nI 0).toNatClampNeg (-1))))), (u.2.2.2.1, .inl (cI, 204, .inl (fun _ => 0))), (u.2.2.2.2, .inl (cI, 204, .inl (fun _ => 0))), (h1, .inr (2, [.ref u.1, .long 0, .long 0, .long 0, .long 0, .long 0, .long 0])), (h0, .inr (3, [.ref h1, .ref u.1, .ref h3, .null, .int 0, .int 0]))]) H := hP
  have hD : va_D A ([(h3, .inr (0, [.ref v, .int (nI 0)])), (v, .inl (cI, 700, .inl (fun _ => 0))), (u.1, .inr (1, [.ref u.2.1, .ref u.2.2.1, .int (nI 0), .int (nI 0), .int (-1), .ref u.2.2.2.1, .ref u.2.2.2.2, .int (nI 0)])), (u.2.1, .inl (cI, 64, .inl (fun _ => 0))), (u.2.2.1, .inl (cJ, 13, .inr (.inl (vp_updL (fun _ => 0) (nI 0).toNatClampNeg (-1))))), (u.2.2.2.1, .inl (cI, 204, .inl (fun _ => 0))), (u.2.2.2.2, .inl (cI, 204, .inl (fun _ => 0))), (h1, .inr (2, [.ref u.1, .long 0, .long 0, .long 0, .long 0, .long 0, .long 0])), (h0, .inr (3, [.ref h1, .ref u.1, .ref h3, .null, .int 0, .int 0]))]) := hD
  refine lv_aload_n hx hb dX4_init_37 rfl (lv_at hl 0 rfl) ?_
  refine va_new (ci := 0) (fs := [.null, .int 0]) (C := RX1) (T := TX1) (N := 2) hx hb hG wu_X1 tyX1 tyX1_ok hown (hG _ wl_X4_21) (hG _ wb_X1) (hG _ wn_X1) hK hP hD hS hA rfl (by decide) (by decide) (by decide) dX4_init_38 (fun h4 H hP hD hS => ?_)
  have hP : va_P D classes ([(h3, .inr (0, [.ref v, .int (nI 0)])), (v, .inl (cI, 700, .inl (fun _ => 0))), (u.1, .inr (1, [.ref u.2.1, .ref u.2.2.1, .int (nI 0), .int (nI 0), .int (-1), .ref u.2.2.2.1, .ref u.2.2.2.2, .int (nI 0)])), (u.2.1, .inl (cI, 64, .inl (fun _ => 0))), (u.2.2.1, .inl (cJ, 13, .inr (.inl (vp_updL (fun _ => 0) (nI 0).toNatClampNeg (-1))))), (u.2.2.2.1, .inl (cI, 204, .inl (fun _ => 0))), (u.2.2.2.2, .inl (cI, 204, .inl (fun _ => 0))), (h1, .inr (2, [.ref u.1, .long 0, .long 0, .long 0, .long 0, .long 0, .long 0])), (h0, .inr (3, [.ref h1, .ref u.1, .ref h3, .null, .int 0, .int 0])), (h4, .inr (0, [.null, .int 0]))]) H := hP
  have hD : va_D A ([(h3, .inr (0, [.ref v, .int (nI 0)])), (v, .inl (cI, 700, .inl (fun _ => 0))), (u.1, .inr (1, [.ref u.2.1, .ref u.2.2.1, .int (nI 0), .int (nI 0), .int (-1), .ref u.2.2.2.1, .ref u.2.2.2.2, .int (nI 0)])), (u.2.1, .inl (cI, 64, .inl (fun _ => 0))), (u.2.2.1, .inl (cJ, 13, .inr (.inl (vp_updL (fun _ => 0) (nI 0).toNatClampNeg (-1))))), (u.2.2.2.1, .inl (cI, 204, .inl (fun _ => 0))), (u.2.2.2.2, .inl (cI, 204, .inl (fun _ => 0))), (h1, .inr (2, [.ref u.1, .long 0, .long 0, .long 0, .long 0, .long 0, .long 0])), (h0, .inr (3, [.ref h1, .ref u.1, .ref h3, .null, .int 0, .int 0])), (h4, .inr (0, [.null, .int 0]))]) := hD
  refine lv_dup hx hb dX4_init_41 rfl ?_
  have hPr : va_P D classes ([(h4, .inr (0, [.null, .int 0]))] ++ [(h3, .inr (0, [.ref v, .int (nI 0)])), (v, .inl (cI, 700, .inl (fun _ => 0))), (u.1, .inr (1, [.ref u.2.1, .ref u.2.2.1, .int (nI 0), .int (nI 0), .int (-1), .ref u.2.2.2.1, .ref u.2.2.2.2, .int (nI 0)])), (u.2.1, .inl (cI, 64, .inl (fun _ => 0))), (u.2.2.1, .inl (cJ, 13, .inr (.inl (vp_updL (fun _ => 0) (nI 0).toNatClampNeg (-1))))), (u.2.2.2.1, .inl (cI, 204, .inl (fun _ => 0))), (u.2.2.2.2, .inl (cI, 204, .inl (fun _ => 0))), (h1, .inr (2, [.ref u.1, .long 0, .long 0, .long 0, .long 0, .long 0, .long 0])), (h0, .inr (3, [.ref h1, .ref u.1, .ref h3, .null, .int 0, .int 0]))]) H := va_P.rot (a := [(h3, .inr (0, [.ref v, .int (nI 0)])), (v, .inl (cI, 700, .inl (fun _ => 0))), (u.1, .inr (1, [.ref u.2.1, .ref u.2.2.1, .int (nI 0), .int (nI 0), .int (-1), .ref u.2.2.2.1, .ref u.2.2.2.2, .int (nI 0)])), (u.2.1, .inl (cI, 64, .inl (fun _ => 0))), (u.2.2.1, .inl (cJ, 13, .inr (.inl (vp_updL (fun _ => 0) (nI 0).toNatClampNeg (-1))))), (u.2.2.2.1, .inl (cI, 204, .inl (fun _ => 0))), (u.2.2.2.2, .inl (cI, 204, .inl (fun _ => 0))), (h1, .inr (2, [.ref u.1, .long 0, .long 0, .long 0, .long 0, .long 0, .long 0])), (h0, .inr (3, [.ref h1, .ref u.1, .ref h3, .null, .int 0, .int 0]))]) (b := [(h4, .inr (0, [.null, .int 0]))]) hP
  have hDr : va_D A ([(h4, .inr (0, [.null, .int 0]))] ++ [(h3, .inr (0, [.ref v, .int (nI 0)])), (v, .inl (cI, 700, .inl (fun _ => 0))), (u.1, .inr (1, [.ref u.2.1, .ref u.2.2.1, .int (nI 0), .int (nI 0), .int (-1), .ref u.2.2.2.1, .ref u.2.2.2.2, .int (nI 0)])), (u.2.1, .inl (cI, 64, .inl (fun _ => 0))), (u.2.2.1, .inl (cJ, 13, .inr (.inl (vp_updL (fun _ => 0) (nI 0).toNatClampNeg (-1))))), (u.2.2.2.1, .inl (cI, 204, .inl (fun _ => 0))), (u.2.2.2.2, .inl (cI, 204, .inl (fun _ => 0))), (h1, .inr (2, [.ref u.1, .long 0, .long 0, .long 0, .long 0, .long 0, .long 0])), (h0, .inr (3, [.ref h1, .ref u.1, .ref h3, .null, .int 0, .int 0]))]) := va_D.rot (a := [(h3, .inr (0, [.ref v, .int (nI 0)])), (v, .inl (cI, 700, .inl (fun _ => 0))), (u.1, .inr (1, [.ref u.2.1, .ref u.2.2.1, .int (nI 0), .int (nI 0), .int (-1), .ref u.2.2.2.1, .ref u.2.2.2.2, .int (nI 0)])), (u.2.1, .inl (cI, 64, .inl (fun _ => 0))), (u.2.2.1, .inl (cJ, 13, .inr (.inl (vp_updL (fun _ => 0) (nI 0).toNatClampNeg (-1))))), (u.2.2.2.1, .inl (cI, 204, .inl (fun _ => 0))), (u.2.2.2.2, .inl (cI, 204, .inl (fun _ => 0))), (h1, .inr (2, [.ref u.1, .long 0, .long 0, .long 0, .long 0, .long 0, .long 0])), (h0, .inr (3, [.ref h1, .ref u.1, .ref h3, .null, .int 0, .int 0]))]) (b := [(h4, .inr (0, [.null, .int 0]))]) hD
  refine ftV (A := A) (wc := [(h4, .inr (0, [.null, .int 0]))]) (wr := [(h3, .inr (0, [.ref v, .int (nI 0)])), (v, .inl (cI, 700, .inl (fun _ => 0))), (u.1, .inr (1, [.ref u.2.1, .ref u.2.2.1, .int (nI 0), .int (nI 0), .int (-1), .ref u.2.2.2.1, .ref u.2.2.2.2, .int (nI 0)])), (u.2.1, .inl (cI, 64, .inl (fun _ => 0))), (u.2.2.1, .inl (cJ, 13, .inr (.inl (vp_updL (fun _ => 0) (nI 0).toNatClampNeg (-1))))), (u.2.2.2.1, .inl (cI, 204, .inl (fun _ => 0))), (u.2.2.2.2, .inl (cI, 204, .inl (fun _ => 0))), (h1, .inr (2, [.ref u.1, .long 0, .long 0, .long 0, .long 0, .long 0, .long 0])), (h0, .inr (3, [.ref h1, .ref u.1, .ref h3, .null, .int 0, .int 0]))]) (rnI (As := []) (rest := [.ref h4, .ref h0]) S0 (c_X1_init l (A := va_A ([(h4, .inr (0, [.null, .int 0]))]) H.size)) rfl wm_X4_23 wi_X1_init wn_X1 wc_X1_init hd_X1_init ⟨rfl, rfl, by decide, by decide⟩ IW.blind (IW.cut hPr hDr hK hA hE hS) hl.1 (Nat.le_of_ble_eq_true rfl) dX4_init_42 rfl ⟨by decide, by decide⟩) hPr hDr hA hS (fun w H locs hu hP hD hS => ?_)
  have hP : va_P D classes ([(h4, .inr (0, [.ref w, .int (nI 0)])), (w, .inl (cI, 700, .inl (fun _ => 0))), (h3, .inr (0, [.ref v, .int (nI 0)])), (v, .inl (cI, 700, .inl (fun _ => 0))), (u.1, .inr (1, [.ref u.2.1, .ref u.2.2.1, .int (nI 0), .int (nI 0), .int (-1), .ref u.2.2.2.1, .ref u.2.2.2.2, .int (nI 0)])), (u.2.1, .inl (cI, 64, .inl (fun _ => 0))), (u.2.2.1, .inl (cJ, 13, .inr (.inl (vp_updL (fun _ => 0) (nI 0).toNatClampNeg (-1))))), (u.2.2.2.1, .inl (cI, 204, .inl (fun _ => 0))), (u.2.2.2.2, .inl (cI, 204, .inl (fun _ => 0))), (h1, .inr (2, [.ref u.1, .long 0, .long 0, .long 0, .long 0, .long 0, .long 0])), (h0, .inr (3, [.ref h1, .ref u.1, .ref h3, .null, .int 0, .int 0]))]) H := hP
  have hD : va_D A ([(h4, .inr (0, [.ref w, .int (nI 0)])), (w, .inl (cI, 700, .inl (fun _ => 0))), (h3, .inr (0, [.ref v, .int (nI 0)])), (v, .inl (cI, 700, .inl (fun _ => 0))), (u.1, .inr (1, [.ref u.2.1, .ref u.2.2.1, .int (nI 0), .int (nI 0), .int (-1), .ref u.2.2.2.1, .ref u.2.2.2.2, .int (nI 0)])), (u.2.1, .inl (cI, 64, .inl (fun _ => 0))), (u.2.2.1, .inl (cJ, 13, .inr (.inl (vp_updL (fun _ => 0) (nI 0).toNatClampNeg (-1))))), (u.2.2.2.1, .inl (cI, 204, .inl (fun _ => 0))), (u.2.2.2.2, .inl (cI, 204, .inl (fun _ => 0))), (h1, .inr (2, [.ref u.1, .long 0, .long 0, .long 0, .long 0, .long 0, .long 0])), (h0, .inr (3, [.ref h1, .ref u.1, .ref h3, .null, .int 0, .int 0]))]) := hD
  refine va_putF (D := D) (ci := 3) (v := .ref h4) (ty := .object "MoveList$Moves") (C := RX4) (T := TX4) (N := 6) hx hb hG wu_X4 tyX4 tyX4_ok nmX4 hown hK hP hD hS 10 rfl rfl 3 (by decide) (hG _ wf_X4_28) (fun _ h9 => h9) rfl hnm rfl (by decide +kernel) rfl rfl (Nat.le_of_ble_eq_true rfl) dX4_init_45 (fun H locs hP hD hS => ?_)
  have hP : va_P D classes ([(h4, .inr (0, [.ref w, .int (nI 0)])), (w, .inl (cI, 700, .inl (fun _ => 0))), (h3, .inr (0, [.ref v, .int (nI 0)])), (v, .inl (cI, 700, .inl (fun _ => 0))), (u.1, .inr (1, [.ref u.2.1, .ref u.2.2.1, .int (nI 0), .int (nI 0), .int (-1), .ref u.2.2.2.1, .ref u.2.2.2.2, .int (nI 0)])), (u.2.1, .inl (cI, 64, .inl (fun _ => 0))), (u.2.2.1, .inl (cJ, 13, .inr (.inl (vp_updL (fun _ => 0) (nI 0).toNatClampNeg (-1))))), (u.2.2.2.1, .inl (cI, 204, .inl (fun _ => 0))), (u.2.2.2.2, .inl (cI, 204, .inl (fun _ => 0))), (h1, .inr (2, [.ref u.1, .long 0, .long 0, .long 0, .long 0, .long 0, .long 0])), (h0, .inr (3, [.ref h1, .ref u.1, .ref h3, .ref h4, .int 0, .int 0]))]) H := hP
  have hD : va_D A ([(h4, .inr (0, [.ref w, .int (nI 0)])), (w, .inl (cI, 700, .inl (fun _ => 0))), (h3, .inr (0, [.ref v, .int (nI 0)])), (v, .inl (cI, 700, .inl (fun _ => 0))), (u.1, .inr (1, [.ref u.2.1, .ref u.2.2.1, .int (nI 0), .int (nI 0), .int (-1), .ref u.2.2.2.1, .ref u.2.2.2.2, .int (nI 0)])), (u.2.1, .inl (cI, 64, .inl (fun _ => 0))), (u.2.2.1, .inl (cJ, 13, .inr (.inl (vp_updL (fun _ => 0) (nI 0).toNatClampNeg (-1))))), (u.2.2.2.1, .inl (cI, 204, .inl (fun _ => 0))), (u.2.2.2.2, .inl (cI, 204, .inl (fun _ => 0))), (h1, .inr (2, [.ref u.1, .long 0, .long 0, .long 0, .long 0, .long 0, .long 0])), (h0, .inr (3, [.ref h1, .ref u.1, .ref h3, .ref h4, .int 0, .int 0]))]) := hD
  refine lv_aload_n hx hb dX4_init_48 rfl (lv_at hl 0 rfl) ?_
  refine lv_iconst (v := nI 0) hx hb dX4_init_49 (by decide) ?_
  refine va_put (D := D) (ci := 3) (v := .int (bI false)) (ty := .boolean) (C := RX4) (T := TX4) (N := 6) hx hb hG wu_X4 tyX4 tyX4_ok nmX4 hown hK hP hD hS 10 rfl rfl 4 (by decide) (hG _ wf_X4_31) (fun _ h9 => h9) rfl (by decide +kernel) rfl rfl (Nat.le_of_ble_eq_true rfl) dX4_init_50 (fun H locs hP hD hS => ?_)
  have hP : va_P D classes ([(h4, .inr (0, [.ref w, .int (nI 0)])), (w, .inl (cI, 700, .inl (fun _ => 0))), (h3, .inr (0, [.ref v, .int (nI 0)])), (v, .inl (cI, 700, .inl (fun _ => 0))), (u.1, .inr (1, [.ref u.2.1, .ref u.2.2.1, .int (nI 0), .int (nI 0), .int (-1), .ref u.2.2.2.1, .ref u.2.2.2.2, .int (nI 0)])), (u.2.1, .inl (cI, 64, .inl (fun _ => 0))), (u.2.2.1, .inl (cJ, 13, .inr (.inl (vp_updL (fun _ => 0) (nI 0).toNatClampNeg (-1))))), (u.2.2.2.1, .inl (cI, 204, .inl (fun _ => 0))), (u.2.2.2.2, .inl (cI, 204, .inl (fun _ => 0))), (h1, .inr (2, [.ref u.1, .long 0, .long 0, .long 0, .long 0, .long 0, .long 0])), (h0, .inr (3, [.ref h1, .ref u.1, .ref h3, .ref h4, .int (bI false), .int 0]))]) H := hP
  have hD : va_D A ([(h4, .inr (0, [.ref w, .int (nI 0)])), (w, .inl (cI, 700, .inl (fun _ => 0))), (h3, .inr (0, [.ref v, .int (nI 0)])), (v, .inl (cI, 700, .inl (fun _ => 0))), (u.1, .inr (1, [.ref u.2.1, .ref u.2.2.1, .int (nI 0), .int (nI 0), .int (-1), .ref u.2.2.2.1, .ref u.2.2.2.2, .int (nI 0)])), (u.2.1, .inl (cI, 64, .inl (fun _ => 0))), (u.2.2.1, .inl (cJ, 13, .inr (.inl (vp_updL (fun _ => 0) (nI 0).toNatClampNeg (-1))))), (u.2.2.2.1, .inl (cI, 204, .inl (fun _ => 0))), (u.2.2.2.2, .inl (cI, 204, .inl (fun _ => 0))), (h1, .inr (2, [.ref u.1, .long 0, .long 0, .long 0, .long 0, .long 0, .long 0])), (h0, .inr (3, [.ref h1, .ref u.1, .ref h3, .ref h4, .int (bI false), .int 0]))]) := hD
  refine lv_aload_n hx hb dX4_init_53 rfl (lv_at hl 0 rfl) ?_
  refine lv_iconst (v := nI 0) hx hb dX4_init_54 (by decide) ?_
  refine va_put (D := D) (ci := 3) (v := .int (bI false)) (ty := .boolean) (C := RX4) (T := TX4) (N := 6) hx hb hG wu_X4 tyX4 tyX4_ok nmX4 hown hK hP hD hS 10 rfl rfl 5 (by decide) (hG _ wf_X4_35) (fun _ h9 => h9) rfl (by decide +kernel) rfl rfl (Nat.le_of_ble_eq_true rfl) dX4_init_55 (fun H locs hP hD hS => ?_)
  have hP : va_P D classes ([(h4, .inr (0, [.ref w, .int (nI 0)])), (w, .inl (cI, 700, .inl (fun _ => 0))), (h3, .inr (0, [.ref v, .int (nI 0)])), (v, .inl (cI, 700, .inl (fun _ => 0))), (u.1, .inr (1, [.ref u.2.1, .ref u.2.2.1, .int (nI 0), .int (nI 0), .int (-1), .ref u.2.2.2.1, .ref u.2.2.2.2, .int (nI 0)])), (u.2.1, .inl (cI, 64, .inl (fun _ => 0))), (u.2.2.1, .inl (cJ, 13, .inr (.inl (vp_updL (fun _ => 0) (nI 0).toNatClampNeg (-1))))), (u.2.2.2.1, .inl (cI, 204, .inl (fun _ => 0))), (u.2.2.2.2, .inl (cI, 204, .inl (fun _ => 0))), (h1, .inr (2, [.ref u.1, .long 0, .long 0, .long 0, .long 0, .long 0, .long 0])), (h0, .inr (3, [.ref h1, .ref u.1, .ref h3, .ref h4, .int (bI false), .int (bI false)]))]) H := hP
  have hD : va_D A ([(h4, .inr (0, [.ref w, .int (nI 0)])), (w, .inl (cI, 700, .inl (fun _ => 0))), (h3, .inr (0, [.ref v, .int (nI 0)])), (v, .inl (cI, 700, .inl (fun _ => 0))), (u.1, .inr (1, [.ref u.2.1, .ref u.2.2.1, .int (nI 0), .int (nI 0), .int (-1), .ref u.2.2.2.1, .ref u.2.2.2.2, .int (nI 0)])), (u.2.1, .inl (cI, 64, .inl (fun _ => 0))), (u.2.2.1, .inl (cJ, 13, .inr (.inl (vp_updL (fun _ => 0) (nI 0).toNatClampNeg (-1))))), (u.2.2.2.1, .inl (cI, 204, .inl (fun _ => 0))), (u.2.2.2.2, .inl (cI, 204, .inl (fun _ => 0))), (h1, .inr (2, [.ref u.1, .long 0, .long 0, .long 0, .long 0, .long 0, .long 0])), (h0, .inr (3, [.ref h1, .ref u.1, .ref h3, .ref h4, .int (bI false), .int (bI false)]))]) := hD
  have hP : va_P D classes ([(h0, .inr (3, [.ref h1, .ref u.1, .ref h3, .ref h4, .int (bI false), .int (bI false)])), (h1, .inr (2, [.ref u.1, .long 0, .long 0, .long 0, .long 0, .long 0, .long 0])), (u.1, .inr (1, [.ref u.2.1, .ref u.2.2.1, .int (nI 0), .int (nI 0), .int (-1), .ref u.2.2.2.1, .ref u.2.2.2.2, .int (nI 0)])), (u.2.1, .inl (cI, 64, .inl (fun _ => 0))), (u.2.2.1, .inl (cJ, 13, .inr (.inl (vp_updL (fun _ => 0) (nI 0).toNatClampNeg (-1))))), (u.2.2.2.1, .inl (cI, 204, .inl (fun _ => 0))), (u.2.2.2.2, .inl (cI, 204, .inl (fun _ => 0))), (h3, .inr (0, [.ref v, .int (nI 0)])), (v, .inl (cI, 700, .inl (fun _ => 0))), (h4, .inr (0, [.ref w, .int (nI 0)])), (w, .inl (cI, 700, .inl (fun _ => 0)))]) H := hP.sub (ws' := [(h0, .inr (3, [.ref h1, .ref u.1, .ref h3, .ref h4, .int (bI false), .int (bI false)])), (h1, .inr (2, [.ref u.1, .long 0, .long 0, .long 0, .long 0, .long 0, .long 0])), (u.1, .inr (1, [.ref u.2.1, .ref u.2.2.1, .int (nI 0), .int (nI 0), .int (-1), .ref u.2.2.2.1, .ref u.2.2.2.2, .int (nI 0)])), (u.2.1, .inl (cI, 64, .inl (fun _ => 0))), (u.2.2.1, .inl (cJ, 13, .inr (.inl (vp_updL (fun _ => 0) (nI 0).toNatClampNeg (-1))))), (u.2.2.2.1, .inl (cI, 204, .inl (fun _ => 0))), (u.2.2.2.2, .inl (cI, 204, .inl (fun _ => 0))), (h3, .inr (0, [.ref v, .int (nI 0)])), (v, .inl (cI, 700, .inl (fun _ => 0))), (h4, .inr (0, [.ref w, .int (nI 0)])), (w, .inl (cI, 700, .inl (fun _ => 0)))]) [10, 9, 4, 5, 6, 7, 8, 2, 3, 0, 1] rfl
  have hD : va_D A ([(h0, .inr (3, [.ref h1, .ref u.1, .ref h3, .ref h4, .int (bI false), .int (bI false)])), (h1, .inr (2, [.ref u.1, .long 0, .long 0, .long 0, .long 0, .long 0, .long 0])), (u.1, .inr (1, [.ref u.2.1, .ref u.2.2.1, .int (nI 0), .int (nI 0), .int (-1), .ref u.2.2.2.1, .ref u.2.2.2.2, .int (nI 0)])), (u.2.1, .inl (cI, 64, .inl (fun _ => 0))), (u.2.2.1, .inl (cJ, 13, .inr (.inl (vp_updL (fun _ => 0) (nI 0).toNatClampNeg (-1))))), (u.2.2.2.1, .inl (cI, 204, .inl (fun _ => 0))), (u.2.2.2.2, .inl (cI, 204, .inl (fun _ => 0))), (h3, .inr (0, [.ref v, .int (nI 0)])), (v, .inl (cI, 700, .inl (fun _ => 0))), (h4, .inr (0, [.ref w, .int (nI 0)])), (w, .inl (cI, 700, .inl (fun _ => 0)))]) := hD.sub (ws' := [(h0, .inr (3, [.ref h1, .ref u.1, .ref h3, .ref h4, .int (bI false), .int (bI false)])), (h1, .inr (2, [.ref u.1, .long 0, .long 0, .long 0, .long 0, .long 0, .long 0])), (u.1, .inr (1, [.ref u.2.1, .ref u.2.2.1, .int (nI 0), .int (nI 0), .int (-1), .ref u.2.2.2.1, .ref u.2.2.2.2, .int (nI 0)])), (u.2.1, .inl (cI, 64, .inl (fun _ => 0))), (u.2.2.1, .inl (cJ, 13, .inr (.inl (vp_updL (fun _ => 0) (nI 0).toNatClampNeg (-1))))), (u.2.2.2.1, .inl (cI, 204, .inl (fun _ => 0))), (u.2.2.2.2, .inl (cI, 204, .inl (fun _ => 0))), (h3, .inr (0, [.ref v, .int (nI 0)])), (v, .inl (cI, 700, .inl (fun _ => 0))), (h4, .inr (0, [.ref w, .int (nI 0)])), (w, .inl (cI, 700, .inl (fun _ => 0)))]) [10, 9, 4, 5, 6, 7, 8, 2, 3, 0, 1] (by decide) rfl
  exact weC ((h1, u, h3, v, h4, w)) hx hb hr hlocks dX4_init_58 trivial hP hD hK hA hE hS
theorem dX5_init_0 : decode cX5_init 0 = .ok (.aload_n 0, 1) := by decide +kernel
theorem dX5_init_1 : decode cX5_init 1 = .ok (.invokespecial 1, 3) := by decide +kernel
theorem dX5_init_4 : decode cX5_init 4 = .ok (.aload_n 0, 1) := by decide +kernel
theorem dX5_init_5 : decode cX5_init 5 = .ok (.sipush 402, 3) := by decide +kernel
theorem dX5_init_8 : decode cX5_init 8 = .ok (.newarray .int, 2) := by decide +kernel
theorem dX5_init_10 : decode cX5_init 10 = .ok (.putfield 7, 3) := by decide +kernel
theorem dX5_init_13 : decode cX5_init 13 = .ok (.aload_n 0, 1) := by decide +kernel
theorem dX5_init_14 : decode cX5_init 14 = .ok (.sipush 200, 3) := by decide +kernel
theorem dX5_init_17 : decode cX5_init 17 = .ok (.newarray .int, 2) := by decide +kernel
theorem dX5_init_19 : decode cX5_init 19 = .ok (.putfield 13, 3) := by decide +kernel
theorem dX5_init_22 : decode cX5_init 22 = .ok (.aload_n 0, 1) := by decide +kernel
theorem dX5_init_23 : decode cX5_init 23 = .ok (.sipush 13400, 3) := by decide +kernel
theorem dX5_init_26 : decode cX5_init 26 = .ok (.newarray .int, 2) := by decide +kernel
theorem dX5_init_28 : decode cX5_init 28 = .ok (.putfield 16, 3) := by decide +kernel
theorem dX5_init_31 : decode cX5_init 31 = .ok (.aload_n 0, 1) := by decide +kernel
theorem dX5_init_32 : decode cX5_init 32 = .ok (.sipush 1024, 3) := by decide +kernel
theorem dX5_init_35 : decode cX5_init 35 = .ok (.newarray .int, 2) := by decide +kernel
theorem dX5_init_37 : decode cX5_init 37 = .ok (.putfield 19, 3) := by decide +kernel
theorem dX5_init_40 : decode cX5_init 40 = .ok (.aload_n 0, 1) := by decide +kernel
theorem dX5_init_41 : decode cX5_init 41 = .ok (.getfield 7, 3) := by decide +kernel
theorem dX5_init_44 : decode cX5_init 44 = .ok (.bipush 66, 2) := by decide +kernel
theorem dX5_init_46 : decode cX5_init 46 = .ok (.iconst (-1), 1) := by decide +kernel
theorem dX5_init_47 : decode cX5_init 47 = .ok (.iastore, 1) := by decide +kernel
theorem dX5_init_48 : decode cX5_init 48 = .ok (.return_, 1) := by decide +kernel
theorem hd_X5_init : yX5_init.cls ≠ "java/lang/invoke/MethodHandle" ∧ yX5_init.cls ≠ "java/lang/invoke/VarHandle" ∧ (parseMethodDescriptor yX5_init.desc).map (fun d => d.parameters.length) = some 0 := by decide +kernel
set_option maxHeartbeats 4000000 in
set_option maxRecDepth 100000 in
theorem c_X5_init (l : Launch) {D : va_G} {cI cJ : ClassId} {A : Nat → Prop} {hm : Nat} : Met l yX5_init (Cond.code yX5_init cX5_init 1 none :: wsL_law) { frames := 1, cells := 4, slots := 15026, locals := 96 } (va_Pc [.ref hm] (IW D cI cJ A ([(hm, .inr (4, [.int 0, .null, .int 0, .null, .null, .int 0, .null]))]))) (va_Qv (fun _ => True) (fun (u : Nat × Nat × Nat × Nat) t9 => IW D cI cJ A (rW cI hm u.1 u.2.1 u.2.2.1 u.2.2.2 0 0 0 (upd (fun _ => 0) (nI 66).toNatClampNeg (-1)) (fun _ => 0) (fun _ => 0) (fun _ => 0)) t9) A) 4 15026 A := by
  refine entM (by decide) (Nat.le_of_ble_eq_true rfl) ?_
  intro p e s m below meth c ls S0 hr hlocks hG hnm hB hl
  have hx := S0.1
  have hb := S0.2.1
  have hown := S0.2.2.2.1
  have hl : lv_has ls 1 [(0, .ref hm)] := hl
  obtain ⟨hP, hD, hK, hA, hE⟩ := hB
  have hS : va_S A s.heap s.heap [] := va_S.rf
  refine lv_aload_n hx hb dX5_init_0 rfl (lv_at hl 0 rfl) ?_
  refine W.objInit hx hb hown (hG _ wm_X5_1) (hG _ wi_objectInit) (hG _ wc_objectInit) rfl (by rw [S0.2.2.1]; exact hl.1) rfl dX5_init_1 (Nat.le_of_ble_eq_true rfl) (Nat.le_of_ble_eq_true rfl) ?_
  refine W.eq (g2 := F0 m 4 ls []) rfl ?_
  refine lv_aload_n hx hb dX5_init_4 rfl (lv_at hl 0 rfl) ?_
  refine lv_sipush (v := nI 402) hx hb dX5_init_5 (by decide) ?_
  refine nwI hx hb (hG _ wa_int) hK hP hD hS hA (by decide) (by decide) (by decide) dX5_init_8 (fun b0 H hP hD hS => ?_)
  have hP : va_P D classes ([(hm, .inr (4, [.int 0, .null, .int 0, .null, .null, .int 0, .null])), (b0, .inl (cI, 402, .inl (fun _ => 0)))]) H := hP
  have hD : va_D A ([(hm, .inr (4, [.int 0, .null, .int 0, .null, .null, .int 0, .null])), (b0, .inl (cI, 402, .inl (fun _ => 0)))]) := hD
  refine va_putF (D := D) (ci := 4) (v := .ref b0) (ty := .array .int) (C := RX5) (T := TX5) (N := 7) hx hb hG wu_X5 tyX5 tyX5_ok nmX5 hown hK hP hD hS 0 rfl rfl 1 (by decide) (hG _ wf_X5_7) (fun _ h9 => h9) rfl hnm rfl (by decide +kernel) rfl rfl (Nat.le_of_ble_eq_true rfl) dX5_init_10 (fun H locs hP hD hS => ?_)
  have hP : va_P D classes ([(hm, .inr (4, [.int 0, .ref b0, .int 0, .null, .null, .int 0, .null])), (b0, .inl (cI, 402, .inl (fun _ => 0)))]) H := hP
  have hD : va_D A ([(hm, .inr (4, [.int 0, .ref b0, .int 0, .null, .null, .int 0, .null])), (b0, .inl (cI, 402, .inl (fun _ => 0)))]) := hD
  refine lv_aload_n hx hb dX5_init_13 rfl (lv_at hl 0 rfl) ?_
  refine lv_sipush (v := nI 200) hx hb dX5_init_14 (by decide) ?_
  refine nwI hx hb (hG _ wa_int) hK hP hD hS hA (by decide) (by decide) (by decide) dX5_init_17 (fun b1 H hP hD hS => ?_)
  have hP : va_P D classes ([(hm, .inr (4, [.int 0, .ref b0, .int 0, .null, .null, .int 0, .null])), (b0, .inl (cI, 402, .inl (fun _ => 0))), (b1, .inl (cI, 200, .inl (fun _ => 0)))]) H := hP
  have hD : va_D A ([(hm, .inr (4, [.int 0, .ref b0, .int 0, .null, .null, .int 0, .null])), (b0, .inl (cI, 402, .inl (fun _ => 0))), (b1, .inl (cI, 200, .inl (fun _ => 0)))]) := hD
  refine va_putF (D := D) (ci := 4) (v := .ref b1) (ty := .array .int) (C := RX5) (T := TX5) (N := 7) hx hb hG wu_X5 tyX5 tyX5_ok nmX5 hown hK hP hD hS 0 rfl rfl 3 (by decide) (hG _ wf_X5_13) (fun _ h9 => h9) rfl hnm rfl (by decide +kernel) rfl rfl (Nat.le_of_ble_eq_true rfl) dX5_init_19 (fun H locs hP hD hS => ?_)
  have hP : va_P D classes ([(hm, .inr (4, [.int 0, .ref b0, .int 0, .ref b1, .null, .int 0, .null])), (b0, .inl (cI, 402, .inl (fun _ => 0))), (b1, .inl (cI, 200, .inl (fun _ => 0)))]) H := hP
  have hD : va_D A ([(hm, .inr (4, [.int 0, .ref b0, .int 0, .ref b1, .null, .int 0, .null])), (b0, .inl (cI, 402, .inl (fun _ => 0))), (b1, .inl (cI, 200, .inl (fun _ => 0)))]) := hD
  refine lv_aload_n hx hb dX5_init_22 rfl (lv_at hl 0 rfl) ?_
  refine lv_sipush (v := nI 13400) hx hb dX5_init_23 (by decide) ?_
  refine nwI hx hb (hG _ wa_int) hK hP hD hS hA (by decide) (by decide) (by decide) dX5_init_26 (fun b2 H hP hD hS => ?_)
  have hP : va_P D classes ([(hm, .inr (4, [.int 0, .ref b0, .int 0, .ref b1, .null, .int 0, .null])), (b0, .inl (cI, 402, .inl (fun _ => 0))), (b1, .inl (cI, 200, .inl (fun _ => 0))), (b2, .inl (cI, 13400, .inl (fun _ => 0)))]) H := hP
  have hD : va_D A ([(hm, .inr (4, [.int 0, .ref b0, .int 0, .ref b1, .null, .int 0, .null])), (b0, .inl (cI, 402, .inl (fun _ => 0))), (b1, .inl (cI, 200, .inl (fun _ => 0))), (b2, .inl (cI, 13400, .inl (fun _ => 0)))]) := hD
  refine va_putF (D := D) (ci := 4) (v := .ref b2) (ty := .array .int) (C := RX5) (T := TX5) (N := 7) hx hb hG wu_X5 tyX5 tyX5_ok nmX5 hown hK hP hD hS 0 rfl rfl 4 (by decide) (hG _ wf_X5_16) (fun _ h9 => h9) rfl hnm rfl (by decide +kernel) rfl rfl (Nat.le_of_ble_eq_true rfl) dX5_init_28 (fun H locs hP hD hS => ?_)
  have hP : va_P D classes ([(hm, .inr (4, [.int 0, .ref b0, .int 0, .ref b1, .ref b2, .int 0, .null])), (b0, .inl (cI, 402, .inl (fun _ => 0))), (b1, .inl (cI, 200, .inl (fun _ => 0))), (b2, .inl (cI, 13400, .inl (fun _ => 0)))]) H := hP
  have hD : va_D A ([(hm, .inr (4, [.int 0, .ref b0, .int 0, .ref b1, .ref b2, .int 0, .null])), (b0, .inl (cI, 402, .inl (fun _ => 0))), (b1, .inl (cI, 200, .inl (fun _ => 0))), (b2, .inl (cI, 13400, .inl (fun _ => 0)))]) := hD
  refine lv_aload_n hx hb dX5_init_31 rfl (lv_at hl 0 rfl) ?_
  refine lv_sipush (v := nI 1024) hx hb dX5_init_32 (by decide) ?_
  refine nwI hx hb (hG _ wa_int) hK hP hD hS hA (by decide) (by decide) (by decide) dX5_init_35 (fun b3 H hP hD hS => ?_)
  have hP : va_P D classes ([(hm, .inr (4, [.int 0, .ref b0, .int 0, .ref b1, .ref b2, .int 0, .null])), (b0, .inl (cI, 402, .inl (fun _ => 0))), (b1, .inl (cI, 200, .inl (fun _ => 0))), (b2, .inl (cI, 13400, .inl (fun _ => 0))), (b3, .inl (cI, 1024, .inl (fun _ => 0)))]) H := hP
  have hD : va_D A ([(hm, .inr (4, [.int 0, .ref b0, .int 0, .ref b1, .ref b2, .int 0, .null])), (b0, .inl (cI, 402, .inl (fun _ => 0))), (b1, .inl (cI, 200, .inl (fun _ => 0))), (b2, .inl (cI, 13400, .inl (fun _ => 0))), (b3, .inl (cI, 1024, .inl (fun _ => 0)))]) := hD
  refine va_putF (D := D) (ci := 4) (v := .ref b3) (ty := .array .int) (C := RX5) (T := TX5) (N := 7) hx hb hG wu_X5 tyX5 tyX5_ok nmX5 hown hK hP hD hS 0 rfl rfl 6 (by decide) (hG _ wf_X5_19) (fun _ h9 => h9) rfl hnm rfl (by decide +kernel) rfl rfl (Nat.le_of_ble_eq_true rfl) dX5_init_37 (fun H locs hP hD hS => ?_)
  have hP : va_P D classes ([(hm, .inr (4, [.int 0, .ref b0, .int 0, .ref b1, .ref b2, .int 0, .ref b3])), (b0, .inl (cI, 402, .inl (fun _ => 0))), (b1, .inl (cI, 200, .inl (fun _ => 0))), (b2, .inl (cI, 13400, .inl (fun _ => 0))), (b3, .inl (cI, 1024, .inl (fun _ => 0)))]) H := hP
  have hD : va_D A ([(hm, .inr (4, [.int 0, .ref b0, .int 0, .ref b1, .ref b2, .int 0, .ref b3])), (b0, .inl (cI, 402, .inl (fun _ => 0))), (b1, .inl (cI, 200, .inl (fun _ => 0))), (b2, .inl (cI, 13400, .inl (fun _ => 0))), (b3, .inl (cI, 1024, .inl (fun _ => 0)))]) := hD
  refine lv_aload_n hx hb dX5_init_40 rfl (lv_at hl 0 rfl) ?_
  refine va_get (D := D) (ci := 4) (v := .ref b0) (C := RX5) (T := TX5) (N := 7) hx hb hG wu_X5 hown hK hP 0 rfl rfl 1 (by decide) (hG _ wf_X5_7) (fun _ h9 => h9) rfl dX5_init_41 ?_
  refine lv_bipush (v := nI 66) hx hb dX5_init_44 (by decide) ?_
  refine lv_iconst (v := (-1)) hx hb dX5_init_46 (by decide) ?_
  refine va_iast hx hb hK hP hD hS 1 0 rfl rfl (vp_in_nI (by decide) (by decide)) dX5_init_47 (fun H locs hP hD hS => ?_)
  have hP : va_P D classes ([(hm, .inr (4, [.int 0, .ref b0, .int 0, .ref b1, .ref b2, .int 0, .ref b3])), (b0, .inl (cI, 402, .inl (upd (fun _ => 0) (nI 66).toNatClampNeg (-1)))), (b1, .inl (cI, 200, .inl (fun _ => 0))), (b2, .inl (cI, 13400, .inl (fun _ => 0))), (b3, .inl (cI, 1024, .inl (fun _ => 0)))]) H := hP
  have hD : va_D A ([(hm, .inr (4, [.int 0, .ref b0, .int 0, .ref b1, .ref b2, .int 0, .ref b3])), (b0, .inl (cI, 402, .inl (upd (fun _ => 0) (nI 66).toNatClampNeg (-1)))), (b1, .inl (cI, 200, .inl (fun _ => 0))), (b2, .inl (cI, 13400, .inl (fun _ => 0))), (b3, .inl (cI, 1024, .inl (fun _ => 0)))]) := hD
  exact weC ((b0, b1, b2, b3)) hx hb hr hlocks dX5_init_48 trivial hP hD hK hA hE hS

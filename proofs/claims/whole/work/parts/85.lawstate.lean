/-! what the law knows of the object -/
abbrev CS : Type := (Int32 × Int32 × Int64 × Int64 × Int64 × Int64 × Int64 × Int64) × (Int32 × Int32 × Int32 × Int32) × ((Nat → Int32) × (Nat → Int64) × (Nat → Int32) × (Nat → Int32)) × (Int32 × (Nat → Int32) × Int32 × (Nat → Int32))
abbrev cV (cI cJ : ClassId) (h0 h1 h2 a0 a1 a2 a3 h3 a4 h4 a5 : Nat) (x : CS) : va_W := cW cI cJ h0 h1 h2 a0 a1 a2 a3 h3 a4 h4 a5 x.1.1 x.1.2.1 x.1.2.2.1 x.1.2.2.2.1 x.1.2.2.2.2.1 x.1.2.2.2.2.2.1 x.1.2.2.2.2.2.2.1 x.1.2.2.2.2.2.2.2 x.2.1.1 x.2.1.2.1 x.2.1.2.2.1 x.2.1.2.2.2 x.2.2.1.1 x.2.2.1.2.1 x.2.2.1.2.2.1 x.2.2.1.2.2.2 x.2.2.2.1 x.2.2.2.2.1 x.2.2.2.2.2.1 x.2.2.2.2.2.2
abbrev oW (cJ : ClassId) (ho : Nat) (o : Nat → Int64) : va_W := [(ho, .inl (cJ, 1, .inr (.inl o)))]
abbrev cMv (x : CS) : Nat → Int32 := x.2.2.1.2.2.1
abbrev cLo (x : CS) : Nat → Int32 := x.2.2.1.2.2.2
def CI (x : CS) (bd : Nat → Nat) (sd rt ps n : Nat) : Prop := CP x.2.2.1.1 x.2.2.1.2.1 bd ∧ x.2.1.1 = nI sd ∧ x.2.1.2.1 = nI rt ∧ x.2.1.2.2.1 = pI ps ∧ x.2.1.2.2.2 = nI n ∧ ∃ kb ob : Bool, x.1.1 = bI kb ∧ x.1.2.1 = bI ob ∧ KLp kb ob x.2.2.2.1 x.2.2.2.2.1 bd sd rt ps
def Kp (x u : CS) (n : Nat) : Prop := ∀ j, j < n → cMv u j = cMv x j ∧ cLo u j = cLo x j
theorem Kp.rf (x : CS) (n : Nat) : Kp x x n := fun _ _ => ⟨rfl, rfl⟩
theorem KLp.no {lsz : Int32} {lfs : Nat → Int32} {bd : Nat → Nat} {sd rt ps : Nat} (h : cbp bd sd = false) : KLp true false lsz lfs bd sd rt ps := fun _ => ⟨h.symm, fun z => absurd z (by decide)⟩
theorem KLp.yes {lfs : Nat → Int32} {bd : Nat → Nat} {sd rt ps : Nat} (h : cbp bd sd = true) (hL : LI lfs (fil bd sd rt ps)) : KLp true true (nI (fil bd sd rt ps).length) lfs bd sd rt ps := fun _ => ⟨h.symm, fun _ => ⟨rfl, hL⟩⟩
theorem KLp.un {lsz : Int32} {lfs : Nat → Int32} {bd : Nat → Nat} {sd rt ps : Nat} (ob : Bool) : KLp false ob lsz lfs bd sd rt ps := fun z => absurd z (by decide)
theorem isp_f {y : Int32} (h : y < 0 ∨ ¬ y ≤ nI 12) : isp y = false := by
  unfold isp
  rw [decide_eq_false]
  intro ⟨h1, h2⟩
  obtain ⟨v, hv, rfl⟩ := nI_of h1
  rcases h with h | h
  · exact h1 h
  · rw [nI_leI (by decide) hv] at h2
    rw [nI_leI hv (by decide)] at h
    omega
theorem mv_inj {f t k f2 t2 k2 : Nat} (hf : f < 64) (ht : t < 64) (hk : k < 6) (hf2 : f2 < 64) (ht2 : t2 < 64) (hk2 : k2 < 6) (h : nI (f + 64 * t + 4096 * k) = nI (f2 + 64 * t2 + 4096 * k2)) : f = f2 ∧ t = t2 ∧ k = k2 := by
  have := (nI_eq (by omega) (by omega)).mp h
  omega
theorem ov0 (o : Nat → Int64) (v : Int64) : vp_updL o (nI 0).toNatClampNeg v 0 = v := by
  show vp_updL o 0 v 0 = v
  exact pk_uLs
theorem plc_m1 {L : List Nat} {x : Int32} {n : Nat} (hn : n < 2 ^ 31) (h : ¬ 0 ≤ plc L x n) : plc L x n = -1 := by
  induction n with
  | zero => rfl
  | succ n ih =>
    rw [plc_s] at h ⊢
    by_cases e : nI (L.getD n 0) = x
    · rw [if_pos e] at h; exact absurd (nI_pos' (by omega)) h
    · rw [if_neg e] at h ⊢; exact ih (by omega) h
section
variable {p : Program} {l : Launch} {e : Env} {R : Room} {s : State} {m : MethodId} {args : Array Value} {below : List Frame} {meth : Method} {c : Code} {H : Heap} {locs : List Loc} {cc : ByteArray} {pc : Nat} {ls : Array Slot}
theorem weX {Sx : Type} {post : Int32 → Sx → Prop} {D : va_G} {cI cJ : ClassId} {A : Nat → Prop} {w' : Sx → va_W} {v : Int32} (u : Sx) (hx : p.tables.exec = Jvm.exec) (hb : c.code = cc) (hr : meth.sig.returnType = some .int) (hlocks : meth.locks = false) (hdg : decode cc pc = .ok (.ireturn, 1)) (hp : post v u) (hP : va_P D classes (w' u) H) (hD : va_D A (w' u)) (hK : va_K D classes [(cI, .int), (cJ, .long)] s) (hA : ∀ q : Nat, s.heap.size ≤ q → A q) (hE : EV A s s.heap) (hS : va_S A s.heap H locs) {cells slots : Nat} :
    W p l e R s m args below meth c H locs cells slots (MQ below (va_Qi post (fun u t => IW D cI cJ A (w' u) t) A) args s cells slots A) (F0 m pc ls [.int v]) := W.iret hx hb hr (fun t ht hW => ⟨⟨v, u, rfl, hp, IW.at hP hD hK hA hE hS t ht hW⟩, hS.F ht⟩) hS.2.2 hdg hlocks
end
theorem dL_count_0 : decode cL_count 0 = .ok (.aload_n 1, 1) := by decide +kernel
theorem dL_count_1 : decode cL_count 1 = .ok (.iconst 0, 1) := by decide +kernel
theorem dL_count_2 : decode cL_count 2 = .ok (.aload_n 0, 1) := by decide +kernel
theorem dL_count_3 : decode cL_count 3 = .ok (.invokevirtual 21, 3) := by decide +kernel
theorem dL_count_6 : decode cL_count 6 = .ok (.i2l, 1) := by decide +kernel
theorem dL_count_7 : decode cL_count 7 = .ok (.lastore, 1) := by decide +kernel
theorem dL_count_8 : decode cL_count 8 = .ok (.goto 6, 3) := by decide +kernel
theorem dL_count_11 : decode cL_count 11 = .ok (.astore_n 2, 1) := by decide +kernel
theorem dL_count_12 : decode cL_count 12 = .ok (.iconst 1, 1) := by decide +kernel
theorem dL_count_13 : decode cL_count 13 = .ok (.ireturn, 1) := by decide +kernel
theorem dL_count_14 : decode cL_count 14 = .ok (.iconst 0, 1) := by decide +kernel
theorem dL_count_15 : decode cL_count 15 = .ok (.ireturn, 1) := by decide +kernel
set_option maxHeartbeats 4000000 in
set_option maxRecDepth 100000 in
theorem c_L_count (l : Launch) (hlt : l.stackTraces = false) {D : va_G} {cI cJ : ClassId} {A : Nat → Prop} {h0 h1 h2 a0 a1 a2 a3 h3 a4 h4 a5 : Nat} (x : CS) {ho : Nat} (o : Nat → Int64) (bd : Nat → Nat) (sd rt ps n : Nat) (hs2 : sd < 2) (hr16 : rt < 16) (hp65 : ps < 65) (hn : n ≤ 200) (hI : CI x bd sd rt ps n)  : Met l yL_count (Cond.codeWith yL_count cL_count 3 (some .int) [(0, 8, 11, 25)] :: wsL_law) (rX 9) (va_Pc [.ref h0, .ref ho] (XW D cI cJ A (cV cI cJ h0 h1 h2 a0 a1 a2 a3 h3 a4 h4 a5 x ++ oW cJ ho o))) (va_Qi (fun r u => r = nI (ndN bd sd) ∧ CI u.1 bd sd rt ps n ∧ Kp x u.1 n ∧ (ndN bd sd = 0 → u.2 0 = (nI (szN bd sd rt ps)).toInt64)) (fun (u : CS × (Nat → Int64)) t9 => IW D cI cJ A (cV cI cJ h0 h1 h2 a0 a1 a2 a3 h3 a4 h4 a5 u.1 ++ oW cJ ho u.2) t9) A) 1 6 A := by
  refine entH (by decide) (Nat.le_of_ble_eq_true rfl) ?_
  intro p e s m below meth c ls S0 hr hlocks hG htb hB hl
  have hx := S0.1
  have hb := S0.2.1
  have hown := S0.2.2.2.1
  have hl : lv_has ls 3 [(0, .ref h0), (1, .ref ho)] := hl
  obtain ⟨⟨hP, hD, hK, hA, hE⟩, hX⟩ := hB
  have hS : va_S A s.heap s.heap [] := va_S.rf
  obtain ⟨⟨kn, op, ow, tr, fu, kg, co, pn⟩, ⟨si, ri, pa, ma⟩, ⟨pcs, sqa, mvs, los⟩, lsz, lfs, asz, afs⟩ := x
  obtain ⟨hCP, e1, e2, e3, e4, kb, ob, e5, e6, hKL⟩ := hI
  dsimp only at hCP e1 e2 e3 e4 e5 e6 hKL hP hD
  subst e1 e2 e3 e4 e5 e6
  have hb9 : ∀ q, q < 64 → bd q < 13 := fun q hq => (hCP.1 q hq).2
  have hP : va_P D classes (cW cI cJ h0 h1 h2 a0 a1 a2 a3 h3 a4 h4 a5 (bI kb) (bI ob) ow tr fu kg co pn (nI sd) (nI rt) (pI ps) (nI n) pcs sqa mvs los lsz lfs asz afs ++ oW cJ ho o) s.heap := hP
  have hD : va_D A (cW cI cJ h0 h1 h2 a0 a1 a2 a3 h3 a4 h4 a5 (bI kb) (bI ob) ow tr fu kg co pn (nI sd) (nI rt) (pI ps) (nI n) pcs sqa mvs los lsz lfs asz afs ++ oW cJ ho o) := hD
  refine lv_aload_n hx hb dL_count_0 rfl (lv_at hl 1 rfl) ?_
  refine lv_iconst (v := nI 0) hx hb dL_count_1 (by decide) ?_
  refine lv_aload_n hx hb dL_count_2 rfl (lv_at hl 0 rfl) ?_
  by_cases hp : plb bd sd = true
  · skip
    have hc : cbp bd sd = true := (cbp_e hb9 hs2).trans hp
    have hfe : fil bd sd rt ps = legs bd sd rt ps := fil_e hb9 hs2 hr16 hp65 hp
    have hlen : (fil bd sd rt ps).length ≤ 700 := by rw [hfe]; exact len_ok bd sd rt ps hb9 hs2 hp65
    have hlg : lgs bd sd rt ps = legs bd sd rt ps := if_pos hp
    have hnd : ndN bd sd = 0 := if_pos hp
    have hsz : szN bd sd rt ps = (legs bd sd rt ps).length := if_pos hp
    refine ftI (A := A) (wc := cW cI cJ h0 h1 h2 a0 a1 a2 a3 h3 a4 h4 a5 (bI kb) (bI ob) ow tr fu kg co pn (nI sd) (nI rt) (pI ps) (nI n) pcs sqa mvs los lsz lfs asz afs) (wr := oW cJ ho o) (rnV (As := []) (rest := [.int (nI 0), .ref ho]) S0 (c_X4_count l (A := va_A (cW cI cJ h0 h1 h2 a0 a1 a2 a3 h3 a4 h4 a5 (bI kb) (bI ob) ow tr fu kg co pn (nI sd) (nI rt) (pI ps) (nI n) pcs sqa mvs los lsz lfs asz afs) s.heap.size) bd hCP sd rt ps hs2 hr16 hp65 kb ob hKL hc hlen) wm_L_21 wi_X4_count ws_X4_count wn_X4 wc_X4_count hd_X4_count ⟨rfl, rfl, by decide, by decide⟩ IW.blind (va_recv hK hP (ci := 3) (q0 := 0) rfl rfl) (IW.cut hP hD hK hA hE hS) hl.1 (Nat.le_of_ble_eq_true rfl) dL_count_3 rfl ⟨by decide, by decide⟩) hP hD hA hS (fun r u H locs hu hP hD hS => ?_)
    obtain ⟨rfl, hLI⟩ := hu
    refine lv_i2l hx hb dL_count_6 rfl ?_
    refine va_last hx hb hK hP hD hS 11 1 rfl rfl (vp_in_nI (by decide) (by decide)) dL_count_7 (fun H locs hP hD hS => ?_)
    refine lv_goto (tgt := 14) hx hb dL_count_8 (by decide) ?_
    refine lv_iconst (v := nI 0) hx hb dL_count_14 (by decide) ?_
    refine W.widen (k := 1) (n := 6) (by decide) (by decide) ?_
    exact weX ((((bI true, bI true, u.2.1, u.2.2.1, u.2.2.2.1, u.2.2.2.2.1, u.2.2.2.2.2.1, u.2.2.2.2.2.2), (nI sd, nI rt, pI ps, nI n), (pcs, sqa, mvs, los), nI (fil bd sd rt ps).length, u.1, asz, afs), (vp_updL o (nI 0).toNatClampNeg (nI (fil bd sd rt ps).length).toInt64))) hx hb hr hlocks dL_count_15 (⟨by rw [hnd], ⟨hCP, rfl, rfl, rfl, rfl, true, true, rfl, rfl, KLp.yes hc hLI⟩, Kp.rf _ _, fun _ => by refine (ov0 o (nI (fil bd sd rt ps).length).toInt64).trans ?_; rw [hsz, hfe]⟩) hP hD hK hA hE hS
  · skip
    have hc : cbp bd sd = false := (cbp_e hb9 hs2).trans (by simpa using hp)
    have hnd : ndN bd sd = 1 := if_neg hp
    refine ftX (A := A) (wc := cW cI cJ h0 h1 h2 a0 a1 a2 a3 h3 a4 h4 a5 (bI kb) (bI ob) ow tr fu kg co pn (nI sd) (nI rt) (pI ps) (nI n) pcs sqa mvs los lsz lfs asz afs) (wr := oW cJ ho o) (rnVX (As := []) (rest := [.int (nI 0), .ref ho]) S0 (nlX l hlt (A := va_A (cW cI cJ h0 h1 h2 a0 a1 a2 a3 h3 a4 h4 a5 (bI kb) (bI ob) ow tr fu kg co pn (nI sd) (nI rt) (pI ps) (nI n) pcs sqa mvs los lsz lfs asz afs) s.heap.size) bd hCP sd rt ps hs2 hr16 hp65 kb ob hKL hc (y := yX4_count) (cc := cX4_count) (maxL := 1) (ret := (some .int)) (by decide) (Nat.le_of_ble_eq_true rfl) rfl dX4_count_0 dX4_count_1) wm_L_21 wi_X4_count ws_X4_count wn_X4 wc_X4_count hd_X4_count ⟨rfl, rfl, by decide, by decide⟩ XW.blind (va_recv hK hP (ci := 3) (q0 := 0) rfl rfl) (XW.cut hP hD hK hA hE hX hS) hl.1 (Nat.le_of_ble_eq_true rfl) dL_count_3 rfl ⟨by decide, by decide⟩) hP hD hA hS (fun ce q9 u H locs hp9 hP hD hS hc1 hc2 hc3 => ?_)
    have hLI := hp9
    refine vx_catch hown ([]) ⟨0, 8, 11, 25⟩ (tableOf []) (htb.trans rfl) (fun _ h => nomatch h) (by decide) (by decide) (hG _ wl_L_25) (va_Nw.use rfl hX.c3) hc1 hc2 hc3 ?_
    refine lv_astore_n (lv' := [(2, .ref q9), (0, .ref h0), (1, .ref ho)]) hx hb dL_count_11 rfl hl (by decide) rfl (fun ls hl => ?_)
    refine lv_iconst (v := nI 1) hx hb dL_count_12 (by decide) ?_
    exact weX ((((bI true, bI false, ow, tr, fu, kg, co, pn), (nI sd, nI rt, pI ps, nI n), (pcs, sqa, mvs, los), u, lfs, asz, afs), o)) hx hb hr hlocks dL_count_13 (⟨by rw [hnd], ⟨hCP, rfl, rfl, rfl, rfl, true, false, rfl, rfl, KLp.no hc⟩, Kp.rf _ _, fun z => absurd (hnd.symm.trans z) (by decide)⟩) hP hD hK hA hE hS
theorem dL_place_0 : decode cL_place 0 = .ok (.aload_n 2, 1) := by decide +kernel
theorem dL_place_1 : decode cL_place 1 = .ok (.iconst 0, 1) := by decide +kernel
theorem dL_place_2 : decode cL_place 2 = .ok (.aload_n 0, 1) := by decide +kernel
theorem dL_place_3 : decode cL_place 3 = .ok (.iload_n 1, 1) := by decide +kernel
theorem dL_place_4 : decode cL_place 4 = .ok (.invokevirtual 31, 3) := by decide +kernel
theorem dL_place_7 : decode cL_place 7 = .ok (.i2l, 1) := by decide +kernel
theorem dL_place_8 : decode cL_place 8 = .ok (.lastore, 1) := by decide +kernel
theorem dL_place_9 : decode cL_place 9 = .ok (.goto 6, 3) := by decide +kernel
theorem dL_place_12 : decode cL_place 12 = .ok (.astore_n 3, 1) := by decide +kernel
theorem dL_place_13 : decode cL_place 13 = .ok (.iconst 1, 1) := by decide +kernel
theorem dL_place_14 : decode cL_place 14 = .ok (.ireturn, 1) := by decide +kernel
theorem dL_place_15 : decode cL_place 15 = .ok (.iconst 0, 1) := by decide +kernel
theorem dL_place_16 : decode cL_place 16 = .ok (.ireturn, 1) := by decide +kernel
set_option maxHeartbeats 4000000 in
set_option maxRecDepth 100000 in
theorem c_L_place (l : Launch) (hlt : l.stackTraces = false) {D : va_G} {cI cJ : ClassId} {A : Nat → Prop} {h0 h1 h2 a0 a1 a2 a3 h3 a4 h4 a5 : Nat} (x : CS) {ho : Nat} (o : Nat → Int64) (bd : Nat → Nat) (sd rt ps n : Nat) (hs2 : sd < 2) (hr16 : rt < 16) (hp65 : ps < 65) (hn : n ≤ 200) (hI : CI x bd sd rt ps n) (v : Int32) : Met l yL_place (Cond.codeWith yL_place cL_place 4 (some .int) [(0, 9, 12, 25)] :: wsL_law) (rX 9) (va_Pc [.ref h0, .int v, .ref ho] (XW D cI cJ A (cV cI cJ h0 h1 h2 a0 a1 a2 a3 h3 a4 h4 a5 x ++ oW cJ ho o))) (va_Qi (fun r u => r = nI (ndN bd sd) ∧ CI u.1 bd sd rt ps n ∧ Kp x u.1 n ∧ (ndN bd sd = 0 → u.2 0 = (plc (lgs bd sd rt ps) v (lgs bd sd rt ps).length).toInt64)) (fun (u : CS × (Nat → Int64)) t9 => IW D cI cJ A (cV cI cJ h0 h1 h2 a0 a1 a2 a3 h3 a4 h4 a5 u.1 ++ oW cJ ho u.2) t9) A) 1 6 A := by
  refine entH (by decide) (Nat.le_of_ble_eq_true rfl) ?_
  intro p e s m below meth c ls S0 hr hlocks hG htb hB hl
  have hx := S0.1
  have hb := S0.2.1
  have hown := S0.2.2.2.1
  have hl : lv_has ls 4 [(0, .ref h0), (1, .int v), (2, .ref ho)] := hl
  obtain ⟨⟨hP, hD, hK, hA, hE⟩, hX⟩ := hB
  have hS : va_S A s.heap s.heap [] := va_S.rf
  obtain ⟨⟨kn, op, ow, tr, fu, kg, co, pn⟩, ⟨si, ri, pa, ma⟩, ⟨pcs, sqa, mvs, los⟩, lsz, lfs, asz, afs⟩ := x
  obtain ⟨hCP, e1, e2, e3, e4, kb, ob, e5, e6, hKL⟩ := hI
  dsimp only at hCP e1 e2 e3 e4 e5 e6 hKL hP hD
  subst e1 e2 e3 e4 e5 e6
  have hb9 : ∀ q, q < 64 → bd q < 13 := fun q hq => (hCP.1 q hq).2
  have hP : va_P D classes (cW cI cJ h0 h1 h2 a0 a1 a2 a3 h3 a4 h4 a5 (bI kb) (bI ob) ow tr fu kg co pn (nI sd) (nI rt) (pI ps) (nI n) pcs sqa mvs los lsz lfs asz afs ++ oW cJ ho o) s.heap := hP
  have hD : va_D A (cW cI cJ h0 h1 h2 a0 a1 a2 a3 h3 a4 h4 a5 (bI kb) (bI ob) ow tr fu kg co pn (nI sd) (nI rt) (pI ps) (nI n) pcs sqa mvs los lsz lfs asz afs ++ oW cJ ho o) := hD
  refine lv_aload_n hx hb dL_place_0 rfl (lv_at hl 2 rfl) ?_
  refine lv_iconst (v := nI 0) hx hb dL_place_1 (by decide) ?_
  refine lv_aload_n hx hb dL_place_2 rfl (lv_at hl 0 rfl) ?_
  refine lv_iload_n hx hb dL_place_3 rfl (lv_at hl 1 rfl) ?_
  by_cases hp : plb bd sd = true
  · skip
    have hc : cbp bd sd = true := (cbp_e hb9 hs2).trans hp
    have hfe : fil bd sd rt ps = legs bd sd rt ps := fil_e hb9 hs2 hr16 hp65 hp
    have hlen : (fil bd sd rt ps).length ≤ 700 := by rw [hfe]; exact len_ok bd sd rt ps hb9 hs2 hp65
    have hlg : lgs bd sd rt ps = legs bd sd rt ps := if_pos hp
    have hnd : ndN bd sd = 0 := if_pos hp
    have hsz : szN bd sd rt ps = (legs bd sd rt ps).length := if_pos hp
    refine ftI (A := A) (wc := cW cI cJ h0 h1 h2 a0 a1 a2 a3 h3 a4 h4 a5 (bI kb) (bI ob) ow tr fu kg co pn (nI sd) (nI rt) (pI ps) (nI n) pcs sqa mvs los lsz lfs asz afs) (wr := oW cJ ho o) (rnV (As := [.int v]) (rest := [.int (nI 0), .ref ho]) S0 (c_X4_place l (A := va_A (cW cI cJ h0 h1 h2 a0 a1 a2 a3 h3 a4 h4 a5 (bI kb) (bI ob) ow tr fu kg co pn (nI sd) (nI rt) (pI ps) (nI n) pcs sqa mvs los lsz lfs asz afs) s.heap.size) bd hCP sd rt ps hs2 hr16 hp65 kb ob hKL hc hlen v) wm_L_31 wi_X4_place ws_X4_place wn_X4 wc_X4_place hd_X4_place ⟨rfl, rfl, by decide, by decide⟩ IW.blind (va_recv hK hP (ci := 3) (q0 := 0) rfl rfl) (IW.cut hP hD hK hA hE hS) hl.1 (Nat.le_of_ble_eq_true rfl) dL_place_4 rfl ⟨by decide, by decide⟩) hP hD hA hS (fun r u H locs hu hP hD hS => ?_)
    obtain ⟨rfl, hLI⟩ := hu
    refine lv_i2l hx hb dL_place_7 rfl ?_
    refine va_last hx hb hK hP hD hS 11 1 rfl rfl (vp_in_nI (by decide) (by decide)) dL_place_8 (fun H locs hP hD hS => ?_)
    refine lv_goto (tgt := 15) hx hb dL_place_9 (by decide) ?_
    refine lv_iconst (v := nI 0) hx hb dL_place_15 (by decide) ?_
    refine W.widen (k := 1) (n := 6) (by decide) (by decide) ?_
    exact weX ((((bI true, bI true, u.2.1, u.2.2.1, u.2.2.2.1, u.2.2.2.2.1, u.2.2.2.2.2.1, u.2.2.2.2.2.2), (nI sd, nI rt, pI ps, nI n), (pcs, sqa, mvs, los), nI (fil bd sd rt ps).length, u.1, asz, afs), (vp_updL o (nI 0).toNatClampNeg (fplN (fil bd sd rt ps) v (fil bd sd rt ps).length).toInt64))) hx hb hr hlocks dL_place_16 (⟨by rw [hnd], ⟨hCP, rfl, rfl, rfl, rfl, true, true, rfl, rfl, KLp.yes hc hLI⟩, Kp.rf _ _, fun _ => by refine (ov0 o (fplN (fil bd sd rt ps) v (fil bd sd rt ps).length).toInt64).trans ?_; rw [hlg, hfe, fpl_e (legs_nd bd sd rt ps) (fun y h => legs_lt h)]⟩) hP hD hK hA hE hS
  · skip
    have hc : cbp bd sd = false := (cbp_e hb9 hs2).trans (by simpa using hp)
    have hnd : ndN bd sd = 1 := if_neg hp
    refine ftX (A := A) (wc := cW cI cJ h0 h1 h2 a0 a1 a2 a3 h3 a4 h4 a5 (bI kb) (bI ob) ow tr fu kg co pn (nI sd) (nI rt) (pI ps) (nI n) pcs sqa mvs los lsz lfs asz afs) (wr := oW cJ ho o) (rnVX (As := [.int v]) (rest := [.int (nI 0), .ref ho]) S0 (nlX l hlt (A := va_A (cW cI cJ h0 h1 h2 a0 a1 a2 a3 h3 a4 h4 a5 (bI kb) (bI ob) ow tr fu kg co pn (nI sd) (nI rt) (pI ps) (nI n) pcs sqa mvs los lsz lfs asz afs) s.heap.size) bd hCP sd rt ps hs2 hr16 hp65 kb ob hKL hc (y := yX4_place) (cc := cX4_place) (maxL := 2) (ret := (some .int)) (by decide) (Nat.le_of_ble_eq_true rfl) rfl dX4_place_0 dX4_place_1) wm_L_31 wi_X4_place ws_X4_place wn_X4 wc_X4_place hd_X4_place ⟨rfl, rfl, by decide, by decide⟩ XW.blind (va_recv hK hP (ci := 3) (q0 := 0) rfl rfl) (XW.cut hP hD hK hA hE hX hS) hl.1 (Nat.le_of_ble_eq_true rfl) dL_place_4 rfl ⟨by decide, by decide⟩) hP hD hA hS (fun ce q9 u H locs hp9 hP hD hS hc1 hc2 hc3 => ?_)
    have hLI := hp9
    refine vx_catch hown ([]) ⟨0, 9, 12, 25⟩ (tableOf []) (htb.trans rfl) (fun _ h => nomatch h) (by decide) (by decide) (hG _ wl_L_25) (va_Nw.use rfl hX.c3) hc1 hc2 hc3 ?_
    refine lv_astore_n (lv' := [(3, .ref q9), (0, .ref h0), (1, .int v), (2, .ref ho)]) hx hb dL_place_12 rfl hl (by decide) rfl (fun ls hl => ?_)
    refine lv_iconst (v := nI 1) hx hb dL_place_13 (by decide) ?_
    exact weX ((((bI true, bI false, ow, tr, fu, kg, co, pn), (nI sd, nI rt, pI ps, nI n), (pcs, sqa, mvs, los), u, lfs, asz, afs), o)) hx hb hr hlocks dL_place_14 (⟨by rw [hnd], ⟨hCP, rfl, rfl, rfl, rfl, true, false, rfl, rfl, KLp.no hc⟩, Kp.rf _ _, fun z => absurd (hnd.symm.trans z) (by decide)⟩) hP hD hK hA hE hS
theorem dL_on_0 : decode cL_on 0 = .ok (.aload_n 3, 1) := by decide +kernel
theorem dL_on_1 : decode cL_on 1 = .ok (.iconst 0, 1) := by decide +kernel
theorem dL_on_2 : decode cL_on 2 = .ok (.aload_n 0, 1) := by decide +kernel
theorem dL_on_3 : decode cL_on 3 = .ok (.iload_n 1, 1) := by decide +kernel
theorem dL_on_4 : decode cL_on 4 = .ok (.iload_n 2, 1) := by decide +kernel
theorem dL_on_5 : decode cL_on 5 = .ok (.invokevirtual 34, 3) := by decide +kernel
theorem dL_on_8 : decode cL_on 8 = .ok (.i2l, 1) := by decide +kernel
theorem dL_on_9 : decode cL_on 9 = .ok (.lastore, 1) := by decide +kernel
theorem dL_on_10 : decode cL_on 10 = .ok (.goto 7, 3) := by decide +kernel
theorem dL_on_13 : decode cL_on 13 = .ok (.astore 4, 2) := by decide +kernel
theorem dL_on_15 : decode cL_on 15 = .ok (.iconst 1, 1) := by decide +kernel
theorem dL_on_16 : decode cL_on 16 = .ok (.ireturn, 1) := by decide +kernel
theorem dL_on_17 : decode cL_on 17 = .ok (.iconst 0, 1) := by decide +kernel
theorem dL_on_18 : decode cL_on 18 = .ok (.ireturn, 1) := by decide +kernel
set_option maxHeartbeats 4000000 in
set_option maxRecDepth 100000 in
theorem c_L_on (l : Launch) (hlt : l.stackTraces = false) {D : va_G} {cI cJ : ClassId} {A : Nat → Prop} {h0 h1 h2 a0 a1 a2 a3 h3 a4 h4 a5 : Nat} (x : CS) {ho : Nat} (o : Nat → Int64) (bd : Nat → Nat) (sd rt ps n : Nat) (hs2 : sd < 2) (hr16 : rt < 16) (hp65 : ps < 65) (hn : n ≤ 200) (hI : CI x bd sd rt ps n) (v : Int32) (w : Bool) : Met l yL_on (Cond.codeWith yL_on cL_on 5 (some .int) [(0, 10, 13, 25)] :: wsL_law) (rX 9) (va_Pc [.ref h0, .int v, .int (bI w), .ref ho] (XW D cI cJ A (cV cI cJ h0 h1 h2 a0 a1 a2 a3 h3 a4 h4 a5 x ++ oW cJ ho o))) (va_Qi (fun r u => r = nI (ndN bd sd) ∧ CI u.1 bd sd rt ps n ∧ Kp x u.1 n ∧ (ndN bd sd = 0 → u.2 0 = (nI (onc (lgs bd sd rt ps) v w (lgs bd sd rt ps).length)).toInt64)) (fun (u : CS × (Nat → Int64)) t9 => IW D cI cJ A (cV cI cJ h0 h1 h2 a0 a1 a2 a3 h3 a4 h4 a5 u.1 ++ oW cJ ho u.2) t9) A) 1 6 A := by
  refine entH (by decide) (Nat.le_of_ble_eq_true rfl) ?_
  intro p e s m below meth c ls S0 hr hlocks hG htb hB hl
  have hx := S0.1
  have hb := S0.2.1
  have hown := S0.2.2.2.1
  have hl : lv_has ls 5 [(0, .ref h0), (1, .int v), (2, .int (bI w)), (3, .ref ho)] := hl
  obtain ⟨⟨hP, hD, hK, hA, hE⟩, hX⟩ := hB
  have hS : va_S A s.heap s.heap [] := va_S.rf
  obtain ⟨⟨kn, op, ow, tr, fu, kg, co, pn⟩, ⟨si, ri, pa, ma⟩, ⟨pcs, sqa, mvs, los⟩, lsz, lfs, asz, afs⟩ := x
  obtain ⟨hCP, e1, e2, e3, e4, kb, ob, e5, e6, hKL⟩ := hI
  dsimp only at hCP e1 e2 e3 e4 e5 e6 hKL hP hD
  subst e1 e2 e3 e4 e5 e6
  have hb9 : ∀ q, q < 64 → bd q < 13 := fun q hq => (hCP.1 q hq).2
  have hP : va_P D classes (cW cI cJ h0 h1 h2 a0 a1 a2 a3 h3 a4 h4 a5 (bI kb) (bI ob) ow tr fu kg co pn (nI sd) (nI rt) (pI ps) (nI n) pcs sqa mvs los lsz lfs asz afs ++ oW cJ ho o) s.heap := hP
  have hD : va_D A (cW cI cJ h0 h1 h2 a0 a1 a2 a3 h3 a4 h4 a5 (bI kb) (bI ob) ow tr fu kg co pn (nI sd) (nI rt) (pI ps) (nI n) pcs sqa mvs los lsz lfs asz afs ++ oW cJ ho o) := hD
  refine lv_aload_n hx hb dL_on_0 rfl (lv_at hl 3 rfl) ?_
  refine lv_iconst (v := nI 0) hx hb dL_on_1 (by decide) ?_
  refine lv_aload_n hx hb dL_on_2 rfl (lv_at hl 0 rfl) ?_
  refine lv_iload_n hx hb dL_on_3 rfl (lv_at hl 1 rfl) ?_
  refine lv_iload_n hx hb dL_on_4 rfl (lv_at hl 2 rfl) ?_
  by_cases hp : plb bd sd = true
  · skip
    have hc : cbp bd sd = true := (cbp_e hb9 hs2).trans hp
    have hfe : fil bd sd rt ps = legs bd sd rt ps := fil_e hb9 hs2 hr16 hp65 hp
    have hlen : (fil bd sd rt ps).length ≤ 700 := by rw [hfe]; exact len_ok bd sd rt ps hb9 hs2 hp65
    have hlg : lgs bd sd rt ps = legs bd sd rt ps := if_pos hp
    have hnd : ndN bd sd = 0 := if_pos hp
    have hsz : szN bd sd rt ps = (legs bd sd rt ps).length := if_pos hp
    refine ftI (A := A) (wc := cW cI cJ h0 h1 h2 a0 a1 a2 a3 h3 a4 h4 a5 (bI kb) (bI ob) ow tr fu kg co pn (nI sd) (nI rt) (pI ps) (nI n) pcs sqa mvs los lsz lfs asz afs) (wr := oW cJ ho o) (rnV (As := [.int v, .int (bI w)]) (rest := [.int (nI 0), .ref ho]) S0 (c_X4_on l (A := va_A (cW cI cJ h0 h1 h2 a0 a1 a2 a3 h3 a4 h4 a5 (bI kb) (bI ob) ow tr fu kg co pn (nI sd) (nI rt) (pI ps) (nI n) pcs sqa mvs los lsz lfs asz afs) s.heap.size) bd hCP sd rt ps hs2 hr16 hp65 kb ob hKL hc hlen (by rw [hfe]; exact fun y h => legs_lt h) v w) wm_L_34 wi_X4_on ws_X4_on wn_X4 wc_X4_on hd_X4_on ⟨rfl, rfl, by decide, by decide⟩ IW.blind (va_recv hK hP (ci := 3) (q0 := 0) rfl rfl) (IW.cut hP hD hK hA hE hS) hl.1 (Nat.le_of_ble_eq_true rfl) dL_on_5 rfl ⟨by decide, by decide⟩) hP hD hA hS (fun r u H locs hu hP hD hS => ?_)
    obtain ⟨rfl, hLI⟩ := hu
    refine lv_i2l hx hb dL_on_8 rfl ?_
    refine va_last hx hb hK hP hD hS 11 1 rfl rfl (vp_in_nI (by decide) (by decide)) dL_on_9 (fun H locs hP hD hS => ?_)
    refine lv_goto (tgt := 17) hx hb dL_on_10 (by decide) ?_
    refine lv_iconst (v := nI 0) hx hb dL_on_17 (by decide) ?_
    refine W.widen (k := 1) (n := 6) (by decide) (by decide) ?_
    exact weX ((((bI true, bI true, u.2.1, u.2.2.1, u.2.2.2.1, u.2.2.2.2.1, u.2.2.2.2.2.1, u.2.2.2.2.2.2), (nI sd, nI rt, pI ps, nI n), (pcs, sqa, mvs, los), nI (fil bd sd rt ps).length, u.1, asz, afs), (vp_updL o (nI 0).toNatClampNeg (nI (onc (fil bd sd rt ps) v w (fil bd sd rt ps).length)).toInt64))) hx hb hr hlocks dL_on_18 (⟨by rw [hnd], ⟨hCP, rfl, rfl, rfl, rfl, true, true, rfl, rfl, KLp.yes hc hLI⟩, Kp.rf _ _, fun _ => by refine (ov0 o (nI (onc (fil bd sd rt ps) v w (fil bd sd rt ps).length)).toInt64).trans ?_; rw [hlg, hfe]⟩) hP hD hK hA hE hS
  · skip
    have hc : cbp bd sd = false := (cbp_e hb9 hs2).trans (by simpa using hp)
    have hnd : ndN bd sd = 1 := if_neg hp
    refine ftX (A := A) (wc := cW cI cJ h0 h1 h2 a0 a1 a2 a3 h3 a4 h4 a5 (bI kb) (bI ob) ow tr fu kg co pn (nI sd) (nI rt) (pI ps) (nI n) pcs sqa mvs los lsz lfs asz afs) (wr := oW cJ ho o) (rnVX (As := [.int v, .int (bI w)]) (rest := [.int (nI 0), .ref ho]) S0 (nlX l hlt (A := va_A (cW cI cJ h0 h1 h2 a0 a1 a2 a3 h3 a4 h4 a5 (bI kb) (bI ob) ow tr fu kg co pn (nI sd) (nI rt) (pI ps) (nI n) pcs sqa mvs los lsz lfs asz afs) s.heap.size) bd hCP sd rt ps hs2 hr16 hp65 kb ob hKL hc (y := yX4_on) (cc := cX4_on) (maxL := 7) (ret := (some .int)) (by decide) (Nat.le_of_ble_eq_true rfl) rfl dX4_on_0 dX4_on_1) wm_L_34 wi_X4_on ws_X4_on wn_X4 wc_X4_on hd_X4_on ⟨rfl, rfl, by decide, by decide⟩ XW.blind (va_recv hK hP (ci := 3) (q0 := 0) rfl rfl) (XW.cut hP hD hK hA hE hX hS) hl.1 (Nat.le_of_ble_eq_true rfl) dL_on_5 rfl ⟨by decide, by decide⟩) hP hD hA hS (fun ce q9 u H locs hp9 hP hD hS hc1 hc2 hc3 => ?_)
    have hLI := hp9
    refine vx_catch hown ([]) ⟨0, 10, 13, 25⟩ (tableOf []) (htb.trans rfl) (fun _ h => nomatch h) (by decide) (by decide) (hG _ wl_L_25) (va_Nw.use rfl hX.c3) hc1 hc2 hc3 ?_
    refine lv_astore (lv' := [(4, .ref q9), (0, .ref h0), (1, .int v), (2, .int (bI w)), (3, .ref ho)]) hx hb dL_on_13 hl (by decide) rfl (fun ls hl => ?_)
    refine lv_iconst (v := nI 1) hx hb dL_on_15 (by decide) ?_
    exact weX ((((bI true, bI false, ow, tr, fu, kg, co, pn), (nI sd, nI rt, pI ps, nI n), (pcs, sqa, mvs, los), u, lfs, asz, afs), o)) hx hb hr hlocks dL_on_16 (⟨by rw [hnd], ⟨hCP, rfl, rfl, rfl, rfl, true, false, rfl, rfl, KLp.no hc⟩, Kp.rf _ _, fun z => absurd (hnd.symm.trans z) (by decide)⟩) hP hD hK hA hE hS
theorem dL_pinned_0 : decode cL_pinned 0 = .ok (.aload_n 1, 1) := by decide +kernel
theorem dL_pinned_1 : decode cL_pinned 1 = .ok (.iconst 0, 1) := by decide +kernel
theorem dL_pinned_2 : decode cL_pinned 2 = .ok (.aload_n 0, 1) := by decide +kernel
theorem dL_pinned_3 : decode cL_pinned 3 = .ok (.invokevirtual 54, 3) := by decide +kernel
theorem dL_pinned_6 : decode cL_pinned 6 = .ok (.lastore, 1) := by decide +kernel
theorem dL_pinned_7 : decode cL_pinned 7 = .ok (.goto 6, 3) := by decide +kernel
theorem dL_pinned_10 : decode cL_pinned 10 = .ok (.astore_n 2, 1) := by decide +kernel
theorem dL_pinned_11 : decode cL_pinned 11 = .ok (.iconst 1, 1) := by decide +kernel
theorem dL_pinned_12 : decode cL_pinned 12 = .ok (.ireturn, 1) := by decide +kernel
theorem dL_pinned_13 : decode cL_pinned 13 = .ok (.iconst 0, 1) := by decide +kernel
theorem dL_pinned_14 : decode cL_pinned 14 = .ok (.ireturn, 1) := by decide +kernel
set_option maxHeartbeats 4000000 in
set_option maxRecDepth 100000 in
theorem c_L_pinned (l : Launch) (hlt : l.stackTraces = false) {D : va_G} {cI cJ : ClassId} {A : Nat → Prop} {h0 h1 h2 a0 a1 a2 a3 h3 a4 h4 a5 : Nat} (x : CS) {ho : Nat} (o : Nat → Int64) (bd : Nat → Nat) (sd rt ps n : Nat) (hs2 : sd < 2) (hr16 : rt < 16) (hp65 : ps < 65) (hn : n ≤ 200) (hI : CI x bd sd rt ps n)  : Met l yL_pinned (Cond.codeWith yL_pinned cL_pinned 3 (some .int) [(0, 7, 10, 25)] :: wsL_law) (rX 9) (va_Pc [.ref h0, .ref ho] (XW D cI cJ A (cV cI cJ h0 h1 h2 a0 a1 a2 a3 h3 a4 h4 a5 x ++ oW cJ ho o))) (va_Qi (fun r u => r = nI (ndN bd sd) ∧ CI u.1 bd sd rt ps n ∧ Kp x u.1 n ∧ (ndN bd sd = 0 → u.2 0 = pnN bd sd 64)) (fun (u : CS × (Nat → Int64)) t9 => IW D cI cJ A (cV cI cJ h0 h1 h2 a0 a1 a2 a3 h3 a4 h4 a5 u.1 ++ oW cJ ho u.2) t9) A) 1 6 A := by
  refine entH (by decide) (Nat.le_of_ble_eq_true rfl) ?_
  intro p e s m below meth c ls S0 hr hlocks hG htb hB hl
  have hx := S0.1
  have hb := S0.2.1
  have hown := S0.2.2.2.1
  have hl : lv_has ls 3 [(0, .ref h0), (1, .ref ho)] := hl
  obtain ⟨⟨hP, hD, hK, hA, hE⟩, hX⟩ := hB
  have hS : va_S A s.heap s.heap [] := va_S.rf
  obtain ⟨⟨kn, op, ow, tr, fu, kg, co, pn⟩, ⟨si, ri, pa, ma⟩, ⟨pcs, sqa, mvs, los⟩, lsz, lfs, asz, afs⟩ := x
  obtain ⟨hCP, e1, e2, e3, e4, kb, ob, e5, e6, hKL⟩ := hI
  dsimp only at hCP e1 e2 e3 e4 e5 e6 hKL hP hD
  subst e1 e2 e3 e4 e5 e6
  have hb9 : ∀ q, q < 64 → bd q < 13 := fun q hq => (hCP.1 q hq).2
  have hP : va_P D classes (cW cI cJ h0 h1 h2 a0 a1 a2 a3 h3 a4 h4 a5 (bI kb) (bI ob) ow tr fu kg co pn (nI sd) (nI rt) (pI ps) (nI n) pcs sqa mvs los lsz lfs asz afs ++ oW cJ ho o) s.heap := hP
  have hD : va_D A (cW cI cJ h0 h1 h2 a0 a1 a2 a3 h3 a4 h4 a5 (bI kb) (bI ob) ow tr fu kg co pn (nI sd) (nI rt) (pI ps) (nI n) pcs sqa mvs los lsz lfs asz afs ++ oW cJ ho o) := hD
  refine lv_aload_n hx hb dL_pinned_0 rfl (lv_at hl 1 rfl) ?_
  refine lv_iconst (v := nI 0) hx hb dL_pinned_1 (by decide) ?_
  refine lv_aload_n hx hb dL_pinned_2 rfl (lv_at hl 0 rfl) ?_
  by_cases hp : plb bd sd = true
  · skip
    have hc : cbp bd sd = true := (cbp_e hb9 hs2).trans hp
    have hfe : fil bd sd rt ps = legs bd sd rt ps := fil_e hb9 hs2 hr16 hp65 hp
    have hlen : (fil bd sd rt ps).length ≤ 700 := by rw [hfe]; exact len_ok bd sd rt ps hb9 hs2 hp65
    have hlg : lgs bd sd rt ps = legs bd sd rt ps := if_pos hp
    have hnd : ndN bd sd = 0 := if_pos hp
    have hsz : szN bd sd rt ps = (legs bd sd rt ps).length := if_pos hp
    refine ftL (A := A) (wc := cW cI cJ h0 h1 h2 a0 a1 a2 a3 h3 a4 h4 a5 (bI kb) (bI ob) ow tr fu kg co pn (nI sd) (nI rt) (pI ps) (nI n) pcs sqa mvs los lsz lfs asz afs) (wr := oW cJ ho o) (rnV (As := []) (rest := [.int (nI 0), .ref ho]) S0 (c_X4_pinned l (A := va_A (cW cI cJ h0 h1 h2 a0 a1 a2 a3 h3 a4 h4 a5 (bI kb) (bI ob) ow tr fu kg co pn (nI sd) (nI rt) (pI ps) (nI n) pcs sqa mvs los lsz lfs asz afs) s.heap.size) bd hCP sd rt ps hs2 hr16 hp65 kb ob hKL hc hlen) wm_L_54 wi_X4_pinned ws_X4_pinned wn_X4 wc_X4_pinned hd_X4_pinned ⟨rfl, rfl, by decide, by decide⟩ IW.blind (va_recv hK hP (ci := 3) (q0 := 0) rfl rfl) (IW.cut hP hD hK hA hE hS) hl.1 (Nat.le_of_ble_eq_true rfl) dL_pinned_3 rfl ⟨by decide, by decide⟩) hP hD hA hS (fun r u H locs hu hP hD hS => ?_)
    obtain ⟨rfl, hLI⟩ := hu
    refine va_last hx hb hK hP hD hS 11 1 rfl rfl (vp_in_nI (by decide) (by decide)) dL_pinned_6 (fun H locs hP hD hS => ?_)
    refine lv_goto (tgt := 13) hx hb dL_pinned_7 (by decide) ?_
    refine lv_iconst (v := nI 0) hx hb dL_pinned_13 (by decide) ?_
    refine W.widen (k := 1) (n := 6) (by decide) (by decide) ?_
    exact weX ((((bI true, bI true, u.2.1, u.2.2.1, u.2.2.2.1, u.2.2.2.2.1, u.2.2.2.2.2.1, u.2.2.2.2.2.2), (nI sd, nI rt, pI ps, nI n), (pcs, sqa, mvs, los), nI (fil bd sd rt ps).length, u.1, asz, afs), (vp_updL o (nI 0).toNatClampNeg (pinS bd sd)))) hx hb hr hlocks dL_pinned_14 (⟨by rw [hnd], ⟨hCP, rfl, rfl, rfl, rfl, true, true, rfl, rfl, KLp.yes hc hLI⟩, Kp.rf _ _, fun _ => by refine (ov0 o (pinS bd sd)).trans ?_; rw [pin_e hb9 hs2 hp]⟩) hP hD hK hA hE hS
  · skip
    have hc : cbp bd sd = false := (cbp_e hb9 hs2).trans (by simpa using hp)
    have hnd : ndN bd sd = 1 := if_neg hp
    refine ftX (A := A) (wc := cW cI cJ h0 h1 h2 a0 a1 a2 a3 h3 a4 h4 a5 (bI kb) (bI ob) ow tr fu kg co pn (nI sd) (nI rt) (pI ps) (nI n) pcs sqa mvs los lsz lfs asz afs) (wr := oW cJ ho o) (rnVX (As := []) (rest := [.int (nI 0), .ref ho]) S0 (nlX l hlt (A := va_A (cW cI cJ h0 h1 h2 a0 a1 a2 a3 h3 a4 h4 a5 (bI kb) (bI ob) ow tr fu kg co pn (nI sd) (nI rt) (pI ps) (nI n) pcs sqa mvs los lsz lfs asz afs) s.heap.size) bd hCP sd rt ps hs2 hr16 hp65 kb ob hKL hc (y := yX4_pinned) (cc := cX4_pinned) (maxL := 1) (ret := (some .long)) (by decide) (Nat.le_of_ble_eq_true rfl) rfl dX4_pinned_0 dX4_pinned_1) wm_L_54 wi_X4_pinned ws_X4_pinned wn_X4 wc_X4_pinned hd_X4_pinned ⟨rfl, rfl, by decide, by decide⟩ XW.blind (va_recv hK hP (ci := 3) (q0 := 0) rfl rfl) (XW.cut hP hD hK hA hE hX hS) hl.1 (Nat.le_of_ble_eq_true rfl) dL_pinned_3 rfl ⟨by decide, by decide⟩) hP hD hA hS (fun ce q9 u H locs hp9 hP hD hS hc1 hc2 hc3 => ?_)
    have hLI := hp9
    refine vx_catch hown ([]) ⟨0, 7, 10, 25⟩ (tableOf []) (htb.trans rfl) (fun _ h => nomatch h) (by decide) (by decide) (hG _ wl_L_25) (va_Nw.use rfl hX.c3) hc1 hc2 hc3 ?_
    refine lv_astore_n (lv' := [(2, .ref q9), (0, .ref h0), (1, .ref ho)]) hx hb dL_pinned_10 rfl hl (by decide) rfl (fun ls hl => ?_)
    refine lv_iconst (v := nI 1) hx hb dL_pinned_11 (by decide) ?_
    exact weX ((((bI true, bI false, ow, tr, fu, kg, co, pn), (nI sd, nI rt, pI ps, nI n), (pcs, sqa, mvs, los), u, lfs, asz, afs), o)) hx hb hr hlocks dL_pinned_12 (⟨by rw [hnd], ⟨hCP, rfl, rfl, rfl, rfl, true, false, rfl, rfl, KLp.no hc⟩, Kp.rf _ _, fun z => absurd (hnd.symm.trans z) (by decide)⟩) hP hD hK hA hE hS

/-! THE CLAIM OUT OF ONE WALK OF THE LAW'S BODY. Your part is whole_start (and what it stands on); all else here is the same for every law, but numbers. -/
def R_law : String := "MoveListLaw"
def lw_P (b : Addr) (xs : List Int32) (args : Array Value) (s : State) : Prop := args = #[.ref b] ∧ s.IntsAt b xs ∧ xs.length ≤ 256 ∧ (Jvm.Cond.and given_1 narrow_1).before args s = true
def lw_Q (_ : Array Value) (s : State) (o : Outcome) (t : State) : Prop := o = .returned (some (.int 1)) ∧ Framed s o t [] 600128 7301098
def lw_Z (below : List Frame) (a : Array Value) (s : State) : State → Prop := fun t => ∃ o, t.status = .running ∧ Ended t below o ∧ lw_Q a s o t
/-- the law's own end, with 1 on the stack, nothing written that was there before, its room as the claim has it -/
theorem lw_ret {p : Program} {l : Launch} {e : Env} {s : State} {m : MethodId} {below : List Frame} {meth : Method} {c : Code} {b : Nat} (hx : p.tables.exec = Jvm.exec) (hb : c.code = code) (hr : meth.sig.returnType = ret) (hlocks : meth.locks = false) {pc : Nat} {H : Heap} {ls : Array Slot} (hdg : decode code pc = .ok (.ireturn, 1)) : W p l e room_1 s m #[Value.ref b] below meth c H [] 600128 7301098 (lw_Z below #[Value.ref b] s) (F0 m pc ls [.int 1]) := by
  intro T hT X
  obtain ⟨fs, hret, hrun, hended, hW, hframe⟩ := X.leave (v := some (.int 1)) (hlocks := hlocks) (fun h => by rw [hr] at h; cases h)
  have hmeth' : T.vm.method? m = some meth := X.method'
  refine ⟨T.setFrames fs, ?_, .returned (some (.int 1)), hrun, hended, rfl, ⟨_, rfl⟩, hW, hframe⟩
  jvm_step X.here [X.here.top, hx, hb, hdg, hmeth', hr, ret, narrow_b1]
  (try refine ⟨rfl, ?_⟩); (try refine ⟨rfl, ?_⟩)
  first | (intro acts; rw [hret _ acts rfl rfl rfl]) | rw [hret _ _ rfl rfl rfl]
  exact Steps.refl _
/-- what holds at the law's entry: the machine, the code, the tables' words (any of lw_tbl by 'hts w (by decide +kernel)'), the script of L ints xs at the cell b, what the Statement gives of the start (any of its parts by flat_of_before) -/
def lw_At (p : Program) (s : State) (m : MethodId) (meth : Method) (c : Code) (b L : Nat) (xs : Nat → Int32) : Prop :=
  p.tables.exec = Jvm.exec ∧ c.code = code ∧ meth.sig.returnType = ret ∧ c.maxLocals = 8 ∧ s.vm.findClass R_law = some m.cls ∧ (∀ w ∈ lw_tbl, w.before #[Value.ref b] s = true) ∧ va_X b L xs s s.heap ∧ b < s.heap.size ∧ meth.locks = false ∧ (Jvm.Cond.and given_1 narrow_1).before #[Value.ref b] s = true
theorem sub4 : ∀ L, L < 257 → (nI L - nI 4).toInt = (L : Int) - 4 := by decide +kernel
theorem gt4 {L i : Nat} (hL : L ≤ 256) (hi : i < 1000) : nI L - nI 4 < nI i ↔ L < i + 4 := by
  rw [Int32.lt_iff_toInt_lt, sub4 L (by omega), nI_toInt (by omega)]
  omega
theorem tb16 {v : Int32} (h0 : ¬ v = nI 0) (h1 : ¬ v = nI 1) (h2 : ¬ v = nI 2) (h3 : ¬ v = nI 3) (h4 : ¬ v = nI 4) (h5 : ¬ v = nI 5) (h6 : ¬ v = nI 6) (h7 : ¬ v = nI 7) (h8 : ¬ v = nI 8) (h9 : ¬ v = nI 9) (h10 : ¬ v = nI 10) (h11 : ¬ v = nI 11) (h12 : ¬ v = nI 12) (h13 : ¬ v = nI 13) (h14 : ¬ v = nI 14) (h15 : ¬ v = nI 15) (h16 : ¬ v = nI 16) : v.toInt < 0 ∨ 16 < v.toInt := by
  have e0 : (nI 0).toInt = 0 := rfl
  have e1 : (nI 1).toInt = 1 := rfl
  have e2 : (nI 2).toInt = 2 := rfl
  have e3 : (nI 3).toInt = 3 := rfl
  have e4 : (nI 4).toInt = 4 := rfl
  have e5 : (nI 5).toInt = 5 := rfl
  have e6 : (nI 6).toInt = 6 := rfl
  have e7 : (nI 7).toInt = 7 := rfl
  have e8 : (nI 8).toInt = 8 := rfl
  have e9 : (nI 9).toInt = 9 := rfl
  have e10 : (nI 10).toInt = 10 := rfl
  have e11 : (nI 11).toInt = 11 := rfl
  have e12 : (nI 12).toInt = 12 := rfl
  have e13 : (nI 13).toInt = 13 := rfl
  have e14 : (nI 14).toInt = 14 := rfl
  have e15 : (nI 15).toInt = 15 := rfl
  have e16 : (nI 16).toInt = 16 := rfl
  rw [← Int32.toInt_inj] at h0 h1 h2 h3 h4 h5 h6 h7 h8 h9 h10 h11 h12 h13 h14 h15 h16
  omega
theorem CP_0 : CP (fun _ => 0) (vp_updL (fun _ => 0) (nI 0).toNatClampNeg (-1)) (fun _ => 0) := by
  constructor
  · intro q _
    exact ⟨nI_0.symm, show 0 < 13 by decide⟩
  · intro k hk
    refine sqf_ext (fun i hi => ?_)
    by_cases e : k = 0
    · subst e
      rw [show vp_updL (fun _ => 0) (nI 0).toNatClampNeg (-1) 0 = (-1 : Int64) from ov0 _ _]
      have h := bt_not (x := 0) hi
      rw [bt_0, show (0 : Int64) ^^^ (-1) = -1 from by decide] at h
      rw [h]
      simp
    · rw [show vp_updL (fun _ => 0) (nI 0).toNatClampNeg (-1) k = (0 : Int64) from pk_uLn (by rw [nI_clamp (by decide)]; exact e), bt_0]
      rw [decide_eq_false (fun z => e z.symm)]
theorem Bd_0 : Bd (upd (fun _ => 0) (nI 66).toNatClampNeg (-1)) 0 (fun _ => 0) 0 0 64 := by
  rw [nI_clamp (by decide)]
  refine ⟨fun q hq => ⟨?_, show 0 < 13 by decide⟩, ?_, by decide, ?_, by decide, ?_, by decide⟩
  · rw [pk_un (by omega)]; exact nI_0.symm
  · rw [pk_un (by omega)]; exact nI_0.symm
  · rw [pk_un (by omega)]; exact nI_0.symm
  · rw [pk_us]; exact pI_64.symm
set_option maxHeartbeats 4000000 in
set_option maxRecDepth 100000 in
/-- the loop -/
theorem law_loop {p : Program} {l : Launch} {e : Env} {s : State} {m : MethodId} {below : List Frame} {meth : Method} {c : Code} {b L : Nat} {xs : Nat → Int32} {A : Nat → Prop} {D : va_G} {cI cJ : ClassId} {h0 h1 h2 a0 a1 a2 a3 h3 a4 h4 a5 ho hm b0 b1 b2 b3 : Nat} (hF : LF p l s m meth c b L xs A D cI cJ) (hr : meth.sig.returnType = ret) (hL : L ≤ 256) (hAe : ∀ q : Nat, A q → s.heap.size ≤ q) : ∀ (k i : Nat) (x : CS) (y : RS) (o : Nat → Int64) (H : Heap) (locs : List Loc) (cells slots : Nat) (ls : Array Slot), L < i + 4 * k → i < 1000 → cells + k ≤ 600000 → slots + 6 * k ≤ 7300000 → JI x y → va_P D classes ((cV cI cJ h0 h1 h2 a0 a1 a2 a3 h3 a4 h4 a5 x ++ oW cJ ho o) ++ rV cI hm b0 b1 b2 b3 y) H → va_D A ((cV cI cJ h0 h1 h2 a0 a1 a2 a3 h3 a4 h4 a5 x ++ oW cJ ho o) ++ rV cI hm b0 b1 b2 b3 y) → va_S A s.heap H locs → lv_has ls 8 [(0, .ref b), (1, .ref h0), (2, .ref hm), (3, .ref ho), (4, .int (nI i))] → W p l e room_1 s m #[Value.ref b] below meth c H locs cells slots (lw_Z below #[Value.ref b] s) (F0 m 23 ls []) := by
  intro k
  induction k with
  | zero =>
    intro i x y o H locs cells slots ls hk hi9 hc hs hJ hP hD hS hl
    obtain ⟨S0, hlocks, hK, hA, hE, hX, hScr, hbl, hbA, hlt⟩ := hF
    have hx := S0.1
    have hb := S0.2.1
    refine lv_iload hx hb dL_law_23 (lv_at hl 4 rfl) ?_
    refine lv_aload_n hx hb dL_law_25 rfl (lv_at hl 0 rfl) ?_
    refine va_slen hx hb hScr hbl hbA hS dL_law_26 ?_
    refine lv_iconst (v := nI 4) hx hb dL_law_27 (by decide) ?_
    refine lv_isub hx hb dL_law_28 ?_
    refine lv_icmp_gt (tgt := 833) hx hb dL_law_29 (by decide) (fun c29 => ?_) (fun c29 => ?_)
    · refine lv_iconst (v := 1) hx hb dL_law_833 (by decide) ?_
      refine va_forget (fun q hq => hAe _ (hS.2.2 q hq)) ?_
      refine W.widen (k := 600128) (n := 7301098) (by omega) (by omega) ?_
      exact lw_ret hx hb hr hlocks dL_law_834
    · exact absurd ((gt4 hL hi9).mpr (by omega)) c29
  | succ k ih =>
    intro i x y o H locs cells slots ls hk hi9 hc hs hJ hP hD hS hl
    have hF2 := hF
    obtain ⟨S0, hlocks, hK, hA, hE, hX, hScr, hbl, hbA, hlt⟩ := hF
    have hx := S0.1
    have hb := S0.2.1
    refine lv_iload hx hb dL_law_23 (lv_at hl 4 rfl) ?_
    refine lv_aload_n hx hb dL_law_25 rfl (lv_at hl 0 rfl) ?_
    refine va_slen hx hb hScr hbl hbA hS dL_law_26 ?_
    refine lv_iconst (v := nI 4) hx hb dL_law_27 (by decide) ?_
    refine lv_isub hx hb dL_law_28 ?_
    refine lv_icmp_gt (tgt := 833) hx hb dL_law_29 (by decide) (fun c29 => ?_) (fun c29 => ?_)
    · refine lv_iconst (v := 1) hx hb dL_law_833 (by decide) ?_
      refine va_forget (fun q hq => hAe _ (hS.2.2 q hq)) ?_
      refine W.widen (k := 600128) (n := 7301098) (by omega) (by omega) ?_
      exact lw_ret hx hb hr hlocks dL_law_834
    · have c30 : ¬ L < i + 4 := fun z => c29 ((gt4 hL hi9).mpr z)
      have hi4 : i + 4 ≤ L := by omega
      have kk : ∀ (x : CS) (y : RS) (o : Nat → Int64) (H : Heap) (locs : List Loc) (ls : Array Slot), JI x y → va_P D classes ((cV cI cJ h0 h1 h2 a0 a1 a2 a3 h3 a4 h4 a5 x ++ oW cJ ho o) ++ rV cI hm b0 b1 b2 b3 y) H → va_D A ((cV cI cJ h0 h1 h2 a0 a1 a2 a3 h3 a4 h4 a5 x ++ oW cJ ho o) ++ rV cI hm b0 b1 b2 b3 y) → va_S A s.heap H locs → lv_has ls 8 [(0, .ref b), (1, .ref h0), (2, .ref hm), (3, .ref ho), (4, .int (nI i))] → W p l e room_1 s m #[Value.ref b] below meth c H locs (cells + 1) (slots + 6) (lw_Z below #[Value.ref b] s) (F0 m 827 ls []) := by
        intro x y o H locs ls hJ hP hD hS hl
        refine lv_iinc (v := nI (i + 4)) (lv' := [(4, .int (nI (i + 4))), (0, .ref b), (1, .ref h0), (2, .ref hm), (3, .ref ho)]) hx hb dL_law_827 hl (k := 4) rfl (show nI i + Int32.ofInt 4 = nI (i + 4) from nI_add _ 4) (by decide) rfl (fun ls hl => ?_)
        refine lv_goto (tgt := 23) hx hb dL_law_830 (by decide) ?_
        exact ih (i + 4) x y o H locs _ _ ls (by omega) (by omega) (by omega) (by omega) hJ hP hD hS (lv_sub hl [1, 2, 3, 4, 0] rfl)
      refine lv_aload_n hx hb dL_law_32 rfl (lv_at hl 0 rfl) ?_
      refine lv_iload hx hb dL_law_33 (lv_at hl 4 rfl) ?_
      refine va_sld hx hb hScr hbl hbA hS (vp_in_nI (by omega) (by omega)) dL_law_35 ?_
      refine W.top (y := .int (xs i)) (congrArg (fun z => Value.int (xs z)) (nI_clamp (by omega))) ?_
      refine lv_bipush (v := nI 31) hx hb dL_law_36 (by decide) ?_
      refine lv_iand hx hb dL_law_38 ?_
      generalize xs i &&& nI 31 = v9
      by_cases g0 : v9 = nI 0
      · refine lv_tableIn (off := 81) (tgt := 120) hx hb dL_law_39 (by rw [g0]; decide) (by rw [g0]; decide) (by rw [g0]; decide) (by decide) ?_
        exact law_0 hF2 hL hi4 x y o hJ hP hD hS (by omega) (by omega) hl kk
      by_cases g1 : v9 = nI 1
      · refine lv_tableIn (off := 92) (tgt := 131) hx hb dL_law_39 (by rw [g1]; decide) (by rw [g1]; decide) (by rw [g1]; decide) (by decide) ?_
        exact law_1 hF2 hL hi4 x y o hJ hP hD hS (by omega) (by omega) hl kk
      by_cases g2 : v9 = nI 2
      · refine lv_tableIn (off := 103) (tgt := 142) hx hb dL_law_39 (by rw [g2]; decide) (by rw [g2]; decide) (by rw [g2]; decide) (by decide) ?_
        exact law_2 hF2 hL hi4 x y o hJ hP hD hS (by omega) (by omega) hl kk
      by_cases g3 : v9 = nI 3
      · refine lv_tableIn (off := 151) (tgt := 190) hx hb dL_law_39 (by rw [g3]; decide) (by rw [g3]; decide) (by rw [g3]; decide) (by decide) ?_
        exact law_3 hF2 hL hi4 x y o hJ hP hD hS (by omega) (by omega) hl kk
      by_cases g4 : v9 = nI 4
      · refine lv_tableIn (off := 211) (tgt := 250) hx hb dL_law_39 (by rw [g4]; decide) (by rw [g4]; decide) (by rw [g4]; decide) (by decide) ?_
        exact law_4 hF2 hL hi4 x y o hJ hP hD hS (by omega) (by omega) hl kk
      by_cases g5 : v9 = nI 5
      · refine lv_tableIn (off := 224) (tgt := 263) hx hb dL_law_39 (by rw [g5]; decide) (by rw [g5]; decide) (by rw [g5]; decide) (by decide) ?_
        exact law_5 hF2 hL hi4 x y o hJ hP hD hS (by omega) (by omega) hl kk
      by_cases g6 : v9 = nI 6
      · refine lv_tableIn (off := 268) (tgt := 307) hx hb dL_law_39 (by rw [g6]; decide) (by rw [g6]; decide) (by rw [g6]; decide) (by decide) ?_
        exact law_6 hF2 hL hi4 x y o hJ hP hD hS (by omega) (by omega) hl kk
      by_cases g7 : v9 = nI 7
      · refine lv_tableIn (off := 324) (tgt := 363) hx hb dL_law_39 (by rw [g7]; decide) (by rw [g7]; decide) (by rw [g7]; decide) (by decide) ?_
        exact law_7 hF2 hL hi4 x y o hJ hP hD hS (by omega) (by omega) hl kk
      by_cases g8 : v9 = nI 8
      · refine lv_tableIn (off := 380) (tgt := 419) hx hb dL_law_39 (by rw [g8]; decide) (by rw [g8]; decide) (by rw [g8]; decide) (by decide) ?_
        exact law_8 hF2 hL hi4 x y o hJ hP hD hS (by omega) (by omega) hl kk
      by_cases g9 : v9 = nI 9
      · refine lv_tableIn (off := 464) (tgt := 503) hx hb dL_law_39 (by rw [g9]; decide) (by rw [g9]; decide) (by rw [g9]; decide) (by decide) ?_
        exact law_9 hF2 hL hi4 x y o hJ hP hD hS (by omega) (by omega) hl kk
      by_cases g10 : v9 = nI 10
      · refine lv_tableIn (off := 520) (tgt := 559) hx hb dL_law_39 (by rw [g10]; decide) (by rw [g10]; decide) (by rw [g10]; decide) (by decide) ?_
        exact law_10 hF2 hL hi4 x y o hJ hP hD hS (by omega) (by omega) hl kk
      by_cases g11 : v9 = nI 11
      · refine lv_tableIn (off := 575) (tgt := 614) hx hb dL_law_39 (by rw [g11]; decide) (by rw [g11]; decide) (by rw [g11]; decide) (by decide) ?_
        exact law_11 hF2 hL hi4 x y o hJ hP hD hS (by omega) (by omega) hl kk
      by_cases g12 : v9 = nI 12
      · refine lv_tableIn (off := 631) (tgt := 670) hx hb dL_law_39 (by rw [g12]; decide) (by rw [g12]; decide) (by rw [g12]; decide) (by decide) ?_
        exact law_12 hF2 hL hi4 x y o hJ hP hD hS (by omega) (by omega) hl kk
      by_cases g13 : v9 = nI 13
      · refine lv_tableIn (off := 644) (tgt := 683) hx hb dL_law_39 (by rw [g13]; decide) (by rw [g13]; decide) (by rw [g13]; decide) (by decide) ?_
        exact law_13 hF2 hL hi4 x y o hJ hP hD hS (by omega) (by omega) hl kk
      by_cases g14 : v9 = nI 14
      · refine lv_tableIn (off := 669) (tgt := 708) hx hb dL_law_39 (by rw [g14]; decide) (by rw [g14]; decide) (by rw [g14]; decide) (by decide) ?_
        exact law_14 hF2 hL hi4 x y o hJ hP hD hS (by omega) (by omega) hl kk
      by_cases g15 : v9 = nI 15
      · refine lv_tableIn (off := 720) (tgt := 759) hx hb dL_law_39 (by rw [g15]; decide) (by rw [g15]; decide) (by rw [g15]; decide) (by decide) ?_
        exact law_15 hF2 hL hi4 x y o hJ hP hD hS (by omega) (by omega) hl kk
      by_cases g16 : v9 = nI 16
      · refine lv_tableIn (off := 763) (tgt := 802) hx hb dL_law_39 (by rw [g16]; decide) (by rw [g16]; decide) (by rw [g16]; decide) (by decide) ?_
        exact law_16 hF2 hL hi4 x y o hJ hP hD hS (by omega) (by omega) hl kk
      refine lv_tableOut (tgt := 827) hx hb dL_law_39 (tb16 g0 g1 g2 g3 g4 g5 g6 g7 g8 g9 g10 g11 g12 g13 g14 g15 g16) (by decide) ?_
      exact W.widen (k := cells + 1) (n := slots + 6) (by omega) (by omega) (kk x y o H locs ls hJ hP hD hS hl)
set_option maxHeartbeats 4000000 in
set_option maxRecDepth 100000 in
theorem whole_start {p : Program} {e : Env} {s : State} {m : MethodId} {below : List Frame} {meth : Method} {c : Code} (l : Launch) (hlt : l.stackTraces = false) {b L : Nat} {xs : Nat → Int32} (hL : L ≤ 256) (C0 : lw_At p s m meth c b L xs) : W p l e room_1 s m #[Value.ref b] below meth c s.heap [] 0 0 (lw_Z below #[Value.ref b] s) (entryFrame m ([Value.ref b] : List Value).toArray 8) := by
  obtain ⟨hx, hb, hr, hml, hown, hts, hScr, hbl, hlocks, hgv⟩ := C0
  obtain ⟨D, cI, cJ, hK⟩ := K_start hts
  have hG : ∀ w ∈ wsL_law, w.before #[Value.ref b] s = true := fun w h => hts w (wsL_in w h)
  generalize hAe : (fun q : Nat => s.heap.size ≤ q) = A
  have hA : ∀ q : Nat, s.heap.size ≤ q → A q := fun q h => by rw [← hAe]; exact h
  have hA2 : ∀ q : Nat, A q → s.heap.size ≤ q := fun q h => by rw [← hAe] at h; exact h
  have hE : EV A s s.heap := EV_start hts hgv (fun a ha z => absurd (hA2 a z) (Nat.not_le.mpr ha))
  have hX : XV s := XV_start hts hgv
  have S0 : CallFix p m c cL_law 8 s #[Value.ref b] (Cond.initialized RX4 :: wsL_law) RL := ⟨hx, hb, hml, hown, fun w h => (List.mem_cons.mp h).elim (fun z => by rw [z]; exact hG _ wn_X4) (hG w)⟩
  have hF : LF p l s m meth c b L xs A D cI cJ := ⟨S0, hlocks, hK, hA, hE, hX, hScr, hbl, fun z => absurd (hA2 b z) (Nat.not_le.mpr hbl), hlt⟩
  have hS : va_S A s.heap s.heap [] := va_S.rf
  have hP : va_P D classes [] s.heap := fun k q h => by simp at h
  have hD : va_D A [] := ⟨fun i j p q h => by simp at h, fun k q h => by simp at h⟩
  have hl := lv_entry ([.ref b]) (n := 8) (Nat.le_of_ble_eq_true rfl)
  rw [lg_entry_eq]
  generalize (lg_sl ([.ref b]) ++ List.replicate (8 - (lg_sl ([.ref b])).length) Slot.unset).toArray = ls at hl ⊢
  have hl : lv_has ls 8 [(0, .ref b)] := hl
  refine va_new (ci := 3) (fs := [.null, .null, .null, .null, .int 0, .int 0]) (C := RX4) (T := TX4) (N := 6) hx hb hG wu_X4 tyX4 tyX4_ok hown (hG _ wl_L_8) (hG _ wb_X4) (hG _ wn_X4) hK hP hD hS hA rfl (by decide) (by decide) (by decide) dL_law_0 (fun h0 H hP hD hS => ?_)
  have hP : va_P D classes ([(h0, .inr (3, [.null, .null, .null, .null, .int 0, .int 0]))] ++ []) H := hP
  have hD : va_D A ([(h0, .inr (3, [.null, .null, .null, .null, .int 0, .int 0]))] ++ []) := hD
  refine lv_dup hx hb dL_law_3 rfl ?_
  refine ftV (A := A) (wc := [(h0, .inr (3, [.null, .null, .null, .null, .int 0, .int 0]))]) (wr := []) (rnI (As := []) (rest := [.ref h0]) S0 (c_X4_init l (A := va_A [(h0, .inr (3, [.null, .null, .null, .null, .int 0, .int 0]))] H.size)) rfl wm_L_58 wi_X4_init wn_X4 wc_X4_init hd_X4_init ⟨rfl, rfl, by decide, by decide⟩ IW.blind (IW.cut hP hD hK hA hE hS) hl.1 (Nat.le_of_ble_eq_true rfl) dL_law_4 rfl ⟨by decide, by decide⟩) hP hD hA hS (fun u H locs hu hP hD hS => ?_)
  obtain ⟨h1, ⟨h2, a0, a1, a2, a3⟩, h3, a4, h4, a5⟩ := u
  rw [List.append_nil] at hP hD
  have hP : va_P D classes (cV cI cJ h0 h1 h2 a0 a1 a2 a3 h3 a4 h4 a5 cs0) H := hP
  have hD : va_D A (cV cI cJ h0 h1 h2 a0 a1 a2 a3 h3 a4 h4 a5 cs0) := hD
  refine lv_astore_n (lv' := [(1, .ref h0), (0, .ref b)]) hx hb dL_law_7 rfl hl (by decide) rfl (fun ls hl => ?_)
  refine va_new (ci := 4) (fs := [.int 0, .null, .int 0, .null, .null, .int 0, .null]) (C := RX5) (T := TX5) (N := 7) hx hb hG wu_X5 tyX5 tyX5_ok hown (hG _ wl_L_59) (hG _ wb_X5) (hG _ wn_X5) hK hP hD hS hA rfl (by decide) (by decide) (by decide) dL_law_8 (fun hm H hP hD hS => ?_)
  have hPr : va_P D classes ([(hm, .inr (4, [.int 0, .null, .int 0, .null, .null, .int 0, .null]))] ++ cV cI cJ h0 h1 h2 a0 a1 a2 a3 h3 a4 h4 a5 cs0) H := hP.rot
  have hDr : va_D A ([(hm, .inr (4, [.int 0, .null, .int 0, .null, .null, .int 0, .null]))] ++ cV cI cJ h0 h1 h2 a0 a1 a2 a3 h3 a4 h4 a5 cs0) := hD.rot
  refine lv_dup hx hb dL_law_11 rfl ?_
  refine ftV (A := A) (wc := [(hm, .inr (4, [.int 0, .null, .int 0, .null, .null, .int 0, .null]))]) (wr := cV cI cJ h0 h1 h2 a0 a1 a2 a3 h3 a4 h4 a5 cs0) (rnI (As := []) (rest := [.ref hm]) S0 (c_X5_init l (A := va_A [(hm, .inr (4, [.int 0, .null, .int 0, .null, .null, .int 0, .null]))] H.size)) rfl wm_L_61 wi_X5_init wn_X5 wc_X5_init hd_X5_init ⟨rfl, rfl, by decide, by decide⟩ IW.blind (IW.cut hPr hDr hK hA hE hS) hl.1 (Nat.le_of_ble_eq_true rfl) dL_law_12 rfl ⟨by decide, by decide⟩) hPr hDr hA hS (fun u H locs hu hP hD hS => ?_)
  obtain ⟨b0, b1, b2, b3⟩ := u
  have hP : va_P D classes (cV cI cJ h0 h1 h2 a0 a1 a2 a3 h3 a4 h4 a5 cs0 ++ rV cI hm b0 b1 b2 b3 ((0, 0, 0), upd (fun _ => 0) (nI 66).toNatClampNeg (-1), fun _ => 0, fun _ => 0, fun _ => 0)) H := hP.rot
  have hD : va_D A (cV cI cJ h0 h1 h2 a0 a1 a2 a3 h3 a4 h4 a5 cs0 ++ rV cI hm b0 b1 b2 b3 ((0, 0, 0), upd (fun _ => 0) (nI 66).toNatClampNeg (-1), fun _ => 0, fun _ => 0, fun _ => 0)) := hD.rot
  refine lv_astore_n (lv' := [(2, .ref hm), (1, .ref h0), (0, .ref b)]) hx hb dL_law_15 rfl hl (by decide) rfl (fun ls hl => ?_)
  refine lv_iconst (v := nI 1) hx hb dL_law_16 (by decide) ?_
  refine nwJ hx hb (hG _ wa_long) hK hP hD hS hA (by decide) (by decide) (by decide) dL_law_17 (fun ho H hP hD hS => ?_)
  have hP : va_P D classes ((cV cI cJ h0 h1 h2 a0 a1 a2 a3 h3 a4 h4 a5 cs0 ++ oW cJ ho (fun _ => 0)) ++ rV cI hm b0 b1 b2 b3 ((0, 0, 0), upd (fun _ => 0) (nI 66).toNatClampNeg (-1), fun _ => 0, fun _ => 0, fun _ => 0)) H := hP.sub (ws' := (cV cI cJ h0 h1 h2 a0 a1 a2 a3 h3 a4 h4 a5 cs0 ++ oW cJ ho (fun _ => 0)) ++ rV cI hm b0 b1 b2 b3 ((0, 0, 0), upd (fun _ => 0) (nI 66).toNatClampNeg (-1), fun _ => 0, fun _ => 0, fun _ => 0)) [0, 1, 2, 3, 4, 5, 6, 7, 8, 9, 10, 16, 11, 12, 13, 14, 15] rfl
  have hD : va_D A ((cV cI cJ h0 h1 h2 a0 a1 a2 a3 h3 a4 h4 a5 cs0 ++ oW cJ ho (fun _ => 0)) ++ rV cI hm b0 b1 b2 b3 ((0, 0, 0), upd (fun _ => 0) (nI 66).toNatClampNeg (-1), fun _ => 0, fun _ => 0, fun _ => 0)) := hD.sub (ws' := (cV cI cJ h0 h1 h2 a0 a1 a2 a3 h3 a4 h4 a5 cs0 ++ oW cJ ho (fun _ => 0)) ++ rV cI hm b0 b1 b2 b3 ((0, 0, 0), upd (fun _ => 0) (nI 66).toNatClampNeg (-1), fun _ => 0, fun _ => 0, fun _ => 0)) [0, 1, 2, 3, 4, 5, 6, 7, 8, 9, 10, 16, 11, 12, 13, 14, 15] (by decide) rfl
  refine lv_astore_n (lv' := [(3, .ref ho), (2, .ref hm), (1, .ref h0), (0, .ref b)]) hx hb dL_law_19 rfl hl (by decide) rfl (fun ls hl => ?_)
  refine lv_iconst (v := nI 0) hx hb dL_law_20 (by decide) ?_
  refine lv_istore (lv' := [(4, .int (nI 0)), (3, .ref ho), (2, .ref hm), (1, .ref h0), (0, .ref b)]) hx hb dL_law_21 hl (by decide) rfl (fun ls hl => ?_)
  have hJ : JI cs0 ((0, 0, 0), upd (fun _ => 0) (nI 66).toNatClampNeg (-1), fun _ => 0, fun _ => 0, fun _ => 0) := ⟨fun _ => 0, 0, 0, 64, 0, by decide, ⟨CP_0, rfl, rfl, pI_64.symm, rfl, false, false, rfl, rfl, KLp.un false⟩, Bd_0, nI_0.symm, trivial⟩
  exact law_loop hF hr hL hA2 (L + 1) 0 cs0 ((0, 0, 0), upd (fun _ => 0) (nI 66).toNatClampNeg (-1), fun _ => 0, fun _ => 0, fun _ => 0) (fun _ => 0) H _ _ _ ls (by omega) (by omega) (by omega) (by omega) hJ hP hD hS (lv_sub hl [4, 3, 2, 1, 0] rfl)
set_option maxHeartbeats 4000000 in
theorem lw_walk (l : Launch) (hlt : l.stackTraces = false) (b : Addr) (xs : List Int32) : MetFree l x (headSpec (Jvm.Cond.code x code maxLocals ret :: tables_1) room_1) (lw_P b xs) (fun _ _ _ _ _ => True) lw_Q := by
  refine MetFree.of_bodyS (code := code) (maxLocals := maxLocals) (ret := ret) (by decide) ?_ ?_
  · intro args s m h hn
    obtain ⟨meth, c, h1, h2, h3, h4, h5, h6, -, -⟩ := Cond.code_spec hn (atoms_spec (ws := Jvm.Cond.code x code maxLocals ret :: tables_1) h _ List.mem_cons_self)
    exact ⟨meth, c, h1, h2, h3, h4, h5, h6⟩
  · intro p e s m args below meth c s₁ B hml0 hP _
    obtain ⟨rfl, hx, hbd, hgv⟩ := hP
    obtain ⟨scr, harrAt, hlist, hof, hsmall⟩ := hx
    obtain ⟨hcb, hkn, -, -⟩ := State.arrayAt?_spec harrAt
    have hown : s.vm.findClass R_law = some m.cls := findClass_of_methodNamed B.named
    have hts0 : ∀ c ∈ (Jvm.Cond.code x code maxLocals ret :: tables_1), c.before #[Value.ref b] s = true := atoms_spec (ws := Jvm.Cond.code x code maxLocals ret :: tables_1) B.pre
    have hts : ∀ w ∈ lw_tbl, w.before #[Value.ref b] s = true := k2_hts_sels lw_privs (fun w hw => hts0 w (List.mem_cons_of_mem _ hw)) lw_privs_ok
    have hml : c.maxLocals = 8 := B.maxLocals_eq (hts0 _ List.mem_cons_self)
    have X₀ : Stand p l e room_1 s m #[Value.ref b] below meth c s₁ [] 0 0 := Stand.of_body B
    have hh0 : s₁.heap = s.heap := by rw [B.state]; rfl
    have hsz : scr.slots.size = xs.length := by rw [← Array.length_toList, hlist, List.length_map]
    have hval : ∀ j : Nat, j < xs.length → scr.slots[j]? = some (.int (xs.getD j 0)) := fun j hj => by
      rw [← Array.getElem?_toList, hlist]
      simp [hj]
    have hbl : b < s.heap.size := (Array.getElem?_eq_some_iff.mp hcb).1
    have hX : va_X b xs.length (fun j => xs.getD j 0) s s.heap := ⟨scr, hcb, hof, hkn, hsz, hval⟩
    have K : W p l e room_1 s m #[Value.ref b] below meth c s₁.heap [] 0 0 (lw_Z below #[Value.ref b] s) (entryFrame m ([Value.ref b] : List Value).toArray 8) := by
      rw [hh0]
      exact whole_start l hlt hbd ⟨B.exec, B.bytes, B.returns, hml, hown, hts, hX, hbl, B.notSynchronized, hgv⟩
    obtain ⟨t, a1, o, b1, b2, b3⟩ := K s₁ rfl X₀
    exact ⟨t, o, a1, b1, b2, b3⟩
theorem lw_pre_spec {args : Array Value} {s : State} (h : (Jvm.Cond.and given_1 narrow_1).before args s = true) (hr : rest_1_c.before args s = true) : ∃ (b : Addr) (xs : List Int32), lw_P b xs args s := by
  have hs := flat_of_before _ h
  have hq := flat_of_before _ hr
  have hc : (Cond.count 1).before args s = true := hs _ (by decide +kernel)
  have harr : (Cond.arrayOf (.arg 0) .int).before args s = true := hs _ (by decide +kernel)
  have hle : (Cond.le (.length (.arg 0)) (.int 256)).before args s = true := hs _ (by decide +kernel)
  have hlen : (Cond.isInt (.length (.arg 0))).before args s = true := hq _ (by decide +kernel)
  have hall : (Cond.all (.arg 0) (.isInt (.elem (.arg 0) (.index 0)))).before args s = true := hq _ (by decide +kernel)
  obtain ⟨b, xs, hb, hx⟩ := State.ints_of_pre rfl harr hlen hall
  have hsm : xs.length < 2 ^ 31 := hx.choose_spec.2.2.2
  have hev : (Term.length (.arg 0)).eval args s none [] s = some (.int xs.length.toInt32) := hx.length_eval hb
  have hv := Cond.le_ints hev (show (Term.int 256).eval args s none [] s = some (.int 256) from rfl)
  have hd : xs.length.toInt32 ≤ 256 := by
    simpa [Cond.before, Cond.holds, hv] using hle
  have hN : xs.length ≤ 256 := (Int32.ofNat_le_ofNat hsm (by decide)).mp (show Int32.ofNat xs.length ≤ Int32.ofNat 256 from hd)
  exact ⟨b, xs, Cond.one_arg hc (show args[0]? = some (.ref b) from hb), hx, hN, h⟩
theorem lw_comes (l : Launch) (hlt : l.stackTraces = false) : Comes l x (Jvm.Cond.code x code maxLocals ret :: tables_1) room_1 (fun tb e args s => Calls_1 tb e args s ∧ rest_1 tb e args s ∧ Pre_1 tb e args s)
    (fun _ _ args s o t => lw_Q args s o t) := by
  intro p e ha hc hk s m args below hf hfit hheap happ hpre
  obtain ⟨b, xs, hP⟩ := lw_pre_spec hpre.2.2 hpre.2.1
  obtain ⟨k, o, h1, h2, h3, hQ⟩ := lw_walk l hlt b xs p e ha hc hk s m args below hf ((Spec.applies_iff_loose hf).mp happ).1 hP trivial
  exact ⟨k, o, h1, h2, h3, hQ⟩
theorem lw_frame {s t : State} {o : Outcome} {args : Array Value} (h : Framed s o t [] 600128 7301098) :
    Framed s o t (fieldLocs frame_1_writes args s ++ arrayLocs frame_1_arrays args s ++ staticLocs frame_1_statics s) 600128 7301098 := h
theorem lw_limb (L : Cond) (hL : ∀ (args : Array Value) (s t : State), L.after args s (.returned (some (.int 1))) t = true) :
    ArmFor flags0 classFile x code maxLocals ret World_1 tables_1 room_1 Calls_1 rest_1 Pre_1
      (fun tb e a s o t => postC L tb e a s o t ∧ Framed s o t (fieldLocs frame_1_writes a s ++ arrayLocs frame_1_arrays a s ++ staticLocs frame_1_statics s) 600128 7301098) := by
  intro l hfl _ _ p e ha hc hk s m args below hf hfit hheap happ hpre
  obtain ⟨k, o, h1, h2, h3, rfl, hF⟩ := lw_comes l (by unfold Launch.stackTraces; rw [hfl]; decide +kernel) p e ha hc hk s m args below hf hfit hheap happ hpre
  exact ⟨k, _, h1, h2, h3, hL args s _, lw_frame hF⟩
theorem i_vc : Claimed_1_1 ∧ Claimed_1_2 := ⟨lw_limb limb_1_1 (fun args s t => by simp [limb_1_1, Cond.after, Cond.holds, Cond.value]), lw_limb limb_1_2 (fun args s t => Cond.after_iff.mpr (by
  first | (rw [show limb_1_2 = Cond.eq .result (.int 1) from rfl, Cond.eq_ints (x := 1) (y := 1) rfl rfl]; simp; done) | (simp [limb_1_2, Cond.value, Term.eval]; done)))⟩

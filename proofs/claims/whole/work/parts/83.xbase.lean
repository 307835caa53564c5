/-! throws: words, rows; worlds side by side -/
abbrev rX (k : Nat) : Room := { frames := k, cells := 1, slots := 6, locals := 48 * k }
abbrev nIOB : String := "java/lang/IndexOutOfBoundsException"
abbrev nIAE : String := "java/lang/IllegalArgumentException"
abbrev nISE : String := "java/lang/IllegalStateException"
abbrev nUOE : String := "java/lang/UnsupportedOperationException"
abbrev nmX : List String := ["java/lang/RuntimeException", "java/lang/Exception"]
abbrev inS (k : String) : MethodName := ⟨k, "<init>", "(Ljava/lang/String;)V"⟩
/-- what is known of the throws beside the words -/
def XV (U : State) : Prop := (va_Nw (.declares (inS "java/lang/RuntimeException")) U) ∧ (va_Nw (.declares (inS "java/lang/Exception")) U) ∧ (va_Nw (.declares (inS "java/lang/Throwable")) U) ∧ (va_Nw (.castable nIOB nIOB) U) ∧ (va_Nw (.castable nIAE nIAE) U) ∧ (va_Nw (.castable nISE nISE) U) ∧ (va_Nw (.castable nUOE nUOE) U) ∧ (∃ a, vk_R RX4 55 "no such square" a U) ∧ (∃ a, vk_R RX4 65 "no such piece" a U) ∧ (∃ a, vk_R RX4 72 "no such side" a U) ∧ (∃ a, vk_R RX4 74 "no such rights" a U) ∧ (∃ a, vk_R RX4 76 "passing is neither a square nor none" a U) ∧ (∃ a, vk_R RX4 98 "no such move in the list" a U) ∧ (∃ a, vk_R RX4 113 "not a legal move" a U) ∧ (∃ a, vk_R RX4 132 "no such depth" a U) ∧ (∃ a, vk_R RX4 143 "no more moves can be taken back" a U) ∧ (∃ a, vk_R RX4 159 "the position can not be played" a U) ∧ (va_Nc nIAE nIOB U) ∧ (va_Nc nIOB nISE U) ∧ (va_Nc nIAE nISE U) ∧ (va_Nc nUOE nISE U) ∧ (va_Nc nUOE nIAE U)
theorem XV.d1 {U : State} (h : XV U) : va_Nw (.declares (inS "java/lang/RuntimeException")) U := h.1
theorem XV.d2 {U : State} (h : XV U) : va_Nw (.declares (inS "java/lang/Exception")) U := h.2.1
theorem XV.d3 {U : State} (h : XV U) : va_Nw (.declares (inS "java/lang/Throwable")) U := h.2.2.1
theorem XV.c1 {U : State} (h : XV U) : va_Nw (.castable nIOB nIOB) U := h.2.2.2.1
theorem XV.c2 {U : State} (h : XV U) : va_Nw (.castable nIAE nIAE) U := h.2.2.2.2.1
theorem XV.c3 {U : State} (h : XV U) : va_Nw (.castable nISE nISE) U := h.2.2.2.2.2.1
theorem XV.c4 {U : State} (h : XV U) : va_Nw (.castable nUOE nUOE) U := h.2.2.2.2.2.2.1
theorem XV.s55 {U : State} (h : XV U) : ∃ a, vk_R RX4 55 "no such square" a U := h.2.2.2.2.2.2.2.1
theorem XV.s65 {U : State} (h : XV U) : ∃ a, vk_R RX4 65 "no such piece" a U := h.2.2.2.2.2.2.2.2.1
theorem XV.s72 {U : State} (h : XV U) : ∃ a, vk_R RX4 72 "no such side" a U := h.2.2.2.2.2.2.2.2.2.1
theorem XV.s74 {U : State} (h : XV U) : ∃ a, vk_R RX4 74 "no such rights" a U := h.2.2.2.2.2.2.2.2.2.2.1
theorem XV.s76 {U : State} (h : XV U) : ∃ a, vk_R RX4 76 "passing is neither a square nor none" a U := h.2.2.2.2.2.2.2.2.2.2.2.1
theorem XV.s98 {U : State} (h : XV U) : ∃ a, vk_R RX4 98 "no such move in the list" a U := h.2.2.2.2.2.2.2.2.2.2.2.2.1
theorem XV.s113 {U : State} (h : XV U) : ∃ a, vk_R RX4 113 "not a legal move" a U := h.2.2.2.2.2.2.2.2.2.2.2.2.2.1
theorem XV.s132 {U : State} (h : XV U) : ∃ a, vk_R RX4 132 "no such depth" a U := h.2.2.2.2.2.2.2.2.2.2.2.2.2.2.1
theorem XV.s143 {U : State} (h : XV U) : ∃ a, vk_R RX4 143 "no more moves can be taken back" a U := h.2.2.2.2.2.2.2.2.2.2.2.2.2.2.2.1
theorem XV.s159 {U : State} (h : XV U) : ∃ a, vk_R RX4 159 "the position can not be played" a U := h.2.2.2.2.2.2.2.2.2.2.2.2.2.2.2.2.1
theorem XV.n1 {U : State} (h : XV U) : va_Nc nIAE nIOB U := h.2.2.2.2.2.2.2.2.2.2.2.2.2.2.2.2.2.1
theorem XV.n2 {U : State} (h : XV U) : va_Nc nIOB nISE U := h.2.2.2.2.2.2.2.2.2.2.2.2.2.2.2.2.2.2.1
theorem XV.n3 {U : State} (h : XV U) : va_Nc nIAE nISE U := h.2.2.2.2.2.2.2.2.2.2.2.2.2.2.2.2.2.2.2.1
theorem XV.n4 {U : State} (h : XV U) : va_Nc nUOE nISE U := h.2.2.2.2.2.2.2.2.2.2.2.2.2.2.2.2.2.2.2.2.1
theorem XV.n5 {U : State} (h : XV U) : va_Nc nUOE nIAE U := h.2.2.2.2.2.2.2.2.2.2.2.2.2.2.2.2.2.2.2.2.2
theorem vkx {k : Nat} {tx : String} {s U : State} (hW : s.WarmedH U.vm) : (∃ a, vk_R RX4 k tx a s) → ∃ a, vk_R RX4 k tx a U := fun ⟨a, h⟩ => ⟨a, vk_R.warm hW h⟩
theorem vkq {k : Nat} {tx : String} {s U : State} (hv : U.vm = s.vm) : (∃ a, vk_R RX4 k tx a s) → ∃ a, vk_R RX4 k tx a U := fun ⟨a, h⟩ => ⟨a, vk_R.same hv h⟩
theorem XV.warm {s U : State} (hW : s.WarmedH U.vm) (h : XV s) : XV U := ⟨va_Nw.warmD hW h.d1, va_Nw.warmD hW h.d2, va_Nw.warmD hW h.d3, va_Nw.warmC hW h.c1, va_Nw.warmC hW h.c2, va_Nw.warmC hW h.c3, va_Nw.warmC hW h.c4, vkx hW h.s55, vkx hW h.s65, vkx hW h.s72, vkx hW h.s74, vkx hW h.s76, vkx hW h.s98, vkx hW h.s113, vkx hW h.s132, vkx hW h.s143, vkx hW h.s159, h.n1.moved hW.alike, h.n2.moved hW.alike, h.n3.moved hW.alike, h.n4.moved hW.alike, h.n5.moved hW.alike⟩
theorem XV.same {s U : State} (hv : s.vm = U.vm) (h : XV s) : XV U :=
  have hal : s.vm.Alike U.vm := by rw [hv]; exact Vm.Alike.refl U.vm
  ⟨va_Nw.same rfl hv h.d1, va_Nw.same rfl hv h.d2, va_Nw.same rfl hv h.d3, va_Nw.same rfl hv h.c1, va_Nw.same rfl hv h.c2, va_Nw.same rfl hv h.c3, va_Nw.same rfl hv h.c4, vkq hv.symm h.s55, vkq hv.symm h.s65, vkq hv.symm h.s72, vkq hv.symm h.s74, vkq hv.symm h.s76, vkq hv.symm h.s98, vkq hv.symm h.s113, vkq hv.symm h.s132, vkq hv.symm h.s143, vkq hv.symm h.s159, h.n1.moved hal, h.n2.moved hal, h.n3.moved hal, h.n4.moved hal, h.n5.moved hal⟩
def XW (D : va_G) (cI cJ : ClassId) (A : Nat → Prop) (ws : va_W) (U : State) : Prop := IW D cI cJ A ws U ∧ XV U
theorem XW.blind {D : va_G} {cI cJ : ClassId} {A : Nat → Prop} {ws : va_W} {As : List Value} : FrameBlind (va_Pc As (XW D cI cJ A ws)) := fun a U g mk q => ⟨q.1, IW.moved (U := U) (V := U.calling g mk a) rfl rfl q.2.1, XV.same (s := U) (U := U.calling g mk a) rfl q.2.2⟩
/-- the world behind a throw -/
def PW (D : va_G) (A : Nat → Prop) (ws : va_W) (U : State) : Prop := va_P D classes ws U.heap ∧ va_D A ws
abbrev noQ : Array Value → State → Outcome → State → Prop := fun _ _ _ _ => False
abbrev xQ {Sx : Type} (D : va_G) (A : Nat → Prop) (cls : String) (px : Sx → Prop) (w' : Sx → va_W) : String → State → State → Prop := vx_X px (fun E u t => E = cls ∧ PW D A (w' u) t) A
theorem fit_nm : ∀ n ∈ nmX, Bundle.fit n = true := by decide +kernel
theorem wx1 {w : Cond} (h : w ∈ (vx_atS RX4 57 nIOB nmX).filter goodWord) : w ∈ wsL_law := List.mem_append_left _ (List.mem_append_left _ (List.mem_append_left _ (List.mem_append_right _ h)))
theorem wx2 {w : Cond} (h : w ∈ (vx_atS RX4 67 nIAE nmX).filter goodWord) : w ∈ wsL_law := List.mem_append_left _ (List.mem_append_left _ (List.mem_append_right _ h))
theorem wx3 {w : Cond} (h : w ∈ (vx_atS RX4 161 nISE nmX).filter goodWord) : w ∈ wsL_law := List.mem_append_left _ (List.mem_append_right _ h)
theorem wx4 {w : Cond} (h : w ∈ (vx_atS RX4 145 nUOE nmX).filter goodWord) : w ∈ wsL_law := List.mem_append_right _ h
def bX (k : String) : List Cond := [.declares (inS "java/lang/RuntimeException"), .declares (inS "java/lang/Exception"), .declares (inS "java/lang/Throwable"), .castable k k]
theorem bx1 : ∀ w ∈ (vx_atS RX4 57 nIOB nmX).filter (fun w => !goodWord w), w ∈ bX nIOB := by decide +kernel
theorem bx2 : ∀ w ∈ (vx_atS RX4 67 nIAE nmX).filter (fun w => !goodWord w), w ∈ bX nIAE := by decide +kernel
theorem bx3 : ∀ w ∈ (vx_atS RX4 161 nISE nmX).filter (fun w => !goodWord w), w ∈ bX nISE := by decide +kernel
theorem bx4 : ∀ w ∈ (vx_atS RX4 145 nUOE nmX).filter (fun w => !goodWord w), w ∈ bX nUOE := by decide +kernel
theorem gx1 : ∀ w ∈ Cond.classLink RX4 53 nIOB :: Cond.initialized nIOB :: vx_atS RX4 57 nIOB nmX, vx_ot w = true := by decide +kernel
theorem gx2 : ∀ w ∈ Cond.classLink RX4 63 nIAE :: Cond.initialized nIAE :: vx_atS RX4 67 nIAE nmX, vx_ot w = true := by decide +kernel
theorem gx3 : ∀ w ∈ Cond.classLink RX4 157 nISE :: Cond.initialized nISE :: vx_atS RX4 161 nISE nmX, vx_ot w = true := by decide +kernel
theorem gx4 : ∀ w ∈ Cond.classLink RX4 141 nUOE :: Cond.initialized nUOE :: vx_atS RX4 145 nUOE nmX, vx_ot w = true := by decide +kernel
theorem bXok {args : Array Value} {s : State} {k : String} (hX : XV s) (hc : va_Nw (.castable k k) s) : ∀ w ∈ bX k, w.before args s = true := vx_c (va_Nw.use rfl hX.d1) (vx_c (va_Nw.use rfl hX.d2) (vx_c (va_Nw.use rfl hX.d3) (vx_c (va_Nw.use rfl hc) vx_n)))
section
variable {p : Program} {l : Launch} {e : Env} {R : Room} {s : State} {m : MethodId} {args : Array Value} {below : List Frame} {meth : Method} {c : Code} {H : Heap} {locs : List Loc} {cells slots : Nat} {Q : State → Prop}
variable {y : MethodName} {bytes cc : ByteArray} {maxL nL mc ms index pc : Nat} {ret : Option FieldType} {rm : Room} {Qc : Array Value → State → Outcome → State → Prop} {XC : String → State → State → Prop} {free : Addr → Prop} {own C host : String} {b : Addr} {As rest st : List Value} {c0 : Cond} {ls : Array Slot} {B : State → Prop}
theorem hat1 (hG : ∀ w ∈ wsL_law, w.before args s = true) (hX : XV s) : ∀ w ∈ vx_atS RX4 57 nIOB nmX, w.before args s = true := vx_hat (fun w h => hG w (wx1 h)) bx1 (bXok hX hX.c1)
theorem hat2 (hG : ∀ w ∈ wsL_law, w.before args s = true) (hX : XV s) : ∀ w ∈ vx_atS RX4 67 nIAE nmX, w.before args s = true := vx_hat (fun w h => hG w (wx2 h)) bx2 (bXok hX hX.c2)
theorem hat3 (hG : ∀ w ∈ wsL_law, w.before args s = true) (hX : XV s) : ∀ w ∈ vx_atS RX4 161 nISE nmX, w.before args s = true := vx_hat (fun w h => hG w (wx3 h)) bx3 (bXok hX hX.c3)
theorem hat4 (hG : ∀ w ∈ wsL_law, w.before args s = true) (hX : XV s) : ∀ w ∈ vx_atS RX4 145 nUOE nmX, w.before args s = true := vx_hat (fun w h => hG w (wx4 h)) bx4 (bXok hX hX.c4)
/-- the entry of a method that throws -/
theorem entX {As : List Value} (hy : plainName y.cls = true) (hn : (lg_sl As).length ≤ maxL)
    (body : ∀ (p : Program) (e : Env) (s : State) (m : MethodId) (below : List Frame) (meth : Method) (c : Code) (ls : Array Slot), CallFix p m c cc maxL s As.toArray (Cond.code y cc maxL ret :: wsL_law) y.cls → meth.locks = false → (∀ w ∈ wsL_law, w.before As.toArray s = true) → (∀ x ∈ c.exceptionTable.toList, False) → B s → lv_has ls maxL (lv_args 0 As) →
      W p l e rm s m As.toArray below meth c s.heap [] 0 0 (vx_MQ below Qc XC As.toArray s mc ms free) (F0 m 0 ls [])) : vx_Met l y (Cond.code y cc maxL ret :: wsL_law) rm (va_Pc As B) Qc XC mc ms free := by
  refine vx_ofW (cc := cc) (maxL := maxL) (ret := ret) hy rfl ?_
  intro p e s m args below meth c s₁ Bd hml hno hv
  obtain ⟨rfl, hB⟩ := hv
  have hts := atoms_spec (ws := Cond.code y cc maxL ret :: wsL_law) Bd.pre
  have hl := lv_entry As (n := maxL) hn
  rw [lg_entry_eq]
  exact body p e s m below meth c _ ⟨Bd.exec, Bd.bytes, hml, findClass_of_methodNamed Bd.named, hts⟩ Bd.notSynchronized (fun w h => hts w (List.mem_cons_of_mem _ h)) hno hB hl
/-- the entry of a method with a table of its own -/
theorem entH {As : List Value} {hh : List (Nat × Nat × Nat × Nat)} (hy : plainName y.cls = true) (hn : (lg_sl As).length ≤ maxL)
    (body : ∀ (p : Program) (e : Env) (s : State) (m : MethodId) (below : List Frame) (meth : Method) (c : Code) (ls : Array Slot), CallFix p m c cc maxL s As.toArray (Cond.codeWith y cc maxL ret hh :: wsL_law) y.cls → meth.sig.returnType = ret → meth.locks = false → (∀ w ∈ wsL_law, w.before As.toArray s = true) → c.exceptionTable.toList = tableOf hh → B s → lv_has ls maxL (lv_args 0 As) →
      W p l e rm s m As.toArray below meth c s.heap [] 0 0 (MQ below Qc As.toArray s mc ms free) (F0 m 0 ls [])) : Met l y (Cond.codeWith y cc maxL ret hh :: wsL_law) rm (va_Pc As B) Qc mc ms free := by
  refine va_MetW (cc := cc) (maxL := maxL) (ret := ret) (hh := hh) hy rfl ?_
  intro p e s m args below meth c s₁ Bd hml hv
  obtain ⟨rfl, hB⟩ := hv
  have hts := atoms_spec (ws := Cond.codeWith y cc maxL ret hh :: wsL_law) Bd.pre
  have hl := lv_entry As (n := maxL) hn
  rw [lg_entry_eq]
  exact body p e s m below meth c _ ⟨Bd.exec, Bd.bytes, hml, findClass_of_methodNamed Bd.named, hts⟩ Bd.returns Bd.notSynchronized (fun w h => hts w (List.mem_cons_of_mem _ h)) (vx_table (x := y) Bd (hts _ List.mem_cons_self)) hB hl
/-- a virtual call that returns or throws -/
theorem rnVX (S : CallFix p m c cc nL s args (c0 :: wsL_law) own) (hM : vx_Met l y (Cond.code y bytes maxL ret :: wsL_law) rm (va_Pc (.ref b :: As) B) Qc XC mc ms free)
    (wl : Cond.methodLink own index y ∈ wsL_law) (wi : Cond.instanceMethod y ∈ wsL_law) (wz : Cond.selects y.cls y y ∈ wsL_law) (wn : Cond.initialized y.cls ∈ wsL_law) (wc : Cond.code y bytes maxL ret ∈ wsL_law)
    (hd : y.cls ≠ "java/lang/invoke/MethodHandle" ∧ y.cls ≠ "java/lang/invoke/VarHandle" ∧ (parseMethodDescriptor y.desc).map (fun d => d.parameters.length) = some As.length) (hR : rm.cells = mc ∧ rm.slots = ms ∧ rm.frames + 1 ≤ R.frames ∧ 8 + (maxL + 11) + rm.locals ≤ R.locals)
    (hbl : FrameBlind (va_Pc (.ref b :: As) B)) (hrec : ∃ cellB : Cell, H[b]? = some cellB ∧ cellB.vm.isStatics = false ∧ s.vm.findClass y.cls = some cellB.cls) (hpre : ∀ U : State, U.heap = H → s.WarmedH U.vm → B U) (hsize : ls.size = nL) (hW : (rest.map fun v => v.category).sum ≤ 8) (hdg : decode cc pc = .ok (.invokevirtual index, 3)) (hst : st = As.reverse ++ .ref b :: rest) (hf : cells + mc ≤ R.cells ∧ slots + ms ≤ R.slots) :
    vx_Run p l e R s m args below meth c H locs cells slots mc ms (F0 m pc ls st) rest (Qc (Value.ref b :: As).toArray) XC free := by
  have hG : ∀ w ∈ wsL_law, w.before args s = true := fun w h => S.2.2.2.2 w (List.mem_cons_of_mem _ h)
  exact vx_runV (C := y.cls) S hM ⟨callB_of As.length S.2.2.2.2 (wq_gg wc) rfl hR.1 hR.2.1 (hG _ wn) (hG _ wl) hd hR.2.2, hG _ wi, hG _ wz⟩ ⟨hbl, hrec, fun U h1 h2 => ⟨rfl, hpre U h1 h2⟩⟩ rfl rfl hsize hst (lv_room hW) hdg hf
/-- a call that throws, whatever its answer's type -/
theorem chX {A A1 : Nat → Prop} {Sx : Type} {px : Sx → Prop} {D : va_G} {cls : String} {w' : Sx → va_W} {a : Array Value} {H0 : Heap} (hr : vx_Run p l e R s m args below meth c H locs cells slots mc ms (F0 m pc ls st) rest (noQ a) (xQ D A1 cls px w') A1) (hS : va_S A H0 H locs) (hF : ∀ q, A1 q → A q)
    (kx : ∀ (ce : Cell) (q9 : Addr) (u : Sx) (H1 : Heap) (locs1 : List Loc), px u → va_P D classes (w' u) H1 → va_D A1 (w' u) → H.size ≤ H1.size → (∀ q : Nat, q < H.size → ¬ A1 q → H1[q]? = H[q]?) → va_S A H0 H1 locs1 → H1[q9]? = some ce → ce.vm = .none → s.vm.findClass cls = some ce.cls → vx_W p l e R s m args below meth c H1 locs1 (cells + mc) (slots + ms) Q (F0 m pc ls rest) q9) : W p l e R s m args below meth c H locs cells slots Q (F0 m pc ls st) := by
  intro T hT X
  rcases hr T hT X with ⟨v, st₀, t, T', L, h0, X', hL, e1, e2, hq, st⟩ | ⟨q, st₀, t, T', L, E, ce, h0, X', hL, e1, e2, ⟨u, hp, ⟨hE, hb⟩, hF1⟩, hce, hcv, hcl, st⟩
  · exact hq.elim
  · subst hE
    obtain ⟨k1, k2, k3⟩ := vx_keep h0 e1 hS (fun q _ h => hF q h) hF hL hF1
    obtain ⟨t2, a1, b1⟩ := kx ce q u T'.heap (locs ++ L) hp (by rw [e1]; exact hb.1) hb.2 k1 k2 k3 (by rw [e1]; exact hce) hcv hcl T' rfl X'
    exact ⟨t2, st.trans a1, b1⟩
/-- .. and goes on to the caller -/
theorem otX {A : Nat → Prop} {Sx : Type} {px : Sx → Prop} {D : va_G} {cls : String} {w' : Sx → va_W} {ce : Cell} {q9 : Addr} (u : Sx) (hno : ∀ x ∈ c.exceptionTable.toList, False) (hlocks : meth.locks = false) (hp : px u) (hP : va_P D classes (w' u) H) (hD : va_D A (w' u)) (hS : va_S A s.heap H locs) (hc : H[q9]? = some ce) (hv : ce.vm = .none) (hcl : s.vm.findClass cls = some ce.cls) (h1 : cells ≤ mc) (h2 : slots ≤ ms) :
    vx_W p l e R s m args below meth c H locs cells slots (vx_MQ below noQ (xQ D A cls px w') args s mc ms A) (F0 m pc ls rest) q9 :=
  vx_out (fun x hx => (hno x hx).elim) hlocks hc hv hcl (fun t ht _ => ⟨u, hp, ⟨rfl, by rw [ht]; exact hP, hD⟩, hS.F ht⟩) hS.2.2 h1 h2
/-- 'throw new E(text)' -/
theorem thX {A : Nat → Prop} {Sx : Type} {px : Sx → Prop} {D : va_G} {cls text : String} {w' : Sx → va_W} {ik is ic : Nat} (u : Sx) (hlt : l.stackTraces = false) (S : CallFix p m c cc nL s args (c0 :: wsL_law) RX4) (hno : ∀ x ∈ c.exceptionTable.toList, False) (hlocks : meth.locks = false)
    (hcls : Bundle.fit cls = true) (hk : (Cond.classLink RX4 ik cls).before args s = true) (hini : (Cond.initialized cls).before args s = true) (hstr : ∃ a, vk_R RX4 is text a s) (hat : ∀ w ∈ vx_atS RX4 ic cls nmX, w.before args s = true) (hgood : ∀ w ∈ Cond.classLink RX4 ik cls :: Cond.initialized cls :: vx_atS RX4 ic cls nmX, vx_ot w = true)
    (hE : EV A s s.heap) (hS : va_S A s.heap H locs) (hsize : ls.size = nL)
    (d0 : decode cc pc = .ok (.new ik, 3)) (d3 : decode cc (pc + 3) = .ok (.dup, 1)) (d4 : decode cc (pc + 4) = .ok (.ldc is, 2)) (d6 : decode cc (pc + 6) = .ok (.invokespecial ic, 3)) (d9 : decode cc (pc + 9) = .ok (.athrow, 1))
    (hR : 5 < R.frames ∧ 82 ≤ R.locals ∧ 1 ≤ R.cells ∧ 6 ≤ R.slots) (hp : px u) (hP : va_P D classes (w' u) H) (hD : va_D A (w' u)) :
    W p l e R s m args below meth c H locs 0 0 (vx_MQ below noQ (xQ D A cls px w') args s 1 6 A) (F0 m pc ls []) := by
  obtain ⟨sa, hstr⟩ := hstr
  obtain ⟨r1, r2, r3, r4⟩ := hR
  refine vx_throwS (names := nmX) S.1 S.2.1 hlt S.2.2.2.1 hcls fit_nm hk hini hstr hat hgood hE.2.2.2.2.1 hE.2.2.2.2.2 hS (hsize.trans S.2.2.1.symm) d0 d3 d4 d6 d9 (fun x hx => (hno x hx).elim) r1 r2 (by omega) (by omega) hlocks (fun t _ hz hq => ?_) hS.2.2 (by omega) (by omega)
  exact ⟨u, hp, ⟨rfl, hP.kept (fun k q hk => hq q.1 (hP k q hk).lt), hD⟩, Nat.le_trans hS.1 hz, fun q h1 h2 => by rw [hq q (Nat.lt_of_lt_of_le h1 hS.1)]; exact hS.2.1 q h1 h2⟩
/-- the callee's cells and the rest -/
theorem rangeW (w : va_W) : (List.range w.length).map (fun i => w[i]?) = w.map some := by
  apply List.ext_getElem?
  intro i
  rw [List.getElem?_map, List.getElem?_map]
  by_cases h : i < w.length
  · rw [List.getElem?_range h, List.getElem?_eq_getElem h]; simp
  · rw [List.getElem?_eq_none (by simpa using h), List.getElem?_eq_none (by omega)]; rfl
theorem jn2 {A0 : Nat → Prop} {D : va_G} {cl : List vw_C} {wc wr w1 : va_W} {H H1 : Heap} (hP : va_P D cl (wc ++ wr) H) (hD : va_D A0 (wc ++ wr)) (hk : ∀ q : Nat, q < H.size → ¬ va_A wc H.size q → H1[q]? = H[q]?) (hF : ∀ q, va_A wc H.size q → A0 q) (hP1 : va_P D cl w1 H1) (hD1 : va_D (va_A wc H.size) w1) : va_P D cl (w1 ++ wr) H1 ∧ va_D A0 (w1 ++ wr) :=
  va_joinQ (wr := []) hP hD (List.range wc.length) [] (rangeW wc) rfl rfl (fun _ h => nomatch h) hk hF hP1 hD1
theorem fr2 {A0 : Nat → Prop} {wc wr : va_W} {H0 H : Heap} {locs : List Loc} (hD : va_D A0 (wc ++ wr)) (hS : va_S A0 H0 H locs) (hA : ∀ q, H0.size ≤ q → A0 q) : ∀ q, va_A wc H.size q → A0 q := by
  intro q h
  rcases h with ⟨k, e, h⟩ | h
  · exact hD.2 k (q, e) (by rw [List.getElem?_append_left (List.getElem?_eq_some_iff.mp h).1]; exact h)
  · exact hA q (Nat.le_trans hS.1 h)
theorem va_P.lft {D : va_G} {cl : List vw_C} {a b : va_W} {H : Heap} (h : va_P D cl (a ++ b) H) : va_P D cl a H := fun k q hk => h k q (by rw [List.getElem?_append_left (List.getElem?_eq_some_iff.mp hk).1]; exact hk)
theorem va_D.lft {A : Nat → Prop} {a b : va_W} (h : va_D A (a ++ b)) : va_D A a :=
  have k1 : ∀ (k : Nat) (q : Nat × va_E), a[k]? = some q → (a ++ b)[k]? = some q := fun k q hk => by rw [List.getElem?_append_left (List.getElem?_eq_some_iff.mp hk).1]; exact hk
  ⟨fun i j x y hx hy => h.1 i j x y (k1 i x hx) (k1 j y hy), fun k q hk => h.2 k q (k1 k q hk)⟩
theorem rotG {a b : va_W} (k : Nat) (q : Nat × va_E) (hk : (b ++ a)[k]? = some q) : (a ++ b)[if k < b.length then k + a.length else k - b.length]? = some q := by
  by_cases h : k < b.length
  · rw [if_pos h]
    rw [List.getElem?_append_left h] at hk
    rw [List.getElem?_append_right (by omega), Nat.add_sub_cancel]
    exact hk
  · rw [if_neg h]
    rw [List.getElem?_append_right (by omega)] at hk
    rw [List.getElem?_append_left (List.getElem?_eq_some_iff.mp hk).1]
    exact hk
theorem va_P.rot {D : va_G} {cl : List vw_C} {a b : va_W} {H : Heap} (h : va_P D cl (a ++ b) H) : va_P D cl (b ++ a) H := h.by _ rotG
theorem va_D.rot {A : Nat → Prop} {a b : va_W} (h : va_D A (a ++ b)) : va_D A (b ++ a) := h.by _ rotG (fun i j hi hj e => by
  rw [List.length_append] at hi hj
  split at e <;> split at e <;> omega)
/-- the callee's start, its own cells cut out -/
theorem IW.cut {D : va_G} {cI cJ : ClassId} {A : Nat → Prop} {wc wr : va_W} (hP : va_P D classes (wc ++ wr) H) (hD : va_D A (wc ++ wr)) (hK : va_K D classes [(cI, .int), (cJ, .long)] s) (hA : ∀ q : Nat, s.heap.size ≤ q → A q) (hE : EV A s s.heap) (hS : va_S A s.heap H locs) : ∀ U : State, U.heap = H → s.WarmedH U.vm → IW D cI cJ (va_A wc H.size) wc U := fun U hU hW =>
  ⟨by rw [hU]; exact hP.lft, hD.lft.self, va_K.moved hW.alike hK, fun q hq => Or.inr (by rw [hU] at hq; exact hq), by rw [hU]; exact hE.pass hS.2.1 (fr2 hD hS hA) (EN.warm hW) hW.alike⟩
theorem XW.cut {D : va_G} {cI cJ : ClassId} {A : Nat → Prop} {wc wr : va_W} (hP : va_P D classes (wc ++ wr) H) (hD : va_D A (wc ++ wr)) (hK : va_K D classes [(cI, .int), (cJ, .long)] s) (hA : ∀ q : Nat, s.heap.size ≤ q → A q) (hE : EV A s s.heap) (hX : XV s) (hS : va_S A s.heap H locs) : ∀ U : State, U.heap = H → s.WarmedH U.vm → XW D cI cJ (va_A wc H.size) wc U := fun U hU hW => ⟨IW.cut hP hD hK hA hE hS U hU hW, hX.warm hW⟩
/-- a call over a part of the world -/
theorem ftV {A : Nat → Prop} {Sx : Type} {post : Sx → Prop} {D : va_G} {cI cJ : ClassId} {wc wr : va_W} {w' : Sx → va_W} {a : Array Value} (hr : va_Run p l e R s m args below meth c H locs cells slots mc ms (F0 m pc ls st) rest (va_Qv post (fun u t => IW D cI cJ (va_A wc H.size) (w' u) t) (va_A wc H.size) a) (va_A wc H.size)) (hP : va_P D classes (wc ++ wr) H) (hD : va_D A (wc ++ wr)) (hA : ∀ q : Nat, s.heap.size ≤ q → A q) (hS : va_S A s.heap H locs)
    (kk : ∀ (u : Sx) (H1 : Heap) (locs1 : List Loc), post u → va_P D classes (w' u ++ wr) H1 → va_D A (w' u ++ wr) → va_S A s.heap H1 locs1 → W p l e R s m args below meth c H1 locs1 (cells + mc) (slots + ms) Q (F0 m (pc + 3) ls rest)) : W p l e R s m args below meth c H locs cells slots Q (F0 m pc ls st) :=
  va_callv hr hS (fun q _ h => fr2 hD hS hA q h) (fr2 hD hS hA) (fun u t H1 locs1 ht _ hp hB _ hk hS1 => by
    obtain ⟨j1, j2⟩ := jn2 hP hD hk (fr2 hD hS hA) (by rw [← ht]; exact hB.1) hB.2.1
    exact kk u H1 locs1 hp j1 j2 hS1)
theorem ftI {A : Nat → Prop} {Sx : Type} {post : Int32 → Sx → Prop} {D : va_G} {cI cJ : ClassId} {wc wr : va_W} {w' : Sx → va_W} {a : Array Value} (hr : va_Run p l e R s m args below meth c H locs cells slots mc ms (F0 m pc ls st) rest (va_Qi post (fun u t => IW D cI cJ (va_A wc H.size) (w' u) t) (va_A wc H.size) a) (va_A wc H.size)) (hP : va_P D classes (wc ++ wr) H) (hD : va_D A (wc ++ wr)) (hA : ∀ q : Nat, s.heap.size ≤ q → A q) (hS : va_S A s.heap H locs)
    (kk : ∀ (r : Int32) (u : Sx) (H1 : Heap) (locs1 : List Loc), post r u → va_P D classes (w' u ++ wr) H1 → va_D A (w' u ++ wr) → va_S A s.heap H1 locs1 → W p l e R s m args below meth c H1 locs1 (cells + mc) (slots + ms) Q (F0 m (pc + 3) ls (.int r :: rest))) : W p l e R s m args below meth c H locs cells slots Q (F0 m pc ls st) :=
  va_calli hr hS (fun q _ h => fr2 hD hS hA q h) (fr2 hD hS hA) (fun r u t H1 locs1 ht _ hp hB _ hk hS1 => by
    obtain ⟨j1, j2⟩ := jn2 hP hD hk (fr2 hD hS hA) (by rw [← ht]; exact hB.1) hB.2.1
    exact kk r u H1 locs1 hp j1 j2 hS1)
theorem ftL {A : Nat → Prop} {Sx : Type} {post : Int64 → Sx → Prop} {D : va_G} {cI cJ : ClassId} {wc wr : va_W} {w' : Sx → va_W} {a : Array Value} (hr : va_Run p l e R s m args below meth c H locs cells slots mc ms (F0 m pc ls st) rest (va_Ql post (fun u t => IW D cI cJ (va_A wc H.size) (w' u) t) (va_A wc H.size) a) (va_A wc H.size)) (hP : va_P D classes (wc ++ wr) H) (hD : va_D A (wc ++ wr)) (hA : ∀ q : Nat, s.heap.size ≤ q → A q) (hS : va_S A s.heap H locs)
    (kk : ∀ (r : Int64) (u : Sx) (H1 : Heap) (locs1 : List Loc), post r u → va_P D classes (w' u ++ wr) H1 → va_D A (w' u ++ wr) → va_S A s.heap H1 locs1 → W p l e R s m args below meth c H1 locs1 (cells + mc) (slots + ms) Q (F0 m (pc + 3) ls (.long r :: rest))) : W p l e R s m args below meth c H locs cells slots Q (F0 m pc ls st) :=
  va_calll hr hS (fun q _ h => fr2 hD hS hA q h) (fr2 hD hS hA) (fun r u t H1 locs1 ht _ hp hB _ hk hS1 => by
    obtain ⟨j1, j2⟩ := jn2 hP hD hk (fr2 hD hS hA) (by rw [← ht]; exact hB.1) hB.2.1
    exact kk r u H1 locs1 hp j1 j2 hS1)
/-- .. that throws -/
theorem ftX {A : Nat → Prop} {Sx : Type} {px : Sx → Prop} {D : va_G} {cls : String} {wc wr : va_W} {w' : Sx → va_W} {a : Array Value} (hr : vx_Run p l e R s m args below meth c H locs cells slots mc ms (F0 m pc ls st) rest (noQ a) (xQ D (va_A wc H.size) cls px w') (va_A wc H.size)) (hP : va_P D classes (wc ++ wr) H) (hD : va_D A (wc ++ wr)) (hA : ∀ q : Nat, s.heap.size ≤ q → A q) (hS : va_S A s.heap H locs)
    (kx : ∀ (ce : Cell) (q9 : Addr) (u : Sx) (H1 : Heap) (locs1 : List Loc), px u → va_P D classes (w' u ++ wr) H1 → va_D A (w' u ++ wr) → va_S A s.heap H1 locs1 → H1[q9]? = some ce → ce.vm = .none → s.vm.findClass cls = some ce.cls → vx_W p l e R s m args below meth c H1 locs1 (cells + mc) (slots + ms) Q (F0 m pc ls rest) q9) : W p l e R s m args below meth c H locs cells slots Q (F0 m pc ls st) :=
  chX hr hS (fr2 hD hS hA) (fun ce q9 u H1 locs1 hp hP1 hD1 _ hk hS1 h1 h2 h3 => by
    obtain ⟨j1, j2⟩ := jn2 hP hD hk (fr2 hD hS hA) hP1 hD1
    exact kx ce q9 u H1 locs1 hp j1 j2 hS1 h1 h2 h3)
end

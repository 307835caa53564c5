/-! the one list of words, the environment, entries and calls -/
abbrev classes : List vw_C := [(RX1, TX1, 2), (RX2, TX2, 8), (RX3, TX3, 7), (RX4, TX4, 6), (RX5, TX5, 7)]
def bI (b : Bool) : Int32 := if b then 1 else 0
def stL : List Int32 := [8, -8, 1, -1, 9, 7, -7, -9]
def inL : List Int64 := [-1, -1, 9187201950435737471, -72340172838076674, 9187201950435737471, -72340172838076674, 9187201950435737471, -72340172838076674]
def frL : List Int32 := [4, 2, 3, 5, 6, 3, 2, 4]
def stF : Nat → Value := fun k => .int (stL.getD k 0)
def inF : Nat → Value := fun k => .long (inL.getD k 0)
def frF : Nat → Value := fun k => .int (frL.getD k 0)
/-- the links to nest mates (they are no good words: they go from state to state) -/
def nestL : List (String × Nat × MethodName) := [(RX2, 50, yX4_isSquare), (RX2, 54, yX4_isPiece), (RX2, 57, yX4_bit), (RX2, 94, yX4_fromOf), (RX2, 98, yX4_toOf), (RX2, 112, yX4_becomesOf), (RX2, 127, yX4_typeOf), (RX3, 46, yX4_squareOf), (RX3, 77, yX4_typeOf), (RX3, 109, yX4_bit)]
def EN (U : State) : Prop := ∀ q ∈ nestL, va_Nw (.methodLinkNest q.1 q.2.1 q.2.2 RX4) U
/-- what holds of the statics (they lie outside A), and the nest's links -/
def EV (A : Nat → Prop) (U : State) (H : Heap) : Prop := EN U ∧
  (∃ t : Nat, va_Z RX0 "STEP" "[I" (.ref t) A U H ∧ va_T .int t 8 stF A U H) ∧
  (∃ t : Nat, va_Z RX0 "INSIDE" "[J" (.ref t) A U H ∧ va_T .long t 8 inF A U H) ∧
  (∃ t : Nat, va_Z RX2 "FIRST_RANK" "[I" (.ref t) A U H ∧ va_T .int t 8 frF A U H) ∧
  vx_Zq Bundle.tN "UNASSIGNED_STACK" Bundle.steD A U H ∧ vx_Zq Bundle.tN "SUPPRESSED_SENTINEL" Bundle.listD A U H
theorem EN.warm {s U : State} (hW : s.WarmedH U.vm) (h : EN s) : EN U := fun q hq => va_Nw.warmM hW (h q hq)
theorem EN.same {s U : State} (hv : s.vm = U.vm) (h : EN s) : EN U := fun q hq => va_Nw.same rfl hv (h q hq)
theorem EV.pass {A B : Nat → Prop} {s U : State} {H H1 : Heap} (h : EV A s H) (hk : ∀ a : Nat, a < H.size → ¬ A a → H1[a]? = H[a]?) (hAB : ∀ q, B q → A q) (hN : EN s → EN U) (hW : s.vm.Alike U.vm) : EV B U H1 := by
  obtain ⟨h0, ⟨t1, a1, b1⟩, ⟨t2, a2, b2⟩, ⟨t3, a3, b3⟩, h4, h5⟩ := h
  exact ⟨hN h0, ⟨t1, ((a1.kept hk).narrow hAB).moved hW, ((b1.kept hk).narrow hAB).moved hW⟩, ⟨t2, ((a2.kept hk).narrow hAB).moved hW, ((b2.kept hk).narrow hAB).moved hW⟩, ⟨t3, ((a3.kept hk).narrow hAB).moved hW, ((b3.kept hk).narrow hAB).moved hW⟩, ((h4.kept hk).narrow hAB).moved hW, ((h5.kept hk).narrow hAB).moved hW⟩
/-- a world: its cells, apart, in A; new cells come in A; the tables; the environment -/
def IW (D : va_G) (cI cJ : ClassId) (A : Nat → Prop) (ws : va_W) (U : State) : Prop := va_P D classes ws U.heap ∧ va_D A ws ∧ va_K D classes [(cI, .int), (cJ, .long)] U ∧ (∀ q : Nat, U.heap.size ≤ q → A q) ∧ EV A U U.heap
theorem IW.moved {D : va_G} {cI cJ : ClassId} {A : Nat → Prop} {ws : va_W} {U V : State} (hh : U.heap = V.heap) (hv : U.vm = V.vm) (h : IW D cI cJ A ws U) : IW D cI cJ A ws V := by
  obtain ⟨h1, h2, h3, h4, h5⟩ := h
  have hal : U.vm.Alike V.vm := by rw [hv]; exact Vm.Alike.refl V.vm
  exact ⟨by rw [← hh]; exact h1, h2, va_K.moved hal h3, by rw [← hh]; exact h4, h5.pass (fun a _ _ => by rw [hh]) (fun _ h => h) (EN.same hv) hal⟩
theorem IW.blind {D : va_G} {cI cJ : ClassId} {A : Nat → Prop} {ws : va_W} {As : List Value} : FrameBlind (va_Pc As (IW D cI cJ A ws)) := fun a U g mk q => ⟨q.1, IW.moved (U := U) (V := U.calling g mk a) rfl rfl q.2⟩
theorem True.blind {As : List Value} : FrameBlind (va_Pc As (fun _ => True)) := fun _ _ _ _ q => ⟨q.1, trivial⟩
/-- the environment alone -/
theorem EV.blind {A : Nat → Prop} {As : List Value} : FrameBlind (va_Pc As (fun U => EV A U U.heap)) := fun a U g mk q => ⟨q.1, q.2.pass (U := U.calling g mk a) (fun _ _ _ => rfl) (fun _ h => h) (EN.same rfl) (Vm.Alike.refl U.vm)⟩
section
variable {p : Program} {l : Launch} {e : Env} {R : Room} {s : State} {m : MethodId} {args : Array Value} {below : List Frame} {meth : Method} {c : Code} {H : Heap} {locs : List Loc} {cells slots : Nat} {Q : State → Prop}
variable {y : MethodName} {bytes cc : ByteArray} {maxL nL mc ms index pc : Nat} {ret : Option FieldType} {rm : Room} {Qc : Array Value → State → Outcome → State → Prop} {free : Addr → Prop} {own C host : String} {b : Addr} {As rest st : List Value} {c0 : Cond} {ls : Array Slot} {B : State → Prop}
/-- the entry of a method -/
theorem entM {As : List Value} (hy : plainName y.cls = true) (hn : (lg_sl As).length ≤ maxL)
    (body : ∀ (p : Program) (e : Env) (s : State) (m : MethodId) (below : List Frame) (meth : Method) (c : Code) (ls : Array Slot), CallFix p m c cc maxL s As.toArray (Cond.code y cc maxL ret :: wsL_law) y.cls → meth.sig.returnType = ret → meth.locks = false → (∀ w ∈ wsL_law, w.before As.toArray s = true) → meth.name = y.name → B s → lv_has ls maxL (lv_args 0 As) →
      W p l e rm s m As.toArray below meth c s.heap [] 0 0 (MQ below Qc As.toArray s mc ms free) (F0 m 0 ls [])) : Met l y (Cond.code y cc maxL ret :: wsL_law) rm (va_Pc As B) Qc mc ms free := by
  refine Met.ofW (cc := cc) (maxL := maxL) (ret := ret) hy rfl ?_
  intro p e s m args below meth c s₁ Bd hml hv
  obtain ⟨rfl, hB⟩ := hv
  have hts := atoms_spec (ws := Cond.code y cc maxL ret :: wsL_law) Bd.pre
  have hl := lv_entry As (n := maxL) hn
  rw [lg_entry_eq]
  exact body p e s m below meth c _ ⟨Bd.exec, Bd.bytes, hml, findClass_of_methodNamed Bd.named, hts⟩ Bd.returns Bd.notSynchronized (fun w h => hts w (List.mem_cons_of_mem _ h)) (name_of_methodNamed Bd.named Bd.method).1 hB hl
theorem rnS (S : CallFix p m c cc nL s args (c0 :: wsL_law) own) (hM : Met l y (Cond.code y bytes maxL ret :: wsL_law) rm (va_Pc As B) Qc mc ms free)
    (wl : Cond.methodLink own index y ∈ wsL_law) (wt : Cond.static y ∈ wsL_law) (wn : Cond.initialized y.cls ∈ wsL_law) (wc : Cond.code y bytes maxL ret ∈ wsL_law)
    (hd : y.cls ≠ "java/lang/invoke/MethodHandle" ∧ y.cls ≠ "java/lang/invoke/VarHandle" ∧ (parseMethodDescriptor y.desc).map (fun d => d.parameters.length) = some As.length) (hR : rm.cells = mc ∧ rm.slots = ms ∧ rm.frames + 1 ≤ R.frames ∧ 8 + (maxL + 11) + rm.locals ≤ R.locals)
    (hbl : FrameBlind (va_Pc As B)) (hpre : ∀ U : State, U.heap = H → s.WarmedH U.vm → B U) (hsize : ls.size = nL) (hW : (rest.map fun v => v.category).sum ≤ 8) (hdg : decode cc pc = .ok (.invokestatic index, 3)) (hst : st = As.reverse ++ rest) (hf : cells + mc ≤ R.cells ∧ slots + ms ≤ R.slots) :
    va_Run p l e R s m args below meth c H locs cells slots mc ms (F0 m pc ls st) rest (Qc As.toArray) free := by
  have hG : ∀ w ∈ wsL_law, w.before args s = true := fun w h => S.2.2.2.2 w (List.mem_cons_of_mem _ h)
  exact va_runS S hM ⟨callB_of As.length S.2.2.2.2 (wq_gg wc) rfl hR.1 hR.2.1 (hG _ wn) (hG _ wl) hd hR.2.2, hG _ wt⟩ ⟨hbl, fun U h1 h2 => ⟨rfl, hpre U h1 h2⟩⟩ rfl rfl hsize hst (lv_room hW) hdg hf
theorem rnSN (S : CallFix p m c cc nL s args (c0 :: wsL_law) own) (hM : Met l y (Cond.code y bytes maxL ret :: wsL_law) rm (va_Pc As B) Qc mc ms free)
    (wl : va_Nw (.methodLinkNest own index y host) s) (wt : Cond.static y ∈ wsL_law) (wn : Cond.initialized y.cls ∈ wsL_law) (wc : Cond.code y bytes maxL ret ∈ wsL_law)
    (hd : y.cls ≠ "java/lang/invoke/MethodHandle" ∧ y.cls ≠ "java/lang/invoke/VarHandle" ∧ (parseMethodDescriptor y.desc).map (fun d => d.parameters.length) = some As.length) (hR : rm.cells = mc ∧ rm.slots = ms ∧ rm.frames + 1 ≤ R.frames ∧ 8 + (maxL + 11) + rm.locals ≤ R.locals)
    (hbl : FrameBlind (va_Pc As B)) (hpre : ∀ U : State, U.heap = H → s.WarmedH U.vm → B U) (hsize : ls.size = nL) (hW : (rest.map fun v => v.category).sum ≤ 8) (hdg : decode cc pc = .ok (.invokestatic index, 3)) (hst : st = As.reverse ++ rest) (hf : cells + mc ≤ R.cells ∧ slots + ms ≤ R.slots) :
    va_Run p l e R s m args below meth c H locs cells slots mc ms (F0 m pc ls st) rest (Qc As.toArray) free := by
  have hG : ∀ w ∈ wsL_law, w.before args s = true := fun w h => S.2.2.2.2 w (List.mem_cons_of_mem _ h)
  exact va_runSN S hM ⟨va_cnB As.length S.2.2.2.2 (wq_gg wc) rfl hR.1 hR.2.1 wl (hG _ wn) hd hR.2.2, hG _ wt, trivial⟩ ⟨hbl, fun U h1 h2 => ⟨rfl, hpre U h1 h2⟩⟩ rfl rfl hsize hst (lv_room hW) hdg hf
theorem rnV (S : CallFix p m c cc nL s args (c0 :: wsL_law) own) (hM : Met l y (Cond.code y bytes maxL ret :: wsL_law) rm (va_Pc (.ref b :: As) B) Qc mc ms free)
    (wl : Cond.methodLink own index y ∈ wsL_law) (wi : Cond.instanceMethod y ∈ wsL_law) (wz : Cond.selects y.cls y y ∈ wsL_law) (wn : Cond.initialized y.cls ∈ wsL_law) (wc : Cond.code y bytes maxL ret ∈ wsL_law)
    (hd : y.cls ≠ "java/lang/invoke/MethodHandle" ∧ y.cls ≠ "java/lang/invoke/VarHandle" ∧ (parseMethodDescriptor y.desc).map (fun d => d.parameters.length) = some As.length) (hR : rm.cells = mc ∧ rm.slots = ms ∧ rm.frames + 1 ≤ R.frames ∧ 8 + (maxL + 11) + rm.locals ≤ R.locals)
    (hbl : FrameBlind (va_Pc (.ref b :: As) B)) (hrec : ∃ cellB : Cell, H[b]? = some cellB ∧ cellB.vm.isStatics = false ∧ s.vm.findClass y.cls = some cellB.cls) (hpre : ∀ U : State, U.heap = H → s.WarmedH U.vm → B U) (hsize : ls.size = nL) (hW : (rest.map fun v => v.category).sum ≤ 8) (hdg : decode cc pc = .ok (.invokevirtual index, 3)) (hst : st = As.reverse ++ .ref b :: rest) (hf : cells + mc ≤ R.cells ∧ slots + ms ≤ R.slots) :
    va_Run p l e R s m args below meth c H locs cells slots mc ms (F0 m pc ls st) rest (Qc (Value.ref b :: As).toArray) free := by
  have hG : ∀ w ∈ wsL_law, w.before args s = true := fun w h => S.2.2.2.2 w (List.mem_cons_of_mem _ h)
  exact va_runV (C := y.cls) S hM ⟨callB_of As.length S.2.2.2.2 (wq_gg wc) rfl hR.1 hR.2.1 (hG _ wn) (hG _ wl) hd hR.2.2, hG _ wi, hG _ wz⟩ ⟨hbl, hrec, fun U h1 h2 => ⟨rfl, hpre U h1 h2⟩⟩ rfl rfl hsize hst (lv_room hW) hdg hf
/-- a call that leaves the heap as it was: int, long -/
theorem roI {post : Int32 → Prop} {a : Array Value} (hr : va_Run p l e R s m args below meth c H locs cells slots 0 0 (F0 m pc ls st) rest (vp_Si post a) (fun _ => False))
    (kk : ∀ r : Int32, post r → W p l e R s m args below meth c H locs cells slots Q (F0 m (pc + 3) ls (.int r :: rest))) : W p l e R s m args below meth c H locs cells slots Q (F0 m pc ls st) := by
  intro T hT X
  obtain ⟨v, st₀, t, T', L, h0, X', hL, e1, e2, ⟨r, hv, hp, hh⟩, go⟩ := hr T hT X
  cases hv
  have hLn : L = [] := by
    cases L with
    | nil => rfl
    | cons z L => exact (hL z List.mem_cons_self).elim
  subst hLn
  rw [List.append_nil] at X'
  obtain ⟨t2, a1, b1⟩ := kk r hp T' (by rw [e1, hh, h0]) X'
  exact ⟨t2, go t2 a1, b1⟩
theorem roL {post : Int64 → Prop} {a : Array Value} (hr : va_Run p l e R s m args below meth c H locs cells slots 0 0 (F0 m pc ls st) rest (vp_Sl post a) (fun _ => False))
    (kk : ∀ r : Int64, post r → W p l e R s m args below meth c H locs cells slots Q (F0 m (pc + 3) ls (.long r :: rest))) : W p l e R s m args below meth c H locs cells slots Q (F0 m pc ls st) := by
  intro T hT X
  obtain ⟨v, st₀, t, T', L, h0, X', hL, e1, e2, ⟨r, hv, hp, hh⟩, go⟩ := hr T hT X
  cases hv
  have hLn : L = [] := by
    cases L with
    | nil => rfl
    | cons z L => exact (hL z List.mem_cons_self).elim
  subst hLn
  rw [List.append_nil] at X'
  obtain ⟨t2, a1, b1⟩ := kk r hp T' (by rw [e1, hh, h0]) X'
  exact ⟨t2, go t2 a1, b1⟩
/-- a call that changes the world: void, int, long -/
theorem chV {A : Nat → Prop} {Sx : Type} {post : Sx → Prop} {D : va_G} {cI cJ : ClassId} {w' : Sx → va_W} {a : Array Value} {H0 : Heap} (hr : va_Run p l e R s m args below meth c H locs cells slots 0 0 (F0 m pc ls st) rest (va_Qv post (fun u t => IW D cI cJ A (w' u) t) A a) A) (hS : va_S A H0 H locs)
    (kk : ∀ (u : Sx) (H1 : Heap) (locs1 : List Loc), post u → va_P D classes (w' u) H1 → va_D A (w' u) → va_S A H0 H1 locs1 → W p l e R s m args below meth c H1 locs1 cells slots Q (F0 m (pc + 3) ls rest)) : W p l e R s m args below meth c H locs cells slots Q (F0 m pc ls st) :=
  va_callv hr hS (fun _ _ h => h) (fun _ h => h) (fun u t H1 locs1 ht _ hp hB _ _ hS1 => kk u H1 locs1 hp (by rw [← ht]; exact hB.1) hB.2.1 hS1)
theorem chI {A : Nat → Prop} {Sx : Type} {post : Int32 → Sx → Prop} {D : va_G} {cI cJ : ClassId} {w' : Sx → va_W} {a : Array Value} {H0 : Heap} (hr : va_Run p l e R s m args below meth c H locs cells slots 0 0 (F0 m pc ls st) rest (va_Qi post (fun u t => IW D cI cJ A (w' u) t) A a) A) (hS : va_S A H0 H locs)
    (kk : ∀ (r : Int32) (u : Sx) (H1 : Heap) (locs1 : List Loc), post r u → va_P D classes (w' u) H1 → va_D A (w' u) → va_S A H0 H1 locs1 → W p l e R s m args below meth c H1 locs1 cells slots Q (F0 m (pc + 3) ls (.int r :: rest))) : W p l e R s m args below meth c H locs cells slots Q (F0 m pc ls st) :=
  va_calli hr hS (fun _ _ h => h) (fun _ h => h) (fun r u t H1 locs1 ht _ hp hB _ _ hS1 => kk r u H1 locs1 hp (by rw [← ht]; exact hB.1) hB.2.1 hS1)
theorem chL {A : Nat → Prop} {Sx : Type} {post : Int64 → Sx → Prop} {D : va_G} {cI cJ : ClassId} {w' : Sx → va_W} {a : Array Value} {H0 : Heap} (hr : va_Run p l e R s m args below meth c H locs cells slots 0 0 (F0 m pc ls st) rest (va_Ql post (fun u t => IW D cI cJ A (w' u) t) A a) A) (hS : va_S A H0 H locs)
    (kk : ∀ (r : Int64) (u : Sx) (H1 : Heap) (locs1 : List Loc), post r u → va_P D classes (w' u) H1 → va_D A (w' u) → va_S A H0 H1 locs1 → W p l e R s m args below meth c H1 locs1 cells slots Q (F0 m (pc + 3) ls (.long r :: rest))) : W p l e R s m args below meth c H locs cells slots Q (F0 m pc ls st) :=
  va_calll hr hS (fun _ _ h => h) (fun _ h => h) (fun r u t H1 locs1 ht _ hp hB _ _ hS1 => kk r u H1 locs1 hp (by rw [← ht]; exact hB.1) hB.2.1 hS1)
/-- the world of a state that stands at heap H, seen as a callee's start -/
theorem IW.at {D : va_G} {cI cJ : ClassId} {A : Nat → Prop} {ws : va_W} (hP : va_P D classes ws H) (hD : va_D A ws) (hK : va_K D classes [(cI, .int), (cJ, .long)] s) (hA : ∀ q : Nat, s.heap.size ≤ q → A q) (hE : EV A s s.heap) (hS : va_S A s.heap H locs) : ∀ U : State, U.heap = H → s.WarmedH U.vm → IW D cI cJ A ws U := fun U hU hW =>
  ⟨by rw [hU]; exact hP, hD, va_K.moved hW.alike hK, fun q hq => hA q (Nat.le_trans hS.1 (by rw [hU] at hq; exact hq)), by rw [hU]; exact hE.pass hS.2.1 (fun _ h => h) (EN.warm hW) hW.alike⟩
/-- the environment at a callee's start -/
theorem EV.at {A : Nat → Prop} (hE : EV A s s.heap) (hS : va_S A s.heap H locs) : ∀ U : State, U.heap = H → s.WarmedH U.vm → EV A U U.heap := fun U hU hW => by rw [hU]; exact hE.pass hS.2.1 (fun _ h => h) (EN.warm hW) hW.alike
end

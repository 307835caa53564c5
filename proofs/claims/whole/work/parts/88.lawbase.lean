/-! the law: what holds between its calls -/
abbrev RS : Type := (Int32 × Int32 × Int32) × (Nat → Int32) × (Nat → Int32) × (Nat → Int32) × (Nat → Int32)
abbrev rV (cI : ClassId) (hm b0 b1 b2 b3 : Nat) (y : RS) : va_W := rW cI hm b0 b1 b2 b3 y.1.1 y.1.2.1 y.1.2.2 y.2.1 y.2.2.1 y.2.2.2.1 y.2.2.2.2
/-- the moves that were made, on both sides -/
def Hist (mvs los mv kp : Nat → Int32) : Nat → (Nat → Nat) → Nat → Prop
  | 0, _, _ => True
  | n + 1, bd, sd => ∃ (bd0 : Nat → Nat) (sd0 rt0 ps0 f t k : Nat), f < 64 ∧ t < 64 ∧ k < 6 ∧ Hist mvs los mv kp n bd0 sd0 ∧ Bd (fun j => kp (67 * n + j)) 0 bd0 sd0 rt0 ps0 ∧ lgl bd0 sd0 rt0 ps0 f t k = true ∧ mvs n = nI (f + 64 * t + 4096 * k) ∧ mv n = nI (f + 64 * t + 4096 * k) ∧ los n = losE (bd0 (tkn bd0 f t)) (tkn bd0 f t) rt0 ps0 ∧ bd = bhB bd0 sd0 ps0 f t k ∧ sd = 1 - sd0
theorem Hist.congr {mvs los mv kp mvs2 los2 mv2 kp2 : Nat → Int32} : ∀ (n : Nat) (bd : Nat → Nat) (sd : Nat), (∀ j, j < n → mvs2 j = mvs j ∧ los2 j = los j) → (∀ j, j < n → mv2 j = mv j) → (∀ j, j < 67 * n → kp2 j = kp j) → Hist mvs los mv kp n bd sd → Hist mvs2 los2 mv2 kp2 n bd sd
  | 0, _, _, _, _, _, _ => trivial
  | n + 1, bd, sd, h1, h2, h3, h => by
    obtain ⟨bd0, sd0, rt0, ps0, f, t, k, hf, ht, hk, hH, hB, hl, e1, e2, e3, e4, e5⟩ := h
    exact ⟨bd0, sd0, rt0, ps0, f, t, k, hf, ht, hk, Hist.congr n bd0 sd0 (fun j hj => h1 j (by omega)) (fun j hj => h2 j (by omega)) (fun j hj => h3 j (by omega)) hH, Bd_cp hB (fun j hj => h3 (67 * n + (0 + j)) (by omega)), hl, (h1 n (by omega)).1.trans e1, (h2 n (by omega)).trans e2, (h1 n (by omega)).2.trans e3, e4, e5⟩
theorem Hist.kp {x u : CS} {mv kp : Nat → Int32} {n : Nat} {bd : Nat → Nat} {sd : Nat} (hk : Kp x u n) (h : Hist (cMv x) (cLo x) mv kp n bd sd) : Hist (cMv u) (cLo u) mv kp n bd sd := Hist.congr n bd sd hk (fun _ _ => rfl) (fun _ _ => rfl) h
def JI (x : CS) (y : RS) : Prop := ∃ (bd : Nat → Nat) (sd rt ps n : Nat), n ≤ 200 ∧ CI x bd sd rt ps n ∧ Bd y.2.1 0 bd sd rt ps ∧ y.1.2.1 = nI n ∧ Hist (cMv x) (cLo x) y.2.2.1 y.2.2.2.1 n bd sd
theorem Bd_ag {F G : Nat → Int32} {bd : Nat → Nat} {sd rt ps : Nat} (h : Bd F 0 bd sd rt ps) (ha : Ag F G 67) : Bd G 0 bd sd rt ps := Bd_cp h (fun j hj => ha (0 + j) (Or.inl (by omega)))
theorem lk_e {sd rt ps : Nat} {mk x : Int32} : lkC sd rt (pI ps) mk x = lk0 sd rt ps mk x := by
  unfold lkC lk0 lk3
  by_cases e0 : x = nI 0
  · subst e0; rw [if_pos rfl, if_pos (by decide)]; rfl
  · rw [if_neg e0]
    by_cases e1 : x = nI 1
    · subst e1; rw [if_pos rfl, if_pos (by decide)]; rfl
    · rw [if_neg e1]
      by_cases e2 : x = nI 2
      · subst e2; rw [if_pos rfl, if_pos (by decide)]; rfl
      · rw [if_neg e2]
        have hn : ¬ (¬ x < 0 ∧ ¬ nI 3 ≤ x) := fun ⟨h1, h2⟩ => by
          obtain ⟨k, hk, rfl⟩ := nI_of h1
          rw [nI_leI (by decide) hk] at h2
          have : k = 0 ∨ k = 1 ∨ k = 2 := by omega
          rcases this with rfl | rfl | rfl
          · exact e0 rfl
          · exact e1 rfl
          · exact e2 rfl
        rw [if_neg hn]
theorem cd_mv (bd : Nat → Nat) (sd rt ps : Nat) (x : Int32) : mvc bd sd rt ps x < 2 ^ 31 := by unfold mvc ndN; (repeat' split) <;> omega
theorem cd_nd (bd : Nat → Nat) (sd : Nat) : ndN bd sd < 2 ^ 31 := by unfold ndN; split <;> omega
theorem cd_kd (bd : Nat → Nat) (sd rt ps : Nat) (x : Int32) : kdc bd sd rt ps x < 2 ^ 31 := by unfold kdc ndN; (repeat' split) <;> omega
theorem cd_ln (bd : Nat → Nat) (sd : Nat) (x : Int32) : lnc bd sd x < 2 ^ 31 := by unfold lnc ndN; (repeat' split) <;> omega
theorem cd_mk (bd : Nat → Nat) (sd rt ps n : Nat) (x : Int32) : mkc bd sd rt ps n x < 2 ^ 31 := by unfold mkc ndN; (repeat' split) <;> omega
def LF (p : Program) (l : Launch) (s : State) (m : MethodId) (meth : Method) (c : Code) (b L : Nat) (xs : Nat → Int32) (A : Nat → Prop) (D : va_G) (cI cJ : ClassId) : Prop := CallFix p m c cL_law 8 s #[Value.ref b] (Cond.initialized RX4 :: wsL_law) RL ∧ meth.locks = false ∧ va_K D classes [(cI, .int), (cJ, .long)] s ∧ (∀ q : Nat, s.heap.size ≤ q → A q) ∧ EV A s s.heap ∧ XV s ∧ va_X b L xs s s.heap ∧ b < s.heap.size ∧ ¬ A b ∧ l.stackTraces = false
section
variable {p : Program} {l : Launch} {e : Env} {R : Room} {s : State} {m : MethodId} {args : Array Value} {below : List Frame} {meth : Method} {c : Code} {H : Heap} {locs : List Loc} {cells slots : Nat} {Q : State → Prop}
variable {y : MethodName} {bytes cc : ByteArray} {maxL nL mc ms index pc : Nat} {ret : Option FieldType} {hh : List (Nat × Nat × Nat × Nat)} {rm : Room} {Qc : Array Value → State → Outcome → State → Prop} {free : Addr → Prop} {own : String} {As rest st : List Value} {c0 : Cond} {ls : Array Slot} {B : State → Prop}
theorem rnSH (S : CallFix p m c cc nL s args (c0 :: wsL_law) own) (hM : Met l y (Cond.codeWith y bytes maxL ret hh :: wsL_law) rm (va_Pc As B) Qc mc ms free)
    (wl : Cond.methodLink own index y ∈ wsL_law) (wt : Cond.static y ∈ wsL_law) (wn : Cond.initialized y.cls ∈ wsL_law) (wc : Cond.codeWith y bytes maxL ret hh ∈ wsL_law)
    (hd : y.cls ≠ "java/lang/invoke/MethodHandle" ∧ y.cls ≠ "java/lang/invoke/VarHandle" ∧ (parseMethodDescriptor y.desc).map (fun d => d.parameters.length) = some As.length) (hR : rm.cells = mc ∧ rm.slots = ms ∧ rm.frames + 1 ≤ R.frames ∧ 8 + (maxL + 11) + rm.locals ≤ R.locals)
    (hbl : FrameBlind (va_Pc As B)) (hpre : ∀ U : State, U.heap = H → s.WarmedH U.vm → B U) (hsize : ls.size = nL) (hW : (rest.map fun v => v.category).sum ≤ 8) (hdg : decode cc pc = .ok (.invokestatic index, 3)) (hst : st = As.reverse ++ rest) (hf : cells + mc ≤ R.cells ∧ slots + ms ≤ R.slots) :
    va_Run p l e R s m args below meth c H locs cells slots mc ms (F0 m pc ls st) rest (Qc As.toArray) free := by
  have hG : ∀ w ∈ wsL_law, w.before args s = true := fun w h => S.2.2.2.2 w (List.mem_cons_of_mem _ h)
  refine vx_runSW S hM ⟨⟨hR.1, hR.2.1, hR.2.2.1, hR.2.2.2, pay_in S.2.2.2.2 (wq_gg wc), List.mem_cons_self⟩, hG _ wc, hG _ wn, ⟨hd.1, hd.2.1⟩, fun sig h => ?_, hG _ wl, hG _ wt⟩ ⟨hbl, fun U h1 h2 => ⟨rfl, hpre U h1 h2⟩⟩ rfl rfl hsize hst (lv_room hW) hdg hf
  have h2 := hd.2.2
  rw [h] at h2
  exact (Option.some.inj h2).symm
end
theorem hd_L_put : yL_put.cls ≠ "java/lang/invoke/MethodHandle" ∧ yL_put.cls ≠ "java/lang/invoke/VarHandle" ∧ (parseMethodDescriptor yL_put.desc).map (fun d => d.parameters.length) = some 3 := by decide +kernel
theorem hd_L_state : yL_state.cls ≠ "java/lang/invoke/MethodHandle" ∧ yL_state.cls ≠ "java/lang/invoke/VarHandle" ∧ (parseMethodDescriptor yL_state.desc).map (fun d => d.parameters.length) = some 4 := by decide +kernel
theorem hd_L_count : yL_count.cls ≠ "java/lang/invoke/MethodHandle" ∧ yL_count.cls ≠ "java/lang/invoke/VarHandle" ∧ (parseMethodDescriptor yL_count.desc).map (fun d => d.parameters.length) = some 2 := by decide +kernel
theorem hd_L_move : yL_move.cls ≠ "java/lang/invoke/MethodHandle" ∧ yL_move.cls ≠ "java/lang/invoke/VarHandle" ∧ (parseMethodDescriptor yL_move.desc).map (fun d => d.parameters.length) = some 3 := by decide +kernel
theorem hd_L_place : yL_place.cls ≠ "java/lang/invoke/MethodHandle" ∧ yL_place.cls ≠ "java/lang/invoke/VarHandle" ∧ (parseMethodDescriptor yL_place.desc).map (fun d => d.parameters.length) = some 3 := by decide +kernel
theorem hd_L_on : yL_on.cls ≠ "java/lang/invoke/MethodHandle" ∧ yL_on.cls ≠ "java/lang/invoke/VarHandle" ∧ (parseMethodDescriptor yL_on.desc).map (fun d => d.parameters.length) = some 4 := by decide +kernel
theorem hd_L_kind : yL_kind.cls ≠ "java/lang/invoke/MethodHandle" ∧ yL_kind.cls ≠ "java/lang/invoke/VarHandle" ∧ (parseMethodDescriptor yL_kind.desc).map (fun d => d.parameters.length) = some 3 := by decide +kernel
theorem hd_L_lines : yL_lines.cls ≠ "java/lang/invoke/MethodHandle" ∧ yL_lines.cls ≠ "java/lang/invoke/VarHandle" ∧ (parseMethodDescriptor yL_lines.desc).map (fun d => d.parameters.length) = some 3 := by decide +kernel
theorem hd_L_make : yL_make.cls ≠ "java/lang/invoke/MethodHandle" ∧ yL_make.cls ≠ "java/lang/invoke/VarHandle" ∧ (parseMethodDescriptor yL_make.desc).map (fun d => d.parameters.length) = some 3 := by decide +kernel
theorem hd_L_check : yL_check.cls ≠ "java/lang/invoke/MethodHandle" ∧ yL_check.cls ≠ "java/lang/invoke/VarHandle" ∧ (parseMethodDescriptor yL_check.desc).map (fun d => d.parameters.length) = some 2 := by decide +kernel
theorem hd_L_pinned : yL_pinned.cls ≠ "java/lang/invoke/MethodHandle" ∧ yL_pinned.cls ≠ "java/lang/invoke/VarHandle" ∧ (parseMethodDescriptor yL_pinned.desc).map (fun d => d.parameters.length) = some 2 := by decide +kernel
theorem dL_law_0 : decode cL_law 0 = .ok (.new 8, 3) := by decide +kernel
theorem dL_law_3 : decode cL_law 3 = .ok (.dup, 1) := by decide +kernel
theorem dL_law_4 : decode cL_law 4 = .ok (.invokespecial 58, 3) := by decide +kernel
theorem dL_law_7 : decode cL_law 7 = .ok (.astore_n 1, 1) := by decide +kernel
theorem dL_law_8 : decode cL_law 8 = .ok (.new 59, 3) := by decide +kernel
theorem dL_law_11 : decode cL_law 11 = .ok (.dup, 1) := by decide +kernel
theorem dL_law_12 : decode cL_law 12 = .ok (.invokespecial 61, 3) := by decide +kernel
theorem dL_law_15 : decode cL_law 15 = .ok (.astore_n 2, 1) := by decide +kernel
theorem dL_law_16 : decode cL_law 16 = .ok (.iconst 1, 1) := by decide +kernel
theorem dL_law_17 : decode cL_law 17 = .ok (.newarray .long, 2) := by decide +kernel
theorem dL_law_19 : decode cL_law 19 = .ok (.astore_n 3, 1) := by decide +kernel
theorem dL_law_20 : decode cL_law 20 = .ok (.iconst 0, 1) := by decide +kernel
theorem dL_law_21 : decode cL_law 21 = .ok (.istore 4, 2) := by decide +kernel
theorem dL_law_23 : decode cL_law 23 = .ok (.iload 4, 2) := by decide +kernel
theorem dL_law_25 : decode cL_law 25 = .ok (.aload_n 0, 1) := by decide +kernel
theorem dL_law_26 : decode cL_law 26 = .ok (.arraylength, 1) := by decide +kernel
theorem dL_law_27 : decode cL_law 27 = .ok (.iconst 4, 1) := by decide +kernel
theorem dL_law_28 : decode cL_law 28 = .ok (.isub, 1) := by decide +kernel
theorem dL_law_29 : decode cL_law 29 = .ok (.if_icmp .gt 804, 3) := by decide +kernel
theorem dL_law_32 : decode cL_law 32 = .ok (.aload_n 0, 1) := by decide +kernel
theorem dL_law_33 : decode cL_law 33 = .ok (.iload 4, 2) := by decide +kernel
theorem dL_law_35 : decode cL_law 35 = .ok (.iaload, 1) := by decide +kernel
theorem dL_law_36 : decode cL_law 36 = .ok (.bipush 31, 2) := by decide +kernel
theorem dL_law_38 : decode cL_law 38 = .ok (.iand, 1) := by decide +kernel
theorem dL_law_39 : decode cL_law 39 = .ok (.tableswitch 788 0 16 #[81, 92, 103, 151, 211, 224, 268, 324, 380, 464, 520, 575, 631, 644, 669, 720, 763], 81) := by decide +kernel
theorem dL_law_120 : decode cL_law 120 = .ok (.aload_n 1, 1) := by decide +kernel
theorem dL_law_121 : decode cL_law 121 = .ok (.invokevirtual 62, 3) := by decide +kernel
theorem dL_law_124 : decode cL_law 124 = .ok (.aload_n 2, 1) := by decide +kernel
theorem dL_law_125 : decode cL_law 125 = .ok (.invokevirtual 65, 3) := by decide +kernel
theorem dL_law_128 : decode cL_law 128 = .ok (.goto 699, 3) := by decide +kernel
theorem dL_law_131 : decode cL_law 131 = .ok (.aload_n 1, 1) := by decide +kernel
theorem dL_law_132 : decode cL_law 132 = .ok (.invokevirtual 66, 3) := by decide +kernel
theorem dL_law_135 : decode cL_law 135 = .ok (.aload_n 2, 1) := by decide +kernel
theorem dL_law_136 : decode cL_law 136 = .ok (.invokevirtual 69, 3) := by decide +kernel
theorem dL_law_139 : decode cL_law 139 = .ok (.goto 688, 3) := by decide +kernel
theorem dL_law_142 : decode cL_law 142 = .ok (.aload_n 1, 1) := by decide +kernel
theorem dL_law_143 : decode cL_law 143 = .ok (.aload_n 0, 1) := by decide +kernel
theorem dL_law_144 : decode cL_law 144 = .ok (.iload 4, 2) := by decide +kernel
theorem dL_law_146 : decode cL_law 146 = .ok (.iconst 1, 1) := by decide +kernel
theorem dL_law_147 : decode cL_law 147 = .ok (.iadd, 1) := by decide +kernel
theorem dL_law_148 : decode cL_law 148 = .ok (.iaload, 1) := by decide +kernel
theorem dL_law_149 : decode cL_law 149 = .ok (.aload_n 0, 1) := by decide +kernel
theorem dL_law_150 : decode cL_law 150 = .ok (.iload 4, 2) := by decide +kernel
theorem dL_law_152 : decode cL_law 152 = .ok (.iconst 2, 1) := by decide +kernel
theorem dL_law_153 : decode cL_law 153 = .ok (.iadd, 1) := by decide +kernel
theorem dL_law_154 : decode cL_law 154 = .ok (.iaload, 1) := by decide +kernel
theorem dL_law_155 : decode cL_law 155 = .ok (.invokestatic 70, 3) := by decide +kernel
theorem dL_law_158 : decode cL_law 158 = .ok (.istore 5, 2) := by decide +kernel
theorem dL_law_160 : decode cL_law 160 = .ok (.aload_n 2, 1) := by decide +kernel
theorem dL_law_161 : decode cL_law 161 = .ok (.aload_n 0, 1) := by decide +kernel
theorem dL_law_162 : decode cL_law 162 = .ok (.iload 4, 2) := by decide +kernel
theorem dL_law_164 : decode cL_law 164 = .ok (.iconst 1, 1) := by decide +kernel
theorem dL_law_165 : decode cL_law 165 = .ok (.iadd, 1) := by decide +kernel
theorem dL_law_166 : decode cL_law 166 = .ok (.iaload, 1) := by decide +kernel
theorem dL_law_167 : decode cL_law 167 = .ok (.aload_n 0, 1) := by decide +kernel
theorem dL_law_168 : decode cL_law 168 = .ok (.iload 4, 2) := by decide +kernel
theorem dL_law_170 : decode cL_law 170 = .ok (.iconst 2, 1) := by decide +kernel
theorem dL_law_171 : decode cL_law 171 = .ok (.iadd, 1) := by decide +kernel
theorem dL_law_172 : decode cL_law 172 = .ok (.iaload, 1) := by decide +kernel
theorem dL_law_173 : decode cL_law 173 = .ok (.invokevirtual 75, 3) := by decide +kernel
theorem dL_law_176 : decode cL_law 176 = .ok (.aload_n 2, 1) := by decide +kernel
theorem dL_law_177 : decode cL_law 177 = .ok (.invokevirtual 76, 3) := by decide +kernel
theorem dL_law_180 : decode cL_law 180 = .ok (.iload 5, 2) := by decide +kernel
theorem dL_law_182 : decode cL_law 182 = .ok (.if_icmp .eq 5, 3) := by decide +kernel
theorem dL_law_185 : decode cL_law 185 = .ok (.iconst 0, 1) := by decide +kernel
theorem dL_law_186 : decode cL_law 186 = .ok (.ireturn, 1) := by decide +kernel
theorem dL_law_187 : decode cL_law 187 = .ok (.goto 640, 3) := by decide +kernel
theorem dL_law_190 : decode cL_law 190 = .ok (.aload_n 1, 1) := by decide +kernel
theorem dL_law_191 : decode cL_law 191 = .ok (.aload_n 0, 1) := by decide +kernel
theorem dL_law_192 : decode cL_law 192 = .ok (.iload 4, 2) := by decide +kernel
theorem dL_law_194 : decode cL_law 194 = .ok (.iconst 1, 1) := by decide +kernel
theorem dL_law_195 : decode cL_law 195 = .ok (.iadd, 1) := by decide +kernel
theorem dL_law_196 : decode cL_law 196 = .ok (.iaload, 1) := by decide +kernel
theorem dL_law_197 : decode cL_law 197 = .ok (.aload_n 0, 1) := by decide +kernel
theorem dL_law_198 : decode cL_law 198 = .ok (.iload 4, 2) := by decide +kernel
theorem dL_law_200 : decode cL_law 200 = .ok (.iconst 2, 1) := by decide +kernel
theorem dL_law_201 : decode cL_law 201 = .ok (.iadd, 1) := by decide +kernel
theorem dL_law_202 : decode cL_law 202 = .ok (.iaload, 1) := by decide +kernel
theorem dL_law_203 : decode cL_law 203 = .ok (.aload_n 0, 1) := by decide +kernel
theorem dL_law_204 : decode cL_law 204 = .ok (.iload 4, 2) := by decide +kernel
theorem dL_law_206 : decode cL_law 206 = .ok (.iconst 3, 1) := by decide +kernel
theorem dL_law_207 : decode cL_law 207 = .ok (.iadd, 1) := by decide +kernel
theorem dL_law_208 : decode cL_law 208 = .ok (.iaload, 1) := by decide +kernel
theorem dL_law_209 : decode cL_law 209 = .ok (.invokestatic 79, 3) := by decide +kernel
theorem dL_law_212 : decode cL_law 212 = .ok (.istore 5, 2) := by decide +kernel
theorem dL_law_214 : decode cL_law 214 = .ok (.aload_n 2, 1) := by decide +kernel
theorem dL_law_215 : decode cL_law 215 = .ok (.aload_n 0, 1) := by decide +kernel
theorem dL_law_216 : decode cL_law 216 = .ok (.iload 4, 2) := by decide +kernel
theorem dL_law_218 : decode cL_law 218 = .ok (.iconst 1, 1) := by decide +kernel
theorem dL_law_219 : decode cL_law 219 = .ok (.iadd, 1) := by decide +kernel
theorem dL_law_220 : decode cL_law 220 = .ok (.iaload, 1) := by decide +kernel
theorem dL_law_221 : decode cL_law 221 = .ok (.aload_n 0, 1) := by decide +kernel
theorem dL_law_222 : decode cL_law 222 = .ok (.iload 4, 2) := by decide +kernel
theorem dL_law_224 : decode cL_law 224 = .ok (.iconst 2, 1) := by decide +kernel
theorem dL_law_225 : decode cL_law 225 = .ok (.iadd, 1) := by decide +kernel
theorem dL_law_226 : decode cL_law 226 = .ok (.iaload, 1) := by decide +kernel
theorem dL_law_227 : decode cL_law 227 = .ok (.aload_n 0, 1) := by decide +kernel
theorem dL_law_228 : decode cL_law 228 = .ok (.iload 4, 2) := by decide +kernel
theorem dL_law_230 : decode cL_law 230 = .ok (.iconst 3, 1) := by decide +kernel
theorem dL_law_231 : decode cL_law 231 = .ok (.iadd, 1) := by decide +kernel
theorem dL_law_232 : decode cL_law 232 = .ok (.iaload, 1) := by decide +kernel
theorem dL_law_233 : decode cL_law 233 = .ok (.invokevirtual 82, 3) := by decide +kernel
theorem dL_law_236 : decode cL_law 236 = .ok (.aload_n 2, 1) := by decide +kernel
theorem dL_law_237 : decode cL_law 237 = .ok (.invokevirtual 76, 3) := by decide +kernel
theorem dL_law_240 : decode cL_law 240 = .ok (.iload 5, 2) := by decide +kernel
theorem dL_law_242 : decode cL_law 242 = .ok (.if_icmp .eq 5, 3) := by decide +kernel
theorem dL_law_245 : decode cL_law 245 = .ok (.iconst 0, 1) := by decide +kernel
theorem dL_law_246 : decode cL_law 246 = .ok (.ireturn, 1) := by decide +kernel
theorem dL_law_247 : decode cL_law 247 = .ok (.goto 580, 3) := by decide +kernel
theorem dL_law_250 : decode cL_law 250 = .ok (.aload_n 1, 1) := by decide +kernel
theorem dL_law_251 : decode cL_law 251 = .ok (.invokevirtual 83, 3) := by decide +kernel
theorem dL_law_254 : decode cL_law 254 = .ok (.aload_n 2, 1) := by decide +kernel
theorem dL_law_255 : decode cL_law 255 = .ok (.invokevirtual 86, 3) := by decide +kernel
theorem dL_law_258 : decode cL_law 258 = .ok (.if_icmp .eq 569, 3) := by decide +kernel
theorem dL_law_261 : decode cL_law 261 = .ok (.iconst 0, 1) := by decide +kernel
theorem dL_law_262 : decode cL_law 262 = .ok (.ireturn, 1) := by decide +kernel
theorem dL_law_263 : decode cL_law 263 = .ok (.aload_n 1, 1) := by decide +kernel
theorem dL_law_264 : decode cL_law 264 = .ok (.aload_n 3, 1) := by decide +kernel
theorem dL_law_265 : decode cL_law 265 = .ok (.invokestatic 87, 3) := by decide +kernel
theorem dL_law_268 : decode cL_law 268 = .ok (.istore 5, 2) := by decide +kernel
theorem dL_law_270 : decode cL_law 270 = .ok (.aload_n 2, 1) := by decide +kernel
theorem dL_law_271 : decode cL_law 271 = .ok (.invokevirtual 90, 3) := by decide +kernel
theorem dL_law_274 : decode cL_law 274 = .ok (.istore 6, 2) := by decide +kernel
theorem dL_law_276 : decode cL_law 276 = .ok (.aload_n 2, 1) := by decide +kernel
theorem dL_law_277 : decode cL_law 277 = .ok (.invokevirtual 76, 3) := by decide +kernel
theorem dL_law_280 : decode cL_law 280 = .ok (.iload 5, 2) := by decide +kernel
theorem dL_law_282 : decode cL_law 282 = .ok (.if_icmp .eq 5, 3) := by decide +kernel
theorem dL_law_285 : decode cL_law 285 = .ok (.iconst 0, 1) := by decide +kernel
theorem dL_law_286 : decode cL_law 286 = .ok (.ireturn, 1) := by decide +kernel
theorem dL_law_287 : decode cL_law 287 = .ok (.iload 5, 2) := by decide +kernel
theorem dL_law_289 : decode cL_law 289 = .ok (.ifCond .ne 15, 3) := by decide +kernel
theorem dL_law_292 : decode cL_law 292 = .ok (.aload_n 3, 1) := by decide +kernel
theorem dL_law_293 : decode cL_law 293 = .ok (.iconst 0, 1) := by decide +kernel
theorem dL_law_294 : decode cL_law 294 = .ok (.laload, 1) := by decide +kernel
theorem dL_law_295 : decode cL_law 295 = .ok (.iload 6, 2) := by decide +kernel
theorem dL_law_297 : decode cL_law 297 = .ok (.i2l, 1) := by decide +kernel
theorem dL_law_298 : decode cL_law 298 = .ok (.lcmp, 1) := by decide +kernel
theorem dL_law_299 : decode cL_law 299 = .ok (.ifCond .eq 5, 3) := by decide +kernel
theorem dL_law_302 : decode cL_law 302 = .ok (.iconst 0, 1) := by decide +kernel
theorem dL_law_303 : decode cL_law 303 = .ok (.ireturn, 1) := by decide +kernel
theorem dL_law_304 : decode cL_law 304 = .ok (.goto 523, 3) := by decide +kernel
theorem dL_law_307 : decode cL_law 307 = .ok (.aload_n 1, 1) := by decide +kernel
theorem dL_law_308 : decode cL_law 308 = .ok (.aload_n 0, 1) := by decide +kernel
theorem dL_law_309 : decode cL_law 309 = .ok (.iload 4, 2) := by decide +kernel
theorem dL_law_311 : decode cL_law 311 = .ok (.iconst 1, 1) := by decide +kernel
theorem dL_law_312 : decode cL_law 312 = .ok (.iadd, 1) := by decide +kernel
theorem dL_law_313 : decode cL_law 313 = .ok (.iaload, 1) := by decide +kernel
theorem dL_law_314 : decode cL_law 314 = .ok (.aload_n 3, 1) := by decide +kernel
theorem dL_law_315 : decode cL_law 315 = .ok (.invokestatic 91, 3) := by decide +kernel
theorem dL_law_318 : decode cL_law 318 = .ok (.istore 5, 2) := by decide +kernel
theorem dL_law_320 : decode cL_law 320 = .ok (.aload_n 2, 1) := by decide +kernel
theorem dL_law_321 : decode cL_law 321 = .ok (.aload_n 0, 1) := by decide +kernel
theorem dL_law_322 : decode cL_law 322 = .ok (.iload 4, 2) := by decide +kernel
theorem dL_law_324 : decode cL_law 324 = .ok (.iconst 1, 1) := by decide +kernel
theorem dL_law_325 : decode cL_law 325 = .ok (.iadd, 1) := by decide +kernel
theorem dL_law_326 : decode cL_law 326 = .ok (.iaload, 1) := by decide +kernel
theorem dL_law_327 : decode cL_law 327 = .ok (.invokevirtual 94, 3) := by decide +kernel
theorem dL_law_330 : decode cL_law 330 = .ok (.istore 6, 2) := by decide +kernel
theorem dL_law_332 : decode cL_law 332 = .ok (.aload_n 2, 1) := by decide +kernel
theorem dL_law_333 : decode cL_law 333 = .ok (.invokevirtual 76, 3) := by decide +kernel
theorem dL_law_336 : decode cL_law 336 = .ok (.iload 5, 2) := by decide +kernel
theorem dL_law_338 : decode cL_law 338 = .ok (.if_icmp .eq 5, 3) := by decide +kernel
theorem dL_law_341 : decode cL_law 341 = .ok (.iconst 0, 1) := by decide +kernel
theorem dL_law_342 : decode cL_law 342 = .ok (.ireturn, 1) := by decide +kernel
theorem dL_law_343 : decode cL_law 343 = .ok (.iload 5, 2) := by decide +kernel
theorem dL_law_345 : decode cL_law 345 = .ok (.ifCond .ne 15, 3) := by decide +kernel
theorem dL_law_348 : decode cL_law 348 = .ok (.aload_n 3, 1) := by decide +kernel
theorem dL_law_349 : decode cL_law 349 = .ok (.iconst 0, 1) := by decide +kernel
theorem dL_law_350 : decode cL_law 350 = .ok (.laload, 1) := by decide +kernel
theorem dL_law_351 : decode cL_law 351 = .ok (.iload 6, 2) := by decide +kernel
theorem dL_law_353 : decode cL_law 353 = .ok (.i2l, 1) := by decide +kernel
theorem dL_law_354 : decode cL_law 354 = .ok (.lcmp, 1) := by decide +kernel
theorem dL_law_355 : decode cL_law 355 = .ok (.ifCond .eq 5, 3) := by decide +kernel
theorem dL_law_358 : decode cL_law 358 = .ok (.iconst 0, 1) := by decide +kernel
theorem dL_law_359 : decode cL_law 359 = .ok (.ireturn, 1) := by decide +kernel
theorem dL_law_360 : decode cL_law 360 = .ok (.goto 467, 3) := by decide +kernel
theorem dL_law_363 : decode cL_law 363 = .ok (.aload_n 1, 1) := by decide +kernel
theorem dL_law_364 : decode cL_law 364 = .ok (.aload_n 0, 1) := by decide +kernel
theorem dL_law_365 : decode cL_law 365 = .ok (.iload 4, 2) := by decide +kernel
theorem dL_law_367 : decode cL_law 367 = .ok (.iconst 1, 1) := by decide +kernel
theorem dL_law_368 : decode cL_law 368 = .ok (.iadd, 1) := by decide +kernel
theorem dL_law_369 : decode cL_law 369 = .ok (.iaload, 1) := by decide +kernel
theorem dL_law_370 : decode cL_law 370 = .ok (.aload_n 3, 1) := by decide +kernel
theorem dL_law_371 : decode cL_law 371 = .ok (.invokestatic 95, 3) := by decide +kernel
theorem dL_law_374 : decode cL_law 374 = .ok (.istore 5, 2) := by decide +kernel
theorem dL_law_376 : decode cL_law 376 = .ok (.aload_n 2, 1) := by decide +kernel
theorem dL_law_377 : decode cL_law 377 = .ok (.aload_n 0, 1) := by decide +kernel
theorem dL_law_378 : decode cL_law 378 = .ok (.iload 4, 2) := by decide +kernel
theorem dL_law_380 : decode cL_law 380 = .ok (.iconst 1, 1) := by decide +kernel
theorem dL_law_381 : decode cL_law 381 = .ok (.iadd, 1) := by decide +kernel
theorem dL_law_382 : decode cL_law 382 = .ok (.iaload, 1) := by decide +kernel
theorem dL_law_383 : decode cL_law 383 = .ok (.invokevirtual 97, 3) := by decide +kernel
theorem dL_law_386 : decode cL_law 386 = .ok (.istore 6, 2) := by decide +kernel
theorem dL_law_388 : decode cL_law 388 = .ok (.aload_n 2, 1) := by decide +kernel
theorem dL_law_389 : decode cL_law 389 = .ok (.invokevirtual 76, 3) := by decide +kernel
theorem dL_law_392 : decode cL_law 392 = .ok (.iload 5, 2) := by decide +kernel
theorem dL_law_394 : decode cL_law 394 = .ok (.if_icmp .eq 5, 3) := by decide +kernel
theorem dL_law_397 : decode cL_law 397 = .ok (.iconst 0, 1) := by decide +kernel
theorem dL_law_398 : decode cL_law 398 = .ok (.ireturn, 1) := by decide +kernel
theorem dL_law_399 : decode cL_law 399 = .ok (.iload 5, 2) := by decide +kernel
theorem dL_law_401 : decode cL_law 401 = .ok (.ifCond .ne 15, 3) := by decide +kernel
theorem dL_law_404 : decode cL_law 404 = .ok (.aload_n 3, 1) := by decide +kernel
theorem dL_law_405 : decode cL_law 405 = .ok (.iconst 0, 1) := by decide +kernel
theorem dL_law_406 : decode cL_law 406 = .ok (.laload, 1) := by decide +kernel
theorem dL_law_407 : decode cL_law 407 = .ok (.iload 6, 2) := by decide +kernel
theorem dL_law_409 : decode cL_law 409 = .ok (.i2l, 1) := by decide +kernel
theorem dL_law_410 : decode cL_law 410 = .ok (.lcmp, 1) := by decide +kernel
theorem dL_law_411 : decode cL_law 411 = .ok (.ifCond .eq 5, 3) := by decide +kernel
theorem dL_law_414 : decode cL_law 414 = .ok (.iconst 0, 1) := by decide +kernel
theorem dL_law_415 : decode cL_law 415 = .ok (.ireturn, 1) := by decide +kernel
theorem dL_law_416 : decode cL_law 416 = .ok (.goto 411, 3) := by decide +kernel
theorem dL_law_419 : decode cL_law 419 = .ok (.aload_n 1, 1) := by decide +kernel
theorem dL_law_420 : decode cL_law 420 = .ok (.aload_n 0, 1) := by decide +kernel
theorem dL_law_421 : decode cL_law 421 = .ok (.iload 4, 2) := by decide +kernel
theorem dL_law_423 : decode cL_law 423 = .ok (.iconst 1, 1) := by decide +kernel
theorem dL_law_424 : decode cL_law 424 = .ok (.iadd, 1) := by decide +kernel
theorem dL_law_425 : decode cL_law 425 = .ok (.iaload, 1) := by decide +kernel
theorem dL_law_426 : decode cL_law 426 = .ok (.aload_n 0, 1) := by decide +kernel
theorem dL_law_427 : decode cL_law 427 = .ok (.iload 4, 2) := by decide +kernel
theorem dL_law_429 : decode cL_law 429 = .ok (.iconst 2, 1) := by decide +kernel
theorem dL_law_430 : decode cL_law 430 = .ok (.iadd, 1) := by decide +kernel
theorem dL_law_431 : decode cL_law 431 = .ok (.iaload, 1) := by decide +kernel
theorem dL_law_432 : decode cL_law 432 = .ok (.ifCond .eq 7, 3) := by decide +kernel
theorem dL_law_435 : decode cL_law 435 = .ok (.iconst 1, 1) := by decide +kernel
theorem dL_law_436 : decode cL_law 436 = .ok (.goto 4, 3) := by decide +kernel
theorem dL_law_439 : decode cL_law 439 = .ok (.iconst 0, 1) := by decide +kernel
theorem dL_law_440 : decode cL_law 440 = .ok (.aload_n 3, 1) := by decide +kernel
theorem dL_law_441 : decode cL_law 441 = .ok (.invokestatic 98, 3) := by decide +kernel
theorem dL_law_444 : decode cL_law 444 = .ok (.istore 5, 2) := by decide +kernel
theorem dL_law_446 : decode cL_law 446 = .ok (.aload_n 2, 1) := by decide +kernel
theorem dL_law_447 : decode cL_law 447 = .ok (.aload_n 0, 1) := by decide +kernel
theorem dL_law_448 : decode cL_law 448 = .ok (.iload 4, 2) := by decide +kernel
theorem dL_law_450 : decode cL_law 450 = .ok (.iconst 1, 1) := by decide +kernel
theorem dL_law_451 : decode cL_law 451 = .ok (.iadd, 1) := by decide +kernel
theorem dL_law_452 : decode cL_law 452 = .ok (.iaload, 1) := by decide +kernel
theorem dL_law_453 : decode cL_law 453 = .ok (.aload_n 0, 1) := by decide +kernel
theorem dL_law_454 : decode cL_law 454 = .ok (.iload 4, 2) := by decide +kernel
theorem dL_law_456 : decode cL_law 456 = .ok (.iconst 2, 1) := by decide +kernel
theorem dL_law_457 : decode cL_law 457 = .ok (.iadd, 1) := by decide +kernel
theorem dL_law_458 : decode cL_law 458 = .ok (.iaload, 1) := by decide +kernel
theorem dL_law_459 : decode cL_law 459 = .ok (.ifCond .eq 7, 3) := by decide +kernel
theorem dL_law_462 : decode cL_law 462 = .ok (.iconst 1, 1) := by decide +kernel
theorem dL_law_463 : decode cL_law 463 = .ok (.goto 4, 3) := by decide +kernel
theorem dL_law_466 : decode cL_law 466 = .ok (.iconst 0, 1) := by decide +kernel
theorem dL_law_467 : decode cL_law 467 = .ok (.invokevirtual 101, 3) := by decide +kernel
theorem dL_law_470 : decode cL_law 470 = .ok (.istore 6, 2) := by decide +kernel
theorem dL_law_472 : decode cL_law 472 = .ok (.aload_n 2, 1) := by decide +kernel
theorem dL_law_473 : decode cL_law 473 = .ok (.invokevirtual 76, 3) := by decide +kernel
theorem dL_law_476 : decode cL_law 476 = .ok (.iload 5, 2) := by decide +kernel
theorem dL_law_478 : decode cL_law 478 = .ok (.if_icmp .eq 5, 3) := by decide +kernel
theorem dL_law_481 : decode cL_law 481 = .ok (.iconst 0, 1) := by decide +kernel
theorem dL_law_482 : decode cL_law 482 = .ok (.ireturn, 1) := by decide +kernel
theorem dL_law_483 : decode cL_law 483 = .ok (.iload 5, 2) := by decide +kernel
theorem dL_law_485 : decode cL_law 485 = .ok (.ifCond .ne 15, 3) := by decide +kernel
theorem dL_law_488 : decode cL_law 488 = .ok (.aload_n 3, 1) := by decide +kernel
theorem dL_law_489 : decode cL_law 489 = .ok (.iconst 0, 1) := by decide +kernel
theorem dL_law_490 : decode cL_law 490 = .ok (.laload, 1) := by decide +kernel
theorem dL_law_491 : decode cL_law 491 = .ok (.iload 6, 2) := by decide +kernel
theorem dL_law_493 : decode cL_law 493 = .ok (.i2l, 1) := by decide +kernel
theorem dL_law_494 : decode cL_law 494 = .ok (.lcmp, 1) := by decide +kernel
theorem dL_law_495 : decode cL_law 495 = .ok (.ifCond .eq 5, 3) := by decide +kernel
theorem dL_law_498 : decode cL_law 498 = .ok (.iconst 0, 1) := by decide +kernel
theorem dL_law_499 : decode cL_law 499 = .ok (.ireturn, 1) := by decide +kernel
theorem dL_law_500 : decode cL_law 500 = .ok (.goto 327, 3) := by decide +kernel
theorem dL_law_503 : decode cL_law 503 = .ok (.aload_n 1, 1) := by decide +kernel
theorem dL_law_504 : decode cL_law 504 = .ok (.aload_n 0, 1) := by decide +kernel
theorem dL_law_505 : decode cL_law 505 = .ok (.iload 4, 2) := by decide +kernel
theorem dL_law_507 : decode cL_law 507 = .ok (.iconst 1, 1) := by decide +kernel
theorem dL_law_508 : decode cL_law 508 = .ok (.iadd, 1) := by decide +kernel
theorem dL_law_509 : decode cL_law 509 = .ok (.iaload, 1) := by decide +kernel
theorem dL_law_510 : decode cL_law 510 = .ok (.aload_n 3, 1) := by decide +kernel
theorem dL_law_511 : decode cL_law 511 = .ok (.invokestatic 102, 3) := by decide +kernel
theorem dL_law_514 : decode cL_law 514 = .ok (.istore 5, 2) := by decide +kernel
theorem dL_law_516 : decode cL_law 516 = .ok (.aload_n 2, 1) := by decide +kernel
theorem dL_law_517 : decode cL_law 517 = .ok (.aload_n 0, 1) := by decide +kernel
theorem dL_law_518 : decode cL_law 518 = .ok (.iload 4, 2) := by decide +kernel
theorem dL_law_520 : decode cL_law 520 = .ok (.iconst 1, 1) := by decide +kernel
theorem dL_law_521 : decode cL_law 521 = .ok (.iadd, 1) := by decide +kernel
theorem dL_law_522 : decode cL_law 522 = .ok (.iaload, 1) := by decide +kernel
theorem dL_law_523 : decode cL_law 523 = .ok (.invokevirtual 104, 3) := by decide +kernel
theorem dL_law_526 : decode cL_law 526 = .ok (.istore 6, 2) := by decide +kernel
theorem dL_law_528 : decode cL_law 528 = .ok (.aload_n 2, 1) := by decide +kernel
theorem dL_law_529 : decode cL_law 529 = .ok (.invokevirtual 76, 3) := by decide +kernel
theorem dL_law_532 : decode cL_law 532 = .ok (.iload 5, 2) := by decide +kernel
theorem dL_law_534 : decode cL_law 534 = .ok (.if_icmp .eq 5, 3) := by decide +kernel
theorem dL_law_537 : decode cL_law 537 = .ok (.iconst 0, 1) := by decide +kernel
theorem dL_law_538 : decode cL_law 538 = .ok (.ireturn, 1) := by decide +kernel
theorem dL_law_539 : decode cL_law 539 = .ok (.iload 5, 2) := by decide +kernel
theorem dL_law_541 : decode cL_law 541 = .ok (.ifCond .ne 15, 3) := by decide +kernel
theorem dL_law_544 : decode cL_law 544 = .ok (.aload_n 3, 1) := by decide +kernel
theorem dL_law_545 : decode cL_law 545 = .ok (.iconst 0, 1) := by decide +kernel
theorem dL_law_546 : decode cL_law 546 = .ok (.laload, 1) := by decide +kernel
theorem dL_law_547 : decode cL_law 547 = .ok (.iload 6, 2) := by decide +kernel
theorem dL_law_549 : decode cL_law 549 = .ok (.i2l, 1) := by decide +kernel
theorem dL_law_550 : decode cL_law 550 = .ok (.lcmp, 1) := by decide +kernel
theorem dL_law_551 : decode cL_law 551 = .ok (.ifCond .eq 5, 3) := by decide +kernel
theorem dL_law_554 : decode cL_law 554 = .ok (.iconst 0, 1) := by decide +kernel
theorem dL_law_555 : decode cL_law 555 = .ok (.ireturn, 1) := by decide +kernel
theorem dL_law_556 : decode cL_law 556 = .ok (.goto 271, 3) := by decide +kernel
theorem dL_law_559 : decode cL_law 559 = .ok (.aload_n 1, 1) := by decide +kernel
theorem dL_law_560 : decode cL_law 560 = .ok (.aload_n 0, 1) := by decide +kernel
theorem dL_law_561 : decode cL_law 561 = .ok (.iload 4, 2) := by decide +kernel
theorem dL_law_563 : decode cL_law 563 = .ok (.iconst 1, 1) := by decide +kernel
theorem dL_law_564 : decode cL_law 564 = .ok (.iadd, 1) := by decide +kernel
theorem dL_law_565 : decode cL_law 565 = .ok (.iaload, 1) := by decide +kernel
theorem dL_law_566 : decode cL_law 566 = .ok (.aload_n 3, 1) := by decide +kernel
theorem dL_law_567 : decode cL_law 567 = .ok (.invokestatic 105, 3) := by decide +kernel
theorem dL_law_570 : decode cL_law 570 = .ok (.istore 5, 2) := by decide +kernel
theorem dL_law_572 : decode cL_law 572 = .ok (.aload_n 2, 1) := by decide +kernel
theorem dL_law_573 : decode cL_law 573 = .ok (.aload_n 0, 1) := by decide +kernel
theorem dL_law_574 : decode cL_law 574 = .ok (.iload 4, 2) := by decide +kernel
theorem dL_law_576 : decode cL_law 576 = .ok (.iconst 1, 1) := by decide +kernel
theorem dL_law_577 : decode cL_law 577 = .ok (.iadd, 1) := by decide +kernel
theorem dL_law_578 : decode cL_law 578 = .ok (.iaload, 1) := by decide +kernel
theorem dL_law_579 : decode cL_law 579 = .ok (.invokevirtual 107, 3) := by decide +kernel
theorem dL_law_582 : decode cL_law 582 = .ok (.lstore 6, 2) := by decide +kernel
theorem dL_law_584 : decode cL_law 584 = .ok (.aload_n 2, 1) := by decide +kernel
theorem dL_law_585 : decode cL_law 585 = .ok (.invokevirtual 76, 3) := by decide +kernel
theorem dL_law_588 : decode cL_law 588 = .ok (.iload 5, 2) := by decide +kernel
theorem dL_law_590 : decode cL_law 590 = .ok (.if_icmp .eq 5, 3) := by decide +kernel
theorem dL_law_593 : decode cL_law 593 = .ok (.iconst 0, 1) := by decide +kernel
theorem dL_law_594 : decode cL_law 594 = .ok (.ireturn, 1) := by decide +kernel
theorem dL_law_595 : decode cL_law 595 = .ok (.iload 5, 2) := by decide +kernel
theorem dL_law_597 : decode cL_law 597 = .ok (.ifCond .ne 14, 3) := by decide +kernel
theorem dL_law_600 : decode cL_law 600 = .ok (.aload_n 3, 1) := by decide +kernel
theorem dL_law_601 : decode cL_law 601 = .ok (.iconst 0, 1) := by decide +kernel
theorem dL_law_602 : decode cL_law 602 = .ok (.laload, 1) := by decide +kernel
theorem dL_law_603 : decode cL_law 603 = .ok (.lload 6, 2) := by decide +kernel
theorem dL_law_605 : decode cL_law 605 = .ok (.lcmp, 1) := by decide +kernel
theorem dL_law_606 : decode cL_law 606 = .ok (.ifCond .eq 5, 3) := by decide +kernel
theorem dL_law_609 : decode cL_law 609 = .ok (.iconst 0, 1) := by decide +kernel
theorem dL_law_610 : decode cL_law 610 = .ok (.ireturn, 1) := by decide +kernel
theorem dL_law_611 : decode cL_law 611 = .ok (.goto 216, 3) := by decide +kernel
theorem dL_law_614 : decode cL_law 614 = .ok (.aload_n 1, 1) := by decide +kernel
theorem dL_law_615 : decode cL_law 615 = .ok (.aload_n 0, 1) := by decide +kernel
theorem dL_law_616 : decode cL_law 616 = .ok (.iload 4, 2) := by decide +kernel
theorem dL_law_618 : decode cL_law 618 = .ok (.iconst 1, 1) := by decide +kernel
theorem dL_law_619 : decode cL_law 619 = .ok (.iadd, 1) := by decide +kernel
theorem dL_law_620 : decode cL_law 620 = .ok (.iaload, 1) := by decide +kernel
theorem dL_law_621 : decode cL_law 621 = .ok (.aload_n 3, 1) := by decide +kernel
theorem dL_law_622 : decode cL_law 622 = .ok (.invokestatic 108, 3) := by decide +kernel
theorem dL_law_625 : decode cL_law 625 = .ok (.istore 5, 2) := by decide +kernel
theorem dL_law_627 : decode cL_law 627 = .ok (.aload_n 2, 1) := by decide +kernel
theorem dL_law_628 : decode cL_law 628 = .ok (.aload_n 0, 1) := by decide +kernel
theorem dL_law_629 : decode cL_law 629 = .ok (.iload 4, 2) := by decide +kernel
theorem dL_law_631 : decode cL_law 631 = .ok (.iconst 1, 1) := by decide +kernel
theorem dL_law_632 : decode cL_law 632 = .ok (.iadd, 1) := by decide +kernel
theorem dL_law_633 : decode cL_law 633 = .ok (.iaload, 1) := by decide +kernel
theorem dL_law_634 : decode cL_law 634 = .ok (.invokevirtual 110, 3) := by decide +kernel
theorem dL_law_637 : decode cL_law 637 = .ok (.istore 6, 2) := by decide +kernel
theorem dL_law_639 : decode cL_law 639 = .ok (.aload_n 2, 1) := by decide +kernel
theorem dL_law_640 : decode cL_law 640 = .ok (.invokevirtual 76, 3) := by decide +kernel
theorem dL_law_643 : decode cL_law 643 = .ok (.iload 5, 2) := by decide +kernel
theorem dL_law_645 : decode cL_law 645 = .ok (.if_icmp .eq 5, 3) := by decide +kernel
theorem dL_law_648 : decode cL_law 648 = .ok (.iconst 0, 1) := by decide +kernel
theorem dL_law_649 : decode cL_law 649 = .ok (.ireturn, 1) := by decide +kernel
theorem dL_law_650 : decode cL_law 650 = .ok (.iload 5, 2) := by decide +kernel
theorem dL_law_652 : decode cL_law 652 = .ok (.ifCond .ne 15, 3) := by decide +kernel
theorem dL_law_655 : decode cL_law 655 = .ok (.aload_n 3, 1) := by decide +kernel
theorem dL_law_656 : decode cL_law 656 = .ok (.iconst 0, 1) := by decide +kernel
theorem dL_law_657 : decode cL_law 657 = .ok (.laload, 1) := by decide +kernel
theorem dL_law_658 : decode cL_law 658 = .ok (.iload 6, 2) := by decide +kernel
theorem dL_law_660 : decode cL_law 660 = .ok (.i2l, 1) := by decide +kernel
theorem dL_law_661 : decode cL_law 661 = .ok (.lcmp, 1) := by decide +kernel
theorem dL_law_662 : decode cL_law 662 = .ok (.ifCond .eq 5, 3) := by decide +kernel
theorem dL_law_665 : decode cL_law 665 = .ok (.iconst 0, 1) := by decide +kernel
theorem dL_law_666 : decode cL_law 666 = .ok (.ireturn, 1) := by decide +kernel
theorem dL_law_667 : decode cL_law 667 = .ok (.goto 160, 3) := by decide +kernel
theorem dL_law_670 : decode cL_law 670 = .ok (.aload_n 1, 1) := by decide +kernel
theorem dL_law_671 : decode cL_law 671 = .ok (.invokevirtual 111, 3) := by decide +kernel
theorem dL_law_674 : decode cL_law 674 = .ok (.aload_n 2, 1) := by decide +kernel
theorem dL_law_675 : decode cL_law 675 = .ok (.invokevirtual 114, 3) := by decide +kernel
theorem dL_law_678 : decode cL_law 678 = .ok (.if_icmp .eq 149, 3) := by decide +kernel
theorem dL_law_681 : decode cL_law 681 = .ok (.iconst 0, 1) := by decide +kernel
theorem dL_law_682 : decode cL_law 682 = .ok (.ireturn, 1) := by decide +kernel
theorem dL_law_683 : decode cL_law 683 = .ok (.aload_n 1, 1) := by decide +kernel
theorem dL_law_684 : decode cL_law 684 = .ok (.aload_n 0, 1) := by decide +kernel
theorem dL_law_685 : decode cL_law 685 = .ok (.iload 4, 2) := by decide +kernel
theorem dL_law_687 : decode cL_law 687 = .ok (.iconst 1, 1) := by decide +kernel
theorem dL_law_688 : decode cL_law 688 = .ok (.iadd, 1) := by decide +kernel
theorem dL_law_689 : decode cL_law 689 = .ok (.iaload, 1) := by decide +kernel
theorem dL_law_690 : decode cL_law 690 = .ok (.invokevirtual 115, 3) := by decide +kernel
theorem dL_law_693 : decode cL_law 693 = .ok (.aload_n 2, 1) := by decide +kernel
theorem dL_law_694 : decode cL_law 694 = .ok (.aload_n 0, 1) := by decide +kernel
theorem dL_law_695 : decode cL_law 695 = .ok (.iload 4, 2) := by decide +kernel
theorem dL_law_697 : decode cL_law 697 = .ok (.iconst 1, 1) := by decide +kernel
theorem dL_law_698 : decode cL_law 698 = .ok (.iadd, 1) := by decide +kernel
theorem dL_law_699 : decode cL_law 699 = .ok (.iaload, 1) := by decide +kernel
theorem dL_law_700 : decode cL_law 700 = .ok (.invokevirtual 118, 3) := by decide +kernel
theorem dL_law_703 : decode cL_law 703 = .ok (.if_icmp .eq 124, 3) := by decide +kernel
theorem dL_law_706 : decode cL_law 706 = .ok (.iconst 0, 1) := by decide +kernel
theorem dL_law_707 : decode cL_law 707 = .ok (.ireturn, 1) := by decide +kernel
theorem dL_law_708 : decode cL_law 708 = .ok (.aload_n 1, 1) := by decide +kernel
theorem dL_law_709 : decode cL_law 709 = .ok (.aload_n 3, 1) := by decide +kernel
theorem dL_law_710 : decode cL_law 710 = .ok (.invokestatic 119, 3) := by decide +kernel
theorem dL_law_713 : decode cL_law 713 = .ok (.istore 5, 2) := by decide +kernel
theorem dL_law_715 : decode cL_law 715 = .ok (.aload_n 2, 1) := by decide +kernel
theorem dL_law_716 : decode cL_law 716 = .ok (.invokevirtual 121, 3) := by decide +kernel
theorem dL_law_719 : decode cL_law 719 = .ok (.istore 6, 2) := by decide +kernel
theorem dL_law_721 : decode cL_law 721 = .ok (.aload_n 2, 1) := by decide +kernel
theorem dL_law_722 : decode cL_law 722 = .ok (.invokevirtual 76, 3) := by decide +kernel
theorem dL_law_725 : decode cL_law 725 = .ok (.iload 5, 2) := by decide +kernel
theorem dL_law_727 : decode cL_law 727 = .ok (.if_icmp .eq 5, 3) := by decide +kernel
theorem dL_law_730 : decode cL_law 730 = .ok (.iconst 0, 1) := by decide +kernel
theorem dL_law_731 : decode cL_law 731 = .ok (.ireturn, 1) := by decide +kernel
theorem dL_law_732 : decode cL_law 732 = .ok (.iload 5, 2) := by decide +kernel
theorem dL_law_734 : decode cL_law 734 = .ok (.ifCond .ne 22, 3) := by decide +kernel
theorem dL_law_737 : decode cL_law 737 = .ok (.aload_n 3, 1) := by decide +kernel
theorem dL_law_738 : decode cL_law 738 = .ok (.iconst 0, 1) := by decide +kernel
theorem dL_law_739 : decode cL_law 739 = .ok (.laload, 1) := by decide +kernel
theorem dL_law_740 : decode cL_law 740 = .ok (.iload 6, 2) := by decide +kernel
theorem dL_law_742 : decode cL_law 742 = .ok (.ifCond .eq 7, 3) := by decide +kernel
theorem dL_law_745 : decode cL_law 745 = .ok (.lconst 1, 1) := by decide +kernel
theorem dL_law_746 : decode cL_law 746 = .ok (.goto 4, 3) := by decide +kernel
theorem dL_law_749 : decode cL_law 749 = .ok (.lconst 0, 1) := by decide +kernel
theorem dL_law_750 : decode cL_law 750 = .ok (.lcmp, 1) := by decide +kernel
theorem dL_law_751 : decode cL_law 751 = .ok (.ifCond .eq 5, 3) := by decide +kernel
theorem dL_law_754 : decode cL_law 754 = .ok (.iconst 0, 1) := by decide +kernel
theorem dL_law_755 : decode cL_law 755 = .ok (.ireturn, 1) := by decide +kernel
theorem dL_law_756 : decode cL_law 756 = .ok (.goto 71, 3) := by decide +kernel
theorem dL_law_759 : decode cL_law 759 = .ok (.aload_n 1, 1) := by decide +kernel
theorem dL_law_760 : decode cL_law 760 = .ok (.aload_n 3, 1) := by decide +kernel
theorem dL_law_761 : decode cL_law 761 = .ok (.invokestatic 122, 3) := by decide +kernel
theorem dL_law_764 : decode cL_law 764 = .ok (.istore 5, 2) := by decide +kernel
theorem dL_law_766 : decode cL_law 766 = .ok (.aload_n 2, 1) := by decide +kernel
theorem dL_law_767 : decode cL_law 767 = .ok (.invokevirtual 124, 3) := by decide +kernel
theorem dL_law_770 : decode cL_law 770 = .ok (.lstore 6, 2) := by decide +kernel
theorem dL_law_772 : decode cL_law 772 = .ok (.aload_n 2, 1) := by decide +kernel
theorem dL_law_773 : decode cL_law 773 = .ok (.invokevirtual 76, 3) := by decide +kernel
theorem dL_law_776 : decode cL_law 776 = .ok (.iload 5, 2) := by decide +kernel
theorem dL_law_778 : decode cL_law 778 = .ok (.if_icmp .eq 5, 3) := by decide +kernel
theorem dL_law_781 : decode cL_law 781 = .ok (.iconst 0, 1) := by decide +kernel
theorem dL_law_782 : decode cL_law 782 = .ok (.ireturn, 1) := by decide +kernel
theorem dL_law_783 : decode cL_law 783 = .ok (.iload 5, 2) := by decide +kernel
theorem dL_law_785 : decode cL_law 785 = .ok (.ifCond .ne 14, 3) := by decide +kernel
theorem dL_law_788 : decode cL_law 788 = .ok (.aload_n 3, 1) := by decide +kernel
theorem dL_law_789 : decode cL_law 789 = .ok (.iconst 0, 1) := by decide +kernel
theorem dL_law_790 : decode cL_law 790 = .ok (.laload, 1) := by decide +kernel
theorem dL_law_791 : decode cL_law 791 = .ok (.lload 6, 2) := by decide +kernel
theorem dL_law_793 : decode cL_law 793 = .ok (.lcmp, 1) := by decide +kernel
theorem dL_law_794 : decode cL_law 794 = .ok (.ifCond .eq 5, 3) := by decide +kernel
theorem dL_law_797 : decode cL_law 797 = .ok (.iconst 0, 1) := by decide +kernel
theorem dL_law_798 : decode cL_law 798 = .ok (.ireturn, 1) := by decide +kernel
theorem dL_law_799 : decode cL_law 799 = .ok (.goto 28, 3) := by decide +kernel
theorem dL_law_802 : decode cL_law 802 = .ok (.aload_n 1, 1) := by decide +kernel
theorem dL_law_803 : decode cL_law 803 = .ok (.aload_n 0, 1) := by decide +kernel
theorem dL_law_804 : decode cL_law 804 = .ok (.iload 4, 2) := by decide +kernel
theorem dL_law_806 : decode cL_law 806 = .ok (.iconst 1, 1) := by decide +kernel
theorem dL_law_807 : decode cL_law 807 = .ok (.iadd, 1) := by decide +kernel
theorem dL_law_808 : decode cL_law 808 = .ok (.iaload, 1) := by decide +kernel
theorem dL_law_809 : decode cL_law 809 = .ok (.invokevirtual 125, 3) := by decide +kernel
theorem dL_law_812 : decode cL_law 812 = .ok (.aload_n 2, 1) := by decide +kernel
theorem dL_law_813 : decode cL_law 813 = .ok (.aload_n 0, 1) := by decide +kernel
theorem dL_law_814 : decode cL_law 814 = .ok (.iload 4, 2) := by decide +kernel
theorem dL_law_816 : decode cL_law 816 = .ok (.iconst 1, 1) := by decide +kernel
theorem dL_law_817 : decode cL_law 817 = .ok (.iadd, 1) := by decide +kernel
theorem dL_law_818 : decode cL_law 818 = .ok (.iaload, 1) := by decide +kernel
theorem dL_law_819 : decode cL_law 819 = .ok (.invokevirtual 128, 3) := by decide +kernel
theorem dL_law_822 : decode cL_law 822 = .ok (.if_icmp .eq 5, 3) := by decide +kernel
theorem dL_law_825 : decode cL_law 825 = .ok (.iconst 0, 1) := by decide +kernel
theorem dL_law_826 : decode cL_law 826 = .ok (.ireturn, 1) := by decide +kernel
theorem dL_law_827 : decode cL_law 827 = .ok (.iinc 4 4, 3) := by decide +kernel
theorem dL_law_830 : decode cL_law 830 = .ok (.goto (-807), 3) := by decide +kernel
theorem dL_law_833 : decode cL_law 833 = .ok (.iconst 1, 1) := by decide +kernel
theorem dL_law_834 : decode cL_law 834 = .ok (.ireturn, 1) := by decide +kernel

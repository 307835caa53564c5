/-! the class's world -/
abbrev cW (cI cJ : ClassId) (h0 h1 h2 a0 a1 a2 a3 h3 a4 h4 a5 : Nat) (kn op : Int32) (ow tr fu kg co pn : Int64) (si ri pa ma : Int32) (pcs : Nat → Int32) (sqa : Nat → Int64) (mvs los : Nat → Int32) (lsz : Int32) (lfs : Nat → Int32) (asz : Int32) (afs : Nat → Int32) : va_W :=
  [(h0, .inr (3, [.ref h1, .ref h2, .ref h3, .ref h4, .int kn, .int op])), (h1, .inr (2, [.ref h2, .long ow, .long tr, .long fu, .long kg, .long co, .long pn])), (h2, .inr (1, [.ref a0, .ref a1, .int si, .int ri, .int pa, .ref a2, .ref a3, .int ma])), (a0, .inl (cI, 64, .inl pcs)), (a1, .inl (cJ, 13, .inr (.inl sqa))), (a2, .inl (cI, 204, .inl mvs)), (a3, .inl (cI, 204, .inl los)), (h3, .inr (0, [.ref a4, .int lsz])), (a4, .inl (cI, 700, .inl lfs)), (h4, .inr (0, [.ref a5, .int asz])), (a5, .inl (cI, 700, .inl afs))]
def bt (x : Int64) (i : Nat) : Bool := x.toBitVec.getLsbD i
theorem bt_ext {x y : Int64} (h : ∀ i, i < 64 → bt x i = bt y i) : x = y := by
  have : x.toBitVec = y.toBitVec := BitVec.eq_of_getLsbD_eq (fun i hi => h i hi)
  exact Int64.toBitVec_inj.mp this
theorem bt_and (x y : Int64) (i : Nat) : bt (x &&& y) i = (bt x i && bt y i) := by unfold bt; rw [Int64.toBitVec_and, BitVec.getLsbD_and]
theorem bt_or (x y : Int64) (i : Nat) : bt (x ||| y) i = (bt x i || bt y i) := by unfold bt; rw [Int64.toBitVec_or, BitVec.getLsbD_or]
theorem bt_not {x : Int64} {i : Nat} (h : i < 64) : bt (x ^^^ (-1)) i = !bt x i := by
  unfold bt
  rw [Int64.toBitVec_xor, BitVec.getLsbD_xor, show (-1 : Int64).toBitVec = BitVec.allOnes 64 from rfl, BitVec.getLsbD_allOnes, decide_eq_true h]
  simp
theorem bt_0 (i : Nat) : bt 0 i = false := by unfold bt; rw [show (0 : Int64).toBitVec = 0#64 from rfl, BitVec.getLsbD_zero]
theorem bt_out {x : Int64} {i : Nat} (h : 64 ≤ i) : bt x i = false := by unfold bt; exact BitVec.getLsbD_of_ge _ _ h
theorem wb_c9 : ∀ k, k < 64 → (((nI k).toInt64 &&& 63).toBitVec.smod 64).toNat = k := by decide +kernel
theorem wb_d9 : ∀ k, k < 64 → (((nI k).toInt64.toUInt64 &&& Int64.toUInt64 63).toBitVec % 64).toNat = k := by decide +kernel
theorem bt_bsl {x : Int64} {k i : Nat} (hk : k < 64) (hi : i < 64) : bt (bsl x (nI k)) i = (decide (k ≤ i) && bt x (i - k)) := by
  unfold bt bsl
  rw [Int64.toBitVec_shiftLeft, BitVec.shiftLeft_eq', wb_c9 k hk, BitVec.getLsbD_shiftLeft, decide_eq_true hi, Bool.true_and]
  by_cases h : k ≤ i
  · rw [decide_eq_true h, decide_eq_false (by omega)]; simp
  · rw [decide_eq_false h, decide_eq_true (show i < k by omega)]; simp
theorem bt_bsr {x : Int64} {k i : Nat} (hk : k < 64) : bt (bsr x (nI k)) i = bt x (k + i) := by
  unfold bt bsr
  rw [UInt64.toBitVec_toInt64, UInt64.toBitVec_shiftRight, BitVec.ushiftRight_eq', wb_d9 k hk, BitVec.getLsbD_ushiftRight]
  rfl
theorem bt_1 {k i : Nat} (hk : k < 64) (hi : i < 64) : bt (bsl 1 (nI k)) i = decide (i = k) := by
  rw [bt_bsl hk hi]
  by_cases h : k ≤ i
  · rw [decide_eq_true h, Bool.true_and]
    unfold bt
    rw [show (1 : Int64).toBitVec = 1#64 from rfl, BitVec.getLsbD_one]
    rw [Bool.eq_iff_iff]
    simp only [Bool.and_eq_true, decide_eq_true_eq]
    omega
  · rw [decide_eq_false h, Bool.false_and, decide_eq_false (by omega)]
/-- the set of squares with a property -/
def sqN (f : Nat → Bool) : Nat → Int64
  | 0 => 0
  | n + 1 => if f n = true then sqN f n ||| bsl 1 (nI n) else sqN f n
def sqf (f : Nat → Bool) : Int64 := sqN f 64
theorem bt_sqN {f : Nat → Bool} {i : Nat} (hi : i < 64) : ∀ n, n ≤ 64 → bt (sqN f n) i = (decide (i < n) && f i)
  | 0, _ => by rw [decide_eq_false (Nat.not_lt_zero i)]; exact bt_0 i
  | n + 1, hn => by
    unfold sqN
    by_cases h : f n = true
    · rw [if_pos h, bt_or, bt_sqN hi n (by omega), bt_1 (by omega) hi]
      by_cases e : i = n
      · rw [decide_eq_true e, e, decide_eq_true (show n < n + 1 by omega), h]; simp
      · rw [decide_eq_false e, Bool.or_false, show decide (i < n + 1) = decide (i < n) from decide_eq_decide.mpr (by omega)]
    · rw [if_neg h, bt_sqN hi n (by omega)]
      by_cases e : i = n
      · rw [e, decide_eq_false (show ¬ n < n by omega), show f n = false by simpa using h]; simp
      · rw [show decide (i < n + 1) = decide (i < n) from decide_eq_decide.mpr (by omega)]
theorem bt_sqf {f : Nat → Bool} {i : Nat} (hi : i < 64) : bt (sqf f) i = f i := by unfold sqf; rw [bt_sqN hi 64 (Nat.le_refl _), decide_eq_true hi, Bool.true_and]
theorem sqf_ext {f : Nat → Bool} {x : Int64} (h : ∀ i, i < 64 → bt x i = f i) : x = sqf f := bt_ext (fun i hi => by rw [h i hi, bt_sqf hi])
/-- the squares of a piece -/
def sqs (bd : Nat → Nat) (k : Nat) : Int64 := sqf (fun q => decide (bd q = k))
/-- the arrays hold the board -/
def CP (pcs : Nat → Int32) (sqa : Nat → Int64) (bd : Nat → Nat) : Prop := (∀ q, q < 64 → pcs q = nI (bd q) ∧ bd q < 13) ∧ ∀ k, k < 13 → sqa k = sqs bd k
theorem CP_set {pcs : Nat → Int32} {sqa : Nat → Int64} {bd : Nat → Nat} {q v : Nat} (h : CP pcs sqa bd) (hq : q < 64) (hv : v < 13) : CP (upd pcs q (nI v)) (vp_updL (vp_updL sqa (bd q) (sqa (bd q) &&& (bsl 1 (nI q) ^^^ (-1)))) v (vp_updL sqa (bd q) (sqa (bd q) &&& (bsl 1 (nI q) ^^^ (-1))) v ||| bsl 1 (nI q))) (upN bd q v) := by
  constructor
  · intro j hj
    by_cases e : j = q
    · rw [e, pk_us, upN_eq]; exact ⟨rfl, hv⟩
    · rw [pk_un e, upN_ne e]; exact h.1 j hj
  · intro k hk
    refine sqf_ext (fun i hi => ?_)
    have hold : ∀ k, k < 13 → bt (sqa k) i = decide (bd i = k) := fun k hk => by rw [h.2 k hk]; exact bt_sqf hi
    have hb : bd q < 13 := (h.1 q hq).2
    have hmid : ∀ k, k < 13 → bt (vp_updL sqa (bd q) (sqa (bd q) &&& (bsl 1 (nI q) ^^^ (-1))) k) i = (decide (bd i = k) && !decide (i = q)) := by
      intro k hk
      by_cases e : k = bd q
      · rw [e, pk_uLs, bt_and, hold _ hb, bt_not hi, bt_1 hq hi]
      · rw [pk_uLn e, hold k hk]
        by_cases e2 : i = q
        · rw [e2, decide_eq_false (fun z => e z.symm)]; rfl
        · rw [decide_eq_false e2]; simp
    by_cases e : k = v
    · rw [e, pk_uLs, bt_or, hmid v hv, bt_1 hq hi]
      by_cases e2 : i = q
      · rw [e2, upN_eq]; simp
      · rw [upN_ne e2, decide_eq_false e2]; simp
    · rw [pk_uLn e, hmid k hk]
      by_cases e2 : i = q
      · rw [e2, upN_eq, decide_eq_false (show ¬ v = k from fun z => e z.symm)]; simp
      · rw [upN_ne e2, decide_eq_false e2]; simp
theorem isp_n {k : Nat} (h : k < 13) : isp (nI k) = true := decide_eq_true ⟨nI_pos (by omega), nI_ge (by omega) (by decide)⟩
theorem isq_t9 {k : Nat} (h : k < 64) : isq (nI k) = true := by rw [isq_n (by omega)]; exact decide_eq_true h
def sosN (bd : Nat → Nat) (w : Nat) : Nat → Int64
  | 0 => 0
  | n + 1 => sosN bd w n ||| sqs bd (6 * w + (n + 1))
/-- all that a side attacks -/
def ats0 (bd : Nat → Nat) (w : Nat) (gone : Int64) : Int64 := (opw (sqs bd (6 * w + 1) &&& (gone ^^^ (-1))) w ||| okn (sqs bd (6 * w + 2))) ||| okg (sqs bd (6 * w + 6))
def strS (bd : Nat → Nat) (w : Nat) : Int64 := sqs bd (6 * w + 4) ||| sqs bd (6 * w + 5)
def slaS (bd : Nat → Nat) (w : Nat) : Int64 := sqs bd (6 * w + 3) ||| sqs bd (6 * w + 5)
def atsN (bd : Nat → Nat) (w : Nat) (full gone : Int64) : Nat → Int64
  | 0 => ats0 bd w gone
  | n + 1 => atsN bd w full gone n ||| ray (if n < 4 then strS bd w else slaS bd w) full n
def ats (bd : Nat → Nat) (w : Nat) (full gone : Int64) : Int64 := atsN bd w full gone 8
def kia (bd : Nat → Nat) (w : Nat) : Bool := !decide (ats bd (1 - w) (sqs bd 0 ^^^ (-1)) 0 &&& sqs bd (6 * w + 6) = 0)
def cbp (bd : Nat → Nat) (sd : Nat) : Bool := decide (bcE (sqs bd 6) = nI 1) && (decide (bcE (sqs bd 12) = nI 1) && !kia bd (1 - sd))
theorem nl_X2_50 {s : State} (h : EN s) : va_Nw (.methodLinkNest RX2 50 yX4_isSquare RX4) s := h (RX2, 50, yX4_isSquare) (List.mem_of_getElem? (i := 0) rfl)
theorem nl_X2_54 {s : State} (h : EN s) : va_Nw (.methodLinkNest RX2 54 yX4_isPiece RX4) s := h (RX2, 54, yX4_isPiece) (List.mem_of_getElem? (i := 1) rfl)
theorem nl_X2_57 {s : State} (h : EN s) : va_Nw (.methodLinkNest RX2 57 yX4_bit RX4) s := h (RX2, 57, yX4_bit) (List.mem_of_getElem? (i := 2) rfl)
theorem nl_X2_94 {s : State} (h : EN s) : va_Nw (.methodLinkNest RX2 94 yX4_fromOf RX4) s := h (RX2, 94, yX4_fromOf) (List.mem_of_getElem? (i := 3) rfl)
theorem nl_X2_98 {s : State} (h : EN s) : va_Nw (.methodLinkNest RX2 98 yX4_toOf RX4) s := h (RX2, 98, yX4_toOf) (List.mem_of_getElem? (i := 4) rfl)
theorem nl_X2_112 {s : State} (h : EN s) : va_Nw (.methodLinkNest RX2 112 yX4_becomesOf RX4) s := h (RX2, 112, yX4_becomesOf) (List.mem_of_getElem? (i := 5) rfl)
theorem nl_X2_127 {s : State} (h : EN s) : va_Nw (.methodLinkNest RX2 127 yX4_typeOf RX4) s := h (RX2, 127, yX4_typeOf) (List.mem_of_getElem? (i := 6) rfl)
theorem nl_X3_46 {s : State} (h : EN s) : va_Nw (.methodLinkNest RX3 46 yX4_squareOf RX4) s := h (RX3, 46, yX4_squareOf) (List.mem_of_getElem? (i := 7) rfl)
theorem nl_X3_77 {s : State} (h : EN s) : va_Nw (.methodLinkNest RX3 77 yX4_typeOf RX4) s := h (RX3, 77, yX4_typeOf) (List.mem_of_getElem? (i := 8) rfl)
theorem nl_X3_109 {s : State} (h : EN s) : va_Nw (.methodLinkNest RX3 109 yX4_bit RX4) s := h (RX3, 109, yX4_bit) (List.mem_of_getElem? (i := 9) rfl)

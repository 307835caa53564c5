/-! the class: sets of squares -/
section
variable {p : Program} {l : Launch} {e : Env} {R : Room} {s : State} {m : MethodId} {args : Array Value} {below : List Frame} {meth : Method} {c : Code} {H : Heap} {locs : List Loc} {cells slots : Nat} {Q : State → Prop} {cc : ByteArray} {pc : Nat} {ls : Array Slot} {rest : List Value}
theorem lg_cmp0 {x y : Int64} : lg_cmp x y = 0 ↔ x = y := by
  unfold lg_cmp
  by_cases h : y < x
  · simp only [h, if_true]
    exact ⟨fun z => absurd z (by decide), fun z => by subst z; exact absurd h (Int64.lt_irrefl)⟩
  · by_cases h2 : x = y
    · subst h2
      simp
    · simp only [h, h2, if_false, iff_false]
      decide
theorem lc_if_eq (hx : p.tables.exec = Jvm.exec) (hb : c.code = cc) {x y : Int64} {off : Int} {tgt : Nat} (hdg : decode cc pc = .ok (.ifCond .eq off, 3)) (ht : (pc : Int) + off = (tgt : Int)) (kt : x = y → W p l e R s m args below meth c H locs cells slots Q (F0 m tgt ls rest)) (kf : ¬ x = y → W p l e R s m args below meth c H locs cells slots Q (F0 m (pc + 3) ls rest)) : W p l e R s m args below meth c H locs cells slots Q (F0 m pc ls (.int (lg_cmp x y) :: rest)) := lv_if_eq hx hb hdg ht (fun h => kt (lg_cmp0.mp h)) (fun h => kf (fun z => h (lg_cmp0.mpr z)))
theorem lc_if_ne (hx : p.tables.exec = Jvm.exec) (hb : c.code = cc) {x y : Int64} {off : Int} {tgt : Nat} (hdg : decode cc pc = .ok (.ifCond .ne off, 3)) (ht : (pc : Int) + off = (tgt : Int)) (kt : ¬ x = y → W p l e R s m args below meth c H locs cells slots Q (F0 m tgt ls rest)) (kf : x = y → W p l e R s m args below meth c H locs cells slots Q (F0 m (pc + 3) ls rest)) : W p l e R s m args below meth c H locs cells slots Q (F0 m pc ls (.int (lg_cmp x y) :: rest)) := lv_if_ne hx hb hdg ht (fun h => kt (fun z => h (lg_cmp0.mpr z))) (fun h => kf (lg_cmp0.mp h))
end
def mA : Int64 := -72340172838076674
def mH : Int64 := 9187201950435737471
def mB : Int64 := -144680345676153347
def mG : Int64 := -4629771061636907073
def shW (w : Nat) (x : Int64) : Int64 := if stL.getD w 0 ≤ 0 then bsr x (-(stL.getD w 0)) else bsl x (stL.getD w 0)
/-- a ray's front and what it has seen, behind n steps -/
def rayS (x full : Int64) (w : Nat) : Nat → Int64 × Int64
  | 0 => (x, 0)
  | n + 1 => (shW w ((rayS x full w n).1 &&& inL.getD w 0) &&& (full ^^^ (-1)), (rayS x full w n).2 ||| shW w ((rayS x full w n).1 &&& inL.getD w 0))
def ray (x full : Int64) (w : Nat) : Int64 := (rayS x full w 7).2
theorem shW_0 : ∀ w, w < 8 → shW w 0 = 0 := by decide +kernel
theorem rayS_0 {x full : Int64} {w i : Nat} (hw : w < 8) (h : (rayS x full w i).1 = 0) : ∀ j, (rayS x full w (i + j)).1 = 0 ∧ (rayS x full w (i + j)).2 = (rayS x full w i).2 := by
  intro j
  induction j with
  | zero => exact ⟨h, rfl⟩
  | succ j ih =>
    rw [← Nat.add_assoc]
    show shW w ((rayS x full w (i + j)).1 &&& inL.getD w 0) &&& (full ^^^ (-1)) = 0 ∧ (rayS x full w (i + j)).2 ||| shW w ((rayS x full w (i + j)).1 &&& inL.getD w 0) = _
    rw [ih.1, Int64.zero_and, shW_0 w hw, Int64.zero_and, ih.2, Int64.or_zero]
    exact ⟨rfl, rfl⟩
def slN (x full : Int64) (a : Nat) : Nat → Int64
  | 0 => 0
  | n + 1 => slN x full a n ||| ray x full (a + n)
def sld (k : Nat) (x full : Int64) : Int64 := slN x full (if k = 3 then 4 else 0) ((if k = 4 then 4 else 8) - (if k = 3 then 4 else 0))
def opw (x : Int64) (w : Nat) : Int64 := if w = 0 then bsl (x &&& mA) (nI 7) ||| bsl (x &&& mH) (nI 9) else bsr (x &&& mA) (nI 9) ||| bsr (x &&& mH) (nI 7)
def okn (x : Int64) : Int64 := ((bsl (bsr (x &&& mA) (nI 1) ||| bsl (x &&& mH) (nI 1)) (nI 16) ||| bsr (bsr (x &&& mA) (nI 1) ||| bsl (x &&& mH) (nI 1)) (nI 16)) ||| bsl (bsr ((x &&& mA) &&& mB) (nI 2) ||| bsl ((x &&& mG) &&& mH) (nI 2)) (nI 8)) ||| bsr (bsr ((x &&& mA) &&& mB) (nI 2) ||| bsl ((x &&& mG) &&& mH) (nI 2)) (nI 8)
def okg (x : Int64) : Int64 := ((bsr (x &&& mA) (nI 1) ||| bsl (x &&& mH) (nI 1)) ||| bsl (x ||| (bsr (x &&& mA) (nI 1) ||| bsl (x &&& mH) (nI 1))) (nI 8)) ||| bsr (x ||| (bsr (x &&& mA) (nI 1) ||| bsl (x &&& mH) (nI 1))) (nI 8)
def bc1 (x : Int64) : Int64 := x - (bsr x (nI 1) &&& 6148914691236517205)
def bc2 (x : Int64) : Int64 := (x &&& 3689348814741910323) + (bsr x (nI 2) &&& 3689348814741910323)
def bc3 (x : Int64) : Int64 := (x + bsr x (nI 4)) &&& 1085102592571150095
def bc4 (x : Int64) : Int64 := x + bsr x (nI 8)
def bc5 (x : Int64) : Int64 := x + bsr x (nI 16)
def bc6 (x : Int64) : Int64 := x + bsr x (nI 32)
def bcE (x : Int64) : Int32 := (bc6 (bc5 (bc4 (bc3 (bc2 (bc1 x)))))).toInt32 &&& nI 127
def isp (x : Int32) : Bool := decide (¬ x < 0 ∧ ¬ nI 13 ≤ x)

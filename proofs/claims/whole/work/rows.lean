section
-- ===== PART A: goes FIRST, ahead of the names: the tables' words, and 'selects' of the private methods out of them =====
/-- a private method of a class that the tables say can be made, by its rows of tables_1 -/
def lw_okq (q : MethodName × Nat) : Prop := (q.1.cls ≠ "java/lang/invoke/MethodHandle" ∧ q.1.cls ≠ "java/lang/invoke/VarHandle") ∧ Cond.instantiable q.1.cls q.2 ∈ tables_1 ∧ Cond.privateMethod q.1 ∈ tables_1 ∧ Cond.instanceMethod q.1 ∈ tables_1
theorem lw_p0 : lw_okq (⟨"MoveList", "setUpAnew", "()V"⟩, 6) := ⟨⟨by decide +kernel, by decide +kernel⟩, List.mem_of_getElem? (i := 16) (by decide +kernel), List.mem_of_getElem? (i := 149) (by decide +kernel), List.mem_of_getElem? (i := 150) (by decide +kernel)⟩
theorem lw_p1 : lw_okq (⟨"MoveList$Position", "carry", "(II)V"⟩, 8) := ⟨⟨by decide +kernel, by decide +kernel⟩, List.mem_of_getElem? (i := 30) (by decide +kernel), List.mem_of_getElem? (i := 225) (by decide +kernel), List.mem_of_getElem? (i := 226) (by decide +kernel)⟩
theorem lw_p2 : lw_okq (⟨"MoveList$Position", "isCastling", "(II)Z"⟩, 8) := ⟨⟨by decide +kernel, by decide +kernel⟩, List.mem_of_getElem? (i := 30) (by decide +kernel), List.mem_of_getElem? (i := 236) (by decide +kernel), List.mem_of_getElem? (i := 237) (by decide +kernel)⟩
theorem lw_p3 : lw_okq (⟨"java/lang/Throwable", "fillInStackTrace", "(I)Ljava/lang/Throwable;"⟩, 6) := ⟨⟨by decide +kernel, by decide +kernel⟩, List.mem_of_getElem? (i := 304) (by decide +kernel), List.mem_of_getElem? (i := 302) (by decide +kernel), List.mem_of_getElem? (i := 303) (by decide +kernel)⟩
theorem lw_p4 : lw_okq (⟨"MoveList", "needList", "()V"⟩, 6) := ⟨⟨by decide +kernel, by decide +kernel⟩, List.mem_of_getElem? (i := 16) (by decide +kernel), List.mem_of_getElem? (i := 370) (by decide +kernel), List.mem_of_getElem? (i := 371) (by decide +kernel)⟩
theorem lw_p5 : lw_okq (⟨"MoveList$Sight", "survey", "()V"⟩, 7) := ⟨⟨by decide +kernel, by decide +kernel⟩, List.mem_of_getElem? (i := 24) (by decide +kernel), List.mem_of_getElem? (i := 378) (by decide +kernel), List.mem_of_getElem? (i := 379) (by decide +kernel)⟩
theorem lw_p6 : lw_okq (⟨"MoveList$Sight", "judgeLine", "(J)V"⟩, 7) := ⟨⟨by decide +kernel, by decide +kernel⟩, List.mem_of_getElem? (i := 24) (by decide +kernel), List.mem_of_getElem? (i := 389) (by decide +kernel), List.mem_of_getElem? (i := 390) (by decide +kernel)⟩
theorem lw_p7 : lw_okq (⟨"MoveList$Sight", "targetsOf", "(I)J"⟩, 7) := ⟨⟨by decide +kernel, by decide +kernel⟩, List.mem_of_getElem? (i := 24) (by decide +kernel), List.mem_of_getElem? (i := 400) (by decide +kernel), List.mem_of_getElem? (i := 401) (by decide +kernel)⟩
theorem lw_p8 : lw_okq (⟨"MoveList$Sight", "pawnWays", "(J)J"⟩, 7) := ⟨⟨by decide +kernel, by decide +kernel⟩, List.mem_of_getElem? (i := 24) (by decide +kernel), List.mem_of_getElem? (i := 407) (by decide +kernel), List.mem_of_getElem? (i := 408) (by decide +kernel)⟩
theorem lw_p9 : lw_okq (⟨"MoveList$Sight", "kingTargets", "()J"⟩, 7) := ⟨⟨by decide +kernel, by decide +kernel⟩, List.mem_of_getElem? (i := 24) (by decide +kernel), List.mem_of_getElem? (i := 413) (by decide +kernel), List.mem_of_getElem? (i := 414) (by decide +kernel)⟩
theorem lw_p10 : lw_okq (⟨"MoveList$Sight", "castlingTargets", "()J"⟩, 7) := ⟨⟨by decide +kernel, by decide +kernel⟩, List.mem_of_getElem? (i := 24) (by decide +kernel), List.mem_of_getElem? (i := 418) (by decide +kernel), List.mem_of_getElem? (i := 419) (by decide +kernel)⟩
theorem lw_p11 : lw_okq (⟨"MoveList$Sight", "pinLine", "(J)J"⟩, 7) := ⟨⟨by decide +kernel, by decide +kernel⟩, List.mem_of_getElem? (i := 24) (by decide +kernel), List.mem_of_getElem? (i := 431) (by decide +kernel), List.mem_of_getElem? (i := 432) (by decide +kernel)⟩
theorem lw_p12 : lw_okq (⟨"MoveList$Sight", "passingTarget", "(J)J"⟩, 7) := ⟨⟨by decide +kernel, by decide +kernel⟩, List.mem_of_getElem? (i := 24) (by decide +kernel), List.mem_of_getElem? (i := 435) (by decide +kernel), List.mem_of_getElem? (i := 436) (by decide +kernel)⟩
theorem lw_p13 : lw_okq (⟨"MoveList$Sight", "addMoves", "(LMoveList$Moves;IJ)V"⟩, 7) := ⟨⟨by decide +kernel, by decide +kernel⟩, List.mem_of_getElem? (i := 24) (by decide +kernel), List.mem_of_getElem? (i := 439) (by decide +kernel), List.mem_of_getElem? (i := 440) (by decide +kernel)⟩
theorem lw_p14 : lw_okq (⟨"MoveList$Sight", "isPawn", "(I)Z"⟩, 7) := ⟨⟨by decide +kernel, by decide +kernel⟩, List.mem_of_getElem? (i := 24) (by decide +kernel), List.mem_of_getElem? (i := 443) (by decide +kernel), List.mem_of_getElem? (i := 444) (by decide +kernel)⟩
theorem lw_p15 : lw_okq (⟨"MoveList$Position", "takenSquare", "(II)I"⟩, 8) := ⟨⟨by decide +kernel, by decide +kernel⟩, List.mem_of_getElem? (i := 30) (by decide +kernel), List.mem_of_getElem? (i := 513) (by decide +kernel), List.mem_of_getElem? (i := 514) (by decide +kernel)⟩
def lw_privs_1 : List (MethodName × Nat) := [(⟨"MoveList", "setUpAnew", "()V"⟩, 6), (⟨"MoveList$Position", "carry", "(II)V"⟩, 8), (⟨"MoveList$Position", "isCastling", "(II)Z"⟩, 8), (⟨"java/lang/Throwable", "fillInStackTrace", "(I)Ljava/lang/Throwable;"⟩, 6), (⟨"MoveList", "needList", "()V"⟩, 6), (⟨"MoveList$Sight", "survey", "()V"⟩, 7), (⟨"MoveList$Sight", "judgeLine", "(J)V"⟩, 7), (⟨"MoveList$Sight", "targetsOf", "(I)J"⟩, 7), (⟨"MoveList$Sight", "pawnWays", "(J)J"⟩, 7), (⟨"MoveList$Sight", "kingTargets", "()J"⟩, 7), (⟨"MoveList$Sight", "castlingTargets", "()J"⟩, 7), (⟨"MoveList$Sight", "pinLine", "(J)J"⟩, 7), (⟨"MoveList$Sight", "passingTarget", "(J)J"⟩, 7), (⟨"MoveList$Sight", "addMoves", "(LMoveList$Moves;IJ)V"⟩, 7), (⟨"MoveList$Sight", "isPawn", "(I)Z"⟩, 7), (⟨"MoveList$Position", "takenSquare", "(II)I"⟩, 8)]
theorem lw_r1 : ∀ q ∈ lw_privs_1, lw_okq q := List.forall_mem_cons.mpr ⟨lw_p0, List.forall_mem_cons.mpr ⟨lw_p1, List.forall_mem_cons.mpr ⟨lw_p2, List.forall_mem_cons.mpr ⟨lw_p3, List.forall_mem_cons.mpr ⟨lw_p4, List.forall_mem_cons.mpr ⟨lw_p5, List.forall_mem_cons.mpr ⟨lw_p6, List.forall_mem_cons.mpr ⟨lw_p7, List.forall_mem_cons.mpr ⟨lw_p8, List.forall_mem_cons.mpr ⟨lw_p9, List.forall_mem_cons.mpr ⟨lw_p10, List.forall_mem_cons.mpr ⟨lw_p11, List.forall_mem_cons.mpr ⟨lw_p12, List.forall_mem_cons.mpr ⟨lw_p13, List.forall_mem_cons.mpr ⟨lw_p14, List.forall_mem_cons.mpr ⟨lw_p15, fun _ h => absurd h List.not_mem_nil⟩⟩⟩⟩⟩⟩⟩⟩⟩⟩⟩⟩⟩⟩⟩⟩
theorem lw_p16 : lw_okq (⟨"MoveList$Position", "remember", "(II)V"⟩, 8) := ⟨⟨by decide +kernel, by decide +kernel⟩, List.mem_of_getElem? (i := 30) (by decide +kernel), List.mem_of_getElem? (i := 521) (by decide +kernel), List.mem_of_getElem? (i := 522) (by decide +kernel)⟩
theorem lw_p17 : lw_okq (⟨"MoveList$Position", "passedSquare", "(III)I"⟩, 8) := ⟨⟨by decide +kernel, by decide +kernel⟩, List.mem_of_getElem? (i := 30) (by decide +kernel), List.mem_of_getElem? (i := 528) (by decide +kernel), List.mem_of_getElem? (i := 529) (by decide +kernel)⟩
theorem lw_p18 : lw_okq (⟨"MoveList", "countBehind", "(LMoveList$Moves;I)J"⟩, 6) := ⟨⟨by decide +kernel, by decide +kernel⟩, List.mem_of_getElem? (i := 16) (by decide +kernel), List.mem_of_getElem? (i := 545) (by decide +kernel), List.mem_of_getElem? (i := 546) (by decide +kernel)⟩
theorem lw_p19 : lw_okq (⟨"MoveListModel", "isPlayable", "()Z"⟩, 7) := ⟨⟨by decide +kernel, by decide +kernel⟩, List.mem_of_getElem? (i := 591) (by decide +kernel), List.mem_of_getElem? (i := 650) (by decide +kernel), List.mem_of_getElem? (i := 651) (by decide +kernel)⟩
theorem lw_p20 : lw_okq (⟨"MoveListModel", "kingOf", "(II)I"⟩, 7) := ⟨⟨by decide +kernel, by decide +kernel⟩, List.mem_of_getElem? (i := 591) (by decide +kernel), List.mem_of_getElem? (i := 654) (by decide +kernel), List.mem_of_getElem? (i := 655) (by decide +kernel)⟩
theorem lw_p21 : lw_okq (⟨"MoveListModel", "isChecked", "(II)Z"⟩, 7) := ⟨⟨by decide +kernel, by decide +kernel⟩, List.mem_of_getElem? (i := 591) (by decide +kernel), List.mem_of_getElem? (i := 658) (by decide +kernel), List.mem_of_getElem? (i := 659) (by decide +kernel)⟩
theorem lw_p22 : lw_okq (⟨"MoveListModel", "isAttacked", "(III)Z"⟩, 7) := ⟨⟨by decide +kernel, by decide +kernel⟩, List.mem_of_getElem? (i := 591) (by decide +kernel), List.mem_of_getElem? (i := 662) (by decide +kernel), List.mem_of_getElem? (i := 663) (by decide +kernel)⟩
theorem lw_p23 : lw_okq (⟨"MoveListModel", "attacks", "(III)Z"⟩, 7) := ⟨⟨by decide +kernel, by decide +kernel⟩, List.mem_of_getElem? (i := 591) (by decide +kernel), List.mem_of_getElem? (i := 669) (by decide +kernel), List.mem_of_getElem? (i := 670) (by decide +kernel)⟩
theorem lw_p24 : lw_okq (⟨"MoveListModel", "isFree", "(III)Z"⟩, 7) := ⟨⟨by decide +kernel, by decide +kernel⟩, List.mem_of_getElem? (i := 591) (by decide +kernel), List.mem_of_getElem? (i := 679) (by decide +kernel), List.mem_of_getElem? (i := 680) (by decide +kernel)⟩
theorem lw_p25 : lw_okq (⟨"MoveListModel", "need", "()I"⟩, 7) := ⟨⟨by decide +kernel, by decide +kernel⟩, List.mem_of_getElem? (i := 591) (by decide +kernel), List.mem_of_getElem? (i := 687) (by decide +kernel), List.mem_of_getElem? (i := 688) (by decide +kernel)⟩
theorem lw_p26 : lw_okq (⟨"MoveListModel", "listed", "(II)I"⟩, 7) := ⟨⟨by decide +kernel, by decide +kernel⟩, List.mem_of_getElem? (i := 591) (by decide +kernel), List.mem_of_getElem? (i := 691) (by decide +kernel), List.mem_of_getElem? (i := 692) (by decide +kernel)⟩
theorem lw_p27 : lw_okq (⟨"MoveListModel", "isLegal", "(II)Z"⟩, 7) := ⟨⟨by decide +kernel, by decide +kernel⟩, List.mem_of_getElem? (i := 591) (by decide +kernel), List.mem_of_getElem? (i := 695) (by decide +kernel), List.mem_of_getElem? (i := 696) (by decide +kernel)⟩
theorem lw_p28 : lw_okq (⟨"MoveListModel", "goes", "(III)Z"⟩, 7) := ⟨⟨by decide +kernel, by decide +kernel⟩, List.mem_of_getElem? (i := 591) (by decide +kernel), List.mem_of_getElem? (i := 699) (by decide +kernel), List.mem_of_getElem? (i := 700) (by decide +kernel)⟩
theorem lw_p29 : lw_okq (⟨"MoveListModel", "pawnGoes", "(III)Z"⟩, 7) := ⟨⟨by decide +kernel, by decide +kernel⟩, List.mem_of_getElem? (i := 591) (by decide +kernel), List.mem_of_getElem? (i := 703) (by decide +kernel), List.mem_of_getElem? (i := 704) (by decide +kernel)⟩
theorem lw_p30 : lw_okq (⟨"MoveListModel", "takesPassing", "(III)Z"⟩, 7) := ⟨⟨by decide +kernel, by decide +kernel⟩, List.mem_of_getElem? (i := 591) (by decide +kernel), List.mem_of_getElem? (i := 707) (by decide +kernel), List.mem_of_getElem? (i := 708) (by decide +kernel)⟩
theorem lw_p31 : lw_okq (⟨"MoveListModel", "castles", "(III)Z"⟩, 7) := ⟨⟨by decide +kernel, by decide +kernel⟩, List.mem_of_getElem? (i := 591) (by decide +kernel), List.mem_of_getElem? (i := 711) (by decide +kernel), List.mem_of_getElem? (i := 712) (by decide +kernel)⟩
def lw_privs_2 : List (MethodName × Nat) := [(⟨"MoveList$Position", "remember", "(II)V"⟩, 8), (⟨"MoveList$Position", "passedSquare", "(III)I"⟩, 8), (⟨"MoveList", "countBehind", "(LMoveList$Moves;I)J"⟩, 6), (⟨"MoveListModel", "isPlayable", "()Z"⟩, 7), (⟨"MoveListModel", "kingOf", "(II)I"⟩, 7), (⟨"MoveListModel", "isChecked", "(II)Z"⟩, 7), (⟨"MoveListModel", "isAttacked", "(III)Z"⟩, 7), (⟨"MoveListModel", "attacks", "(III)Z"⟩, 7), (⟨"MoveListModel", "isFree", "(III)Z"⟩, 7), (⟨"MoveListModel", "need", "()I"⟩, 7), (⟨"MoveListModel", "listed", "(II)I"⟩, 7), (⟨"MoveListModel", "isLegal", "(II)Z"⟩, 7), (⟨"MoveListModel", "goes", "(III)Z"⟩, 7), (⟨"MoveListModel", "pawnGoes", "(III)Z"⟩, 7), (⟨"MoveListModel", "takesPassing", "(III)Z"⟩, 7), (⟨"MoveListModel", "castles", "(III)Z"⟩, 7)]
theorem lw_r2 : ∀ q ∈ lw_privs_2, lw_okq q := List.forall_mem_cons.mpr ⟨lw_p16, List.forall_mem_cons.mpr ⟨lw_p17, List.forall_mem_cons.mpr ⟨lw_p18, List.forall_mem_cons.mpr ⟨lw_p19, List.forall_mem_cons.mpr ⟨lw_p20, List.forall_mem_cons.mpr ⟨lw_p21, List.forall_mem_cons.mpr ⟨lw_p22, List.forall_mem_cons.mpr ⟨lw_p23, List.forall_mem_cons.mpr ⟨lw_p24, List.forall_mem_cons.mpr ⟨lw_p25, List.forall_mem_cons.mpr ⟨lw_p26, List.forall_mem_cons.mpr ⟨lw_p27, List.forall_mem_cons.mpr ⟨lw_p28, List.forall_mem_cons.mpr ⟨lw_p29, List.forall_mem_cons.mpr ⟨lw_p30, List.forall_mem_cons.mpr ⟨lw_p31, fun _ h => absurd h List.not_mem_nil⟩⟩⟩⟩⟩⟩⟩⟩⟩⟩⟩⟩⟩⟩⟩⟩
theorem lw_p32 : lw_okq (⟨"MoveListModel", "behind", "(III)V"⟩, 7) := ⟨⟨by decide +kernel, by decide +kernel⟩, List.mem_of_getElem? (i := 591) (by decide +kernel), List.mem_of_getElem? (i := 715) (by decide +kernel), List.mem_of_getElem? (i := 716) (by decide +kernel)⟩
theorem lw_p33 : lw_okq (⟨"MoveListModel", "placeOf", "(I)I"⟩, 7) := ⟨⟨by decide +kernel, by decide +kernel⟩, List.mem_of_getElem? (i := 591) (by decide +kernel), List.mem_of_getElem? (i := 730) (by decide +kernel), List.mem_of_getElem? (i := 731) (by decide +kernel)⟩
theorem lw_p34 : lw_okq (⟨"MoveListModel", "listAt", "(II)I"⟩, 7) := ⟨⟨by decide +kernel, by decide +kernel⟩, List.mem_of_getElem? (i := 591) (by decide +kernel), List.mem_of_getElem? (i := 746) (by decide +kernel), List.mem_of_getElem? (i := 747) (by decide +kernel)⟩
theorem lw_p35 : lw_okq (⟨"MoveListModel", "deeper", "(I)J"⟩, 7) := ⟨⟨by decide +kernel, by decide +kernel⟩, List.mem_of_getElem? (i := 591) (by decide +kernel), List.mem_of_getElem? (i := 750) (by decide +kernel), List.mem_of_getElem? (i := 751) (by decide +kernel)⟩
def lw_privs_3 : List (MethodName × Nat) := [(⟨"MoveListModel", "behind", "(III)V"⟩, 7), (⟨"MoveListModel", "placeOf", "(I)I"⟩, 7), (⟨"MoveListModel", "listAt", "(II)I"⟩, 7), (⟨"MoveListModel", "deeper", "(I)J"⟩, 7)]
theorem lw_r3 : ∀ q ∈ lw_privs_3, lw_okq q := List.forall_mem_cons.mpr ⟨lw_p32, List.forall_mem_cons.mpr ⟨lw_p33, List.forall_mem_cons.mpr ⟨lw_p34, List.forall_mem_cons.mpr ⟨lw_p35, fun _ h => absurd h List.not_mem_nil⟩⟩⟩⟩
def lw_privs : List (MethodName × Nat) := lw_privs_1 ++ (lw_privs_2 ++ (lw_privs_3))
def lw_tbl : List Cond := k2_sels lw_privs ++ tables_1
theorem lw_privs_ok : ∀ q ∈ lw_privs, lw_okq q := by
  show ∀ q ∈ lw_privs_1 ++ (lw_privs_2 ++ (lw_privs_3)), lw_okq q
  exact List.forall_mem_append.mpr ⟨lw_r1, List.forall_mem_append.mpr ⟨lw_r2, lw_r3⟩⟩
/-! ===== BEGIN words of one list among another's, by their places ===== -/
theorem goodIn_r {big : List Cond} (ws : List Cond) (ps : List Nat) (hp : ws = ps.filterMap (fun i => big[i]?)) (h : ws.all goodWord = true) : GoodIn big ws := by
  intro w hw
  have h1 := List.all_eq_true.mp h w hw
  rw [hp] at hw
  obtain ⟨i, -, hi⟩ := List.mem_filterMap.mp hw
  have hm : w ∈ big := by first | exact List.mem_of_getElem? hi | exact List.getElem?_mem hi
  exact ⟨hm, good_of_word h1⟩
theorem goodIn_app {big a b : List Cond} (ha : GoodIn big a) (hb : GoodIn big b) : GoodIn big (a ++ b) := fun w h => (List.mem_append.mp h).elim (ha w) (hb w)
theorem goodIn_ca {big a b : List Cond} {c : Cond} (ha : GoodIn big (c :: a)) (hb : GoodIn big b) : GoodIn big (c :: (a ++ b)) := fun w h => (List.mem_cons.mp h).elim (fun e => ha w (List.mem_cons.mpr (Or.inl e))) (fun h => (List.mem_append.mp h).elim (fun h => ha w (List.mem_cons.mpr (Or.inr h))) (hb w))
theorem goodIn_sub {big ws : List Cond} (hm : ∀ w ∈ ws, w ∈ big) (h : ws.all goodWord = true) : GoodIn big ws := fun w hw => ⟨hm w hw, good_of_word (List.all_eq_true.mp h w hw)⟩
/-! ===== END ===== -/

/-! ===== BEGIN exceptions that leave a method, and their catching by the caller (launches without stack traces) ===== -/
section VXA
/-! The laws vx_back, vx_callV, vx_callS, vx_callSW, vx_throw0, vx_throwS follow proofs of the library, with one case more: JvmDerived/Free/Laws.lean (Back.of_free), Shelf42/LK1.lean (callV, callS), Shelf/KitTraced.lean (throwNew0V, throwNewS). -/
/-- where a method has thrown q: the class by its name, the cell, what was written, the world -/
def vx_T (XC : String → State → State → Prop) (st : State) (q : Addr) (t : State) (mc ms : Nat) (free : Addr → Prop) : Prop :=
  ∃ (E : String) (ce : Cell) (L : List Loc), XC E st t ∧ t.heap[q]? = some ce ∧ ce.vm = .none ∧ st.vm.findClass E = some ce.cls ∧ st.WarmedH t.vm ∧ st.sameButNew ({ t with vm := st.vm } : State) L mc ms ∧ ∀ z ∈ L, free z.base
def vx_Q (Qc : Array Value → State → Outcome → State → Prop) (XC : String → State → State → Prop) (mc ms : Nat) (free : Addr → Prop) : Array Value → State → Outcome → State → Prop := fun a st o t =>
  (Qc a st o t ∧ ∃ L, FrameEnd st o t L mc ms ∧ ∀ q ∈ L, free q.base) ∨ ∃ q, o = .threw q ∧ vx_T XC st q t mc ms free
/-- a callee that returns or throws -/
def vx_Met (l : Launch) (y : MethodName) (ws : List Cond) (rm : Room) (Pc : Array Value → State → Prop) (Qc : Array Value → State → Outcome → State → Prop) (XC : String → State → State → Prop) (mc ms : Nat) (free : Addr → Prop) : Prop :=
  MetFree l y (headSpec ws rm) Pc (fun _ _ _ _ _ => True) (vx_Q Qc XC mc ms free)
def vx_Post (XC : String → State → State → Prop) (mc ms : Nat) (free : Addr → Prop) : Pt → Array Value → Addr → Pt → Prop := fun A a q B =>
  ∃ (g : JFrame) (mk : MethodId) (t : State) (L : List Loc) (E : String) (ce : Cell), B.U.heap = t.heap ∧ B.U.vm = t.vm ∧ XC E (A.U.calling g mk a) t ∧ t.heap[q]? = some ce ∧ ce.vm = .none ∧ A.U.vm.findClass E = some ce.cls ∧ B.locs = A.locs ++ L ∧ (∀ z ∈ L, free z.base) ∧ B.cells = A.cells + mc ∧ B.slots = A.slots + ms
def vx_Back (l : Launch) (R : Room) (p : Program) (e : Env) (below : List Frame) (s : State) (sargs : Array Value) (y : MethodName) (len W9 : Nat)
    (Pre : Pt → Array Value → Prop) (Post : Pt → Array Value → Option Value → Pt → Prop) (PostX : Pt → Array Value → Addr → Pt → Prop) : Prop :=
  ∀ (m : MethodId) (meth : Method) (c : Code) (A : Pt) (g : JFrame) (ig : Instr) (mk : MethodId) (a : Array Value),
    Stand p l e R s m sargs below meth c A.U A.locs A.cells A.slots → g.method = m → g.locals.size = c.maxLocals → decode c.code g.pc = .ok (ig, len) →
    2 * g.monitorRoom + (g.stack.map fun v => v.category).sum ≤ W9 → A.U.methodNamed? y = some mk → Pre A a →
    (∃ (v : Option Value) (B : Pt), Stand p l e R s m sargs below meth c B.U B.locs B.cells B.slots ∧ Post A a v B ∧
      Steps p.tables e below (doInvoke e (A.U.setTop g) [] mk a).1 (B.U.setTop { g with pc := g.pc + len, stack := v.toList ++ g.stack })) ∨
    (∃ (q : Addr) (B : Pt), Stand p l e R s m sargs below meth c B.U B.locs B.cells B.slots ∧ PostX A a q B ∧
      Steps p.tables e below (doInvoke e (A.U.setTop g) [] mk a).1 ((B.U.setTop g).pushFrame (.throwing q)))
section Payer
variable {l : Launch} {R : Room} {p : Program} {e : Env} {below : List Frame} {s : State} {sargs : Array Value} {y : MethodName} {len W9 : Nat}
theorem vx_back {ws : List Cond} {rm : Room} {Pc : Array Value → State → Prop} {Qc : Array Value → State → Outcome → State → Prop} {XC : String → State → State → Prop} {mc ms : Nat} {free : Addr → Prop} {bytes : ByteArray} {maxL : Nat} {ret : Option FieldType}
    (hM : vx_Met l y ws rm Pc Qc XC mc ms free) (hblind : FrameBlind Pc) (hrc : rm.cells = mc) (hrs : rm.slots = ms)
    (hframes : rm.frames + 1 ≤ R.frames) (hlocals : W9 + (maxL + 11) + rm.locals ≤ R.locals)
    (hws : ∀ w ∈ ws, ∀ a' U, s.WarmedH U.vm → w.before a' U = true) (hcode : Cond.code y bytes maxL ret ∈ ws) (hinit : ∀ a' U, s.WarmedH U.vm → (Cond.initialized y.cls).before a' U = true) :
    vx_Back l R p e below s sargs y len W9 (PreOf R mc ms Pc) (PostOf Qc mc ms free) (vx_Post XC mc ms free) := by
  intro m meth c A g ig mk a X hg hsize hdg hW hn hp
  have h1 : (headSpec ws rm).pre.before a A.U = true := atoms_intro fun w hw => hws w hw _ _ X.warmed
  have h2 : (Cond.code y bytes maxL ret).before a A.U = true := hws _ hcode _ _ X.warmed
  have h3 : (Cond.initialized y.cls).before a A.U = true := hinit _ _ X.warmed
  have h4 : A.cells + (headSpec ws rm).room.cells ≤ R.cells := by rw [show (headSpec ws rm).room.cells = mc from hrc]; exact hp.1
  have h5 : A.slots + (headSpec ws rm).room.slots ≤ R.slots := by rw [show (headSpec ws rm).room.slots = ms from hrs]; exact hp.2.1
  have hPc : Pc a (A.U.calling g mk a) := hblind _ _ _ _ hp.2.2
  obtain ⟨U, Ls, c0, s0⟩ := A
  dsimp only [Pt.U, Pt.locs, Pt.cells, Pt.slots] at h1 h2 h3 h4 h5 X hn hPc ⊢
  obtain ⟨methY, cY, hmY, hcY, -, hlY, -, -, -, -⟩ := Cond.code_spec hn h2
  obtain ⟨kY, hkY, -⟩ := className_of_methodNamed hn
  have hinitY : kY.init = .initialized := Cond.initialized_spec (findClass_of_methodNamed hn) hkY h3
  have h : At U g.method c below := by rw [hg]; exact X.here
  have hlocals9 : W9 + (maxL + 11) + (headSpec ws rm).room.locals ≤ R.locals := hlocals
  have happ : (headSpec ws rm).appliesLoose y e.platform (U.calling g mk a) = true :=
    Spec.appliesLoose_calling (g := g) h hdg hn hkY hinitY
      (X.room_calling (g := g) (R' := (headSpec ws rm).room) hsize hmY hcY hframes (by rw [hlY]; omega) h4 h5) h1
  obtain ⟨mid, hmid⟩ := h.above
  have hfr : (U.setTop g).frames = (.java g :: mid) ++ below := by rw [State.frames_setTop' g h.top, hmid]; rfl
  obtain ⟨o, s₂, hsteps, -, hend, hq⟩ := Steps.callFree hM p X.admits X.cas X.clock (acts := []) hfr happ hPc trivial
  have hq' : vx_Q Qc XC mc ms free a (U.calling g mk a) o s₂ := hq
  rw [State.frames_setTop' g h.top] at hend
  obtain ⟨g₀, hg0⟩ := Option.isSome_iff_exists.mp h.top
  obtain ⟨r, hr⟩ := State.topJava?_eq_some.mp hg0
  have hr' : (({ U with heap := s₂.heap, slotsUsed := s₂.slotsUsed } : State).setVm s₂.vm).frames = .java g₀ :: r := hr
  rcases hq' with ⟨hqc, L, hfe, hL⟩ | ⟨q, rfl, E, ce, L, hx, hce, hcv, hcl, hW₂, hsm, hL⟩
  · obtain ⟨⟨v, rfl⟩, hW₂, e2, q2, q3, q4, q5, q6⟩ := id hfe
    have e3 : s₂ = ({ (U.calling g mk a).setFrames s₂.frames with heap := s₂.heap, slotsUsed := s₂.slotsUsed } : State).setVm s₂.vm := by
      have : s₂ = ({ s₂ with vm := (U.calling g mk a).vm } : State).setVm s₂.vm := rfl
      rw [e2] at this
      exact this
    obtain ⟨c₂, i₂, len₂, hc₂, hd₂, hf₂⟩ := hend
    have hW' : U.WarmedH s₂.vm := hW₂
    have hcc : c₂ = c := by
      have h1 : s₂.code? g.method = U.code? g.method := by
        rw [State.code?_eq, State.code?_eq, hW'.alike.method?]
      exact Option.some.inj (hc₂.symm.trans (h1.trans h.code))
    subst hcc
    have hlen : len₂ = len := by rw [hdg] at hd₂; cases hd₂; rfl
    subst hlen
    have hs₂ : s₂ = (({ U with heap := s₂.heap, slotsUsed := s₂.slotsUsed } : State).setVm s₂.vm).setTop { g with pc := g.pc + len₂, stack := v.toList ++ g.stack } := by
      refine e3.trans ?_
      rw [hf₂, State.calling_eq h.top, State.setFrames_setFrames, State.setTop_of_frames _ hr', hr]
      rfl
    have hsame : U.sameButNew ({ U with heap := s₂.heap, slotsUsed := s₂.slotsUsed } : State) L mc ms := by
      refine ⟨?_, q2, q3, q4, q5, q6⟩
      obtain ⟨t, ht, -⟩ := State.frames_cons hr
      show ({ U with heap := s₂.heap, slotsUsed := s₂.slotsUsed } : State) = { U.setFrames U.frames with heap := s₂.heap, slotsUsed := s₂.slotsUsed }
      rw [State.setFrames_self ht]
    subst hg
    refine Or.inl ⟨v, ⟨(({ U with heap := s₂.heap, slotsUsed := s₂.slotsUsed } : State).setVm s₂.vm), Ls ++ L, c0 + mc, s0 + ms⟩,
      ⟨X.admits, X.cas, X.clock, X.frames, X.room, X.hears, X.method, X.code, (X.here.setHeapUsed s₂.heap s₂.slotsUsed).setVm hW'.alike, X.tail, State.WarmedH.trans X.warmed hW', X.limits, X.bytes, X.same.trans (hsame.setVm s.vm)⟩,
      ⟨g, mk, s₂, L, rfl, rfl, hqc, rfl, hL, rfl, rfl⟩, ?_⟩
    show Steps p.tables e below _ ((({ U with heap := s₂.heap, slotsUsed := s₂.slotsUsed } : State).setVm s₂.vm).setTop { g with pc := g.pc + len₂, stack := v.toList ++ g.stack })
    rw [← hs₂]
    exact hsteps
  · obtain ⟨e2, q2, q3, q4, q5, q6⟩ := id hsm
    have e3 : s₂ = ({ (U.calling g mk a).setFrames s₂.frames with heap := s₂.heap, slotsUsed := s₂.slotsUsed } : State).setVm s₂.vm := by
      have : s₂ = ({ s₂ with vm := (U.calling g mk a).vm } : State).setVm s₂.vm := rfl
      rw [e2] at this
      exact this
    have hf₂ : s₂.frames = .throwing q :: .java g :: U.frames.tail := hend
    have hW' : U.WarmedH s₂.vm := hW₂
    have hs₂ : s₂ = ((({ U with heap := s₂.heap, slotsUsed := s₂.slotsUsed } : State).setVm s₂.vm).setTop g).pushFrame (.throwing q) := by
      refine e3.trans ?_
      rw [hf₂, State.calling_eq h.top, State.setFrames_setFrames, State.pushFrame, State.frames_setTop _ hr', State.setTop_of_frames _ hr', State.setFrames_setFrames, hr]
      rfl
    have hsame : U.sameButNew ({ U with heap := s₂.heap, slotsUsed := s₂.slotsUsed } : State) L mc ms := by
      refine ⟨?_, q2, q3, q4, q5, q6⟩
      obtain ⟨t, ht, -⟩ := State.frames_cons hr
      show ({ U with heap := s₂.heap, slotsUsed := s₂.slotsUsed } : State) = { U.setFrames U.frames with heap := s₂.heap, slotsUsed := s₂.slotsUsed }
      rw [State.setFrames_self ht]
    subst hg
    refine Or.inr ⟨q, ⟨(({ U with heap := s₂.heap, slotsUsed := s₂.slotsUsed } : State).setVm s₂.vm), Ls ++ L, c0 + mc, s0 + ms⟩,
      ⟨X.admits, X.cas, X.clock, X.frames, X.room, X.hears, X.method, X.code, (X.here.setHeapUsed s₂.heap s₂.slotsUsed).setVm hW'.alike, X.tail, State.WarmedH.trans X.warmed hW', X.limits, X.bytes, X.same.trans (hsame.setVm s.vm)⟩,
      ⟨g, mk, s₂, L, E, ce, rfl, rfl, hx, hce, hcv, hcl, rfl, hL, rfl, rfl⟩, ?_⟩
    show Steps p.tables e below _ (((({ U with heap := s₂.heap, slotsUsed := s₂.slotsUsed } : State).setVm s₂.vm).setTop g).pushFrame (.throwing q))
    rw [← hs₂]
    exact hsteps
end Payer
section Calls
variable {p : Program} {l : Launch} {e : Env} {R : Room} {s : State} {m : MethodId} {args : Array Value} {below : List Frame} {meth : Method} {c : Code} {T : State} {locs : List Loc} {cells slots : Nat}
theorem vx_callV (X : Stand p l e R s m args below meth c T locs cells slots) (hexec : p.tables.exec = Jvm.exec) {own C : String} {index : Nat} {y : MethodName} {bytes : ByteArray} {maxL : Nat} {ret : Option FieldType}
    (hown : s.vm.findClass own = some m.cls) (hlink : (Cond.methodLink own index y).before args s = true) (hinst : (Cond.instanceMethod y).before args s = true) (hsel : (Cond.selects C y y).before args s = true)
    (hcode : (Cond.code y bytes maxL ret).before args s = true) (hy : y.cls ≠ "java/lang/invoke/MethodHandle" ∧ y.cls ≠ "java/lang/invoke/VarHandle")
    {W9 : Nat} {Pre : Pt → Array Value → Prop} {Post : Pt → Array Value → Option Value → Pt → Prop} {PostX : Pt → Array Value → Addr → Pt → Prop} (hK : vx_Back l R p e below s args y 3 W9 Pre Post PostX)
    {b : Addr} {cellB : Cell} (hcell : T.heap[b]? = some cellB) (hobj : cellB.vm.isStatics = false) (hcls : s.vm.findClass C = some cellB.cls)
    {g : JFrame} (hg : g.method = m) (hsize : g.locals.size = c.maxLocals) {argsL rest : List Value} (hlen : ∀ sig, parseMethodDescriptor y.desc = some sig → argsL.length = sig.parameters.length)
    (hstack : g.stack = argsL.reverse ++ .ref b :: rest) (hW : 2 * g.monitorRoom + (rest.map fun v => v.category).sum ≤ W9) (hdg : decode c.code g.pc = .ok (.invokevirtual index, 3))
    (hpre : ∀ vm₁, s.WarmedH vm₁ → Pre ⟨T.setVm vm₁, locs, cells, slots⟩ (Value.ref b :: argsL).toArray) :
    (∃ (v : Option Value) (vm₁ : Vm) (B : Pt), s.WarmedH vm₁ ∧ Stand p l e R s m args below meth c B.U B.locs B.cells B.slots ∧ Post ⟨T.setVm vm₁, locs, cells, slots⟩ (Value.ref b :: argsL).toArray v B ∧
      ∀ target, Steps p.tables e below (B.U.setTop { g with pc := g.pc + 3, stack := v.toList ++ rest }) target → Steps p.tables e below (T.setTop g) target) ∨
    (∃ (q : Addr) (vm₁ : Vm) (B : Pt), s.WarmedH vm₁ ∧ Stand p l e R s m args below meth c B.U B.locs B.cells B.slots ∧ PostX ⟨T.setVm vm₁, locs, cells, slots⟩ (Value.ref b :: argsL).toArray q B ∧
      Steps p.tables e below (T.setTop g) ((B.U.setTop { g with stack := rest }).pushFrame (.throwing q))) := by
  obtain ⟨mk, methM, hnamed, hmethM, hstM, habM⟩ := Cond.instanceMethod_spec hinst
  obtain ⟨methM', cM, hmethM', -, -, -, -, -, -, hsigM⟩ := Cond.code_spec hnamed hcode
  cases hmethM.symm.trans hmethM'
  obtain ⟨c2, r2, m2, q1, q2, q3, q4, kP, hkP, hkPi⟩ := Cond.selects_spec hsel
  cases hcls.symm.trans q1
  cases (State.methodFound?_of_named hnamed hy).symm.trans q2
  cases hnamed.symm.trans q3
  have hselP : selectMethod e.platform s.vm cellB.cls mk = .method mk := by rw [Launch.admits_selectMethod X.admits]; exact q4
  obtain ⟨vm₁, X₁, hstep₁⟩ := X.invokevirtual hexec hown hlink hnamed hmethM hstM hkP hkPi hy (a := b) (cell := cellB) hcell
    (fun z h => by rw [h] at hobj; cases hobj) hselP hmethM habM hkP hkPi (g := g) hg (argsL := argsL) (rest := rest) (hlen _ hsigM) hstack hdg
  rcases hK m meth c ⟨T.setVm vm₁, locs, cells, slots⟩ { g with stack := rest } (.invokevirtual index) mk (Value.ref b :: argsL).toArray X₁ hg hsize hdg hW (X₁.named hnamed) (hpre vm₁ X₁.warmed) with ⟨v, B, X', hpost, hsteps⟩ | ⟨q, B, X', hpost, hsteps⟩
  · exact Or.inl ⟨v, vm₁, B, X₁.warmed, X', hpost, fun target h => hstep₁ _ fun acts => by rw [doInvoke_state]; exact hsteps.trans h⟩
  · exact Or.inr ⟨q, vm₁, B, X₁.warmed, X', hpost, hstep₁ _ fun acts => by rw [doInvoke_state]; exact hsteps⟩
theorem vx_callS (X : Stand p l e R s m args below meth c T locs cells slots) (hexec : p.tables.exec = Jvm.exec) {own : String} {index : Nat} {y : MethodName} {bytes : ByteArray} {maxL : Nat} {ret : Option FieldType}
    (hown : s.vm.findClass own = some m.cls) (hlink : (Cond.methodLink own index y).before args s = true) (hstat : (Cond.static y).before args s = true) (hinit : (Cond.initialized y.cls).before args s = true)
    (hcode : (Cond.code y bytes maxL ret).before args s = true) (hy : y.cls ≠ "java/lang/invoke/MethodHandle" ∧ y.cls ≠ "java/lang/invoke/VarHandle")
    {W9 : Nat} {Pre : Pt → Array Value → Prop} {Post : Pt → Array Value → Option Value → Pt → Prop} {PostX : Pt → Array Value → Addr → Pt → Prop} (hK : vx_Back l R p e below s args y 3 W9 Pre Post PostX)
    {g : JFrame} (hg : g.method = m) (hsize : g.locals.size = c.maxLocals) {argsL rest : List Value} (hlen : ∀ sig, parseMethodDescriptor y.desc = some sig → argsL.length = sig.parameters.length)
    (hstack : g.stack = argsL.reverse ++ rest) (hW : 2 * g.monitorRoom + (rest.map fun v => v.category).sum ≤ W9) (hdg : decode c.code g.pc = .ok (.invokestatic index, 3))
    (hpre : ∀ vm₁, s.WarmedH vm₁ → Pre ⟨T.setVm vm₁, locs, cells, slots⟩ argsL.toArray) :
    (∃ (v : Option Value) (vm₁ : Vm) (B : Pt), s.WarmedH vm₁ ∧ Stand p l e R s m args below meth c B.U B.locs B.cells B.slots ∧ Post ⟨T.setVm vm₁, locs, cells, slots⟩ argsL.toArray v B ∧
      ∀ target, Steps p.tables e below (B.U.setTop { g with pc := g.pc + 3, stack := v.toList ++ rest }) target → Steps p.tables e below (T.setTop g) target) ∨
    (∃ (q : Addr) (vm₁ : Vm) (B : Pt), s.WarmedH vm₁ ∧ Stand p l e R s m args below meth c B.U B.locs B.cells B.slots ∧ PostX ⟨T.setVm vm₁, locs, cells, slots⟩ argsL.toArray q B ∧
      Steps p.tables e below (T.setTop g) ((B.U.setTop { g with stack := rest }).pushFrame (.throwing q))) := by
  obtain ⟨mk, hnamed⟩ := Cond.code_named hcode
  obtain ⟨methM, cM, hmethM, -, -, -, -, -, -, hsigM⟩ := Cond.code_spec hnamed hcode
  have hstatic : methM.isStatic = true := Cond.static_spec hnamed hmethM hstat
  obtain ⟨kP, hkP, -⟩ := className_of_methodNamed hnamed
  have hinitP : kP.init = .initialized := Cond.initialized_spec (findClass_of_methodNamed hnamed) hkP hinit
  obtain ⟨vm₁, X₁, hstep₁⟩ := X.invokestatic hexec hown hlink hnamed hmethM hstatic hkP hinitP hy (g := g) hg (argsL := argsL) (rest := rest) (hlen _ hsigM) hstack hdg
  rcases hK m meth c ⟨T.setVm vm₁, locs, cells, slots⟩ { g with stack := rest } (.invokestatic index) mk argsL.toArray X₁ hg hsize hdg hW (X₁.named hnamed) (hpre vm₁ X₁.warmed) with ⟨v, B, X', hpost, hsteps⟩ | ⟨q, B, X', hpost, hsteps⟩
  · exact Or.inl ⟨v, vm₁, B, X₁.warmed, X', hpost, fun target h => hstep₁ _ fun acts => by rw [doInvoke_state]; exact hsteps.trans h⟩
  · exact Or.inr ⟨q, vm₁, B, X₁.warmed, X', hpost, hstep₁ _ fun acts => by rw [doInvoke_state]; exact hsteps⟩
end Calls
theorem vx_cls {s : State} {T : State} {vm₁ : Vm} {E : String} {k : ClassId} (hW : s.WarmedH vm₁) (h : (T.setVm vm₁).vm.findClass E = some k) : s.vm.findClass E = some k := by
  have h1 : vm₁.findClass E = some k := h
  rw [hW.alike.findClass] at h1
  exact h1
/-- the method's frame g, with q thrown over it -/
def vx_W (p : Program) (l : Launch) (e : Env) (R : Room) (s : State) (m : MethodId) (args : Array Value) (below : List Frame) (meth : Method) (c : Code) (H : Heap) (locs : List Loc) (cells slots : Nat) (Q : State → Prop) (g : JFrame) (q : Addr) : Prop :=
  ∀ T : State, T.heap = H → Stand p l e R s m args below meth c T locs cells slots → ∃ t, Steps p.tables e below ((T.setTop g).pushFrame (.throwing q)) t ∧ Q t
def vx_Run (p : Program) (l : Launch) (e : Env) (R : Room) (s : State) (m : MethodId) (args : Array Value) (below : List Frame) (meth : Method) (c : Code) (H : Heap) (locs : List Loc) (cells slots mc ms : Nat) (g : JFrame) (rest : List Value) (Qa : State → Outcome → State → Prop) (XC : String → State → State → Prop) (free : Addr → Prop) : Prop :=
  ∀ T : State, T.heap = H → Stand p l e R s m args below meth c T locs cells slots →
    (∃ (v : Option Value) (st₀ t T' : State) (L : List Loc), st₀.heap = H ∧ Stand p l e R s m args below meth c T' (locs ++ L) (cells + mc) (slots + ms) ∧ (∀ q ∈ L, free q.base) ∧ T'.heap = t.heap ∧ T'.vm = t.vm ∧ Qa st₀ (.returned v) t ∧
      Goes p e below T g T' { g with pc := g.pc + 3, stack := v.toList ++ rest }) ∨
    (∃ (q : Addr) (st₀ t T' : State) (L : List Loc) (E : String) (ce : Cell), st₀.heap = H ∧ Stand p l e R s m args below meth c T' (locs ++ L) (cells + mc) (slots + ms) ∧ (∀ z ∈ L, free z.base) ∧ T'.heap = t.heap ∧ T'.vm = t.vm ∧ XC E st₀ t ∧ t.heap[q]? = some ce ∧ ce.vm = .none ∧ s.vm.findClass E = some ce.cls ∧
      Steps p.tables e below (T.setTop g) ((T'.setTop { g with stack := rest }).pushFrame (.throwing q)))
def vx_X {S : Type} (px : S → Prop) (B : String → S → State → Prop) (A : Nat → Prop) : String → State → State → Prop := fun E st t => ∃ u : S, px u ∧ B E u t ∧ va_F A st t
section Runs
variable {p : Program} {l : Launch} {e : Env} {R : Room} {s : State} {m : MethodId} {args : Array Value} {below : List Frame} {meth : Method} {c : Code} {H : Heap} {locs : List Loc} {cells slots : Nat}
variable {y : MethodName} {bytes cc : ByteArray} {maxL nL mc ms n index : Nat} {ret : Option FieldType} {ws : List Cond} {rm : Room} {Pc : Array Value → State → Prop} {Qc : Array Value → State → Outcome → State → Prop} {XC : String → State → State → Prop} {free : Addr → Prop} {Ts : List Cond} {own C : String} {b : Addr} {As rest : List Value} {g : JFrame}
theorem vx_callBack (cb : CallB R s args own index y bytes maxL ret ws rm mc ms n) (hM : vx_Met l y ws rm Pc Qc XC mc ms free) (hbl : FrameBlind Pc) : vx_Back l R p e below s args y 3 8 (PreOf R mc ms Pc) (PostOf Qc mc ms free) (vx_Post XC mc ms free) := by
  obtain ⟨hrc, hrs, hfr, hlo, hws, hcw, -, hini, -⟩ := cb
  exact vx_back (bytes := bytes) (maxL := maxL) (ret := ret) hM hbl hrc hrs hfr hlo hws hcw (fun a' U hW => word_at hW (Or.inl (by first | rfl | simp [Cond.onTables, Cond.keeps, Cond.steady])) hini)
theorem vx_runV (S : CallFix p m c cc nL s args Ts own) (hM : vx_Met l y ws rm Pc Qc XC mc ms free) (cw : CallW R s args own C index y bytes maxL ret ws rm mc ms n) (hp : PreV s H C b Pc As)
    (hg : g.method = m) (hn : As.length = n) (hsize : g.locals.size = nL) (hstack : g.stack = As.reverse ++ .ref b :: rest) (hW : 2 * g.monitorRoom + (rest.map fun v => v.category).sum ≤ 8) (hdg : decode cc g.pc = .ok (.invokevirtual index, 3)) (hf : cells + mc ≤ R.cells ∧ slots + ms ≤ R.slots) :
    vx_Run p l e R s m args below meth c H locs cells slots mc ms g rest (Qc (Value.ref b :: As).toArray) XC free := by
  have hK : vx_Back l R p e below s args y 3 8 (PreOf R mc ms Pc) (PostOf Qc mc ms free) (vx_Post XC mc ms free) := vx_callBack cw.1 hM hp.1
  obtain ⟨⟨-, -, -, -, -, -, hcode, -, hy, hlen, hl⟩, hin, hse⟩ := cw
  obtain ⟨hx, hb, hml, ho, -⟩ := S
  obtain ⟨-, ⟨cellB, hcB, hoB, hclB⟩, hPc⟩ := hp
  intro T hT X
  rcases vx_callV X hx (C := C) (bytes := bytes) (maxL := maxL) (ret := ret) ho hl hin hse hcode hy hK (by rw [hT]; exact hcB) hoB hclB hg (hsize.trans hml.symm) (argsL := As) (rest := rest) (fun sig h => hn.trans (hlen sig h)) hstack hW (by rw [hb]; exact hdg)
    (fun vm₁ hW₁ => ⟨hf.1, hf.2, hPc (T.setVm vm₁) hT hW₁⟩) with ⟨v, vm₁, ⟨U', l2, c2, s2⟩, hW₁, X', ⟨g', mk, t, L, e1, e2, hq, h1, hL, h2, h3⟩, st⟩ | ⟨q, vm₁, ⟨U', l2, c2, s2⟩, hW₁, X', ⟨g', mk, t, L, E, ce, e1, e2, hq, hce, hcv, hcl, h1, hL, h2, h3⟩, st⟩
  · dsimp only [Pt.U, Pt.locs, Pt.cells, Pt.slots] at X' e1 e2 h1 h2 h3 st
    subst h1; subst h2; subst h3
    exact Or.inl ⟨v, (T.setVm vm₁).calling g' mk (Value.ref b :: As).toArray, t, U', L, hT, X', hL, e1, e2, hq, st⟩
  · dsimp only [Pt.U, Pt.locs, Pt.cells, Pt.slots] at X' e1 e2 h1 h2 h3 st hcl
    subst h1; subst h2; subst h3
    exact Or.inr ⟨q, (T.setVm vm₁).calling g' mk (Value.ref b :: As).toArray, t, U', L, E, ce, hT, X', hL, e1, e2, hq, hce, hcv, vx_cls hW₁ hcl, st⟩
theorem vx_runS (S : CallFix p m c cc nL s args Ts own) (hM : vx_Met l y ws rm Pc Qc XC mc ms free) (cw : CallB R s args own index y bytes maxL ret ws rm mc ms n ∧ (Cond.static y).before args s = true) (hp : PreS s H Pc As)
    (hg : g.method = m) (hn : As.length = n) (hsize : g.locals.size = nL) (hstack : g.stack = As.reverse ++ rest) (hW : 2 * g.monitorRoom + (rest.map fun v => v.category).sum ≤ 8) (hdg : decode cc g.pc = .ok (.invokestatic index, 3)) (hf : cells + mc ≤ R.cells ∧ slots + ms ≤ R.slots) :
    vx_Run p l e R s m args below meth c H locs cells slots mc ms g rest (Qc As.toArray) XC free := by
  have hK : vx_Back l R p e below s args y 3 8 (PreOf R mc ms Pc) (PostOf Qc mc ms free) (vx_Post XC mc ms free) := vx_callBack cw.1 hM hp.1
  obtain ⟨⟨-, -, -, -, -, -, hcode, hini, hy, hlen, hl⟩, hstt⟩ := cw
  obtain ⟨hx, hb, hml, ho, -⟩ := S
  intro T hT X
  rcases vx_callS X hx (bytes := bytes) (maxL := maxL) (ret := ret) ho hl hstt hini hcode hy hK hg (hsize.trans hml.symm) (argsL := As) (rest := rest) (fun sig h => hn.trans (hlen sig h)) hstack hW (by rw [hb]; exact hdg)
    (fun vm₁ hW₁ => ⟨hf.1, hf.2, hp.2 (T.setVm vm₁) hT hW₁⟩) with ⟨v, vm₁, ⟨U', l2, c2, s2⟩, hW₁, X', ⟨g', mk, t, L, e1, e2, hq, h1, hL, h2, h3⟩, st⟩ | ⟨q, vm₁, ⟨U', l2, c2, s2⟩, hW₁, X', ⟨g', mk, t, L, E, ce, e1, e2, hq, hce, hcv, hcl, h1, hL, h2, h3⟩, st⟩
  · dsimp only [Pt.U, Pt.locs, Pt.cells, Pt.slots] at X' e1 e2 h1 h2 h3 st
    subst h1; subst h2; subst h3
    exact Or.inl ⟨v, (T.setVm vm₁).calling g' mk As.toArray, t, U', L, hT, X', hL, e1, e2, hq, st⟩
  · dsimp only [Pt.U, Pt.locs, Pt.cells, Pt.slots] at X' e1 e2 h1 h2 h3 st hcl
    subst h1; subst h2; subst h3
    exact Or.inr ⟨q, (T.setVm vm₁).calling g' mk As.toArray, t, U', L, E, ce, hT, X', hL, e1, e2, hq, hce, hcv, vx_cls hW₁ hcl, st⟩
end Runs
section Rows
variable {p : Program} {l : Launch} {e : Env} {R : Room} {s : State} {m : MethodId} {args : Array Value} {below : List Frame} {meth : Method} {c : Code} {H : Heap} {locs : List Loc} {cells slots : Nat} {Q : State → Prop}
variable {mc ms : Nat} {free : Addr → Prop} {A0 A1 : Nat → Prop} {H0 : Heap} {a : Array Value} {pc : Nat} {ls : Array Slot} {st0 rest : List Value}
theorem vx_keep {st₀ t T' : State} {L : List Loc} (h0 : st₀.heap = H) (e1 : T'.heap = t.heap) (hS : va_S A0 H0 H locs) (hA : ∀ q, q < H.size → A1 q → A0 q) (hf : ∀ q, free q → A0 q) (hL : ∀ q ∈ L, free q.base) (hF : va_F A1 st₀ t) :
    H.size ≤ T'.heap.size ∧ (∀ q : Nat, q < H.size → ¬ A1 q → T'.heap[q]? = H[q]?) ∧ va_S A0 H0 T'.heap (locs ++ L) := by
  obtain ⟨hz, hk⟩ := hF
  rw [h0] at hz hk
  exact ⟨by rw [e1]; exact hz, fun q h1 h2 => by rw [e1]; exact hk q h1 h2,
    ⟨Nat.le_trans hS.1 (by rw [e1]; exact hz), fun q h1 h2 => by rw [e1, hk q (Nat.lt_of_lt_of_le h1 hS.1) (fun z => h2 (hA q (Nat.lt_of_lt_of_le h1 hS.1) z))]; exact hS.2.1 q h1 h2, fun q hq => by
      rcases List.mem_append.mp hq with h | h
      · exact hS.2.2 q h
      · exact hf _ (hL q h)⟩⟩
theorem vx_calli {S SX : Type} {post : Int32 → S → Prop} {px : SX → Prop} {B : S → State → Prop} {BX : String → SX → State → Prop} {AX : Nat → Prop} (hr : vx_Run p l e R s m args below meth c H locs cells slots mc ms (F0 m pc ls st0) rest (va_Qi post B A1 a) (vx_X px BX AX) free) (hS : va_S A0 H0 H locs) (hA : ∀ q, q < H.size → A1 q → A0 q) (hf : ∀ q, free q → A0 q) (hAX : ∀ q, q < H.size → AX q → A0 q)
    (kx : ∀ (E : String) (ce : Cell) (q9 : Addr) (u : SX) (t : State) (H1 : Heap) (locs1 : List Loc), t.heap = H1 → s.vm.Alike t.vm → px u → BX E u t → H.size ≤ H1.size → (∀ q : Nat, q < H.size → ¬ AX q → H1[q]? = H[q]?) → va_S A0 H0 H1 locs1 → H1[q9]? = some ce → ce.vm = .none → s.vm.findClass E = some ce.cls → vx_W p l e R s m args below meth c H1 locs1 (cells + mc) (slots + ms) Q (F0 m pc ls rest) q9)
    (kk : ∀ (r : Int32) (u : S) (t : State) (H1 : Heap) (locs1 : List Loc), t.heap = H1 → s.vm.Alike t.vm → post r u → B u t → H.size ≤ H1.size → (∀ q : Nat, q < H.size → ¬ A1 q → H1[q]? = H[q]?) → va_S A0 H0 H1 locs1 → W p l e R s m args below meth c H1 locs1 (cells + mc) (slots + ms) Q (F0 m (pc + 3) ls (.int r :: rest))) : W p l e R s m args below meth c H locs cells slots Q (F0 m pc ls st0) := by
  intro T hT X
  rcases hr T hT X with ⟨v, st₀, t, T', L, h0, X', hL, e1, e2, ⟨⟨r, u, hv, hp, hb⟩, hF⟩, st⟩ | ⟨q, st₀, t, T', L, E, ce, h0, X', hL, e1, e2, ⟨u, hp, hb, hF⟩, hce, hcv, hcl, st⟩
  · cases hv
    obtain ⟨k1, k2, k3⟩ := vx_keep h0 e1 hS hA hf hL hF
    obtain ⟨t2, a1, b1⟩ := kk r u t T'.heap (locs ++ L) e1.symm (by rw [← e2]; exact X'.warmed.alike) hp hb k1 k2 k3 T' rfl X'
    exact ⟨t2, st t2 a1, b1⟩
  · obtain ⟨k1, k2, k3⟩ := vx_keep h0 e1 hS hAX hf hL hF
    obtain ⟨t2, a1, b1⟩ := kx E ce q u t T'.heap (locs ++ L) e1.symm (by rw [← e2]; exact X'.warmed.alike) hp hb k1 k2 k3 (by rw [e1]; exact hce) hcv hcl T' rfl X'
    exact ⟨t2, st.trans a1, b1⟩
theorem vx_calll {S SX : Type} {post : Int64 → S → Prop} {px : SX → Prop} {B : S → State → Prop} {BX : String → SX → State → Prop} {AX : Nat → Prop} (hr : vx_Run p l e R s m args below meth c H locs cells slots mc ms (F0 m pc ls st0) rest (va_Ql post B A1 a) (vx_X px BX AX) free) (hS : va_S A0 H0 H locs) (hA : ∀ q, q < H.size → A1 q → A0 q) (hf : ∀ q, free q → A0 q) (hAX : ∀ q, q < H.size → AX q → A0 q)
    (kx : ∀ (E : String) (ce : Cell) (q9 : Addr) (u : SX) (t : State) (H1 : Heap) (locs1 : List Loc), t.heap = H1 → s.vm.Alike t.vm → px u → BX E u t → H.size ≤ H1.size → (∀ q : Nat, q < H.size → ¬ AX q → H1[q]? = H[q]?) → va_S A0 H0 H1 locs1 → H1[q9]? = some ce → ce.vm = .none → s.vm.findClass E = some ce.cls → vx_W p l e R s m args below meth c H1 locs1 (cells + mc) (slots + ms) Q (F0 m pc ls rest) q9)
    (kk : ∀ (r : Int64) (u : S) (t : State) (H1 : Heap) (locs1 : List Loc), t.heap = H1 → s.vm.Alike t.vm → post r u → B u t → H.size ≤ H1.size → (∀ q : Nat, q < H.size → ¬ A1 q → H1[q]? = H[q]?) → va_S A0 H0 H1 locs1 → W p l e R s m args below meth c H1 locs1 (cells + mc) (slots + ms) Q (F0 m (pc + 3) ls (.long r :: rest))) : W p l e R s m args below meth c H locs cells slots Q (F0 m pc ls st0) := by
  intro T hT X
  rcases hr T hT X with ⟨v, st₀, t, T', L, h0, X', hL, e1, e2, ⟨⟨r, u, hv, hp, hb⟩, hF⟩, st⟩ | ⟨q, st₀, t, T', L, E, ce, h0, X', hL, e1, e2, ⟨u, hp, hb, hF⟩, hce, hcv, hcl, st⟩
  · cases hv
    obtain ⟨k1, k2, k3⟩ := vx_keep h0 e1 hS hA hf hL hF
    obtain ⟨t2, a1, b1⟩ := kk r u t T'.heap (locs ++ L) e1.symm (by rw [← e2]; exact X'.warmed.alike) hp hb k1 k2 k3 T' rfl X'
    exact ⟨t2, st t2 a1, b1⟩
  · obtain ⟨k1, k2, k3⟩ := vx_keep h0 e1 hS hAX hf hL hF
    obtain ⟨t2, a1, b1⟩ := kx E ce q u t T'.heap (locs ++ L) e1.symm (by rw [← e2]; exact X'.warmed.alike) hp hb k1 k2 k3 (by rw [e1]; exact hce) hcv hcl T' rfl X'
    exact ⟨t2, st.trans a1, b1⟩
theorem vx_callf {S SX : Type} {post : UInt32 → S → Prop} {px : SX → Prop} {B : S → State → Prop} {BX : String → SX → State → Prop} {AX : Nat → Prop} (hr : vx_Run p l e R s m args below meth c H locs cells slots mc ms (F0 m pc ls st0) rest (va_Qf post B A1 a) (vx_X px BX AX) free) (hS : va_S A0 H0 H locs) (hA : ∀ q, q < H.size → A1 q → A0 q) (hf : ∀ q, free q → A0 q) (hAX : ∀ q, q < H.size → AX q → A0 q)
    (kx : ∀ (E : String) (ce : Cell) (q9 : Addr) (u : SX) (t : State) (H1 : Heap) (locs1 : List Loc), t.heap = H1 → s.vm.Alike t.vm → px u → BX E u t → H.size ≤ H1.size → (∀ q : Nat, q < H.size → ¬ AX q → H1[q]? = H[q]?) → va_S A0 H0 H1 locs1 → H1[q9]? = some ce → ce.vm = .none → s.vm.findClass E = some ce.cls → vx_W p l e R s m args below meth c H1 locs1 (cells + mc) (slots + ms) Q (F0 m pc ls rest) q9)
    (kk : ∀ (r : UInt32) (u : S) (t : State) (H1 : Heap) (locs1 : List Loc), t.heap = H1 → s.vm.Alike t.vm → post r u → B u t → H.size ≤ H1.size → (∀ q : Nat, q < H.size → ¬ A1 q → H1[q]? = H[q]?) → va_S A0 H0 H1 locs1 → W p l e R s m args below meth c H1 locs1 (cells + mc) (slots + ms) Q (F0 m (pc + 3) ls (.float r :: rest))) : W p l e R s m args below meth c H locs cells slots Q (F0 m pc ls st0) := by
  intro T hT X
  rcases hr T hT X with ⟨v, st₀, t, T', L, h0, X', hL, e1, e2, ⟨⟨r, u, hv, hp, hb⟩, hF⟩, st⟩ | ⟨q, st₀, t, T', L, E, ce, h0, X', hL, e1, e2, ⟨u, hp, hb, hF⟩, hce, hcv, hcl, st⟩
  · cases hv
    obtain ⟨k1, k2, k3⟩ := vx_keep h0 e1 hS hA hf hL hF
    obtain ⟨t2, a1, b1⟩ := kk r u t T'.heap (locs ++ L) e1.symm (by rw [← e2]; exact X'.warmed.alike) hp hb k1 k2 k3 T' rfl X'
    exact ⟨t2, st t2 a1, b1⟩
  · obtain ⟨k1, k2, k3⟩ := vx_keep h0 e1 hS hAX hf hL hF
    obtain ⟨t2, a1, b1⟩ := kx E ce q u t T'.heap (locs ++ L) e1.symm (by rw [← e2]; exact X'.warmed.alike) hp hb k1 k2 k3 (by rw [e1]; exact hce) hcv hcl T' rfl X'
    exact ⟨t2, st.trans a1, b1⟩
theorem vx_calld {S SX : Type} {post : UInt64 → S → Prop} {px : SX → Prop} {B : S → State → Prop} {BX : String → SX → State → Prop} {AX : Nat → Prop} (hr : vx_Run p l e R s m args below meth c H locs cells slots mc ms (F0 m pc ls st0) rest (va_Qd post B A1 a) (vx_X px BX AX) free) (hS : va_S A0 H0 H locs) (hA : ∀ q, q < H.size → A1 q → A0 q) (hf : ∀ q, free q → A0 q) (hAX : ∀ q, q < H.size → AX q → A0 q)
    (kx : ∀ (E : String) (ce : Cell) (q9 : Addr) (u : SX) (t : State) (H1 : Heap) (locs1 : List Loc), t.heap = H1 → s.vm.Alike t.vm → px u → BX E u t → H.size ≤ H1.size → (∀ q : Nat, q < H.size → ¬ AX q → H1[q]? = H[q]?) → va_S A0 H0 H1 locs1 → H1[q9]? = some ce → ce.vm = .none → s.vm.findClass E = some ce.cls → vx_W p l e R s m args below meth c H1 locs1 (cells + mc) (slots + ms) Q (F0 m pc ls rest) q9)
    (kk : ∀ (r : UInt64) (u : S) (t : State) (H1 : Heap) (locs1 : List Loc), t.heap = H1 → s.vm.Alike t.vm → post r u → B u t → H.size ≤ H1.size → (∀ q : Nat, q < H.size → ¬ A1 q → H1[q]? = H[q]?) → va_S A0 H0 H1 locs1 → W p l e R s m args below meth c H1 locs1 (cells + mc) (slots + ms) Q (F0 m (pc + 3) ls (.double r :: rest))) : W p l e R s m args below meth c H locs cells slots Q (F0 m pc ls st0) := by
  intro T hT X
  rcases hr T hT X with ⟨v, st₀, t, T', L, h0, X', hL, e1, e2, ⟨⟨r, u, hv, hp, hb⟩, hF⟩, st⟩ | ⟨q, st₀, t, T', L, E, ce, h0, X', hL, e1, e2, ⟨u, hp, hb, hF⟩, hce, hcv, hcl, st⟩
  · cases hv
    obtain ⟨k1, k2, k3⟩ := vx_keep h0 e1 hS hA hf hL hF
    obtain ⟨t2, a1, b1⟩ := kk r u t T'.heap (locs ++ L) e1.symm (by rw [← e2]; exact X'.warmed.alike) hp hb k1 k2 k3 T' rfl X'
    exact ⟨t2, st t2 a1, b1⟩
  · obtain ⟨k1, k2, k3⟩ := vx_keep h0 e1 hS hAX hf hL hF
    obtain ⟨t2, a1, b1⟩ := kx E ce q u t T'.heap (locs ++ L) e1.symm (by rw [← e2]; exact X'.warmed.alike) hp hb k1 k2 k3 (by rw [e1]; exact hce) hcv hcl T' rfl X'
    exact ⟨t2, st.trans a1, b1⟩
theorem vx_callv {S SX : Type} {post : S → Prop} {px : SX → Prop} {B : S → State → Prop} {BX : String → SX → State → Prop} {AX : Nat → Prop} (hr : vx_Run p l e R s m args below meth c H locs cells slots mc ms (F0 m pc ls st0) rest (va_Qv post B A1 a) (vx_X px BX AX) free) (hS : va_S A0 H0 H locs) (hA : ∀ q, q < H.size → A1 q → A0 q) (hf : ∀ q, free q → A0 q) (hAX : ∀ q, q < H.size → AX q → A0 q)
    (kx : ∀ (E : String) (ce : Cell) (q9 : Addr) (u : SX) (t : State) (H1 : Heap) (locs1 : List Loc), t.heap = H1 → s.vm.Alike t.vm → px u → BX E u t → H.size ≤ H1.size → (∀ q : Nat, q < H.size → ¬ AX q → H1[q]? = H[q]?) → va_S A0 H0 H1 locs1 → H1[q9]? = some ce → ce.vm = .none → s.vm.findClass E = some ce.cls → vx_W p l e R s m args below meth c H1 locs1 (cells + mc) (slots + ms) Q (F0 m pc ls rest) q9)
    (kk : ∀ (u : S) (t : State) (H1 : Heap) (locs1 : List Loc), t.heap = H1 → s.vm.Alike t.vm → post u → B u t → H.size ≤ H1.size → (∀ q : Nat, q < H.size → ¬ A1 q → H1[q]? = H[q]?) → va_S A0 H0 H1 locs1 → W p l e R s m args below meth c H1 locs1 (cells + mc) (slots + ms) Q (F0 m (pc + 3) ls (rest))) : W p l e R s m args below meth c H locs cells slots Q (F0 m pc ls st0) := by
  intro T hT X
  rcases hr T hT X with ⟨v, st₀, t, T', L, h0, X', hL, e1, e2, ⟨⟨u, hv, hp, hb⟩, hF⟩, st⟩ | ⟨q, st₀, t, T', L, E, ce, h0, X', hL, e1, e2, ⟨u, hp, hb, hF⟩, hce, hcv, hcl, st⟩
  · cases hv
    obtain ⟨k1, k2, k3⟩ := vx_keep h0 e1 hS hA hf hL hF
    obtain ⟨t2, a1, b1⟩ := kk u t T'.heap (locs ++ L) e1.symm (by rw [← e2]; exact X'.warmed.alike) hp hb k1 k2 k3 T' rfl X'
    exact ⟨t2, st t2 a1, b1⟩
  · obtain ⟨k1, k2, k3⟩ := vx_keep h0 e1 hS hAX hf hL hF
    obtain ⟨t2, a1, b1⟩ := kx E ce q u t T'.heap (locs ++ L) e1.symm (by rw [← e2]; exact X'.warmed.alike) hp hb k1 k2 k3 (by rw [e1]; exact hce) hcv hcl T' rfl X'
    exact ⟨t2, st.trans a1, b1⟩
/-- caught by the row x of this method's table; the rows ahead don't take it -/
theorem vx_catch {own name : String} {E : String} {ce : Cell} {q : Addr} (hown : s.vm.findClass own = some m.cls) (pre : List ExceptionTableEntry) (x : ExceptionTableEntry) (suf : List ExceptionTableEntry) (hsplit : c.exceptionTable.toList = pre ++ x :: suf)
    (hpass : ∀ z ∈ pre, covers z pc = false ∨ (z.catchType ≠ 0 ∧ ∃ nm : String, (Cond.classLink own z.catchType nm).before args s = true ∧ va_Nc E nm s)) (hx : covers x pc = true) (h0 : x.catchType ≠ 0)
    (hlink : (Cond.classLink own x.catchType name).before args s = true) (hcast : (Cond.castable E name).before args s = true) (hcell : H[q]? = some ce) (hv : ce.vm = .none) (hcl : s.vm.findClass E = some ce.cls)
    (kk : W p l e R s m args below meth c H locs cells slots Q (F0 m x.handlerPc ls [.ref q])) : vx_W p l e R s m args below meth c H locs cells slots Q (F0 m pc ls rest) q := by
  intro T hT X
  have hpl : e.platform.magicAccessors = ({} : Platform).magicAccessors := by rw [X.admits.platform]
  obtain ⟨c3, c4, hc3, hc4, hasg⟩ := Cond.castable_spec hcast
  cases Option.some.inj (hc3.symm.trans hcl)
  obtain ⟨c5, hc5, hcl5⟩ := Cond.classLink_spec hown hlink e.platform hpl
  cases Option.some.inj (hc4.symm.trans hc5)
  obtain ⟨vm', X', st⟩ := Stand.thenCaughtThrough X q (g := F0 m pc ls rest) rfl (Steps.refl _) (by rw [hT]; exact hcell) (by rw [hv]; rfl) (by obtain ⟨k9, h9, -⟩ := Vm.findClass_spec hcl; exact ⟨k9, h9⟩) pre x suf hsplit
    (fun z hz => by
      rcases hpass z hz with h | ⟨hz0, nm, hl1, hn1⟩
      · exact Or.inl h
      · obtain ⟨c6, hc6, hcl6⟩ := Cond.classLink_spec hown hl1 e.platform hpl
        obtain ⟨a8, b8, h1, h2, h3⟩ := hn1
        cases Option.some.inj (h1.symm.trans hcl)
        cases Option.some.inj (h2.symm.trans hc6)
        exact Or.inr ⟨hz0, _, hcl6, h3⟩) hx (Or.inr ⟨h0, c4, hcl5, hasg⟩)
  obtain ⟨t, a1, b1⟩ := kk (T.setVm vm') hT X'
  exact ⟨t, st.trans a1, b1⟩
end Rows
section Ends
variable {p : Program} {l : Launch} {e : Env} {R : Room} {s : State} {m : MethodId} {args : Array Value} {below : List Frame} {meth : Method} {c : Code} {H : Heap} {locs : List Loc} {cells slots : Nat} {Q : State → Prop}
variable {mc ms : Nat} {free : Addr → Prop} {A0 A1 : Nat → Prop} {H0 : Heap} {a : Array Value} {ls : Array Slot} {st0 rest : List Value}
variable {Qc : Array Value → State → Outcome → State → Prop} {XC : String → State → State → Prop}
/-- what a body that may throw owes at its end -/
def vx_MQ (below : List Frame) (Qc : Array Value → State → Outcome → State → Prop) (XC : String → State → State → Prop) (a : Array Value) (s : State) (mc ms : Nat) (free : Addr → Prop) : State → Prop := fun t =>
  ∃ o, t.status = .running ∧ Ended t below o ∧ vx_Q Qc XC mc ms free a s o t
theorem vx_ret {g : JFrame} {mc ms : Nat} (k : W p l e R s m args below meth c H locs cells slots (MQ below Qc args s mc ms free) g) : W p l e R s m args below meth c H locs cells slots (vx_MQ below Qc XC args s mc ms free) g := by
  intro T hT X
  obtain ⟨t, a1, o, b1, b2, b3, b4⟩ := k T hT X
  exact ⟨t, a1, o, b1, b2, Or.inl ⟨b3, b4⟩⟩
/-- not caught here: it goes on to the caller -/
theorem vx_widen {g : JFrame} {q : Addr} {k n : Nat} (h1 : cells ≤ k) (h2 : slots ≤ n) (kk : vx_W p l e R s m args below meth c H locs k n Q g q) : vx_W p l e R s m args below meth c H locs cells slots Q g q := fun T hT X => kk T hT (stand_widen X h1 h2)
theorem vx_out {pc : Nat} {E : String} {ce : Cell} {q : Addr} {mc ms : Nat} (hout : ∀ x ∈ c.exceptionTable.toList, covers x pc = false) (hlocks : meth.locks = false) (hcell : H[q]? = some ce) (hv : ce.vm = .none) (hcl : s.vm.findClass E = some ce.cls)
    (hx : ∀ t : State, t.heap = H → s.vm.Alike t.vm → XC E s t) (hf : ∀ z ∈ locs, free z.base) (hc : cells ≤ mc) (hs : slots ≤ ms) :
    vx_W p l e R s m args below meth c H locs cells slots (vx_MQ below Qc XC args s mc ms free) (F0 m pc ls rest) q := by
  intro T hT X
  obtain ⟨st1, hrun, hend, hW, hsm⟩ := X.leaveThrown q (g := F0 m pc ls rest) rfl rfl rfl hout hlocks
  have hcell9 : (T.setFrames (.throwing q :: below)).heap[q]? = some ce := by
    show T.heap[q]? = some ce
    rw [hT]; exact hcell
  exact ⟨_, st1, .threw q, hrun, hend, Or.inr ⟨q, rfl, E, ce, locs, hx _ hT hW.alike, hcell9, hv, hcl, hW, hsm.mono hc hs, hf⟩⟩
theorem vx_frame {U : State} {k n : Nat} (h : s.sameButNew ({ U with vm := s.vm } : State) locs k n) : s.heap.size ≤ U.heap.size ∧ ∀ q : Nat, q < s.heap.size → (∀ z ∈ locs, z.base ≠ q) → U.heap[q]? = s.heap[q]? := by
  obtain ⟨-, h2, -, -, -, h6⟩ := h
  refine ⟨h2, fun q hq hz => ?_⟩
  obtain ⟨c9, e1, e2, e3, e4⟩ := h6 q _ (Array.getElem?_eq_getElem hq)
  have hs : c9.slots = (s.heap[q]).slots := Array.ext_getElem? fun i => e4 i fun hm => hz _ hm rfl
  have h9 : c9 = s.heap[q] := by
    rw [hs] at e2
    exact e2
  have e5 : U.heap[q]? = some c9 := e1
  rw [e5, h9, Array.getElem?_eq_getElem hq]
/-- the words of a throw but the four that speak of the heap -/
def vx_no (w : Cond) : Bool := decide (w ≠ .isRef (.static Bundle.tN "UNASSIGNED_STACK" Bundle.steD)) && decide (w ≠ .isRef (.static Bundle.tN "SUPPRESSED_SENTINEL" Bundle.listD)) && decide (w ≠ .laysStatic Bundle.tN "UNASSIGNED_STACK" Bundle.steD) && decide (w ≠ .laysStatic Bundle.tN "SUPPRESSED_SENTINEL" Bundle.listD)
def vx_at0 (own : String) (ic : Nat) (X : String) (names : List String) : List Cond := (Bundle.ownAtoms0 own ic X names).filter vx_no
def vx_atS (own : String) (ic : Nat) (X : String) (names : List String) : List Cond := (Bundle.ownAtoms own ic X names).filter vx_no
/-- a word that the tables alone decide, or a good one -/
def vx_ot (w : Cond) : Bool := w.onTables || goodWord w
theorem vx_ot_at {args a' : Array Value} {s U : State} {w : Cond} (hW : s.WarmedH U.vm) (hvm : s.vm = U.vm) (hg : vx_ot w = true) (h : w.before args s = true) : w.before a' U = true := by
  simp only [vx_ot, Bool.or_eq_true] at hg
  rcases hg with hg | hg
  · exact va_tabs hg hvm h
  · exact word_at hW (good_of_word hg) h
/-- a list's words: the good ones out of the method's own list, the others by premises of their own -/
theorem vx_hat {args : Array Value} {s : State} {L B : List Cond} (h1 : ∀ w ∈ L.filter goodWord, w.before args s = true) (h2 : ∀ w ∈ L.filter (fun w => !goodWord w), w ∈ B) (h3 : ∀ w ∈ B, w.before args s = true) : ∀ w ∈ L, w.before args s = true := by
  intro w hw
  by_cases g : goodWord w = true
  · exact h1 w (List.mem_filter.mpr ⟨hw, g⟩)
  · refine h3 w (h2 w (List.mem_filter.mpr ⟨hw, ?_⟩))
    show (!goodWord w) = true
    cases hgw : goodWord w
    · rfl
    · exact absurd hgw g
theorem vx_c {args : Array Value} {s : State} {w : Cond} {B : List Cond} (h : w.before args s = true) (t : ∀ w ∈ B, w.before args s = true) : ∀ w' ∈ w :: B, w'.before args s = true := fun w' h' => (List.mem_cons.mp h').elim (fun e => by rw [e]; exact h) (t w')
theorem vx_n {args : Array Value} {s : State} : ∀ w ∈ ([] : List Cond), w.before args s = true := fun _ h => nomatch h
theorem vx_own {args : Array Value} {s : State} {L : List Cond} (h1 : ∀ w ∈ L.filter vx_no, w.before args s = true)
    (hU : (Cond.isRef (.static Bundle.tN "UNASSIGNED_STACK" Bundle.steD)).before args s = true) (hN : (Cond.isRef (.static Bundle.tN "SUPPRESSED_SENTINEL" Bundle.listD)).before args s = true)
    (lU : (Cond.laysStatic Bundle.tN "UNASSIGNED_STACK" Bundle.steD).before args s = true) (lN : (Cond.laysStatic Bundle.tN "SUPPRESSED_SENTINEL" Bundle.listD).before args s = true) : ∀ w ∈ L, w.before args s = true := by
  intro w hw
  by_cases e1 : w = .isRef (.static Bundle.tN "UNASSIGNED_STACK" Bundle.steD)
  · rw [e1]; exact hU
  · by_cases e2 : w = .isRef (.static Bundle.tN "SUPPRESSED_SENTINEL" Bundle.listD)
    · rw [e2]; exact hN
    · by_cases e3 : w = .laysStatic Bundle.tN "UNASSIGNED_STACK" Bundle.steD
      · rw [e3]; exact lU
      · by_cases e4 : w = .laysStatic Bundle.tN "SUPPRESSED_SENTINEL" Bundle.listD
        · rw [e4]; exact lN
        · exact h1 w (List.mem_filter.mpr ⟨hw, by unfold vx_no; rw [decide_eq_true e1, decide_eq_true e2, decide_eq_true e3, decide_eq_true e4]; rfl⟩)
/-- where a static field lies, its class's statics cell in H -/
def vx_L (C n d : String) (A : Nat → Prop) (U : State) (H : Heap) : Prop := ∃ (c : ClassId) (k : Class) (i : Nat) (f : Field) (a : Nat) (cell : Cell), U.vm.findClass C = some c ∧ U.fieldFound? C n d = some (c, k, i, f) ∧ f.isStatic = true ∧ k.statics = some a ∧ H[a]? = some cell ∧ cell.vm.isStatics = true ∧ cell.cls = c ∧ f.slot < cell.slots.size ∧ k.staticTypes[f.slot]? = some f.type ∧ ¬ A a
theorem vx_L.moved {C n d : String} {A : Nat → Prop} {u U : State} {H : Heap} (hvm : u.vm.Alike U.vm) (h : vx_L C n d A u H) : vx_L C n d A U H := by
  obtain ⟨c, k, i, f, a, cell, h1, h2, h3, h4, h5, h6, h7, h8, h9, h10⟩ := h
  obtain ⟨k', hi', he⟩ := State.fieldFound?_setVm hvm h2
  exact ⟨c, k', i, f, a, cell, by rw [hvm.findClass]; exact h1, hi', h3, by rw [he]; exact h4, h5, h6, h7, h8, by rw [he]; exact h9, h10⟩
theorem vx_L.kept {C n d : String} {A : Nat → Prop} {U : State} {H H1 : Heap} (h : vx_L C n d A U H) (hq : ∀ a : Nat, a < H.size → ¬ A a → H1[a]? = H[a]?) : vx_L C n d A U H1 := by
  obtain ⟨c, k, i, f, a, cell, h1, h2, h3, h4, h5, h6, h7, h8, h9, h10⟩ := h
  exact ⟨c, k, i, f, a, cell, h1, h2, h3, h4, by rw [hq a (Array.getElem?_eq_some_iff.mp h5).1 h10]; exact h5, h6, h7, h8, h9, h10⟩
theorem vx_L.narrow {C n d : String} {A B : Nat → Prop} {U : State} {H : Heap} (h : vx_L C n d A U H) (hAB : ∀ q, B q → A q) : vx_L C n d B U H := by
  obtain ⟨c, k, i, f, a, cell, h1, h2, h3, h4, h5, h6, h7, h8, h9, h10⟩ := h
  exact ⟨c, k, i, f, a, cell, h1, h2, h3, h4, h5, h6, h7, h8, h9, fun z => h10 (hAB _ z)⟩
theorem vx_L.word {C n d : String} {A : Nat → Prop} {s : State} {args : Array Value} (h : vx_L C n d A s s.heap) : (Cond.laysStatic C n d).before args s = true := by
  obtain ⟨c, k, i, f, a, cell, h1, h2, h3, h4, h5, h6, h7, h8, h9, -⟩ := h
  show (Cond.laysStatic C n d).holds args s none s [] = true
  exact Cond.laysStatic_of h1 h2 h3 h4 h5 h6 h7 h8 h9
/-- .. and what it holds: null or some reference -/
def vx_Zq (C n d : String) (A : Nat → Prop) (U : State) (H : Heap) : Prop := va_Zq C n d A U H ∧ vx_L C n d A U H
theorem vx_Zq.moved {C n d : String} {A : Nat → Prop} {u U : State} {H : Heap} (hvm : u.vm.Alike U.vm) (h : vx_Zq C n d A u H) : vx_Zq C n d A U H := ⟨va_Zq.moved hvm h.1, vx_L.moved hvm h.2⟩
theorem vx_Zq.kept {C n d : String} {A : Nat → Prop} {U : State} {H H1 : Heap} (h : vx_Zq C n d A U H) (hq : ∀ a : Nat, a < H.size → ¬ A a → H1[a]? = H[a]?) : vx_Zq C n d A U H1 := ⟨va_Zq.kept h.1 hq, vx_L.kept h.2 hq⟩
theorem vx_Zq.narrow {C n d : String} {A B : Nat → Prop} {U : State} {H : Heap} (h : vx_Zq C n d A U H) (hAB : ∀ q, B q → A q) : vx_Zq C n d B U H := ⟨va_Zq.narrow h.1 hAB, vx_L.narrow h.2 hAB⟩
theorem vx_Zqof {args : Array Value} {s : State} {C n d : String} {A : Nat → Prop} (hl : (Cond.laysStatic C n d).before args s = true) (hini : (Cond.initialized C).before args s = true) (h : (Cond.isRef (.static C n d)).before args s = true) (hA : ∀ a : Nat, a < s.heap.size → ¬ A a) : vx_Zq C n d A s s.heap := by
  refine ⟨va_Zqof hl hini h hA, ?_⟩
  obtain ⟨c, k, i, f, a, cell, h1, h2, h3, h4, h5, h6, h7, h8, h9⟩ := Cond.laysStatic_spec hl
  exact ⟨c, k, i, f, a, cell, h1, h2, h3, h4, h5, h6, h7, h8, h9, hA a (Array.getElem?_eq_some_iff.mp h5).1⟩
theorem vx_isRef {C n d : String} {v : Value} {A : Nat → Prop} {s : State} {args : Array Value} (h : va_Z C n d v A s s.heap) (hv : v.isRef = true) : (Cond.isRef (.static C n d)).before args s = true := by
  obtain ⟨cf, kf, fi, f, a, cell, h1, h2, h3, h4, h5, h6, h7, -⟩ := h
  have he : (Term.static C n d).eval args s none [] s = some v := by
    simp [Term.eval, State.fieldNamed?, h1, h2, h4, h5, h6, h7]
  simp only [Cond.before, Cond.holds, Cond.value, he]
  cases v <;> simp_all [Value.isRef]
theorem vx_isRefq {C n d : String} {A : Nat → Prop} {s : State} {args : Array Value} (h : va_Zq C n d A s s.heap) : (Cond.isRef (.static C n d)).before args s = true := by
  rcases h with h | ⟨t, h⟩
  · exact vx_isRef h rfl
  · exact vx_isRef h rfl
/-- the same frame, seen from here: as if the method were called anew in this heap -/
theorem vx_rebase {T : State} (X : Stand p l e R s m args below meth c T locs cells slots) {R' : Room} (hf : R'.frames ≤ R.frames) (hl : R'.locals ≤ R.locals) (hc : cells + R'.cells ≤ R.cells) (hs : slots + R'.slots ≤ R.slots) :
    Stand p l e R' ((T.setVm s.vm).setFrames (.invoking m args :: below)) m args below meth c T [] 0 0 := by
  have htop : (T.setVm s.vm).topJava?.isSome := X.here.top
  have hF : ((T.setVm s.vm).setFrames (.invoking m args :: below)).frames = .invoking m args :: below := State.frames_setFrames _ (State.cur_lt_of_top htop)
  obtain ⟨g₀, hg0⟩ := Option.isSome_iff_exists.mp htop
  obtain ⟨r, hr⟩ := State.topJava?_eq_some.mp hg0
  have hl9 : e.platform.stackLimits (T.setVm s.vm).me = e.platform.stackLimits s.me := X.limits
  have hb9 : (T.setVm s.vm).me.stackBytes = s.me.stackBytes := X.bytes
  refine ⟨X.admits, X.cas, X.clock, hF, ?_, X.hears, X.method, X.code, X.here, X.tail, X.warmed, ?_, ?_, ?_⟩
  · have h := X.room
    have hU : ((T.setVm s.vm).setFrames (.invoking m args :: below)).localsInUse = s.localsInUse := by
      rw [State.localsInUse_invoking hF (meth := meth) (c := c) X.method X.code, State.localsInUse_invoking X.frames X.method X.code]
    simp only [State.hasRoom, Bool.and_eq_true, decide_eq_true_eq] at h ⊢
    obtain ⟨⟨⟨⟨h1, h2, h3, h4, h5, h6⟩, h7⟩, h8⟩, h9⟩ := h
    rw [X.frames, List.length_cons] at h2 h3
    have q1 := X.heapSize
    have q2 := X.used
    simp only [hF, hU, List.length_cons, State.stackLimits_setFrames, State.stackBytes_setFrames, hl9, hb9]
    refine ⟨⟨⟨⟨by omega, by omega, by omega, by omega, by omega, h6⟩, ?_⟩, ?_⟩, X.book⟩
    · show T.heap.size + R'.cells ≤ e.platform.maxCells
      omega
    · show T.slotsUsed + R'.slots ≤ e.platform.maxSlots
      omega
  · rw [State.stackLimits_setFrames]; rfl
  · rw [State.stackBytes_setFrames]; rfl
  · refine ⟨?_, Nat.le_refl _, Nat.le_refl _, ?_, ?_, fun a c9 h9 => ⟨c9, h9, rfl, rfl, fun _ _ => rfl⟩⟩
    · obtain ⟨t, ht, -⟩ := State.frames_cons hr
      show T.setVm s.vm = { ((T.setVm s.vm).setFrames (.invoking m args :: below)).setFrames (T.setVm s.vm).frames with heap := T.heap, slotsUsed := T.slotsUsed }
      rw [State.setFrames_setFrames, State.setFrames_self ht]
      rfl
    · show T.slotsUsed = T.slotsUsed + ((T.heap.toList.drop T.heap.size).map (·.slots.size)).sum
      rw [List.drop_eq_nil_of_le (Nat.le_of_eq Array.length_toList)]
      rfl
    · show ((T.heap.toList.drop T.heap.size).map (·.slots.size)).sum ≤ 0
      rw [List.drop_eq_nil_of_le (Nat.le_of_eq Array.length_toList)]
      exact Nat.le_refl _
/-- 'throw new E()': new; dup; invokespecial; athrow -/
theorem vx_throw0 {cc : ByteArray} {pc : Nat} (hexec : p.tables.exec = Jvm.exec) (hb : c.code = cc) (hl : l.stackTraces = false) {own cls : String} {names : List String} {ik ic mc ms : Nat} {A : Nat → Prop}
    (hown : s.vm.findClass own = some m.cls) (hcls : Bundle.fit cls = true) (hnames : ∀ n ∈ names, Bundle.fit n = true)
    (hk : (Cond.classLink own ik cls).before args s = true) (hini : (Cond.initialized cls).before args s = true) (hat : ∀ w ∈ vx_at0 own ic cls names, w.before args s = true)
    (hgood : ∀ w ∈ Cond.classLink own ik cls :: Cond.initialized cls :: vx_at0 own ic cls names, vx_ot w = true)
    (hU : vx_Zq Bundle.tN "UNASSIGNED_STACK" Bundle.steD A s s.heap) (hN : vx_Zq Bundle.tN "SUPPRESSED_SENTINEL" Bundle.listD A s s.heap) (hS : va_S A s.heap H locs) (hsize : ls.size = c.maxLocals)
    (d0 : decode cc pc = .ok (.new ik, 3)) (d3 : decode cc (pc + 3) = .ok (.dup, 1)) (d4 : decode cc (pc + 4) = .ok (.invokespecial ic, 3)) (d7 : decode cc (pc + 7) = .ok (.athrow, 1))
    (hout : ∀ x ∈ c.exceptionTable.toList, covers x (pc + 7) = false)
    (hRframes : names.length + 3 < R.frames) (hRlocals : (rest.map fun v => v.category).sum + (13 * (names.length + 1) + 42) ≤ R.locals) (hRcells : cells + 1 ≤ R.cells) (hRslots : slots + 6 ≤ R.slots) (hlocks : meth.locks = false)
    (hx : ∀ t : State, s.vm.Alike t.vm → H.size ≤ t.heap.size → (∀ q : Nat, q < H.size → t.heap[q]? = H[q]?) → XC cls s t)
    (hf : ∀ z ∈ locs, free z.base) (hc : cells + 1 ≤ mc) (hs : slots + 6 ≤ ms) :
    W p l e R s m args below meth c H locs cells slots (vx_MQ below Qc XC args s mc ms free) (F0 m pc ls rest) := by
  intro T hT X
  have htr : e.platform.stackTraces = false := (show e.platform.stackTraces = l.stackTraces by rw [X.admits.platform]).trans hl
  have Y := vx_rebase X (R' := { frames := R.frames, locals := R.locals, cells := 1, slots := 6 }) (Nat.le_refl _) (Nat.le_refl _) hRcells hRslots
  obtain ⟨s', hA⟩ : ∃ z, z = (T.setVm s.vm).setFrames (.invoking m args :: below) := ⟨_, rfl⟩
  rw [← hA] at Y
  have hvm : s'.vm = s.vm := by rw [hA]; rfl
  have hhp : s'.heap = H := by rw [hA]; exact hT
  have hW0 : s.WarmedH s'.vm := by rw [hvm]; exact State.WarmedH.refl s
  have hat' : ∀ w ∈ vx_at0 own ic cls names, w.before args s' = true := fun w hw => vx_ot_at hW0 hvm.symm (hgood w (List.mem_cons_of_mem _ (List.mem_cons_of_mem _ hw))) (hat w hw)
  have hk' : (Cond.classLink own ik cls).before args s' = true := vx_ot_at hW0 hvm.symm (hgood _ List.mem_cons_self) hk
  have hini' : (Cond.initialized cls).before args s' = true := vx_ot_at hW0 hvm.symm (hgood _ (List.mem_cons_of_mem _ List.mem_cons_self)) hini
  have hU' : vx_Zq Bundle.tN "UNASSIGNED_STACK" Bundle.steD A s' s'.heap := by rw [hhp]; exact vx_Zq.moved hW0.alike (hU.kept hS.2.1)
  have hN' : vx_Zq Bundle.tN "SUPPRESSED_SENTINEL" Bundle.listD A s' s'.heap := by rw [hhp]; exact vx_Zq.moved hW0.alike (hN.kept hS.2.1)
  have h : ∀ w ∈ Bundle.ownAtoms0 own ic cls names, w.before args s' = true := vx_own hat' (vx_isRefq hU'.1) (vx_isRefq hN'.1) hU'.2.word hN'.2.word
  have hown' : s'.vm.findClass own = some m.cls := by rw [hvm]; exact hown
  have hins : (Cond.instantiable cls 6).before args s' = true := h _ (by simp [Bundle.ownAtoms0])
  obtain ⟨vm₁, cX, kX, hfX, hkX, -, -, X₁, st1⟩ := Y.newCold hexec (own := own) (C := cls) (index := ik) (n := 6) hown' hk' hins hini'
    (g := F0 m pc ls rest) rfl (by rw [hb]; exact d0) (Nat.le_refl _) (Nat.le_refl _)
  generalize hT1 : (T.setVm vm₁).pushCell { cls := cX, slots := kX.instanceTypes.map defaultValue, vm := .none } = T1 at X₁ st1
  have hcat : (Value.ref T.heap.size).category = 1 := rfl
  have hcellA : T1.heap[T.heap.size]? = some (freshCell cX kX) := by rw [← hT1]; exact State.heap_pushCell_size _ _
  have d3' : decode c.code (pc + 3) = .ok (.dup, 1) := by rw [hb]; exact d3
  obtain ⟨U, hsteps, hrun, hend, hW, hsame, ce, hce, hO⟩ := X₁.ctorThrow0 hexec htr (own := own) (cls := cls) (names := names) (ic := ic) hown' hcls hnames h (fun x hx => nomatch hx) hfX hkX hcellA (by rw [hhp, hT]; exact Nat.le_refl _)
    (g := { method := m, pc := pc + 4, locals := ls, stack := .ref T.heap.size :: .ref T.heap.size :: rest, locked := none }) rfl hsize rfl rfl (rest := rest) rfl
    (by rw [hb]; exact d4) (by rw [hb]; exact d7) hout hRframes (by simp only [List.map_cons, List.sum_cons, hcat]; omega) hlocks
  obtain ⟨f1, f2⟩ := vx_frame hsame
  rw [hhp] at f1 f2
  have hWs : s.WarmedH U.vm := State.WarmedH.trans hW0 hW
  have hcl : s.vm.findClass cls = some ce.cls := by
    have h9 := hO.cls
    rw [hvm] at h9
    exact h9
  have hall : s.sameButNew ({ U with vm := s.vm } : State) locs mc ms := by
    subst hA
    obtain ⟨e1, e2⟩ := hsame
    rw [State.setFrames_setFrames] at e1
    have h2 : (T.setVm s.vm).sameButNew ({ U with vm := s.vm } : State) [] (0 + 1) (0 + 6) := ⟨e1, e2⟩
    have h3 := X.same.trans h2
    rw [List.append_nil] at h3
    exact h3.mono hc hs
  refine ⟨U, ?_, .threw T.heap.size, hrun, hend, Or.inr ⟨T.heap.size, rfl, cls, ce, locs, hx U hWs.alike f1 (fun q hq => f2 q hq (fun z hz => nomatch hz)), hce, hO.vm, hcl, hWs, hall, hf⟩⟩
  refine st1 _ ?_
  show Steps p.tables e below (T1.setTop { method := m, pc := pc + 3, locals := ls, stack := .ref T.heap.size :: rest, locked := none }) _
  jvm_step X₁.here [X₁.here.top, hexec, d3', Value.category]
  exact hsteps
/-- 'throw new E("text")': new; dup; ldc; invokespecial; athrow -/
theorem vx_throwS {cc : ByteArray} {pc : Nat} (hexec : p.tables.exec = Jvm.exec) (hb : c.code = cc) (hl : l.stackTraces = false) {own cls text : String} {names : List String} {ik is ic mc ms sa : Nat} {A : Nat → Prop}
    (hown : s.vm.findClass own = some m.cls) (hcls : Bundle.fit cls = true) (hnames : ∀ n ∈ names, Bundle.fit n = true)
    (hk : (Cond.classLink own ik cls).before args s = true) (hini : (Cond.initialized cls).before args s = true) (hstr : vk_R own is text sa s) (hat : ∀ w ∈ vx_atS own ic cls names, w.before args s = true)
    (hgood : ∀ w ∈ Cond.classLink own ik cls :: Cond.initialized cls :: vx_atS own ic cls names, vx_ot w = true)
    (hU : vx_Zq Bundle.tN "UNASSIGNED_STACK" Bundle.steD A s s.heap) (hN : vx_Zq Bundle.tN "SUPPRESSED_SENTINEL" Bundle.listD A s s.heap) (hS : va_S A s.heap H locs) (hsize : ls.size = c.maxLocals)
    (d0 : decode cc pc = .ok (.new ik, 3)) (d3 : decode cc (pc + 3) = .ok (.dup, 1)) (d4 : decode cc (pc + 4) = .ok (.ldc is, 2)) (d6 : decode cc (pc + 6) = .ok (.invokespecial ic, 3)) (d9 : decode cc (pc + 9) = .ok (.athrow, 1))
    (hout : ∀ x ∈ c.exceptionTable.toList, covers x (pc + 9) = false)
    (hRframes : names.length + 3 < R.frames) (hRlocals : (rest.map fun v => v.category).sum + (13 * (names.length + 1) + 43) ≤ R.locals) (hRcells : cells + 1 ≤ R.cells) (hRslots : slots + 6 ≤ R.slots) (hlocks : meth.locks = false)
    (hx : ∀ t : State, s.vm.Alike t.vm → H.size ≤ t.heap.size → (∀ q : Nat, q < H.size → t.heap[q]? = H[q]?) → XC cls s t)
    (hf : ∀ z ∈ locs, free z.base) (hc : cells + 1 ≤ mc) (hs : slots + 6 ≤ ms) :
    W p l e R s m args below meth c H locs cells slots (vx_MQ below Qc XC args s mc ms free) (F0 m pc ls rest) := by
  intro T hT X
  have htr : e.platform.stackTraces = false := (show e.platform.stackTraces = l.stackTraces by rw [X.admits.platform]).trans hl
  have Y := vx_rebase X (R' := { frames := R.frames, locals := R.locals, cells := 1, slots := 6 }) (Nat.le_refl _) (Nat.le_refl _) hRcells hRslots
  obtain ⟨s', hA⟩ : ∃ z, z = (T.setVm s.vm).setFrames (.invoking m args :: below) := ⟨_, rfl⟩
  rw [← hA] at Y
  have hvm : s'.vm = s.vm := by rw [hA]; rfl
  have hhp : s'.heap = H := by rw [hA]; exact hT
  have hW0 : s.WarmedH s'.vm := by rw [hvm]; exact State.WarmedH.refl s
  have hat' : ∀ w ∈ vx_atS own ic cls names, w.before args s' = true := fun w hw => vx_ot_at hW0 hvm.symm (hgood w (List.mem_cons_of_mem _ (List.mem_cons_of_mem _ hw))) (hat w hw)
  have hk' : (Cond.classLink own ik cls).before args s' = true := vx_ot_at hW0 hvm.symm (hgood _ List.mem_cons_self) hk
  have hini' : (Cond.initialized cls).before args s' = true := vx_ot_at hW0 hvm.symm (hgood _ (List.mem_cons_of_mem _ List.mem_cons_self)) hini
  have hU' : vx_Zq Bundle.tN "UNASSIGNED_STACK" Bundle.steD A s' s'.heap := by rw [hhp]; exact vx_Zq.moved hW0.alike (hU.kept hS.2.1)
  have hN' : vx_Zq Bundle.tN "SUPPRESSED_SENTINEL" Bundle.listD A s' s'.heap := by rw [hhp]; exact vx_Zq.moved hW0.alike (hN.kept hS.2.1)
  have h : ∀ w ∈ Bundle.ownAtoms own ic cls names, w.before args s' = true := vx_own hat' (vx_isRefq hU'.1) (vx_isRefq hN'.1) hU'.2.word hN'.2.word
  have hown' : s'.vm.findClass own = some m.cls := by rw [hvm]; exact hown
  have hins : (Cond.instantiable cls 6).before args s' = true := h _ (by simp [Bundle.ownAtoms])
  obtain ⟨vm₁, cX, kX, hfX, hkX, -, -, X₁, st1⟩ := Y.newCold hexec (own := own) (C := cls) (index := ik) (n := 6) hown' hk' hins hini'
    (g := F0 m pc ls rest) rfl (by rw [hb]; exact d0) (Nat.le_refl _) (Nat.le_refl _)
  generalize hT1 : (T.setVm vm₁).pushCell { cls := cX, slots := kX.instanceTypes.map defaultValue, vm := .none } = T1 at X₁ st1
  have hcat : (Value.ref T.heap.size).category = 1 := rfl
  have hcellA : T1.heap[T.heap.size]? = some (freshCell cX kX) := by rw [← hT1]; exact State.heap_pushCell_size _ _
  have d3' : decode c.code (pc + 3) = .ok (.dup, 1) := by rw [hb]; exact d3
  have d4' : decode c.code (pc + 4) = .ok (.ldc is, 2) := by rw [hb]; exact d4
  have hstr' : vk_R own is text sa s' := vk_R.warm hW0 hstr
  obtain ⟨U, hsteps, hrun, hend, hW, hsame, ce, hce, hO⟩ := X₁.ctorThrowS hexec htr (own := own) (cls := cls) (names := names) (ic := ic) hown' hcls hnames h (fun x hx => nomatch hx) hfX hkX hcellA (by rw [hhp, hT]; exact Nat.le_refl _) (msg := .ref sa) rfl
    (g := { method := m, pc := pc + 6, locals := ls, stack := .ref sa :: .ref T.heap.size :: .ref T.heap.size :: rest, locked := none }) rfl hsize rfl rfl (rest := rest) rfl
    (by rw [hb]; exact d6) (by rw [hb]; exact d9) hout hRframes (by simp only [List.map_cons, List.sum_cons, hcat]; omega) hlocks
  obtain ⟨f1, f2⟩ := vx_frame hsame
  rw [hhp] at f1 f2
  have hWs : s.WarmedH U.vm := State.WarmedH.trans hW0 hW
  have hcl : s.vm.findClass cls = some ce.cls := by
    have h9 := hO.cls
    rw [hvm] at h9
    exact h9
  have hall : s.sameButNew ({ U with vm := s.vm } : State) locs mc ms := by
    subst hA
    obtain ⟨e1, e2⟩ := hsame
    rw [State.setFrames_setFrames] at e1
    have h2 : (T.setVm s.vm).sameButNew ({ U with vm := s.vm } : State) [] (0 + 1) (0 + 6) := ⟨e1, e2⟩
    have h3 := X.same.trans h2
    rw [List.append_nil] at h3
    exact h3.mono hc hs
  refine ⟨U, ?_, .threw T.heap.size, hrun, hend, Or.inr ⟨T.heap.size, rfl, cls, ce, locs, hx U hWs.alike f1 (fun q hq => f2 q hq (fun z hz => nomatch hz)), hce, hO.vm, hcl, hWs, hall, hf⟩⟩
  refine st1 _ ?_
  show Steps p.tables e below (T1.setTop { method := m, pc := pc + 3, locals := ls, stack := .ref T.heap.size :: rest, locked := none }) _
  jvm_step X₁.here [X₁.here.top, hexec, d3', Value.category]
  exact X₁.ldcString hexec (own := own) (text := text) (index := is) (a := sa) hown' hstr'.1 hstr'.2
    (g := { method := m, pc := pc + 4, locals := ls, stack := .ref T.heap.size :: .ref T.heap.size :: rest, locked := none }) rfl d4' _ hsteps
/-- 'throw new E("text")', the text by a wide index -/
theorem vx_throwSW {cc : ByteArray} {pc : Nat} (hexec : p.tables.exec = Jvm.exec) (hb : c.code = cc) (hl : l.stackTraces = false) {own cls text : String} {names : List String} {ik is ic mc ms sa : Nat} {A : Nat → Prop}
    (hown : s.vm.findClass own = some m.cls) (hcls : Bundle.fit cls = true) (hnames : ∀ n ∈ names, Bundle.fit n = true)
    (hk : (Cond.classLink own ik cls).before args s = true) (hini : (Cond.initialized cls).before args s = true) (hstr : vk_R own is text sa s) (hat : ∀ w ∈ vx_atS own ic cls names, w.before args s = true)
    (hgood : ∀ w ∈ Cond.classLink own ik cls :: Cond.initialized cls :: vx_atS own ic cls names, vx_ot w = true)
    (hU : vx_Zq Bundle.tN "UNASSIGNED_STACK" Bundle.steD A s s.heap) (hN : vx_Zq Bundle.tN "SUPPRESSED_SENTINEL" Bundle.listD A s s.heap) (hS : va_S A s.heap H locs) (hsize : ls.size = c.maxLocals)
    (d0 : decode cc pc = .ok (.new ik, 3)) (d3 : decode cc (pc + 3) = .ok (.dup, 1)) (d4 : decode cc (pc + 4) = .ok (.ldc_w is, 3)) (d7 : decode cc (pc + 7) = .ok (.invokespecial ic, 3)) (d10 : decode cc (pc + 10) = .ok (.athrow, 1))
    (hout : ∀ x ∈ c.exceptionTable.toList, covers x (pc + 10) = false)
    (hRframes : names.length + 3 < R.frames) (hRlocals : (rest.map fun v => v.category).sum + (13 * (names.length + 1) + 43) ≤ R.locals) (hRcells : cells + 1 ≤ R.cells) (hRslots : slots + 6 ≤ R.slots) (hlocks : meth.locks = false)
    (hx : ∀ t : State, s.vm.Alike t.vm → H.size ≤ t.heap.size → (∀ q : Nat, q < H.size → t.heap[q]? = H[q]?) → XC cls s t)
    (hf : ∀ z ∈ locs, free z.base) (hc : cells + 1 ≤ mc) (hs : slots + 6 ≤ ms) :
    W p l e R s m args below meth c H locs cells slots (vx_MQ below Qc XC args s mc ms free) (F0 m pc ls rest) := by
  intro T hT X
  have htr : e.platform.stackTraces = false := (show e.platform.stackTraces = l.stackTraces by rw [X.admits.platform]).trans hl
  have Y := vx_rebase X (R' := { frames := R.frames, locals := R.locals, cells := 1, slots := 6 }) (Nat.le_refl _) (Nat.le_refl _) hRcells hRslots
  obtain ⟨s', hA⟩ : ∃ z, z = (T.setVm s.vm).setFrames (.invoking m args :: below) := ⟨_, rfl⟩
  rw [← hA] at Y
  have hvm : s'.vm = s.vm := by rw [hA]; rfl
  have hhp : s'.heap = H := by rw [hA]; exact hT
  have hW0 : s.WarmedH s'.vm := by rw [hvm]; exact State.WarmedH.refl s
  have hat' : ∀ w ∈ vx_atS own ic cls names, w.before args s' = true := fun w hw => vx_ot_at hW0 hvm.symm (hgood w (List.mem_cons_of_mem _ (List.mem_cons_of_mem _ hw))) (hat w hw)
  have hk' : (Cond.classLink own ik cls).before args s' = true := vx_ot_at hW0 hvm.symm (hgood _ List.mem_cons_self) hk
  have hini' : (Cond.initialized cls).before args s' = true := vx_ot_at hW0 hvm.symm (hgood _ (List.mem_cons_of_mem _ List.mem_cons_self)) hini
  have hU' : vx_Zq Bundle.tN "UNASSIGNED_STACK" Bundle.steD A s' s'.heap := by rw [hhp]; exact vx_Zq.moved hW0.alike (hU.kept hS.2.1)
  have hN' : vx_Zq Bundle.tN "SUPPRESSED_SENTINEL" Bundle.listD A s' s'.heap := by rw [hhp]; exact vx_Zq.moved hW0.alike (hN.kept hS.2.1)
  have h : ∀ w ∈ Bundle.ownAtoms own ic cls names, w.before args s' = true := vx_own hat' (vx_isRefq hU'.1) (vx_isRefq hN'.1) hU'.2.word hN'.2.word
  have hown' : s'.vm.findClass own = some m.cls := by rw [hvm]; exact hown
  have hins : (Cond.instantiable cls 6).before args s' = true := h _ (by simp [Bundle.ownAtoms])
  obtain ⟨vm₁, cX, kX, hfX, hkX, -, -, X₁, st1⟩ := Y.newCold hexec (own := own) (C := cls) (index := ik) (n := 6) hown' hk' hins hini'
    (g := F0 m pc ls rest) rfl (by rw [hb]; exact d0) (Nat.le_refl _) (Nat.le_refl _)
  generalize hT1 : (T.setVm vm₁).pushCell { cls := cX, slots := kX.instanceTypes.map defaultValue, vm := .none } = T1 at X₁ st1
  have hcat : (Value.ref T.heap.size).category = 1 := rfl
  have hcellA : T1.heap[T.heap.size]? = some (freshCell cX kX) := by rw [← hT1]; exact State.heap_pushCell_size _ _
  have d3' : decode c.code (pc + 3) = .ok (.dup, 1) := by rw [hb]; exact d3
  have d4' : decode c.code (pc + 4) = .ok (.ldc_w is, 3) := by rw [hb]; exact d4
  have hstr' : vk_R own is text sa s' := vk_R.warm hW0 hstr
  obtain ⟨U, hsteps, hrun, hend, hW, hsame, ce, hce, hO⟩ := X₁.ctorThrowS hexec htr (own := own) (cls := cls) (names := names) (ic := ic) hown' hcls hnames h (fun x hx => nomatch hx) hfX hkX hcellA (by rw [hhp, hT]; exact Nat.le_refl _) (msg := .ref sa) rfl
    (g := { method := m, pc := pc + 7, locals := ls, stack := .ref sa :: .ref T.heap.size :: .ref T.heap.size :: rest, locked := none }) rfl hsize rfl rfl (rest := rest) rfl
    (by rw [hb]; exact d7) (by rw [hb]; exact d10) hout hRframes (by simp only [List.map_cons, List.sum_cons, hcat]; omega) hlocks
  obtain ⟨f1, f2⟩ := vx_frame hsame
  rw [hhp] at f1 f2
  have hWs : s.WarmedH U.vm := State.WarmedH.trans hW0 hW
  have hcl : s.vm.findClass cls = some ce.cls := by
    have h9 := hO.cls
    rw [hvm] at h9
    exact h9
  have hall : s.sameButNew ({ U with vm := s.vm } : State) locs mc ms := by
    subst hA
    obtain ⟨e1, e2⟩ := hsame
    rw [State.setFrames_setFrames] at e1
    have h2 : (T.setVm s.vm).sameButNew ({ U with vm := s.vm } : State) [] (0 + 1) (0 + 6) := ⟨e1, e2⟩
    have h3 := X.same.trans h2
    rw [List.append_nil] at h3
    exact h3.mono hc hs
  refine ⟨U, ?_, .threw T.heap.size, hrun, hend, Or.inr ⟨T.heap.size, rfl, cls, ce, locs, hx U hWs.alike f1 (fun q hq => f2 q hq (fun z hz => nomatch hz)), hce, hO.vm, hcl, hWs, hall, hf⟩⟩
  refine st1 _ ?_
  show Steps p.tables e below (T1.setTop { method := m, pc := pc + 3, locals := ls, stack := .ref T.heap.size :: rest, locked := none }) _
  jvm_step X₁.here [X₁.here.top, hexec, d3', Value.category]
  exact X₁.ldcStringW hexec (own := own) (text := text) (index := is) (a := sa) hown' hstr'.1 hstr'.2
    (g := { method := m, pc := pc + 4, locals := ls, stack := .ref T.heap.size :: .ref T.heap.size :: rest, locked := none }) rfl d4' _ hsteps
end Ends
section Bodies
variable {l : Launch}
theorem vx_ofW {y : MethodName} {ws ws' : List Cond} {rm : Room} {Pc : Array Value → State → Prop} {Qc : Array Value → State → Outcome → State → Prop} {XC : String → State → State → Prop} {mc ms : Nat} {free : Addr → Prop} {cc : ByteArray} {maxL : Nat} {ret : Option FieldType}
    (hy : plainName y.cls = true) (hw : ws = Cond.code y cc maxL ret :: ws')
    (body : ∀ p e s m args below meth c s₁, BodyLoose p l y (headSpec ws rm) cc maxL ret e s m args below meth c s₁ → c.maxLocals = maxL → (∀ x ∈ c.exceptionTable.toList, False) → Pc args s →
      W p l e (headSpec ws rm).room s m args below meth c s.heap [] 0 0 (vx_MQ below Qc XC args s mc ms free) (entryFrame m args maxL)) : vx_Met l y ws rm Pc Qc XC mc ms free := by
  refine MetFree.of_bodyS (code := cc) (maxLocals := maxL) (ret := ret) hy ?_ ?_
  · intro args s m h hn
    obtain ⟨meth, c, h1, h2, h3, h4, h5, h6, -, -⟩ := Cond.code_spec hn (atoms_spec (ws := ws) h _ (by rw [hw]; exact List.mem_cons_self))
    exact ⟨meth, c, h1, h2, h3, h4, h5, h6⟩
  · intro p e s m args below meth c s₁ B hml hP _
    have hh0 : s₁.heap = s.heap := by rw [B.state]; rfl
    have ht : ∀ x ∈ c.exceptionTable.toList, False := by
      obtain ⟨meth9, c9, h1, h2, -, -, -, -, h7, -⟩ := Cond.code_spec B.named (atoms_spec (ws := ws) B.pre _ (by rw [hw]; exact List.mem_cons_self))
      cases Option.some.inj (h1.symm.trans B.method)
      cases Option.some.inj (h2.symm.trans (Stand.of_body B).code)
      intro x hx
      rw [Array.isEmpty_iff.mp h7] at hx
      cases hx
    obtain ⟨t, a1, o, b1, b2, b3⟩ := body p e s m args below meth c s₁ B hml ht hP s₁ hh0 (Stand.of_body B)
    exact ⟨t, o, a1, b1, b2, b3⟩
/-- the table of a body with handlers -/
theorem vx_table {p : Program} {x y : MethodName} {S : Spec} {cc bytes : ByteArray} {maxL maxL' : Nat} {ret ret' : Option FieldType} {e : Env} {s s₁ : State} {m : MethodId} {args : Array Value} {below : List Frame} {meth : Method} {c : Code} {hh : List (Nat × Nat × Nat × Nat)}
    (B : BodyLoose p l y S cc maxL ret e s m args below meth c s₁) (h : (Cond.codeWith y bytes maxL' ret' hh).before args s = true) : c.exceptionTable.toList = tableOf hh := by
  obtain ⟨m9, meth9, c9, hn9, h1, h2, -, -, h6, -⟩ := Cond.codeWith_spec h
  cases Option.some.inj (hn9.symm.trans B.named)
  cases Option.some.inj (h1.symm.trans B.method)
  cases Option.some.inj (h2.symm.trans (Stand.of_body B).code)
  rw [← h6, table_eq]
end Bodies
end VXA
/-! ===== END ===== -/
/-! ===== BEGIN a static call of a method with an exception table ===== -/
section VXS
variable {p : Program} {l : Launch} {e : Env} {R : Room} {s : State} {m : MethodId} {args : Array Value} {below : List Frame} {meth : Method} {c : Code} {T : State} {H : Heap} {locs : List Loc} {cells slots : Nat}
abbrev vx_CSW (R : Room) (s : State) (args : Array Value) (own : String) (index : Nat) (y : MethodName) (bytes : ByteArray) (maxL : Nat) (ret : Option FieldType) (hh : List (Nat × Nat × Nat × Nat)) (ws : List Cond) (rm : Room) (mc ms n : Nat) : Prop :=
  (rm.cells = mc ∧ rm.slots = ms ∧ rm.frames + 1 ≤ R.frames ∧ 8 + (maxL + 11) + rm.locals ≤ R.locals ∧ (∀ w ∈ ws, ∀ (a' : Array Value) (U : State), s.WarmedH U.vm → w.before a' U = true) ∧ Cond.codeWith y bytes maxL ret hh ∈ ws) ∧
  (Cond.codeWith y bytes maxL ret hh).before args s = true ∧ (Cond.initialized y.cls).before args s = true ∧ (y.cls ≠ "java/lang/invoke/MethodHandle" ∧ y.cls ≠ "java/lang/invoke/VarHandle") ∧
  (∀ sig, parseMethodDescriptor y.desc = some sig → n = sig.parameters.length) ∧ (Cond.methodLink own index y).before args s = true ∧ (Cond.static y).before args s = true
theorem vx_cwSW {own : String} {index maxL mc ms : Nat} {y : MethodName} {bytes : ByteArray} {ret : Option FieldType} {hh : List (Nat × Nat × Nat × Nat)} {Ts ws ws' : List Cond} {rm : Room} (n : Nat) (ht : ∀ w ∈ Ts, w.before args s = true) (hT : GoodIn Ts (va_wsS own index y ws)) (hw : ws = Cond.codeWith y bytes maxL ret hh :: ws') (hrc : rm.cells = mc) (hrs : rm.slots = ms)
    (hd : y.cls ≠ "java/lang/invoke/MethodHandle" ∧ y.cls ≠ "java/lang/invoke/VarHandle" ∧ (parseMethodDescriptor y.desc).map (fun d => d.parameters.length) = some n) (hR : rm.frames + 1 ≤ R.frames ∧ 8 + (maxL + 11) + rm.locals ≤ R.locals) :
    vx_CSW R s args own index y bytes maxL ret hh ws rm mc ms n := by
  have ok : ∀ w ∈ va_wsS own index y ws, w.before args s = true := fun w h => ht w (hT w h).1
  have hG : GoodIn Ts ws := fun w h => hT w (by unfold va_wsS; exact List.mem_append_right _ h)
  have hc : Cond.codeWith y bytes maxL ret hh ∈ ws := by rw [hw]; exact List.mem_cons_self
  refine ⟨⟨hrc, hrs, hR.1, hR.2, pay_in ht hG, hc⟩, ht _ (hG _ hc).1, ok _ (by simp [va_wsS]), ⟨hd.1, hd.2.1⟩, fun sig h => ?_, ok _ (by simp [va_wsS]), ok _ (by simp [va_wsS])⟩
  have h2 := hd.2.2
  rw [h] at h2
  exact (Option.some.inj h2).symm
theorem vx_callSW (X : Stand p l e R s m args below meth c T locs cells slots) (hexec : p.tables.exec = Jvm.exec) {own : String} {index : Nat} {y : MethodName} {bytes : ByteArray} {maxL : Nat} {ret : Option FieldType} {hh : List (Nat × Nat × Nat × Nat)}
    (hown : s.vm.findClass own = some m.cls) (hlink : (Cond.methodLink own index y).before args s = true) (hstat : (Cond.static y).before args s = true) (hinit : (Cond.initialized y.cls).before args s = true)
    (hcode : (Cond.codeWith y bytes maxL ret hh).before args s = true) (hy : y.cls ≠ "java/lang/invoke/MethodHandle" ∧ y.cls ≠ "java/lang/invoke/VarHandle")
    {W9 : Nat} {Pre : Pt → Array Value → Prop} {Post : Pt → Array Value → Option Value → Pt → Prop} (hK : Back l R p e below s args y 3 W9 Pre Post)
    {g : JFrame} (hg : g.method = m) (hsize : g.locals.size = c.maxLocals) {argsL rest : List Value} (hlen : ∀ sig, parseMethodDescriptor y.desc = some sig → argsL.length = sig.parameters.length)
    (hstack : g.stack = argsL.reverse ++ rest) (hW : 2 * g.monitorRoom + (rest.map fun v => v.category).sum ≤ W9) (hdg : decode c.code g.pc = .ok (.invokestatic index, 3))
    (hpre : ∀ vm₁, s.WarmedH vm₁ → Pre ⟨T.setVm vm₁, locs, cells, slots⟩ argsL.toArray) :
    ∃ (v : Option Value) (vm₁ : Vm) (B : Pt), s.WarmedH vm₁ ∧ Stand p l e R s m args below meth c B.U B.locs B.cells B.slots ∧ Post ⟨T.setVm vm₁, locs, cells, slots⟩ argsL.toArray v B ∧
      ∀ target, Steps p.tables e below (B.U.setTop { g with pc := g.pc + 3, stack := v.toList ++ rest }) target → Steps p.tables e below (T.setTop g) target := by
  obtain ⟨mk, methM, cM, hnamed, hmethM, -, -, -, -, -, -, hsigM⟩ := Cond.codeWith_spec hcode
  have hstatic : methM.isStatic = true := Cond.static_spec hnamed hmethM hstat
  obtain ⟨kP, hkP, -⟩ := className_of_methodNamed hnamed
  have hinitP : kP.init = .initialized := Cond.initialized_spec (findClass_of_methodNamed hnamed) hkP hinit
  obtain ⟨vm₁, X₁, hstep₁⟩ := X.invokestatic hexec hown hlink hnamed hmethM hstatic hkP hinitP hy (g := g) hg (argsL := argsL) (rest := rest) (hlen _ hsigM) hstack hdg
  obtain ⟨v, B, X', hpost, hsteps⟩ := hK m meth c ⟨T.setVm vm₁, locs, cells, slots⟩ { g with stack := rest } (.invokestatic index) mk argsL.toArray X₁ hg hsize hdg hW (X₁.named hnamed) (hpre vm₁ X₁.warmed)
  exact ⟨v, vm₁, B, X₁.warmed, X', hpost, fun target h => hstep₁ _ fun acts => by rw [doInvoke_state]; exact hsteps.trans h⟩
theorem vx_runSW {y : MethodName} {bytes cc : ByteArray} {maxL nL mc ms n index : Nat} {ret : Option FieldType} {hh : List (Nat × Nat × Nat × Nat)} {ws : List Cond} {rm : Room} {Pc : Array Value → State → Prop} {Qc : Array Value → State → Outcome → State → Prop} {free : Addr → Prop} {Ts : List Cond} {own : String} {As rest : List Value} {g : JFrame}
    (S : CallFix p m c cc nL s args Ts own) (hM : Met l y ws rm Pc Qc mc ms free) (cw : vx_CSW R s args own index y bytes maxL ret hh ws rm mc ms n) (hp : PreS s H Pc As)
    (hg : g.method = m) (hn : As.length = n) (hsize : g.locals.size = nL) (hstack : g.stack = As.reverse ++ rest) (hW : 2 * g.monitorRoom + (rest.map fun v => v.category).sum ≤ 8) (hdg : decode cc g.pc = .ok (.invokestatic index, 3)) (hf : cells + mc ≤ R.cells ∧ slots + ms ≤ R.slots) :
    va_Run p l e R s m args below meth c H locs cells slots mc ms g rest (Qc As.toArray) (free) := by
  obtain ⟨⟨hrc, hrs, hfr, hlo, hws, hcw⟩, hcode, hini, hy, hlen, hl, hstt⟩ := cw
  have hK : Back l R p e below s args y 3 8 (PreOf R mc ms Pc) (PostOf Qc mc ms free) := va_backW (hh := hh) (bytes := bytes) (maxL := maxL) (ret := ret) hM hp.1 hrc hrs hfr hlo hws hcw (fun a' U hW => word_at hW (Or.inl (by first | rfl | simp [Cond.onTables, Cond.keeps, Cond.steady])) hini)
  obtain ⟨hx, hb, hml, ho, -⟩ := S
  intro T hT X
  obtain ⟨v, vm₁, ⟨U', l2, c2, s2⟩, hW₁, X', ⟨g', mk, t, L, e1, e2, hq, h1, hL, h2, h3⟩, st⟩ := vx_callSW X hx (hh := hh) (bytes := bytes) (maxL := maxL) (ret := ret) ho hl hstt hini hcode hy hK hg (hsize.trans hml.symm) (argsL := As) (rest := rest) (fun sig h => hn.trans (hlen sig h)) hstack hW (by rw [hb]; exact hdg)
    (fun vm₁ hW₁ => ⟨hf.1, hf.2, hp.2 (T.setVm vm₁) hT hW₁⟩)
  dsimp only [Pt.U, Pt.locs, Pt.cells, Pt.slots] at X' e1 e2 h1 h2 h3 st
  subst h1; subst h2; subst h3
  exact ⟨v, (T.setVm vm₁).calling g' mk As.toArray, t, U', L, hT, X', hL, e1, e2, hq, st⟩
/-- not caught here, past rows that name other classes: it goes on to the caller -/
theorem vx_outP {p : Program} {l : Launch} {e : Env} {R : Room} {s : State} {m : MethodId} {args : Array Value} {below : List Frame} {meth : Method} {c : Code} {H : Heap} {locs : List Loc} {cells slots : Nat} {free : Addr → Prop} {ls : Array Slot} {rest : List Value} {Qc : Array Value → State → Outcome → State → Prop} {XC : String → State → State → Prop}
    {pc : Nat} {own E : String} {ce : Cell} {q : Addr} {mc ms : Nat} (hown : s.vm.findClass own = some m.cls) (hlocks : meth.locks = false)
    (hpass : ∀ z ∈ c.exceptionTable.toList, covers z pc = false ∨ (z.catchType ≠ 0 ∧ ∃ nm : String, (Cond.classLink own z.catchType nm).before args s = true ∧ va_Nc E nm s)) (hcell : H[q]? = some ce) (hv : ce.vm = .none) (hcl : s.vm.findClass E = some ce.cls)
    (hx : ∀ t : State, t.heap = H → s.vm.Alike t.vm → XC E s t) (hf : ∀ z ∈ locs, free z.base) (hc : cells ≤ mc) (hs : slots ≤ ms) :
    vx_W p l e R s m args below meth c H locs cells slots (vx_MQ below Qc XC args s mc ms free) (F0 m pc ls rest) q := by
  intro T hT X
  have hpl : e.platform.magicAccessors = ({} : Platform).magicAccessors := by rw [X.admits.platform]
  obtain ⟨vm', hW', X', st⟩ := Stand.outThrough X hlocks q (g := F0 m pc ls rest) rfl rfl rfl (cell := ce) (by rw [hT]; exact hcell) (by rw [hv]; rfl)
    (by obtain ⟨k9, h9, -⟩ := Vm.findClass_spec hcl; exact ⟨k9, h9⟩) (fun z hz => by
      rcases hpass z hz with h | ⟨hz0, nm, hl1, hn1⟩
      · exact Or.inl h
      · obtain ⟨c6, hc6, hcl6⟩ := Cond.classLink_spec hown hl1 e.platform hpl
        obtain ⟨a8, b8, h1, h2, h3⟩ := hn1
        cases Option.some.inj (h1.symm.trans hcl)
        cases Option.some.inj (h2.symm.trans hc6)
        exact Or.inr ⟨hz0, _, hcl6, h3⟩)
  obtain ⟨g₀, hfr⟩ := X'.frames_eq
  have hcell9 : ((T.setVm vm').setFrames (.throwing q :: below)).heap[q]? = some ce := by
    show T.heap[q]? = some ce
    rw [hT]; exact hcell
  have hend : Ended ((T.setVm vm').setFrames (.throwing q :: below)) below (.threw q) := State.frames_setFrames _ (State.cur_lt_of_frames hfr)
  refine ⟨(T.setVm vm').setFrames (.throwing q :: below), ?_, .threw q, X'.here.running, hend, Or.inr ⟨q, rfl, E, ce, locs, hx _ hT (X'.ends _).1.alike, hcell9, hv, hcl, (X'.ends _).1, (X'.ends _).2.mono hc hs, hf⟩⟩
  rw [X.pushThrowing_eq]
  exact st
/-- a thing of a world lies in the heap -/
theorem vx_lt {D : va_G} {cl : List vw_C} {ws : va_W} {H1 : Heap} (h : va_P D cl ws H1) {k : Nat} {q : Nat × va_E} (hk : ws[k]? = some q) : q.1 < H1.size := (h k q hk).lt
end VXS
/-! ===== END ===== -/
/-! ===== BEGIN methods with a table of their own: called by a name, returning or throwing ===== -/
section VXH
/-! vx_backW, vx_callVX, vx_callSX, vx_callVW, vx_runVW, vx_runVX, vx_runSX, vx_ofWH follow the same proofs as their sisters above (Free/Laws.lean, Shelf42/LK1.lean); vx_outP calls Shelf42/NT130.lean (outThrough). -/
section
variable {l : Launch} {R : Room} {p : Program} {e : Env} {below : List Frame} {s : State} {sargs : Array Value} {y : MethodName} {len W9 : Nat}
theorem vx_backW {ws : List Cond} {rm : Room} {Pc : Array Value → State → Prop} {Qc : Array Value → State → Outcome → State → Prop} {XC : String → State → State → Prop} {mc ms : Nat} {free : Addr → Prop} {bytes : ByteArray} {maxL : Nat} {ret : Option FieldType} {hh : List (Nat × Nat × Nat × Nat)}
    (hM : vx_Met l y ws rm Pc Qc XC mc ms free) (hblind : FrameBlind Pc) (hrc : rm.cells = mc) (hrs : rm.slots = ms)
    (hframes : rm.frames + 1 ≤ R.frames) (hlocals : W9 + (maxL + 11) + rm.locals ≤ R.locals)
    (hws : ∀ w ∈ ws, ∀ a' U, s.WarmedH U.vm → w.before a' U = true) (hcode : Cond.codeWith y bytes maxL ret hh ∈ ws) (hinit : ∀ a' U, s.WarmedH U.vm → (Cond.initialized y.cls).before a' U = true) :
    vx_Back l R p e below s sargs y len W9 (PreOf R mc ms Pc) (PostOf Qc mc ms free) (vx_Post XC mc ms free) := by
  intro m meth c A g ig mk a X hg hsize hdg hW hn hp
  have h1 : (headSpec ws rm).pre.before a A.U = true := atoms_intro fun w hw => hws w hw _ _ X.warmed
  have h2 : (Cond.codeWith y bytes maxL ret hh).before a A.U = true := hws _ hcode _ _ X.warmed
  have h3 : (Cond.initialized y.cls).before a A.U = true := hinit _ _ X.warmed
  have h4 : A.cells + (headSpec ws rm).room.cells ≤ R.cells := by rw [show (headSpec ws rm).room.cells = mc from hrc]; exact hp.1
  have h5 : A.slots + (headSpec ws rm).room.slots ≤ R.slots := by rw [show (headSpec ws rm).room.slots = ms from hrs]; exact hp.2.1
  have hPc : Pc a (A.U.calling g mk a) := hblind _ _ _ _ hp.2.2
  obtain ⟨U, Ls, c0, s0⟩ := A
  dsimp only [Pt.U, Pt.locs, Pt.cells, Pt.slots] at h1 h2 h3 h4 h5 X hn hPc ⊢
  obtain ⟨m9, methY, cY, hn9, hmY, hcY, -, hlY, -⟩ := Cond.codeWith_spec h2
  cases Option.some.inj (hn9.symm.trans hn)
  obtain ⟨kY, hkY, -⟩ := className_of_methodNamed hn
  have hinitY : kY.init = .initialized := Cond.initialized_spec (findClass_of_methodNamed hn) hkY h3
  have h : At U g.method c below := by rw [hg]; exact X.here
  have hlocals9 : W9 + (maxL + 11) + (headSpec ws rm).room.locals ≤ R.locals := hlocals
  have happ : (headSpec ws rm).appliesLoose y e.platform (U.calling g mk a) = true :=
    Spec.appliesLoose_calling (g := g) h hdg hn hkY hinitY
      (X.room_calling (g := g) (R' := (headSpec ws rm).room) hsize hmY hcY hframes (by rw [hlY]; omega) h4 h5) h1
  obtain ⟨mid, hmid⟩ := h.above
  have hfr : (U.setTop g).frames = (.java g :: mid) ++ below := by rw [State.frames_setTop' g h.top, hmid]; rfl
  obtain ⟨o, s₂, hsteps, -, hend, hq⟩ := Steps.callFree hM p X.admits X.cas X.clock (acts := []) hfr happ hPc trivial
  have hq' : vx_Q Qc XC mc ms free a (U.calling g mk a) o s₂ := hq
  rw [State.frames_setTop' g h.top] at hend
  obtain ⟨g₀, hg0⟩ := Option.isSome_iff_exists.mp h.top
  obtain ⟨r, hr⟩ := State.topJava?_eq_some.mp hg0
  have hr' : (({ U with heap := s₂.heap, slotsUsed := s₂.slotsUsed } : State).setVm s₂.vm).frames = .java g₀ :: r := hr
  rcases hq' with ⟨hqc, L, hfe, hL⟩ | ⟨q, rfl, E, ce, L, hx, hce, hcv, hcl, hW₂, hsm, hL⟩
  · obtain ⟨⟨v, rfl⟩, hW₂, e2, q2, q3, q4, q5, q6⟩ := id hfe
    have e3 : s₂ = ({ (U.calling g mk a).setFrames s₂.frames with heap := s₂.heap, slotsUsed := s₂.slotsUsed } : State).setVm s₂.vm := by
      have : s₂ = ({ s₂ with vm := (U.calling g mk a).vm } : State).setVm s₂.vm := rfl
      rw [e2] at this
      exact this
    obtain ⟨c₂, i₂, len₂, hc₂, hd₂, hf₂⟩ := hend
    have hW' : U.WarmedH s₂.vm := hW₂
    have hcc : c₂ = c := by
      have h1 : s₂.code? g.method = U.code? g.method := by
        rw [State.code?_eq, State.code?_eq, hW'.alike.method?]
      exact Option.some.inj (hc₂.symm.trans (h1.trans h.code))
    subst hcc
    have hlen : len₂ = len := by rw [hdg] at hd₂; cases hd₂; rfl
    subst hlen
    have hs₂ : s₂ = (({ U with heap := s₂.heap, slotsUsed := s₂.slotsUsed } : State).setVm s₂.vm).setTop { g with pc := g.pc + len₂, stack := v.toList ++ g.stack } := by
      refine e3.trans ?_
      rw [hf₂, State.calling_eq h.top, State.setFrames_setFrames, State.setTop_of_frames _ hr', hr]
      rfl
    have hsame : U.sameButNew ({ U with heap := s₂.heap, slotsUsed := s₂.slotsUsed } : State) L mc ms := by
      refine ⟨?_, q2, q3, q4, q5, q6⟩
      obtain ⟨t, ht, -⟩ := State.frames_cons hr
      show ({ U with heap := s₂.heap, slotsUsed := s₂.slotsUsed } : State) = { U.setFrames U.frames with heap := s₂.heap, slotsUsed := s₂.slotsUsed }
      rw [State.setFrames_self ht]
    subst hg
    refine Or.inl ⟨v, ⟨(({ U with heap := s₂.heap, slotsUsed := s₂.slotsUsed } : State).setVm s₂.vm), Ls ++ L, c0 + mc, s0 + ms⟩,
      ⟨X.admits, X.cas, X.clock, X.frames, X.room, X.hears, X.method, X.code, (X.here.setHeapUsed s₂.heap s₂.slotsUsed).setVm hW'.alike, X.tail, State.WarmedH.trans X.warmed hW', X.limits, X.bytes, X.same.trans (hsame.setVm s.vm)⟩,
      ⟨g, mk, s₂, L, rfl, rfl, hqc, rfl, hL, rfl, rfl⟩, ?_⟩
    show Steps p.tables e below _ ((({ U with heap := s₂.heap, slotsUsed := s₂.slotsUsed } : State).setVm s₂.vm).setTop { g with pc := g.pc + len₂, stack := v.toList ++ g.stack })
    rw [← hs₂]
    exact hsteps
  · obtain ⟨e2, q2, q3, q4, q5, q6⟩ := id hsm
    have e3 : s₂ = ({ (U.calling g mk a).setFrames s₂.frames with heap := s₂.heap, slotsUsed := s₂.slotsUsed } : State).setVm s₂.vm := by
      have : s₂ = ({ s₂ with vm := (U.calling g mk a).vm } : State).setVm s₂.vm := rfl
      rw [e2] at this
      exact this
    have hf₂ : s₂.frames = .throwing q :: .java g :: U.frames.tail := hend
    have hW' : U.WarmedH s₂.vm := hW₂
    have hs₂ : s₂ = ((({ U with heap := s₂.heap, slotsUsed := s₂.slotsUsed } : State).setVm s₂.vm).setTop g).pushFrame (.throwing q) := by
      refine e3.trans ?_
      rw [hf₂, State.calling_eq h.top, State.setFrames_setFrames, State.pushFrame, State.frames_setTop _ hr', State.setTop_of_frames _ hr', State.setFrames_setFrames, hr]
      rfl
    have hsame : U.sameButNew ({ U with heap := s₂.heap, slotsUsed := s₂.slotsUsed } : State) L mc ms := by
      refine ⟨?_, q2, q3, q4, q5, q6⟩
      obtain ⟨t, ht, -⟩ := State.frames_cons hr
      show ({ U with heap := s₂.heap, slotsUsed := s₂.slotsUsed } : State) = { U.setFrames U.frames with heap := s₂.heap, slotsUsed := s₂.slotsUsed }
      rw [State.setFrames_self ht]
    subst hg
    refine Or.inr ⟨q, ⟨(({ U with heap := s₂.heap, slotsUsed := s₂.slotsUsed } : State).setVm s₂.vm), Ls ++ L, c0 + mc, s0 + ms⟩,
      ⟨X.admits, X.cas, X.clock, X.frames, X.room, X.hears, X.method, X.code, (X.here.setHeapUsed s₂.heap s₂.slotsUsed).setVm hW'.alike, X.tail, State.WarmedH.trans X.warmed hW', X.limits, X.bytes, X.same.trans (hsame.setVm s.vm)⟩,
      ⟨g, mk, s₂, L, E, ce, rfl, rfl, hx, hce, hcv, hcl, rfl, hL, rfl, rfl⟩, ?_⟩
    show Steps p.tables e below _ (((({ U with heap := s₂.heap, slotsUsed := s₂.slotsUsed } : State).setVm s₂.vm).setTop g).pushFrame (.throwing q))
    rw [← hs₂]
    exact hsteps
end
variable {p : Program} {l : Launch} {e : Env} {R : Room} {s : State} {m : MethodId} {args : Array Value} {below : List Frame} {meth : Method} {c : Code} {T : State} {H : Heap} {locs : List Loc} {cells slots : Nat}
theorem vx_callVX (X : Stand p l e R s m args below meth c T locs cells slots) (hexec : p.tables.exec = Jvm.exec) {own C : String} {index : Nat} {y : MethodName} {bytes : ByteArray} {maxL : Nat} {ret : Option FieldType} {hh : List (Nat × Nat × Nat × Nat)}
    (hown : s.vm.findClass own = some m.cls) (hlink : (Cond.methodLink own index y).before args s = true) (hinst : (Cond.instanceMethod y).before args s = true) (hsel : (Cond.selects C y y).before args s = true)
    (hcode : (Cond.codeWith y bytes maxL ret hh).before args s = true) (hy : y.cls ≠ "java/lang/invoke/MethodHandle" ∧ y.cls ≠ "java/lang/invoke/VarHandle")
    {W9 : Nat} {Pre : Pt → Array Value → Prop} {Post : Pt → Array Value → Option Value → Pt → Prop} {PostX : Pt → Array Value → Addr → Pt → Prop} (hK : vx_Back l R p e below s args y 3 W9 Pre Post PostX)
    {b : Addr} {cellB : Cell} (hcell : T.heap[b]? = some cellB) (hobj : cellB.vm.isStatics = false) (hcls : s.vm.findClass C = some cellB.cls)
    {g : JFrame} (hg : g.method = m) (hsize : g.locals.size = c.maxLocals) {argsL rest : List Value} (hlen : ∀ sig, parseMethodDescriptor y.desc = some sig → argsL.length = sig.parameters.length)
    (hstack : g.stack = argsL.reverse ++ .ref b :: rest) (hW : 2 * g.monitorRoom + (rest.map fun v => v.category).sum ≤ W9) (hdg : decode c.code g.pc = .ok (.invokevirtual index, 3))
    (hpre : ∀ vm₁, s.WarmedH vm₁ → Pre ⟨T.setVm vm₁, locs, cells, slots⟩ (Value.ref b :: argsL).toArray) :
    (∃ (v : Option Value) (vm₁ : Vm) (B : Pt), s.WarmedH vm₁ ∧ Stand p l e R s m args below meth c B.U B.locs B.cells B.slots ∧ Post ⟨T.setVm vm₁, locs, cells, slots⟩ (Value.ref b :: argsL).toArray v B ∧
      ∀ target, Steps p.tables e below (B.U.setTop { g with pc := g.pc + 3, stack := v.toList ++ rest }) target → Steps p.tables e below (T.setTop g) target) ∨
    (∃ (q : Addr) (vm₁ : Vm) (B : Pt), s.WarmedH vm₁ ∧ Stand p l e R s m args below meth c B.U B.locs B.cells B.slots ∧ PostX ⟨T.setVm vm₁, locs, cells, slots⟩ (Value.ref b :: argsL).toArray q B ∧
      Steps p.tables e below (T.setTop g) ((B.U.setTop { g with stack := rest }).pushFrame (.throwing q))) := by
  obtain ⟨mk, methM, hnamed, hmethM, hstM, habM⟩ := Cond.instanceMethod_spec hinst
  obtain ⟨m8, methM', cM, hn8, hmethM', -, -, -, -, -, -, hsigM⟩ := Cond.codeWith_spec hcode
  cases Option.some.inj (hn8.symm.trans hnamed)
  cases hmethM.symm.trans hmethM'
  obtain ⟨c2, r2, m2, q1, q2, q3, q4, kP, hkP, hkPi⟩ := Cond.selects_spec hsel
  cases hcls.symm.trans q1
  cases (State.methodFound?_of_named hnamed hy).symm.trans q2
  cases hnamed.symm.trans q3
  have hselP : selectMethod e.platform s.vm cellB.cls mk = .method mk := by rw [Launch.admits_selectMethod X.admits]; exact q4
  obtain ⟨vm₁, X₁, hstep₁⟩ := X.invokevirtual hexec hown hlink hnamed hmethM hstM hkP hkPi hy (a := b) (cell := cellB) hcell
    (fun z h => by rw [h] at hobj; cases hobj) hselP hmethM habM hkP hkPi (g := g) hg (argsL := argsL) (rest := rest) (hlen _ hsigM) hstack hdg
  rcases hK m meth c ⟨T.setVm vm₁, locs, cells, slots⟩ { g with stack := rest } (.invokevirtual index) mk (Value.ref b :: argsL).toArray X₁ hg hsize hdg hW (X₁.named hnamed) (hpre vm₁ X₁.warmed) with ⟨v, B, X', hpost, hsteps⟩ | ⟨q, B, X', hpost, hsteps⟩
  · exact Or.inl ⟨v, vm₁, B, X₁.warmed, X', hpost, fun target h => hstep₁ _ fun acts => by rw [doInvoke_state]; exact hsteps.trans h⟩
  · exact Or.inr ⟨q, vm₁, B, X₁.warmed, X', hpost, hstep₁ _ fun acts => by rw [doInvoke_state]; exact hsteps⟩
theorem vx_callSX (X : Stand p l e R s m args below meth c T locs cells slots) (hexec : p.tables.exec = Jvm.exec) {own : String} {index : Nat} {y : MethodName} {bytes : ByteArray} {maxL : Nat} {ret : Option FieldType} {hh : List (Nat × Nat × Nat × Nat)}
    (hown : s.vm.findClass own = some m.cls) (hlink : (Cond.methodLink own index y).before args s = true) (hstat : (Cond.static y).before args s = true) (hinit : (Cond.initialized y.cls).before args s = true)
    (hcode : (Cond.codeWith y bytes maxL ret hh).before args s = true) (hy : y.cls ≠ "java/lang/invoke/MethodHandle" ∧ y.cls ≠ "java/lang/invoke/VarHandle")
    {W9 : Nat} {Pre : Pt → Array Value → Prop} {Post : Pt → Array Value → Option Value → Pt → Prop} {PostX : Pt → Array Value → Addr → Pt → Prop} (hK : vx_Back l R p e below s args y 3 W9 Pre Post PostX)
    {g : JFrame} (hg : g.method = m) (hsize : g.locals.size = c.maxLocals) {argsL rest : List Value} (hlen : ∀ sig, parseMethodDescriptor y.desc = some sig → argsL.length = sig.parameters.length)
    (hstack : g.stack = argsL.reverse ++ rest) (hW : 2 * g.monitorRoom + (rest.map fun v => v.category).sum ≤ W9) (hdg : decode c.code g.pc = .ok (.invokestatic index, 3))
    (hpre : ∀ vm₁, s.WarmedH vm₁ → Pre ⟨T.setVm vm₁, locs, cells, slots⟩ argsL.toArray) :
    (∃ (v : Option Value) (vm₁ : Vm) (B : Pt), s.WarmedH vm₁ ∧ Stand p l e R s m args below meth c B.U B.locs B.cells B.slots ∧ Post ⟨T.setVm vm₁, locs, cells, slots⟩ argsL.toArray v B ∧
      ∀ target, Steps p.tables e below (B.U.setTop { g with pc := g.pc + 3, stack := v.toList ++ rest }) target → Steps p.tables e below (T.setTop g) target) ∨
    (∃ (q : Addr) (vm₁ : Vm) (B : Pt), s.WarmedH vm₁ ∧ Stand p l e R s m args below meth c B.U B.locs B.cells B.slots ∧ PostX ⟨T.setVm vm₁, locs, cells, slots⟩ argsL.toArray q B ∧
      Steps p.tables e below (T.setTop g) ((B.U.setTop { g with stack := rest }).pushFrame (.throwing q))) := by
  obtain ⟨mk, methM, cM, hnamed, hmethM, -, -, -, -, -, -, hsigM⟩ := Cond.codeWith_spec hcode
  have hstatic : methM.isStatic = true := Cond.static_spec hnamed hmethM hstat
  obtain ⟨kP, hkP, -⟩ := className_of_methodNamed hnamed
  have hinitP : kP.init = .initialized := Cond.initialized_spec (findClass_of_methodNamed hnamed) hkP hinit
  obtain ⟨vm₁, X₁, hstep₁⟩ := X.invokestatic hexec hown hlink hnamed hmethM hstatic hkP hinitP hy (g := g) hg (argsL := argsL) (rest := rest) (hlen _ hsigM) hstack hdg
  rcases hK m meth c ⟨T.setVm vm₁, locs, cells, slots⟩ { g with stack := rest } (.invokestatic index) mk argsL.toArray X₁ hg hsize hdg hW (X₁.named hnamed) (hpre vm₁ X₁.warmed) with ⟨v, B, X', hpost, hsteps⟩ | ⟨q, B, X', hpost, hsteps⟩
  · exact Or.inl ⟨v, vm₁, B, X₁.warmed, X', hpost, fun target h => hstep₁ _ fun acts => by rw [doInvoke_state]; exact hsteps.trans h⟩
  · exact Or.inr ⟨q, vm₁, B, X₁.warmed, X', hpost, hstep₁ _ fun acts => by rw [doInvoke_state]; exact hsteps⟩
theorem vx_callVW (X : Stand p l e R s m args below meth c T locs cells slots) (hexec : p.tables.exec = Jvm.exec) {own C : String} {index : Nat} {y : MethodName} {bytes : ByteArray} {maxL : Nat} {ret : Option FieldType} {hh : List (Nat × Nat × Nat × Nat)}
    (hown : s.vm.findClass own = some m.cls) (hlink : (Cond.methodLink own index y).before args s = true) (hinst : (Cond.instanceMethod y).before args s = true) (hsel : (Cond.selects C y y).before args s = true)
    (hcode : (Cond.codeWith y bytes maxL ret hh).before args s = true) (hy : y.cls ≠ "java/lang/invoke/MethodHandle" ∧ y.cls ≠ "java/lang/invoke/VarHandle")
    {W9 : Nat} {Pre : Pt → Array Value → Prop} {Post : Pt → Array Value → Option Value → Pt → Prop} (hK : Back l R p e below s args y 3 W9 Pre Post)
    {b : Addr} {cellB : Cell} (hcell : T.heap[b]? = some cellB) (hobj : cellB.vm.isStatics = false) (hcls : s.vm.findClass C = some cellB.cls)
    {g : JFrame} (hg : g.method = m) (hsize : g.locals.size = c.maxLocals) {argsL rest : List Value} (hlen : ∀ sig, parseMethodDescriptor y.desc = some sig → argsL.length = sig.parameters.length)
    (hstack : g.stack = argsL.reverse ++ .ref b :: rest) (hW : 2 * g.monitorRoom + (rest.map fun v => v.category).sum ≤ W9) (hdg : decode c.code g.pc = .ok (.invokevirtual index, 3))
    (hpre : ∀ vm₁, s.WarmedH vm₁ → Pre ⟨T.setVm vm₁, locs, cells, slots⟩ (Value.ref b :: argsL).toArray) :
    ∃ (v : Option Value) (vm₁ : Vm) (B : Pt), s.WarmedH vm₁ ∧ Stand p l e R s m args below meth c B.U B.locs B.cells B.slots ∧ Post ⟨T.setVm vm₁, locs, cells, slots⟩ (Value.ref b :: argsL).toArray v B ∧
      ∀ target, Steps p.tables e below (B.U.setTop { g with pc := g.pc + 3, stack := v.toList ++ rest }) target → Steps p.tables e below (T.setTop g) target := by
  obtain ⟨mk, methM, hnamed, hmethM, hstM, habM⟩ := Cond.instanceMethod_spec hinst
  obtain ⟨m8, methM', cM, hn8, hmethM', -, -, -, -, -, -, hsigM⟩ := Cond.codeWith_spec hcode
  cases Option.some.inj (hn8.symm.trans hnamed)
  cases hmethM.symm.trans hmethM'
  obtain ⟨c2, r2, m2, q1, q2, q3, q4, kP, hkP, hkPi⟩ := Cond.selects_spec hsel
  cases hcls.symm.trans q1
  cases (State.methodFound?_of_named hnamed hy).symm.trans q2
  cases hnamed.symm.trans q3
  have hselP : selectMethod e.platform s.vm cellB.cls mk = .method mk := by rw [Launch.admits_selectMethod X.admits]; exact q4
  obtain ⟨vm₁, X₁, hstep₁⟩ := X.invokevirtual hexec hown hlink hnamed hmethM hstM hkP hkPi hy (a := b) (cell := cellB) hcell
    (fun z h => by rw [h] at hobj; cases hobj) hselP hmethM habM hkP hkPi (g := g) hg (argsL := argsL) (rest := rest) (hlen _ hsigM) hstack hdg
  obtain ⟨v, B, X', hpost, hsteps⟩ := hK m meth c ⟨T.setVm vm₁, locs, cells, slots⟩ { g with stack := rest } (.invokevirtual index) mk (Value.ref b :: argsL).toArray X₁ hg hsize hdg hW (X₁.named hnamed) (hpre vm₁ X₁.warmed)
  exact ⟨v, vm₁, B, X₁.warmed, X', hpost, fun target h => hstep₁ _ fun acts => by rw [doInvoke_state]; exact hsteps.trans h⟩
abbrev vx_CVW (R : Room) (s : State) (args : Array Value) (own C : String) (index : Nat) (y : MethodName) (bytes : ByteArray) (maxL : Nat) (ret : Option FieldType) (hh : List (Nat × Nat × Nat × Nat)) (ws : List Cond) (rm : Room) (mc ms n : Nat) : Prop :=
  (rm.cells = mc ∧ rm.slots = ms ∧ rm.frames + 1 ≤ R.frames ∧ 8 + (maxL + 11) + rm.locals ≤ R.locals ∧ (∀ w ∈ ws, ∀ (a' : Array Value) (U : State), s.WarmedH U.vm → w.before a' U = true) ∧ Cond.codeWith y bytes maxL ret hh ∈ ws) ∧
  (Cond.codeWith y bytes maxL ret hh).before args s = true ∧ (Cond.initialized y.cls).before args s = true ∧ (y.cls ≠ "java/lang/invoke/MethodHandle" ∧ y.cls ≠ "java/lang/invoke/VarHandle") ∧
  (∀ sig, parseMethodDescriptor y.desc = some sig → n = sig.parameters.length) ∧ (Cond.methodLink own index y).before args s = true ∧ (Cond.instanceMethod y).before args s = true ∧ (Cond.selects C y y).before args s = true
theorem vx_cwVW {own C : String} {index maxL mc ms : Nat} {y : MethodName} {bytes : ByteArray} {ret : Option FieldType} {hh : List (Nat × Nat × Nat × Nat)} {Ts ws ws' : List Cond} {rm : Room} (n : Nat) (ht : ∀ w ∈ Ts, w.before args s = true) (hT : GoodIn Ts (wsV own index C y ws)) (hw : ws = Cond.codeWith y bytes maxL ret hh :: ws') (hrc : rm.cells = mc) (hrs : rm.slots = ms)
    (hd : y.cls = C ∧ y.cls ≠ "java/lang/invoke/MethodHandle" ∧ y.cls ≠ "java/lang/invoke/VarHandle" ∧ (parseMethodDescriptor y.desc).map (fun d => d.parameters.length) = some n) (hR : rm.frames + 1 ≤ R.frames ∧ 8 + (maxL + 11) + rm.locals ≤ R.locals) :
    vx_CVW R s args own C index y bytes maxL ret hh ws rm mc ms n := by
  obtain ⟨hC, hd⟩ := hd
  subst hC
  have ok : ∀ w ∈ wsV own index y.cls y ws, w.before args s = true := fun w h => ht w (hT w h).1
  have hG : GoodIn Ts ws := fun w h => hT w (by unfold wsV; exact List.mem_append_right _ h)
  have hc : Cond.codeWith y bytes maxL ret hh ∈ ws := by rw [hw]; exact List.mem_cons_self
  refine ⟨⟨hrc, hrs, hR.1, hR.2, pay_in ht hG, hc⟩, ht _ (hG _ hc).1, ok _ (by simp [wsV]), ⟨hd.1, hd.2.1⟩, fun sig h => ?_, ok _ (by simp [wsV]), ok _ (by simp [wsV]), ok _ (by simp [wsV])⟩
  have h2 := hd.2.2
  rw [h] at h2
  exact (Option.some.inj h2).symm
theorem vx_runVW {y : MethodName} {bytes cc : ByteArray} {maxL nL mc ms n index : Nat} {ret : Option FieldType} {hh : List (Nat × Nat × Nat × Nat)} {ws : List Cond} {rm : Room} {Pc : Array Value → State → Prop} {Qc : Array Value → State → Outcome → State → Prop} {free : Addr → Prop} {Ts : List Cond} {own C : String} {b : Addr} {As rest : List Value} {g : JFrame}
    (S : CallFix p m c cc nL s args Ts own) (hM : Met l y ws rm Pc Qc mc ms free) (cw : vx_CVW R s args own C index y bytes maxL ret hh ws rm mc ms n) (hp : PreV s H C b Pc As)
    (hg : g.method = m) (hn : As.length = n) (hsize : g.locals.size = nL) (hstack : g.stack = As.reverse ++ .ref b :: rest) (hW : 2 * g.monitorRoom + (rest.map fun v => v.category).sum ≤ 8) (hdg : decode cc g.pc = .ok (.invokevirtual index, 3)) (hf : cells + mc ≤ R.cells ∧ slots + ms ≤ R.slots) :
    va_Run p l e R s m args below meth c H locs cells slots mc ms g rest (Qc (Value.ref b :: As).toArray) free := by
  obtain ⟨⟨hrc, hrs, hfr, hlo, hws, hcw⟩, hcode, hini, hy, hlen, hl, hin, hse⟩ := cw
  have hK : Back l R p e below s args y 3 8 (PreOf R mc ms Pc) (PostOf Qc mc ms free) := va_backW (hh := hh) (bytes := bytes) (maxL := maxL) (ret := ret) hM hp.1 hrc hrs hfr hlo hws hcw (fun a' U hW => word_at hW (Or.inl (by first | rfl | simp [Cond.onTables, Cond.keeps, Cond.steady])) hini)
  obtain ⟨hx, hb, hml, ho, -⟩ := S
  obtain ⟨-, ⟨cellB, hcB, hoB, hclB⟩, hPc⟩ := hp
  intro T hT X
  obtain ⟨v, vm₁, ⟨U', l2, c2, s2⟩, hW₁, X', ⟨g', mk, t, L, e1, e2, hq, h1, hL, h2, h3⟩, st⟩ := vx_callVW X hx (C := C) (hh := hh) (bytes := bytes) (maxL := maxL) (ret := ret) ho hl hin hse hcode hy hK (by rw [hT]; exact hcB) hoB hclB hg (hsize.trans hml.symm) (argsL := As) (rest := rest) (fun sig h => hn.trans (hlen sig h)) hstack hW (by rw [hb]; exact hdg)
    (fun vm₁ hW₁ => ⟨hf.1, hf.2, hPc (T.setVm vm₁) hT hW₁⟩)
  dsimp only [Pt.U, Pt.locs, Pt.cells, Pt.slots] at X' e1 e2 h1 h2 h3 st
  subst h1; subst h2; subst h3
  exact ⟨v, (T.setVm vm₁).calling g' mk (Value.ref b :: As).toArray, t, U', L, hT, X', hL, e1, e2, hq, st⟩
section
variable {y : MethodName} {bytes cc : ByteArray} {maxL nL mc ms n index : Nat} {ret : Option FieldType} {ws : List Cond} {rm : Room} {Pc : Array Value → State → Prop} {Qc : Array Value → State → Outcome → State → Prop} {XC : String → State → State → Prop} {free : Addr → Prop} {Ts : List Cond} {own C : String} {b : Addr} {As rest : List Value} {g : JFrame}
theorem vx_runVX {hh : List (Nat × Nat × Nat × Nat)} (S : CallFix p m c cc nL s args Ts own) (hM : vx_Met l y ws rm Pc Qc XC mc ms free) (cw : vx_CVW R s args own C index y bytes maxL ret hh ws rm mc ms n) (hp : PreV s H C b Pc As)
    (hg : g.method = m) (hn : As.length = n) (hsize : g.locals.size = nL) (hstack : g.stack = As.reverse ++ .ref b :: rest) (hW : 2 * g.monitorRoom + (rest.map fun v => v.category).sum ≤ 8) (hdg : decode cc g.pc = .ok (.invokevirtual index, 3)) (hf : cells + mc ≤ R.cells ∧ slots + ms ≤ R.slots) :
    vx_Run p l e R s m args below meth c H locs cells slots mc ms g rest (Qc (Value.ref b :: As).toArray) XC free := by
  obtain ⟨⟨hrc, hrs, hfr, hlo, hws, hcw⟩, hcode, hini, hy, hlen, hl, hin, hse⟩ := cw
  have hK : vx_Back l R p e below s args y 3 8 (PreOf R mc ms Pc) (PostOf Qc mc ms free) (vx_Post XC mc ms free) := vx_backW (hh := hh) (bytes := bytes) (maxL := maxL) (ret := ret) hM hp.1 hrc hrs hfr hlo hws hcw (fun a' U hW => word_at hW (Or.inl (by first | rfl | simp [Cond.onTables, Cond.keeps, Cond.steady])) hini)
  obtain ⟨hx, hb, hml, ho, -⟩ := S
  obtain ⟨-, ⟨cellB, hcB, hoB, hclB⟩, hPc⟩ := hp
  intro T hT X
  rcases vx_callVX X hx (C := C) (hh := hh) (bytes := bytes) (maxL := maxL) (ret := ret) ho hl hin hse hcode hy hK (by rw [hT]; exact hcB) hoB hclB hg (hsize.trans hml.symm) (argsL := As) (rest := rest) (fun sig h => hn.trans (hlen sig h)) hstack hW (by rw [hb]; exact hdg)
    (fun vm₁ hW₁ => ⟨hf.1, hf.2, hPc (T.setVm vm₁) hT hW₁⟩) with ⟨v, vm₁, ⟨U', l2, c2, s2⟩, hW₁, X', ⟨g', mk, t, L, e1, e2, hq, h1, hL, h2, h3⟩, st⟩ | ⟨q, vm₁, ⟨U', l2, c2, s2⟩, hW₁, X', ⟨g', mk, t, L, E, ce, e1, e2, hq, hce, hcv, hcl, h1, hL, h2, h3⟩, st⟩
  · dsimp only [Pt.U, Pt.locs, Pt.cells, Pt.slots] at X' e1 e2 h1 h2 h3 st
    subst h1; subst h2; subst h3
    exact Or.inl ⟨v, (T.setVm vm₁).calling g' mk (Value.ref b :: As).toArray, t, U', L, hT, X', hL, e1, e2, hq, st⟩
  · dsimp only [Pt.U, Pt.locs, Pt.cells, Pt.slots] at X' e1 e2 h1 h2 h3 st hcl
    subst h1; subst h2; subst h3
    exact Or.inr ⟨q, (T.setVm vm₁).calling g' mk (Value.ref b :: As).toArray, t, U', L, E, ce, hT, X', hL, e1, e2, hq, hce, hcv, vx_cls hW₁ hcl, st⟩
theorem vx_runSX {hh : List (Nat × Nat × Nat × Nat)} (S : CallFix p m c cc nL s args Ts own) (hM : vx_Met l y ws rm Pc Qc XC mc ms free) (cw : vx_CSW R s args own index y bytes maxL ret hh ws rm mc ms n) (hp : PreS s H Pc As)
    (hg : g.method = m) (hn : As.length = n) (hsize : g.locals.size = nL) (hstack : g.stack = As.reverse ++ rest) (hW : 2 * g.monitorRoom + (rest.map fun v => v.category).sum ≤ 8) (hdg : decode cc g.pc = .ok (.invokestatic index, 3)) (hf : cells + mc ≤ R.cells ∧ slots + ms ≤ R.slots) :
    vx_Run p l e R s m args below meth c H locs cells slots mc ms g rest (Qc As.toArray) XC free := by
  obtain ⟨⟨hrc, hrs, hfr, hlo, hws, hcw⟩, hcode, hini, hy, hlen, hl, hstt⟩ := cw
  have hK : vx_Back l R p e below s args y 3 8 (PreOf R mc ms Pc) (PostOf Qc mc ms free) (vx_Post XC mc ms free) := vx_backW (hh := hh) (bytes := bytes) (maxL := maxL) (ret := ret) hM hp.1 hrc hrs hfr hlo hws hcw (fun a' U hW => word_at hW (Or.inl (by first | rfl | simp [Cond.onTables, Cond.keeps, Cond.steady])) hini)
  obtain ⟨hx, hb, hml, ho, -⟩ := S
  intro T hT X
  rcases vx_callSX X hx (hh := hh) (bytes := bytes) (maxL := maxL) (ret := ret) ho hl hstt hini hcode hy hK hg (hsize.trans hml.symm) (argsL := As) (rest := rest) (fun sig h => hn.trans (hlen sig h)) hstack hW (by rw [hb]; exact hdg)
    (fun vm₁ hW₁ => ⟨hf.1, hf.2, hp.2 (T.setVm vm₁) hT hW₁⟩) with ⟨v, vm₁, ⟨U', l2, c2, s2⟩, hW₁, X', ⟨g', mk, t, L, e1, e2, hq, h1, hL, h2, h3⟩, st⟩ | ⟨q, vm₁, ⟨U', l2, c2, s2⟩, hW₁, X', ⟨g', mk, t, L, E, ce, e1, e2, hq, hce, hcv, hcl, h1, hL, h2, h3⟩, st⟩
  · dsimp only [Pt.U, Pt.locs, Pt.cells, Pt.slots] at X' e1 e2 h1 h2 h3 st
    subst h1; subst h2; subst h3
    exact Or.inl ⟨v, (T.setVm vm₁).calling g' mk As.toArray, t, U', L, hT, X', hL, e1, e2, hq, st⟩
  · dsimp only [Pt.U, Pt.locs, Pt.cells, Pt.slots] at X' e1 e2 h1 h2 h3 st hcl
    subst h1; subst h2; subst h3
    exact Or.inr ⟨q, (T.setVm vm₁).calling g' mk As.toArray, t, U', L, E, ce, hT, X', hL, e1, e2, hq, hce, hcv, vx_cls hW₁ hcl, st⟩
end
end VXH
theorem vx_ofWH {l : Launch} {y : MethodName} {ws ws' : List Cond} {rm : Room} {Pc : Array Value → State → Prop} {Qc : Array Value → State → Outcome → State → Prop} {XC : String → State → State → Prop} {mc ms : Nat} {free : Addr → Prop} {cc : ByteArray} {maxL : Nat} {ret : Option FieldType} {hh : List (Nat × Nat × Nat × Nat)}
    (hy : plainName y.cls = true) (hw : ws = Cond.codeWith y cc maxL ret hh :: ws')
    (body : ∀ p e s m args below meth c s₁, BodyLoose p l y (headSpec ws rm) cc maxL ret e s m args below meth c s₁ → c.maxLocals = maxL → Pc args s →
      W p l e (headSpec ws rm).room s m args below meth c s.heap [] 0 0 (vx_MQ below Qc XC args s mc ms free) (entryFrame m args maxL)) : vx_Met l y ws rm Pc Qc XC mc ms free := by
  refine MetFree.of_bodyS (code := cc) (maxLocals := maxL) (ret := ret) hy ?_ ?_
  · intro args s m h hn
    obtain ⟨m9, meth, c, hn9, h1, h2, h3, h4, -, h5, h6, -⟩ := Cond.codeWith_spec (atoms_spec (ws := ws) h _ (by rw [hw]; exact List.mem_cons_self))
    cases hn.symm.trans hn9
    exact ⟨meth, c, h1, h2, h3, h4, h5, h6⟩
  · intro p e s m args below meth c s₁ B hml hP _
    have hh0 : s₁.heap = s.heap := by rw [B.state]; rfl
    obtain ⟨t, a1, o, b1, b2, b3⟩ := body p e s m args below meth c s₁ B hml hP s₁ hh0 (Stand.of_body B)
    exact ⟨t, o, a1, b1, b2, b3⟩
/-! ===== END ===== -/
end
section
/-! ===== BEGIN printed: names, fields, word lists, decode rows ===== -/
def RX0 : String := "MoveList$Attacks"
def TX0 : u_T := fun k => match k with
  | _ => ("", "", "", false)
def tyX0 : Nat → FieldType := fun k => match k with
  | _ => .int
abbrev wsX00 : List Cond := u_ws RX0 TX0 0
theorem nmX0 : ∀ a, a < 0 → ∀ b, b < 0 → a ≠ b → (TX0 a).2.1 ≠ (TX0 b).2.1 := by decide +kernel
theorem tyX0_ok : ∀ k, k < 0 → parseFieldDescriptor (TX0 k).2.2.1 = some (tyX0 k) := by decide +kernel
abbrev cX0_ray : ByteArray := prog_2_method_2_code
def yX0_ray : MethodName := ⟨RX0, "ray", "(JJI)J"⟩
abbrev cX0_slide : ByteArray := prog_2_method_3_code
def yX0_slide : MethodName := ⟨RX0, "slide", "(IJJ)J"⟩
abbrev cX0_ofPawns : ByteArray := prog_2_method_4_code
def yX0_ofPawns : MethodName := ⟨RX0, "ofPawns", "(JI)J"⟩
abbrev cX0_ofKnights : ByteArray := prog_2_method_5_code
def yX0_ofKnights : MethodName := ⟨RX0, "ofKnights", "(J)J"⟩
abbrev cX0_ofKings : ByteArray := prog_2_method_6_code
def yX0_ofKings : MethodName := ⟨RX0, "ofKings", "(J)J"⟩
def RX1 : String := "MoveList$Moves"
def TX1 : u_T := fun k => match k with
  | 0 => ("MoveList$Moves", "moves", "[I", true)
  | _ => ("MoveList$Moves", "size", "I", false)
def tyX1 : Nat → FieldType := fun k => match k with
  | 0 => .array .int
  | _ => .int
abbrev wsX10 : List Cond := u_ws RX1 TX1 2
theorem nmX1 : ∀ a, a < 2 → ∀ b, b < 2 → a ≠ b → (TX1 a).2.1 ≠ (TX1 b).2.1 := by decide +kernel
theorem tyX1_ok : ∀ k, k < 2 → parseFieldDescriptor (TX1 k).2.2.1 = some (tyX1 k) := by decide +kernel
abbrev cX1_init : ByteArray := prog_3_method_1_code
def yX1_init : MethodName := ⟨RX1, "<init>", "()V"⟩
abbrev cX1_add : ByteArray := prog_3_method_2_code
def yX1_add : MethodName := ⟨RX1, "add", "(I)V"⟩
abbrev cX1_get : ByteArray := prog_3_method_3_code
def yX1_get : MethodName := ⟨RX1, "get", "(I)I"⟩
abbrev cX1_placeOf : ByteArray := prog_3_method_4_code
def yX1_placeOf : MethodName := ⟨RX1, "placeOf", "(I)I"⟩
def RX2 : String := "MoveList$Position"
def TX2 : u_T := fun k => match k with
  | 0 => ("MoveList$Position", "pieces", "[I", true)
  | 1 => ("MoveList$Position", "squares", "[J", true)
  | 2 => ("MoveList$Position", "side", "I", false)
  | 3 => ("MoveList$Position", "rights", "I", false)
  | 4 => ("MoveList$Position", "passing", "I", false)
  | 5 => ("MoveList$Position", "moves", "[I", true)
  | 6 => ("MoveList$Position", "lost", "[I", true)
  | _ => ("MoveList$Position", "made", "I", false)
def tyX2 : Nat → FieldType := fun k => match k with
  | 0 => .array .int
  | 1 => .array .long
  | 2 => .int
  | 3 => .int
  | 4 => .int
  | 5 => .array .int
  | 6 => .array .int
  | _ => .int
abbrev wsX20 : List Cond := u_ws RX2 TX2 8
theorem nmX2 : ∀ a, a < 8 → ∀ b, b < 8 → a ≠ b → (TX2 a).2.1 ≠ (TX2 b).2.1 := by decide +kernel
theorem tyX2_ok : ∀ k, k < 8 → parseFieldDescriptor (TX2 k).2.2.1 = some (tyX2 k) := by decide +kernel
abbrev cX2_init : ByteArray := prog_4_method_1_code
def yX2_init : MethodName := ⟨RX2, "<init>", "()V"⟩
abbrev cX2_empty : ByteArray := prog_4_method_2_code
def yX2_empty : MethodName := ⟨RX2, "empty", "()V"⟩
abbrev cX2_layOut : ByteArray := prog_4_method_3_code
def yX2_layOut : MethodName := ⟨RX2, "layOut", "()V"⟩
abbrev cX2_set : ByteArray := prog_4_method_4_code
def yX2_set : MethodName := ⟨RX2, "set", "(II)V"⟩
abbrev cX2_pieceOn : ByteArray := prog_4_method_5_code
def yX2_pieceOn : MethodName := ⟨RX2, "pieceOn", "(I)I"⟩
abbrev cX2_squaresOf : ByteArray := prog_4_method_6_code
def yX2_squaresOf : MethodName := ⟨RX2, "squaresOf", "(I)J"⟩
abbrev cX2_squaresOfSide : ByteArray := prog_4_method_7_code
def yX2_squaresOfSide : MethodName := ⟨RX2, "squaresOfSide", "(I)J"⟩
abbrev cX2_attacksOf : ByteArray := prog_4_method_8_code
def yX2_attacksOf : MethodName := ⟨RX2, "attacksOf", "(IJJ)J"⟩
abbrev cX2_kingIsAttacked : ByteArray := prog_4_method_9_code
def yX2_kingIsAttacked : MethodName := ⟨RX2, "kingIsAttacked", "(I)Z"⟩
abbrev cX2_canBePlayed : ByteArray := prog_4_method_10_code
def yX2_canBePlayed : MethodName := ⟨RX2, "canBePlayed", "()Z"⟩
abbrev cX2_deedsOf : ByteArray := prog_4_method_11_code
def yX2_deedsOf : MethodName := ⟨RX2, "deedsOf", "(I)I"⟩
abbrev cX2_play : ByteArray := prog_4_method_12_code
def yX2_play : MethodName := ⟨RX2, "play", "(I)V"⟩
abbrev cX2_takeBack : ByteArray := prog_4_method_13_code
def yX2_takeBack : MethodName := ⟨RX2, "takeBack", "()I"⟩
abbrev cX2_remember : ByteArray := prog_4_method_14_code
def yX2_remember : MethodName := ⟨RX2, "remember", "(II)V"⟩
abbrev cX2_carry : ByteArray := prog_4_method_15_code
def yX2_carry : MethodName := ⟨RX2, "carry", "(II)V"⟩
abbrev cX2_takenSquare : ByteArray := prog_4_method_16_code
def yX2_takenSquare : MethodName := ⟨RX2, "takenSquare", "(II)I"⟩
abbrev cX2_isCastling : ByteArray := prog_4_method_17_code
def yX2_isCastling : MethodName := ⟨RX2, "isCastling", "(II)Z"⟩
abbrev cX2_rookCorner : ByteArray := prog_4_method_18_code
def yX2_rookCorner : MethodName := ⟨RX2, "rookCorner", "(II)I"⟩
abbrev cX2_rightsAt : ByteArray := prog_4_method_19_code
def yX2_rightsAt : MethodName := ⟨RX2, "rightsAt", "(I)I"⟩
abbrev cX2_passedSquare : ByteArray := prog_4_method_20_code
def yX2_passedSquare : MethodName := ⟨RX2, "passedSquare", "(III)I"⟩
def RX3 : String := "MoveList$Sight"
def TX3 : u_T := fun k => match k with
  | 0 => ("MoveList$Sight", "position", "LMoveList$Position;", true)
  | 1 => ("MoveList$Sight", "own", "J", false)
  | 2 => ("MoveList$Sight", "theirs", "J", false)
  | 3 => ("MoveList$Sight", "full", "J", false)
  | 4 => ("MoveList$Sight", "king", "J", false)
  | 5 => ("MoveList$Sight", "cover", "J", false)
  | _ => ("MoveList$Sight", "pins", "J", false)
def tyX3 : Nat → FieldType := fun k => match k with
  | 0 => .object "MoveList$Position"
  | 1 => .long
  | 2 => .long
  | 3 => .long
  | 4 => .long
  | 5 => .long
  | _ => .long
abbrev wsX30 : List Cond := u_ws RX3 TX3 7
theorem nmX3 : ∀ a, a < 7 → ∀ b, b < 7 → a ≠ b → (TX3 a).2.1 ≠ (TX3 b).2.1 := by decide +kernel
theorem tyX3_ok : ∀ k, k < 7 → parseFieldDescriptor (TX3 k).2.2.1 = some (tyX3 k) := by decide +kernel
abbrev cX3_init : ByteArray := prog_5_method_1_code
def yX3_init : MethodName := ⟨RX3, "<init>", "()V"⟩
abbrev cX3_pinnedSquares : ByteArray := prog_5_method_2_code
def yX3_pinnedSquares : MethodName := ⟨RX3, "pinnedSquares", "()J"⟩
abbrev cX3_tally : ByteArray := prog_5_method_3_code
def yX3_tally : MethodName := ⟨RX3, "tally", "()I"⟩
abbrev cX3_fill : ByteArray := prog_5_method_4_code
def yX3_fill : MethodName := ⟨RX3, "fill", "(LMoveList$Moves;)V"⟩
abbrev cX3_addMoves : ByteArray := prog_5_method_5_code
def yX3_addMoves : MethodName := ⟨RX3, "addMoves", "(LMoveList$Moves;IJ)V"⟩
abbrev cX3_isPawn : ByteArray := prog_5_method_6_code
def yX3_isPawn : MethodName := ⟨RX3, "isPawn", "(I)Z"⟩
abbrev cX3_survey : ByteArray := prog_5_method_7_code
def yX3_survey : MethodName := ⟨RX3, "survey", "()V"⟩
abbrev cX3_judgeLine : ByteArray := prog_5_method_8_code
def yX3_judgeLine : MethodName := ⟨RX3, "judgeLine", "(J)V"⟩
abbrev cX3_targetsOf : ByteArray := prog_5_method_9_code
def yX3_targetsOf : MethodName := ⟨RX3, "targetsOf", "(I)J"⟩
abbrev cX3_pinLine : ByteArray := prog_5_method_10_code
def yX3_pinLine : MethodName := ⟨RX3, "pinLine", "(J)J"⟩
abbrev cX3_pawnWays : ByteArray := prog_5_method_11_code
def yX3_pawnWays : MethodName := ⟨RX3, "pawnWays", "(J)J"⟩
abbrev cX3_passingTarget : ByteArray := prog_5_method_12_code
def yX3_passingTarget : MethodName := ⟨RX3, "passingTarget", "(J)J"⟩
abbrev cX3_kingTargets : ByteArray := prog_5_method_13_code
def yX3_kingTargets : MethodName := ⟨RX3, "kingTargets", "()J"⟩
abbrev cX3_castlingTargets : ByteArray := prog_5_method_14_code
def yX3_castlingTargets : MethodName := ⟨RX3, "castlingTargets", "()J"⟩
def RX4 : String := "MoveList"
def TX4 : u_T := fun k => match k with
  | 0 => ("MoveList", "sight", "LMoveList$Sight;", true)
  | 1 => ("MoveList", "position", "LMoveList$Position;", true)
  | 2 => ("MoveList", "list", "LMoveList$Moves;", true)
  | 3 => ("MoveList", "ahead", "LMoveList$Moves;", true)
  | 4 => ("MoveList", "known", "Z", false)
  | _ => ("MoveList", "open", "Z", false)
def tyX4 : Nat → FieldType := fun k => match k with
  | 0 => .object "MoveList$Sight"
  | 1 => .object "MoveList$Position"
  | 2 => .object "MoveList$Moves"
  | 3 => .object "MoveList$Moves"
  | 4 => .boolean
  | _ => .boolean
abbrev wsX40 : List Cond := u_ws RX4 TX4 6
theorem nmX4 : ∀ a, a < 6 → ∀ b, b < 6 → a ≠ b → (TX4 a).2.1 ≠ (TX4 b).2.1 := by decide +kernel
theorem tyX4_ok : ∀ k, k < 6 → parseFieldDescriptor (TX4 k).2.2.1 = some (tyX4 k) := by decide +kernel
abbrev cX4_init : ByteArray := prog_1_method_1_code
def yX4_init : MethodName := ⟨RX4, "<init>", "()V"⟩
abbrev cX4_clear : ByteArray := prog_1_method_2_code
def yX4_clear : MethodName := ⟨RX4, "clear", "()V"⟩
abbrev cX4_begin : ByteArray := prog_1_method_3_code
def yX4_begin : MethodName := ⟨RX4, "begin", "()V"⟩
abbrev cX4_put : ByteArray := prog_1_method_4_code
def yX4_put : MethodName := ⟨RX4, "put", "(II)V"⟩
abbrev cX4_state : ByteArray := prog_1_method_5_code
def yX4_state : MethodName := ⟨RX4, "state", "(III)V"⟩
abbrev cX4_playable : ByteArray := prog_1_method_6_code
def yX4_playable : MethodName := ⟨RX4, "playable", "()Z"⟩
abbrev cX4_count : ByteArray := prog_1_method_7_code
def yX4_count : MethodName := ⟨RX4, "count", "()I"⟩
abbrev cX4_move : ByteArray := prog_1_method_8_code
def yX4_move : MethodName := ⟨RX4, "move", "(I)I"⟩
abbrev cX4_place : ByteArray := prog_1_method_9_code
def yX4_place : MethodName := ⟨RX4, "place", "(I)I"⟩
abbrev cX4_on : ByteArray := prog_1_method_10_code
def yX4_on : MethodName := ⟨RX4, "on", "(IZ)I"⟩
abbrev cX4_kind : ByteArray := prog_1_method_11_code
def yX4_kind : MethodName := ⟨RX4, "kind", "(I)I"⟩
abbrev cX4_lines : ByteArray := prog_1_method_12_code
def yX4_lines : MethodName := ⟨RX4, "lines", "(I)J"⟩
abbrev cX4_make : ByteArray := prog_1_method_13_code
def yX4_make : MethodName := ⟨RX4, "make", "(I)I"⟩
abbrev cX4_unmake : ByteArray := prog_1_method_14_code
def yX4_unmake : MethodName := ⟨RX4, "unmake", "()I"⟩
abbrev cX4_at : ByteArray := prog_1_method_15_code
def yX4_at : MethodName := ⟨RX4, "at", "(I)I"⟩
abbrev cX4_check : ByteArray := prog_1_method_16_code
def yX4_check : MethodName := ⟨RX4, "check", "()Z"⟩
abbrev cX4_pinned : ByteArray := prog_1_method_17_code
def yX4_pinned : MethodName := ⟨RX4, "pinned", "()J"⟩
abbrev cX4_look : ByteArray := prog_1_method_18_code
def yX4_look : MethodName := ⟨RX4, "look", "(I)I"⟩
abbrev cX4_setUpAnew : ByteArray := prog_1_method_19_code
def yX4_setUpAnew : MethodName := ⟨RX4, "setUpAnew", "()V"⟩
abbrev cX4_needList : ByteArray := prog_1_method_20_code
def yX4_needList : MethodName := ⟨RX4, "needList", "()V"⟩
abbrev cX4_countBehind : ByteArray := prog_1_method_21_code
def yX4_countBehind : MethodName := ⟨RX4, "countBehind", "(LMoveList$Moves;I)J"⟩
abbrev cX4_isSquare : ByteArray := prog_1_method_22_code
def yX4_isSquare : MethodName := ⟨RX4, "isSquare", "(I)Z"⟩
abbrev cX4_isPiece : ByteArray := prog_1_method_23_code
def yX4_isPiece : MethodName := ⟨RX4, "isPiece", "(I)Z"⟩
abbrev cX4_typeOf : ByteArray := prog_1_method_24_code
def yX4_typeOf : MethodName := ⟨RX4, "typeOf", "(I)I"⟩
abbrev cX4_fromOf : ByteArray := prog_1_method_25_code
def yX4_fromOf : MethodName := ⟨RX4, "fromOf", "(I)I"⟩
abbrev cX4_toOf : ByteArray := prog_1_method_26_code
def yX4_toOf : MethodName := ⟨RX4, "toOf", "(I)I"⟩
abbrev cX4_becomesOf : ByteArray := prog_1_method_27_code
def yX4_becomesOf : MethodName := ⟨RX4, "becomesOf", "(I)I"⟩
abbrev cX4_bit : ByteArray := prog_1_method_28_code
def yX4_bit : MethodName := ⟨RX4, "bit", "(I)J"⟩
abbrev cX4_squareOf : ByteArray := prog_1_method_29_code
def yX4_squareOf : MethodName := ⟨RX4, "squareOf", "(J)I"⟩
def RX5 : String := "MoveListModel"
def TX5 : u_T := fun k => match k with
  | 0 => ("MoveListModel", "thrown", "I", false)
  | 1 => ("MoveListModel", "boards", "[I", true)
  | 2 => ("MoveListModel", "made", "I", false)
  | 3 => ("MoveListModel", "moves", "[I", true)
  | 4 => ("MoveListModel", "kept", "[I", true)
  | 5 => ("MoveListModel", "size", "I", false)
  | _ => ("MoveListModel", "list", "[I", true)
def tyX5 : Nat → FieldType := fun k => match k with
  | 0 => .int
  | 1 => .array .int
  | 2 => .int
  | 3 => .array .int
  | 4 => .array .int
  | 5 => .int
  | _ => .array .int
abbrev wsX50 : List Cond := u_ws RX5 TX5 7
theorem nmX5 : ∀ a, a < 7 → ∀ b, b < 7 → a ≠ b → (TX5 a).2.1 ≠ (TX5 b).2.1 := by decide +kernel
theorem tyX5_ok : ∀ k, k < 7 → parseFieldDescriptor (TX5 k).2.2.1 = some (tyX5 k) := by decide +kernel
abbrev cX5_init : ByteArray := prog_7_method_1_code
def yX5_init : MethodName := ⟨RX5, "<init>", "()V"⟩
abbrev cX5_thrown : ByteArray := prog_7_method_2_code
def yX5_thrown : MethodName := ⟨RX5, "thrown", "()I"⟩
abbrev cX5_isSquare : ByteArray := prog_7_method_3_code
def yX5_isSquare : MethodName := ⟨RX5, "isSquare", "(I)Z"⟩
abbrev cX5_sideOf : ByteArray := prog_7_method_4_code
def yX5_sideOf : MethodName := ⟨RX5, "sideOf", "(I)I"⟩
abbrev cX5_kindOf : ByteArray := prog_7_method_5_code
def yX5_kindOf : MethodName := ⟨RX5, "kindOf", "(I)I"⟩
abbrev cX5_apart : ByteArray := prog_7_method_6_code
def yX5_apart : MethodName := ⟨RX5, "apart", "(II)I"⟩
abbrev cX5_clear : ByteArray := prog_7_method_7_code
def yX5_clear : MethodName := ⟨RX5, "clear", "()V"⟩
abbrev cX5_home : ByteArray := prog_7_method_8_code
def yX5_home : MethodName := ⟨RX5, "home", "(I)I"⟩
abbrev cX5_begin : ByteArray := prog_7_method_9_code
def yX5_begin : MethodName := ⟨RX5, "begin", "()V"⟩
abbrev cX5_put : ByteArray := prog_7_method_10_code
def yX5_put : MethodName := ⟨RX5, "put", "(II)V"⟩
abbrev cX5_state : ByteArray := prog_7_method_11_code
def yX5_state : MethodName := ⟨RX5, "state", "(III)V"⟩
abbrev cX5_isFree : ByteArray := prog_7_method_12_code
def yX5_isFree : MethodName := ⟨RX5, "isFree", "(III)Z"⟩
abbrev cX5_attacks : ByteArray := prog_7_method_13_code
def yX5_attacks : MethodName := ⟨RX5, "attacks", "(III)Z"⟩
abbrev cX5_isAttacked : ByteArray := prog_7_method_14_code
def yX5_isAttacked : MethodName := ⟨RX5, "isAttacked", "(III)Z"⟩
abbrev cX5_kingOf : ByteArray := prog_7_method_15_code
def yX5_kingOf : MethodName := ⟨RX5, "kingOf", "(II)I"⟩
abbrev cX5_isChecked : ByteArray := prog_7_method_16_code
def yX5_isChecked : MethodName := ⟨RX5, "isChecked", "(II)Z"⟩
abbrev cX5_isPlayable : ByteArray := prog_7_method_17_code
def yX5_isPlayable : MethodName := ⟨RX5, "isPlayable", "()Z"⟩
abbrev cX5_playable : ByteArray := prog_7_method_18_code
def yX5_playable : MethodName := ⟨RX5, "playable", "()Z"⟩
abbrev cX5_castles : ByteArray := prog_7_method_19_code
def yX5_castles : MethodName := ⟨RX5, "castles", "(III)Z"⟩
abbrev cX5_takesPassing : ByteArray := prog_7_method_20_code
def yX5_takesPassing : MethodName := ⟨RX5, "takesPassing", "(III)Z"⟩
abbrev cX5_pawnGoes : ByteArray := prog_7_method_21_code
def yX5_pawnGoes : MethodName := ⟨RX5, "pawnGoes", "(III)Z"⟩
abbrev cX5_goes : ByteArray := prog_7_method_22_code
def yX5_goes : MethodName := ⟨RX5, "goes", "(III)Z"⟩
abbrev cX5_corner : ByteArray := prog_7_method_23_code
def yX5_corner : MethodName := ⟨RX5, "corner", "(I)I"⟩
abbrev cX5_behind : ByteArray := prog_7_method_24_code
def yX5_behind : MethodName := ⟨RX5, "behind", "(III)V"⟩
abbrev cX5_isLegal : ByteArray := prog_7_method_25_code
def yX5_isLegal : MethodName := ⟨RX5, "isLegal", "(II)Z"⟩
abbrev cX5_listed : ByteArray := prog_7_method_26_code
def yX5_listed : MethodName := ⟨RX5, "listed", "(II)I"⟩
abbrev cX5_need : ByteArray := prog_7_method_27_code
def yX5_need : MethodName := ⟨RX5, "need", "()I"⟩
abbrev cX5_placeOf : ByteArray := prog_7_method_28_code
def yX5_placeOf : MethodName := ⟨RX5, "placeOf", "(I)I"⟩
abbrev cX5_count : ByteArray := prog_7_method_29_code
def yX5_count : MethodName := ⟨RX5, "count", "()I"⟩
abbrev cX5_move : ByteArray := prog_7_method_30_code
def yX5_move : MethodName := ⟨RX5, "move", "(I)I"⟩
abbrev cX5_place : ByteArray := prog_7_method_31_code
def yX5_place : MethodName := ⟨RX5, "place", "(I)I"⟩
abbrev cX5_on : ByteArray := prog_7_method_32_code
def yX5_on : MethodName := ⟨RX5, "on", "(IZ)I"⟩
abbrev cX5_kind : ByteArray := prog_7_method_33_code
def yX5_kind : MethodName := ⟨RX5, "kind", "(I)I"⟩
abbrev cX5_lines : ByteArray := prog_7_method_34_code
def yX5_lines : MethodName := ⟨RX5, "lines", "(I)J"⟩
abbrev cX5_listAt : ByteArray := prog_7_method_35_code
def yX5_listAt : MethodName := ⟨RX5, "listAt", "(II)I"⟩
abbrev cX5_deeper : ByteArray := prog_7_method_36_code
def yX5_deeper : MethodName := ⟨RX5, "deeper", "(I)J"⟩
abbrev cX5_make : ByteArray := prog_7_method_37_code
def yX5_make : MethodName := ⟨RX5, "make", "(I)I"⟩
abbrev cX5_unmake : ByteArray := prog_7_method_38_code
def yX5_unmake : MethodName := ⟨RX5, "unmake", "()I"⟩
abbrev cX5_at : ByteArray := prog_7_method_39_code
def yX5_at : MethodName := ⟨RX5, "at", "(I)I"⟩
abbrev cX5_check : ByteArray := prog_7_method_40_code
def yX5_check : MethodName := ⟨RX5, "check", "()Z"⟩
abbrev cX5_pinned : ByteArray := prog_7_method_41_code
def yX5_pinned : MethodName := ⟨RX5, "pinned", "()J"⟩
abbrev cX5_look : ByteArray := prog_7_method_42_code
def yX5_look : MethodName := ⟨RX5, "look", "(I)I"⟩
def RJ13 : String := "java/lang/Long"
def TJ13 : u_T := fun k => match k with
  | _ => ("", "", "", false)
def tyJ13 : Nat → FieldType := fun k => match k with
  | _ => .int
abbrev wsJ130 : List Cond := u_ws RJ13 TJ13 0
theorem nmJ13 : ∀ a, a < 0 → ∀ b, b < 0 → a ≠ b → (TJ13 a).2.1 ≠ (TJ13 b).2.1 := by decide +kernel
theorem tyJ13_ok : ∀ k, k < 0 → parseFieldDescriptor (TJ13 k).2.2.1 = some (tyJ13 k) := by decide +kernel
abbrev cJ13_bitCount_95d88 : ByteArray := prog_12_method_50_code
def yJ13_bitCount_95d88 : MethodName := ⟨RJ13, "bitCount", "(J)I"⟩
def RJ0 : String := "java/lang/String"
def TJ0 : u_T := fun k => match k with
  | _ => ("", "", "", false)
def tyJ0 : Nat → FieldType := fun k => match k with
  | _ => .int
abbrev wsJ00 : List Cond := u_ws RJ0 TJ0 0
theorem nmJ0 : ∀ a, a < 0 → ∀ b, b < 0 → a ≠ b → (TJ0 a).2.1 ≠ (TJ0 b).2.1 := by decide +kernel
theorem tyJ0_ok : ∀ k, k < 0 → parseFieldDescriptor (TJ0 k).2.2.1 = some (tyJ0 k) := by decide +kernel
def RL : String := "MoveListLaw"
abbrev cL_put : ByteArray := method_3_code
def yL_put : MethodName := ⟨RL, "put", "(LMoveList;II)I"⟩
abbrev cL_state : ByteArray := method_4_code
def yL_state : MethodName := ⟨RL, "state", "(LMoveList;III)I"⟩
abbrev cL_count : ByteArray := method_5_code
def yL_count : MethodName := ⟨RL, "count", "(LMoveList;[J)I"⟩
abbrev cL_move : ByteArray := method_6_code
def yL_move : MethodName := ⟨RL, "move", "(LMoveList;I[J)I"⟩
abbrev cL_place : ByteArray := method_7_code
def yL_place : MethodName := ⟨RL, "place", "(LMoveList;I[J)I"⟩
abbrev cL_on : ByteArray := method_8_code
def yL_on : MethodName := ⟨RL, "on", "(LMoveList;IZ[J)I"⟩
abbrev cL_kind : ByteArray := method_9_code
def yL_kind : MethodName := ⟨RL, "kind", "(LMoveList;I[J)I"⟩
abbrev cL_lines : ByteArray := method_10_code
def yL_lines : MethodName := ⟨RL, "lines", "(LMoveList;I[J)I"⟩
abbrev cL_make : ByteArray := method_11_code
def yL_make : MethodName := ⟨RL, "make", "(LMoveList;I[J)I"⟩
abbrev cL_check : ByteArray := method_12_code
def yL_check : MethodName := ⟨RL, "check", "(LMoveList;[J)I"⟩
abbrev cL_pinned : ByteArray := method_13_code
def yL_pinned : MethodName := ⟨RL, "pinned", "(LMoveList;[J)I"⟩
abbrev cL_law : ByteArray := code
def yL_law : MethodName := ⟨RL, "law", "([I)Z"⟩
def wsL_law0_r1 : List Cond := [Cond.classLink RL 8 RX4, Cond.instantiable RX4 6, Cond.initialized RX4, Cond.classLink RL 59 RX5, Cond.instantiable RX5 7, Cond.initialized RX5, Cond.arrayClass .long, Cond.methodLink RL 58 yX4_init, Cond.instanceMethod yX4_init, Cond.code yX4_init cX4_init 1 none, Cond.methodLink RX4 3 objectInit, Cond.instanceMethod objectInit, Cond.code objectInit ⟨#[0xb1]⟩ 1 none, Cond.classLink RX4 9 RX3, Cond.instantiable RX3 7, Cond.initialized RX3, Cond.fieldLink RX4 12 "MoveList" "sight" "LMoveList$Sight;", Cond.fieldLink RX4 16 "MoveList$Sight" "position" "LMoveList$Position;", Cond.fieldLink RX4 20 "MoveList" "position" "LMoveList$Position;", Cond.classLink RX4 21 RX1, Cond.instantiable RX1 2, Cond.initialized RX1, Cond.fieldLink RX4 24 "MoveList" "list" "LMoveList$Moves;", Cond.fieldLink RX4 28 "MoveList" "ahead" "LMoveList$Moves;"]
def wsL_law0_r2 : List Cond := [Cond.fieldLink RX4 31 "MoveList" "known" "Z", Cond.fieldLink RX4 35 "MoveList" "open" "Z", Cond.methodLink RX4 11 yX3_init, Cond.instanceMethod yX3_init, Cond.code yX3_init cX3_init 1 none, Cond.methodLink RX3 3 objectInit, Cond.classLink RX3 9 RX2, Cond.instantiable RX2 8, Cond.initialized RX2, Cond.fieldLink RX3 12 "MoveList$Sight" "position" "LMoveList$Position;", Cond.fieldLink RX3 18 "MoveList$Sight" "own" "J", Cond.fieldLink RX3 22 "MoveList$Sight" "theirs" "J", Cond.fieldLink RX3 25 "MoveList$Sight" "full" "J", Cond.fieldLink RX3 28 "MoveList$Sight" "king" "J", Cond.fieldLink RX3 31 "MoveList$Sight" "cover" "J", Cond.fieldLink RX3 34 "MoveList$Sight" "pins" "J", Cond.methodLink RX3 11 yX2_init, Cond.instanceMethod yX2_init, Cond.code yX2_init cX2_init 1 none, Cond.methodLink RX2 3 objectInit, Cond.arrayClass .int, Cond.fieldLink RX2 9 "MoveList$Position" "pieces" "[I", Cond.fieldLink RX2 15 "MoveList$Position" "squares" "[J", Cond.constantLong RX2 19 (-1)]
def wsL_law0_r3 : List Cond := [Cond.fieldLink RX2 21 "MoveList$Position" "side" "I", Cond.fieldLink RX2 25 "MoveList$Position" "rights" "I", Cond.fieldLink RX2 28 "MoveList$Position" "passing" "I", Cond.fieldLink RX2 31 "MoveList$Position" "moves" "[I", Cond.fieldLink RX2 34 "MoveList$Position" "lost" "[I", Cond.fieldLink RX2 37 "MoveList$Position" "made" "I", Cond.methodLink RX4 23 yX1_init, Cond.instanceMethod yX1_init, Cond.code yX1_init cX1_init 1 none, Cond.methodLink RX1 3 objectInit, Cond.fieldLink RX1 9 "MoveList$Moves" "moves" "[I", Cond.fieldLink RX1 15 "MoveList$Moves" "size" "I", Cond.methodLink RL 61 yX5_init, Cond.instanceMethod yX5_init, Cond.code yX5_init cX5_init 1 none, Cond.methodLink RX5 1 objectInit, Cond.fieldLink RX5 7 "MoveListModel" "boards" "[I", Cond.fieldLink RX5 13 "MoveListModel" "moves" "[I", Cond.fieldLink RX5 16 "MoveListModel" "kept" "[I", Cond.fieldLink RX5 19 "MoveListModel" "list" "[I", Cond.methodLink RL 62 yX4_clear, Cond.instanceMethod yX4_clear, Cond.selects RX4 yX4_clear yX4_clear, Cond.code yX4_clear cX4_clear 1 none]
def wsL_law0_r4 : List Cond := [Cond.methodLink RX4 38 yX2_empty, Cond.instanceMethod yX2_empty, Cond.selects RX2 yX2_empty yX2_empty, Cond.code yX2_empty cX2_empty 2 none, Cond.methodLink RX2 40 yX2_set, Cond.instanceMethod yX2_set, Cond.selects RX2 yX2_set yX2_set, Cond.code yX2_set cX2_set 4 none, Cond.static yX4_isSquare, Cond.code yX4_isSquare cX4_isSquare 1 (some .boolean), Cond.static yX4_isPiece, Cond.code yX4_isPiece cX4_isPiece 1 (some .boolean), Cond.static yX4_bit, Cond.code yX4_bit cX4_bit 1 (some .long), Cond.methodLink RX4 43 yX4_setUpAnew, Cond.instanceMethod yX4_setUpAnew, Cond.selects RX4 yX4_setUpAnew yX4_setUpAnew, Cond.code yX4_setUpAnew cX4_setUpAnew 1 none, Cond.fieldLink RX4 138 "MoveList$Position" "made" "I", Cond.methodLink RL 65 yX5_clear, Cond.instanceMethod yX5_clear, Cond.selects RX5 yX5_clear yX5_clear, Cond.code yX5_clear cX5_clear 2 none, Cond.fieldLink RX5 22 "MoveListModel" "thrown" "I"]
def wsL_law0_r5 : List Cond := [Cond.fieldLink RX5 26 "MoveListModel" "made" "I", Cond.methodLink RL 66 yX4_begin, Cond.instanceMethod yX4_begin, Cond.selects RX4 yX4_begin yX4_begin, Cond.code yX4_begin cX4_begin 1 none, Cond.methodLink RX4 46 yX2_layOut, Cond.instanceMethod yX2_layOut, Cond.selects RX2 yX2_layOut yX2_layOut, Cond.code yX2_layOut cX2_layOut 2 none, Cond.fieldLink RX2 47 "MoveList$Position" "FIRST_RANK" "[I", Cond.methodLink RX2 44 yX2_empty, Cond.methodLink RL 69 yX5_begin, Cond.instanceMethod yX5_begin, Cond.selects RX5 yX5_begin yX5_begin, Cond.code yX5_begin cX5_begin 2 none, Cond.methodLink RX5 29 yX5_clear, Cond.methodLink RX5 32 yX5_home, Cond.static yX5_home, Cond.code yX5_home cX5_home 1 (some .int), Cond.methodLink RL 70 yL_put, Cond.static yL_put, Cond.initialized RL, Cond.codeWith yL_put cL_put 4 (some .int) [(0, 6, 9, 13), (0, 6, 12, 15)], Cond.classLink RL 13 "java/lang/IndexOutOfBoundsException"]
def wsL_law0_r6 : List Cond := [Cond.classLink RL 15 "java/lang/IllegalArgumentException", Cond.methodLink RL 7 yX4_put, Cond.instanceMethod yX4_put, Cond.selects RX4 yX4_put yX4_put, Cond.code yX4_put cX4_put 3 none, Cond.classLink RX4 53 "java/lang/IndexOutOfBoundsException", Cond.initialized "java/lang/IndexOutOfBoundsException", Cond.classLink RX4 63 "java/lang/IllegalArgumentException", Cond.initialized "java/lang/IllegalArgumentException", Cond.methodLink RX4 49 yX4_isSquare, Cond.methodLink RX4 60 yX4_isPiece, Cond.methodLink RX4 68 yX2_set, Cond.methodLink RL 75 yX5_put, Cond.instanceMethod yX5_put, Cond.selects RX5 yX5_put yX5_put, Cond.code yX5_put cX5_put 3 none, Cond.methodLink RX5 36 yX5_isSquare, Cond.static yX5_isSquare, Cond.code yX5_isSquare cX5_isSquare 1 (some .boolean), Cond.methodLink RL 76 yX5_thrown, Cond.instanceMethod yX5_thrown, Cond.selects RX5 yX5_thrown yX5_thrown, Cond.code yX5_thrown cX5_thrown 1 (some .int), Cond.methodLink RL 79 yL_state]
def wsL_law0_r7 : List Cond := [Cond.static yL_state, Cond.codeWith yL_state cL_state 5 (some .int) [(0, 7, 10, 15)], Cond.methodLink RL 17 yX4_state, Cond.instanceMethod yX4_state, Cond.selects RX4 yX4_state yX4_state, Cond.code yX4_state cX4_state 4 none, Cond.fieldLink RX4 78 "MoveList$Position" "side" "I", Cond.fieldLink RX4 82 "MoveList$Position" "rights" "I", Cond.fieldLink RX4 85 "MoveList$Position" "passing" "I", Cond.methodLink RL 82 yX5_state, Cond.instanceMethod yX5_state, Cond.selects RX5 yX5_state yX5_state, Cond.code yX5_state cX5_state 4 none, Cond.methodLink RL 83 yX4_playable, Cond.instanceMethod yX4_playable, Cond.selects RX4 yX4_playable yX4_playable, Cond.code yX4_playable cX4_playable 1 (some .boolean), Cond.methodLink RX4 88 yX2_canBePlayed, Cond.instanceMethod yX2_canBePlayed, Cond.selects RX2 yX2_canBePlayed yX2_canBePlayed, Cond.code yX2_canBePlayed cX2_canBePlayed 1 (some .boolean), Cond.methodLink RX2 61 yX2_squaresOf, Cond.instanceMethod yX2_squaresOf, Cond.selects RX2 yX2_squaresOf yX2_squaresOf]
def wsL_law0_r8 : List Cond := [Cond.code yX2_squaresOf cX2_squaresOf 2 (some .long), Cond.methodLink RX2 85 yJ13_bitCount_95d88, Cond.static yJ13_bitCount_95d88, Cond.initialized RJ13, Cond.code yJ13_bitCount_95d88 cJ13_bitCount_95d88 2 (some .int), Cond.constantLong RJ13 314 (6148914691236517205), Cond.constantLong RJ13 316 (3689348814741910323), Cond.constantLong RJ13 318 (1085102592571150095), Cond.methodLink RX2 91 yX2_kingIsAttacked, Cond.instanceMethod yX2_kingIsAttacked, Cond.selects RX2 yX2_kingIsAttacked yX2_kingIsAttacked, Cond.code yX2_kingIsAttacked cX2_kingIsAttacked 4 (some .boolean), Cond.methodLink RX2 81 yX2_attacksOf, Cond.instanceMethod yX2_attacksOf, Cond.selects RX2 yX2_attacksOf yX2_attacksOf, Cond.code yX2_attacksOf cX2_attacksOf 16 (some .long), Cond.methodLink RX2 64 yX0_ofPawns, Cond.static yX0_ofPawns, Cond.initialized RX0, Cond.code yX0_ofPawns cX0_ofPawns 7 (some .long), Cond.constantLong RX0 25 (-72340172838076674), Cond.constantLong RX0 27 (9187201950435737471), Cond.methodLink RX2 70 yX0_ofKnights, Cond.static yX0_ofKnights]
def wsL_law0_r9 : List Cond := [Cond.code yX0_ofKnights cX0_ofKnights 14 (some .long), Cond.constantLong RX0 29 (-144680345676153347), Cond.constantLong RX0 31 (-4629771061636907073), Cond.methodLink RX2 74 yX0_ofKings, Cond.static yX0_ofKings, Cond.code yX0_ofKings cX0_ofKings 6 (some .long), Cond.methodLink RX2 77 yX0_ray, Cond.static yX0_ray, Cond.code yX0_ray cX0_ray 13 (some .long), Cond.fieldLink RX0 11 "MoveList$Attacks" "STEP" "[I", Cond.fieldLink RX0 15 "MoveList$Attacks" "INSIDE" "[J", Cond.constantLong RX0 19 (-1), Cond.methodLink RL 86 yX5_playable, Cond.instanceMethod yX5_playable, Cond.selects RX5 yX5_playable yX5_playable, Cond.code yX5_playable cX5_playable 1 (some .boolean), Cond.methodLink RX5 67 yX5_isPlayable, Cond.instanceMethod yX5_isPlayable, Cond.selects RX5 yX5_isPlayable yX5_isPlayable, Cond.code yX5_isPlayable cX5_isPlayable 1 (some .boolean), Cond.methodLink RX5 57 yX5_kingOf, Cond.instanceMethod yX5_kingOf, Cond.selects RX5 yX5_kingOf yX5_kingOf, Cond.code yX5_kingOf cX5_kingOf 6 (some .int)]
def wsL_law0_r10 : List Cond := [Cond.methodLink RX5 63 yX5_isChecked, Cond.instanceMethod yX5_isChecked, Cond.selects RX5 yX5_isChecked yX5_isChecked, Cond.code yX5_isChecked cX5_isChecked 3 (some .boolean), Cond.methodLink RX5 60 yX5_isAttacked, Cond.instanceMethod yX5_isAttacked, Cond.selects RX5 yX5_isAttacked yX5_isAttacked, Cond.code yX5_isAttacked cX5_isAttacked 6 (some .boolean), Cond.methodLink RX5 51 yX5_sideOf, Cond.static yX5_sideOf, Cond.code yX5_sideOf cX5_sideOf 1 (some .int), Cond.methodLink RX5 54 yX5_attacks, Cond.instanceMethod yX5_attacks, Cond.selects RX5 yX5_attacks yX5_attacks, Cond.code yX5_attacks cX5_attacks 9 (some .boolean), Cond.methodLink RX5 40 yX5_kindOf, Cond.static yX5_kindOf, Cond.code yX5_kindOf cX5_kindOf 1 (some .int), Cond.methodLink RX5 43 yX5_apart, Cond.static yX5_apart, Cond.code yX5_apart cX5_apart 2 (some .int), Cond.methodLink RX5 47 yX5_isFree, Cond.instanceMethod yX5_isFree, Cond.selects RX5 yX5_isFree yX5_isFree]
def wsL_law0_r11 : List Cond := [Cond.code yX5_isFree cX5_isFree 8 (some .boolean), Cond.methodLink RL 87 yL_count, Cond.static yL_count, Cond.codeWith yL_count cL_count 3 (some .int) [(0, 8, 11, 25)], Cond.classLink RL 25 "java/lang/IllegalStateException", Cond.methodLink RL 21 yX4_count, Cond.instanceMethod yX4_count, Cond.selects RX4 yX4_count yX4_count, Cond.code yX4_count cX4_count 1 (some .int), Cond.fieldLink RX4 95 "MoveList$Moves" "size" "I", Cond.methodLink RX4 92 yX4_needList, Cond.instanceMethod yX4_needList, Cond.selects RX4 yX4_needList yX4_needList, Cond.code yX4_needList cX4_needList 1 none, Cond.classLink RX4 157 "java/lang/IllegalStateException", Cond.initialized "java/lang/IllegalStateException", Cond.methodLink RX4 153 yX3_fill, Cond.instanceMethod yX3_fill, Cond.selects RX3 yX3_fill yX3_fill, Cond.code yX3_fill cX3_fill 7 none, Cond.fieldLink RX3 59 "MoveList$Moves" "size" "I", Cond.methodLink RX3 37 yX3_survey, Cond.instanceMethod yX3_survey, Cond.selects RX3 yX3_survey yX3_survey]
def wsL_law0_r12 : List Cond := [Cond.code yX3_survey cX3_survey 12 none, Cond.fieldLink RX3 80 "MoveList$Position" "side" "I", Cond.constantLong RX3 89 (-1), Cond.methodLink RX3 83 yX2_squaresOfSide, Cond.instanceMethod yX2_squaresOfSide, Cond.selects RX2 yX2_squaresOfSide yX2_squaresOfSide, Cond.code yX2_squaresOfSide cX2_squaresOfSide 6 (some .long), Cond.methodLink RX3 86 yX2_squaresOf, Cond.methodLink RX3 93 yX0_ray, Cond.methodLink RX3 97 yX3_judgeLine, Cond.instanceMethod yX3_judgeLine, Cond.selects RX3 yX3_judgeLine yX3_judgeLine, Cond.code yX3_judgeLine cX3_judgeLine 6 none, Cond.methodLink RX3 40 yJ13_bitCount_95d88, Cond.methodLink RX3 101 yX0_ofKnights, Cond.methodLink RX3 105 yX0_ofPawns, Cond.static yX4_squareOf, Cond.code yX4_squareOf cX4_squareOf 2 (some .int), Cond.methodLink RX4 162 yJ13_bitCount_95d88, Cond.methodLink RX3 49 yX3_targetsOf, Cond.instanceMethod yX3_targetsOf, Cond.selects RX3 yX3_targetsOf yX3_targetsOf, Cond.code yX3_targetsOf cX3_targetsOf 7 (some .long), Cond.methodLink RX3 73 yX2_pieceOn]
def wsL_law0_r13 : List Cond := [Cond.instanceMethod yX2_pieceOn, Cond.selects RX2 yX2_pieceOn yX2_pieceOn, Cond.code yX2_pieceOn cX2_pieceOn 2 (some .int), Cond.static yX4_typeOf, Cond.code yX4_typeOf cX4_typeOf 1 (some .int), Cond.methodLink RX3 112 yX3_pawnWays, Cond.instanceMethod yX3_pawnWays, Cond.selects RX3 yX3_pawnWays yX3_pawnWays, Cond.code yX3_pawnWays cX3_pawnWays 9 (some .long), Cond.constantLong RX3 129 (16711680), Cond.constantLong RX3 131 (280375465082880), Cond.methodLink RX3 115 yX3_kingTargets, Cond.instanceMethod yX3_kingTargets, Cond.selects RX3 yX3_kingTargets yX3_kingTargets, Cond.code yX3_kingTargets cX3_kingTargets 10 (some .long), Cond.constantLong RX3 145 (112), Cond.constantLong RX3 147 (28), Cond.methodLink RX3 139 yX0_ofKings, Cond.methodLink RX3 142 yX3_castlingTargets, Cond.instanceMethod yX3_castlingTargets, Cond.selects RX3 yX3_castlingTargets yX3_castlingTargets, Cond.code yX3_castlingTargets cX3_castlingTargets 10 (some .long), Cond.fieldLink RX3 149 "MoveList$Position" "rights" "I", Cond.constantLong RX3 152 (96)]
def wsL_law0_r14 : List Cond := [Cond.constantLong RX3 154 (14), Cond.methodLink RX3 136 yX2_attacksOf, Cond.methodLink RX3 119 yX0_slide, Cond.static yX0_slide, Cond.code yX0_slide cX0_slide 10 (some .long), Cond.methodLink RX0 21 yX0_ray, Cond.methodLink RX3 123 yX3_pinLine, Cond.instanceMethod yX3_pinLine, Cond.selects RX3 yX3_pinLine yX3_pinLine, Cond.code yX3_pinLine cX3_pinLine 6 (some .long), Cond.methodLink RX3 126 yX3_passingTarget, Cond.instanceMethod yX3_passingTarget, Cond.selects RX3 yX3_passingTarget yX3_passingTarget, Cond.code yX3_passingTarget cX3_passingTarget 10 (some .long), Cond.fieldLink RX3 133 "MoveList$Position" "passing" "I", Cond.methodLink RX3 65 yX3_addMoves, Cond.instanceMethod yX3_addMoves, Cond.selects RX3 yX3_addMoves yX3_addMoves, Cond.code yX3_addMoves cX3_addMoves 13 none, Cond.constantLong RX3 57 (-72057594037927681), Cond.methodLink RX3 53 yX3_isPawn, Cond.instanceMethod yX3_isPawn, Cond.selects RX3 yX3_isPawn yX3_isPawn, Cond.code yX3_isPawn cX3_isPawn 2 (some .boolean)]
def wsL_law0_r15 : List Cond := [Cond.methodLink RX3 69 yX1_add, Cond.instanceMethod yX1_add, Cond.selects RX1 yX1_add yX1_add, Cond.code yX1_add cX1_add 2 none, Cond.methodLink RL 90 yX5_count, Cond.instanceMethod yX5_count, Cond.selects RX5 yX5_count yX5_count, Cond.code yX5_count cX5_count 1 (some .int), Cond.fieldLink RX5 96 "MoveListModel" "size" "I", Cond.methodLink RX5 99 yX5_need, Cond.instanceMethod yX5_need, Cond.selects RX5 yX5_need yX5_need, Cond.code yX5_need cX5_need 2 (some .int), Cond.methodLink RX5 93 yX5_listed, Cond.instanceMethod yX5_listed, Cond.selects RX5 yX5_listed yX5_listed, Cond.code yX5_listed cX5_listed 8 (some .int), Cond.methodLink RX5 90 yX5_isLegal, Cond.instanceMethod yX5_isLegal, Cond.selects RX5 yX5_isLegal yX5_isLegal, Cond.code yX5_isLegal cX5_isLegal 7 (some .boolean), Cond.methodLink RX5 83 yX5_goes, Cond.instanceMethod yX5_goes, Cond.selects RX5 yX5_goes yX5_goes]
def wsL_law0_r16 : List Cond := [Cond.code yX5_goes cX5_goes 6 (some .boolean), Cond.methodLink RX5 74 yX5_pawnGoes, Cond.instanceMethod yX5_pawnGoes, Cond.selects RX5 yX5_pawnGoes yX5_pawnGoes, Cond.code yX5_pawnGoes cX5_pawnGoes 6 (some .boolean), Cond.methodLink RX5 71 yX5_takesPassing, Cond.instanceMethod yX5_takesPassing, Cond.selects RX5 yX5_takesPassing yX5_takesPassing, Cond.code yX5_takesPassing cX5_takesPassing 6 (some .boolean), Cond.methodLink RX5 77 yX5_castles, Cond.instanceMethod yX5_castles, Cond.selects RX5 yX5_castles yX5_castles, Cond.code yX5_castles cX5_castles 10 (some .boolean), Cond.methodLink RX5 86 yX5_behind, Cond.instanceMethod yX5_behind, Cond.selects RX5 yX5_behind yX5_behind, Cond.code yX5_behind cX5_behind 16 none, Cond.methodLink RX5 80 yX5_corner, Cond.static yX5_corner, Cond.code yX5_corner cX5_corner 1 (some .int), Cond.methodLink RL 91 yL_move, Cond.static yL_move, Cond.codeWith yL_move cL_move 4 (some .int) [(0, 9, 12, 25), (0, 9, 15, 13)], Cond.methodLink RL 27 yX4_move]
def wsL_law0_r17 : List Cond := [Cond.instanceMethod yX4_move, Cond.selects RX4 yX4_move yX4_move, Cond.code yX4_move cX4_move 2 (some .int), Cond.methodLink RX4 100 yX1_get, Cond.instanceMethod yX1_get, Cond.selects RX1 yX1_get yX1_get, Cond.code yX1_get cX1_get 2 (some .int), Cond.methodLink RL 94 yX5_move, Cond.instanceMethod yX5_move, Cond.selects RX5 yX5_move yX5_move, Cond.code yX5_move cX5_move 2 (some .int), Cond.methodLink RL 95 yL_place, Cond.static yL_place, Cond.codeWith yL_place cL_place 4 (some .int) [(0, 9, 12, 25)], Cond.methodLink RL 31 yX4_place, Cond.instanceMethod yX4_place, Cond.selects RX4 yX4_place yX4_place, Cond.code yX4_place cX4_place 2 (some .int), Cond.methodLink RX4 104 yX1_placeOf, Cond.instanceMethod yX1_placeOf, Cond.selects RX1 yX1_placeOf yX1_placeOf, Cond.code yX1_placeOf cX1_placeOf 3 (some .int), Cond.methodLink RX1 19 yX1_get, Cond.methodLink RL 97 yX5_place]
def wsL_law0_r18 : List Cond := [Cond.instanceMethod yX5_place, Cond.selects RX5 yX5_place yX5_place, Cond.code yX5_place cX5_place 2 (some .int), Cond.methodLink RX5 103 yX5_placeOf, Cond.instanceMethod yX5_placeOf, Cond.selects RX5 yX5_placeOf yX5_placeOf, Cond.code yX5_placeOf cX5_placeOf 4 (some .int), Cond.methodLink RL 98 yL_on, Cond.static yL_on, Cond.codeWith yL_on cL_on 5 (some .int) [(0, 10, 13, 25)], Cond.methodLink RL 34 yX4_on, Cond.instanceMethod yX4_on, Cond.selects RX4 yX4_on yX4_on, Cond.code yX4_on cX4_on 7 (some .int), Cond.methodLink RX4 107 yX4_fromOf, Cond.static yX4_fromOf, Cond.code yX4_fromOf cX4_fromOf 1 (some .int), Cond.methodLink RX4 110 yX4_toOf, Cond.static yX4_toOf, Cond.code yX4_toOf cX4_toOf 1 (some .int), Cond.methodLink RL 101 yX5_on, Cond.instanceMethod yX5_on, Cond.selects RX5 yX5_on yX5_on, Cond.code yX5_on cX5_on 5 (some .int)]
def wsL_law0_r19 : List Cond := [Cond.methodLink RL 102 yL_kind, Cond.static yL_kind, Cond.codeWith yL_kind cL_kind 4 (some .int) [(0, 9, 12, 25), (0, 9, 15, 15)], Cond.methodLink RL 38 yX4_kind, Cond.instanceMethod yX4_kind, Cond.selects RX4 yX4_kind yX4_kind, Cond.code yX4_kind cX4_kind 3 (some .int), Cond.methodLink RX4 115 yX2_deedsOf, Cond.instanceMethod yX2_deedsOf, Cond.selects RX2 yX2_deedsOf yX2_deedsOf, Cond.code yX2_deedsOf cX2_deedsOf 6 (some .int), Cond.methodLink RX2 101 yX2_takenSquare, Cond.instanceMethod yX2_takenSquare, Cond.selects RX2 yX2_takenSquare yX2_takenSquare, Cond.code yX2_takenSquare cX2_takenSquare 4 (some .int), Cond.methodLink RX2 105 yX2_pieceOn, Cond.methodLink RX2 108 yX2_isCastling, Cond.instanceMethod yX2_isCastling, Cond.selects RX2 yX2_isCastling yX2_isCastling, Cond.code yX2_isCastling cX2_isCastling 3 (some .boolean), Cond.static yX4_becomesOf, Cond.code yX4_becomesOf cX4_becomesOf 1 (some .int), Cond.methodLink RX4 118 yX2_play, Cond.instanceMethod yX2_play]
def wsL_law0_r20 : List Cond := [Cond.selects RX2 yX2_play yX2_play, Cond.code yX2_play cX2_play 6 none, Cond.methodLink RX2 115 yX2_remember, Cond.instanceMethod yX2_remember, Cond.selects RX2 yX2_remember yX2_remember, Cond.code yX2_remember cX2_remember 3 none, Cond.methodLink RX2 118 yX2_rookCorner, Cond.static yX2_rookCorner, Cond.code yX2_rookCorner cX2_rookCorner 2 (some .int), Cond.methodLink RX2 121 yX2_carry, Cond.instanceMethod yX2_carry, Cond.selects RX2 yX2_carry yX2_carry, Cond.code yX2_carry cX2_carry 3 none, Cond.methodLink RX2 124 yX2_rightsAt, Cond.static yX2_rightsAt, Cond.code yX2_rightsAt cX2_rightsAt 1 (some .int), Cond.methodLink RX2 130 yX2_passedSquare, Cond.instanceMethod yX2_passedSquare, Cond.selects RX2 yX2_passedSquare yX2_passedSquare, Cond.code yX2_passedSquare cX2_passedSquare 7 (some .int), Cond.methodLink RX4 122 yX2_kingIsAttacked, Cond.methodLink RX4 125 yX3_tally, Cond.instanceMethod yX3_tally, Cond.selects RX3 yX3_tally yX3_tally]
def wsL_law0_r21 : List Cond := [Cond.code yX3_tally cX3_tally 9 (some .int), Cond.methodLink RX4 129 yX2_takeBack, Cond.instanceMethod yX2_takeBack, Cond.selects RX2 yX2_takeBack yX2_takeBack, Cond.code yX2_takeBack cX2_takeBack 5 (some .int), Cond.methodLink RL 104 yX5_kind, Cond.instanceMethod yX5_kind, Cond.selects RX5 yX5_kind yX5_kind, Cond.code yX5_kind cX5_kind 7 (some .int), Cond.methodLink RL 105 yL_lines, Cond.static yL_lines, Cond.codeWith yL_lines cL_lines 4 (some .int) [(0, 8, 11, 25), (0, 8, 14, 15)], Cond.methodLink RL 41 yX4_lines, Cond.instanceMethod yX4_lines, Cond.selects RX4 yX4_lines yX4_lines, Cond.code yX4_lines cX4_lines 2 (some .long), Cond.methodLink RX4 134 yX4_countBehind, Cond.instanceMethod yX4_countBehind, Cond.selects RX4 yX4_countBehind yX4_countBehind, Cond.code yX4_countBehind cX4_countBehind 6 (some .long), Cond.methodLink RL 107 yX5_lines, Cond.instanceMethod yX5_lines, Cond.selects RX5 yX5_lines yX5_lines, Cond.code yX5_lines cX5_lines 8 (some .long)]
def wsL_law0_r22 : List Cond := [Cond.methodLink RX5 106 yX5_listAt, Cond.instanceMethod yX5_listAt, Cond.selects RX5 yX5_listAt yX5_listAt, Cond.code yX5_listAt cX5_listAt 4 (some .int), Cond.methodLink RX5 109 yX5_deeper, Cond.instanceMethod yX5_deeper, Cond.selects RX5 yX5_deeper yX5_deeper, Cond.code yX5_deeper cX5_deeper 6 (some .long), Cond.methodLink RL 108 yL_make, Cond.static yL_make, Cond.codeWith yL_make cL_make 4 (some .int) [(0, 9, 12, 25), (0, 9, 15, 15), (0, 9, 18, 48)], Cond.classLink RL 48 "java/lang/UnsupportedOperationException", Cond.methodLink RL 45 yX4_make, Cond.instanceMethod yX4_make, Cond.selects RX4 yX4_make yX4_make, Cond.code yX4_make cX4_make 2 (some .int), Cond.classLink RX4 141 "java/lang/UnsupportedOperationException", Cond.initialized "java/lang/UnsupportedOperationException", Cond.methodLink RL 110 yX5_make, Cond.instanceMethod yX5_make, Cond.selects RX5 yX5_make yX5_make, Cond.code yX5_make cX5_make 3 (some .int), Cond.methodLink RL 111 yX4_unmake, Cond.instanceMethod yX4_unmake]
def wsL_law0_r23 : List Cond := [Cond.selects RX4 yX4_unmake yX4_unmake, Cond.code yX4_unmake cX4_unmake 2 (some .int), Cond.methodLink RL 114 yX5_unmake, Cond.instanceMethod yX5_unmake, Cond.selects RX5 yX5_unmake yX5_unmake, Cond.code yX5_unmake cX5_unmake 2 (some .int), Cond.methodLink RL 115 yX4_at, Cond.instanceMethod yX4_at, Cond.selects RX4 yX4_at yX4_at, Cond.code yX4_at cX4_at 2 (some .int), Cond.methodLink RX4 146 yX2_pieceOn, Cond.methodLink RL 118 yX5_at, Cond.instanceMethod yX5_at, Cond.selects RX5 yX5_at yX5_at, Cond.code yX5_at cX5_at 2 (some .int), Cond.methodLink RL 119 yL_check, Cond.static yL_check, Cond.codeWith yL_check cL_check 3 (some .int) [(0, 15, 18, 25)], Cond.methodLink RL 50 yX4_check, Cond.instanceMethod yX4_check, Cond.selects RX4 yX4_check yX4_check, Cond.code yX4_check cX4_check 1 (some .boolean), Cond.methodLink RL 121 yX5_check, Cond.instanceMethod yX5_check]
def wsL_law0_r24 : List Cond := [Cond.selects RX5 yX5_check yX5_check, Cond.code yX5_check cX5_check 1 (some .boolean), Cond.methodLink RL 122 yL_pinned, Cond.static yL_pinned, Cond.codeWith yL_pinned cL_pinned 3 (some .int) [(0, 7, 10, 25)], Cond.methodLink RL 54 yX4_pinned, Cond.instanceMethod yX4_pinned, Cond.selects RX4 yX4_pinned yX4_pinned, Cond.code yX4_pinned cX4_pinned 1 (some .long), Cond.methodLink RX4 149 yX3_pinnedSquares, Cond.instanceMethod yX3_pinnedSquares, Cond.selects RX3 yX3_pinnedSquares yX3_pinnedSquares, Cond.code yX3_pinnedSquares cX3_pinnedSquares 1 (some .long), Cond.methodLink RL 124 yX5_pinned, Cond.instanceMethod yX5_pinned, Cond.selects RX5 yX5_pinned yX5_pinned, Cond.code yX5_pinned cX5_pinned 10 (some .long), Cond.methodLink RL 125 yX4_look, Cond.instanceMethod yX4_look, Cond.selects RX4 yX4_look yX4_look, Cond.code yX4_look cX4_look 2 (some .int), Cond.methodLink RL 128 yX5_look, Cond.instanceMethod yX5_look, Cond.selects RX5 yX5_look yX5_look]
def wsL_law0_r25 : List Cond := [Cond.code yX5_look cX5_look 2 (some .int)]
def wsL_law0 : List Cond := (wsL_law0_r1 ++ (wsL_law0_r2 ++ (wsL_law0_r3 ++ (wsL_law0_r4 ++ (wsL_law0_r5 ++ (wsL_law0_r6 ++ (wsL_law0_r7 ++ (wsL_law0_r8 ++ (wsL_law0_r9 ++ (wsL_law0_r10 ++ (wsL_law0_r11 ++ (wsL_law0_r12 ++ (wsL_law0_r13 ++ (wsL_law0_r14 ++ (wsL_law0_r15 ++ (wsL_law0_r16 ++ (wsL_law0_r17 ++ (wsL_law0_r18 ++ (wsL_law0_r19 ++ (wsL_law0_r20 ++ (wsL_law0_r21 ++ (wsL_law0_r22 ++ (wsL_law0_r23 ++ (wsL_law0_r24 ++ wsL_law0_r25)))))))))))))))))))))))) ++ wsX40 ++ wsX50 ++ wsX30 ++ wsX10 ++ wsX20 ++ ([] : List Cond)
def wsL_law : List Cond := wsL_law0 ++ (vx_atS RX4 57 "java/lang/IndexOutOfBoundsException" ["java/lang/RuntimeException", "java/lang/Exception"]).filter goodWord ++ (vx_atS RX4 67 "java/lang/IllegalArgumentException" ["java/lang/RuntimeException", "java/lang/Exception"]).filter goodWord ++ (vx_atS RX4 161 "java/lang/IllegalStateException" ["java/lang/RuntimeException", "java/lang/Exception"]).filter goodWord ++ (vx_atS RX4 145 "java/lang/UnsupportedOperationException" ["java/lang/RuntimeException", "java/lang/Exception"]).filter goodWord
end
section
theorem wq0 {w : Cond} (h : w ∈ wsL_law0) : w ∈ wsL_law := List.mem_append_left _ (List.mem_append_left _ (List.mem_append_left _ (List.mem_append_left _ h)))
def wq_R : List Cond := wsL_law0_r1 ++ (wsL_law0_r2 ++ (wsL_law0_r3 ++ (wsL_law0_r4 ++ (wsL_law0_r5 ++ (wsL_law0_r6 ++ (wsL_law0_r7 ++ (wsL_law0_r8 ++ (wsL_law0_r9 ++ (wsL_law0_r10 ++ (wsL_law0_r11 ++ (wsL_law0_r12 ++ (wsL_law0_r13 ++ (wsL_law0_r14 ++ (wsL_law0_r15 ++ (wsL_law0_r16 ++ (wsL_law0_r17 ++ (wsL_law0_r18 ++ (wsL_law0_r19 ++ (wsL_law0_r20 ++ (wsL_law0_r21 ++ (wsL_law0_r22 ++ (wsL_law0_r23 ++ (wsL_law0_r24 ++ (wsL_law0_r25))))))))))))))))))))))))
theorem wq {w : Cond} (h : w ∈ wq_R) : w ∈ wsL_law := wq0 (List.mem_append_left _ (List.mem_append_left _ (List.mem_append_left _ (List.mem_append_left _ (List.mem_append_left _ (List.mem_append_left _ h))))))
theorem wr_1 {w : Cond} (h : w ∈ wsL_law0_r1) : w ∈ wq_R := List.mem_append_left _ h
theorem wr_2 {w : Cond} (h : w ∈ wsL_law0_r2) : w ∈ wq_R := List.mem_append_right _ (List.mem_append_left _ h)
theorem wr_3 {w : Cond} (h : w ∈ wsL_law0_r3) : w ∈ wq_R := List.mem_append_right _ (List.mem_append_right _ (List.mem_append_left _ h))
theorem wr_4 {w : Cond} (h : w ∈ wsL_law0_r4) : w ∈ wq_R := List.mem_append_right _ (List.mem_append_right _ (List.mem_append_right _ (List.mem_append_left _ h)))
theorem wr_5 {w : Cond} (h : w ∈ wsL_law0_r5) : w ∈ wq_R := List.mem_append_right _ (List.mem_append_right _ (List.mem_append_right _ (List.mem_append_right _ (List.mem_append_left _ h))))
theorem wr_6 {w : Cond} (h : w ∈ wsL_law0_r6) : w ∈ wq_R := List.mem_append_right _ (List.mem_append_right _ (List.mem_append_right _ (List.mem_append_right _ (List.mem_append_right _ (List.mem_append_left _ h)))))
theorem wr_7 {w : Cond} (h : w ∈ wsL_law0_r7) : w ∈ wq_R := List.mem_append_right _ (List.mem_append_right _ (List.mem_append_right _ (List.mem_append_right _ (List.mem_append_right _ (List.mem_append_right _ (List.mem_append_left _ h))))))
theorem wr_8 {w : Cond} (h : w ∈ wsL_law0_r8) : w ∈ wq_R := List.mem_append_right _ (List.mem_append_right _ (List.mem_append_right _ (List.mem_append_right _ (List.mem_append_right _ (List.mem_append_right _ (List.mem_append_right _ (List.mem_append_left _ h)))))))
theorem wr_9 {w : Cond} (h : w ∈ wsL_law0_r9) : w ∈ wq_R := List.mem_append_right _ (List.mem_append_right _ (List.mem_append_right _ (List.mem_append_right _ (List.mem_append_right _ (List.mem_append_right _ (List.mem_append_right _ (List.mem_append_right _ (List.mem_append_left _ h))))))))
theorem wr_10 {w : Cond} (h : w ∈ wsL_law0_r10) : w ∈ wq_R := List.mem_append_right _ (List.mem_append_right _ (List.mem_append_right _ (List.mem_append_right _ (List.mem_append_right _ (List.mem_append_right _ (List.mem_append_right _ (List.mem_append_right _ (List.mem_append_right _ (List.mem_append_left _ h)))))))))
theorem wr_11 {w : Cond} (h : w ∈ wsL_law0_r11) : w ∈ wq_R := List.mem_append_right _ (List.mem_append_right _ (List.mem_append_right _ (List.mem_append_right _ (List.mem_append_right _ (List.mem_append_right _ (List.mem_append_right _ (List.mem_append_right _ (List.mem_append_right _ (List.mem_append_right _ (List.mem_append_left _ h))))))))))
theorem wr_12 {w : Cond} (h : w ∈ wsL_law0_r12) : w ∈ wq_R := List.mem_append_right _ (List.mem_append_right _ (List.mem_append_right _ (List.mem_append_right _ (List.mem_append_right _ (List.mem_append_right _ (List.mem_append_right _ (List.mem_append_right _ (List.mem_append_right _ (List.mem_append_right _ (List.mem_append_right _ (List.mem_append_left _ h)))))))))))
theorem wr_13 {w : Cond} (h : w ∈ wsL_law0_r13) : w ∈ wq_R := List.mem_append_right _ (List.mem_append_right _ (List.mem_append_right _ (List.mem_append_right _ (List.mem_append_right _ (List.mem_append_right _ (List.mem_append_right _ (List.mem_append_right _ (List.mem_append_right _ (List.mem_append_right _ (List.mem_append_right _ (List.mem_append_right _ (List.mem_append_left _ h))))))))))))
theorem wr_14 {w : Cond} (h : w ∈ wsL_law0_r14) : w ∈ wq_R := List.mem_append_right _ (List.mem_append_right _ (List.mem_append_right _ (List.mem_append_right _ (List.mem_append_right _ (List.mem_append_right _ (List.mem_append_right _ (List.mem_append_right _ (List.mem_append_right _ (List.mem_append_right _ (List.mem_append_right _ (List.mem_append_right _ (List.mem_append_right _ (List.mem_append_left _ h)))))))))))))
theorem wr_15 {w : Cond} (h : w ∈ wsL_law0_r15) : w ∈ wq_R := List.mem_append_right _ (List.mem_append_right _ (List.mem_append_right _ (List.mem_append_right _ (List.mem_append_right _ (List.mem_append_right _ (List.mem_append_right _ (List.mem_append_right _ (List.mem_append_right _ (List.mem_append_right _ (List.mem_append_right _ (List.mem_append_right _ (List.mem_append_right _ (List.mem_append_right _ (List.mem_append_left _ h))))))))))))))
theorem wr_16 {w : Cond} (h : w ∈ wsL_law0_r16) : w ∈ wq_R := List.mem_append_right _ (List.mem_append_right _ (List.mem_append_right _ (List.mem_append_right _ (List.mem_append_right _ (List.mem_append_right _ (List.mem_append_right _ (List.mem_append_right _ (List.mem_append_right _ (List.mem_append_right _ (List.mem_append_right _ (List.mem_append_right _ (List.mem_append_right _ (List.mem_append_right _ (List.mem_append_right _ (List.mem_append_left _ h)))))))))))))))
theorem wr_17 {w : Cond} (h : w ∈ wsL_law0_r17) : w ∈ wq_R := List.mem_append_right _ (List.mem_append_right _ (List.mem_append_right _ (List.mem_append_right _ (List.mem_append_right _ (List.mem_append_right _ (List.mem_append_right _ (List.mem_append_right _ (List.mem_append_right _ (List.mem_append_right _ (List.mem_append_right _ (List.mem_append_right _ (List.mem_append_right _ (List.mem_append_right _ (List.mem_append_right _ (List.mem_append_right _ (List.mem_append_left _ h))))))))))))))))
theorem wr_18 {w : Cond} (h : w ∈ wsL_law0_r18) : w ∈ wq_R := List.mem_append_right _ (List.mem_append_right _ (List.mem_append_right _ (List.mem_append_right _ (List.mem_append_right _ (List.mem_append_right _ (List.mem_append_right _ (List.mem_append_right _ (List.mem_append_right _ (List.mem_append_right _ (List.mem_append_right _ (List.mem_append_right _ (List.mem_append_right _ (List.mem_append_right _ (List.mem_append_right _ (List.mem_append_right _ (List.mem_append_right _ (List.mem_append_left _ h)))))))))))))))))
theorem wr_19 {w : Cond} (h : w ∈ wsL_law0_r19) : w ∈ wq_R := List.mem_append_right _ (List.mem_append_right _ (List.mem_append_right _ (List.mem_append_right _ (List.mem_append_right _ (List.mem_append_right _ (List.mem_append_right _ (List.mem_append_right _ (List.mem_append_right _ (List.mem_append_right _ (List.mem_append_right _ (List.mem_append_right _ (List.mem_append_right _ (List.mem_append_right _ (List.mem_append_right _ (List.mem_append_right _ (List.mem_append_right _ (List.mem_append_right _ (List.mem_append_left _ h))))))))))))))))))
theorem wr_20 {w : Cond} (h : w ∈ wsL_law0_r20) : w ∈ wq_R := List.mem_append_right _ (List.mem_append_right _ (List.mem_append_right _ (List.mem_append_right _ (List.mem_append_right _ (List.mem_append_right _ (List.mem_append_right _ (List.mem_append_right _ (List.mem_append_right _ (List.mem_append_right _ (List.mem_append_right _ (List.mem_append_right _ (List.mem_append_right _ (List.mem_append_right _ (List.mem_append_right _ (List.mem_append_right _ (List.mem_append_right _ (List.mem_append_right _ (List.mem_append_right _ (List.mem_append_left _ h)))))))))))))))))))
theorem wr_21 {w : Cond} (h : w ∈ wsL_law0_r21) : w ∈ wq_R := List.mem_append_right _ (List.mem_append_right _ (List.mem_append_right _ (List.mem_append_right _ (List.mem_append_right _ (List.mem_append_right _ (List.mem_append_right _ (List.mem_append_right _ (List.mem_append_right _ (List.mem_append_right _ (List.mem_append_right _ (List.mem_append_right _ (List.mem_append_right _ (List.mem_append_right _ (List.mem_append_right _ (List.mem_append_right _ (List.mem_append_right _ (List.mem_append_right _ (List.mem_append_right _ (List.mem_append_right _ (List.mem_append_left _ h))))))))))))))))))))
theorem wr_22 {w : Cond} (h : w ∈ wsL_law0_r22) : w ∈ wq_R := List.mem_append_right _ (List.mem_append_right _ (List.mem_append_right _ (List.mem_append_right _ (List.mem_append_right _ (List.mem_append_right _ (List.mem_append_right _ (List.mem_append_right _ (List.mem_append_right _ (List.mem_append_right _ (List.mem_append_right _ (List.mem_append_right _ (List.mem_append_right _ (List.mem_append_right _ (List.mem_append_right _ (List.mem_append_right _ (List.mem_append_right _ (List.mem_append_right _ (List.mem_append_right _ (List.mem_append_right _ (List.mem_append_right _ (List.mem_append_left _ h)))))))))))))))))))))
theorem wr_23 {w : Cond} (h : w ∈ wsL_law0_r23) : w ∈ wq_R := List.mem_append_right _ (List.mem_append_right _ (List.mem_append_right _ (List.mem_append_right _ (List.mem_append_right _ (List.mem_append_right _ (List.mem_append_right _ (List.mem_append_right _ (List.mem_append_right _ (List.mem_append_right _ (List.mem_append_right _ (List.mem_append_right _ (List.mem_append_right _ (List.mem_append_right _ (List.mem_append_right _ (List.mem_append_right _ (List.mem_append_right _ (List.mem_append_right _ (List.mem_append_right _ (List.mem_append_right _ (List.mem_append_right _ (List.mem_append_right _ (List.mem_append_left _ h))))))))))))))))))))))
theorem wr_24 {w : Cond} (h : w ∈ wsL_law0_r24) : w ∈ wq_R := List.mem_append_right _ (List.mem_append_right _ (List.mem_append_right _ (List.mem_append_right _ (List.mem_append_right _ (List.mem_append_right _ (List.mem_append_right _ (List.mem_append_right _ (List.mem_append_right _ (List.mem_append_right _ (List.mem_append_right _ (List.mem_append_right _ (List.mem_append_right _ (List.mem_append_right _ (List.mem_append_right _ (List.mem_append_right _ (List.mem_append_right _ (List.mem_append_right _ (List.mem_append_right _ (List.mem_append_right _ (List.mem_append_right _ (List.mem_append_right _ (List.mem_append_right _ (List.mem_append_left _ h)))))))))))))))))))))))
theorem wr_25 {w : Cond} (h : w ∈ wsL_law0_r25) : w ∈ wq_R := List.mem_append_right _ (List.mem_append_right _ (List.mem_append_right _ (List.mem_append_right _ (List.mem_append_right _ (List.mem_append_right _ (List.mem_append_right _ (List.mem_append_right _ (List.mem_append_right _ (List.mem_append_right _ (List.mem_append_right _ (List.mem_append_right _ (List.mem_append_right _ (List.mem_append_right _ (List.mem_append_right _ (List.mem_append_right _ (List.mem_append_right _ (List.mem_append_right _ (List.mem_append_right _ (List.mem_append_right _ (List.mem_append_right _ (List.mem_append_right _ (List.mem_append_right _ (List.mem_append_right _ (h))))))))))))))))))))))))
theorem wu_X4 : ∀ w ∈ wsX40, w ∈ wsL_law := fun w h => wq0 (List.mem_append_left _ (List.mem_append_left _ (List.mem_append_left _ (List.mem_append_left _ (List.mem_append_left _ (List.mem_append_right _ h))))))
theorem wu_X5 : ∀ w ∈ wsX50, w ∈ wsL_law := fun w h => wq0 (List.mem_append_left _ (List.mem_append_left _ (List.mem_append_left _ (List.mem_append_left _ (List.mem_append_right _ h)))))
theorem wu_X3 : ∀ w ∈ wsX30, w ∈ wsL_law := fun w h => wq0 (List.mem_append_left _ (List.mem_append_left _ (List.mem_append_left _ (List.mem_append_right _ h))))
theorem wu_X1 : ∀ w ∈ wsX10, w ∈ wsL_law := fun w h => wq0 (List.mem_append_left _ (List.mem_append_left _ (List.mem_append_right _ h)))
theorem wu_X2 : ∀ w ∈ wsX20, w ∈ wsL_law := fun w h => wq0 (List.mem_append_left _ (List.mem_append_right _ h))
-- each word lies in the one list
theorem wl_L_8 : Cond.classLink RL 8 RX4 ∈ wsL_law := wq (wr_1 (List.mem_of_getElem? (i := 0) rfl))
theorem wb_X4 : Cond.instantiable RX4 6 ∈ wsL_law := wq (wr_1 (List.mem_of_getElem? (i := 1) rfl))
theorem wn_X4 : Cond.initialized RX4 ∈ wsL_law := wq (wr_1 (List.mem_of_getElem? (i := 2) rfl))
theorem wl_L_59 : Cond.classLink RL 59 RX5 ∈ wsL_law := wq (wr_1 (List.mem_of_getElem? (i := 3) rfl))
theorem wb_X5 : Cond.instantiable RX5 7 ∈ wsL_law := wq (wr_1 (List.mem_of_getElem? (i := 4) rfl))
theorem wn_X5 : Cond.initialized RX5 ∈ wsL_law := wq (wr_1 (List.mem_of_getElem? (i := 5) rfl))
theorem wa_long : Cond.arrayClass .long ∈ wsL_law := wq (wr_1 (List.mem_of_getElem? (i := 6) rfl))
theorem wm_L_58 : Cond.methodLink RL 58 yX4_init ∈ wsL_law := wq (wr_1 (List.mem_of_getElem? (i := 7) rfl))
theorem wi_X4_init : Cond.instanceMethod yX4_init ∈ wsL_law := wq (wr_1 (List.mem_of_getElem? (i := 8) rfl))
theorem wc_X4_init : Cond.code yX4_init cX4_init 1 none ∈ wsL_law := wq (wr_1 (List.mem_of_getElem? (i := 9) rfl))
theorem wm_X4_3 : Cond.methodLink RX4 3 objectInit ∈ wsL_law := wq (wr_1 (List.mem_of_getElem? (i := 10) rfl))
theorem wi_objectInit : Cond.instanceMethod objectInit ∈ wsL_law := wq (wr_1 (List.mem_of_getElem? (i := 11) rfl))
theorem wc_objectInit : Cond.code objectInit ⟨#[0xb1]⟩ 1 none ∈ wsL_law := wq (wr_1 (List.mem_of_getElem? (i := 12) rfl))
theorem wl_X4_9 : Cond.classLink RX4 9 RX3 ∈ wsL_law := wq (wr_1 (List.mem_of_getElem? (i := 13) rfl))
theorem wb_X3 : Cond.instantiable RX3 7 ∈ wsL_law := wq (wr_1 (List.mem_of_getElem? (i := 14) rfl))
theorem wn_X3 : Cond.initialized RX3 ∈ wsL_law := wq (wr_1 (List.mem_of_getElem? (i := 15) rfl))
theorem wf_X4_12 : Cond.fieldLink RX4 12 "MoveList" "sight" "LMoveList$Sight;" ∈ wsL_law := wq (wr_1 (List.mem_of_getElem? (i := 16) rfl))
theorem wf_X4_16 : Cond.fieldLink RX4 16 "MoveList$Sight" "position" "LMoveList$Position;" ∈ wsL_law := wq (wr_1 (List.mem_of_getElem? (i := 17) rfl))
theorem wf_X4_20 : Cond.fieldLink RX4 20 "MoveList" "position" "LMoveList$Position;" ∈ wsL_law := wq (wr_1 (List.mem_of_getElem? (i := 18) rfl))
theorem wl_X4_21 : Cond.classLink RX4 21 RX1 ∈ wsL_law := wq (wr_1 (List.mem_of_getElem? (i := 19) rfl))
theorem wb_X1 : Cond.instantiable RX1 2 ∈ wsL_law := wq (wr_1 (List.mem_of_getElem? (i := 20) rfl))
theorem wn_X1 : Cond.initialized RX1 ∈ wsL_law := wq (wr_1 (List.mem_of_getElem? (i := 21) rfl))
theorem wf_X4_24 : Cond.fieldLink RX4 24 "MoveList" "list" "LMoveList$Moves;" ∈ wsL_law := wq (wr_1 (List.mem_of_getElem? (i := 22) rfl))
theorem wf_X4_28 : Cond.fieldLink RX4 28 "MoveList" "ahead" "LMoveList$Moves;" ∈ wsL_law := wq (wr_1 (List.mem_of_getElem? (i := 23) rfl))
theorem wf_X4_31 : Cond.fieldLink RX4 31 "MoveList" "known" "Z" ∈ wsL_law := wq (wr_2 (List.mem_of_getElem? (i := 0) rfl))
theorem wf_X4_35 : Cond.fieldLink RX4 35 "MoveList" "open" "Z" ∈ wsL_law := wq (wr_2 (List.mem_of_getElem? (i := 1) rfl))
theorem wm_X4_11 : Cond.methodLink RX4 11 yX3_init ∈ wsL_law := wq (wr_2 (List.mem_of_getElem? (i := 2) rfl))
theorem wi_X3_init : Cond.instanceMethod yX3_init ∈ wsL_law := wq (wr_2 (List.mem_of_getElem? (i := 3) rfl))
theorem wc_X3_init : Cond.code yX3_init cX3_init 1 none ∈ wsL_law := wq (wr_2 (List.mem_of_getElem? (i := 4) rfl))
theorem wm_X3_3 : Cond.methodLink RX3 3 objectInit ∈ wsL_law := wq (wr_2 (List.mem_of_getElem? (i := 5) rfl))
theorem wl_X3_9 : Cond.classLink RX3 9 RX2 ∈ wsL_law := wq (wr_2 (List.mem_of_getElem? (i := 6) rfl))
theorem wb_X2 : Cond.instantiable RX2 8 ∈ wsL_law := wq (wr_2 (List.mem_of_getElem? (i := 7) rfl))
theorem wn_X2 : Cond.initialized RX2 ∈ wsL_law := wq (wr_2 (List.mem_of_getElem? (i := 8) rfl))
theorem wf_X3_12 : Cond.fieldLink RX3 12 "MoveList$Sight" "position" "LMoveList$Position;" ∈ wsL_law := wq (wr_2 (List.mem_of_getElem? (i := 9) rfl))
theorem wf_X3_18 : Cond.fieldLink RX3 18 "MoveList$Sight" "own" "J" ∈ wsL_law := wq (wr_2 (List.mem_of_getElem? (i := 10) rfl))
theorem wf_X3_22 : Cond.fieldLink RX3 22 "MoveList$Sight" "theirs" "J" ∈ wsL_law := wq (wr_2 (List.mem_of_getElem? (i := 11) rfl))
theorem wf_X3_25 : Cond.fieldLink RX3 25 "MoveList$Sight" "full" "J" ∈ wsL_law := wq (wr_2 (List.mem_of_getElem? (i := 12) rfl))
theorem wf_X3_28 : Cond.fieldLink RX3 28 "MoveList$Sight" "king" "J" ∈ wsL_law := wq (wr_2 (List.mem_of_getElem? (i := 13) rfl))
theorem wf_X3_31 : Cond.fieldLink RX3 31 "MoveList$Sight" "cover" "J" ∈ wsL_law := wq (wr_2 (List.mem_of_getElem? (i := 14) rfl))
theorem wf_X3_34 : Cond.fieldLink RX3 34 "MoveList$Sight" "pins" "J" ∈ wsL_law := wq (wr_2 (List.mem_of_getElem? (i := 15) rfl))
theorem wm_X3_11 : Cond.methodLink RX3 11 yX2_init ∈ wsL_law := wq (wr_2 (List.mem_of_getElem? (i := 16) rfl))
theorem wi_X2_init : Cond.instanceMethod yX2_init ∈ wsL_law := wq (wr_2 (List.mem_of_getElem? (i := 17) rfl))
theorem wc_X2_init : Cond.code yX2_init cX2_init 1 none ∈ wsL_law := wq (wr_2 (List.mem_of_getElem? (i := 18) rfl))
theorem wm_X2_3 : Cond.methodLink RX2 3 objectInit ∈ wsL_law := wq (wr_2 (List.mem_of_getElem? (i := 19) rfl))
theorem wa_int : Cond.arrayClass .int ∈ wsL_law := wq (wr_2 (List.mem_of_getElem? (i := 20) rfl))
theorem wf_X2_9 : Cond.fieldLink RX2 9 "MoveList$Position" "pieces" "[I" ∈ wsL_law := wq (wr_2 (List.mem_of_getElem? (i := 21) rfl))
theorem wf_X2_15 : Cond.fieldLink RX2 15 "MoveList$Position" "squares" "[J" ∈ wsL_law := wq (wr_2 (List.mem_of_getElem? (i := 22) rfl))
theorem wk_X2_19 : Cond.constantLong RX2 19 (-1) ∈ wsL_law := wq (wr_2 (List.mem_of_getElem? (i := 23) rfl))
theorem wf_X2_21 : Cond.fieldLink RX2 21 "MoveList$Position" "side" "I" ∈ wsL_law := wq (wr_3 (List.mem_of_getElem? (i := 0) rfl))
theorem wf_X2_25 : Cond.fieldLink RX2 25 "MoveList$Position" "rights" "I" ∈ wsL_law := wq (wr_3 (List.mem_of_getElem? (i := 1) rfl))
theorem wf_X2_28 : Cond.fieldLink RX2 28 "MoveList$Position" "passing" "I" ∈ wsL_law := wq (wr_3 (List.mem_of_getElem? (i := 2) rfl))
theorem wf_X2_31 : Cond.fieldLink RX2 31 "MoveList$Position" "moves" "[I" ∈ wsL_law := wq (wr_3 (List.mem_of_getElem? (i := 3) rfl))
theorem wf_X2_34 : Cond.fieldLink RX2 34 "MoveList$Position" "lost" "[I" ∈ wsL_law := wq (wr_3 (List.mem_of_getElem? (i := 4) rfl))
theorem wf_X2_37 : Cond.fieldLink RX2 37 "MoveList$Position" "made" "I" ∈ wsL_law := wq (wr_3 (List.mem_of_getElem? (i := 5) rfl))
theorem wm_X4_23 : Cond.methodLink RX4 23 yX1_init ∈ wsL_law := wq (wr_3 (List.mem_of_getElem? (i := 6) rfl))
theorem wi_X1_init : Cond.instanceMethod yX1_init ∈ wsL_law := wq (wr_3 (List.mem_of_getElem? (i := 7) rfl))
theorem wc_X1_init : Cond.code yX1_init cX1_init 1 none ∈ wsL_law := wq (wr_3 (List.mem_of_getElem? (i := 8) rfl))
theorem wm_X1_3 : Cond.methodLink RX1 3 objectInit ∈ wsL_law := wq (wr_3 (List.mem_of_getElem? (i := 9) rfl))
theorem wf_X1_9 : Cond.fieldLink RX1 9 "MoveList$Moves" "moves" "[I" ∈ wsL_law := wq (wr_3 (List.mem_of_getElem? (i := 10) rfl))
theorem wf_X1_15 : Cond.fieldLink RX1 15 "MoveList$Moves" "size" "I" ∈ wsL_law := wq (wr_3 (List.mem_of_getElem? (i := 11) rfl))
theorem wm_L_61 : Cond.methodLink RL 61 yX5_init ∈ wsL_law := wq (wr_3 (List.mem_of_getElem? (i := 12) rfl))
theorem wi_X5_init : Cond.instanceMethod yX5_init ∈ wsL_law := wq (wr_3 (List.mem_of_getElem? (i := 13) rfl))
theorem wc_X5_init : Cond.code yX5_init cX5_init 1 none ∈ wsL_law := wq (wr_3 (List.mem_of_getElem? (i := 14) rfl))
theorem wm_X5_1 : Cond.methodLink RX5 1 objectInit ∈ wsL_law := wq (wr_3 (List.mem_of_getElem? (i := 15) rfl))
theorem wf_X5_7 : Cond.fieldLink RX5 7 "MoveListModel" "boards" "[I" ∈ wsL_law := wq (wr_3 (List.mem_of_getElem? (i := 16) rfl))
theorem wf_X5_13 : Cond.fieldLink RX5 13 "MoveListModel" "moves" "[I" ∈ wsL_law := wq (wr_3 (List.mem_of_getElem? (i := 17) rfl))
theorem wf_X5_16 : Cond.fieldLink RX5 16 "MoveListModel" "kept" "[I" ∈ wsL_law := wq (wr_3 (List.mem_of_getElem? (i := 18) rfl))
theorem wf_X5_19 : Cond.fieldLink RX5 19 "MoveListModel" "list" "[I" ∈ wsL_law := wq (wr_3 (List.mem_of_getElem? (i := 19) rfl))
theorem wm_L_62 : Cond.methodLink RL 62 yX4_clear ∈ wsL_law := wq (wr_3 (List.mem_of_getElem? (i := 20) rfl))
theorem wi_X4_clear : Cond.instanceMethod yX4_clear ∈ wsL_law := wq (wr_3 (List.mem_of_getElem? (i := 21) rfl))
theorem ws_X4_clear : Cond.selects RX4 yX4_clear yX4_clear ∈ wsL_law := wq (wr_3 (List.mem_of_getElem? (i := 22) rfl))
theorem wc_X4_clear : Cond.code yX4_clear cX4_clear 1 none ∈ wsL_law := wq (wr_3 (List.mem_of_getElem? (i := 23) rfl))
theorem wm_X4_38 : Cond.methodLink RX4 38 yX2_empty ∈ wsL_law := wq (wr_4 (List.mem_of_getElem? (i := 0) rfl))
theorem wi_X2_empty : Cond.instanceMethod yX2_empty ∈ wsL_law := wq (wr_4 (List.mem_of_getElem? (i := 1) rfl))
theorem ws_X2_empty : Cond.selects RX2 yX2_empty yX2_empty ∈ wsL_law := wq (wr_4 (List.mem_of_getElem? (i := 2) rfl))
theorem wc_X2_empty : Cond.code yX2_empty cX2_empty 2 none ∈ wsL_law := wq (wr_4 (List.mem_of_getElem? (i := 3) rfl))
theorem wm_X2_40 : Cond.methodLink RX2 40 yX2_set ∈ wsL_law := wq (wr_4 (List.mem_of_getElem? (i := 4) rfl))
theorem wi_X2_set : Cond.instanceMethod yX2_set ∈ wsL_law := wq (wr_4 (List.mem_of_getElem? (i := 5) rfl))
theorem ws_X2_set : Cond.selects RX2 yX2_set yX2_set ∈ wsL_law := wq (wr_4 (List.mem_of_getElem? (i := 6) rfl))
theorem wc_X2_set : Cond.code yX2_set cX2_set 4 none ∈ wsL_law := wq (wr_4 (List.mem_of_getElem? (i := 7) rfl))
theorem wt_X4_isSquare : Cond.static yX4_isSquare ∈ wsL_law := wq (wr_4 (List.mem_of_getElem? (i := 8) rfl))
theorem wc_X4_isSquare : Cond.code yX4_isSquare cX4_isSquare 1 (some .boolean) ∈ wsL_law := wq (wr_4 (List.mem_of_getElem? (i := 9) rfl))
theorem wt_X4_isPiece : Cond.static yX4_isPiece ∈ wsL_law := wq (wr_4 (List.mem_of_getElem? (i := 10) rfl))
theorem wc_X4_isPiece : Cond.code yX4_isPiece cX4_isPiece 1 (some .boolean) ∈ wsL_law := wq (wr_4 (List.mem_of_getElem? (i := 11) rfl))
theorem wt_X4_bit : Cond.static yX4_bit ∈ wsL_law := wq (wr_4 (List.mem_of_getElem? (i := 12) rfl))
theorem wc_X4_bit : Cond.code yX4_bit cX4_bit 1 (some .long) ∈ wsL_law := wq (wr_4 (List.mem_of_getElem? (i := 13) rfl))
theorem wm_X4_43 : Cond.methodLink RX4 43 yX4_setUpAnew ∈ wsL_law := wq (wr_4 (List.mem_of_getElem? (i := 14) rfl))
theorem wi_X4_setUpAnew : Cond.instanceMethod yX4_setUpAnew ∈ wsL_law := wq (wr_4 (List.mem_of_getElem? (i := 15) rfl))
theorem ws_X4_setUpAnew : Cond.selects RX4 yX4_setUpAnew yX4_setUpAnew ∈ wsL_law := wq (wr_4 (List.mem_of_getElem? (i := 16) rfl))
theorem wc_X4_setUpAnew : Cond.code yX4_setUpAnew cX4_setUpAnew 1 none ∈ wsL_law := wq (wr_4 (List.mem_of_getElem? (i := 17) rfl))
theorem wf_X4_138 : Cond.fieldLink RX4 138 "MoveList$Position" "made" "I" ∈ wsL_law := wq (wr_4 (List.mem_of_getElem? (i := 18) rfl))
theorem wm_L_65 : Cond.methodLink RL 65 yX5_clear ∈ wsL_law := wq (wr_4 (List.mem_of_getElem? (i := 19) rfl))
theorem wi_X5_clear : Cond.instanceMethod yX5_clear ∈ wsL_law := wq (wr_4 (List.mem_of_getElem? (i := 20) rfl))
theorem ws_X5_clear : Cond.selects RX5 yX5_clear yX5_clear ∈ wsL_law := wq (wr_4 (List.mem_of_getElem? (i := 21) rfl))
theorem wc_X5_clear : Cond.code yX5_clear cX5_clear 2 none ∈ wsL_law := wq (wr_4 (List.mem_of_getElem? (i := 22) rfl))
theorem wf_X5_22 : Cond.fieldLink RX5 22 "MoveListModel" "thrown" "I" ∈ wsL_law := wq (wr_4 (List.mem_of_getElem? (i := 23) rfl))
theorem wf_X5_26 : Cond.fieldLink RX5 26 "MoveListModel" "made" "I" ∈ wsL_law := wq (wr_5 (List.mem_of_getElem? (i := 0) rfl))
theorem wm_L_66 : Cond.methodLink RL 66 yX4_begin ∈ wsL_law := wq (wr_5 (List.mem_of_getElem? (i := 1) rfl))
theorem wi_X4_begin : Cond.instanceMethod yX4_begin ∈ wsL_law := wq (wr_5 (List.mem_of_getElem? (i := 2) rfl))
theorem ws_X4_begin : Cond.selects RX4 yX4_begin yX4_begin ∈ wsL_law := wq (wr_5 (List.mem_of_getElem? (i := 3) rfl))
theorem wc_X4_begin : Cond.code yX4_begin cX4_begin 1 none ∈ wsL_law := wq (wr_5 (List.mem_of_getElem? (i := 4) rfl))
theorem wm_X4_46 : Cond.methodLink RX4 46 yX2_layOut ∈ wsL_law := wq (wr_5 (List.mem_of_getElem? (i := 5) rfl))
theorem wi_X2_layOut : Cond.instanceMethod yX2_layOut ∈ wsL_law := wq (wr_5 (List.mem_of_getElem? (i := 6) rfl))
theorem ws_X2_layOut : Cond.selects RX2 yX2_layOut yX2_layOut ∈ wsL_law := wq (wr_5 (List.mem_of_getElem? (i := 7) rfl))
theorem wc_X2_layOut : Cond.code yX2_layOut cX2_layOut 2 none ∈ wsL_law := wq (wr_5 (List.mem_of_getElem? (i := 8) rfl))
theorem wf_X2_47 : Cond.fieldLink RX2 47 "MoveList$Position" "FIRST_RANK" "[I" ∈ wsL_law := wq (wr_5 (List.mem_of_getElem? (i := 9) rfl))
theorem wm_X2_44 : Cond.methodLink RX2 44 yX2_empty ∈ wsL_law := wq (wr_5 (List.mem_of_getElem? (i := 10) rfl))
theorem wm_L_69 : Cond.methodLink RL 69 yX5_begin ∈ wsL_law := wq (wr_5 (List.mem_of_getElem? (i := 11) rfl))
theorem wi_X5_begin : Cond.instanceMethod yX5_begin ∈ wsL_law := wq (wr_5 (List.mem_of_getElem? (i := 12) rfl))
theorem ws_X5_begin : Cond.selects RX5 yX5_begin yX5_begin ∈ wsL_law := wq (wr_5 (List.mem_of_getElem? (i := 13) rfl))
theorem wc_X5_begin : Cond.code yX5_begin cX5_begin 2 none ∈ wsL_law := wq (wr_5 (List.mem_of_getElem? (i := 14) rfl))
theorem wm_X5_29 : Cond.methodLink RX5 29 yX5_clear ∈ wsL_law := wq (wr_5 (List.mem_of_getElem? (i := 15) rfl))
theorem wm_X5_32 : Cond.methodLink RX5 32 yX5_home ∈ wsL_law := wq (wr_5 (List.mem_of_getElem? (i := 16) rfl))
theorem wt_X5_home : Cond.static yX5_home ∈ wsL_law := wq (wr_5 (List.mem_of_getElem? (i := 17) rfl))
theorem wc_X5_home : Cond.code yX5_home cX5_home 1 (some .int) ∈ wsL_law := wq (wr_5 (List.mem_of_getElem? (i := 18) rfl))
theorem wm_L_70 : Cond.methodLink RL 70 yL_put ∈ wsL_law := wq (wr_5 (List.mem_of_getElem? (i := 19) rfl))
theorem wt_L_put : Cond.static yL_put ∈ wsL_law := wq (wr_5 (List.mem_of_getElem? (i := 20) rfl))
theorem wn_L : Cond.initialized RL ∈ wsL_law := wq (wr_5 (List.mem_of_getElem? (i := 21) rfl))
theorem wc_L_put : Cond.codeWith yL_put cL_put 4 (some .int) [(0, 6, 9, 13), (0, 6, 12, 15)] ∈ wsL_law := wq (wr_5 (List.mem_of_getElem? (i := 22) rfl))
theorem wl_L_13 : Cond.classLink RL 13 "java/lang/IndexOutOfBoundsException" ∈ wsL_law := wq (wr_5 (List.mem_of_getElem? (i := 23) rfl))
theorem wl_L_15 : Cond.classLink RL 15 "java/lang/IllegalArgumentException" ∈ wsL_law := wq (wr_6 (List.mem_of_getElem? (i := 0) rfl))
theorem wm_L_7 : Cond.methodLink RL 7 yX4_put ∈ wsL_law := wq (wr_6 (List.mem_of_getElem? (i := 1) rfl))
theorem wi_X4_put : Cond.instanceMethod yX4_put ∈ wsL_law := wq (wr_6 (List.mem_of_getElem? (i := 2) rfl))
theorem ws_X4_put : Cond.selects RX4 yX4_put yX4_put ∈ wsL_law := wq (wr_6 (List.mem_of_getElem? (i := 3) rfl))
theorem wc_X4_put : Cond.code yX4_put cX4_put 3 none ∈ wsL_law := wq (wr_6 (List.mem_of_getElem? (i := 4) rfl))
theorem wl_X4_53 : Cond.classLink RX4 53 "java/lang/IndexOutOfBoundsException" ∈ wsL_law := wq (wr_6 (List.mem_of_getElem? (i := 5) rfl))
theorem wn_java_lang_IndexOutOfBoundsException : Cond.initialized "java/lang/IndexOutOfBoundsException" ∈ wsL_law := wq (wr_6 (List.mem_of_getElem? (i := 6) rfl))
theorem wl_X4_63 : Cond.classLink RX4 63 "java/lang/IllegalArgumentException" ∈ wsL_law := wq (wr_6 (List.mem_of_getElem? (i := 7) rfl))
theorem wn_java_lang_IllegalArgumentException : Cond.initialized "java/lang/IllegalArgumentException" ∈ wsL_law := wq (wr_6 (List.mem_of_getElem? (i := 8) rfl))
theorem wm_X4_49 : Cond.methodLink RX4 49 yX4_isSquare ∈ wsL_law := wq (wr_6 (List.mem_of_getElem? (i := 9) rfl))
theorem wm_X4_60 : Cond.methodLink RX4 60 yX4_isPiece ∈ wsL_law := wq (wr_6 (List.mem_of_getElem? (i := 10) rfl))
theorem wm_X4_68 : Cond.methodLink RX4 68 yX2_set ∈ wsL_law := wq (wr_6 (List.mem_of_getElem? (i := 11) rfl))
theorem wm_L_75 : Cond.methodLink RL 75 yX5_put ∈ wsL_law := wq (wr_6 (List.mem_of_getElem? (i := 12) rfl))
theorem wi_X5_put : Cond.instanceMethod yX5_put ∈ wsL_law := wq (wr_6 (List.mem_of_getElem? (i := 13) rfl))
theorem ws_X5_put : Cond.selects RX5 yX5_put yX5_put ∈ wsL_law := wq (wr_6 (List.mem_of_getElem? (i := 14) rfl))
theorem wc_X5_put : Cond.code yX5_put cX5_put 3 none ∈ wsL_law := wq (wr_6 (List.mem_of_getElem? (i := 15) rfl))
theorem wm_X5_36 : Cond.methodLink RX5 36 yX5_isSquare ∈ wsL_law := wq (wr_6 (List.mem_of_getElem? (i := 16) rfl))
theorem wt_X5_isSquare : Cond.static yX5_isSquare ∈ wsL_law := wq (wr_6 (List.mem_of_getElem? (i := 17) rfl))
theorem wc_X5_isSquare : Cond.code yX5_isSquare cX5_isSquare 1 (some .boolean) ∈ wsL_law := wq (wr_6 (List.mem_of_getElem? (i := 18) rfl))
theorem wm_L_76 : Cond.methodLink RL 76 yX5_thrown ∈ wsL_law := wq (wr_6 (List.mem_of_getElem? (i := 19) rfl))
theorem wi_X5_thrown : Cond.instanceMethod yX5_thrown ∈ wsL_law := wq (wr_6 (List.mem_of_getElem? (i := 20) rfl))
theorem ws_X5_thrown : Cond.selects RX5 yX5_thrown yX5_thrown ∈ wsL_law := wq (wr_6 (List.mem_of_getElem? (i := 21) rfl))
theorem wc_X5_thrown : Cond.code yX5_thrown cX5_thrown 1 (some .int) ∈ wsL_law := wq (wr_6 (List.mem_of_getElem? (i := 22) rfl))
theorem wm_L_79 : Cond.methodLink RL 79 yL_state ∈ wsL_law := wq (wr_6 (List.mem_of_getElem? (i := 23) rfl))
theorem wt_L_state : Cond.static yL_state ∈ wsL_law := wq (wr_7 (List.mem_of_getElem? (i := 0) rfl))
theorem wc_L_state : Cond.codeWith yL_state cL_state 5 (some .int) [(0, 7, 10, 15)] ∈ wsL_law := wq (wr_7 (List.mem_of_getElem? (i := 1) rfl))
theorem wm_L_17 : Cond.methodLink RL 17 yX4_state ∈ wsL_law := wq (wr_7 (List.mem_of_getElem? (i := 2) rfl))
theorem wi_X4_state : Cond.instanceMethod yX4_state ∈ wsL_law := wq (wr_7 (List.mem_of_getElem? (i := 3) rfl))
theorem ws_X4_state : Cond.selects RX4 yX4_state yX4_state ∈ wsL_law := wq (wr_7 (List.mem_of_getElem? (i := 4) rfl))
theorem wc_X4_state : Cond.code yX4_state cX4_state 4 none ∈ wsL_law := wq (wr_7 (List.mem_of_getElem? (i := 5) rfl))
theorem wf_X4_78 : Cond.fieldLink RX4 78 "MoveList$Position" "side" "I" ∈ wsL_law := wq (wr_7 (List.mem_of_getElem? (i := 6) rfl))
theorem wf_X4_82 : Cond.fieldLink RX4 82 "MoveList$Position" "rights" "I" ∈ wsL_law := wq (wr_7 (List.mem_of_getElem? (i := 7) rfl))
theorem wf_X4_85 : Cond.fieldLink RX4 85 "MoveList$Position" "passing" "I" ∈ wsL_law := wq (wr_7 (List.mem_of_getElem? (i := 8) rfl))
theorem wm_L_82 : Cond.methodLink RL 82 yX5_state ∈ wsL_law := wq (wr_7 (List.mem_of_getElem? (i := 9) rfl))
theorem wi_X5_state : Cond.instanceMethod yX5_state ∈ wsL_law := wq (wr_7 (List.mem_of_getElem? (i := 10) rfl))
theorem ws_X5_state : Cond.selects RX5 yX5_state yX5_state ∈ wsL_law := wq (wr_7 (List.mem_of_getElem? (i := 11) rfl))
theorem wc_X5_state : Cond.code yX5_state cX5_state 4 none ∈ wsL_law := wq (wr_7 (List.mem_of_getElem? (i := 12) rfl))
theorem wm_L_83 : Cond.methodLink RL 83 yX4_playable ∈ wsL_law := wq (wr_7 (List.mem_of_getElem? (i := 13) rfl))
theorem wi_X4_playable : Cond.instanceMethod yX4_playable ∈ wsL_law := wq (wr_7 (List.mem_of_getElem? (i := 14) rfl))
theorem ws_X4_playable : Cond.selects RX4 yX4_playable yX4_playable ∈ wsL_law := wq (wr_7 (List.mem_of_getElem? (i := 15) rfl))
theorem wc_X4_playable : Cond.code yX4_playable cX4_playable 1 (some .boolean) ∈ wsL_law := wq (wr_7 (List.mem_of_getElem? (i := 16) rfl))
theorem wm_X4_88 : Cond.methodLink RX4 88 yX2_canBePlayed ∈ wsL_law := wq (wr_7 (List.mem_of_getElem? (i := 17) rfl))
theorem wi_X2_canBePlayed : Cond.instanceMethod yX2_canBePlayed ∈ wsL_law := wq (wr_7 (List.mem_of_getElem? (i := 18) rfl))
theorem ws_X2_canBePlayed : Cond.selects RX2 yX2_canBePlayed yX2_canBePlayed ∈ wsL_law := wq (wr_7 (List.mem_of_getElem? (i := 19) rfl))
theorem wc_X2_canBePlayed : Cond.code yX2_canBePlayed cX2_canBePlayed 1 (some .boolean) ∈ wsL_law := wq (wr_7 (List.mem_of_getElem? (i := 20) rfl))
theorem wm_X2_61 : Cond.methodLink RX2 61 yX2_squaresOf ∈ wsL_law := wq (wr_7 (List.mem_of_getElem? (i := 21) rfl))
theorem wi_X2_squaresOf : Cond.instanceMethod yX2_squaresOf ∈ wsL_law := wq (wr_7 (List.mem_of_getElem? (i := 22) rfl))
theorem ws_X2_squaresOf : Cond.selects RX2 yX2_squaresOf yX2_squaresOf ∈ wsL_law := wq (wr_7 (List.mem_of_getElem? (i := 23) rfl))
theorem wc_X2_squaresOf : Cond.code yX2_squaresOf cX2_squaresOf 2 (some .long) ∈ wsL_law := wq (wr_8 (List.mem_of_getElem? (i := 0) rfl))
theorem wm_X2_85 : Cond.methodLink RX2 85 yJ13_bitCount_95d88 ∈ wsL_law := wq (wr_8 (List.mem_of_getElem? (i := 1) rfl))
theorem wt_J13_bitCount_95d88 : Cond.static yJ13_bitCount_95d88 ∈ wsL_law := wq (wr_8 (List.mem_of_getElem? (i := 2) rfl))
theorem wn_J13 : Cond.initialized RJ13 ∈ wsL_law := wq (wr_8 (List.mem_of_getElem? (i := 3) rfl))
theorem wc_J13_bitCount_95d88 : Cond.code yJ13_bitCount_95d88 cJ13_bitCount_95d88 2 (some .int) ∈ wsL_law := wq (wr_8 (List.mem_of_getElem? (i := 4) rfl))
theorem wk_J13_314 : Cond.constantLong RJ13 314 (6148914691236517205) ∈ wsL_law := wq (wr_8 (List.mem_of_getElem? (i := 5) rfl))
theorem wk_J13_316 : Cond.constantLong RJ13 316 (3689348814741910323) ∈ wsL_law := wq (wr_8 (List.mem_of_getElem? (i := 6) rfl))
theorem wk_J13_318 : Cond.constantLong RJ13 318 (1085102592571150095) ∈ wsL_law := wq (wr_8 (List.mem_of_getElem? (i := 7) rfl))
theorem wm_X2_91 : Cond.methodLink RX2 91 yX2_kingIsAttacked ∈ wsL_law := wq (wr_8 (List.mem_of_getElem? (i := 8) rfl))
theorem wi_X2_kingIsAttacked : Cond.instanceMethod yX2_kingIsAttacked ∈ wsL_law := wq (wr_8 (List.mem_of_getElem? (i := 9) rfl))
theorem ws_X2_kingIsAttacked : Cond.selects RX2 yX2_kingIsAttacked yX2_kingIsAttacked ∈ wsL_law := wq (wr_8 (List.mem_of_getElem? (i := 10) rfl))
theorem wc_X2_kingIsAttacked : Cond.code yX2_kingIsAttacked cX2_kingIsAttacked 4 (some .boolean) ∈ wsL_law := wq (wr_8 (List.mem_of_getElem? (i := 11) rfl))
theorem wm_X2_81 : Cond.methodLink RX2 81 yX2_attacksOf ∈ wsL_law := wq (wr_8 (List.mem_of_getElem? (i := 12) rfl))
theorem wi_X2_attacksOf : Cond.instanceMethod yX2_attacksOf ∈ wsL_law := wq (wr_8 (List.mem_of_getElem? (i := 13) rfl))
theorem ws_X2_attacksOf : Cond.selects RX2 yX2_attacksOf yX2_attacksOf ∈ wsL_law := wq (wr_8 (List.mem_of_getElem? (i := 14) rfl))
theorem wc_X2_attacksOf : Cond.code yX2_attacksOf cX2_attacksOf 16 (some .long) ∈ wsL_law := wq (wr_8 (List.mem_of_getElem? (i := 15) rfl))
theorem wm_X2_64 : Cond.methodLink RX2 64 yX0_ofPawns ∈ wsL_law := wq (wr_8 (List.mem_of_getElem? (i := 16) rfl))
theorem wt_X0_ofPawns : Cond.static yX0_ofPawns ∈ wsL_law := wq (wr_8 (List.mem_of_getElem? (i := 17) rfl))
theorem wn_X0 : Cond.initialized RX0 ∈ wsL_law := wq (wr_8 (List.mem_of_getElem? (i := 18) rfl))
theorem wc_X0_ofPawns : Cond.code yX0_ofPawns cX0_ofPawns 7 (some .long) ∈ wsL_law := wq (wr_8 (List.mem_of_getElem? (i := 19) rfl))
theorem wk_X0_25 : Cond.constantLong RX0 25 (-72340172838076674) ∈ wsL_law := wq (wr_8 (List.mem_of_getElem? (i := 20) rfl))
theorem wk_X0_27 : Cond.constantLong RX0 27 (9187201950435737471) ∈ wsL_law := wq (wr_8 (List.mem_of_getElem? (i := 21) rfl))
theorem wm_X2_70 : Cond.methodLink RX2 70 yX0_ofKnights ∈ wsL_law := wq (wr_8 (List.mem_of_getElem? (i := 22) rfl))
theorem wt_X0_ofKnights : Cond.static yX0_ofKnights ∈ wsL_law := wq (wr_8 (List.mem_of_getElem? (i := 23) rfl))
theorem wc_X0_ofKnights : Cond.code yX0_ofKnights cX0_ofKnights 14 (some .long) ∈ wsL_law := wq (wr_9 (List.mem_of_getElem? (i := 0) rfl))
theorem wk_X0_29 : Cond.constantLong RX0 29 (-144680345676153347) ∈ wsL_law := wq (wr_9 (List.mem_of_getElem? (i := 1) rfl))
theorem wk_X0_31 : Cond.constantLong RX0 31 (-4629771061636907073) ∈ wsL_law := wq (wr_9 (List.mem_of_getElem? (i := 2) rfl))
theorem wm_X2_74 : Cond.methodLink RX2 74 yX0_ofKings ∈ wsL_law := wq (wr_9 (List.mem_of_getElem? (i := 3) rfl))
theorem wt_X0_ofKings : Cond.static yX0_ofKings ∈ wsL_law := wq (wr_9 (List.mem_of_getElem? (i := 4) rfl))
theorem wc_X0_ofKings : Cond.code yX0_ofKings cX0_ofKings 6 (some .long) ∈ wsL_law := wq (wr_9 (List.mem_of_getElem? (i := 5) rfl))
theorem wm_X2_77 : Cond.methodLink RX2 77 yX0_ray ∈ wsL_law := wq (wr_9 (List.mem_of_getElem? (i := 6) rfl))
theorem wt_X0_ray : Cond.static yX0_ray ∈ wsL_law := wq (wr_9 (List.mem_of_getElem? (i := 7) rfl))
theorem wc_X0_ray : Cond.code yX0_ray cX0_ray 13 (some .long) ∈ wsL_law := wq (wr_9 (List.mem_of_getElem? (i := 8) rfl))
theorem wf_X0_11 : Cond.fieldLink RX0 11 "MoveList$Attacks" "STEP" "[I" ∈ wsL_law := wq (wr_9 (List.mem_of_getElem? (i := 9) rfl))
theorem wf_X0_15 : Cond.fieldLink RX0 15 "MoveList$Attacks" "INSIDE" "[J" ∈ wsL_law := wq (wr_9 (List.mem_of_getElem? (i := 10) rfl))
theorem wk_X0_19 : Cond.constantLong RX0 19 (-1) ∈ wsL_law := wq (wr_9 (List.mem_of_getElem? (i := 11) rfl))
theorem wm_L_86 : Cond.methodLink RL 86 yX5_playable ∈ wsL_law := wq (wr_9 (List.mem_of_getElem? (i := 12) rfl))
theorem wi_X5_playable : Cond.instanceMethod yX5_playable ∈ wsL_law := wq (wr_9 (List.mem_of_getElem? (i := 13) rfl))
theorem ws_X5_playable : Cond.selects RX5 yX5_playable yX5_playable ∈ wsL_law := wq (wr_9 (List.mem_of_getElem? (i := 14) rfl))
theorem wc_X5_playable : Cond.code yX5_playable cX5_playable 1 (some .boolean) ∈ wsL_law := wq (wr_9 (List.mem_of_getElem? (i := 15) rfl))
theorem wm_X5_67 : Cond.methodLink RX5 67 yX5_isPlayable ∈ wsL_law := wq (wr_9 (List.mem_of_getElem? (i := 16) rfl))
theorem wi_X5_isPlayable : Cond.instanceMethod yX5_isPlayable ∈ wsL_law := wq (wr_9 (List.mem_of_getElem? (i := 17) rfl))
theorem ws_X5_isPlayable : Cond.selects RX5 yX5_isPlayable yX5_isPlayable ∈ wsL_law := wq (wr_9 (List.mem_of_getElem? (i := 18) rfl))
theorem wc_X5_isPlayable : Cond.code yX5_isPlayable cX5_isPlayable 1 (some .boolean) ∈ wsL_law := wq (wr_9 (List.mem_of_getElem? (i := 19) rfl))
theorem wm_X5_57 : Cond.methodLink RX5 57 yX5_kingOf ∈ wsL_law := wq (wr_9 (List.mem_of_getElem? (i := 20) rfl))
theorem wi_X5_kingOf : Cond.instanceMethod yX5_kingOf ∈ wsL_law := wq (wr_9 (List.mem_of_getElem? (i := 21) rfl))
theorem ws_X5_kingOf : Cond.selects RX5 yX5_kingOf yX5_kingOf ∈ wsL_law := wq (wr_9 (List.mem_of_getElem? (i := 22) rfl))
theorem wc_X5_kingOf : Cond.code yX5_kingOf cX5_kingOf 6 (some .int) ∈ wsL_law := wq (wr_9 (List.mem_of_getElem? (i := 23) rfl))
theorem wm_X5_63 : Cond.methodLink RX5 63 yX5_isChecked ∈ wsL_law := wq (wr_10 (List.mem_of_getElem? (i := 0) rfl))
theorem wi_X5_isChecked : Cond.instanceMethod yX5_isChecked ∈ wsL_law := wq (wr_10 (List.mem_of_getElem? (i := 1) rfl))
theorem ws_X5_isChecked : Cond.selects RX5 yX5_isChecked yX5_isChecked ∈ wsL_law := wq (wr_10 (List.mem_of_getElem? (i := 2) rfl))
theorem wc_X5_isChecked : Cond.code yX5_isChecked cX5_isChecked 3 (some .boolean) ∈ wsL_law := wq (wr_10 (List.mem_of_getElem? (i := 3) rfl))
theorem wm_X5_60 : Cond.methodLink RX5 60 yX5_isAttacked ∈ wsL_law := wq (wr_10 (List.mem_of_getElem? (i := 4) rfl))
theorem wi_X5_isAttacked : Cond.instanceMethod yX5_isAttacked ∈ wsL_law := wq (wr_10 (List.mem_of_getElem? (i := 5) rfl))
theorem ws_X5_isAttacked : Cond.selects RX5 yX5_isAttacked yX5_isAttacked ∈ wsL_law := wq (wr_10 (List.mem_of_getElem? (i := 6) rfl))
theorem wc_X5_isAttacked : Cond.code yX5_isAttacked cX5_isAttacked 6 (some .boolean) ∈ wsL_law := wq (wr_10 (List.mem_of_getElem? (i := 7) rfl))
theorem wm_X5_51 : Cond.methodLink RX5 51 yX5_sideOf ∈ wsL_law := wq (wr_10 (List.mem_of_getElem? (i := 8) rfl))
theorem wt_X5_sideOf : Cond.static yX5_sideOf ∈ wsL_law := wq (wr_10 (List.mem_of_getElem? (i := 9) rfl))
theorem wc_X5_sideOf : Cond.code yX5_sideOf cX5_sideOf 1 (some .int) ∈ wsL_law := wq (wr_10 (List.mem_of_getElem? (i := 10) rfl))
theorem wm_X5_54 : Cond.methodLink RX5 54 yX5_attacks ∈ wsL_law := wq (wr_10 (List.mem_of_getElem? (i := 11) rfl))
theorem wi_X5_attacks : Cond.instanceMethod yX5_attacks ∈ wsL_law := wq (wr_10 (List.mem_of_getElem? (i := 12) rfl))
theorem ws_X5_attacks : Cond.selects RX5 yX5_attacks yX5_attacks ∈ wsL_law := wq (wr_10 (List.mem_of_getElem? (i := 13) rfl))
theorem wc_X5_attacks : Cond.code yX5_attacks cX5_attacks 9 (some .boolean) ∈ wsL_law := wq (wr_10 (List.mem_of_getElem? (i := 14) rfl))
theorem wm_X5_40 : Cond.methodLink RX5 40 yX5_kindOf ∈ wsL_law := wq (wr_10 (List.mem_of_getElem? (i := 15) rfl))
theorem wt_X5_kindOf : Cond.static yX5_kindOf ∈ wsL_law := wq (wr_10 (List.mem_of_getElem? (i := 16) rfl))
theorem wc_X5_kindOf : Cond.code yX5_kindOf cX5_kindOf 1 (some .int) ∈ wsL_law := wq (wr_10 (List.mem_of_getElem? (i := 17) rfl))
theorem wm_X5_43 : Cond.methodLink RX5 43 yX5_apart ∈ wsL_law := wq (wr_10 (List.mem_of_getElem? (i := 18) rfl))
theorem wt_X5_apart : Cond.static yX5_apart ∈ wsL_law := wq (wr_10 (List.mem_of_getElem? (i := 19) rfl))
theorem wc_X5_apart : Cond.code yX5_apart cX5_apart 2 (some .int) ∈ wsL_law := wq (wr_10 (List.mem_of_getElem? (i := 20) rfl))
theorem wm_X5_47 : Cond.methodLink RX5 47 yX5_isFree ∈ wsL_law := wq (wr_10 (List.mem_of_getElem? (i := 21) rfl))
theorem wi_X5_isFree : Cond.instanceMethod yX5_isFree ∈ wsL_law := wq (wr_10 (List.mem_of_getElem? (i := 22) rfl))
theorem ws_X5_isFree : Cond.selects RX5 yX5_isFree yX5_isFree ∈ wsL_law := wq (wr_10 (List.mem_of_getElem? (i := 23) rfl))
theorem wc_X5_isFree : Cond.code yX5_isFree cX5_isFree 8 (some .boolean) ∈ wsL_law := wq (wr_11 (List.mem_of_getElem? (i := 0) rfl))
theorem wm_L_87 : Cond.methodLink RL 87 yL_count ∈ wsL_law := wq (wr_11 (List.mem_of_getElem? (i := 1) rfl))
theorem wt_L_count : Cond.static yL_count ∈ wsL_law := wq (wr_11 (List.mem_of_getElem? (i := 2) rfl))
theorem wc_L_count : Cond.codeWith yL_count cL_count 3 (some .int) [(0, 8, 11, 25)] ∈ wsL_law := wq (wr_11 (List.mem_of_getElem? (i := 3) rfl))
theorem wl_L_25 : Cond.classLink RL 25 "java/lang/IllegalStateException" ∈ wsL_law := wq (wr_11 (List.mem_of_getElem? (i := 4) rfl))
theorem wm_L_21 : Cond.methodLink RL 21 yX4_count ∈ wsL_law := wq (wr_11 (List.mem_of_getElem? (i := 5) rfl))
theorem wi_X4_count : Cond.instanceMethod yX4_count ∈ wsL_law := wq (wr_11 (List.mem_of_getElem? (i := 6) rfl))
theorem ws_X4_count : Cond.selects RX4 yX4_count yX4_count ∈ wsL_law := wq (wr_11 (List.mem_of_getElem? (i := 7) rfl))
theorem wc_X4_count : Cond.code yX4_count cX4_count 1 (some .int) ∈ wsL_law := wq (wr_11 (List.mem_of_getElem? (i := 8) rfl))
theorem wf_X4_95 : Cond.fieldLink RX4 95 "MoveList$Moves" "size" "I" ∈ wsL_law := wq (wr_11 (List.mem_of_getElem? (i := 9) rfl))
theorem wm_X4_92 : Cond.methodLink RX4 92 yX4_needList ∈ wsL_law := wq (wr_11 (List.mem_of_getElem? (i := 10) rfl))
theorem wi_X4_needList : Cond.instanceMethod yX4_needList ∈ wsL_law := wq (wr_11 (List.mem_of_getElem? (i := 11) rfl))
theorem ws_X4_needList : Cond.selects RX4 yX4_needList yX4_needList ∈ wsL_law := wq (wr_11 (List.mem_of_getElem? (i := 12) rfl))
theorem wc_X4_needList : Cond.code yX4_needList cX4_needList 1 none ∈ wsL_law := wq (wr_11 (List.mem_of_getElem? (i := 13) rfl))
theorem wl_X4_157 : Cond.classLink RX4 157 "java/lang/IllegalStateException" ∈ wsL_law := wq (wr_11 (List.mem_of_getElem? (i := 14) rfl))
theorem wn_java_lang_IllegalStateException : Cond.initialized "java/lang/IllegalStateException" ∈ wsL_law := wq (wr_11 (List.mem_of_getElem? (i := 15) rfl))
theorem wm_X4_153 : Cond.methodLink RX4 153 yX3_fill ∈ wsL_law := wq (wr_11 (List.mem_of_getElem? (i := 16) rfl))
theorem wi_X3_fill : Cond.instanceMethod yX3_fill ∈ wsL_law := wq (wr_11 (List.mem_of_getElem? (i := 17) rfl))
theorem ws_X3_fill : Cond.selects RX3 yX3_fill yX3_fill ∈ wsL_law := wq (wr_11 (List.mem_of_getElem? (i := 18) rfl))
theorem wc_X3_fill : Cond.code yX3_fill cX3_fill 7 none ∈ wsL_law := wq (wr_11 (List.mem_of_getElem? (i := 19) rfl))
theorem wf_X3_59 : Cond.fieldLink RX3 59 "MoveList$Moves" "size" "I" ∈ wsL_law := wq (wr_11 (List.mem_of_getElem? (i := 20) rfl))
theorem wm_X3_37 : Cond.methodLink RX3 37 yX3_survey ∈ wsL_law := wq (wr_11 (List.mem_of_getElem? (i := 21) rfl))
theorem wi_X3_survey : Cond.instanceMethod yX3_survey ∈ wsL_law := wq (wr_11 (List.mem_of_getElem? (i := 22) rfl))
theorem ws_X3_survey : Cond.selects RX3 yX3_survey yX3_survey ∈ wsL_law := wq (wr_11 (List.mem_of_getElem? (i := 23) rfl))
theorem wc_X3_survey : Cond.code yX3_survey cX3_survey 12 none ∈ wsL_law := wq (wr_12 (List.mem_of_getElem? (i := 0) rfl))
theorem wf_X3_80 : Cond.fieldLink RX3 80 "MoveList$Position" "side" "I" ∈ wsL_law := wq (wr_12 (List.mem_of_getElem? (i := 1) rfl))
theorem wk_X3_89 : Cond.constantLong RX3 89 (-1) ∈ wsL_law := wq (wr_12 (List.mem_of_getElem? (i := 2) rfl))
theorem wm_X3_83 : Cond.methodLink RX3 83 yX2_squaresOfSide ∈ wsL_law := wq (wr_12 (List.mem_of_getElem? (i := 3) rfl))
theorem wi_X2_squaresOfSide : Cond.instanceMethod yX2_squaresOfSide ∈ wsL_law := wq (wr_12 (List.mem_of_getElem? (i := 4) rfl))
theorem ws_X2_squaresOfSide : Cond.selects RX2 yX2_squaresOfSide yX2_squaresOfSide ∈ wsL_law := wq (wr_12 (List.mem_of_getElem? (i := 5) rfl))
theorem wc_X2_squaresOfSide : Cond.code yX2_squaresOfSide cX2_squaresOfSide 6 (some .long) ∈ wsL_law := wq (wr_12 (List.mem_of_getElem? (i := 6) rfl))
theorem wm_X3_86 : Cond.methodLink RX3 86 yX2_squaresOf ∈ wsL_law := wq (wr_12 (List.mem_of_getElem? (i := 7) rfl))
theorem wm_X3_93 : Cond.methodLink RX3 93 yX0_ray ∈ wsL_law := wq (wr_12 (List.mem_of_getElem? (i := 8) rfl))
theorem wm_X3_97 : Cond.methodLink RX3 97 yX3_judgeLine ∈ wsL_law := wq (wr_12 (List.mem_of_getElem? (i := 9) rfl))
theorem wi_X3_judgeLine : Cond.instanceMethod yX3_judgeLine ∈ wsL_law := wq (wr_12 (List.mem_of_getElem? (i := 10) rfl))
theorem ws_X3_judgeLine : Cond.selects RX3 yX3_judgeLine yX3_judgeLine ∈ wsL_law := wq (wr_12 (List.mem_of_getElem? (i := 11) rfl))
theorem wc_X3_judgeLine : Cond.code yX3_judgeLine cX3_judgeLine 6 none ∈ wsL_law := wq (wr_12 (List.mem_of_getElem? (i := 12) rfl))
theorem wm_X3_40 : Cond.methodLink RX3 40 yJ13_bitCount_95d88 ∈ wsL_law := wq (wr_12 (List.mem_of_getElem? (i := 13) rfl))
theorem wm_X3_101 : Cond.methodLink RX3 101 yX0_ofKnights ∈ wsL_law := wq (wr_12 (List.mem_of_getElem? (i := 14) rfl))
theorem wm_X3_105 : Cond.methodLink RX3 105 yX0_ofPawns ∈ wsL_law := wq (wr_12 (List.mem_of_getElem? (i := 15) rfl))
theorem wt_X4_squareOf : Cond.static yX4_squareOf ∈ wsL_law := wq (wr_12 (List.mem_of_getElem? (i := 16) rfl))
theorem wc_X4_squareOf : Cond.code yX4_squareOf cX4_squareOf 2 (some .int) ∈ wsL_law := wq (wr_12 (List.mem_of_getElem? (i := 17) rfl))
theorem wm_X4_162 : Cond.methodLink RX4 162 yJ13_bitCount_95d88 ∈ wsL_law := wq (wr_12 (List.mem_of_getElem? (i := 18) rfl))
theorem wm_X3_49 : Cond.methodLink RX3 49 yX3_targetsOf ∈ wsL_law := wq (wr_12 (List.mem_of_getElem? (i := 19) rfl))
theorem wi_X3_targetsOf : Cond.instanceMethod yX3_targetsOf ∈ wsL_law := wq (wr_12 (List.mem_of_getElem? (i := 20) rfl))
theorem ws_X3_targetsOf : Cond.selects RX3 yX3_targetsOf yX3_targetsOf ∈ wsL_law := wq (wr_12 (List.mem_of_getElem? (i := 21) rfl))
theorem wc_X3_targetsOf : Cond.code yX3_targetsOf cX3_targetsOf 7 (some .long) ∈ wsL_law := wq (wr_12 (List.mem_of_getElem? (i := 22) rfl))
theorem wm_X3_73 : Cond.methodLink RX3 73 yX2_pieceOn ∈ wsL_law := wq (wr_12 (List.mem_of_getElem? (i := 23) rfl))
theorem wi_X2_pieceOn : Cond.instanceMethod yX2_pieceOn ∈ wsL_law := wq (wr_13 (List.mem_of_getElem? (i := 0) rfl))
theorem ws_X2_pieceOn : Cond.selects RX2 yX2_pieceOn yX2_pieceOn ∈ wsL_law := wq (wr_13 (List.mem_of_getElem? (i := 1) rfl))
theorem wc_X2_pieceOn : Cond.code yX2_pieceOn cX2_pieceOn 2 (some .int) ∈ wsL_law := wq (wr_13 (List.mem_of_getElem? (i := 2) rfl))
theorem wt_X4_typeOf : Cond.static yX4_typeOf ∈ wsL_law := wq (wr_13 (List.mem_of_getElem? (i := 3) rfl))
theorem wc_X4_typeOf : Cond.code yX4_typeOf cX4_typeOf 1 (some .int) ∈ wsL_law := wq (wr_13 (List.mem_of_getElem? (i := 4) rfl))
theorem wm_X3_112 : Cond.methodLink RX3 112 yX3_pawnWays ∈ wsL_law := wq (wr_13 (List.mem_of_getElem? (i := 5) rfl))
theorem wi_X3_pawnWays : Cond.instanceMethod yX3_pawnWays ∈ wsL_law := wq (wr_13 (List.mem_of_getElem? (i := 6) rfl))
theorem ws_X3_pawnWays : Cond.selects RX3 yX3_pawnWays yX3_pawnWays ∈ wsL_law := wq (wr_13 (List.mem_of_getElem? (i := 7) rfl))
theorem wc_X3_pawnWays : Cond.code yX3_pawnWays cX3_pawnWays 9 (some .long) ∈ wsL_law := wq (wr_13 (List.mem_of_getElem? (i := 8) rfl))
theorem wk_X3_129 : Cond.constantLong RX3 129 (16711680) ∈ wsL_law := wq (wr_13 (List.mem_of_getElem? (i := 9) rfl))
theorem wk_X3_131 : Cond.constantLong RX3 131 (280375465082880) ∈ wsL_law := wq (wr_13 (List.mem_of_getElem? (i := 10) rfl))
theorem wm_X3_115 : Cond.methodLink RX3 115 yX3_kingTargets ∈ wsL_law := wq (wr_13 (List.mem_of_getElem? (i := 11) rfl))
theorem wi_X3_kingTargets : Cond.instanceMethod yX3_kingTargets ∈ wsL_law := wq (wr_13 (List.mem_of_getElem? (i := 12) rfl))
theorem ws_X3_kingTargets : Cond.selects RX3 yX3_kingTargets yX3_kingTargets ∈ wsL_law := wq (wr_13 (List.mem_of_getElem? (i := 13) rfl))
theorem wc_X3_kingTargets : Cond.code yX3_kingTargets cX3_kingTargets 10 (some .long) ∈ wsL_law := wq (wr_13 (List.mem_of_getElem? (i := 14) rfl))
theorem wk_X3_145 : Cond.constantLong RX3 145 (112) ∈ wsL_law := wq (wr_13 (List.mem_of_getElem? (i := 15) rfl))
theorem wk_X3_147 : Cond.constantLong RX3 147 (28) ∈ wsL_law := wq (wr_13 (List.mem_of_getElem? (i := 16) rfl))
theorem wm_X3_139 : Cond.methodLink RX3 139 yX0_ofKings ∈ wsL_law := wq (wr_13 (List.mem_of_getElem? (i := 17) rfl))
theorem wm_X3_142 : Cond.methodLink RX3 142 yX3_castlingTargets ∈ wsL_law := wq (wr_13 (List.mem_of_getElem? (i := 18) rfl))
theorem wi_X3_castlingTargets : Cond.instanceMethod yX3_castlingTargets ∈ wsL_law := wq (wr_13 (List.mem_of_getElem? (i := 19) rfl))
theorem ws_X3_castlingTargets : Cond.selects RX3 yX3_castlingTargets yX3_castlingTargets ∈ wsL_law := wq (wr_13 (List.mem_of_getElem? (i := 20) rfl))
theorem wc_X3_castlingTargets : Cond.code yX3_castlingTargets cX3_castlingTargets 10 (some .long) ∈ wsL_law := wq (wr_13 (List.mem_of_getElem? (i := 21) rfl))
theorem wf_X3_149 : Cond.fieldLink RX3 149 "MoveList$Position" "rights" "I" ∈ wsL_law := wq (wr_13 (List.mem_of_getElem? (i := 22) rfl))
theorem wk_X3_152 : Cond.constantLong RX3 152 (96) ∈ wsL_law := wq (wr_13 (List.mem_of_getElem? (i := 23) rfl))
theorem wk_X3_154 : Cond.constantLong RX3 154 (14) ∈ wsL_law := wq (wr_14 (List.mem_of_getElem? (i := 0) rfl))
theorem wm_X3_136 : Cond.methodLink RX3 136 yX2_attacksOf ∈ wsL_law := wq (wr_14 (List.mem_of_getElem? (i := 1) rfl))
theorem wm_X3_119 : Cond.methodLink RX3 119 yX0_slide ∈ wsL_law := wq (wr_14 (List.mem_of_getElem? (i := 2) rfl))
theorem wt_X0_slide : Cond.static yX0_slide ∈ wsL_law := wq (wr_14 (List.mem_of_getElem? (i := 3) rfl))
theorem wc_X0_slide : Cond.code yX0_slide cX0_slide 10 (some .long) ∈ wsL_law := wq (wr_14 (List.mem_of_getElem? (i := 4) rfl))
theorem wm_X0_21 : Cond.methodLink RX0 21 yX0_ray ∈ wsL_law := wq (wr_14 (List.mem_of_getElem? (i := 5) rfl))
theorem wm_X3_123 : Cond.methodLink RX3 123 yX3_pinLine ∈ wsL_law := wq (wr_14 (List.mem_of_getElem? (i := 6) rfl))
theorem wi_X3_pinLine : Cond.instanceMethod yX3_pinLine ∈ wsL_law := wq (wr_14 (List.mem_of_getElem? (i := 7) rfl))
theorem ws_X3_pinLine : Cond.selects RX3 yX3_pinLine yX3_pinLine ∈ wsL_law := wq (wr_14 (List.mem_of_getElem? (i := 8) rfl))
theorem wc_X3_pinLine : Cond.code yX3_pinLine cX3_pinLine 6 (some .long) ∈ wsL_law := wq (wr_14 (List.mem_of_getElem? (i := 9) rfl))
theorem wm_X3_126 : Cond.methodLink RX3 126 yX3_passingTarget ∈ wsL_law := wq (wr_14 (List.mem_of_getElem? (i := 10) rfl))
theorem wi_X3_passingTarget : Cond.instanceMethod yX3_passingTarget ∈ wsL_law := wq (wr_14 (List.mem_of_getElem? (i := 11) rfl))
theorem ws_X3_passingTarget : Cond.selects RX3 yX3_passingTarget yX3_passingTarget ∈ wsL_law := wq (wr_14 (List.mem_of_getElem? (i := 12) rfl))
theorem wc_X3_passingTarget : Cond.code yX3_passingTarget cX3_passingTarget 10 (some .long) ∈ wsL_law := wq (wr_14 (List.mem_of_getElem? (i := 13) rfl))
theorem wf_X3_133 : Cond.fieldLink RX3 133 "MoveList$Position" "passing" "I" ∈ wsL_law := wq (wr_14 (List.mem_of_getElem? (i := 14) rfl))
theorem wm_X3_65 : Cond.methodLink RX3 65 yX3_addMoves ∈ wsL_law := wq (wr_14 (List.mem_of_getElem? (i := 15) rfl))
theorem wi_X3_addMoves : Cond.instanceMethod yX3_addMoves ∈ wsL_law := wq (wr_14 (List.mem_of_getElem? (i := 16) rfl))
theorem ws_X3_addMoves : Cond.selects RX3 yX3_addMoves yX3_addMoves ∈ wsL_law := wq (wr_14 (List.mem_of_getElem? (i := 17) rfl))
theorem wc_X3_addMoves : Cond.code yX3_addMoves cX3_addMoves 13 none ∈ wsL_law := wq (wr_14 (List.mem_of_getElem? (i := 18) rfl))
theorem wk_X3_57 : Cond.constantLong RX3 57 (-72057594037927681) ∈ wsL_law := wq (wr_14 (List.mem_of_getElem? (i := 19) rfl))
theorem wm_X3_53 : Cond.methodLink RX3 53 yX3_isPawn ∈ wsL_law := wq (wr_14 (List.mem_of_getElem? (i := 20) rfl))
theorem wi_X3_isPawn : Cond.instanceMethod yX3_isPawn ∈ wsL_law := wq (wr_14 (List.mem_of_getElem? (i := 21) rfl))
theorem ws_X3_isPawn : Cond.selects RX3 yX3_isPawn yX3_isPawn ∈ wsL_law := wq (wr_14 (List.mem_of_getElem? (i := 22) rfl))
theorem wc_X3_isPawn : Cond.code yX3_isPawn cX3_isPawn 2 (some .boolean) ∈ wsL_law := wq (wr_14 (List.mem_of_getElem? (i := 23) rfl))
theorem wm_X3_69 : Cond.methodLink RX3 69 yX1_add ∈ wsL_law := wq (wr_15 (List.mem_of_getElem? (i := 0) rfl))
theorem wi_X1_add : Cond.instanceMethod yX1_add ∈ wsL_law := wq (wr_15 (List.mem_of_getElem? (i := 1) rfl))
theorem ws_X1_add : Cond.selects RX1 yX1_add yX1_add ∈ wsL_law := wq (wr_15 (List.mem_of_getElem? (i := 2) rfl))
theorem wc_X1_add : Cond.code yX1_add cX1_add 2 none ∈ wsL_law := wq (wr_15 (List.mem_of_getElem? (i := 3) rfl))
theorem wm_L_90 : Cond.methodLink RL 90 yX5_count ∈ wsL_law := wq (wr_15 (List.mem_of_getElem? (i := 4) rfl))
theorem wi_X5_count : Cond.instanceMethod yX5_count ∈ wsL_law := wq (wr_15 (List.mem_of_getElem? (i := 5) rfl))
theorem ws_X5_count : Cond.selects RX5 yX5_count yX5_count ∈ wsL_law := wq (wr_15 (List.mem_of_getElem? (i := 6) rfl))
theorem wc_X5_count : Cond.code yX5_count cX5_count 1 (some .int) ∈ wsL_law := wq (wr_15 (List.mem_of_getElem? (i := 7) rfl))
theorem wf_X5_96 : Cond.fieldLink RX5 96 "MoveListModel" "size" "I" ∈ wsL_law := wq (wr_15 (List.mem_of_getElem? (i := 8) rfl))
theorem wm_X5_99 : Cond.methodLink RX5 99 yX5_need ∈ wsL_law := wq (wr_15 (List.mem_of_getElem? (i := 9) rfl))
theorem wi_X5_need : Cond.instanceMethod yX5_need ∈ wsL_law := wq (wr_15 (List.mem_of_getElem? (i := 10) rfl))
theorem ws_X5_need : Cond.selects RX5 yX5_need yX5_need ∈ wsL_law := wq (wr_15 (List.mem_of_getElem? (i := 11) rfl))
theorem wc_X5_need : Cond.code yX5_need cX5_need 2 (some .int) ∈ wsL_law := wq (wr_15 (List.mem_of_getElem? (i := 12) rfl))
theorem wm_X5_93 : Cond.methodLink RX5 93 yX5_listed ∈ wsL_law := wq (wr_15 (List.mem_of_getElem? (i := 13) rfl))
theorem wi_X5_listed : Cond.instanceMethod yX5_listed ∈ wsL_law := wq (wr_15 (List.mem_of_getElem? (i := 14) rfl))
theorem ws_X5_listed : Cond.selects RX5 yX5_listed yX5_listed ∈ wsL_law := wq (wr_15 (List.mem_of_getElem? (i := 15) rfl))
theorem wc_X5_listed : Cond.code yX5_listed cX5_listed 8 (some .int) ∈ wsL_law := wq (wr_15 (List.mem_of_getElem? (i := 16) rfl))
theorem wm_X5_90 : Cond.methodLink RX5 90 yX5_isLegal ∈ wsL_law := wq (wr_15 (List.mem_of_getElem? (i := 17) rfl))
theorem wi_X5_isLegal : Cond.instanceMethod yX5_isLegal ∈ wsL_law := wq (wr_15 (List.mem_of_getElem? (i := 18) rfl))
theorem ws_X5_isLegal : Cond.selects RX5 yX5_isLegal yX5_isLegal ∈ wsL_law := wq (wr_15 (List.mem_of_getElem? (i := 19) rfl))
theorem wc_X5_isLegal : Cond.code yX5_isLegal cX5_isLegal 7 (some .boolean) ∈ wsL_law := wq (wr_15 (List.mem_of_getElem? (i := 20) rfl))
theorem wm_X5_83 : Cond.methodLink RX5 83 yX5_goes ∈ wsL_law := wq (wr_15 (List.mem_of_getElem? (i := 21) rfl))
theorem wi_X5_goes : Cond.instanceMethod yX5_goes ∈ wsL_law := wq (wr_15 (List.mem_of_getElem? (i := 22) rfl))
theorem ws_X5_goes : Cond.selects RX5 yX5_goes yX5_goes ∈ wsL_law := wq (wr_15 (List.mem_of_getElem? (i := 23) rfl))
theorem wc_X5_goes : Cond.code yX5_goes cX5_goes 6 (some .boolean) ∈ wsL_law := wq (wr_16 (List.mem_of_getElem? (i := 0) rfl))
theorem wm_X5_74 : Cond.methodLink RX5 74 yX5_pawnGoes ∈ wsL_law := wq (wr_16 (List.mem_of_getElem? (i := 1) rfl))
theorem wi_X5_pawnGoes : Cond.instanceMethod yX5_pawnGoes ∈ wsL_law := wq (wr_16 (List.mem_of_getElem? (i := 2) rfl))
theorem ws_X5_pawnGoes : Cond.selects RX5 yX5_pawnGoes yX5_pawnGoes ∈ wsL_law := wq (wr_16 (List.mem_of_getElem? (i := 3) rfl))
theorem wc_X5_pawnGoes : Cond.code yX5_pawnGoes cX5_pawnGoes 6 (some .boolean) ∈ wsL_law := wq (wr_16 (List.mem_of_getElem? (i := 4) rfl))
theorem wm_X5_71 : Cond.methodLink RX5 71 yX5_takesPassing ∈ wsL_law := wq (wr_16 (List.mem_of_getElem? (i := 5) rfl))
theorem wi_X5_takesPassing : Cond.instanceMethod yX5_takesPassing ∈ wsL_law := wq (wr_16 (List.mem_of_getElem? (i := 6) rfl))
theorem ws_X5_takesPassing : Cond.selects RX5 yX5_takesPassing yX5_takesPassing ∈ wsL_law := wq (wr_16 (List.mem_of_getElem? (i := 7) rfl))
theorem wc_X5_takesPassing : Cond.code yX5_takesPassing cX5_takesPassing 6 (some .boolean) ∈ wsL_law := wq (wr_16 (List.mem_of_getElem? (i := 8) rfl))
theorem wm_X5_77 : Cond.methodLink RX5 77 yX5_castles ∈ wsL_law := wq (wr_16 (List.mem_of_getElem? (i := 9) rfl))
theorem wi_X5_castles : Cond.instanceMethod yX5_castles ∈ wsL_law := wq (wr_16 (List.mem_of_getElem? (i := 10) rfl))
theorem ws_X5_castles : Cond.selects RX5 yX5_castles yX5_castles ∈ wsL_law := wq (wr_16 (List.mem_of_getElem? (i := 11) rfl))
theorem wc_X5_castles : Cond.code yX5_castles cX5_castles 10 (some .boolean) ∈ wsL_law := wq (wr_16 (List.mem_of_getElem? (i := 12) rfl))
theorem wm_X5_86 : Cond.methodLink RX5 86 yX5_behind ∈ wsL_law := wq (wr_16 (List.mem_of_getElem? (i := 13) rfl))
theorem wi_X5_behind : Cond.instanceMethod yX5_behind ∈ wsL_law := wq (wr_16 (List.mem_of_getElem? (i := 14) rfl))
theorem ws_X5_behind : Cond.selects RX5 yX5_behind yX5_behind ∈ wsL_law := wq (wr_16 (List.mem_of_getElem? (i := 15) rfl))
theorem wc_X5_behind : Cond.code yX5_behind cX5_behind 16 none ∈ wsL_law := wq (wr_16 (List.mem_of_getElem? (i := 16) rfl))
theorem wm_X5_80 : Cond.methodLink RX5 80 yX5_corner ∈ wsL_law := wq (wr_16 (List.mem_of_getElem? (i := 17) rfl))
theorem wt_X5_corner : Cond.static yX5_corner ∈ wsL_law := wq (wr_16 (List.mem_of_getElem? (i := 18) rfl))
theorem wc_X5_corner : Cond.code yX5_corner cX5_corner 1 (some .int) ∈ wsL_law := wq (wr_16 (List.mem_of_getElem? (i := 19) rfl))
theorem wm_L_91 : Cond.methodLink RL 91 yL_move ∈ wsL_law := wq (wr_16 (List.mem_of_getElem? (i := 20) rfl))
theorem wt_L_move : Cond.static yL_move ∈ wsL_law := wq (wr_16 (List.mem_of_getElem? (i := 21) rfl))
theorem wc_L_move : Cond.codeWith yL_move cL_move 4 (some .int) [(0, 9, 12, 25), (0, 9, 15, 13)] ∈ wsL_law := wq (wr_16 (List.mem_of_getElem? (i := 22) rfl))
theorem wm_L_27 : Cond.methodLink RL 27 yX4_move ∈ wsL_law := wq (wr_16 (List.mem_of_getElem? (i := 23) rfl))
theorem wi_X4_move : Cond.instanceMethod yX4_move ∈ wsL_law := wq (wr_17 (List.mem_of_getElem? (i := 0) rfl))
theorem ws_X4_move : Cond.selects RX4 yX4_move yX4_move ∈ wsL_law := wq (wr_17 (List.mem_of_getElem? (i := 1) rfl))
theorem wc_X4_move : Cond.code yX4_move cX4_move 2 (some .int) ∈ wsL_law := wq (wr_17 (List.mem_of_getElem? (i := 2) rfl))
theorem wm_X4_100 : Cond.methodLink RX4 100 yX1_get ∈ wsL_law := wq (wr_17 (List.mem_of_getElem? (i := 3) rfl))
theorem wi_X1_get : Cond.instanceMethod yX1_get ∈ wsL_law := wq (wr_17 (List.mem_of_getElem? (i := 4) rfl))
theorem ws_X1_get : Cond.selects RX1 yX1_get yX1_get ∈ wsL_law := wq (wr_17 (List.mem_of_getElem? (i := 5) rfl))
theorem wc_X1_get : Cond.code yX1_get cX1_get 2 (some .int) ∈ wsL_law := wq (wr_17 (List.mem_of_getElem? (i := 6) rfl))
theorem wm_L_94 : Cond.methodLink RL 94 yX5_move ∈ wsL_law := wq (wr_17 (List.mem_of_getElem? (i := 7) rfl))
theorem wi_X5_move : Cond.instanceMethod yX5_move ∈ wsL_law := wq (wr_17 (List.mem_of_getElem? (i := 8) rfl))
theorem ws_X5_move : Cond.selects RX5 yX5_move yX5_move ∈ wsL_law := wq (wr_17 (List.mem_of_getElem? (i := 9) rfl))
theorem wc_X5_move : Cond.code yX5_move cX5_move 2 (some .int) ∈ wsL_law := wq (wr_17 (List.mem_of_getElem? (i := 10) rfl))
theorem wm_L_95 : Cond.methodLink RL 95 yL_place ∈ wsL_law := wq (wr_17 (List.mem_of_getElem? (i := 11) rfl))
theorem wt_L_place : Cond.static yL_place ∈ wsL_law := wq (wr_17 (List.mem_of_getElem? (i := 12) rfl))
theorem wc_L_place : Cond.codeWith yL_place cL_place 4 (some .int) [(0, 9, 12, 25)] ∈ wsL_law := wq (wr_17 (List.mem_of_getElem? (i := 13) rfl))
theorem wm_L_31 : Cond.methodLink RL 31 yX4_place ∈ wsL_law := wq (wr_17 (List.mem_of_getElem? (i := 14) rfl))
theorem wi_X4_place : Cond.instanceMethod yX4_place ∈ wsL_law := wq (wr_17 (List.mem_of_getElem? (i := 15) rfl))
theorem ws_X4_place : Cond.selects RX4 yX4_place yX4_place ∈ wsL_law := wq (wr_17 (List.mem_of_getElem? (i := 16) rfl))
theorem wc_X4_place : Cond.code yX4_place cX4_place 2 (some .int) ∈ wsL_law := wq (wr_17 (List.mem_of_getElem? (i := 17) rfl))
theorem wm_X4_104 : Cond.methodLink RX4 104 yX1_placeOf ∈ wsL_law := wq (wr_17 (List.mem_of_getElem? (i := 18) rfl))
theorem wi_X1_placeOf : Cond.instanceMethod yX1_placeOf ∈ wsL_law := wq (wr_17 (List.mem_of_getElem? (i := 19) rfl))
theorem ws_X1_placeOf : Cond.selects RX1 yX1_placeOf yX1_placeOf ∈ wsL_law := wq (wr_17 (List.mem_of_getElem? (i := 20) rfl))
theorem wc_X1_placeOf : Cond.code yX1_placeOf cX1_placeOf 3 (some .int) ∈ wsL_law := wq (wr_17 (List.mem_of_getElem? (i := 21) rfl))
theorem wm_X1_19 : Cond.methodLink RX1 19 yX1_get ∈ wsL_law := wq (wr_17 (List.mem_of_getElem? (i := 22) rfl))
theorem wm_L_97 : Cond.methodLink RL 97 yX5_place ∈ wsL_law := wq (wr_17 (List.mem_of_getElem? (i := 23) rfl))
theorem wi_X5_place : Cond.instanceMethod yX5_place ∈ wsL_law := wq (wr_18 (List.mem_of_getElem? (i := 0) rfl))
theorem ws_X5_place : Cond.selects RX5 yX5_place yX5_place ∈ wsL_law := wq (wr_18 (List.mem_of_getElem? (i := 1) rfl))
theorem wc_X5_place : Cond.code yX5_place cX5_place 2 (some .int) ∈ wsL_law := wq (wr_18 (List.mem_of_getElem? (i := 2) rfl))
theorem wm_X5_103 : Cond.methodLink RX5 103 yX5_placeOf ∈ wsL_law := wq (wr_18 (List.mem_of_getElem? (i := 3) rfl))
theorem wi_X5_placeOf : Cond.instanceMethod yX5_placeOf ∈ wsL_law := wq (wr_18 (List.mem_of_getElem? (i := 4) rfl))
theorem ws_X5_placeOf : Cond.selects RX5 yX5_placeOf yX5_placeOf ∈ wsL_law := wq (wr_18 (List.mem_of_getElem? (i := 5) rfl))
theorem wc_X5_placeOf : Cond.code yX5_placeOf cX5_placeOf 4 (some .int) ∈ wsL_law := wq (wr_18 (List.mem_of_getElem? (i := 6) rfl))
theorem wm_L_98 : Cond.methodLink RL 98 yL_on ∈ wsL_law := wq (wr_18 (List.mem_of_getElem? (i := 7) rfl))
theorem wt_L_on : Cond.static yL_on ∈ wsL_law := wq (wr_18 (List.mem_of_getElem? (i := 8) rfl))
theorem wc_L_on : Cond.codeWith yL_on cL_on 5 (some .int) [(0, 10, 13, 25)] ∈ wsL_law := wq (wr_18 (List.mem_of_getElem? (i := 9) rfl))
theorem wm_L_34 : Cond.methodLink RL 34 yX4_on ∈ wsL_law := wq (wr_18 (List.mem_of_getElem? (i := 10) rfl))
theorem wi_X4_on : Cond.instanceMethod yX4_on ∈ wsL_law := wq (wr_18 (List.mem_of_getElem? (i := 11) rfl))
theorem ws_X4_on : Cond.selects RX4 yX4_on yX4_on ∈ wsL_law := wq (wr_18 (List.mem_of_getElem? (i := 12) rfl))
theorem wc_X4_on : Cond.code yX4_on cX4_on 7 (some .int) ∈ wsL_law := wq (wr_18 (List.mem_of_getElem? (i := 13) rfl))
theorem wm_X4_107 : Cond.methodLink RX4 107 yX4_fromOf ∈ wsL_law := wq (wr_18 (List.mem_of_getElem? (i := 14) rfl))
theorem wt_X4_fromOf : Cond.static yX4_fromOf ∈ wsL_law := wq (wr_18 (List.mem_of_getElem? (i := 15) rfl))
theorem wc_X4_fromOf : Cond.code yX4_fromOf cX4_fromOf 1 (some .int) ∈ wsL_law := wq (wr_18 (List.mem_of_getElem? (i := 16) rfl))
theorem wm_X4_110 : Cond.methodLink RX4 110 yX4_toOf ∈ wsL_law := wq (wr_18 (List.mem_of_getElem? (i := 17) rfl))
theorem wt_X4_toOf : Cond.static yX4_toOf ∈ wsL_law := wq (wr_18 (List.mem_of_getElem? (i := 18) rfl))
theorem wc_X4_toOf : Cond.code yX4_toOf cX4_toOf 1 (some .int) ∈ wsL_law := wq (wr_18 (List.mem_of_getElem? (i := 19) rfl))
theorem wm_L_101 : Cond.methodLink RL 101 yX5_on ∈ wsL_law := wq (wr_18 (List.mem_of_getElem? (i := 20) rfl))
theorem wi_X5_on : Cond.instanceMethod yX5_on ∈ wsL_law := wq (wr_18 (List.mem_of_getElem? (i := 21) rfl))
theorem ws_X5_on : Cond.selects RX5 yX5_on yX5_on ∈ wsL_law := wq (wr_18 (List.mem_of_getElem? (i := 22) rfl))
theorem wc_X5_on : Cond.code yX5_on cX5_on 5 (some .int) ∈ wsL_law := wq (wr_18 (List.mem_of_getElem? (i := 23) rfl))
theorem wm_L_102 : Cond.methodLink RL 102 yL_kind ∈ wsL_law := wq (wr_19 (List.mem_of_getElem? (i := 0) rfl))
theorem wt_L_kind : Cond.static yL_kind ∈ wsL_law := wq (wr_19 (List.mem_of_getElem? (i := 1) rfl))
theorem wc_L_kind : Cond.codeWith yL_kind cL_kind 4 (some .int) [(0, 9, 12, 25), (0, 9, 15, 15)] ∈ wsL_law := wq (wr_19 (List.mem_of_getElem? (i := 2) rfl))
theorem wm_L_38 : Cond.methodLink RL 38 yX4_kind ∈ wsL_law := wq (wr_19 (List.mem_of_getElem? (i := 3) rfl))
theorem wi_X4_kind : Cond.instanceMethod yX4_kind ∈ wsL_law := wq (wr_19 (List.mem_of_getElem? (i := 4) rfl))
theorem ws_X4_kind : Cond.selects RX4 yX4_kind yX4_kind ∈ wsL_law := wq (wr_19 (List.mem_of_getElem? (i := 5) rfl))
theorem wc_X4_kind : Cond.code yX4_kind cX4_kind 3 (some .int) ∈ wsL_law := wq (wr_19 (List.mem_of_getElem? (i := 6) rfl))
theorem wm_X4_115 : Cond.methodLink RX4 115 yX2_deedsOf ∈ wsL_law := wq (wr_19 (List.mem_of_getElem? (i := 7) rfl))
theorem wi_X2_deedsOf : Cond.instanceMethod yX2_deedsOf ∈ wsL_law := wq (wr_19 (List.mem_of_getElem? (i := 8) rfl))
theorem ws_X2_deedsOf : Cond.selects RX2 yX2_deedsOf yX2_deedsOf ∈ wsL_law := wq (wr_19 (List.mem_of_getElem? (i := 9) rfl))
theorem wc_X2_deedsOf : Cond.code yX2_deedsOf cX2_deedsOf 6 (some .int) ∈ wsL_law := wq (wr_19 (List.mem_of_getElem? (i := 10) rfl))
theorem wm_X2_101 : Cond.methodLink RX2 101 yX2_takenSquare ∈ wsL_law := wq (wr_19 (List.mem_of_getElem? (i := 11) rfl))
theorem wi_X2_takenSquare : Cond.instanceMethod yX2_takenSquare ∈ wsL_law := wq (wr_19 (List.mem_of_getElem? (i := 12) rfl))
theorem ws_X2_takenSquare : Cond.selects RX2 yX2_takenSquare yX2_takenSquare ∈ wsL_law := wq (wr_19 (List.mem_of_getElem? (i := 13) rfl))
theorem wc_X2_takenSquare : Cond.code yX2_takenSquare cX2_takenSquare 4 (some .int) ∈ wsL_law := wq (wr_19 (List.mem_of_getElem? (i := 14) rfl))
theorem wm_X2_105 : Cond.methodLink RX2 105 yX2_pieceOn ∈ wsL_law := wq (wr_19 (List.mem_of_getElem? (i := 15) rfl))
theorem wm_X2_108 : Cond.methodLink RX2 108 yX2_isCastling ∈ wsL_law := wq (wr_19 (List.mem_of_getElem? (i := 16) rfl))
theorem wi_X2_isCastling : Cond.instanceMethod yX2_isCastling ∈ wsL_law := wq (wr_19 (List.mem_of_getElem? (i := 17) rfl))
theorem ws_X2_isCastling : Cond.selects RX2 yX2_isCastling yX2_isCastling ∈ wsL_law := wq (wr_19 (List.mem_of_getElem? (i := 18) rfl))
theorem wc_X2_isCastling : Cond.code yX2_isCastling cX2_isCastling 3 (some .boolean) ∈ wsL_law := wq (wr_19 (List.mem_of_getElem? (i := 19) rfl))
theorem wt_X4_becomesOf : Cond.static yX4_becomesOf ∈ wsL_law := wq (wr_19 (List.mem_of_getElem? (i := 20) rfl))
theorem wc_X4_becomesOf : Cond.code yX4_becomesOf cX4_becomesOf 1 (some .int) ∈ wsL_law := wq (wr_19 (List.mem_of_getElem? (i := 21) rfl))
theorem wm_X4_118 : Cond.methodLink RX4 118 yX2_play ∈ wsL_law := wq (wr_19 (List.mem_of_getElem? (i := 22) rfl))
theorem wi_X2_play : Cond.instanceMethod yX2_play ∈ wsL_law := wq (wr_19 (List.mem_of_getElem? (i := 23) rfl))
theorem ws_X2_play : Cond.selects RX2 yX2_play yX2_play ∈ wsL_law := wq (wr_20 (List.mem_of_getElem? (i := 0) rfl))
theorem wc_X2_play : Cond.code yX2_play cX2_play 6 none ∈ wsL_law := wq (wr_20 (List.mem_of_getElem? (i := 1) rfl))
theorem wm_X2_115 : Cond.methodLink RX2 115 yX2_remember ∈ wsL_law := wq (wr_20 (List.mem_of_getElem? (i := 2) rfl))
theorem wi_X2_remember : Cond.instanceMethod yX2_remember ∈ wsL_law := wq (wr_20 (List.mem_of_getElem? (i := 3) rfl))
theorem ws_X2_remember : Cond.selects RX2 yX2_remember yX2_remember ∈ wsL_law := wq (wr_20 (List.mem_of_getElem? (i := 4) rfl))
theorem wc_X2_remember : Cond.code yX2_remember cX2_remember 3 none ∈ wsL_law := wq (wr_20 (List.mem_of_getElem? (i := 5) rfl))
theorem wm_X2_118 : Cond.methodLink RX2 118 yX2_rookCorner ∈ wsL_law := wq (wr_20 (List.mem_of_getElem? (i := 6) rfl))
theorem wt_X2_rookCorner : Cond.static yX2_rookCorner ∈ wsL_law := wq (wr_20 (List.mem_of_getElem? (i := 7) rfl))
theorem wc_X2_rookCorner : Cond.code yX2_rookCorner cX2_rookCorner 2 (some .int) ∈ wsL_law := wq (wr_20 (List.mem_of_getElem? (i := 8) rfl))
theorem wm_X2_121 : Cond.methodLink RX2 121 yX2_carry ∈ wsL_law := wq (wr_20 (List.mem_of_getElem? (i := 9) rfl))
theorem wi_X2_carry : Cond.instanceMethod yX2_carry ∈ wsL_law := wq (wr_20 (List.mem_of_getElem? (i := 10) rfl))
theorem ws_X2_carry : Cond.selects RX2 yX2_carry yX2_carry ∈ wsL_law := wq (wr_20 (List.mem_of_getElem? (i := 11) rfl))
theorem wc_X2_carry : Cond.code yX2_carry cX2_carry 3 none ∈ wsL_law := wq (wr_20 (List.mem_of_getElem? (i := 12) rfl))
theorem wm_X2_124 : Cond.methodLink RX2 124 yX2_rightsAt ∈ wsL_law := wq (wr_20 (List.mem_of_getElem? (i := 13) rfl))
theorem wt_X2_rightsAt : Cond.static yX2_rightsAt ∈ wsL_law := wq (wr_20 (List.mem_of_getElem? (i := 14) rfl))
theorem wc_X2_rightsAt : Cond.code yX2_rightsAt cX2_rightsAt 1 (some .int) ∈ wsL_law := wq (wr_20 (List.mem_of_getElem? (i := 15) rfl))
theorem wm_X2_130 : Cond.methodLink RX2 130 yX2_passedSquare ∈ wsL_law := wq (wr_20 (List.mem_of_getElem? (i := 16) rfl))
theorem wi_X2_passedSquare : Cond.instanceMethod yX2_passedSquare ∈ wsL_law := wq (wr_20 (List.mem_of_getElem? (i := 17) rfl))
theorem ws_X2_passedSquare : Cond.selects RX2 yX2_passedSquare yX2_passedSquare ∈ wsL_law := wq (wr_20 (List.mem_of_getElem? (i := 18) rfl))
theorem wc_X2_passedSquare : Cond.code yX2_passedSquare cX2_passedSquare 7 (some .int) ∈ wsL_law := wq (wr_20 (List.mem_of_getElem? (i := 19) rfl))
theorem wm_X4_122 : Cond.methodLink RX4 122 yX2_kingIsAttacked ∈ wsL_law := wq (wr_20 (List.mem_of_getElem? (i := 20) rfl))
theorem wm_X4_125 : Cond.methodLink RX4 125 yX3_tally ∈ wsL_law := wq (wr_20 (List.mem_of_getElem? (i := 21) rfl))
theorem wi_X3_tally : Cond.instanceMethod yX3_tally ∈ wsL_law := wq (wr_20 (List.mem_of_getElem? (i := 22) rfl))
theorem ws_X3_tally : Cond.selects RX3 yX3_tally yX3_tally ∈ wsL_law := wq (wr_20 (List.mem_of_getElem? (i := 23) rfl))
theorem wc_X3_tally : Cond.code yX3_tally cX3_tally 9 (some .int) ∈ wsL_law := wq (wr_21 (List.mem_of_getElem? (i := 0) rfl))
theorem wm_X4_129 : Cond.methodLink RX4 129 yX2_takeBack ∈ wsL_law := wq (wr_21 (List.mem_of_getElem? (i := 1) rfl))
theorem wi_X2_takeBack : Cond.instanceMethod yX2_takeBack ∈ wsL_law := wq (wr_21 (List.mem_of_getElem? (i := 2) rfl))
theorem ws_X2_takeBack : Cond.selects RX2 yX2_takeBack yX2_takeBack ∈ wsL_law := wq (wr_21 (List.mem_of_getElem? (i := 3) rfl))
theorem wc_X2_takeBack : Cond.code yX2_takeBack cX2_takeBack 5 (some .int) ∈ wsL_law := wq (wr_21 (List.mem_of_getElem? (i := 4) rfl))
theorem wm_L_104 : Cond.methodLink RL 104 yX5_kind ∈ wsL_law := wq (wr_21 (List.mem_of_getElem? (i := 5) rfl))
theorem wi_X5_kind : Cond.instanceMethod yX5_kind ∈ wsL_law := wq (wr_21 (List.mem_of_getElem? (i := 6) rfl))
theorem ws_X5_kind : Cond.selects RX5 yX5_kind yX5_kind ∈ wsL_law := wq (wr_21 (List.mem_of_getElem? (i := 7) rfl))
theorem wc_X5_kind : Cond.code yX5_kind cX5_kind 7 (some .int) ∈ wsL_law := wq (wr_21 (List.mem_of_getElem? (i := 8) rfl))
theorem wm_L_105 : Cond.methodLink RL 105 yL_lines ∈ wsL_law := wq (wr_21 (List.mem_of_getElem? (i := 9) rfl))
theorem wt_L_lines : Cond.static yL_lines ∈ wsL_law := wq (wr_21 (List.mem_of_getElem? (i := 10) rfl))
theorem wc_L_lines : Cond.codeWith yL_lines cL_lines 4 (some .int) [(0, 8, 11, 25), (0, 8, 14, 15)] ∈ wsL_law := wq (wr_21 (List.mem_of_getElem? (i := 11) rfl))
theorem wm_L_41 : Cond.methodLink RL 41 yX4_lines ∈ wsL_law := wq (wr_21 (List.mem_of_getElem? (i := 12) rfl))
theorem wi_X4_lines : Cond.instanceMethod yX4_lines ∈ wsL_law := wq (wr_21 (List.mem_of_getElem? (i := 13) rfl))
theorem ws_X4_lines : Cond.selects RX4 yX4_lines yX4_lines ∈ wsL_law := wq (wr_21 (List.mem_of_getElem? (i := 14) rfl))
theorem wc_X4_lines : Cond.code yX4_lines cX4_lines 2 (some .long) ∈ wsL_law := wq (wr_21 (List.mem_of_getElem? (i := 15) rfl))
theorem wm_X4_134 : Cond.methodLink RX4 134 yX4_countBehind ∈ wsL_law := wq (wr_21 (List.mem_of_getElem? (i := 16) rfl))
theorem wi_X4_countBehind : Cond.instanceMethod yX4_countBehind ∈ wsL_law := wq (wr_21 (List.mem_of_getElem? (i := 17) rfl))
theorem ws_X4_countBehind : Cond.selects RX4 yX4_countBehind yX4_countBehind ∈ wsL_law := wq (wr_21 (List.mem_of_getElem? (i := 18) rfl))
theorem wc_X4_countBehind : Cond.code yX4_countBehind cX4_countBehind 6 (some .long) ∈ wsL_law := wq (wr_21 (List.mem_of_getElem? (i := 19) rfl))
theorem wm_L_107 : Cond.methodLink RL 107 yX5_lines ∈ wsL_law := wq (wr_21 (List.mem_of_getElem? (i := 20) rfl))
theorem wi_X5_lines : Cond.instanceMethod yX5_lines ∈ wsL_law := wq (wr_21 (List.mem_of_getElem? (i := 21) rfl))
theorem ws_X5_lines : Cond.selects RX5 yX5_lines yX5_lines ∈ wsL_law := wq (wr_21 (List.mem_of_getElem? (i := 22) rfl))
theorem wc_X5_lines : Cond.code yX5_lines cX5_lines 8 (some .long) ∈ wsL_law := wq (wr_21 (List.mem_of_getElem? (i := 23) rfl))
theorem wm_X5_106 : Cond.methodLink RX5 106 yX5_listAt ∈ wsL_law := wq (wr_22 (List.mem_of_getElem? (i := 0) rfl))
theorem wi_X5_listAt : Cond.instanceMethod yX5_listAt ∈ wsL_law := wq (wr_22 (List.mem_of_getElem? (i := 1) rfl))
theorem ws_X5_listAt : Cond.selects RX5 yX5_listAt yX5_listAt ∈ wsL_law := wq (wr_22 (List.mem_of_getElem? (i := 2) rfl))
theorem wc_X5_listAt : Cond.code yX5_listAt cX5_listAt 4 (some .int) ∈ wsL_law := wq (wr_22 (List.mem_of_getElem? (i := 3) rfl))
theorem wm_X5_109 : Cond.methodLink RX5 109 yX5_deeper ∈ wsL_law := wq (wr_22 (List.mem_of_getElem? (i := 4) rfl))
theorem wi_X5_deeper : Cond.instanceMethod yX5_deeper ∈ wsL_law := wq (wr_22 (List.mem_of_getElem? (i := 5) rfl))
theorem ws_X5_deeper : Cond.selects RX5 yX5_deeper yX5_deeper ∈ wsL_law := wq (wr_22 (List.mem_of_getElem? (i := 6) rfl))
theorem wc_X5_deeper : Cond.code yX5_deeper cX5_deeper 6 (some .long) ∈ wsL_law := wq (wr_22 (List.mem_of_getElem? (i := 7) rfl))
theorem wm_L_108 : Cond.methodLink RL 108 yL_make ∈ wsL_law := wq (wr_22 (List.mem_of_getElem? (i := 8) rfl))
theorem wt_L_make : Cond.static yL_make ∈ wsL_law := wq (wr_22 (List.mem_of_getElem? (i := 9) rfl))
theorem wc_L_make : Cond.codeWith yL_make cL_make 4 (some .int) [(0, 9, 12, 25), (0, 9, 15, 15), (0, 9, 18, 48)] ∈ wsL_law := wq (wr_22 (List.mem_of_getElem? (i := 10) rfl))
theorem wl_L_48 : Cond.classLink RL 48 "java/lang/UnsupportedOperationException" ∈ wsL_law := wq (wr_22 (List.mem_of_getElem? (i := 11) rfl))
theorem wm_L_45 : Cond.methodLink RL 45 yX4_make ∈ wsL_law := wq (wr_22 (List.mem_of_getElem? (i := 12) rfl))
theorem wi_X4_make : Cond.instanceMethod yX4_make ∈ wsL_law := wq (wr_22 (List.mem_of_getElem? (i := 13) rfl))
theorem ws_X4_make : Cond.selects RX4 yX4_make yX4_make ∈ wsL_law := wq (wr_22 (List.mem_of_getElem? (i := 14) rfl))
theorem wc_X4_make : Cond.code yX4_make cX4_make 2 (some .int) ∈ wsL_law := wq (wr_22 (List.mem_of_getElem? (i := 15) rfl))
theorem wl_X4_141 : Cond.classLink RX4 141 "java/lang/UnsupportedOperationException" ∈ wsL_law := wq (wr_22 (List.mem_of_getElem? (i := 16) rfl))
theorem wn_java_lang_UnsupportedOperationException : Cond.initialized "java/lang/UnsupportedOperationException" ∈ wsL_law := wq (wr_22 (List.mem_of_getElem? (i := 17) rfl))
theorem wm_L_110 : Cond.methodLink RL 110 yX5_make ∈ wsL_law := wq (wr_22 (List.mem_of_getElem? (i := 18) rfl))
theorem wi_X5_make : Cond.instanceMethod yX5_make ∈ wsL_law := wq (wr_22 (List.mem_of_getElem? (i := 19) rfl))
theorem ws_X5_make : Cond.selects RX5 yX5_make yX5_make ∈ wsL_law := wq (wr_22 (List.mem_of_getElem? (i := 20) rfl))
theorem wc_X5_make : Cond.code yX5_make cX5_make 3 (some .int) ∈ wsL_law := wq (wr_22 (List.mem_of_getElem? (i := 21) rfl))
theorem wm_L_111 : Cond.methodLink RL 111 yX4_unmake ∈ wsL_law := wq (wr_22 (List.mem_of_getElem? (i := 22) rfl))
theorem wi_X4_unmake : Cond.instanceMethod yX4_unmake ∈ wsL_law := wq (wr_22 (List.mem_of_getElem? (i := 23) rfl))
theorem ws_X4_unmake : Cond.selects RX4 yX4_unmake yX4_unmake ∈ wsL_law := wq (wr_23 (List.mem_of_getElem? (i := 0) rfl))
theorem wc_X4_unmake : Cond.code yX4_unmake cX4_unmake 2 (some .int) ∈ wsL_law := wq (wr_23 (List.mem_of_getElem? (i := 1) rfl))
theorem wm_L_114 : Cond.methodLink RL 114 yX5_unmake ∈ wsL_law := wq (wr_23 (List.mem_of_getElem? (i := 2) rfl))
theorem wi_X5_unmake : Cond.instanceMethod yX5_unmake ∈ wsL_law := wq (wr_23 (List.mem_of_getElem? (i := 3) rfl))
theorem ws_X5_unmake : Cond.selects RX5 yX5_unmake yX5_unmake ∈ wsL_law := wq (wr_23 (List.mem_of_getElem? (i := 4) rfl))
theorem wc_X5_unmake : Cond.code yX5_unmake cX5_unmake 2 (some .int) ∈ wsL_law := wq (wr_23 (List.mem_of_getElem? (i := 5) rfl))
theorem wm_L_115 : Cond.methodLink RL 115 yX4_at ∈ wsL_law := wq (wr_23 (List.mem_of_getElem? (i := 6) rfl))
theorem wi_X4_at : Cond.instanceMethod yX4_at ∈ wsL_law := wq (wr_23 (List.mem_of_getElem? (i := 7) rfl))
theorem ws_X4_at : Cond.selects RX4 yX4_at yX4_at ∈ wsL_law := wq (wr_23 (List.mem_of_getElem? (i := 8) rfl))
theorem wc_X4_at : Cond.code yX4_at cX4_at 2 (some .int) ∈ wsL_law := wq (wr_23 (List.mem_of_getElem? (i := 9) rfl))
theorem wm_X4_146 : Cond.methodLink RX4 146 yX2_pieceOn ∈ wsL_law := wq (wr_23 (List.mem_of_getElem? (i := 10) rfl))
theorem wm_L_118 : Cond.methodLink RL 118 yX5_at ∈ wsL_law := wq (wr_23 (List.mem_of_getElem? (i := 11) rfl))
theorem wi_X5_at : Cond.instanceMethod yX5_at ∈ wsL_law := wq (wr_23 (List.mem_of_getElem? (i := 12) rfl))
theorem ws_X5_at : Cond.selects RX5 yX5_at yX5_at ∈ wsL_law := wq (wr_23 (List.mem_of_getElem? (i := 13) rfl))
theorem wc_X5_at : Cond.code yX5_at cX5_at 2 (some .int) ∈ wsL_law := wq (wr_23 (List.mem_of_getElem? (i := 14) rfl))
theorem wm_L_119 : Cond.methodLink RL 119 yL_check ∈ wsL_law := wq (wr_23 (List.mem_of_getElem? (i := 15) rfl))
theorem wt_L_check : Cond.static yL_check ∈ wsL_law := wq (wr_23 (List.mem_of_getElem? (i := 16) rfl))
theorem wc_L_check : Cond.codeWith yL_check cL_check 3 (some .int) [(0, 15, 18, 25)] ∈ wsL_law := wq (wr_23 (List.mem_of_getElem? (i := 17) rfl))
theorem wm_L_50 : Cond.methodLink RL 50 yX4_check ∈ wsL_law := wq (wr_23 (List.mem_of_getElem? (i := 18) rfl))
theorem wi_X4_check : Cond.instanceMethod yX4_check ∈ wsL_law := wq (wr_23 (List.mem_of_getElem? (i := 19) rfl))
theorem ws_X4_check : Cond.selects RX4 yX4_check yX4_check ∈ wsL_law := wq (wr_23 (List.mem_of_getElem? (i := 20) rfl))
theorem wc_X4_check : Cond.code yX4_check cX4_check 1 (some .boolean) ∈ wsL_law := wq (wr_23 (List.mem_of_getElem? (i := 21) rfl))
theorem wm_L_121 : Cond.methodLink RL 121 yX5_check ∈ wsL_law := wq (wr_23 (List.mem_of_getElem? (i := 22) rfl))
theorem wi_X5_check : Cond.instanceMethod yX5_check ∈ wsL_law := wq (wr_23 (List.mem_of_getElem? (i := 23) rfl))
theorem ws_X5_check : Cond.selects RX5 yX5_check yX5_check ∈ wsL_law := wq (wr_24 (List.mem_of_getElem? (i := 0) rfl))
theorem wc_X5_check : Cond.code yX5_check cX5_check 1 (some .boolean) ∈ wsL_law := wq (wr_24 (List.mem_of_getElem? (i := 1) rfl))
theorem wm_L_122 : Cond.methodLink RL 122 yL_pinned ∈ wsL_law := wq (wr_24 (List.mem_of_getElem? (i := 2) rfl))
theorem wt_L_pinned : Cond.static yL_pinned ∈ wsL_law := wq (wr_24 (List.mem_of_getElem? (i := 3) rfl))
theorem wc_L_pinned : Cond.codeWith yL_pinned cL_pinned 3 (some .int) [(0, 7, 10, 25)] ∈ wsL_law := wq (wr_24 (List.mem_of_getElem? (i := 4) rfl))
theorem wm_L_54 : Cond.methodLink RL 54 yX4_pinned ∈ wsL_law := wq (wr_24 (List.mem_of_getElem? (i := 5) rfl))
theorem wi_X4_pinned : Cond.instanceMethod yX4_pinned ∈ wsL_law := wq (wr_24 (List.mem_of_getElem? (i := 6) rfl))
theorem ws_X4_pinned : Cond.selects RX4 yX4_pinned yX4_pinned ∈ wsL_law := wq (wr_24 (List.mem_of_getElem? (i := 7) rfl))
theorem wc_X4_pinned : Cond.code yX4_pinned cX4_pinned 1 (some .long) ∈ wsL_law := wq (wr_24 (List.mem_of_getElem? (i := 8) rfl))
theorem wm_X4_149 : Cond.methodLink RX4 149 yX3_pinnedSquares ∈ wsL_law := wq (wr_24 (List.mem_of_getElem? (i := 9) rfl))
theorem wi_X3_pinnedSquares : Cond.instanceMethod yX3_pinnedSquares ∈ wsL_law := wq (wr_24 (List.mem_of_getElem? (i := 10) rfl))
theorem ws_X3_pinnedSquares : Cond.selects RX3 yX3_pinnedSquares yX3_pinnedSquares ∈ wsL_law := wq (wr_24 (List.mem_of_getElem? (i := 11) rfl))
theorem wc_X3_pinnedSquares : Cond.code yX3_pinnedSquares cX3_pinnedSquares 1 (some .long) ∈ wsL_law := wq (wr_24 (List.mem_of_getElem? (i := 12) rfl))
theorem wm_L_124 : Cond.methodLink RL 124 yX5_pinned ∈ wsL_law := wq (wr_24 (List.mem_of_getElem? (i := 13) rfl))
theorem wi_X5_pinned : Cond.instanceMethod yX5_pinned ∈ wsL_law := wq (wr_24 (List.mem_of_getElem? (i := 14) rfl))
theorem ws_X5_pinned : Cond.selects RX5 yX5_pinned yX5_pinned ∈ wsL_law := wq (wr_24 (List.mem_of_getElem? (i := 15) rfl))
theorem wc_X5_pinned : Cond.code yX5_pinned cX5_pinned 10 (some .long) ∈ wsL_law := wq (wr_24 (List.mem_of_getElem? (i := 16) rfl))
theorem wm_L_125 : Cond.methodLink RL 125 yX4_look ∈ wsL_law := wq (wr_24 (List.mem_of_getElem? (i := 17) rfl))
theorem wi_X4_look : Cond.instanceMethod yX4_look ∈ wsL_law := wq (wr_24 (List.mem_of_getElem? (i := 18) rfl))
theorem ws_X4_look : Cond.selects RX4 yX4_look yX4_look ∈ wsL_law := wq (wr_24 (List.mem_of_getElem? (i := 19) rfl))
theorem wc_X4_look : Cond.code yX4_look cX4_look 2 (some .int) ∈ wsL_law := wq (wr_24 (List.mem_of_getElem? (i := 20) rfl))
theorem wm_L_128 : Cond.methodLink RL 128 yX5_look ∈ wsL_law := wq (wr_24 (List.mem_of_getElem? (i := 21) rfl))
theorem wi_X5_look : Cond.instanceMethod yX5_look ∈ wsL_law := wq (wr_24 (List.mem_of_getElem? (i := 22) rfl))
theorem ws_X5_look : Cond.selects RX5 yX5_look yX5_look ∈ wsL_law := wq (wr_24 (List.mem_of_getElem? (i := 23) rfl))
theorem wc_X5_look : Cond.code yX5_look cX5_look 2 (some .int) ∈ wsL_law := wq (wr_25 (List.mem_of_getElem? (i := 0) rfl))
theorem wq_good : wsL_law.all goodWord = true := by decide +kernel
theorem wq_in {cd : Cond} (h : cd ∈ wsL_law) : GoodIn wsL_law (cd :: wsL_law) := fun w hw => (List.mem_cons.mp hw).elim (fun e => by rw [e]; exact ⟨h, good_of_word (List.all_eq_true.mp wq_good _ h)⟩) (fun h => ⟨h, good_of_word (List.all_eq_true.mp wq_good _ h)⟩)
theorem wq_gg {c0 cd : Cond} (h : cd ∈ wsL_law) : GoodIn (c0 :: wsL_law) (cd :: wsL_law) := fun w hw => ⟨List.mem_cons_of_mem _ (wq_in h w hw).1, (wq_in h w hw).2⟩
end
section
/-! the one list of words, the environment, entries and calls -/
abbrev classes : List vw_C := [(RX1, TX1, 2), (RX2, TX2, 8), (RX3, TX3, 7), (RX4, TX4, 6), (RX5, TX5, 7)]
def bI (b : Bool) : Int32 := if b then 1 else 0
def stL : List Int32 := [8, -8, 1, -1, 9, 7, -7, -9]
def inL : List Int64 := [-1, -1, 9187201950435737471, -72340172838076674, 9187201950435737471, -72340172838076674, 9187201950435737471, -72340172838076674]
def frL : List Int32 := [4, 2, 3, 5, 6, 3, 2, 4]
def stF : Nat → Value := fun k => .int (stL.getD k 0)
def inF : Nat → Value := fun k => .long (inL.getD k 0)
def frF : Nat → Value := fun k => .int (frL.getD k 0)
/-- the links to nest mates (they are no good words: they go from state to state) -/
def nestL : List (String × Nat × MethodName) := [(RX2, 50, yX4_isSquare), (RX2, 54, yX4_isPiece), (RX2, 57, yX4_bit), (RX2, 94, yX4_fromOf), (RX2, 98, yX4_toOf), (RX2, 112, yX4_becomesOf), (RX2, 127, yX4_typeOf), (RX3, 46, yX4_squareOf), (RX3, 77, yX4_typeOf), (RX3, 109, yX4_bit)]
def EN (U : State) : Prop := ∀ q ∈ nestL, va_Nw (.methodLinkNest q.1 q.2.1 q.2.2 RX4) U
/-- what holds of the statics (they lie outside A), and the nest's links -/
def EV (A : Nat → Prop) (U : State) (H : Heap) : Prop := EN U ∧
  (∃ t : Nat, va_Z RX0 "STEP" "[I" (.ref t) A U H ∧ va_T .int t 8 stF A U H) ∧
  (∃ t : Nat, va_Z RX0 "INSIDE" "[J" (.ref t) A U H ∧ va_T .long t 8 inF A U H) ∧
  (∃ t : Nat, va_Z RX2 "FIRST_RANK" "[I" (.ref t) A U H ∧ va_T .int t 8 frF A U H) ∧
  vx_Zq Bundle.tN "UNASSIGNED_STACK" Bundle.steD A U H ∧ vx_Zq Bundle.tN "SUPPRESSED_SENTINEL" Bundle.listD A U H
theorem EN.warm {s U : State} (hW : s.WarmedH U.vm) (h : EN s) : EN U := fun q hq => va_Nw.warmM hW (h q hq)
theorem EN.same {s U : State} (hv : s.vm = U.vm) (h : EN s) : EN U := fun q hq => va_Nw.same rfl hv (h q hq)
theorem EV.pass {A B : Nat → Prop} {s U : State} {H H1 : Heap} (h : EV A s H) (hk : ∀ a : Nat, a < H.size → ¬ A a → H1[a]? = H[a]?) (hAB : ∀ q, B q → A q) (hN : EN s → EN U) (hW : s.vm.Alike U.vm) : EV B U H1 := by
  obtain ⟨h0, ⟨t1, a1, b1⟩, ⟨t2, a2, b2⟩, ⟨t3, a3, b3⟩, h4, h5⟩ := h
  exact ⟨hN h0, ⟨t1, ((a1.kept hk).narrow hAB).moved hW, ((b1.kept hk).narrow hAB).moved hW⟩, ⟨t2, ((a2.kept hk).narrow hAB).moved hW, ((b2.kept hk).narrow hAB).moved hW⟩, ⟨t3, ((a3.kept hk).narrow hAB).moved hW, ((b3.kept hk).narrow hAB).moved hW⟩, ((h4.kept hk).narrow hAB).moved hW, ((h5.kept hk).narrow hAB).moved hW⟩
/-- a world: its cells, apart, in A; new cells come in A; the tables; the environment -/
def IW (D : va_G) (cI cJ : ClassId) (A : Nat → Prop) (ws : va_W) (U : State) : Prop := va_P D classes ws U.heap ∧ va_D A ws ∧ va_K D classes [(cI, .int), (cJ, .long)] U ∧ (∀ q : Nat, U.heap.size ≤ q → A q) ∧ EV A U U.heap
theorem IW.moved {D : va_G} {cI cJ : ClassId} {A : Nat → Prop} {ws : va_W} {U V : State} (hh : U.heap = V.heap) (hv : U.vm = V.vm) (h : IW D cI cJ A ws U) : IW D cI cJ A ws V := by
  obtain ⟨h1, h2, h3, h4, h5⟩ := h
  have hal : U.vm.Alike V.vm := by rw [hv]; exact Vm.Alike.refl V.vm
  exact ⟨by rw [← hh]; exact h1, h2, va_K.moved hal h3, by rw [← hh]; exact h4, h5.pass (fun a _ _ => by rw [hh]) (fun _ h => h) (EN.same hv) hal⟩
theorem IW.blind {D : va_G} {cI cJ : ClassId} {A : Nat → Prop} {ws : va_W} {As : List Value} : FrameBlind (va_Pc As (IW D cI cJ A ws)) := fun a U g mk q => ⟨q.1, IW.moved (U := U) (V := U.calling g mk a) rfl rfl q.2⟩
theorem True.blind {As : List Value} : FrameBlind (va_Pc As (fun _ => True)) := fun _ _ _ _ q => ⟨q.1, trivial⟩
/-- the environment alone -/
theorem EV.blind {A : Nat → Prop} {As : List Value} : FrameBlind (va_Pc As (fun U => EV A U U.heap)) := fun a U g mk q => ⟨q.1, q.2.pass (U := U.calling g mk a) (fun _ _ _ => rfl) (fun _ h => h) (EN.same rfl) (Vm.Alike.refl U.vm)⟩
section
variable {p : Program} {l : Launch} {e : Env} {R : Room} {s : State} {m : MethodId} {args : Array Value} {below : List Frame} {meth : Method} {c : Code} {H : Heap} {locs : List Loc} {cells slots : Nat} {Q : State → Prop}
variable {y : MethodName} {bytes cc : ByteArray} {maxL nL mc ms index pc : Nat} {ret : Option FieldType} {rm : Room} {Qc : Array Value → State → Outcome → State → Prop} {free : Addr → Prop} {own C host : String} {b : Addr} {As rest st : List Value} {c0 : Cond} {ls : Array Slot} {B : State → Prop}
/-- the entry of a method -/
theorem entM {As : List Value} (hy : plainName y.cls = true) (hn : (lg_sl As).length ≤ maxL)
    (body : ∀ (p : Program) (e : Env) (s : State) (m : MethodId) (below : List Frame) (meth : Method) (c : Code) (ls : Array Slot), CallFix p m c cc maxL s As.toArray (Cond.code y cc maxL ret :: wsL_law) y.cls → meth.sig.returnType = ret → meth.locks = false → (∀ w ∈ wsL_law, w.before As.toArray s = true) → meth.name = y.name → B s → lv_has ls maxL (lv_args 0 As) →
      W p l e rm s m As.toArray below meth c s.heap [] 0 0 (MQ below Qc As.toArray s mc ms free) (F0 m 0 ls [])) : Met l y (Cond.code y cc maxL ret :: wsL_law) rm (va_Pc As B) Qc mc ms free := by
  refine Met.ofW (cc := cc) (maxL := maxL) (ret := ret) hy rfl ?_
  intro p e s m args below meth c s₁ Bd hml hv
  obtain ⟨rfl, hB⟩ := hv
  have hts := atoms_spec (ws := Cond.code y cc maxL ret :: wsL_law) Bd.pre
  have hl := lv_entry As (n := maxL) hn
  rw [lg_entry_eq]
  exact body p e s m below meth c _ ⟨Bd.exec, Bd.bytes, hml, findClass_of_methodNamed Bd.named, hts⟩ Bd.returns Bd.notSynchronized (fun w h => hts w (List.mem_cons_of_mem _ h)) (name_of_methodNamed Bd.named Bd.method).1 hB hl
theorem rnS (S : CallFix p m c cc nL s args (c0 :: wsL_law) own) (hM : Met l y (Cond.code y bytes maxL ret :: wsL_law) rm (va_Pc As B) Qc mc ms free)
    (wl : Cond.methodLink own index y ∈ wsL_law) (wt : Cond.static y ∈ wsL_law) (wn : Cond.initialized y.cls ∈ wsL_law) (wc : Cond.code y bytes maxL ret ∈ wsL_law)
    (hd : y.cls ≠ "java/lang/invoke/MethodHandle" ∧ y.cls ≠ "java/lang/invoke/VarHandle" ∧ (parseMethodDescriptor y.desc).map (fun d => d.parameters.length) = some As.length) (hR : rm.cells = mc ∧ rm.slots = ms ∧ rm.frames + 1 ≤ R.frames ∧ 8 + (maxL + 11) + rm.locals ≤ R.locals)
    (hbl : FrameBlind (va_Pc As B)) (hpre : ∀ U : State, U.heap = H → s.WarmedH U.vm → B U) (hsize : ls.size = nL) (hW : (rest.map fun v => v.category).sum ≤ 8) (hdg : decode cc pc = .ok (.invokestatic index, 3)) (hst : st = As.reverse ++ rest) (hf : cells + mc ≤ R.cells ∧ slots + ms ≤ R.slots) :
    va_Run p l e R s m args below meth c H locs cells slots mc ms (F0 m pc ls st) rest (Qc As.toArray) free := by
  have hG : ∀ w ∈ wsL_law, w.before args s = true := fun w h => S.2.2.2.2 w (List.mem_cons_of_mem _ h)
  exact va_runS S hM ⟨callB_of As.length S.2.2.2.2 (wq_gg wc) rfl hR.1 hR.2.1 (hG _ wn) (hG _ wl) hd hR.2.2, hG _ wt⟩ ⟨hbl, fun U h1 h2 => ⟨rfl, hpre U h1 h2⟩⟩ rfl rfl hsize hst (lv_room hW) hdg hf
theorem rnSN (S : CallFix p m c cc nL s args (c0 :: wsL_law) own) (hM : Met l y (Cond.code y bytes maxL ret :: wsL_law) rm (va_Pc As B) Qc mc ms free)
    (wl : va_Nw (.methodLinkNest own index y host) s) (wt : Cond.static y ∈ wsL_law) (wn : Cond.initialized y.cls ∈ wsL_law) (wc : Cond.code y bytes maxL ret ∈ wsL_law)
    (hd : y.cls ≠ "java/lang/invoke/MethodHandle" ∧ y.cls ≠ "java/lang/invoke/VarHandle" ∧ (parseMethodDescriptor y.desc).map (fun d => d.parameters.length) = some As.length) (hR : rm.cells = mc ∧ rm.slots = ms ∧ rm.frames + 1 ≤ R.frames ∧ 8 + (maxL + 11) + rm.locals ≤ R.locals)
    (hbl : FrameBlind (va_Pc As B)) (hpre : ∀ U : State, U.heap = H → s.WarmedH U.vm → B U) (hsize : ls.size = nL) (hW : (rest.map fun v => v.category).sum ≤ 8) (hdg : decode cc pc = .ok (.invokestatic index, 3)) (hst : st = As.reverse ++ rest) (hf : cells + mc ≤ R.cells ∧ slots + ms ≤ R.slots) :
    va_Run p l e R s m args below meth c H locs cells slots mc ms (F0 m pc ls st) rest (Qc As.toArray) free := by
  have hG : ∀ w ∈ wsL_law, w.before args s = true := fun w h => S.2.2.2.2 w (List.mem_cons_of_mem _ h)
  exact va_runSN S hM ⟨va_cnB As.length S.2.2.2.2 (wq_gg wc) rfl hR.1 hR.2.1 wl (hG _ wn) hd hR.2.2, hG _ wt, trivial⟩ ⟨hbl, fun U h1 h2 => ⟨rfl, hpre U h1 h2⟩⟩ rfl rfl hsize hst (lv_room hW) hdg hf
theorem rnV (S : CallFix p m c cc nL s args (c0 :: wsL_law) own) (hM : Met l y (Cond.code y bytes maxL ret :: wsL_law) rm (va_Pc (.ref b :: As) B) Qc mc ms free)
    (wl : Cond.methodLink own index y ∈ wsL_law) (wi : Cond.instanceMethod y ∈ wsL_law) (wz : Cond.selects y.cls y y ∈ wsL_law) (wn : Cond.initialized y.cls ∈ wsL_law) (wc : Cond.code y bytes maxL ret ∈ wsL_law)
    (hd : y.cls ≠ "java/lang/invoke/MethodHandle" ∧ y.cls ≠ "java/lang/invoke/VarHandle" ∧ (parseMethodDescriptor y.desc).map (fun d => d.parameters.length) = some As.length) (hR : rm.cells = mc ∧ rm.slots = ms ∧ rm.frames + 1 ≤ R.frames ∧ 8 + (maxL + 11) + rm.locals ≤ R.locals)
    (hbl : FrameBlind (va_Pc (.ref b :: As) B)) (hrec : ∃ cellB : Cell, H[b]? = some cellB ∧ cellB.vm.isStatics = false ∧ s.vm.findClass y.cls = some cellB.cls) (hpre : ∀ U : State, U.heap = H → s.WarmedH U.vm → B U) (hsize : ls.size = nL) (hW : (rest.map fun v => v.category).sum ≤ 8) (hdg : decode cc pc = .ok (.invokevirtual index, 3)) (hst : st = As.reverse ++ .ref b :: rest) (hf : cells + mc ≤ R.cells ∧ slots + ms ≤ R.slots) :
    va_Run p l e R s m args below meth c H locs cells slots mc ms (F0 m pc ls st) rest (Qc (Value.ref b :: As).toArray) free := by
  have hG : ∀ w ∈ wsL_law, w.before args s = true := fun w h => S.2.2.2.2 w (List.mem_cons_of_mem _ h)
  exact va_runV (C := y.cls) S hM ⟨callB_of As.length S.2.2.2.2 (wq_gg wc) rfl hR.1 hR.2.1 (hG _ wn) (hG _ wl) hd hR.2.2, hG _ wi, hG _ wz⟩ ⟨hbl, hrec, fun U h1 h2 => ⟨rfl, hpre U h1 h2⟩⟩ rfl rfl hsize hst (lv_room hW) hdg hf
/-- a call that leaves the heap as it was: int, long -/
theorem roI {post : Int32 → Prop} {a : Array Value} (hr : va_Run p l e R s m args below meth c H locs cells slots 0 0 (F0 m pc ls st) rest (vp_Si post a) (fun _ => False))
    (kk : ∀ r : Int32, post r → W p l e R s m args below meth c H locs cells slots Q (F0 m (pc + 3) ls (.int r :: rest))) : W p l e R s m args below meth c H locs cells slots Q (F0 m pc ls st) := by
  intro T hT X
  obtain ⟨v, st₀, t, T', L, h0, X', hL, e1, e2, ⟨r, hv, hp, hh⟩, go⟩ := hr T hT X
  cases hv
  have hLn : L = [] := by
    cases L with
    | nil => rfl
    | cons z L => exact (hL z List.mem_cons_self).elim
  subst hLn
  rw [List.append_nil] at X'
  obtain ⟨t2, a1, b1⟩ := kk r hp T' (by rw [e1, hh, h0]) X'
  exact ⟨t2, go t2 a1, b1⟩
theorem roL {post : Int64 → Prop} {a : Array Value} (hr : va_Run p l e R s m args below meth c H locs cells slots 0 0 (F0 m pc ls st) rest (vp_Sl post a) (fun _ => False))
    (kk : ∀ r : Int64, post r → W p l e R s m args below meth c H locs cells slots Q (F0 m (pc + 3) ls (.long r :: rest))) : W p l e R s m args below meth c H locs cells slots Q (F0 m pc ls st) := by
  intro T hT X
  obtain ⟨v, st₀, t, T', L, h0, X', hL, e1, e2, ⟨r, hv, hp, hh⟩, go⟩ := hr T hT X
  cases hv
  have hLn : L = [] := by
    cases L with
    | nil => rfl
    | cons z L => exact (hL z List.mem_cons_self).elim
  subst hLn
  rw [List.append_nil] at X'
  obtain ⟨t2, a1, b1⟩ := kk r hp T' (by rw [e1, hh, h0]) X'
  exact ⟨t2, go t2 a1, b1⟩
/-- a call that changes the world: void, int, long -/
theorem chV {A : Nat → Prop} {Sx : Type} {post : Sx → Prop} {D : va_G} {cI cJ : ClassId} {w' : Sx → va_W} {a : Array Value} {H0 : Heap} (hr : va_Run p l e R s m args below meth c H locs cells slots 0 0 (F0 m pc ls st) rest (va_Qv post (fun u t => IW D cI cJ A (w' u) t) A a) A) (hS : va_S A H0 H locs)
    (kk : ∀ (u : Sx) (H1 : Heap) (locs1 : List Loc), post u → va_P D classes (w' u) H1 → va_D A (w' u) → va_S A H0 H1 locs1 → W p l e R s m args below meth c H1 locs1 cells slots Q (F0 m (pc + 3) ls rest)) : W p l e R s m args below meth c H locs cells slots Q (F0 m pc ls st) :=
  va_callv hr hS (fun _ _ h => h) (fun _ h => h) (fun u t H1 locs1 ht _ hp hB _ _ hS1 => kk u H1 locs1 hp (by rw [← ht]; exact hB.1) hB.2.1 hS1)
theorem chI {A : Nat → Prop} {Sx : Type} {post : Int32 → Sx → Prop} {D : va_G} {cI cJ : ClassId} {w' : Sx → va_W} {a : Array Value} {H0 : Heap} (hr : va_Run p l e R s m args below meth c H locs cells slots 0 0 (F0 m pc ls st) rest (va_Qi post (fun u t => IW D cI cJ A (w' u) t) A a) A) (hS : va_S A H0 H locs)
    (kk : ∀ (r : Int32) (u : Sx) (H1 : Heap) (locs1 : List Loc), post r u → va_P D classes (w' u) H1 → va_D A (w' u) → va_S A H0 H1 locs1 → W p l e R s m args below meth c H1 locs1 cells slots Q (F0 m (pc + 3) ls (.int r :: rest))) : W p l e R s m args below meth c H locs cells slots Q (F0 m pc ls st) :=
  va_calli hr hS (fun _ _ h => h) (fun _ h => h) (fun r u t H1 locs1 ht _ hp hB _ _ hS1 => kk r u H1 locs1 hp (by rw [← ht]; exact hB.1) hB.2.1 hS1)
theorem chL {A : Nat → Prop} {Sx : Type} {post : Int64 → Sx → Prop} {D : va_G} {cI cJ : ClassId} {w' : Sx → va_W} {a : Array Value} {H0 : Heap} (hr : va_Run p l e R s m args below meth c H locs cells slots 0 0 (F0 m pc ls st) rest (va_Ql post (fun u t => IW D cI cJ A (w' u) t) A a) A) (hS : va_S A H0 H locs)
    (kk : ∀ (r : Int64) (u : Sx) (H1 : Heap) (locs1 : List Loc), post r u → va_P D classes (w' u) H1 → va_D A (w' u) → va_S A H0 H1 locs1 → W p l e R s m args below meth c H1 locs1 cells slots Q (F0 m (pc + 3) ls (.long r :: rest))) : W p l e R s m args below meth c H locs cells slots Q (F0 m pc ls st) :=
  va_calll hr hS (fun _ _ h => h) (fun _ h => h) (fun r u t H1 locs1 ht _ hp hB _ _ hS1 => kk r u H1 locs1 hp (by rw [← ht]; exact hB.1) hB.2.1 hS1)
/-- the world of a state that stands at heap H, seen as a callee's start -/
theorem IW.at {D : va_G} {cI cJ : ClassId} {A : Nat → Prop} {ws : va_W} (hP : va_P D classes ws H) (hD : va_D A ws) (hK : va_K D classes [(cI, .int), (cJ, .long)] s) (hA : ∀ q : Nat, s.heap.size ≤ q → A q) (hE : EV A s s.heap) (hS : va_S A s.heap H locs) : ∀ U : State, U.heap = H → s.WarmedH U.vm → IW D cI cJ A ws U := fun U hU hW =>
  ⟨by rw [hU]; exact hP, hD, va_K.moved hW.alike hK, fun q hq => hA q (Nat.le_trans hS.1 (by rw [hU] at hq; exact hq)), by rw [hU]; exact hE.pass hS.2.1 (fun _ h => h) (EN.warm hW) hW.alike⟩
/-- the environment at a callee's start -/
theorem EV.at {A : Nat → Prop} (hE : EV A s s.heap) (hS : va_S A s.heap H locs) : ∀ U : State, U.heap = H → s.WarmedH U.vm → EV A U U.heap := fun U hU hW => by rw [hU]; exact hE.pass hS.2.1 (fun _ h => h) (EN.warm hW) hW.alike
end
end
section
/-! rows over ints that are natural numbers, joins, loops, ends -/
abbrev rK (k : Nat) : Room := { frames := k, cells := 0, slots := 0, locals := 48 * k }
section
variable {p : Program} {l : Launch} {e : Env} {R : Room} {s : State} {m : MethodId} {args : Array Value} {below : List Frame} {meth : Method} {c : Code} {H : Heap} {locs : List Loc} {cells slots : Nat} {Q : State → Prop} {cc : ByteArray} {pc : Nat} {ls : Array Slot} {rest : List Value}
theorem ln_iadd (hx : p.tables.exec = Jvm.exec) (hb : c.code = cc) {a b : Nat} (hdg : decode cc pc = .ok (.iadd, 1)) (k : W p l e R s m args below meth c H locs cells slots Q (F0 m (pc + 1) ls (.int (nI (a + b)) :: rest))) : W p l e R s m args below meth c H locs cells slots Q (F0 m pc ls (.int (nI b) :: .int (nI a) :: rest)) := lv_iadd hx hb hdg (by rw [nI_add]; exact k)
theorem ln_isub (hx : p.tables.exec = Jvm.exec) (hb : c.code = cc) {a b : Nat} (hdg : decode cc pc = .ok (.isub, 1)) (h : b ≤ a) (k : W p l e R s m args below meth c H locs cells slots Q (F0 m (pc + 1) ls (.int (nI (a - b)) :: rest))) : W p l e R s m args below meth c H locs cells slots Q (F0 m pc ls (.int (nI b) :: .int (nI a) :: rest)) := lv_isub hx hb hdg (by rw [pk_sub h]; exact k)
theorem ln_imul (hx : p.tables.exec = Jvm.exec) (hb : c.code = cc) {a b : Nat} (hdg : decode cc pc = .ok (.imul, 1)) (k : W p l e R s m args below meth c H locs cells slots Q (F0 m (pc + 1) ls (.int (nI (a * b)) :: rest))) : W p l e R s m args below meth c H locs cells slots Q (F0 m pc ls (.int (nI b) :: .int (nI a) :: rest)) := lv_imul hx hb hdg (by rw [pk_mul]; exact k)
theorem ln_idiv (hx : p.tables.exec = Jvm.exec) (hb : c.code = cc) {a b : Nat} (hdg : decode cc pc = .ok (.idiv, 1)) (ha : a < 2 ^ 31) (h0 : 0 < b) (hd : b < 2 ^ 31) (k : W p l e R s m args below meth c H locs cells slots Q (F0 m (pc + 1) ls (.int (nI (a / b)) :: rest))) : W p l e R s m args below meth c H locs cells slots Q (F0 m pc ls (.int (nI b) :: .int (nI a) :: rest)) := lv_idiv hx hb hdg (nI_ne0 h0 hd) (by rw [pk_div ha h0 hd]; exact k)
theorem ln_irem (hx : p.tables.exec = Jvm.exec) (hb : c.code = cc) {a b : Nat} (hdg : decode cc pc = .ok (.irem, 1)) (ha : a < 2 ^ 31) (h0 : 0 < b) (hd : b < 2 ^ 31) (k : W p l e R s m args below meth c H locs cells slots Q (F0 m (pc + 1) ls (.int (nI (a % b)) :: rest))) : W p l e R s m args below meth c H locs cells slots Q (F0 m pc ls (.int (nI b) :: .int (nI a) :: rest)) := lv_irem hx hb hdg (nI_ne0 h0 hd) (by rw [pk_rem ha h0 hd]; exact k)
theorem ln_icmp_eq (hx : p.tables.exec = Jvm.exec) (hb : c.code = cc) {x y : Nat} {off : Int} {tgt : Nat} (hdg : decode cc pc = .ok (.if_icmp .eq off, 3)) (ht : (pc : Int) + off = (tgt : Int)) (h1 : x < 2 ^ 31) (h2 : y < 2 ^ 31) (kt : x = y → W p l e R s m args below meth c H locs cells slots Q (F0 m tgt ls rest)) (kf : ¬ x = y → W p l e R s m args below meth c H locs cells slots Q (F0 m (pc + 3) ls rest)) : W p l e R s m args below meth c H locs cells slots Q (F0 m pc ls (.int (nI y) :: .int (nI x) :: rest)) := lv_icmp_eq hx hb hdg ht (fun h => kt ((nI_eq h1 h2).mp h)) (fun h => kf (fun z => h ((nI_eq h1 h2).mpr z)))
theorem ln_icmp_ne (hx : p.tables.exec = Jvm.exec) (hb : c.code = cc) {x y : Nat} {off : Int} {tgt : Nat} (hdg : decode cc pc = .ok (.if_icmp .ne off, 3)) (ht : (pc : Int) + off = (tgt : Int)) (h1 : x < 2 ^ 31) (h2 : y < 2 ^ 31) (kt : ¬ x = y → W p l e R s m args below meth c H locs cells slots Q (F0 m tgt ls rest)) (kf : x = y → W p l e R s m args below meth c H locs cells slots Q (F0 m (pc + 3) ls rest)) : W p l e R s m args below meth c H locs cells slots Q (F0 m pc ls (.int (nI y) :: .int (nI x) :: rest)) := lv_icmp_ne hx hb hdg ht (fun h => kt (fun z => h ((nI_eq h1 h2).mpr z))) (fun h => kf ((nI_eq h1 h2).mp h))
theorem ln_icmp_lt (hx : p.tables.exec = Jvm.exec) (hb : c.code = cc) {x y : Nat} {off : Int} {tgt : Nat} (hdg : decode cc pc = .ok (.if_icmp .lt off, 3)) (ht : (pc : Int) + off = (tgt : Int)) (h1 : x < 2 ^ 31) (h2 : y < 2 ^ 31) (kt : x < y → W p l e R s m args below meth c H locs cells slots Q (F0 m tgt ls rest)) (kf : ¬ x < y → W p l e R s m args below meth c H locs cells slots Q (F0 m (pc + 3) ls rest)) : W p l e R s m args below meth c H locs cells slots Q (F0 m pc ls (.int (nI y) :: .int (nI x) :: rest)) := lv_icmp_lt hx hb hdg ht (fun h => kt ((nI_ltI h1 h2).mp h)) (fun h => kf (fun z => h ((nI_ltI h1 h2).mpr z)))
theorem ln_icmp_gt (hx : p.tables.exec = Jvm.exec) (hb : c.code = cc) {x y : Nat} {off : Int} {tgt : Nat} (hdg : decode cc pc = .ok (.if_icmp .gt off, 3)) (ht : (pc : Int) + off = (tgt : Int)) (h1 : x < 2 ^ 31) (h2 : y < 2 ^ 31) (kt : y < x → W p l e R s m args below meth c H locs cells slots Q (F0 m tgt ls rest)) (kf : ¬ y < x → W p l e R s m args below meth c H locs cells slots Q (F0 m (pc + 3) ls rest)) : W p l e R s m args below meth c H locs cells slots Q (F0 m pc ls (.int (nI y) :: .int (nI x) :: rest)) := lv_icmp_gt hx hb hdg ht (fun h => kt ((nI_ltI h2 h1).mp h)) (fun h => kf (fun z => h ((nI_ltI h2 h1).mpr z)))
theorem ln_icmp_le (hx : p.tables.exec = Jvm.exec) (hb : c.code = cc) {x y : Nat} {off : Int} {tgt : Nat} (hdg : decode cc pc = .ok (.if_icmp .le off, 3)) (ht : (pc : Int) + off = (tgt : Int)) (h1 : x < 2 ^ 31) (h2 : y < 2 ^ 31) (kt : x ≤ y → W p l e R s m args below meth c H locs cells slots Q (F0 m tgt ls rest)) (kf : ¬ x ≤ y → W p l e R s m args below meth c H locs cells slots Q (F0 m (pc + 3) ls rest)) : W p l e R s m args below meth c H locs cells slots Q (F0 m pc ls (.int (nI y) :: .int (nI x) :: rest)) := lv_icmp_le hx hb hdg ht (fun h => kt ((nI_leI h1 h2).mp h)) (fun h => kf (fun z => h ((nI_leI h1 h2).mpr z)))
theorem ln_icmp_ge (hx : p.tables.exec = Jvm.exec) (hb : c.code = cc) {x y : Nat} {off : Int} {tgt : Nat} (hdg : decode cc pc = .ok (.if_icmp .ge off, 3)) (ht : (pc : Int) + off = (tgt : Int)) (h1 : x < 2 ^ 31) (h2 : y < 2 ^ 31) (kt : y ≤ x → W p l e R s m args below meth c H locs cells slots Q (F0 m tgt ls rest)) (kf : ¬ y ≤ x → W p l e R s m args below meth c H locs cells slots Q (F0 m (pc + 3) ls rest)) : W p l e R s m args below meth c H locs cells slots Q (F0 m pc ls (.int (nI y) :: .int (nI x) :: rest)) := lv_icmp_ge hx hb hdg ht (fun h => kt ((nI_leI h2 h1).mp h)) (fun h => kf (fun z => h ((nI_leI h2 h1).mpr z)))
theorem ln_if_eq (hx : p.tables.exec = Jvm.exec) (hb : c.code = cc) {x : Nat} {off : Int} {tgt : Nat} (hdg : decode cc pc = .ok (.ifCond .eq off, 3)) (ht : (pc : Int) + off = (tgt : Int)) (h1 : x < 2 ^ 31) (kt : x = 0 → W p l e R s m args below meth c H locs cells slots Q (F0 m tgt ls rest)) (kf : ¬ x = 0 → W p l e R s m args below meth c H locs cells slots Q (F0 m (pc + 3) ls rest)) : W p l e R s m args below meth c H locs cells slots Q (F0 m pc ls (.int (nI x) :: rest)) := lv_if_eq hx hb hdg ht (fun h => kt ((nI_eq h1 (by decide)).mp (h.trans nI_0.symm))) (fun h => kf (fun z => h (by rw [z]; exact nI_0)))
theorem ln_if_ne (hx : p.tables.exec = Jvm.exec) (hb : c.code = cc) {x : Nat} {off : Int} {tgt : Nat} (hdg : decode cc pc = .ok (.ifCond .ne off, 3)) (ht : (pc : Int) + off = (tgt : Int)) (h1 : x < 2 ^ 31) (kt : ¬ x = 0 → W p l e R s m args below meth c H locs cells slots Q (F0 m tgt ls rest)) (kf : x = 0 → W p l e R s m args below meth c H locs cells slots Q (F0 m (pc + 3) ls rest)) : W p l e R s m args below meth c H locs cells slots Q (F0 m pc ls (.int (nI x) :: rest)) := lv_if_ne hx hb hdg ht (fun h => kt (fun z => h (by rw [z]; exact nI_0))) (fun h => kf ((nI_eq h1 (by decide)).mp (h.trans nI_0.symm)))
theorem ln_if_lt (hx : p.tables.exec = Jvm.exec) (hb : c.code = cc) {x : Nat} {off : Int} {tgt : Nat} (hdg : decode cc pc = .ok (.ifCond .lt off, 3)) (_ : (pc : Int) + off = (tgt : Int)) (h1 : x < 2 ^ 31) (kf : W p l e R s m args below meth c H locs cells slots Q (F0 m (pc + 3) ls rest)) : W p l e R s m args below meth c H locs cells slots Q (F0 m pc ls (.int (nI x) :: rest)) := lv_if_lt (tgt := tgt) hx hb hdg (by assumption) (fun h => absurd h (nI_pos h1)) (fun _ => kf)
theorem ln_if_ge (hx : p.tables.exec = Jvm.exec) (hb : c.code = cc) {x : Nat} {off : Int} {tgt : Nat} (hdg : decode cc pc = .ok (.ifCond .ge off, 3)) (ht : (pc : Int) + off = (tgt : Int)) (h1 : x < 2 ^ 31) (kt : W p l e R s m args below meth c H locs cells slots Q (F0 m tgt ls rest)) : W p l e R s m args below meth c H locs cells slots Q (F0 m pc ls (.int (nI x) :: rest)) := lv_if_ge hx hb hdg ht (fun _ => kt) (fun h => absurd (nI_pos' h1) h)
theorem ln_if_le (hx : p.tables.exec = Jvm.exec) (hb : c.code = cc) {x : Nat} {off : Int} {tgt : Nat} (hdg : decode cc pc = .ok (.ifCond .le off, 3)) (ht : (pc : Int) + off = (tgt : Int)) (h1 : x < 2 ^ 31) (kt : x = 0 → W p l e R s m args below meth c H locs cells slots Q (F0 m tgt ls rest)) (kf : ¬ x = 0 → W p l e R s m args below meth c H locs cells slots Q (F0 m (pc + 3) ls rest)) : W p l e R s m args below meth c H locs cells slots Q (F0 m pc ls (.int (nI x) :: rest)) := lv_if_le hx hb hdg ht (fun h => kt (by have := (nI_leI h1 (show 0 < 2 ^ 31 by decide)).mp (by rw [nI_0]; exact h); omega)) (fun h => kf (fun z => h (by rw [z]; decide)))
theorem ln_if_gt (hx : p.tables.exec = Jvm.exec) (hb : c.code = cc) {x : Nat} {off : Int} {tgt : Nat} (hdg : decode cc pc = .ok (.ifCond .gt off, 3)) (ht : (pc : Int) + off = (tgt : Int)) (h1 : x < 2 ^ 31) (kt : ¬ x = 0 → W p l e R s m args below meth c H locs cells slots Q (F0 m tgt ls rest)) (kf : x = 0 → W p l e R s m args below meth c H locs cells slots Q (F0 m (pc + 3) ls rest)) : W p l e R s m args below meth c H locs cells slots Q (F0 m pc ls (.int (nI x) :: rest)) := lv_if_gt hx hb hdg ht (fun h => kt (fun z => by rw [z] at h; exact absurd h (by decide))) (fun h => kf (Classical.byContradiction fun z => h (by have := (nI_ltI (show 0 < 2 ^ 31 by decide) h1).mpr (Nat.pos_of_ne_zero z); rw [nI_0] at this; exact this)))
/-- a boolean on the stack -/
theorem lb_if_eq (hx : p.tables.exec = Jvm.exec) (hb : c.code = cc) {x : Bool} {off : Int} {tgt : Nat} (hdg : decode cc pc = .ok (.ifCond .eq off, 3)) (ht : (pc : Int) + off = (tgt : Int)) (kt : x = false → W p l e R s m args below meth c H locs cells slots Q (F0 m tgt ls rest)) (kf : x = true → W p l e R s m args below meth c H locs cells slots Q (F0 m (pc + 3) ls rest)) : W p l e R s m args below meth c H locs cells slots Q (F0 m pc ls (.int (bI x) :: rest)) := by
  cases x with
  | false => exact lv_if_eq hx hb hdg ht (fun _ => kt rfl) (fun h => absurd rfl h)
  | true => exact lv_if_eq hx hb hdg ht (fun h => absurd h (by decide)) (fun _ => kf rfl)
theorem lb_if_ne (hx : p.tables.exec = Jvm.exec) (hb : c.code = cc) {x : Bool} {off : Int} {tgt : Nat} (hdg : decode cc pc = .ok (.ifCond .ne off, 3)) (ht : (pc : Int) + off = (tgt : Int)) (kt : x = true → W p l e R s m args below meth c H locs cells slots Q (F0 m tgt ls rest)) (kf : x = false → W p l e R s m args below meth c H locs cells slots Q (F0 m (pc + 3) ls rest)) : W p l e R s m args below meth c H locs cells slots Q (F0 m pc ls (.int (bI x) :: rest)) := by
  cases x with
  | false => exact lv_if_ne hx hb hdg ht (fun h => absurd rfl h) (fun _ => kf rfl)
  | true => exact lv_if_ne hx hb hdg ht (fun _ => kt rfl) (fun h => absurd h (by decide))
/-- two roads come together: the rest is walked once -/
theorem jnG (J : Nat) (nL : Nat) (lv : List (Nat × Value)) (st : List Value) {g : JFrame} (k : ∀ ls : Array Slot, lv_has ls nL lv → W p l e R s m args below meth c H locs cells slots Q (F0 m J ls st))
    (f : (∀ ls : Array Slot, lv_has ls nL lv → W p l e R s m args below meth c H locs cells slots Q (F0 m J ls st)) → W p l e R s m args below meth c H locs cells slots Q g) : W p l e R s m args below meth c H locs cells slots Q g := f k
theorem jnH (X : Prop) (J : Nat) (nL : Nat) (lv : List (Nat × Value)) (st : List Value) {g : JFrame} (k : X → ∀ ls : Array Slot, lv_has ls nL lv → W p l e R s m args below meth c H locs cells slots Q (F0 m J ls st))
    (f : (X → ∀ ls : Array Slot, lv_has ls nL lv → W p l e R s m args below meth c H locs cells slots Q (F0 m J ls st)) → W p l e R s m args below meth c H locs cells slots Q g) : W p l e R s m args below meth c H locs cells slots Q g := f k
theorem jnW {σ : Type} {D : va_G} {A : Nat → Prop} {H0 : Heap} (J : Nat) (nL : Nat) (lv : σ → List (Nat × Value)) (st : List Value) (ws : σ → va_W) (Inv : σ → Prop) {g : JFrame} (k : ∀ (x : σ) (H : Heap) (locs : List Loc), Inv x → va_P D classes (ws x) H → va_D A (ws x) → va_S A H0 H locs → ∀ ls : Array Slot, lv_has ls nL (lv x) → W p l e R s m args below meth c H locs cells slots Q (F0 m J ls st))
    (f : (∀ (x : σ) (H : Heap) (locs : List Loc), Inv x → va_P D classes (ws x) H → va_D A (ws x) → va_S A H0 H locs → ∀ ls : Array Slot, lv_has ls nL (lv x) → W p l e R s m args below meth c H locs cells slots Q (F0 m J ls st)) → W p l e R s m args below meth c H locs cells slots Q g) : W p l e R s m args below meth c H locs cells slots Q g := f k
theorem W.top {x y : Value} (h : x = y) {J : Nat} (k : W p l e R s m args below meth c H locs cells slots Q (F0 m J ls (y :: rest))) : W p l e R s m args below meth c H locs cells slots Q (F0 m J ls (x :: rest)) := h ▸ k
/-- a loop that leaves the heap alone -/
theorem lpR {σ : Type} (J nL : Nat) (st : List Value) (lv : σ → List (Nat × Value)) (Inv : σ → Prop) (μ : σ → Nat) (x0 : σ) (h0 : Inv x0) {ls0 : Array Slot} (hl0 : lv_has ls0 nL (lv x0))
    (step : ∀ x, Inv x → (∀ y, Inv y → μ y < μ x → ∀ ls, lv_has ls nL (lv y) → W p l e R s m args below meth c H locs cells slots Q (F0 m J ls st)) → ∀ ls, lv_has ls nL (lv x) → W p l e R s m args below meth c H locs cells slots Q (F0 m J ls st)) : W p l e R s m args below meth c H locs cells slots Q (F0 m J ls0 st) := by
  have key : ∀ n x, μ x < n → Inv x → ∀ ls, lv_has ls nL (lv x) → W p l e R s m args below meth c H locs cells slots Q (F0 m J ls st) := by
    intro n
    induction n with
    | zero => intro x h; omega
    | succ n ih => intro x h hI ls hl; exact step x hI (fun y hy hm => ih y (by omega) hy) ls hl
  exact key _ x0 (Nat.lt_succ_self _) h0 ls0 hl0
/-- a loop that changes the world -/
theorem lpW {σ : Type} {D : va_G} {A : Nat → Prop} {H0 : Heap} (J nL : Nat) (st : List Value) (lv : σ → List (Nat × Value)) (ws : σ → va_W) (Inv : σ → Prop) (μ : σ → Nat) (x0 : σ) (h0 : Inv x0) {ls0 : Array Slot} (hl0 : lv_has ls0 nL (lv x0)) (hP0 : va_P D classes (ws x0) H) (hD0 : va_D A (ws x0)) (hS0 : va_S A H0 H locs)
    (step : ∀ (x : σ) (H : Heap) (locs : List Loc), Inv x → va_P D classes (ws x) H → va_D A (ws x) → va_S A H0 H locs → (∀ (y : σ) (H : Heap) (locs : List Loc), Inv y → μ y < μ x → va_P D classes (ws y) H → va_D A (ws y) → va_S A H0 H locs → ∀ ls, lv_has ls nL (lv y) → W p l e R s m args below meth c H locs cells slots Q (F0 m J ls st)) → ∀ ls, lv_has ls nL (lv x) → W p l e R s m args below meth c H locs cells slots Q (F0 m J ls st)) : W p l e R s m args below meth c H locs cells slots Q (F0 m J ls0 st) := by
  have key : ∀ n (x : σ) (H : Heap) (locs : List Loc), μ x < n → Inv x → va_P D classes (ws x) H → va_D A (ws x) → va_S A H0 H locs → ∀ ls, lv_has ls nL (lv x) → W p l e R s m args below meth c H locs cells slots Q (F0 m J ls st) := by
    intro n
    induction n with
    | zero => intro x H locs h; omega
    | succ n ih => intro x H locs h hI hP hD hS ls hl; exact step x H locs hI hP hD hS (fun y H locs hy hm => ih y H locs (by omega) hy) ls hl
  exact key _ x0 H locs (Nat.lt_succ_self _) h0 hP0 hD0 hS0 ls0 hl0
/-- ends of methods that leave the heap alone -/
theorem reI {post : Int32 → Prop} {free : Addr → Prop} {v : Int32} (hx : p.tables.exec = Jvm.exec) (hb : c.code = cc) (hr : meth.sig.returnType = some .int) (hlocks : meth.locks = false) (hdg : decode cc pc = .ok (.ireturn, 1)) (hp : post v) : W p l e R s m args below meth c s.heap [] 0 0 (MQ below (vp_Si post) args s 0 0 free) (F0 m pc ls [.int v]) := W.iret hx hb hr (fun t ht _ => ⟨v, rfl, hp, ht⟩) (fun _ h => nomatch h) hdg hlocks
theorem reZ {post : Int32 → Prop} {free : Addr → Prop} {v : Bool} (hx : p.tables.exec = Jvm.exec) (hb : c.code = cc) (hr : meth.sig.returnType = some .boolean) (hlocks : meth.locks = false) (hdg : decode cc pc = .ok (.ireturn, 1)) (hp : post (bI v)) : W p l e R s m args below meth c s.heap [] 0 0 (MQ below (vp_Si post) args s 0 0 free) (F0 m pc ls [.int (bI v)]) := W.zret hx hb hr (by cases v <;> rfl) (fun t ht _ => ⟨_, rfl, hp, ht⟩) (fun _ h => nomatch h) hdg hlocks
theorem reL {post : Int64 → Prop} {free : Addr → Prop} {v : Int64} (hx : p.tables.exec = Jvm.exec) (hb : c.code = cc) (hr : meth.sig.returnType = some .long) (hlocks : meth.locks = false) (hdg : decode cc pc = .ok (.lreturn, 1)) (hp : post v) : W p l e R s m args below meth c s.heap [] 0 0 (MQ below (vp_Sl post) args s 0 0 free) (F0 m pc ls [.long v]) := W.lret hx hb hr (fun t ht _ => ⟨v, rfl, hp, ht⟩) (fun _ h => nomatch h) hdg hlocks
/-- ends of methods that change the world -/
theorem weV {Sx : Type} {post : Sx → Prop} {D : va_G} {cI cJ : ClassId} {A : Nat → Prop} {w' : Sx → va_W} (u : Sx) (hx : p.tables.exec = Jvm.exec) (hb : c.code = cc) (hr : meth.sig.returnType = none) (hlocks : meth.locks = false) (hdg : decode cc pc = .ok (.return_, 1)) (hp : post u) (hP : va_P D classes (w' u) H) (hD : va_D A (w' u)) (hK : va_K D classes [(cI, .int), (cJ, .long)] s) (hA : ∀ q : Nat, s.heap.size ≤ q → A q) (hE : EV A s s.heap) (hS : va_S A s.heap H locs) :
    W p l e R s m args below meth c H locs 0 0 (MQ below (va_Qv post (fun u t => IW D cI cJ A (w' u) t) A) args s 0 0 A) (F0 m pc ls []) := W.vret hx hb hr (fun t ht hW => ⟨⟨u, rfl, hp, IW.at hP hD hK hA hE hS t ht hW⟩, hS.F ht⟩) hS.2.2 hdg hlocks
theorem weI {Sx : Type} {post : Int32 → Sx → Prop} {D : va_G} {cI cJ : ClassId} {A : Nat → Prop} {w' : Sx → va_W} {v : Int32} (u : Sx) (hx : p.tables.exec = Jvm.exec) (hb : c.code = cc) (hr : meth.sig.returnType = some .int) (hlocks : meth.locks = false) (hdg : decode cc pc = .ok (.ireturn, 1)) (hp : post v u) (hP : va_P D classes (w' u) H) (hD : va_D A (w' u)) (hK : va_K D classes [(cI, .int), (cJ, .long)] s) (hA : ∀ q : Nat, s.heap.size ≤ q → A q) (hE : EV A s s.heap) (hS : va_S A s.heap H locs) :
    W p l e R s m args below meth c H locs 0 0 (MQ below (va_Qi post (fun u t => IW D cI cJ A (w' u) t) A) args s 0 0 A) (F0 m pc ls [.int v]) := W.iret hx hb hr (fun t ht hW => ⟨⟨v, u, rfl, hp, IW.at hP hD hK hA hE hS t ht hW⟩, hS.F ht⟩) hS.2.2 hdg hlocks
theorem weZ {Sx : Type} {post : Int32 → Sx → Prop} {D : va_G} {cI cJ : ClassId} {A : Nat → Prop} {w' : Sx → va_W} {v : Bool} (u : Sx) (hx : p.tables.exec = Jvm.exec) (hb : c.code = cc) (hr : meth.sig.returnType = some .boolean) (hlocks : meth.locks = false) (hdg : decode cc pc = .ok (.ireturn, 1)) (hp : post (bI v) u) (hP : va_P D classes (w' u) H) (hD : va_D A (w' u)) (hK : va_K D classes [(cI, .int), (cJ, .long)] s) (hA : ∀ q : Nat, s.heap.size ≤ q → A q) (hE : EV A s s.heap) (hS : va_S A s.heap H locs) :
    W p l e R s m args below meth c H locs 0 0 (MQ below (va_Qi post (fun u t => IW D cI cJ A (w' u) t) A) args s 0 0 A) (F0 m pc ls [.int (bI v)]) := W.zret hx hb hr (by cases v <;> rfl) (fun t ht hW => ⟨⟨_, u, rfl, hp, IW.at hP hD hK hA hE hS t ht hW⟩, hS.F ht⟩) hS.2.2 hdg hlocks
theorem weL {Sx : Type} {post : Int64 → Sx → Prop} {D : va_G} {cI cJ : ClassId} {A : Nat → Prop} {w' : Sx → va_W} {v : Int64} (u : Sx) (hx : p.tables.exec = Jvm.exec) (hb : c.code = cc) (hr : meth.sig.returnType = some .long) (hlocks : meth.locks = false) (hdg : decode cc pc = .ok (.lreturn, 1)) (hp : post v u) (hP : va_P D classes (w' u) H) (hD : va_D A (w' u)) (hK : va_K D classes [(cI, .int), (cJ, .long)] s) (hA : ∀ q : Nat, s.heap.size ≤ q → A q) (hE : EV A s s.heap) (hS : va_S A s.heap H locs) :
    W p l e R s m args below meth c H locs 0 0 (MQ below (va_Ql post (fun u t => IW D cI cJ A (w' u) t) A) args s 0 0 A) (F0 m pc ls [.long v]) := W.lret hx hb hr (fun t ht hW => ⟨⟨v, u, rfl, hp, IW.at hP hD hK hA hE hS t ht hW⟩, hS.F ht⟩) hS.2.2 hdg hlocks
end
end
section
/-! the reference's words as functions of natural numbers -/
/-- the kind of a piece -/
def kd (k : Nat) : Nat := if k < 7 then k else k - 6
/-- how far apart -/
def ap (a b : Nat) : Nat := if b < a then a - b else b - a
/-- the side of a piece: 2 for none -/
def sdN (k : Nat) : Nat := if k = 0 then 2 else if k < 7 then 0 else 1
def sdI (k : Nat) : Int32 := if k = 0 then -1 else nI (if k < 7 then 0 else 1)
theorem sdI_eq {k w : Nat} (hw : w < 2) : sdI k = nI w ↔ sdN k = w := by
  unfold sdI sdN
  by_cases h : k = 0
  · simp only [h, if_true]
    constructor
    · intro e
      have : w = 0 ∨ w = 1 := by omega
      rcases this with rfl | rfl
      · exact absurd e (by decide)
      · exact absurd e (by decide)
    · intro e; omega
  · simp only [h, if_false]
    exact nI_eq (by split <;> omega) (by omega)
def crn (s : Nat) : Nat := if s = 7 then 1 else if s = 0 then 2 else if s = 63 then 4 else if s = 56 then 8 else 0
def hmf (f : Nat) : Nat := if f = 0 ∨ f = 7 then 4 else if f = 1 ∨ f = 6 then 2 else if f = 2 ∨ f = 5 then 3 else if f = 3 then 5 else 6
theorem kd_lt {k : Nat} (h : k < 13) : kd k < 7 := by unfold kd; split <;> omega
theorem ap_lt {a b n : Nat} (h : a < n) (h2 : b < n) : ap a b < n := by unfold ap; split <;> omega
/-- a step's sign, as an Int -/
def sgn (a b : Nat) : Int := if a < b then 1 else if b < a then -1 else 0
/-- square i on the way from f to t -/
def pt (f t i : Nat) : Nat := ((f : Int) + i * (8 * sgn (f / 8) (t / 8) + sgn (f % 8) (t % 8))).toNat
def far (f t : Nat) : Nat := max (ap (f % 8) (t % 8)) (ap (f / 8) (t / 8))
def lined (f t : Nat) : Bool := decide (f ≠ t) && (decide (f % 8 = t % 8) || decide (f / 8 = t / 8) || decide (ap (f % 8) (t % 8) = ap (f / 8) (t / 8)))
/-- all squares between are empty -/
def freN (bd : Nat → Nat) (f t n : Nat) : Bool := (List.range n).all fun i => i = 0 || bd (pt f t i) == 0
def fre (bd : Nat → Nat) (f t : Nat) : Bool := freN bd f t (far f t)
def atk (bd : Nat → Nat) (f t : Nat) : Bool :=
  if kd (bd f) = 0 ∨ f = t then false
  else if kd (bd f) = 1 then decide (ap (f % 8) (t % 8) = 1 ∧ if bd f = 1 then t / 8 = f / 8 + 1 else f / 8 = t / 8 + 1)
  else if kd (bd f) = 2 then decide (ap (f % 8) (t % 8) * ap (f / 8) (t / 8) = 2)
  else if kd (bd f) = 6 then decide (ap (f % 8) (t % 8) < 2 ∧ ap (f / 8) (t / 8) < 2)
  else (if ap (f % 8) (t % 8) = 0 ∨ ap (f / 8) (t / 8) = 0 then decide (kd (bd f) ≠ 3) else decide (ap (f % 8) (t % 8) = ap (f / 8) (t / 8) ∧ kd (bd f) ≠ 4)) && fre bd f t
def isq (x : Int32) : Bool := decide (0 ≤ x.toInt ∧ x.toInt < 64)
theorem isq_f1 {x : Int32} (h : x < 0) : isq x = false := by
  have h1 := Int32.lt_iff_toInt_lt.mp h
  have h0 : (0 : Int32).toInt = 0 := rfl
  exact decide_eq_false (by omega)
theorem isq_f2 {x : Int32} (h : nI 64 ≤ x) : isq x = false := by
  have h1 := Int32.le_iff_toInt_le.mp h
  have h0 : (nI 64).toInt = 64 := rfl
  exact decide_eq_false (by omega)
theorem isq_t {x : Int32} (h : ¬ x < 0) (h2 : ¬ nI 64 ≤ x) : isq x = true := by
  rw [Int32.lt_iff_toInt_lt] at h
  rw [Int32.le_iff_toInt_le] at h2
  have h0 : (0 : Int32).toInt = 0 := rfl
  have h1 : (nI 64).toInt = 64 := rfl
  exact decide_eq_true (by omega)
theorem isq_n {n : Nat} (h : n < 2 ^ 31) : isq (nI n) = decide (n < 64) := by
  unfold isq
  rw [nI_toInt h]
  exact decide_eq_decide.mpr (by omega)
theorem isq_of {x : Int32} (h : isq x = true) : ∃ n, n < 64 ∧ x = nI n := by
  have h := of_decide_eq_true h
  have hx : ¬ x < 0 := by rw [Int32.lt_iff_toInt_lt]; have h0 : (0 : Int32).toInt = 0 := rfl; omega
  obtain ⟨j, hj, rfl⟩ := nI_of hx
  rw [nI_toInt hj] at h
  exact ⟨j, by omega, rfl⟩
end
section
theorem dX5_isSquare_0 : decode cX5_isSquare 0 = .ok (.iload_n 0, 1) := by decide +kernel
theorem dX5_isSquare_1 : decode cX5_isSquare 1 = .ok (.ifCond .lt 13, 3) := by decide +kernel
theorem dX5_isSquare_4 : decode cX5_isSquare 4 = .ok (.iload_n 0, 1) := by decide +kernel
theorem dX5_isSquare_5 : decode cX5_isSquare 5 = .ok (.bipush 64, 2) := by decide +kernel
theorem dX5_isSquare_7 : decode cX5_isSquare 7 = .ok (.if_icmp .ge 7, 3) := by decide +kernel
theorem dX5_isSquare_10 : decode cX5_isSquare 10 = .ok (.iconst 1, 1) := by decide +kernel
theorem dX5_isSquare_11 : decode cX5_isSquare 11 = .ok (.goto 4, 3) := by decide +kernel
theorem dX5_isSquare_14 : decode cX5_isSquare 14 = .ok (.iconst 0, 1) := by decide +kernel
theorem dX5_isSquare_15 : decode cX5_isSquare 15 = .ok (.ireturn, 1) := by decide +kernel
theorem hd_X5_isSquare : yX5_isSquare.cls ≠ "java/lang/invoke/MethodHandle" ∧ yX5_isSquare.cls ≠ "java/lang/invoke/VarHandle" ∧ (parseMethodDescriptor yX5_isSquare.desc).map (fun d => d.parameters.length) = some 1 := by decide +kernel
set_option maxHeartbeats 4000000 in
set_option maxRecDepth 100000 in
/-- isSquare -/
theorem c_X5_isSquare (l : Launch) (x : Int32) : Met l yX5_isSquare (Cond.code yX5_isSquare cX5_isSquare 1 (some .boolean) :: wsL_law) (rK 0) (va_Pc [.int x] (fun _ => True)) (vp_Si (fun r => r = bI (isq x))) 0 0 (fun _ => False) := by
  refine entM (by decide) (Nat.le_of_ble_eq_true rfl) ?_
  intro p e s m below meth c ls S0 hr hlocks hG hnm hB hl
  have hx := S0.1
  have hb := S0.2.1
  have hown := S0.2.2.2.1
  have hl : lv_has ls 1 [(0, .int x)] := hl
  refine lv_iload_n hx hb dX5_isSquare_0 rfl (lv_at hl 0 rfl) ?_
  refine lv_if_lt (tgt := 14) hx hb dX5_isSquare_1 (by decide) (fun c_1 => ?_) (fun c_1 => ?_)
  · skip
    refine lv_iconst (v := (nI 0)) hx hb dX5_isSquare_14 (by decide) ?_
    exact reZ (v := false) hx hb hr hlocks dX5_isSquare_15 (congrArg bI (by first | exact (isq_t (by assumption) (by assumption)).symm | exact (isq_f1 (by assumption)).symm | exact (isq_f2 (by assumption)).symm))
  · skip
    refine lv_iload_n hx hb dX5_isSquare_4 rfl (lv_at hl 0 rfl) ?_
    refine lv_bipush (v := (nI 64)) hx hb dX5_isSquare_5 (by decide) ?_
    refine lv_icmp_ge (tgt := 14) hx hb dX5_isSquare_7 (by decide) (fun c_2 => ?_) (fun c_2 => ?_)
    · skip
      refine lv_iconst (v := (nI 0)) hx hb dX5_isSquare_14 (by decide) ?_
      exact reZ (v := false) hx hb hr hlocks dX5_isSquare_15 (congrArg bI (by first | exact (isq_t (by assumption) (by assumption)).symm | exact (isq_f1 (by assumption)).symm | exact (isq_f2 (by assumption)).symm))
    · skip
      refine lv_iconst (v := (nI 1)) hx hb dX5_isSquare_10 (by decide) ?_
      refine lv_goto (tgt := 15) hx hb dX5_isSquare_11 (by decide) ?_
      exact reZ (v := true) hx hb hr hlocks dX5_isSquare_15 (congrArg bI (by first | exact (isq_t (by assumption) (by assumption)).symm | exact (isq_f1 (by assumption)).symm | exact (isq_f2 (by assumption)).symm))
theorem dX5_sideOf_0 : decode cX5_sideOf 0 = .ok (.iload_n 0, 1) := by decide +kernel
theorem dX5_sideOf_1 : decode cX5_sideOf 1 = .ok (.ifCond .ne 7, 3) := by decide +kernel
theorem dX5_sideOf_4 : decode cX5_sideOf 4 = .ok (.iconst (-1), 1) := by decide +kernel
theorem dX5_sideOf_5 : decode cX5_sideOf 5 = .ok (.goto 14, 3) := by decide +kernel
theorem dX5_sideOf_8 : decode cX5_sideOf 8 = .ok (.iload_n 0, 1) := by decide +kernel
theorem dX5_sideOf_9 : decode cX5_sideOf 9 = .ok (.bipush 7, 2) := by decide +kernel
theorem dX5_sideOf_11 : decode cX5_sideOf 11 = .ok (.if_icmp .ge 7, 3) := by decide +kernel
theorem dX5_sideOf_14 : decode cX5_sideOf 14 = .ok (.iconst 0, 1) := by decide +kernel
theorem dX5_sideOf_15 : decode cX5_sideOf 15 = .ok (.goto 4, 3) := by decide +kernel
theorem dX5_sideOf_18 : decode cX5_sideOf 18 = .ok (.iconst 1, 1) := by decide +kernel
theorem dX5_sideOf_19 : decode cX5_sideOf 19 = .ok (.ireturn, 1) := by decide +kernel
theorem hd_X5_sideOf : yX5_sideOf.cls ≠ "java/lang/invoke/MethodHandle" ∧ yX5_sideOf.cls ≠ "java/lang/invoke/VarHandle" ∧ (parseMethodDescriptor yX5_sideOf.desc).map (fun d => d.parameters.length) = some 1 := by decide +kernel
set_option maxHeartbeats 4000000 in
set_option maxRecDepth 100000 in
/-- sideOf -/
theorem c_X5_sideOf (l : Launch) (k : Nat) (hk : k < 13) : Met l yX5_sideOf (Cond.code yX5_sideOf cX5_sideOf 1 (some .int) :: wsL_law) (rK 0) (va_Pc [.int (nI k)] (fun _ => True)) (vp_Si (fun r => r = sdI k)) 0 0 (fun _ => False) := by
  refine entM (by decide) (Nat.le_of_ble_eq_true rfl) ?_
  intro p e s m below meth c ls S0 hr hlocks hG hnm hB hl
  have hx := S0.1
  have hb := S0.2.1
  have hown := S0.2.2.2.1
  have hl : lv_has ls 1 [(0, .int (nI k))] := hl
  refine lv_iload_n hx hb dX5_sideOf_0 rfl (lv_at hl 0 rfl) ?_
  refine ln_if_ne (tgt := 8) hx hb dX5_sideOf_1 (by decide) (by omega) (fun c_1 => ?_) (fun c_1 => ?_)
  · skip
    refine lv_iload_n hx hb dX5_sideOf_8 rfl (lv_at hl 0 rfl) ?_
    refine lv_bipush (v := (nI 7)) hx hb dX5_sideOf_9 (by decide) ?_
    refine ln_icmp_ge (tgt := 18) hx hb dX5_sideOf_11 (by decide) (by omega) (by decide) (fun c_2 => ?_) (fun c_2 => ?_)
    · skip
      refine lv_iconst (v := (nI 1)) hx hb dX5_sideOf_18 (by decide) ?_
      exact reI hx hb hr hlocks dX5_sideOf_19 (by unfold sdI; (repeat' split) <;> first | rfl | omega)
    · skip
      refine lv_iconst (v := (nI 0)) hx hb dX5_sideOf_14 (by decide) ?_
      refine lv_goto (tgt := 19) hx hb dX5_sideOf_15 (by decide) ?_
      exact reI hx hb hr hlocks dX5_sideOf_19 (by unfold sdI; (repeat' split) <;> first | rfl | omega)
  · skip
    refine lv_iconst (v := (-1)) hx hb dX5_sideOf_4 (by decide) ?_
    refine lv_goto (tgt := 19) hx hb dX5_sideOf_5 (by decide) ?_
    exact reI hx hb hr hlocks dX5_sideOf_19 (by unfold sdI; (repeat' split) <;> first | rfl | omega)
theorem dX5_kindOf_0 : decode cX5_kindOf 0 = .ok (.iload_n 0, 1) := by decide +kernel
theorem dX5_kindOf_1 : decode cX5_kindOf 1 = .ok (.bipush 7, 2) := by decide +kernel
theorem dX5_kindOf_3 : decode cX5_kindOf 3 = .ok (.if_icmp .ge 7, 3) := by decide +kernel
theorem dX5_kindOf_6 : decode cX5_kindOf 6 = .ok (.iload_n 0, 1) := by decide +kernel
theorem dX5_kindOf_7 : decode cX5_kindOf 7 = .ok (.goto 7, 3) := by decide +kernel
theorem dX5_kindOf_10 : decode cX5_kindOf 10 = .ok (.iload_n 0, 1) := by decide +kernel
theorem dX5_kindOf_11 : decode cX5_kindOf 11 = .ok (.bipush 6, 2) := by decide +kernel
theorem dX5_kindOf_13 : decode cX5_kindOf 13 = .ok (.isub, 1) := by decide +kernel
theorem dX5_kindOf_14 : decode cX5_kindOf 14 = .ok (.ireturn, 1) := by decide +kernel
theorem hd_X5_kindOf : yX5_kindOf.cls ≠ "java/lang/invoke/MethodHandle" ∧ yX5_kindOf.cls ≠ "java/lang/invoke/VarHandle" ∧ (parseMethodDescriptor yX5_kindOf.desc).map (fun d => d.parameters.length) = some 1 := by decide +kernel
set_option maxHeartbeats 4000000 in
set_option maxRecDepth 100000 in
/-- kindOf -/
theorem c_X5_kindOf (l : Launch) (k : Nat) (hk : k < 13) : Met l yX5_kindOf (Cond.code yX5_kindOf cX5_kindOf 1 (some .int) :: wsL_law) (rK 0) (va_Pc [.int (nI k)] (fun _ => True)) (vp_Si (fun r => r = nI (kd k))) 0 0 (fun _ => False) := by
  refine entM (by decide) (Nat.le_of_ble_eq_true rfl) ?_
  intro p e s m below meth c ls S0 hr hlocks hG hnm hB hl
  have hx := S0.1
  have hb := S0.2.1
  have hown := S0.2.2.2.1
  have hl : lv_has ls 1 [(0, .int (nI k))] := hl
  refine lv_iload_n hx hb dX5_kindOf_0 rfl (lv_at hl 0 rfl) ?_
  refine lv_bipush (v := (nI 7)) hx hb dX5_kindOf_1 (by decide) ?_
  refine ln_icmp_ge (tgt := 10) hx hb dX5_kindOf_3 (by decide) (by omega) (by decide) (fun c_1 => ?_) (fun c_1 => ?_)
  · skip
    refine lv_iload_n hx hb dX5_kindOf_10 rfl (lv_at hl 0 rfl) ?_
    refine lv_bipush (v := (nI 6)) hx hb dX5_kindOf_11 (by decide) ?_
    refine ln_isub hx hb dX5_kindOf_13 (by omega) ?_
    exact reI hx hb hr hlocks dX5_kindOf_14 (by unfold kd; exact congrArg nI (by (repeat' split) <;> omega))
  · skip
    refine lv_iload_n hx hb dX5_kindOf_6 rfl (lv_at hl 0 rfl) ?_
    refine lv_goto (tgt := 14) hx hb dX5_kindOf_7 (by decide) ?_
    exact reI hx hb hr hlocks dX5_kindOf_14 (by unfold kd; exact congrArg nI (by (repeat' split) <;> omega))
theorem dX5_apart_0 : decode cX5_apart 0 = .ok (.iload_n 0, 1) := by decide +kernel
theorem dX5_apart_1 : decode cX5_apart 1 = .ok (.iload_n 1, 1) := by decide +kernel
theorem dX5_apart_2 : decode cX5_apart 2 = .ok (.if_icmp .le 9, 3) := by decide +kernel
theorem dX5_apart_5 : decode cX5_apart 5 = .ok (.iload_n 0, 1) := by decide +kernel
theorem dX5_apart_6 : decode cX5_apart 6 = .ok (.iload_n 1, 1) := by decide +kernel
theorem dX5_apart_7 : decode cX5_apart 7 = .ok (.isub, 1) := by decide +kernel
theorem dX5_apart_8 : decode cX5_apart 8 = .ok (.goto 6, 3) := by decide +kernel
theorem dX5_apart_11 : decode cX5_apart 11 = .ok (.iload_n 1, 1) := by decide +kernel
theorem dX5_apart_12 : decode cX5_apart 12 = .ok (.iload_n 0, 1) := by decide +kernel
theorem dX5_apart_13 : decode cX5_apart 13 = .ok (.isub, 1) := by decide +kernel
theorem dX5_apart_14 : decode cX5_apart 14 = .ok (.ireturn, 1) := by decide +kernel
theorem hd_X5_apart : yX5_apart.cls ≠ "java/lang/invoke/MethodHandle" ∧ yX5_apart.cls ≠ "java/lang/invoke/VarHandle" ∧ (parseMethodDescriptor yX5_apart.desc).map (fun d => d.parameters.length) = some 2 := by decide +kernel
set_option maxHeartbeats 4000000 in
set_option maxRecDepth 100000 in
/-- apart -/
theorem c_X5_apart (l : Launch) (a b : Nat) (ha : a < 64) (hb9 : b < 64) : Met l yX5_apart (Cond.code yX5_apart cX5_apart 2 (some .int) :: wsL_law) (rK 0) (va_Pc [.int (nI a), .int (nI b)] (fun _ => True)) (vp_Si (fun r => r = nI (ap a b))) 0 0 (fun _ => False) := by
  refine entM (by decide) (Nat.le_of_ble_eq_true rfl) ?_
  intro p e s m below meth c ls S0 hr hlocks hG hnm hB hl
  have hx := S0.1
  have hb := S0.2.1
  have hown := S0.2.2.2.1
  have hl : lv_has ls 2 [(0, .int (nI a)), (1, .int (nI b))] := hl
  refine lv_iload_n hx hb dX5_apart_0 rfl (lv_at hl 0 rfl) ?_
  refine lv_iload_n hx hb dX5_apart_1 rfl (lv_at hl 1 rfl) ?_
  refine ln_icmp_le (tgt := 11) hx hb dX5_apart_2 (by decide) (by omega) (by omega) (fun c_1 => ?_) (fun c_1 => ?_)
  · skip
    refine lv_iload_n hx hb dX5_apart_11 rfl (lv_at hl 1 rfl) ?_
    refine lv_iload_n hx hb dX5_apart_12 rfl (lv_at hl 0 rfl) ?_
    refine ln_isub hx hb dX5_apart_13 (by omega) ?_
    exact reI hx hb hr hlocks dX5_apart_14 (by unfold ap; exact congrArg nI (by (repeat' split) <;> omega))
  · skip
    refine lv_iload_n hx hb dX5_apart_5 rfl (lv_at hl 0 rfl) ?_
    refine lv_iload_n hx hb dX5_apart_6 rfl (lv_at hl 1 rfl) ?_
    refine ln_isub hx hb dX5_apart_7 (by omega) ?_
    refine lv_goto (tgt := 14) hx hb dX5_apart_8 (by decide) ?_
    exact reI hx hb hr hlocks dX5_apart_14 (by unfold ap; exact congrArg nI (by (repeat' split) <;> omega))
theorem dX5_home_0 : decode cX5_home 0 = .ok (.iload_n 0, 1) := by decide +kernel
theorem dX5_home_1 : decode cX5_home 1 = .ok (.ifCond .eq 9, 3) := by decide +kernel
theorem dX5_home_4 : decode cX5_home 4 = .ok (.iload_n 0, 1) := by decide +kernel
theorem dX5_home_5 : decode cX5_home 5 = .ok (.bipush 7, 2) := by decide +kernel
theorem dX5_home_7 : decode cX5_home 7 = .ok (.if_icmp .ne 7, 3) := by decide +kernel
theorem dX5_home_10 : decode cX5_home 10 = .ok (.iconst 4, 1) := by decide +kernel
theorem dX5_home_11 : decode cX5_home 11 = .ok (.goto 43, 3) := by decide +kernel
theorem dX5_home_14 : decode cX5_home 14 = .ok (.iload_n 0, 1) := by decide +kernel
theorem dX5_home_15 : decode cX5_home 15 = .ok (.iconst 1, 1) := by decide +kernel
theorem dX5_home_16 : decode cX5_home 16 = .ok (.if_icmp .eq 9, 3) := by decide +kernel
theorem dX5_home_19 : decode cX5_home 19 = .ok (.iload_n 0, 1) := by decide +kernel
theorem dX5_home_20 : decode cX5_home 20 = .ok (.bipush 6, 2) := by decide +kernel
theorem dX5_home_22 : decode cX5_home 22 = .ok (.if_icmp .ne 7, 3) := by decide +kernel
theorem dX5_home_25 : decode cX5_home 25 = .ok (.iconst 2, 1) := by decide +kernel
theorem dX5_home_26 : decode cX5_home 26 = .ok (.goto 28, 3) := by decide +kernel
theorem dX5_home_29 : decode cX5_home 29 = .ok (.iload_n 0, 1) := by decide +kernel
theorem dX5_home_30 : decode cX5_home 30 = .ok (.iconst 2, 1) := by decide +kernel
theorem dX5_home_31 : decode cX5_home 31 = .ok (.if_icmp .eq 8, 3) := by decide +kernel
theorem dX5_home_34 : decode cX5_home 34 = .ok (.iload_n 0, 1) := by decide +kernel
theorem dX5_home_35 : decode cX5_home 35 = .ok (.iconst 5, 1) := by decide +kernel
theorem dX5_home_36 : decode cX5_home 36 = .ok (.if_icmp .ne 7, 3) := by decide +kernel
theorem dX5_home_39 : decode cX5_home 39 = .ok (.iconst 3, 1) := by decide +kernel
theorem dX5_home_40 : decode cX5_home 40 = .ok (.goto 14, 3) := by decide +kernel
theorem dX5_home_43 : decode cX5_home 43 = .ok (.iload_n 0, 1) := by decide +kernel
theorem dX5_home_44 : decode cX5_home 44 = .ok (.iconst 3, 1) := by decide +kernel
theorem dX5_home_45 : decode cX5_home 45 = .ok (.if_icmp .ne 7, 3) := by decide +kernel
theorem dX5_home_48 : decode cX5_home 48 = .ok (.iconst 5, 1) := by decide +kernel
theorem dX5_home_49 : decode cX5_home 49 = .ok (.goto 5, 3) := by decide +kernel
theorem dX5_home_52 : decode cX5_home 52 = .ok (.bipush 6, 2) := by decide +kernel
theorem dX5_home_54 : decode cX5_home 54 = .ok (.ireturn, 1) := by decide +kernel
theorem hd_X5_home : yX5_home.cls ≠ "java/lang/invoke/MethodHandle" ∧ yX5_home.cls ≠ "java/lang/invoke/VarHandle" ∧ (parseMethodDescriptor yX5_home.desc).map (fun d => d.parameters.length) = some 1 := by decide +kernel
set_option maxHeartbeats 4000000 in
set_option maxRecDepth 100000 in
/-- home -/
theorem c_X5_home (l : Launch) (f : Nat) (hf : f < 8) : Met l yX5_home (Cond.code yX5_home cX5_home 1 (some .int) :: wsL_law) (rK 0) (va_Pc [.int (nI f)] (fun _ => True)) (vp_Si (fun r => r = nI (hmf f))) 0 0 (fun _ => False) := by
  refine entM (by decide) (Nat.le_of_ble_eq_true rfl) ?_
  intro p e s m below meth c ls S0 hr hlocks hG hnm hB hl
  have hx := S0.1
  have hb := S0.2.1
  have hown := S0.2.2.2.1
  have hl : lv_has ls 1 [(0, .int (nI f))] := hl
  refine lv_iload_n hx hb dX5_home_0 rfl (lv_at hl 0 rfl) ?_
  refine ln_if_eq (tgt := 10) hx hb dX5_home_1 (by decide) (by omega) (fun c_1 => ?_) (fun c_1 => ?_)
  · skip
    refine lv_iconst (v := (nI 4)) hx hb dX5_home_10 (by decide) ?_
    refine lv_goto (tgt := 54) hx hb dX5_home_11 (by decide) ?_
    exact reI hx hb hr hlocks dX5_home_54 (by unfold hmf; exact congrArg nI (by (repeat' split) <;> omega))
  · skip
    refine lv_iload_n hx hb dX5_home_4 rfl (lv_at hl 0 rfl) ?_
    refine lv_bipush (v := (nI 7)) hx hb dX5_home_5 (by decide) ?_
    refine ln_icmp_ne (tgt := 14) hx hb dX5_home_7 (by decide) (by omega) (by decide) (fun c_2 => ?_) (fun c_2 => ?_)
    · skip
      refine lv_iload_n hx hb dX5_home_14 rfl (lv_at hl 0 rfl) ?_
      refine lv_iconst (v := (nI 1)) hx hb dX5_home_15 (by decide) ?_
      refine ln_icmp_eq (tgt := 25) hx hb dX5_home_16 (by decide) (by omega) (by decide) (fun c_3 => ?_) (fun c_3 => ?_)
      · skip
        refine lv_iconst (v := (nI 2)) hx hb dX5_home_25 (by decide) ?_
        refine lv_goto (tgt := 54) hx hb dX5_home_26 (by decide) ?_
        exact reI hx hb hr hlocks dX5_home_54 (by unfold hmf; exact congrArg nI (by (repeat' split) <;> omega))
      · skip
        refine lv_iload_n hx hb dX5_home_19 rfl (lv_at hl 0 rfl) ?_
        refine lv_bipush (v := (nI 6)) hx hb dX5_home_20 (by decide) ?_
        refine ln_icmp_ne (tgt := 29) hx hb dX5_home_22 (by decide) (by omega) (by decide) (fun c_4 => ?_) (fun c_4 => ?_)
        · skip
          refine lv_iload_n hx hb dX5_home_29 rfl (lv_at hl 0 rfl) ?_
          refine lv_iconst (v := (nI 2)) hx hb dX5_home_30 (by decide) ?_
          refine ln_icmp_eq (tgt := 39) hx hb dX5_home_31 (by decide) (by omega) (by decide) (fun c_5 => ?_) (fun c_5 => ?_)
          · skip
            refine lv_iconst (v := (nI 3)) hx hb dX5_home_39 (by decide) ?_
            refine lv_goto (tgt := 54) hx hb dX5_home_40 (by decide) ?_
            exact reI hx hb hr hlocks dX5_home_54 (by unfold hmf; exact congrArg nI (by (repeat' split) <;> omega))
          · skip
            refine lv_iload_n hx hb dX5_home_34 rfl (lv_at hl 0 rfl) ?_
            refine lv_iconst (v := (nI 5)) hx hb dX5_home_35 (by decide) ?_
            refine ln_icmp_ne (tgt := 43) hx hb dX5_home_36 (by decide) (by omega) (by decide) (fun c_6 => ?_) (fun c_6 => ?_)
            · skip
              refine lv_iload_n hx hb dX5_home_43 rfl (lv_at hl 0 rfl) ?_
              refine lv_iconst (v := (nI 3)) hx hb dX5_home_44 (by decide) ?_
              refine ln_icmp_ne (tgt := 52) hx hb dX5_home_45 (by decide) (by omega) (by decide) (fun c_7 => ?_) (fun c_7 => ?_)
              · skip
                refine lv_bipush (v := (nI 6)) hx hb dX5_home_52 (by decide) ?_
                exact reI hx hb hr hlocks dX5_home_54 (by unfold hmf; exact congrArg nI (by (repeat' split) <;> omega))
              · skip
                refine lv_iconst (v := (nI 5)) hx hb dX5_home_48 (by decide) ?_
                refine lv_goto (tgt := 54) hx hb dX5_home_49 (by decide) ?_
                exact reI hx hb hr hlocks dX5_home_54 (by unfold hmf; exact congrArg nI (by (repeat' split) <;> omega))
            · skip
              refine lv_iconst (v := (nI 3)) hx hb dX5_home_39 (by decide) ?_
              refine lv_goto (tgt := 54) hx hb dX5_home_40 (by decide) ?_
              exact reI hx hb hr hlocks dX5_home_54 (by unfold hmf; exact congrArg nI (by (repeat' split) <;> omega))
        · skip
          refine lv_iconst (v := (nI 2)) hx hb dX5_home_25 (by decide) ?_
          refine lv_goto (tgt := 54) hx hb dX5_home_26 (by decide) ?_
          exact reI hx hb hr hlocks dX5_home_54 (by unfold hmf; exact congrArg nI (by (repeat' split) <;> omega))
    · skip
      refine lv_iconst (v := (nI 4)) hx hb dX5_home_10 (by decide) ?_
      refine lv_goto (tgt := 54) hx hb dX5_home_11 (by decide) ?_
      exact reI hx hb hr hlocks dX5_home_54 (by unfold hmf; exact congrArg nI (by (repeat' split) <;> omega))
theorem dX5_corner_0 : decode cX5_corner 0 = .ok (.iload_n 0, 1) := by decide +kernel
theorem dX5_corner_1 : decode cX5_corner 1 = .ok (.bipush 7, 2) := by decide +kernel
theorem dX5_corner_3 : decode cX5_corner 3 = .ok (.if_icmp .ne 7, 3) := by decide +kernel
theorem dX5_corner_6 : decode cX5_corner 6 = .ok (.iconst 1, 1) := by decide +kernel
theorem dX5_corner_7 : decode cX5_corner 7 = .ok (.goto 33, 3) := by decide +kernel
theorem dX5_corner_10 : decode cX5_corner 10 = .ok (.iload_n 0, 1) := by decide +kernel
theorem dX5_corner_11 : decode cX5_corner 11 = .ok (.ifCond .ne 7, 3) := by decide +kernel
theorem dX5_corner_14 : decode cX5_corner 14 = .ok (.iconst 2, 1) := by decide +kernel
theorem dX5_corner_15 : decode cX5_corner 15 = .ok (.goto 25, 3) := by decide +kernel
theorem dX5_corner_18 : decode cX5_corner 18 = .ok (.iload_n 0, 1) := by decide +kernel
theorem dX5_corner_19 : decode cX5_corner 19 = .ok (.bipush 63, 2) := by decide +kernel
theorem dX5_corner_21 : decode cX5_corner 21 = .ok (.if_icmp .ne 7, 3) := by decide +kernel
theorem dX5_corner_24 : decode cX5_corner 24 = .ok (.iconst 4, 1) := by decide +kernel
theorem dX5_corner_25 : decode cX5_corner 25 = .ok (.goto 15, 3) := by decide +kernel
theorem dX5_corner_28 : decode cX5_corner 28 = .ok (.iload_n 0, 1) := by decide +kernel
theorem dX5_corner_29 : decode cX5_corner 29 = .ok (.bipush 56, 2) := by decide +kernel
theorem dX5_corner_31 : decode cX5_corner 31 = .ok (.if_icmp .ne 8, 3) := by decide +kernel
theorem dX5_corner_34 : decode cX5_corner 34 = .ok (.bipush 8, 2) := by decide +kernel
theorem dX5_corner_36 : decode cX5_corner 36 = .ok (.goto 4, 3) := by decide +kernel
theorem dX5_corner_39 : decode cX5_corner 39 = .ok (.iconst 0, 1) := by decide +kernel
theorem dX5_corner_40 : decode cX5_corner 40 = .ok (.ireturn, 1) := by decide +kernel
theorem hd_X5_corner : yX5_corner.cls ≠ "java/lang/invoke/MethodHandle" ∧ yX5_corner.cls ≠ "java/lang/invoke/VarHandle" ∧ (parseMethodDescriptor yX5_corner.desc).map (fun d => d.parameters.length) = some 1 := by decide +kernel
set_option maxHeartbeats 4000000 in
set_option maxRecDepth 100000 in
/-- corner -/
theorem c_X5_corner (l : Launch) (q : Nat) (hq : q < 64) : Met l yX5_corner (Cond.code yX5_corner cX5_corner 1 (some .int) :: wsL_law) (rK 0) (va_Pc [.int (nI q)] (fun _ => True)) (vp_Si (fun r => r = nI (crn q))) 0 0 (fun _ => False) := by
  refine entM (by decide) (Nat.le_of_ble_eq_true rfl) ?_
  intro p e s m below meth c ls S0 hr hlocks hG hnm hB hl
  have hx := S0.1
  have hb := S0.2.1
  have hown := S0.2.2.2.1
  have hl : lv_has ls 1 [(0, .int (nI q))] := hl
  refine lv_iload_n hx hb dX5_corner_0 rfl (lv_at hl 0 rfl) ?_
  refine lv_bipush (v := (nI 7)) hx hb dX5_corner_1 (by decide) ?_
  refine ln_icmp_ne (tgt := 10) hx hb dX5_corner_3 (by decide) (by omega) (by decide) (fun c_1 => ?_) (fun c_1 => ?_)
  · skip
    refine lv_iload_n hx hb dX5_corner_10 rfl (lv_at hl 0 rfl) ?_
    refine ln_if_ne (tgt := 18) hx hb dX5_corner_11 (by decide) (by omega) (fun c_2 => ?_) (fun c_2 => ?_)
    · skip
      refine lv_iload_n hx hb dX5_corner_18 rfl (lv_at hl 0 rfl) ?_
      refine lv_bipush (v := (nI 63)) hx hb dX5_corner_19 (by decide) ?_
      refine ln_icmp_ne (tgt := 28) hx hb dX5_corner_21 (by decide) (by omega) (by decide) (fun c_3 => ?_) (fun c_3 => ?_)
      · skip
        refine lv_iload_n hx hb dX5_corner_28 rfl (lv_at hl 0 rfl) ?_
        refine lv_bipush (v := (nI 56)) hx hb dX5_corner_29 (by decide) ?_
        refine ln_icmp_ne (tgt := 39) hx hb dX5_corner_31 (by decide) (by omega) (by decide) (fun c_4 => ?_) (fun c_4 => ?_)
        · skip
          refine lv_iconst (v := (nI 0)) hx hb dX5_corner_39 (by decide) ?_
          exact reI hx hb hr hlocks dX5_corner_40 (by unfold crn; exact congrArg nI (by (repeat' split) <;> omega))
        · skip
          refine lv_bipush (v := (nI 8)) hx hb dX5_corner_34 (by decide) ?_
          refine lv_goto (tgt := 40) hx hb dX5_corner_36 (by decide) ?_
          exact reI hx hb hr hlocks dX5_corner_40 (by unfold crn; exact congrArg nI (by (repeat' split) <;> omega))
      · skip
        refine lv_iconst (v := (nI 4)) hx hb dX5_corner_24 (by decide) ?_
        refine lv_goto (tgt := 40) hx hb dX5_corner_25 (by decide) ?_
        exact reI hx hb hr hlocks dX5_corner_40 (by unfold crn; exact congrArg nI (by (repeat' split) <;> omega))
    · skip
      refine lv_iconst (v := (nI 2)) hx hb dX5_corner_14 (by decide) ?_
      refine lv_goto (tgt := 40) hx hb dX5_corner_15 (by decide) ?_
      exact reI hx hb hr hlocks dX5_corner_40 (by unfold crn; exact congrArg nI (by (repeat' split) <;> omega))
  · skip
    refine lv_iconst (v := (nI 1)) hx hb dX5_corner_6 (by decide) ?_
    refine lv_goto (tgt := 40) hx hb dX5_corner_7 (by decide) ?_
    exact reI hx hb hr hlocks dX5_corner_40 (by unfold crn; exact congrArg nI (by (repeat' split) <;> omega))
end
section
/-! squares on a line -/
def sgI (a b : Nat) : Int32 := if a < b then 1 else if b < a then -1 else 0
def stI (f t : Nat) : Int32 := nI 8 * sgI (f / 8) (t / 8) + sgI (f % 8) (t % 8)
set_option maxRecDepth 100000 in
theorem pt_chk : ((List.range 64).all fun f => (List.range 64).all fun t => !lined f t || (((List.range (far f t)).all fun i => decide (pt f t i < 64) && decide (nI (pt f t i) + stI f t = nI (pt f t (i + 1))) && decide (pt f t i ≠ t)) && decide (pt f t (far f t) = t) && decide (1 ≤ far f t) && decide (far f t ≤ 7) && decide (pt f t 0 = f))) = true := by decide +kernel
theorem all_lt {n : Nat} {p : Nat → Bool} (h : (List.range n).all p = true) {i : Nat} (hi : i < n) : p i = true := List.all_eq_true.mp h i (List.mem_range.mpr hi)
theorem pt_all {f t : Nat} (hf : f < 64) (ht : t < 64) (hl : lined f t = true) : (∀ i, i < far f t → pt f t i < 64 ∧ nI (pt f t i) + stI f t = nI (pt f t (i + 1)) ∧ pt f t i ≠ t) ∧ pt f t (far f t) = t ∧ 1 ≤ far f t ∧ far f t ≤ 7 ∧ pt f t 0 = f := by
  have h := all_lt (all_lt pt_chk hf) ht
  rw [hl] at h
  simp only [Bool.not_true, Bool.false_or, Bool.and_eq_true, decide_eq_true_eq] at h
  obtain ⟨⟨⟨⟨h1, h2⟩, h3⟩, h4⟩, h5⟩ := h
  refine ⟨fun i hi => ?_, h2, h3, h4, h5⟩
  have h6 := all_lt h1 hi
  simp only [Bool.and_eq_true, decide_eq_true_eq] at h6
  exact ⟨h6.1.1, h6.1.2, h6.2⟩
theorem pt_lt {f t i : Nat} (hf : f < 64) (ht : t < 64) (hl : lined f t = true) (hi : i ≤ far f t) : pt f t i < 64 := by
  obtain ⟨h1, h2, -⟩ := pt_all hf ht hl
  rcases Nat.lt_or_eq_of_le hi with h | h
  · exact (h1 i h).1
  · rw [h, h2]; exact ht
theorem pt_end {f t i : Nat} (hf : f < 64) (ht : t < 64) (hl : lined f t = true) (hi : i ≤ far f t) (h : pt f t i = t) : i = far f t := by
  obtain ⟨h1, h2, -⟩ := pt_all hf ht hl
  rcases Nat.lt_or_eq_of_le hi with h3 | h3
  · exact absurd h (h1 i h3).2.2
  · exact h3
theorem pt_nend {f t i : Nat} (hf : f < 64) (ht : t < 64) (hl : lined f t = true) (hi : i ≤ far f t) (h : ¬ pt f t i = t) : i < far f t := by
  obtain ⟨h1, h2, -⟩ := pt_all hf ht hl
  rcases Nat.lt_or_eq_of_le hi with h3 | h3
  · exact h3
  · rw [h3] at h; exact absurd h2 h
theorem pt_1 {f t : Nat} (hf : f < 64) (ht : t < 64) (hl : lined f t = true) : nI f + nI 8 * sgI (f / 8) (t / 8) + sgI (f % 8) (t % 8) = nI (pt f t 1) := by
  obtain ⟨h1, -, h3, -, h5⟩ := pt_all hf ht hl
  have := (h1 0 h3).2.1
  rw [h5] at this
  rw [← this, stI, Int32.add_assoc]
theorem pt_s {f t i : Nat} (hf : f < 64) (ht : t < 64) (hl : lined f t = true) (hi : i < far f t) : nI (pt f t i) + (nI 8 * sgI (f / 8) (t / 8) + sgI (f % 8) (t % 8)) = nI (pt f t (i + 1)) := ((pt_all hf ht hl).1 i hi).2.1
theorem freN_1 (bd : Nat → Nat) (f t : Nat) : freN bd f t 1 = true := rfl
theorem freN_s (bd : Nat → Nat) (f t i : Nat) : freN bd f t (i + 1) = (freN bd f t i && (decide (i = 0) || bd (pt f t i) == 0)) := by
  unfold freN
  rw [List.range_succ, List.all_append]
  simp
theorem freN_f {bd : Nat → Nat} {f t i : Nat} (h : freN bd f t i = false) : nI 0 = bI (freN bd f t (i + 1)) := by rw [freN_s, h]; rfl
theorem freN_n {bd : Nat → Nat} {f t i : Nat} (h0 : 1 ≤ i) (h : ¬ bd (pt f t i) = 0) : nI 0 = bI (freN bd f t (i + 1)) := by
  rw [freN_s, show decide (i = 0) = false from decide_eq_false (by omega), show (bd (pt f t i) == 0) = false from by simpa using h, Bool.or_false, Bool.and_false]; rfl
theorem freN_y {bd : Nat → Nat} {f t i : Nat} (h1 : freN bd f t i = true) (h : bd (pt f t i) = 0) : nI 1 = bI (freN bd f t (i + 1)) := by rw [freN_s, h1, h]; simp; rfl
/-- a board's pieces at a place of the array -/
def Bp (F : Nat → Int32) (b : Nat) (bd : Nat → Nat) : Prop := ∀ q, q < 64 → F (b + q) = nI (bd q) ∧ bd q < 13
abbrev rW (cI : ClassId) (hm b0 b1 b2 b3 : Nat) (th mk sz : Int32) (F mv kp li : Nat → Int32) : va_W := [(hm, .inr (4, [.int th, .ref b0, .int mk, .ref b1, .ref b2, .int sz, .ref b3])), (b0, .inl (cI, 402, .inl F)), (b1, .inl (cI, 200, .inl mv)), (b2, .inl (cI, 13400, .inl kp)), (b3, .inl (cI, 1024, .inl li))]
end
section
def gz (k a b : Nat) : Bool := if a = 0 ∨ b = 0 then decide (k ≠ 3) else decide (a = b ∧ k ≠ 4)
theorem atk_0 {bd : Nat → Nat} {f t : Nat} (h : kd (bd f) = 0 ∨ f = t) : atk bd f t = false := by unfold atk; rw [if_pos h]
theorem pawn_d : ∀ a, a < 8 → ∀ b, b < 8 → ((nI a - nI b = 1 ↔ a = b + 1) ∧ (nI a - nI b = -1 ↔ b = a + 1)) := by decide +kernel
theorem atk_1 {bd : Nat → Nat} {f t : Nat} (hf : f < 64) (ht : t < 64) (h1 : ¬ f = t) (h : kd (bd f) = 1) : atk bd f t = decide (ap (f % 8) (t % 8) = 1 ∧ nI (t / 8) - nI (f / 8) = if bd f = 1 then 1 else -1) := by
  unfold atk
  rw [if_neg (by omega), if_pos h]
  have h2 := pawn_d (t / 8) (by omega) (f / 8) (by omega)
  refine decide_eq_decide.mpr ⟨fun ⟨a, b⟩ => ⟨a, ?_⟩, fun ⟨a, b⟩ => ⟨a, ?_⟩⟩
  · by_cases hb : bd f = 1
    · rw [if_pos hb] at b ⊢; exact h2.1.mpr b
    · rw [if_neg hb] at b ⊢; exact h2.2.mpr b
  · by_cases hb : bd f = 1
    · rw [if_pos hb] at b ⊢; exact h2.1.mp b
    · rw [if_neg hb] at b ⊢; exact h2.2.mp b
theorem atk_2 {bd : Nat → Nat} {f t : Nat} (h1 : ¬ f = t) (h : kd (bd f) = 2) : atk bd f t = decide (ap (f % 8) (t % 8) * ap (f / 8) (t / 8) = 2) := by unfold atk; rw [if_neg (by omega), if_neg (by omega), if_pos h]
theorem atk_6 {bd : Nat → Nat} {f t : Nat} (h1 : ¬ f = t) (h : kd (bd f) = 6) : atk bd f t = decide (ap (f % 8) (t % 8) < 2 ∧ ap (f / 8) (t / 8) < 2) := by unfold atk; rw [if_neg (by omega), if_neg (by omega), if_neg (by omega), if_pos h]
theorem atk_s {bd : Nat → Nat} {f t : Nat} (h0 : ¬ kd (bd f) = 0) (h1 : ¬ f = t) (h2 : ¬ kd (bd f) = 1) (h3 : ¬ kd (bd f) = 2) (h4 : ¬ kd (bd f) = 6) : atk bd f t = (gz (kd (bd f)) (ap (f % 8) (t % 8)) (ap (f / 8) (t / 8)) && fre bd f t) := by
  unfold atk
  rw [if_neg (by omega), if_neg h2, if_neg h3, if_neg h4]
  rfl
theorem ap_0 {a b : Nat} : ap a b = 0 ↔ a = b := by unfold ap; split <;> omega
theorem gz_lined {k f t : Nat} (hn : ¬ f = t) (h : gz k (ap (f % 8) (t % 8)) (ap (f / 8) (t / 8)) = true) : lined f t = true := by
  unfold lined
  unfold gz at h
  simp only [Bool.and_eq_true, Bool.or_eq_true, decide_eq_true_eq]
  refine ⟨hn, ?_⟩
  by_cases h2 : ap (f % 8) (t % 8) = 0 ∨ ap (f / 8) (t / 8) = 0
  · rcases h2 with h2 | h2
    · exact Or.inl (Or.inl (ap_0.mp h2))
    · exact Or.inl (Or.inr (ap_0.mp h2))
  · rw [if_neg h2] at h
    exact Or.inr (of_decide_eq_true h).1
def anyN (bd : Nat → Nat) (q w n : Nat) : Bool := (List.range n).any fun s => decide (sdN (bd s) = w) && atk bd s q
def isA (bd : Nat → Nat) (q w : Nat) : Bool := anyN bd q w 64
theorem anyN_s (bd : Nat → Nat) (q w n : Nat) : anyN bd q w (n + 1) = (anyN bd q w n || (decide (sdN (bd n) = w) && atk bd n q)) := by
  unfold anyN
  rw [List.range_succ, List.any_append]
  simp
theorem anyN_t {bd : Nat → Nat} {q w n : Nat} (hn : n ≤ 64) (h : anyN bd q w n = true) : isA bd q w = true := by
  unfold isA
  unfold anyN at h ⊢
  obtain ⟨x, hx, h2⟩ := List.any_eq_true.mp h
  exact List.any_eq_true.mpr ⟨x, List.mem_range.mpr (Nat.lt_of_lt_of_le (List.mem_range.mp hx) hn), h2⟩
def kc (bd : Nat → Nat) (w : Nat) : Nat → Nat
  | 0 => 0
  | n + 1 => kc bd w n + if bd n = 6 + 6 * w then 1 else 0
def kat (bd : Nat → Nat) (w : Nat) : Nat → Nat
  | 0 => 64
  | n + 1 => if bd n = 6 + 6 * w then n else kat bd w n
def pI (n : Nat) : Int32 := if n < 64 then nI n else -1
/-- where the king stands; 64 if there is not just one -/
def kgs (bd : Nat → Nat) (w : Nat) : Nat := if kc bd w 64 = 1 then kat bd w 64 else 64
theorem pI_lt {n : Nat} (h : n < 64) : pI n = nI n := if_pos h
theorem pI_64 : pI 64 = -1 := rfl
theorem kc_le (bd : Nat → Nat) (w : Nat) : ∀ n, kc bd w n ≤ n
  | 0 => Nat.le_refl 0
  | n + 1 => by have := kc_le bd w n; unfold kc; split <;> omega
theorem kat_le (bd : Nat → Nat) (w : Nat) : ∀ n, n ≤ 64 → kat bd w n ≤ 64
  | 0, _ => Nat.le_refl 64
  | n + 1, h => by have := kat_le bd w n (by omega); unfold kat; split <;> omega
theorem pI_neg {n : Nat} (h : n ≤ 64) : pI n < 0 ↔ ¬ n < 64 := by
  unfold pI
  by_cases h2 : n < 64
  · rw [if_pos h2]; exact ⟨fun z => absurd z (nI_pos (by omega)), fun z => absurd h2 z⟩
  · rw [if_neg h2]; exact ⟨fun _ => h2, fun _ => by decide⟩
end
section
theorem dX5_isFree_0 : decode cX5_isFree 0 = .ok (.iload_n 3, 1) := by decide +kernel
theorem dX5_isFree_1 : decode cX5_isFree 1 = .ok (.bipush 8, 2) := by decide +kernel
theorem dX5_isFree_3 : decode cX5_isFree 3 = .ok (.irem, 1) := by decide +kernel
theorem dX5_isFree_4 : decode cX5_isFree 4 = .ok (.iload_n 2, 1) := by decide +kernel
theorem dX5_isFree_5 : decode cX5_isFree 5 = .ok (.bipush 8, 2) := by decide +kernel
theorem dX5_isFree_7 : decode cX5_isFree 7 = .ok (.irem, 1) := by decide +kernel
theorem dX5_isFree_8 : decode cX5_isFree 8 = .ok (.if_icmp .le 7, 3) := by decide +kernel
theorem dX5_isFree_11 : decode cX5_isFree 11 = .ok (.iconst 1, 1) := by decide +kernel
theorem dX5_isFree_12 : decode cX5_isFree 12 = .ok (.goto 19, 3) := by decide +kernel
theorem dX5_isFree_15 : decode cX5_isFree 15 = .ok (.iload_n 3, 1) := by decide +kernel
theorem dX5_isFree_16 : decode cX5_isFree 16 = .ok (.bipush 8, 2) := by decide +kernel
theorem dX5_isFree_18 : decode cX5_isFree 18 = .ok (.irem, 1) := by decide +kernel
theorem dX5_isFree_19 : decode cX5_isFree 19 = .ok (.iload_n 2, 1) := by decide +kernel
theorem dX5_isFree_20 : decode cX5_isFree 20 = .ok (.bipush 8, 2) := by decide +kernel
theorem dX5_isFree_22 : decode cX5_isFree 22 = .ok (.irem, 1) := by decide +kernel
theorem dX5_isFree_23 : decode cX5_isFree 23 = .ok (.if_icmp .ge 7, 3) := by decide +kernel
theorem dX5_isFree_26 : decode cX5_isFree 26 = .ok (.iconst (-1), 1) := by decide +kernel
theorem dX5_isFree_27 : decode cX5_isFree 27 = .ok (.goto 4, 3) := by decide +kernel
theorem dX5_isFree_30 : decode cX5_isFree 30 = .ok (.iconst 0, 1) := by decide +kernel
theorem dX5_isFree_31 : decode cX5_isFree 31 = .ok (.istore 4, 2) := by decide +kernel
theorem dX5_isFree_33 : decode cX5_isFree 33 = .ok (.iload_n 3, 1) := by decide +kernel
theorem dX5_isFree_34 : decode cX5_isFree 34 = .ok (.bipush 8, 2) := by decide +kernel
theorem dX5_isFree_36 : decode cX5_isFree 36 = .ok (.idiv, 1) := by decide +kernel
theorem dX5_isFree_37 : decode cX5_isFree 37 = .ok (.iload_n 2, 1) := by decide +kernel
theorem dX5_isFree_38 : decode cX5_isFree 38 = .ok (.bipush 8, 2) := by decide +kernel
theorem dX5_isFree_40 : decode cX5_isFree 40 = .ok (.idiv, 1) := by decide +kernel
theorem dX5_isFree_41 : decode cX5_isFree 41 = .ok (.if_icmp .le 7, 3) := by decide +kernel
theorem dX5_isFree_44 : decode cX5_isFree 44 = .ok (.iconst 1, 1) := by decide +kernel
theorem dX5_isFree_45 : decode cX5_isFree 45 = .ok (.goto 19, 3) := by decide +kernel
theorem dX5_isFree_48 : decode cX5_isFree 48 = .ok (.iload_n 3, 1) := by decide +kernel
theorem dX5_isFree_49 : decode cX5_isFree 49 = .ok (.bipush 8, 2) := by decide +kernel
theorem dX5_isFree_51 : decode cX5_isFree 51 = .ok (.idiv, 1) := by decide +kernel
theorem dX5_isFree_52 : decode cX5_isFree 52 = .ok (.iload_n 2, 1) := by decide +kernel
theorem dX5_isFree_53 : decode cX5_isFree 53 = .ok (.bipush 8, 2) := by decide +kernel
theorem dX5_isFree_55 : decode cX5_isFree 55 = .ok (.idiv, 1) := by decide +kernel
theorem dX5_isFree_56 : decode cX5_isFree 56 = .ok (.if_icmp .ge 7, 3) := by decide +kernel
theorem dX5_isFree_59 : decode cX5_isFree 59 = .ok (.iconst (-1), 1) := by decide +kernel
theorem dX5_isFree_60 : decode cX5_isFree 60 = .ok (.goto 4, 3) := by decide +kernel
theorem dX5_isFree_63 : decode cX5_isFree 63 = .ok (.iconst 0, 1) := by decide +kernel
theorem dX5_isFree_64 : decode cX5_isFree 64 = .ok (.istore 5, 2) := by decide +kernel
theorem dX5_isFree_66 : decode cX5_isFree 66 = .ok (.iconst 1, 1) := by decide +kernel
theorem dX5_isFree_67 : decode cX5_isFree 67 = .ok (.istore 6, 2) := by decide +kernel
theorem dX5_isFree_69 : decode cX5_isFree 69 = .ok (.iload_n 2, 1) := by decide +kernel
theorem dX5_isFree_70 : decode cX5_isFree 70 = .ok (.bipush 8, 2) := by decide +kernel
theorem dX5_isFree_72 : decode cX5_isFree 72 = .ok (.iload 5, 2) := by decide +kernel
theorem dX5_isFree_74 : decode cX5_isFree 74 = .ok (.imul, 1) := by decide +kernel
theorem dX5_isFree_75 : decode cX5_isFree 75 = .ok (.iadd, 1) := by decide +kernel
theorem dX5_isFree_76 : decode cX5_isFree 76 = .ok (.iload 4, 2) := by decide +kernel
theorem dX5_isFree_78 : decode cX5_isFree 78 = .ok (.iadd, 1) := by decide +kernel
theorem dX5_isFree_79 : decode cX5_isFree 79 = .ok (.istore 7, 2) := by decide +kernel
theorem dX5_isFree_81 : decode cX5_isFree 81 = .ok (.iload 7, 2) := by decide +kernel
theorem dX5_isFree_83 : decode cX5_isFree 83 = .ok (.iload_n 3, 1) := by decide +kernel
theorem dX5_isFree_84 : decode cX5_isFree 84 = .ok (.if_icmp .eq 43, 3) := by decide +kernel
theorem dX5_isFree_87 : decode cX5_isFree 87 = .ok (.iload 6, 2) := by decide +kernel
theorem dX5_isFree_89 : decode cX5_isFree 89 = .ok (.ifCond .eq 19, 3) := by decide +kernel
theorem dX5_isFree_92 : decode cX5_isFree 92 = .ok (.aload_n 0, 1) := by decide +kernel
theorem dX5_isFree_93 : decode cX5_isFree 93 = .ok (.getfield 7, 3) := by decide +kernel
theorem dX5_isFree_96 : decode cX5_isFree 96 = .ok (.iload_n 1, 1) := by decide +kernel
theorem dX5_isFree_97 : decode cX5_isFree 97 = .ok (.iload 7, 2) := by decide +kernel
theorem dX5_isFree_99 : decode cX5_isFree 99 = .ok (.iadd, 1) := by decide +kernel
theorem dX5_isFree_100 : decode cX5_isFree 100 = .ok (.iaload, 1) := by decide +kernel
theorem dX5_isFree_101 : decode cX5_isFree 101 = .ok (.ifCond .ne 7, 3) := by decide +kernel
theorem dX5_isFree_104 : decode cX5_isFree 104 = .ok (.iconst 1, 1) := by decide +kernel
theorem dX5_isFree_105 : decode cX5_isFree 105 = .ok (.goto 4, 3) := by decide +kernel
theorem dX5_isFree_108 : decode cX5_isFree 108 = .ok (.iconst 0, 1) := by decide +kernel
theorem dX5_isFree_109 : decode cX5_isFree 109 = .ok (.istore 6, 2) := by decide +kernel
theorem dX5_isFree_111 : decode cX5_isFree 111 = .ok (.iload 7, 2) := by decide +kernel
theorem dX5_isFree_113 : decode cX5_isFree 113 = .ok (.bipush 8, 2) := by decide +kernel
theorem dX5_isFree_115 : decode cX5_isFree 115 = .ok (.iload 5, 2) := by decide +kernel
theorem dX5_isFree_117 : decode cX5_isFree 117 = .ok (.imul, 1) := by decide +kernel
theorem dX5_isFree_118 : decode cX5_isFree 118 = .ok (.iload 4, 2) := by decide +kernel
theorem dX5_isFree_120 : decode cX5_isFree 120 = .ok (.iadd, 1) := by decide +kernel
theorem dX5_isFree_121 : decode cX5_isFree 121 = .ok (.iadd, 1) := by decide +kernel
theorem dX5_isFree_122 : decode cX5_isFree 122 = .ok (.istore 7, 2) := by decide +kernel
theorem dX5_isFree_124 : decode cX5_isFree 124 = .ok (.goto (-43), 3) := by decide +kernel
theorem dX5_isFree_127 : decode cX5_isFree 127 = .ok (.iload 6, 2) := by decide +kernel
theorem dX5_isFree_129 : decode cX5_isFree 129 = .ok (.ireturn, 1) := by decide +kernel
theorem hd_X5_isFree : yX5_isFree.cls ≠ "java/lang/invoke/MethodHandle" ∧ yX5_isFree.cls ≠ "java/lang/invoke/VarHandle" ∧ (parseMethodDescriptor yX5_isFree.desc).map (fun d => d.parameters.length) = some 3 := by decide +kernel
set_option maxHeartbeats 4000000 in
set_option maxRecDepth 100000 in
/-- isFree -/
theorem c_X5_isFree (l : Launch) {D : va_G} {cI cJ : ClassId} {A : Nat → Prop} {hm b0 b1 b2 b3 : Nat} {th mk sz : Int32} {F mv kp li : Nat → Int32} (bd : Nat → Nat) (b f t : Nat) (hb9 : b ≤ 300) (hf : f < 64) (ht : t < 64) (hln : lined f t = true) (hBp : Bp F b bd) : Met l yX5_isFree (Cond.code yX5_isFree cX5_isFree 8 (some .boolean) :: wsL_law) (rK 0) (va_Pc [.ref hm, .int (nI b), .int (nI f), .int (nI t)] (IW D cI cJ A (rW cI hm b0 b1 b2 b3 th mk sz F mv kp li))) (vp_Si (fun r => r = bI (fre bd f t))) 0 0 (fun _ => False) := by
  refine entM (by decide) (Nat.le_of_ble_eq_true rfl) ?_
  intro p e s m below meth c ls S0 hr hlocks hG hnm hB hl
  have hx := S0.1
  have hb := S0.2.1
  have hown := S0.2.2.2.1
  have hl : lv_has ls 8 [(0, .ref hm), (1, .int (nI b)), (2, .int (nI f)), (3, .int (nI t))] := hl
  obtain ⟨hP, hD, hK, hA, hE⟩ := hB
  have hS : va_S A s.heap s.heap [] := va_S.rf
  refine lv_iload_n hx hb dX5_isFree_0 rfl (lv_at hl 3 rfl) ?_
  refine lv_bipush (v := (nI 8)) hx hb dX5_isFree_1 (by decide) ?_
  refine ln_irem hx hb dX5_isFree_3 (by omega) (by decide) (by decide) ?_
  refine lv_iload_n hx hb dX5_isFree_4 rfl (lv_at hl 2 rfl) ?_
  refine lv_bipush (v := (nI 8)) hx hb dX5_isFree_5 (by decide) ?_
  refine ln_irem hx hb dX5_isFree_7 (by omega) (by decide) (by decide) ?_
  refine jnG 31 8 [(0, .ref hm), (1, .int (nI b)), (2, .int (nI f)), (3, .int (nI t))] [.int (sgI (f % 8) (t % 8))] ?_ (fun hj_31 => ?_)
  · intro ls hl
    refine lv_istore (lv' := [(4, .int (sgI (f % 8) (t % 8))), (0, .ref hm), (1, .int (nI b)), (2, .int (nI f)), (3, .int (nI t))]) hx hb dX5_isFree_31 hl (by decide) rfl (fun ls hl => ?_)
    refine lv_iload_n hx hb dX5_isFree_33 rfl (lv_at hl 4 rfl) ?_
    refine lv_bipush (v := (nI 8)) hx hb dX5_isFree_34 (by decide) ?_
    refine ln_idiv hx hb dX5_isFree_36 (by omega) (by decide) (by decide) ?_
    refine lv_iload_n hx hb dX5_isFree_37 rfl (lv_at hl 3 rfl) ?_
    refine lv_bipush (v := (nI 8)) hx hb dX5_isFree_38 (by decide) ?_
    refine ln_idiv hx hb dX5_isFree_40 (by omega) (by decide) (by decide) ?_
    refine jnG 64 8 [(4, .int (sgI (f % 8) (t % 8))), (0, .ref hm), (1, .int (nI b)), (2, .int (nI f)), (3, .int (nI t))] [.int (sgI (f / 8) (t / 8))] ?_ (fun hj_64 => ?_)
    · intro ls hl
      refine lv_istore (lv' := [(5, .int (sgI (f / 8) (t / 8))), (4, .int (sgI (f % 8) (t % 8))), (0, .ref hm), (1, .int (nI b)), (2, .int (nI f)), (3, .int (nI t))]) hx hb dX5_isFree_64 hl (by decide) rfl (fun ls hl => ?_)
      refine lv_iconst (v := (nI 1)) hx hb dX5_isFree_66 (by decide) ?_
      refine W.top (y := .int (bI (freN bd f t 1))) (congrArg Value.int rfl) ?_
      refine lv_istore (lv' := [(6, .int (bI (freN bd f t 1))), (5, .int (sgI (f / 8) (t / 8))), (4, .int (sgI (f % 8) (t % 8))), (0, .ref hm), (1, .int (nI b)), (2, .int (nI f)), (3, .int (nI t))]) hx hb dX5_isFree_67 hl (by decide) rfl (fun ls hl => ?_)
      refine lv_iload_n hx hb dX5_isFree_69 rfl (lv_at hl 5 rfl) ?_
      refine lv_bipush (v := (nI 8)) hx hb dX5_isFree_70 (by decide) ?_
      refine lv_iload hx hb dX5_isFree_72 (lv_at hl 1 rfl) ?_
      refine lv_imul hx hb dX5_isFree_74 ?_
      refine lv_iadd hx hb dX5_isFree_75 ?_
      refine lv_iload hx hb dX5_isFree_76 (lv_at hl 2 rfl) ?_
      refine lv_iadd hx hb dX5_isFree_78 ?_
      refine W.top (y := .int (nI (pt f t 1))) (congrArg Value.int (pt_1 hf ht hln)) ?_
      refine lv_istore (lv' := [(7, .int (nI (pt f t 1))), (6, .int (bI (freN bd f t 1))), (5, .int (sgI (f / 8) (t / 8))), (4, .int (sgI (f % 8) (t % 8))), (0, .ref hm), (1, .int (nI b)), (2, .int (nI f)), (3, .int (nI t))]) hx hb dX5_isFree_79 hl (by decide) rfl (fun ls hl => ?_)
      refine lpR (σ := Nat) 81 8 [] (fun x9 => [(0, .ref hm), (1, .int (nI b)), (2, .int (nI f)), (3, .int (nI t)), (4, .int (sgI (f % 8) (t % 8))), (5, .int (sgI (f / 8) (t / 8))), (6, .int (bI (freN bd f t x9))), (7, .int (nI (pt f t x9)))]) (fun x9 => 1 ≤ x9 ∧ x9 ≤ far f t) (fun x9 => far f t - x9) 1 ⟨Nat.le_refl 1, (pt_all hf ht hln).2.2.1⟩ (lv_sub hl [4, 5, 6, 7, 3, 2, 1, 0] rfl) ?_
      clear hl ls
      rintro i hI ih ls hl
      try dsimp only at hI ih hl
      obtain ⟨h1, h2⟩ := hI
      have hpi : pt f t i < 64 := pt_lt hf ht hln h2
      obtain ⟨hv9, hk9⟩ := hBp _ hpi
      refine lv_iload hx hb dX5_isFree_81 (lv_at hl 7 rfl) ?_
      refine lv_iload_n hx hb dX5_isFree_83 rfl (lv_at hl 3 rfl) ?_
      refine ln_icmp_eq (tgt := 127) hx hb dX5_isFree_84 (by decide) (by omega) (by omega) (fun c84 => ?_) (fun c84 => ?_)
      · skip
        refine lv_iload hx hb dX5_isFree_127 (lv_at hl 6 rfl) ?_
        exact reZ (v := freN bd f t i) hx hb hr hlocks dX5_isFree_129 (congrArg bI (by rw [fre, ← pt_end hf ht hln h2 c84]))
      · skip
        have hlt : i < far f t := pt_nend hf ht hln h2 c84
        refine lv_iload hx hb dX5_isFree_87 (lv_at hl 6 rfl) ?_
        refine jnG 109 8 [(0, .ref hm), (1, .int (nI b)), (2, .int (nI f)), (3, .int (nI t)), (4, .int (sgI (f % 8) (t % 8))), (5, .int (sgI (f / 8) (t / 8))), (6, .int (bI (freN bd f t i))), (7, .int (nI (pt f t i)))] [.int (bI (freN bd f t (i + 1)))] ?_ (fun hj_109 => ?_)
        · intro ls hl
          refine lv_istore (lv' := [(6, .int (bI (freN bd f t (i + 1)))), (0, .ref hm), (1, .int (nI b)), (2, .int (nI f)), (3, .int (nI t)), (4, .int (sgI (f % 8) (t % 8))), (5, .int (sgI (f / 8) (t / 8))), (7, .int (nI (pt f t i)))]) hx hb dX5_isFree_109 hl (by decide) rfl (fun ls hl => ?_)
          refine lv_iload hx hb dX5_isFree_111 (lv_at hl 7 rfl) ?_
          refine lv_bipush (v := (nI 8)) hx hb dX5_isFree_113 (by decide) ?_
          refine lv_iload hx hb dX5_isFree_115 (lv_at hl 6 rfl) ?_
          refine lv_imul hx hb dX5_isFree_117 ?_
          refine lv_iload hx hb dX5_isFree_118 (lv_at hl 5 rfl) ?_
          refine lv_iadd hx hb dX5_isFree_120 ?_
          refine lv_iadd hx hb dX5_isFree_121 ?_
          refine W.top (y := .int (nI (pt f t (i + 1)))) (congrArg Value.int (pt_s hf ht hln hlt)) ?_
          refine lv_istore (lv' := [(7, .int (nI (pt f t (i + 1)))), (6, .int (bI (freN bd f t (i + 1)))), (0, .ref hm), (1, .int (nI b)), (2, .int (nI f)), (3, .int (nI t)), (4, .int (sgI (f % 8) (t % 8))), (5, .int (sgI (f / 8) (t / 8)))]) hx hb dX5_isFree_122 hl (by decide) rfl (fun ls hl => ?_)
          refine lv_goto (tgt := 81) hx hb dX5_isFree_124 (by decide) ?_
          exact ih (i + 1) ⟨by omega, by omega⟩ (by (try dsimp only); omega) ls (lv_sub hl [2, 3, 4, 5, 6, 7, 1, 0] rfl)
        · skip
          refine lb_if_eq (tgt := 108) hx hb dX5_isFree_89 (by decide) (fun c89 => ?_) (fun c89 => ?_)
          · skip
            refine lv_iconst (v := (nI 0)) hx hb dX5_isFree_108 (by decide) ?_
            refine W.top (y := .int (bI (freN bd f t (i + 1)))) (congrArg Value.int (by first | exact freN_f c89 | exact freN_n h1 c101 | exact freN_y c89 c101)) ?_
            exact hj_109 ls (lv_sub hl [0, 1, 2, 3, 4, 5, 6, 7] rfl)
          · skip
            refine lv_aload_n hx hb dX5_isFree_92 rfl (lv_at hl 0 rfl) ?_
            refine va_get (D := D) (ci := 4) (v := .ref b0) (C := RX5) (T := TX5) (N := 7) hx hb hG wu_X5 hown hK hP 0 rfl rfl 1 (by decide) (hG _ wf_X5_7) (fun _ h9 => h9) rfl dX5_isFree_93 ?_
            refine lv_iload_n hx hb dX5_isFree_96 rfl (lv_at hl 1 rfl) ?_
            refine lv_iload hx hb dX5_isFree_97 (lv_at hl 7 rfl) ?_
            refine ln_iadd hx hb dX5_isFree_99 ?_
            refine va_iald hx hb hK hP 1 0 rfl rfl (vp_in_nI (by omega) (by decide)) dX5_isFree_100 ?_
            refine W.top (y := .int (F (b + (pt f t i)))) (congrArg (fun z => Value.int (F z)) (nI_clamp (by omega))) ?_
            refine W.top (y := .int (nI (bd (pt f t i)))) (congrArg Value.int hv9) ?_
            refine ln_if_ne (tgt := 108) hx hb dX5_isFree_101 (by decide) (by omega) (fun c101 => ?_) (fun c101 => ?_)
            · skip
              refine lv_iconst (v := (nI 0)) hx hb dX5_isFree_108 (by decide) ?_
              refine W.top (y := .int (bI (freN bd f t (i + 1)))) (congrArg Value.int (by first | exact freN_f c89 | exact freN_n h1 c101 | exact freN_y c89 c101)) ?_
              exact hj_109 ls (lv_sub hl [0, 1, 2, 3, 4, 5, 6, 7] rfl)
            · skip
              refine lv_iconst (v := (nI 1)) hx hb dX5_isFree_104 (by decide) ?_
              refine lv_goto (tgt := 109) hx hb dX5_isFree_105 (by decide) ?_
              refine W.top (y := .int (bI (freN bd f t (i + 1)))) (congrArg Value.int (by first | exact freN_f c89 | exact freN_n h1 c101 | exact freN_y c89 c101)) ?_
              exact hj_109 ls (lv_sub hl [0, 1, 2, 3, 4, 5, 6, 7] rfl)
    · skip
      refine ln_icmp_le (tgt := 48) hx hb dX5_isFree_41 (by decide) (by omega) (by omega) (fun c_1 => ?_) (fun c_1 => ?_)
      · skip
        refine lv_iload_n hx hb dX5_isFree_48 rfl (lv_at hl 4 rfl) ?_
        refine lv_bipush (v := (nI 8)) hx hb dX5_isFree_49 (by decide) ?_
        refine ln_idiv hx hb dX5_isFree_51 (by omega) (by decide) (by decide) ?_
        refine lv_iload_n hx hb dX5_isFree_52 rfl (lv_at hl 3 rfl) ?_
        refine lv_bipush (v := (nI 8)) hx hb dX5_isFree_53 (by decide) ?_
        refine ln_idiv hx hb dX5_isFree_55 (by omega) (by decide) (by decide) ?_
        refine ln_icmp_ge (tgt := 63) hx hb dX5_isFree_56 (by decide) (by omega) (by omega) (fun c_2 => ?_) (fun c_2 => ?_)
        · skip
          refine lv_iconst (v := (nI 0)) hx hb dX5_isFree_63 (by decide) ?_
          refine W.top (y := .int (sgI (f / 8) (t / 8))) (congrArg Value.int (by unfold sgI; (repeat' split) <;> first | rfl | omega)) ?_
          exact hj_64 ls (lv_sub hl [0, 1, 2, 3, 4] rfl)
        · skip
          refine lv_iconst (v := (-1)) hx hb dX5_isFree_59 (by decide) ?_
          refine lv_goto (tgt := 64) hx hb dX5_isFree_60 (by decide) ?_
          refine W.top (y := .int (sgI (f / 8) (t / 8))) (congrArg Value.int (by unfold sgI; (repeat' split) <;> first | rfl | omega)) ?_
          exact hj_64 ls (lv_sub hl [0, 1, 2, 3, 4] rfl)
      · skip
        refine lv_iconst (v := (nI 1)) hx hb dX5_isFree_44 (by decide) ?_
        refine lv_goto (tgt := 64) hx hb dX5_isFree_45 (by decide) ?_
        refine W.top (y := .int (sgI (f / 8) (t / 8))) (congrArg Value.int (by unfold sgI; (repeat' split) <;> first | rfl | omega)) ?_
        exact hj_64 ls (lv_sub hl [0, 1, 2, 3, 4] rfl)
  · skip
    refine ln_icmp_le (tgt := 15) hx hb dX5_isFree_8 (by decide) (by omega) (by omega) (fun c_3 => ?_) (fun c_3 => ?_)
    · skip
      refine lv_iload_n hx hb dX5_isFree_15 rfl (lv_at hl 3 rfl) ?_
      refine lv_bipush (v := (nI 8)) hx hb dX5_isFree_16 (by decide) ?_
      refine ln_irem hx hb dX5_isFree_18 (by omega) (by decide) (by decide) ?_
      refine lv_iload_n hx hb dX5_isFree_19 rfl (lv_at hl 2 rfl) ?_
      refine lv_bipush (v := (nI 8)) hx hb dX5_isFree_20 (by decide) ?_
      refine ln_irem hx hb dX5_isFree_22 (by omega) (by decide) (by decide) ?_
      refine ln_icmp_ge (tgt := 30) hx hb dX5_isFree_23 (by decide) (by omega) (by omega) (fun c_4 => ?_) (fun c_4 => ?_)
      · skip
        refine lv_iconst (v := (nI 0)) hx hb dX5_isFree_30 (by decide) ?_
        refine W.top (y := .int (sgI (f % 8) (t % 8))) (congrArg Value.int (by unfold sgI; (repeat' split) <;> first | rfl | omega)) ?_
        exact hj_31 ls (lv_sub hl [0, 1, 2, 3] rfl)
      · skip
        refine lv_iconst (v := (-1)) hx hb dX5_isFree_26 (by decide) ?_
        refine lv_goto (tgt := 31) hx hb dX5_isFree_27 (by decide) ?_
        refine W.top (y := .int (sgI (f % 8) (t % 8))) (congrArg Value.int (by unfold sgI; (repeat' split) <;> first | rfl | omega)) ?_
        exact hj_31 ls (lv_sub hl [0, 1, 2, 3] rfl)
    · skip
      refine lv_iconst (v := (nI 1)) hx hb dX5_isFree_11 (by decide) ?_
      refine lv_goto (tgt := 31) hx hb dX5_isFree_12 (by decide) ?_
      refine W.top (y := .int (sgI (f % 8) (t % 8))) (congrArg Value.int (by unfold sgI; (repeat' split) <;> first | rfl | omega)) ?_
      exact hj_31 ls (lv_sub hl [0, 1, 2, 3] rfl)
theorem dX5_attacks_0 : decode cX5_attacks 0 = .ok (.aload_n 0, 1) := by decide +kernel
theorem dX5_attacks_1 : decode cX5_attacks 1 = .ok (.getfield 7, 3) := by decide +kernel
theorem dX5_attacks_4 : decode cX5_attacks 4 = .ok (.iload_n 1, 1) := by decide +kernel
theorem dX5_attacks_5 : decode cX5_attacks 5 = .ok (.iload_n 2, 1) := by decide +kernel
theorem dX5_attacks_6 : decode cX5_attacks 6 = .ok (.iadd, 1) := by decide +kernel
theorem dX5_attacks_7 : decode cX5_attacks 7 = .ok (.iaload, 1) := by decide +kernel
theorem dX5_attacks_8 : decode cX5_attacks 8 = .ok (.istore 4, 2) := by decide +kernel
theorem dX5_attacks_10 : decode cX5_attacks 10 = .ok (.iload 4, 2) := by decide +kernel
theorem dX5_attacks_12 : decode cX5_attacks 12 = .ok (.invokestatic 40, 3) := by decide +kernel
theorem dX5_attacks_15 : decode cX5_attacks 15 = .ok (.istore 5, 2) := by decide +kernel
theorem dX5_attacks_17 : decode cX5_attacks 17 = .ok (.iload_n 2, 1) := by decide +kernel
theorem dX5_attacks_18 : decode cX5_attacks 18 = .ok (.bipush 8, 2) := by decide +kernel
theorem dX5_attacks_20 : decode cX5_attacks 20 = .ok (.irem, 1) := by decide +kernel
theorem dX5_attacks_21 : decode cX5_attacks 21 = .ok (.iload_n 3, 1) := by decide +kernel
theorem dX5_attacks_22 : decode cX5_attacks 22 = .ok (.bipush 8, 2) := by decide +kernel
theorem dX5_attacks_24 : decode cX5_attacks 24 = .ok (.irem, 1) := by decide +kernel
theorem dX5_attacks_25 : decode cX5_attacks 25 = .ok (.invokestatic 43, 3) := by decide +kernel
theorem dX5_attacks_28 : decode cX5_attacks 28 = .ok (.istore 6, 2) := by decide +kernel
theorem dX5_attacks_30 : decode cX5_attacks 30 = .ok (.iload_n 2, 1) := by decide +kernel
theorem dX5_attacks_31 : decode cX5_attacks 31 = .ok (.bipush 8, 2) := by decide +kernel
theorem dX5_attacks_33 : decode cX5_attacks 33 = .ok (.idiv, 1) := by decide +kernel
theorem dX5_attacks_34 : decode cX5_attacks 34 = .ok (.iload_n 3, 1) := by decide +kernel
theorem dX5_attacks_35 : decode cX5_attacks 35 = .ok (.bipush 8, 2) := by decide +kernel
theorem dX5_attacks_37 : decode cX5_attacks 37 = .ok (.idiv, 1) := by decide +kernel
theorem dX5_attacks_38 : decode cX5_attacks 38 = .ok (.invokestatic 43, 3) := by decide +kernel
theorem dX5_attacks_41 : decode cX5_attacks 41 = .ok (.istore 7, 2) := by decide +kernel
theorem dX5_attacks_43 : decode cX5_attacks 43 = .ok (.iload 5, 2) := by decide +kernel
theorem dX5_attacks_45 : decode cX5_attacks 45 = .ok (.ifCond .eq 8, 3) := by decide +kernel
theorem dX5_attacks_48 : decode cX5_attacks 48 = .ok (.iload_n 2, 1) := by decide +kernel
theorem dX5_attacks_49 : decode cX5_attacks 49 = .ok (.iload_n 3, 1) := by decide +kernel
theorem dX5_attacks_50 : decode cX5_attacks 50 = .ok (.if_icmp .ne 5, 3) := by decide +kernel
theorem dX5_attacks_53 : decode cX5_attacks 53 = .ok (.iconst 0, 1) := by decide +kernel
theorem dX5_attacks_54 : decode cX5_attacks 54 = .ok (.ireturn, 1) := by decide +kernel
theorem dX5_attacks_55 : decode cX5_attacks 55 = .ok (.iload 5, 2) := by decide +kernel
theorem dX5_attacks_57 : decode cX5_attacks 57 = .ok (.iconst 1, 1) := by decide +kernel
theorem dX5_attacks_58 : decode cX5_attacks 58 = .ok (.if_icmp .ne 38, 3) := by decide +kernel
theorem dX5_attacks_61 : decode cX5_attacks 61 = .ok (.iload 6, 2) := by decide +kernel
theorem dX5_attacks_63 : decode cX5_attacks 63 = .ok (.iconst 1, 1) := by decide +kernel
theorem dX5_attacks_64 : decode cX5_attacks 64 = .ok (.if_icmp .ne 30, 3) := by decide +kernel
theorem dX5_attacks_67 : decode cX5_attacks 67 = .ok (.iload_n 3, 1) := by decide +kernel
theorem dX5_attacks_68 : decode cX5_attacks 68 = .ok (.bipush 8, 2) := by decide +kernel
theorem dX5_attacks_70 : decode cX5_attacks 70 = .ok (.idiv, 1) := by decide +kernel
theorem dX5_attacks_71 : decode cX5_attacks 71 = .ok (.iload_n 2, 1) := by decide +kernel
theorem dX5_attacks_72 : decode cX5_attacks 72 = .ok (.bipush 8, 2) := by decide +kernel
theorem dX5_attacks_74 : decode cX5_attacks 74 = .ok (.idiv, 1) := by decide +kernel
theorem dX5_attacks_75 : decode cX5_attacks 75 = .ok (.isub, 1) := by decide +kernel
theorem dX5_attacks_76 : decode cX5_attacks 76 = .ok (.iload 4, 2) := by decide +kernel
theorem dX5_attacks_78 : decode cX5_attacks 78 = .ok (.iconst 1, 1) := by decide +kernel
theorem dX5_attacks_79 : decode cX5_attacks 79 = .ok (.if_icmp .ne 7, 3) := by decide +kernel
theorem dX5_attacks_82 : decode cX5_attacks 82 = .ok (.iconst 1, 1) := by decide +kernel
theorem dX5_attacks_83 : decode cX5_attacks 83 = .ok (.goto 4, 3) := by decide +kernel
theorem dX5_attacks_86 : decode cX5_attacks 86 = .ok (.iconst (-1), 1) := by decide +kernel
theorem dX5_attacks_87 : decode cX5_attacks 87 = .ok (.if_icmp .ne 7, 3) := by decide +kernel
theorem dX5_attacks_90 : decode cX5_attacks 90 = .ok (.iconst 1, 1) := by decide +kernel
theorem dX5_attacks_91 : decode cX5_attacks 91 = .ok (.goto 4, 3) := by decide +kernel
theorem dX5_attacks_94 : decode cX5_attacks 94 = .ok (.iconst 0, 1) := by decide +kernel
theorem dX5_attacks_95 : decode cX5_attacks 95 = .ok (.ireturn, 1) := by decide +kernel
theorem dX5_attacks_96 : decode cX5_attacks 96 = .ok (.iload 5, 2) := by decide +kernel
theorem dX5_attacks_98 : decode cX5_attacks 98 = .ok (.iconst 2, 1) := by decide +kernel
theorem dX5_attacks_99 : decode cX5_attacks 99 = .ok (.if_icmp .ne 18, 3) := by decide +kernel
theorem dX5_attacks_102 : decode cX5_attacks 102 = .ok (.iload 6, 2) := by decide +kernel
theorem dX5_attacks_104 : decode cX5_attacks 104 = .ok (.iload 7, 2) := by decide +kernel
theorem dX5_attacks_106 : decode cX5_attacks 106 = .ok (.imul, 1) := by decide +kernel
theorem dX5_attacks_107 : decode cX5_attacks 107 = .ok (.iconst 2, 1) := by decide +kernel
theorem dX5_attacks_108 : decode cX5_attacks 108 = .ok (.if_icmp .ne 7, 3) := by decide +kernel
theorem dX5_attacks_111 : decode cX5_attacks 111 = .ok (.iconst 1, 1) := by decide +kernel
theorem dX5_attacks_112 : decode cX5_attacks 112 = .ok (.goto 4, 3) := by decide +kernel
theorem dX5_attacks_115 : decode cX5_attacks 115 = .ok (.iconst 0, 1) := by decide +kernel
theorem dX5_attacks_116 : decode cX5_attacks 116 = .ok (.ireturn, 1) := by decide +kernel
theorem dX5_attacks_117 : decode cX5_attacks 117 = .ok (.iload 5, 2) := by decide +kernel
theorem dX5_attacks_119 : decode cX5_attacks 119 = .ok (.bipush 6, 2) := by decide +kernel
theorem dX5_attacks_121 : decode cX5_attacks 121 = .ok (.if_icmp .ne 21, 3) := by decide +kernel
theorem dX5_attacks_124 : decode cX5_attacks 124 = .ok (.iload 6, 2) := by decide +kernel
theorem dX5_attacks_126 : decode cX5_attacks 126 = .ok (.iconst 2, 1) := by decide +kernel
theorem dX5_attacks_127 : decode cX5_attacks 127 = .ok (.if_icmp .ge 13, 3) := by decide +kernel
theorem dX5_attacks_130 : decode cX5_attacks 130 = .ok (.iload 7, 2) := by decide +kernel
theorem dX5_attacks_132 : decode cX5_attacks 132 = .ok (.iconst 2, 1) := by decide +kernel
theorem dX5_attacks_133 : decode cX5_attacks 133 = .ok (.if_icmp .ge 7, 3) := by decide +kernel
theorem dX5_attacks_136 : decode cX5_attacks 136 = .ok (.iconst 1, 1) := by decide +kernel
theorem dX5_attacks_137 : decode cX5_attacks 137 = .ok (.goto 4, 3) := by decide +kernel
theorem dX5_attacks_140 : decode cX5_attacks 140 = .ok (.iconst 0, 1) := by decide +kernel
theorem dX5_attacks_141 : decode cX5_attacks 141 = .ok (.ireturn, 1) := by decide +kernel
theorem dX5_attacks_142 : decode cX5_attacks 142 = .ok (.iload 6, 2) := by decide +kernel
theorem dX5_attacks_144 : decode cX5_attacks 144 = .ok (.ifCond .eq 8, 3) := by decide +kernel
theorem dX5_attacks_147 : decode cX5_attacks 147 = .ok (.iload 7, 2) := by decide +kernel
theorem dX5_attacks_149 : decode cX5_attacks 149 = .ok (.ifCond .ne 17, 3) := by decide +kernel
theorem dX5_attacks_152 : decode cX5_attacks 152 = .ok (.iload 5, 2) := by decide +kernel
theorem dX5_attacks_154 : decode cX5_attacks 154 = .ok (.iconst 3, 1) := by decide +kernel
theorem dX5_attacks_155 : decode cX5_attacks 155 = .ok (.if_icmp .eq 7, 3) := by decide +kernel
theorem dX5_attacks_158 : decode cX5_attacks 158 = .ok (.iconst 1, 1) := by decide +kernel
theorem dX5_attacks_159 : decode cX5_attacks 159 = .ok (.goto 25, 3) := by decide +kernel
theorem dX5_attacks_162 : decode cX5_attacks 162 = .ok (.iconst 0, 1) := by decide +kernel
theorem dX5_attacks_163 : decode cX5_attacks 163 = .ok (.goto 21, 3) := by decide +kernel
theorem dX5_attacks_166 : decode cX5_attacks 166 = .ok (.iload 6, 2) := by decide +kernel
theorem dX5_attacks_168 : decode cX5_attacks 168 = .ok (.iload 7, 2) := by decide +kernel
theorem dX5_attacks_170 : decode cX5_attacks 170 = .ok (.if_icmp .ne 13, 3) := by decide +kernel
theorem dX5_attacks_173 : decode cX5_attacks 173 = .ok (.iload 5, 2) := by decide +kernel
theorem dX5_attacks_175 : decode cX5_attacks 175 = .ok (.iconst 4, 1) := by decide +kernel
theorem dX5_attacks_176 : decode cX5_attacks 176 = .ok (.if_icmp .eq 7, 3) := by decide +kernel
theorem dX5_attacks_179 : decode cX5_attacks 179 = .ok (.iconst 1, 1) := by decide +kernel
theorem dX5_attacks_180 : decode cX5_attacks 180 = .ok (.goto 4, 3) := by decide +kernel
theorem dX5_attacks_183 : decode cX5_attacks 183 = .ok (.iconst 0, 1) := by decide +kernel
theorem dX5_attacks_184 : decode cX5_attacks 184 = .ok (.istore 8, 2) := by decide +kernel
theorem dX5_attacks_186 : decode cX5_attacks 186 = .ok (.iload 8, 2) := by decide +kernel
theorem dX5_attacks_188 : decode cX5_attacks 188 = .ok (.ifCond .eq 17, 3) := by decide +kernel
theorem dX5_attacks_191 : decode cX5_attacks 191 = .ok (.aload_n 0, 1) := by decide +kernel
theorem dX5_attacks_192 : decode cX5_attacks 192 = .ok (.iload_n 1, 1) := by decide +kernel
theorem dX5_attacks_193 : decode cX5_attacks 193 = .ok (.iload_n 2, 1) := by decide +kernel
theorem dX5_attacks_194 : decode cX5_attacks 194 = .ok (.iload_n 3, 1) := by decide +kernel
theorem dX5_attacks_195 : decode cX5_attacks 195 = .ok (.invokevirtual 47, 3) := by decide +kernel
theorem dX5_attacks_198 : decode cX5_attacks 198 = .ok (.ifCond .eq 7, 3) := by decide +kernel
theorem dX5_attacks_201 : decode cX5_attacks 201 = .ok (.iconst 1, 1) := by decide +kernel
theorem dX5_attacks_202 : decode cX5_attacks 202 = .ok (.goto 4, 3) := by decide +kernel
theorem dX5_attacks_205 : decode cX5_attacks 205 = .ok (.iconst 0, 1) := by decide +kernel
theorem dX5_attacks_206 : decode cX5_attacks 206 = .ok (.ireturn, 1) := by decide +kernel
theorem hd_X5_attacks : yX5_attacks.cls ≠ "java/lang/invoke/MethodHandle" ∧ yX5_attacks.cls ≠ "java/lang/invoke/VarHandle" ∧ (parseMethodDescriptor yX5_attacks.desc).map (fun d => d.parameters.length) = some 3 := by decide +kernel
set_option maxHeartbeats 4000000 in
set_option maxRecDepth 100000 in
/-- attacks -/
theorem c_X5_attacks (l : Launch) {D : va_G} {cI cJ : ClassId} {A : Nat → Prop} {hm b0 b1 b2 b3 : Nat} {th mk sz : Int32} {F mv kp li : Nat → Int32} (bd : Nat → Nat) (b f t : Nat) (hb9 : b ≤ 300) (hf : f < 64) (ht : t < 64) (hBp : Bp F b bd) : Met l yX5_attacks (Cond.code yX5_attacks cX5_attacks 9 (some .boolean) :: wsL_law) (rK 1) (va_Pc [.ref hm, .int (nI b), .int (nI f), .int (nI t)] (IW D cI cJ A (rW cI hm b0 b1 b2 b3 th mk sz F mv kp li))) (vp_Si (fun r => r = bI (atk bd f t))) 0 0 (fun _ => False) := by
  refine entM (by decide) (Nat.le_of_ble_eq_true rfl) ?_
  intro p e s m below meth c ls S0 hr hlocks hG hnm hB hl
  have hx := S0.1
  have hb := S0.2.1
  have hown := S0.2.2.2.1
  have hl : lv_has ls 9 [(0, .ref hm), (1, .int (nI b)), (2, .int (nI f)), (3, .int (nI t))] := hl
  obtain ⟨hP, hD, hK, hA, hE⟩ := hB
  have hS : va_S A s.heap s.heap [] := va_S.rf
  obtain ⟨hv9, hk9⟩ := hBp f hf
  have hkd := kd_lt hk9
  have hap1 : ap (f % 8) (t % 8) < 8 := ap_lt (by omega) (by omega)
  have hap2 : ap (f / 8) (t / 8) < 8 := ap_lt (by omega) (by omega)
  have hapm : ap (f % 8) (t % 8) * ap (f / 8) (t / 8) < 64 := Nat.lt_of_le_of_lt (Nat.mul_le_mul (show _ ≤ 7 by omega) (show _ ≤ 7 by omega)) (by decide)
  refine lv_aload_n hx hb dX5_attacks_0 rfl (lv_at hl 0 rfl) ?_
  refine va_get (D := D) (ci := 4) (v := .ref b0) (C := RX5) (T := TX5) (N := 7) hx hb hG wu_X5 hown hK hP 0 rfl rfl 1 (by decide) (hG _ wf_X5_7) (fun _ h9 => h9) rfl dX5_attacks_1 ?_
  refine lv_iload_n hx hb dX5_attacks_4 rfl (lv_at hl 1 rfl) ?_
  refine lv_iload_n hx hb dX5_attacks_5 rfl (lv_at hl 2 rfl) ?_
  refine ln_iadd hx hb dX5_attacks_6 ?_
  refine va_iald hx hb hK hP 1 0 rfl rfl (vp_in_nI (by omega) (by decide)) dX5_attacks_7 ?_
  refine W.top (y := .int (F (b + f))) (congrArg (fun z => Value.int (F z)) (nI_clamp (by omega))) ?_
  refine W.top (y := .int (nI (bd f))) (congrArg Value.int hv9) ?_
  refine lv_istore (lv' := [(4, .int (nI (bd f))), (0, .ref hm), (1, .int (nI b)), (2, .int (nI f)), (3, .int (nI t))]) hx hb dX5_attacks_8 hl (by decide) rfl (fun ls hl => ?_)
  refine lv_iload hx hb dX5_attacks_10 (lv_at hl 0 rfl) ?_
  refine roI (rnS (As := [.int (nI (bd f))]) (rest := []) S0 (c_X5_kindOf l (bd f) (by omega)) wm_X5_40 wt_X5_kindOf wn_X5 wc_X5_kindOf hd_X5_kindOf ⟨rfl, rfl, by decide, by decide⟩ True.blind (fun _ _ _ => trivial) hl.1 (Nat.le_of_ble_eq_true rfl) dX5_attacks_12 rfl ⟨by decide, by decide⟩) (fun r_1 hr_1 => ?_)
  subst hr_1
  refine lv_istore (lv' := [(5, .int (nI (kd (bd f)))), (4, .int (nI (bd f))), (0, .ref hm), (1, .int (nI b)), (2, .int (nI f)), (3, .int (nI t))]) hx hb dX5_attacks_15 hl (by decide) rfl (fun ls hl => ?_)
  refine lv_iload_n hx hb dX5_attacks_17 rfl (lv_at hl 4 rfl) ?_
  refine lv_bipush (v := (nI 8)) hx hb dX5_attacks_18 (by decide) ?_
  refine ln_irem hx hb dX5_attacks_20 (by omega) (by decide) (by decide) ?_
  refine lv_iload_n hx hb dX5_attacks_21 rfl (lv_at hl 5 rfl) ?_
  refine lv_bipush (v := (nI 8)) hx hb dX5_attacks_22 (by decide) ?_
  refine ln_irem hx hb dX5_attacks_24 (by omega) (by decide) (by decide) ?_
  refine roI (rnS (As := [.int (nI (f % 8)), .int (nI (t % 8))]) (rest := []) S0 (c_X5_apart l (f % 8) (t % 8) (by omega) (by omega)) wm_X5_43 wt_X5_apart wn_X5 wc_X5_apart hd_X5_apart ⟨rfl, rfl, by decide, by decide⟩ True.blind (fun _ _ _ => trivial) hl.1 (Nat.le_of_ble_eq_true rfl) dX5_attacks_25 rfl ⟨by decide, by decide⟩) (fun r_2 hr_2 => ?_)
  subst hr_2
  refine lv_istore (lv' := [(6, .int (nI (ap (f % 8) (t % 8)))), (5, .int (nI (kd (bd f)))), (4, .int (nI (bd f))), (0, .ref hm), (1, .int (nI b)), (2, .int (nI f)), (3, .int (nI t))]) hx hb dX5_attacks_28 hl (by decide) rfl (fun ls hl => ?_)
  refine lv_iload_n hx hb dX5_attacks_30 rfl (lv_at hl 5 rfl) ?_
  refine lv_bipush (v := (nI 8)) hx hb dX5_attacks_31 (by decide) ?_
  refine ln_idiv hx hb dX5_attacks_33 (by omega) (by decide) (by decide) ?_
  refine lv_iload_n hx hb dX5_attacks_34 rfl (lv_at hl 6 rfl) ?_
  refine lv_bipush (v := (nI 8)) hx hb dX5_attacks_35 (by decide) ?_
  refine ln_idiv hx hb dX5_attacks_37 (by omega) (by decide) (by decide) ?_
  refine roI (rnS (As := [.int (nI (f / 8)), .int (nI (t / 8))]) (rest := []) S0 (c_X5_apart l (f / 8) (t / 8) (by omega) (by omega)) wm_X5_43 wt_X5_apart wn_X5 wc_X5_apart hd_X5_apart ⟨rfl, rfl, by decide, by decide⟩ True.blind (fun _ _ _ => trivial) hl.1 (Nat.le_of_ble_eq_true rfl) dX5_attacks_38 rfl ⟨by decide, by decide⟩) (fun r_3 hr_3 => ?_)
  subst hr_3
  refine lv_istore (lv' := [(7, .int (nI (ap (f / 8) (t / 8)))), (6, .int (nI (ap (f % 8) (t % 8)))), (5, .int (nI (kd (bd f)))), (4, .int (nI (bd f))), (0, .ref hm), (1, .int (nI b)), (2, .int (nI f)), (3, .int (nI t))]) hx hb dX5_attacks_41 hl (by decide) rfl (fun ls hl => ?_)
  refine lv_iload hx hb dX5_attacks_43 (lv_at hl 2 rfl) ?_
  refine ln_if_eq (tgt := 53) hx hb dX5_attacks_45 (by decide) (by omega) (fun c45 => ?_) (fun c45 => ?_)
  · skip
    refine lv_iconst (v := (nI 0)) hx hb dX5_attacks_53 (by decide) ?_
    exact reZ (v := false) hx hb hr hlocks dX5_attacks_54 (congrArg bI (atk_0 (by first | exact Or.inl c45 | exact Or.inr c50)).symm)
  · skip
    refine lv_iload_n hx hb dX5_attacks_48 rfl (lv_at hl 6 rfl) ?_
    refine lv_iload_n hx hb dX5_attacks_49 rfl (lv_at hl 7 rfl) ?_
    refine ln_icmp_ne (tgt := 55) hx hb dX5_attacks_50 (by decide) (by omega) (by omega) (fun c50 => ?_) (fun c50 => ?_)
    · skip
      refine lv_iload hx hb dX5_attacks_55 (lv_at hl 2 rfl) ?_
      refine lv_iconst (v := (nI 1)) hx hb dX5_attacks_57 (by decide) ?_
      refine ln_icmp_ne (tgt := 96) hx hb dX5_attacks_58 (by decide) (by omega) (by decide) (fun c58 => ?_) (fun c58 => ?_)
      · skip
        refine lv_iload hx hb dX5_attacks_96 (lv_at hl 2 rfl) ?_
        refine lv_iconst (v := (nI 2)) hx hb dX5_attacks_98 (by decide) ?_
        refine ln_icmp_ne (tgt := 117) hx hb dX5_attacks_99 (by decide) (by omega) (by decide) (fun c99 => ?_) (fun c99 => ?_)
        · skip
          refine lv_iload hx hb dX5_attacks_117 (lv_at hl 2 rfl) ?_
          refine lv_bipush (v := (nI 6)) hx hb dX5_attacks_119 (by decide) ?_
          refine ln_icmp_ne (tgt := 142) hx hb dX5_attacks_121 (by decide) (by omega) (by decide) (fun c121 => ?_) (fun c121 => ?_)
          · skip
            refine lv_iload hx hb dX5_attacks_142 (lv_at hl 1 rfl) ?_
            refine jnG 184 9 [(7, .int (nI (ap (f / 8) (t / 8)))), (6, .int (nI (ap (f % 8) (t % 8)))), (5, .int (nI (kd (bd f)))), (4, .int (nI (bd f))), (0, .ref hm), (1, .int (nI b)), (2, .int (nI f)), (3, .int (nI t))] [.int (bI (gz (kd (bd f)) (ap (f % 8) (t % 8)) (ap (f / 8) (t / 8))))] ?_ (fun hj_184 => ?_)
            · intro ls hl
              refine lv_istore (lv' := [(8, .int (bI (gz (kd (bd f)) (ap (f % 8) (t % 8)) (ap (f / 8) (t / 8))))), (7, .int (nI (ap (f / 8) (t / 8)))), (6, .int (nI (ap (f % 8) (t % 8)))), (5, .int (nI (kd (bd f)))), (4, .int (nI (bd f))), (0, .ref hm), (1, .int (nI b)), (2, .int (nI f)), (3, .int (nI t))]) hx hb dX5_attacks_184 hl (by decide) rfl (fun ls hl => ?_)
              refine lv_iload hx hb dX5_attacks_186 (lv_at hl 0 rfl) ?_
              refine lb_if_eq (tgt := 205) hx hb dX5_attacks_188 (by decide) (fun c188 => ?_) (fun c188 => ?_)
              · skip
                refine lv_iconst (v := (nI 0)) hx hb dX5_attacks_205 (by decide) ?_
                exact reZ (v := false) hx hb hr hlocks dX5_attacks_206 (congrArg bI (by rw [atk_s c45 c50 c58 c99 c121]; first | rw [c188, c198]; rfl | rw [c188]; rfl))
              · skip
                refine lv_aload_n hx hb dX5_attacks_191 rfl (lv_at hl 5 rfl) ?_
                refine lv_iload_n hx hb dX5_attacks_192 rfl (lv_at hl 6 rfl) ?_
                refine lv_iload_n hx hb dX5_attacks_193 rfl (lv_at hl 7 rfl) ?_
                refine lv_iload_n hx hb dX5_attacks_194 rfl (lv_at hl 8 rfl) ?_
                refine roI (rnV (As := [.int (nI b), .int (nI f), .int (nI t)]) (rest := []) S0 (c_X5_isFree l bd b f t hb9 hf ht (gz_lined c50 c188) hBp) wm_X5_47 wi_X5_isFree ws_X5_isFree wn_X5 wc_X5_isFree hd_X5_isFree ⟨rfl, rfl, by decide, by decide⟩ IW.blind (va_recv hK hP (ci := 4) (q0 := 0) rfl rfl) (IW.at hP hD hK hA hE hS) hl.1 (Nat.le_of_ble_eq_true rfl) dX5_attacks_195 rfl ⟨by decide, by decide⟩) (fun r_4 hr_4 => ?_)
                subst hr_4
                refine lb_if_eq (tgt := 205) hx hb dX5_attacks_198 (by decide) (fun c198 => ?_) (fun c198 => ?_)
                · skip
                  refine lv_iconst (v := (nI 0)) hx hb dX5_attacks_205 (by decide) ?_
                  exact reZ (v := false) hx hb hr hlocks dX5_attacks_206 (congrArg bI (by rw [atk_s c45 c50 c58 c99 c121]; first | rw [c188, c198]; rfl | rw [c188]; rfl))
                · skip
                  refine lv_iconst (v := (nI 1)) hx hb dX5_attacks_201 (by decide) ?_
                  refine lv_goto (tgt := 206) hx hb dX5_attacks_202 (by decide) ?_
                  exact reZ (v := true) hx hb hr hlocks dX5_attacks_206 (congrArg bI (by rw [atk_s c45 c50 c58 c99 c121]; first | rw [c188, c198]; rfl | rw [c188]; rfl))
            · skip
              refine ln_if_eq (tgt := 152) hx hb dX5_attacks_144 (by decide) (by omega) (fun c_5 => ?_) (fun c_5 => ?_)
              · skip
                refine lv_iload hx hb dX5_attacks_152 (lv_at hl 2 rfl) ?_
                refine lv_iconst (v := (nI 3)) hx hb dX5_attacks_154 (by decide) ?_
                refine ln_icmp_eq (tgt := 162) hx hb dX5_attacks_155 (by decide) (by omega) (by decide) (fun c_6 => ?_) (fun c_6 => ?_)
                · skip
                  refine lv_iconst (v := (nI 0)) hx hb dX5_attacks_162 (by decide) ?_
                  refine lv_goto (tgt := 184) hx hb dX5_attacks_163 (by decide) ?_
                  refine W.top (y := .int (bI (gz (kd (bd f)) (ap (f % 8) (t % 8)) (ap (f / 8) (t / 8))))) (congrArg Value.int (by unfold gz; (repeat' split) <;> first | omega | (rw [decide_eq_true (by omega)]; rfl) | (rw [decide_eq_false (by omega)]; rfl))) ?_
                  exact hj_184 ls (lv_sub hl [0, 1, 2, 3, 4, 5, 6, 7] rfl)
                · skip
                  refine lv_iconst (v := (nI 1)) hx hb dX5_attacks_158 (by decide) ?_
                  refine lv_goto (tgt := 184) hx hb dX5_attacks_159 (by decide) ?_
                  refine W.top (y := .int (bI (gz (kd (bd f)) (ap (f % 8) (t % 8)) (ap (f / 8) (t / 8))))) (congrArg Value.int (by unfold gz; (repeat' split) <;> first | omega | (rw [decide_eq_true (by omega)]; rfl) | (rw [decide_eq_false (by omega)]; rfl))) ?_
                  exact hj_184 ls (lv_sub hl [0, 1, 2, 3, 4, 5, 6, 7] rfl)
              · skip
                refine lv_iload hx hb dX5_attacks_147 (lv_at hl 0 rfl) ?_
                refine ln_if_ne (tgt := 166) hx hb dX5_attacks_149 (by decide) (by omega) (fun c_7 => ?_) (fun c_7 => ?_)
                · skip
                  refine lv_iload hx hb dX5_attacks_166 (lv_at hl 1 rfl) ?_
                  refine lv_iload hx hb dX5_attacks_168 (lv_at hl 0 rfl) ?_
                  refine ln_icmp_ne (tgt := 183) hx hb dX5_attacks_170 (by decide) (by omega) (by omega) (fun c_8 => ?_) (fun c_8 => ?_)
                  · skip
                    refine lv_iconst (v := (nI 0)) hx hb dX5_attacks_183 (by decide) ?_
                    refine W.top (y := .int (bI (gz (kd (bd f)) (ap (f % 8) (t % 8)) (ap (f / 8) (t / 8))))) (congrArg Value.int (by unfold gz; (repeat' split) <;> first | omega | (rw [decide_eq_true (by omega)]; rfl) | (rw [decide_eq_false (by omega)]; rfl))) ?_
                    exact hj_184 ls (lv_sub hl [0, 1, 2, 3, 4, 5, 6, 7] rfl)
                  · skip
                    refine lv_iload hx hb dX5_attacks_173 (lv_at hl 2 rfl) ?_
                    refine lv_iconst (v := (nI 4)) hx hb dX5_attacks_175 (by decide) ?_
                    refine ln_icmp_eq (tgt := 183) hx hb dX5_attacks_176 (by decide) (by omega) (by decide) (fun c_9 => ?_) (fun c_9 => ?_)
                    · skip
                      refine lv_iconst (v := (nI 0)) hx hb dX5_attacks_183 (by decide) ?_
                      refine W.top (y := .int (bI (gz (kd (bd f)) (ap (f % 8) (t % 8)) (ap (f / 8) (t / 8))))) (congrArg Value.int (by unfold gz; (repeat' split) <;> first | omega | (rw [decide_eq_true (by omega)]; rfl) | (rw [decide_eq_false (by omega)]; rfl))) ?_
                      exact hj_184 ls (lv_sub hl [0, 1, 2, 3, 4, 5, 6, 7] rfl)
                    · skip
                      refine lv_iconst (v := (nI 1)) hx hb dX5_attacks_179 (by decide) ?_
                      refine lv_goto (tgt := 184) hx hb dX5_attacks_180 (by decide) ?_
                      refine W.top (y := .int (bI (gz (kd (bd f)) (ap (f % 8) (t % 8)) (ap (f / 8) (t / 8))))) (congrArg Value.int (by unfold gz; (repeat' split) <;> first | omega | (rw [decide_eq_true (by omega)]; rfl) | (rw [decide_eq_false (by omega)]; rfl))) ?_
                      exact hj_184 ls (lv_sub hl [0, 1, 2, 3, 4, 5, 6, 7] rfl)
                · skip
                  refine lv_iload hx hb dX5_attacks_152 (lv_at hl 2 rfl) ?_
                  refine lv_iconst (v := (nI 3)) hx hb dX5_attacks_154 (by decide) ?_
                  refine ln_icmp_eq (tgt := 162) hx hb dX5_attacks_155 (by decide) (by omega) (by decide) (fun c_10 => ?_) (fun c_10 => ?_)
                  · skip
                    refine lv_iconst (v := (nI 0)) hx hb dX5_attacks_162 (by decide) ?_
                    refine lv_goto (tgt := 184) hx hb dX5_attacks_163 (by decide) ?_
                    refine W.top (y := .int (bI (gz (kd (bd f)) (ap (f % 8) (t % 8)) (ap (f / 8) (t / 8))))) (congrArg Value.int (by unfold gz; (repeat' split) <;> first | omega | (rw [decide_eq_true (by omega)]; rfl) | (rw [decide_eq_false (by omega)]; rfl))) ?_
                    exact hj_184 ls (lv_sub hl [0, 1, 2, 3, 4, 5, 6, 7] rfl)
                  · skip
                    refine lv_iconst (v := (nI 1)) hx hb dX5_attacks_158 (by decide) ?_
                    refine lv_goto (tgt := 184) hx hb dX5_attacks_159 (by decide) ?_
                    refine W.top (y := .int (bI (gz (kd (bd f)) (ap (f % 8) (t % 8)) (ap (f / 8) (t / 8))))) (congrArg Value.int (by unfold gz; (repeat' split) <;> first | omega | (rw [decide_eq_true (by omega)]; rfl) | (rw [decide_eq_false (by omega)]; rfl))) ?_
                    exact hj_184 ls (lv_sub hl [0, 1, 2, 3, 4, 5, 6, 7] rfl)
          · skip
            refine lv_iload hx hb dX5_attacks_124 (lv_at hl 1 rfl) ?_
            refine lv_iconst (v := (nI 2)) hx hb dX5_attacks_126 (by decide) ?_
            refine ln_icmp_ge (tgt := 140) hx hb dX5_attacks_127 (by decide) (by omega) (by decide) (fun c_11 => ?_) (fun c_11 => ?_)
            · skip
              refine lv_iconst (v := (nI 0)) hx hb dX5_attacks_140 (by decide) ?_
              exact reZ (v := false) hx hb hr hlocks dX5_attacks_141 (congrArg bI (by rw [atk_6 c50 c121]; symm; first | exact decide_eq_true ⟨by omega, by omega⟩ | exact decide_eq_false (fun h => by omega)))
            · skip
              refine lv_iload hx hb dX5_attacks_130 (lv_at hl 0 rfl) ?_
              refine lv_iconst (v := (nI 2)) hx hb dX5_attacks_132 (by decide) ?_
              refine ln_icmp_ge (tgt := 140) hx hb dX5_attacks_133 (by decide) (by omega) (by decide) (fun c_12 => ?_) (fun c_12 => ?_)
              · skip
                refine lv_iconst (v := (nI 0)) hx hb dX5_attacks_140 (by decide) ?_
                exact reZ (v := false) hx hb hr hlocks dX5_attacks_141 (congrArg bI (by rw [atk_6 c50 c121]; symm; first | exact decide_eq_true ⟨by omega, by omega⟩ | exact decide_eq_false (fun h => by omega)))
              · skip
                refine lv_iconst (v := (nI 1)) hx hb dX5_attacks_136 (by decide) ?_
                refine lv_goto (tgt := 141) hx hb dX5_attacks_137 (by decide) ?_
                exact reZ (v := true) hx hb hr hlocks dX5_attacks_141 (congrArg bI (by rw [atk_6 c50 c121]; symm; first | exact decide_eq_true ⟨by omega, by omega⟩ | exact decide_eq_false (fun h => by omega)))
        · skip
          refine lv_iload hx hb dX5_attacks_102 (lv_at hl 1 rfl) ?_
          refine lv_iload hx hb dX5_attacks_104 (lv_at hl 0 rfl) ?_
          refine ln_imul hx hb dX5_attacks_106 ?_
          refine lv_iconst (v := (nI 2)) hx hb dX5_attacks_107 (by decide) ?_
          refine ln_icmp_ne (tgt := 115) hx hb dX5_attacks_108 (by decide) (by omega) (by decide) (fun c_13 => ?_) (fun c_13 => ?_)
          · skip
            refine lv_iconst (v := (nI 0)) hx hb dX5_attacks_115 (by decide) ?_
            exact reZ (v := false) hx hb hr hlocks dX5_attacks_116 (congrArg bI (by rw [atk_2 c50 c99]; symm; first | exact decide_eq_true (by assumption) | exact decide_eq_false (by assumption)))
          · skip
            refine lv_iconst (v := (nI 1)) hx hb dX5_attacks_111 (by decide) ?_
            refine lv_goto (tgt := 116) hx hb dX5_attacks_112 (by decide) ?_
            exact reZ (v := true) hx hb hr hlocks dX5_attacks_116 (congrArg bI (by rw [atk_2 c50 c99]; symm; first | exact decide_eq_true (by assumption) | exact decide_eq_false (by assumption)))
      · skip
        refine lv_iload hx hb dX5_attacks_61 (lv_at hl 1 rfl) ?_
        refine lv_iconst (v := (nI 1)) hx hb dX5_attacks_63 (by decide) ?_
        refine ln_icmp_ne (tgt := 94) hx hb dX5_attacks_64 (by decide) (by omega) (by decide) (fun c_14 => ?_) (fun c_14 => ?_)
        · skip
          refine lv_iconst (v := (nI 0)) hx hb dX5_attacks_94 (by decide) ?_
          exact reZ (v := false) hx hb hr hlocks dX5_attacks_95 (congrArg bI (by rw [atk_1 hf ht c50 c58]; symm; first | exact decide_eq_true ⟨by assumption, by assumption⟩ | exact decide_eq_false (fun h => absurd h.1 (by assumption)) | exact decide_eq_false (fun h => absurd h.2 (by assumption))))
        · skip
          refine lv_iload_n hx hb dX5_attacks_67 rfl (lv_at hl 7 rfl) ?_
          refine lv_bipush (v := (nI 8)) hx hb dX5_attacks_68 (by decide) ?_
          refine ln_idiv hx hb dX5_attacks_70 (by omega) (by decide) (by decide) ?_
          refine lv_iload_n hx hb dX5_attacks_71 rfl (lv_at hl 6 rfl) ?_
          refine lv_bipush (v := (nI 8)) hx hb dX5_attacks_72 (by decide) ?_
          refine ln_idiv hx hb dX5_attacks_74 (by omega) (by decide) (by decide) ?_
          refine lv_isub hx hb dX5_attacks_75 ?_
          refine lv_iload hx hb dX5_attacks_76 (lv_at hl 3 rfl) ?_
          refine lv_iconst (v := (nI 1)) hx hb dX5_attacks_78 (by decide) ?_
          refine jnG 87 9 [(7, .int (nI (ap (f / 8) (t / 8)))), (6, .int (nI (ap (f % 8) (t % 8)))), (5, .int (nI (kd (bd f)))), (4, .int (nI (bd f))), (0, .ref hm), (1, .int (nI b)), (2, .int (nI f)), (3, .int (nI t))] [.int (if bd f = 1 then 1 else -1), .int ((nI (t / 8)) - (nI (f / 8)))] ?_ (fun hj_87 => ?_)
          · intro ls hl
            refine lv_icmp_ne (tgt := 94) hx hb dX5_attacks_87 (by decide) (fun c_15 => ?_) (fun c_15 => ?_)
            · skip
              refine lv_iconst (v := (nI 0)) hx hb dX5_attacks_94 (by decide) ?_
              exact reZ (v := false) hx hb hr hlocks dX5_attacks_95 (congrArg bI (by rw [atk_1 hf ht c50 c58]; symm; first | exact decide_eq_true ⟨by assumption, by assumption⟩ | exact decide_eq_false (fun h => absurd h.1 (by assumption)) | exact decide_eq_false (fun h => absurd h.2 (by assumption))))
            · skip
              refine lv_iconst (v := (nI 1)) hx hb dX5_attacks_90 (by decide) ?_
              refine lv_goto (tgt := 95) hx hb dX5_attacks_91 (by decide) ?_
              exact reZ (v := true) hx hb hr hlocks dX5_attacks_95 (congrArg bI (by rw [atk_1 hf ht c50 c58]; symm; first | exact decide_eq_true ⟨by assumption, by assumption⟩ | exact decide_eq_false (fun h => absurd h.1 (by assumption)) | exact decide_eq_false (fun h => absurd h.2 (by assumption))))
          · skip
            refine ln_icmp_ne (tgt := 86) hx hb dX5_attacks_79 (by decide) (by omega) (by decide) (fun c_16 => ?_) (fun c_16 => ?_)
            · skip
              refine lv_iconst (v := (-1)) hx hb dX5_attacks_86 (by decide) ?_
              refine W.top (y := .int (if bd f = 1 then 1 else -1)) (congrArg Value.int (by first | rw [if_pos (by assumption)]; rfl | rw [if_neg (by assumption)])) ?_
              exact hj_87 ls (lv_sub hl [0, 1, 2, 3, 4, 5, 6, 7] rfl)
            · skip
              refine lv_iconst (v := (nI 1)) hx hb dX5_attacks_82 (by decide) ?_
              refine lv_goto (tgt := 87) hx hb dX5_attacks_83 (by decide) ?_
              refine W.top (y := .int (if bd f = 1 then 1 else -1)) (congrArg Value.int (by first | rw [if_pos (by assumption)]; rfl | rw [if_neg (by assumption)])) ?_
              exact hj_87 ls (lv_sub hl [0, 1, 2, 3, 4, 5, 6, 7] rfl)
    · skip
      refine lv_iconst (v := (nI 0)) hx hb dX5_attacks_53 (by decide) ?_
      exact reZ (v := false) hx hb hr hlocks dX5_attacks_54 (congrArg bI (atk_0 (by first | exact Or.inl c45 | exact Or.inr c50)).symm)
theorem dX5_isAttacked_0 : decode cX5_isAttacked 0 = .ok (.iconst 0, 1) := by decide +kernel
theorem dX5_isAttacked_1 : decode cX5_isAttacked 1 = .ok (.istore 4, 2) := by decide +kernel
theorem dX5_isAttacked_3 : decode cX5_isAttacked 3 = .ok (.iconst 0, 1) := by decide +kernel
theorem dX5_isAttacked_4 : decode cX5_isAttacked 4 = .ok (.istore 5, 2) := by decide +kernel
theorem dX5_isAttacked_6 : decode cX5_isAttacked 6 = .ok (.iload 5, 2) := by decide +kernel
theorem dX5_isAttacked_8 : decode cX5_isAttacked 8 = .ok (.bipush 64, 2) := by decide +kernel
theorem dX5_isAttacked_10 : decode cX5_isAttacked 10 = .ok (.if_icmp .ge 48, 3) := by decide +kernel
theorem dX5_isAttacked_13 : decode cX5_isAttacked 13 = .ok (.iload 4, 2) := by decide +kernel
theorem dX5_isAttacked_15 : decode cX5_isAttacked 15 = .ok (.ifCond .ne 43, 3) := by decide +kernel
theorem dX5_isAttacked_18 : decode cX5_isAttacked 18 = .ok (.aload_n 0, 1) := by decide +kernel
theorem dX5_isAttacked_19 : decode cX5_isAttacked 19 = .ok (.getfield 7, 3) := by decide +kernel
theorem dX5_isAttacked_22 : decode cX5_isAttacked 22 = .ok (.iload_n 1, 1) := by decide +kernel
theorem dX5_isAttacked_23 : decode cX5_isAttacked 23 = .ok (.iload 5, 2) := by decide +kernel
theorem dX5_isAttacked_25 : decode cX5_isAttacked 25 = .ok (.iadd, 1) := by decide +kernel
theorem dX5_isAttacked_26 : decode cX5_isAttacked 26 = .ok (.iaload, 1) := by decide +kernel
theorem dX5_isAttacked_27 : decode cX5_isAttacked 27 = .ok (.invokestatic 51, 3) := by decide +kernel
theorem dX5_isAttacked_30 : decode cX5_isAttacked 30 = .ok (.iload_n 3, 1) := by decide +kernel
theorem dX5_isAttacked_31 : decode cX5_isAttacked 31 = .ok (.if_icmp .ne 18, 3) := by decide +kernel
theorem dX5_isAttacked_34 : decode cX5_isAttacked 34 = .ok (.aload_n 0, 1) := by decide +kernel
theorem dX5_isAttacked_35 : decode cX5_isAttacked 35 = .ok (.iload_n 1, 1) := by decide +kernel
theorem dX5_isAttacked_36 : decode cX5_isAttacked 36 = .ok (.iload 5, 2) := by decide +kernel
theorem dX5_isAttacked_38 : decode cX5_isAttacked 38 = .ok (.iload_n 2, 1) := by decide +kernel
theorem dX5_isAttacked_39 : decode cX5_isAttacked 39 = .ok (.invokevirtual 54, 3) := by decide +kernel
theorem dX5_isAttacked_42 : decode cX5_isAttacked 42 = .ok (.ifCond .eq 7, 3) := by decide +kernel
theorem dX5_isAttacked_45 : decode cX5_isAttacked 45 = .ok (.iconst 1, 1) := by decide +kernel
theorem dX5_isAttacked_46 : decode cX5_isAttacked 46 = .ok (.goto 4, 3) := by decide +kernel
theorem dX5_isAttacked_49 : decode cX5_isAttacked 49 = .ok (.iconst 0, 1) := by decide +kernel
theorem dX5_isAttacked_50 : decode cX5_isAttacked 50 = .ok (.istore 4, 2) := by decide +kernel
theorem dX5_isAttacked_52 : decode cX5_isAttacked 52 = .ok (.iinc 5 1, 3) := by decide +kernel
theorem dX5_isAttacked_55 : decode cX5_isAttacked 55 = .ok (.goto (-49), 3) := by decide +kernel
theorem dX5_isAttacked_58 : decode cX5_isAttacked 58 = .ok (.iload 4, 2) := by decide +kernel
theorem dX5_isAttacked_60 : decode cX5_isAttacked 60 = .ok (.ireturn, 1) := by decide +kernel
theorem hd_X5_isAttacked : yX5_isAttacked.cls ≠ "java/lang/invoke/MethodHandle" ∧ yX5_isAttacked.cls ≠ "java/lang/invoke/VarHandle" ∧ (parseMethodDescriptor yX5_isAttacked.desc).map (fun d => d.parameters.length) = some 3 := by decide +kernel
set_option maxHeartbeats 4000000 in
set_option maxRecDepth 100000 in
/-- isAttacked -/
theorem c_X5_isAttacked (l : Launch) {D : va_G} {cI cJ : ClassId} {A : Nat → Prop} {hm b0 b1 b2 b3 : Nat} {th mk sz : Int32} {F mv kp li : Nat → Int32} (bd : Nat → Nat) (b q w : Nat) (hb9 : b ≤ 300) (hq : q < 64) (hw : w < 2) (hBp : Bp F b bd) : Met l yX5_isAttacked (Cond.code yX5_isAttacked cX5_isAttacked 6 (some .boolean) :: wsL_law) (rK 2) (va_Pc [.ref hm, .int (nI b), .int (nI q), .int (nI w)] (IW D cI cJ A (rW cI hm b0 b1 b2 b3 th mk sz F mv kp li))) (vp_Si (fun r => r = bI (isA bd q w))) 0 0 (fun _ => False) := by
  refine entM (by decide) (Nat.le_of_ble_eq_true rfl) ?_
  intro p e s m below meth c ls S0 hr hlocks hG hnm hB hl
  have hx := S0.1
  have hb := S0.2.1
  have hown := S0.2.2.2.1
  have hl : lv_has ls 6 [(0, .ref hm), (1, .int (nI b)), (2, .int (nI q)), (3, .int (nI w))] := hl
  obtain ⟨hP, hD, hK, hA, hE⟩ := hB
  have hS : va_S A s.heap s.heap [] := va_S.rf
  refine lv_iconst (v := (nI 0)) hx hb dX5_isAttacked_0 (by decide) ?_
  refine W.top (y := .int (bI (anyN bd q w 0))) (congrArg Value.int rfl) ?_
  refine lv_istore (lv' := [(4, .int (bI (anyN bd q w 0))), (0, .ref hm), (1, .int (nI b)), (2, .int (nI q)), (3, .int (nI w))]) hx hb dX5_isAttacked_1 hl (by decide) rfl (fun ls hl => ?_)
  refine lv_iconst (v := (nI 0)) hx hb dX5_isAttacked_3 (by decide) ?_
  refine lv_istore (lv' := [(5, .int (nI 0)), (4, .int (bI (anyN bd q w 0))), (0, .ref hm), (1, .int (nI b)), (2, .int (nI q)), (3, .int (nI w))]) hx hb dX5_isAttacked_4 hl (by decide) rfl (fun ls hl => ?_)
  refine lpR (σ := Nat) 6 6 [] (fun x9 => [(0, .ref hm), (1, .int (nI b)), (2, .int (nI q)), (3, .int (nI w)), (4, .int (bI (anyN bd q w x9))), (5, .int (nI x9))]) (fun x9 => x9 ≤ 64) (fun x9 => 64 - x9) 0 (Nat.zero_le _) (lv_sub hl [2, 3, 4, 5, 1, 0] rfl) ?_
  clear hl ls
  rintro i hI ih ls hl
  try dsimp only at hI ih hl
  refine lv_iload hx hb dX5_isAttacked_6 (lv_at hl 5 rfl) ?_
  refine lv_bipush (v := (nI 64)) hx hb dX5_isAttacked_8 (by decide) ?_
  refine ln_icmp_ge (tgt := 58) hx hb dX5_isAttacked_10 (by decide) (by omega) (by decide) (fun c10 => ?_) (fun c10 => ?_)
  · skip
    refine lv_iload hx hb dX5_isAttacked_58 (lv_at hl 4 rfl) ?_
    exact reZ (v := anyN bd q w i) hx hb hr hlocks dX5_isAttacked_60 (congrArg bI (by first | (rw [c15, anyN_t (by omega) c15]) | (rw [show i = 64 by omega]; rfl)))
  · skip
    have hi : i < 64 := by omega
    obtain ⟨hv9, hk9⟩ := hBp i hi
    refine lv_iload hx hb dX5_isAttacked_13 (lv_at hl 4 rfl) ?_
    refine lb_if_ne (tgt := 58) hx hb dX5_isAttacked_15 (by decide) (fun c15 => ?_) (fun c15 => ?_)
    · skip
      refine lv_iload hx hb dX5_isAttacked_58 (lv_at hl 4 rfl) ?_
      exact reZ (v := anyN bd q w i) hx hb hr hlocks dX5_isAttacked_60 (congrArg bI (by first | (rw [c15, anyN_t (by omega) c15]) | (rw [show i = 64 by omega]; rfl)))
    · skip
      refine lv_aload_n hx hb dX5_isAttacked_18 rfl (lv_at hl 0 rfl) ?_
      refine va_get (D := D) (ci := 4) (v := .ref b0) (C := RX5) (T := TX5) (N := 7) hx hb hG wu_X5 hown hK hP 0 rfl rfl 1 (by decide) (hG _ wf_X5_7) (fun _ h9 => h9) rfl dX5_isAttacked_19 ?_
      refine lv_iload_n hx hb dX5_isAttacked_22 rfl (lv_at hl 1 rfl) ?_
      refine lv_iload hx hb dX5_isAttacked_23 (lv_at hl 5 rfl) ?_
      refine ln_iadd hx hb dX5_isAttacked_25 ?_
      refine va_iald hx hb hK hP 1 0 rfl rfl (vp_in_nI (by omega) (by decide)) dX5_isAttacked_26 ?_
      refine W.top (y := .int (F (b + i))) (congrArg (fun z => Value.int (F z)) (nI_clamp (by omega))) ?_
      refine W.top (y := .int (nI (bd i))) (congrArg Value.int hv9) ?_
      refine roI (rnS (As := [.int (nI (bd i))]) (rest := []) S0 (c_X5_sideOf l (bd i) (by omega)) wm_X5_51 wt_X5_sideOf wn_X5 wc_X5_sideOf hd_X5_sideOf ⟨rfl, rfl, by decide, by decide⟩ True.blind (fun _ _ _ => trivial) hl.1 (Nat.le_of_ble_eq_true rfl) dX5_isAttacked_27 rfl ⟨by decide, by decide⟩) (fun r_1 hr_1 => ?_)
      subst hr_1
      refine lv_iload_n hx hb dX5_isAttacked_30 rfl (lv_at hl 3 rfl) ?_
      refine jnG 50 6 [(0, .ref hm), (1, .int (nI b)), (2, .int (nI q)), (3, .int (nI w)), (4, .int (bI (anyN bd q w i))), (5, .int (nI i))] [.int (bI (anyN bd q w (i + 1)))] ?_ (fun hj_50 => ?_)
      · intro ls hl
        refine lv_istore (lv' := [(4, .int (bI (anyN bd q w (i + 1)))), (0, .ref hm), (1, .int (nI b)), (2, .int (nI q)), (3, .int (nI w)), (5, .int (nI i))]) hx hb dX5_isAttacked_50 hl (by decide) rfl (fun ls hl => ?_)
        refine lv_iinc (v := (nI (i + 1))) (lv' := [(5, .int (nI (i + 1))), (4, .int (bI (anyN bd q w (i + 1)))), (0, .ref hm), (1, .int (nI b)), (2, .int (nI q)), (3, .int (nI w))]) hx hb dX5_isAttacked_52 hl (k := 5) rfl (show nI i + Int32.ofInt 1 = nI (i + 1) from nI_add _ 1) (by decide) rfl (fun ls hl => ?_)
        refine lv_goto (tgt := 6) hx hb dX5_isAttacked_55 (by decide) ?_
        exact ih (i + 1) (by omega) (by (try dsimp only); omega) ls (lv_sub hl [2, 3, 4, 5, 1, 0] rfl)
      · skip
        refine lv_icmp_ne (tgt := 49) hx hb dX5_isAttacked_31 (by decide) (fun c31 => ?_) (fun c31 => ?_)
        · skip
          rw [sdI_eq hw] at c31
          refine lv_iconst (v := (nI 0)) hx hb dX5_isAttacked_49 (by decide) ?_
          refine W.top (y := .int (bI (anyN bd q w (i + 1)))) (congrArg Value.int (by rw [anyN_s, c15]; first | rw [decide_eq_false (by assumption)]; rfl | (rw [decide_eq_true (by assumption), c42]; rfl))) ?_
          exact hj_50 ls (lv_sub hl [0, 1, 2, 3, 4, 5] rfl)
        · skip
          rw [sdI_eq hw] at c31
          refine lv_aload_n hx hb dX5_isAttacked_34 rfl (lv_at hl 0 rfl) ?_
          refine lv_iload_n hx hb dX5_isAttacked_35 rfl (lv_at hl 1 rfl) ?_
          refine lv_iload hx hb dX5_isAttacked_36 (lv_at hl 5 rfl) ?_
          refine lv_iload_n hx hb dX5_isAttacked_38 rfl (lv_at hl 2 rfl) ?_
          refine roI (rnV (As := [.int (nI b), .int (nI i), .int (nI q)]) (rest := []) S0 (c_X5_attacks l bd b i q hb9 hi hq hBp) wm_X5_54 wi_X5_attacks ws_X5_attacks wn_X5 wc_X5_attacks hd_X5_attacks ⟨rfl, rfl, by decide, by decide⟩ IW.blind (va_recv hK hP (ci := 4) (q0 := 0) rfl rfl) (IW.at hP hD hK hA hE hS) hl.1 (Nat.le_of_ble_eq_true rfl) dX5_isAttacked_39 rfl ⟨by decide, by decide⟩) (fun r_2 hr_2 => ?_)
          subst hr_2
          refine lb_if_eq (tgt := 49) hx hb dX5_isAttacked_42 (by decide) (fun c42 => ?_) (fun c42 => ?_)
          · skip
            refine lv_iconst (v := (nI 0)) hx hb dX5_isAttacked_49 (by decide) ?_
            refine W.top (y := .int (bI (anyN bd q w (i + 1)))) (congrArg Value.int (by rw [anyN_s, c15]; first | rw [decide_eq_false (by assumption)]; rfl | (rw [decide_eq_true (by assumption), c42]; rfl))) ?_
            exact hj_50 ls (lv_sub hl [0, 1, 2, 3, 4, 5] rfl)
          · skip
            refine lv_iconst (v := (nI 1)) hx hb dX5_isAttacked_45 (by decide) ?_
            refine lv_goto (tgt := 50) hx hb dX5_isAttacked_46 (by decide) ?_
            refine W.top (y := .int (bI (anyN bd q w (i + 1)))) (congrArg Value.int (by rw [anyN_s, c15]; first | rw [decide_eq_false (by assumption)]; rfl | (rw [decide_eq_true (by assumption), c42]; rfl))) ?_
            exact hj_50 ls (lv_sub hl [0, 1, 2, 3, 4, 5] rfl)
theorem dX5_kingOf_0 : decode cX5_kingOf 0 = .ok (.iconst (-1), 1) := by decide +kernel
theorem dX5_kingOf_1 : decode cX5_kingOf 1 = .ok (.istore_n 3, 1) := by decide +kernel
theorem dX5_kingOf_2 : decode cX5_kingOf 2 = .ok (.iconst 0, 1) := by decide +kernel
theorem dX5_kingOf_3 : decode cX5_kingOf 3 = .ok (.istore 4, 2) := by decide +kernel
theorem dX5_kingOf_5 : decode cX5_kingOf 5 = .ok (.iconst 0, 1) := by decide +kernel
theorem dX5_kingOf_6 : decode cX5_kingOf 6 = .ok (.istore 5, 2) := by decide +kernel
theorem dX5_kingOf_8 : decode cX5_kingOf 8 = .ok (.iload 5, 2) := by decide +kernel
theorem dX5_kingOf_10 : decode cX5_kingOf 10 = .ok (.bipush 64, 2) := by decide +kernel
theorem dX5_kingOf_12 : decode cX5_kingOf 12 = .ok (.if_icmp .ge 34, 3) := by decide +kernel
theorem dX5_kingOf_15 : decode cX5_kingOf 15 = .ok (.aload_n 0, 1) := by decide +kernel
theorem dX5_kingOf_16 : decode cX5_kingOf 16 = .ok (.getfield 7, 3) := by decide +kernel
theorem dX5_kingOf_19 : decode cX5_kingOf 19 = .ok (.iload_n 1, 1) := by decide +kernel
theorem dX5_kingOf_20 : decode cX5_kingOf 20 = .ok (.iload 5, 2) := by decide +kernel
theorem dX5_kingOf_22 : decode cX5_kingOf 22 = .ok (.iadd, 1) := by decide +kernel
theorem dX5_kingOf_23 : decode cX5_kingOf 23 = .ok (.iaload, 1) := by decide +kernel
theorem dX5_kingOf_24 : decode cX5_kingOf 24 = .ok (.bipush 6, 2) := by decide +kernel
theorem dX5_kingOf_26 : decode cX5_kingOf 26 = .ok (.bipush 6, 2) := by decide +kernel
theorem dX5_kingOf_28 : decode cX5_kingOf 28 = .ok (.iload_n 2, 1) := by decide +kernel
theorem dX5_kingOf_29 : decode cX5_kingOf 29 = .ok (.imul, 1) := by decide +kernel
theorem dX5_kingOf_30 : decode cX5_kingOf 30 = .ok (.iadd, 1) := by decide +kernel
theorem dX5_kingOf_31 : decode cX5_kingOf 31 = .ok (.if_icmp .ne 9, 3) := by decide +kernel
theorem dX5_kingOf_34 : decode cX5_kingOf 34 = .ok (.iload 5, 2) := by decide +kernel
theorem dX5_kingOf_36 : decode cX5_kingOf 36 = .ok (.istore_n 3, 1) := by decide +kernel
theorem dX5_kingOf_37 : decode cX5_kingOf 37 = .ok (.iinc 4 1, 3) := by decide +kernel
theorem dX5_kingOf_40 : decode cX5_kingOf 40 = .ok (.iinc 5 1, 3) := by decide +kernel
theorem dX5_kingOf_43 : decode cX5_kingOf 43 = .ok (.goto (-35), 3) := by decide +kernel
theorem dX5_kingOf_46 : decode cX5_kingOf 46 = .ok (.iload 4, 2) := by decide +kernel
theorem dX5_kingOf_48 : decode cX5_kingOf 48 = .ok (.iconst 1, 1) := by decide +kernel
theorem dX5_kingOf_49 : decode cX5_kingOf 49 = .ok (.if_icmp .ne 7, 3) := by decide +kernel
theorem dX5_kingOf_52 : decode cX5_kingOf 52 = .ok (.iload_n 3, 1) := by decide +kernel
theorem dX5_kingOf_53 : decode cX5_kingOf 53 = .ok (.goto 4, 3) := by decide +kernel
theorem dX5_kingOf_56 : decode cX5_kingOf 56 = .ok (.iconst (-1), 1) := by decide +kernel
theorem dX5_kingOf_57 : decode cX5_kingOf 57 = .ok (.ireturn, 1) := by decide +kernel
theorem hd_X5_kingOf : yX5_kingOf.cls ≠ "java/lang/invoke/MethodHandle" ∧ yX5_kingOf.cls ≠ "java/lang/invoke/VarHandle" ∧ (parseMethodDescriptor yX5_kingOf.desc).map (fun d => d.parameters.length) = some 2 := by decide +kernel
set_option maxHeartbeats 4000000 in
set_option maxRecDepth 100000 in
/-- kingOf -/
theorem c_X5_kingOf (l : Launch) {D : va_G} {cI cJ : ClassId} {A : Nat → Prop} {hm b0 b1 b2 b3 : Nat} {th mk sz : Int32} {F mv kp li : Nat → Int32} (bd : Nat → Nat) (b w : Nat) (hb9 : b ≤ 300) (hw : w < 2) (hBp : Bp F b bd) : Met l yX5_kingOf (Cond.code yX5_kingOf cX5_kingOf 6 (some .int) :: wsL_law) (rK 0) (va_Pc [.ref hm, .int (nI b), .int (nI w)] (IW D cI cJ A (rW cI hm b0 b1 b2 b3 th mk sz F mv kp li))) (vp_Si (fun r => r = pI (kgs bd w))) 0 0 (fun _ => False) := by
  refine entM (by decide) (Nat.le_of_ble_eq_true rfl) ?_
  intro p e s m below meth c ls S0 hr hlocks hG hnm hB hl
  have hx := S0.1
  have hb := S0.2.1
  have hown := S0.2.2.2.1
  have hl : lv_has ls 6 [(0, .ref hm), (1, .int (nI b)), (2, .int (nI w))] := hl
  obtain ⟨hP, hD, hK, hA, hE⟩ := hB
  have hS : va_S A s.heap s.heap [] := va_S.rf
  refine lv_iconst (v := (-1)) hx hb dX5_kingOf_0 (by decide) ?_
  refine W.top (y := .int (pI (kat bd w 0))) (congrArg Value.int rfl) ?_
  refine lv_istore_n (lv' := [(3, .int (pI (kat bd w 0))), (0, .ref hm), (1, .int (nI b)), (2, .int (nI w))]) hx hb dX5_kingOf_1 rfl hl (by decide) rfl (fun ls hl => ?_)
  refine lv_iconst (v := (nI 0)) hx hb dX5_kingOf_2 (by decide) ?_
  refine W.top (y := .int (nI (kc bd w 0))) (congrArg Value.int rfl) ?_
  refine lv_istore (lv' := [(4, .int (nI (kc bd w 0))), (3, .int (pI (kat bd w 0))), (0, .ref hm), (1, .int (nI b)), (2, .int (nI w))]) hx hb dX5_kingOf_3 hl (by decide) rfl (fun ls hl => ?_)
  refine lv_iconst (v := (nI 0)) hx hb dX5_kingOf_5 (by decide) ?_
  refine lv_istore (lv' := [(5, .int (nI 0)), (4, .int (nI (kc bd w 0))), (3, .int (pI (kat bd w 0))), (0, .ref hm), (1, .int (nI b)), (2, .int (nI w))]) hx hb dX5_kingOf_6 hl (by decide) rfl (fun ls hl => ?_)
  refine lpR (σ := Nat) 8 6 [] (fun x9 => [(0, .ref hm), (1, .int (nI b)), (2, .int (nI w)), (3, .int (pI (kat bd w x9))), (4, .int (nI (kc bd w x9))), (5, .int (nI x9))]) (fun x9 => x9 ≤ 64) (fun x9 => 64 - x9) 0 (Nat.zero_le _) (lv_sub hl [3, 4, 5, 2, 1, 0] rfl) ?_
  clear hl ls
  rintro i hI ih ls hl
  try dsimp only at hI ih hl
  have hkc := kc_le bd w i
  refine lv_iload hx hb dX5_kingOf_8 (lv_at hl 5 rfl) ?_
  refine lv_bipush (v := (nI 64)) hx hb dX5_kingOf_10 (by decide) ?_
  refine ln_icmp_ge (tgt := 46) hx hb dX5_kingOf_12 (by decide) (by omega) (by decide) (fun c_1 => ?_) (fun c_1 => ?_)
  · skip
    have hi64 : i = 64 := by omega
    refine lv_iload hx hb dX5_kingOf_46 (lv_at hl 4 rfl) ?_
    refine lv_iconst (v := (nI 1)) hx hb dX5_kingOf_48 (by decide) ?_
    refine jnG 57 6 [(0, .ref hm), (1, .int (nI b)), (2, .int (nI w)), (3, .int (pI (kat bd w i))), (4, .int (nI (kc bd w i))), (5, .int (nI i))] [.int (pI (kgs bd w))] ?_ (fun hj_57 => ?_)
    · intro ls hl
      exact reI hx hb hr hlocks dX5_kingOf_57 rfl
    · skip
      refine ln_icmp_ne (tgt := 56) hx hb dX5_kingOf_49 (by decide) (by omega) (by decide) (fun c49 => ?_) (fun c49 => ?_)
      · skip
        rw [hi64] at c49
        refine lv_iconst (v := (-1)) hx hb dX5_kingOf_56 (by decide) ?_
        refine W.top (y := .int (pI (kgs bd w))) (congrArg Value.int (by first | (rw [hi64]; unfold kgs; rw [if_pos c49]) | (unfold kgs; rw [if_neg c49, pI_64]))) ?_
        exact hj_57 ls (lv_sub hl [0, 1, 2, 3, 4, 5] rfl)
      · skip
        rw [hi64] at c49
        refine lv_iload_n hx hb dX5_kingOf_52 rfl (lv_at hl 3 rfl) ?_
        refine lv_goto (tgt := 57) hx hb dX5_kingOf_53 (by decide) ?_
        refine W.top (y := .int (pI (kgs bd w))) (congrArg Value.int (by first | (rw [hi64]; unfold kgs; rw [if_pos c49]) | (unfold kgs; rw [if_neg c49, pI_64]))) ?_
        exact hj_57 ls (lv_sub hl [0, 1, 2, 3, 4, 5] rfl)
  · skip
    have hi : i < 64 := by omega
    obtain ⟨hv9, hk9⟩ := hBp i hi
    refine lv_aload_n hx hb dX5_kingOf_15 rfl (lv_at hl 0 rfl) ?_
    refine va_get (D := D) (ci := 4) (v := .ref b0) (C := RX5) (T := TX5) (N := 7) hx hb hG wu_X5 hown hK hP 0 rfl rfl 1 (by decide) (hG _ wf_X5_7) (fun _ h9 => h9) rfl dX5_kingOf_16 ?_
    refine lv_iload_n hx hb dX5_kingOf_19 rfl (lv_at hl 1 rfl) ?_
    refine lv_iload hx hb dX5_kingOf_20 (lv_at hl 5 rfl) ?_
    refine ln_iadd hx hb dX5_kingOf_22 ?_
    refine va_iald hx hb hK hP 1 0 rfl rfl (vp_in_nI (by omega) (by decide)) dX5_kingOf_23 ?_
    refine W.top (y := .int (F (b + i))) (congrArg (fun z => Value.int (F z)) (nI_clamp (by omega))) ?_
    refine W.top (y := .int (nI (bd i))) (congrArg Value.int hv9) ?_
    refine lv_bipush (v := (nI 6)) hx hb dX5_kingOf_24 (by decide) ?_
    refine lv_bipush (v := (nI 6)) hx hb dX5_kingOf_26 (by decide) ?_
    refine lv_iload_n hx hb dX5_kingOf_28 rfl (lv_at hl 2 rfl) ?_
    refine ln_imul hx hb dX5_kingOf_29 ?_
    refine ln_iadd hx hb dX5_kingOf_30 ?_
    refine jnG 40 6 [(0, .ref hm), (1, .int (nI b)), (2, .int (nI w)), (3, .int (pI (kat bd w (i + 1)))), (4, .int (nI (kc bd w (i + 1)))), (5, .int (nI i))] [] ?_ (fun hj_40 => ?_)
    · intro ls hl
      refine lv_iinc (v := (nI (i + 1))) (lv' := [(5, .int (nI (i + 1))), (0, .ref hm), (1, .int (nI b)), (2, .int (nI w)), (3, .int (pI (kat bd w (i + 1)))), (4, .int (nI (kc bd w (i + 1))))]) hx hb dX5_kingOf_40 hl (k := 5) rfl (show nI i + Int32.ofInt 1 = nI (i + 1) from nI_add _ 1) (by decide) rfl (fun ls hl => ?_)
      refine lv_goto (tgt := 8) hx hb dX5_kingOf_43 (by decide) ?_
      exact ih (i + 1) (by omega) (by (try dsimp only); omega) ls (lv_sub hl [1, 2, 3, 4, 5, 0] rfl)
    · skip
      refine ln_icmp_ne (tgt := 40) hx hb dX5_kingOf_31 (by decide) (by omega) (by omega) (fun c31 => ?_) (fun c31 => ?_)
      · skip
        have hl2 : lv_has ls 6 [(0, .ref hm), (1, .int (nI b)), (2, .int (nI w)), (3, .int (pI (kat bd w i))), (4, .int (nI (kc bd w i))), (5, .int (nI i))] := by
          exact lv_sub hl [0, 1, 2, 3, 4, 5] rfl
        exact hj_40 ls (by have e9 : ([(0, .ref hm), (1, .int (nI b)), (2, .int (nI w)), (3, .int (pI (kat bd w i))), (4, .int (nI (kc bd w i))), (5, .int (nI i))] : List (Nat × Value)) = [(0, .ref hm), (1, .int (nI b)), (2, .int (nI w)), (3, .int (pI (kat bd w (i + 1)))), (4, .int (nI (kc bd w (i + 1)))), (5, .int (nI i))] := (by first | simp only [kat, kc, if_neg c31, Nat.add_zero] | simp only [kat, kc, if_pos c31, pI, if_pos hi]); rw [← e9]; exact hl2)
      · skip
        refine lv_iload hx hb dX5_kingOf_34 (lv_at hl 5 rfl) ?_
        refine lv_istore_n (lv' := [(3, .int (nI i)), (0, .ref hm), (1, .int (nI b)), (2, .int (nI w)), (4, .int (nI (kc bd w i))), (5, .int (nI i))]) hx hb dX5_kingOf_36 rfl hl (by decide) rfl (fun ls hl => ?_)
        refine lv_iinc (v := (nI ((kc bd w i) + 1))) (lv' := [(4, .int (nI ((kc bd w i) + 1))), (3, .int (nI i)), (0, .ref hm), (1, .int (nI b)), (2, .int (nI w)), (5, .int (nI i))]) hx hb dX5_kingOf_37 hl (k := 4) rfl (show nI (kc bd w i) + Int32.ofInt 1 = nI ((kc bd w i) + 1) from nI_add _ 1) (by decide) rfl (fun ls hl => ?_)
        have hl2 : lv_has ls 6 [(0, .ref hm), (1, .int (nI b)), (2, .int (nI w)), (3, .int (nI i)), (4, .int (nI ((kc bd w i) + 1))), (5, .int (nI i))] := by
          exact lv_sub hl [2, 3, 4, 1, 0, 5] rfl
        exact hj_40 ls (by have e9 : ([(0, .ref hm), (1, .int (nI b)), (2, .int (nI w)), (3, .int (nI i)), (4, .int (nI ((kc bd w i) + 1))), (5, .int (nI i))] : List (Nat × Value)) = [(0, .ref hm), (1, .int (nI b)), (2, .int (nI w)), (3, .int (pI (kat bd w (i + 1)))), (4, .int (nI (kc bd w (i + 1)))), (5, .int (nI i))] := (by first | simp only [kat, kc, if_neg c31, Nat.add_zero] | simp only [kat, kc, if_pos c31, pI, if_pos hi]); rw [← e9]; exact hl2)
theorem dX5_isChecked_0 : decode cX5_isChecked 0 = .ok (.aload_n 0, 1) := by decide +kernel
theorem dX5_isChecked_1 : decode cX5_isChecked 1 = .ok (.iload_n 1, 1) := by decide +kernel
theorem dX5_isChecked_2 : decode cX5_isChecked 2 = .ok (.aload_n 0, 1) := by decide +kernel
theorem dX5_isChecked_3 : decode cX5_isChecked 3 = .ok (.iload_n 1, 1) := by decide +kernel
theorem dX5_isChecked_4 : decode cX5_isChecked 4 = .ok (.iload_n 2, 1) := by decide +kernel
theorem dX5_isChecked_5 : decode cX5_isChecked 5 = .ok (.invokevirtual 57, 3) := by decide +kernel
theorem dX5_isChecked_8 : decode cX5_isChecked 8 = .ok (.iconst 1, 1) := by decide +kernel
theorem dX5_isChecked_9 : decode cX5_isChecked 9 = .ok (.iload_n 2, 1) := by decide +kernel
theorem dX5_isChecked_10 : decode cX5_isChecked 10 = .ok (.isub, 1) := by decide +kernel
theorem dX5_isChecked_11 : decode cX5_isChecked 11 = .ok (.invokevirtual 60, 3) := by decide +kernel
theorem dX5_isChecked_14 : decode cX5_isChecked 14 = .ok (.ireturn, 1) := by decide +kernel
theorem hd_X5_isChecked : yX5_isChecked.cls ≠ "java/lang/invoke/MethodHandle" ∧ yX5_isChecked.cls ≠ "java/lang/invoke/VarHandle" ∧ (parseMethodDescriptor yX5_isChecked.desc).map (fun d => d.parameters.length) = some 2 := by decide +kernel
set_option maxHeartbeats 4000000 in
set_option maxRecDepth 100000 in
/-- isChecked -/
theorem c_X5_isChecked (l : Launch) {D : va_G} {cI cJ : ClassId} {A : Nat → Prop} {hm b0 b1 b2 b3 : Nat} {th mk sz : Int32} {F mv kp li : Nat → Int32} (bd : Nat → Nat) (b w : Nat) (hb9 : b ≤ 300) (hw : w < 2) (hBp : Bp F b bd) (hkg : kgs bd w < 64) : Met l yX5_isChecked (Cond.code yX5_isChecked cX5_isChecked 3 (some .boolean) :: wsL_law) (rK 3) (va_Pc [.ref hm, .int (nI b), .int (nI w)] (IW D cI cJ A (rW cI hm b0 b1 b2 b3 th mk sz F mv kp li))) (vp_Si (fun r => r = bI (isA bd (kgs bd w) (1 - w)))) 0 0 (fun _ => False) := by
  refine entM (by decide) (Nat.le_of_ble_eq_true rfl) ?_
  intro p e s m below meth c ls S0 hr hlocks hG hnm hB hl
  have hx := S0.1
  have hb := S0.2.1
  have hown := S0.2.2.2.1
  have hl : lv_has ls 3 [(0, .ref hm), (1, .int (nI b)), (2, .int (nI w))] := hl
  obtain ⟨hP, hD, hK, hA, hE⟩ := hB
  have hS : va_S A s.heap s.heap [] := va_S.rf
  refine lv_aload_n hx hb dX5_isChecked_0 rfl (lv_at hl 0 rfl) ?_
  refine lv_iload_n hx hb dX5_isChecked_1 rfl (lv_at hl 1 rfl) ?_
  refine lv_aload_n hx hb dX5_isChecked_2 rfl (lv_at hl 0 rfl) ?_
  refine lv_iload_n hx hb dX5_isChecked_3 rfl (lv_at hl 1 rfl) ?_
  refine lv_iload_n hx hb dX5_isChecked_4 rfl (lv_at hl 2 rfl) ?_
  refine roI (rnV (As := [.int (nI b), .int (nI w)]) (rest := [.int (nI b), .ref hm]) S0 (c_X5_kingOf l bd b w hb9 hw hBp) wm_X5_57 wi_X5_kingOf ws_X5_kingOf wn_X5 wc_X5_kingOf hd_X5_kingOf ⟨rfl, rfl, by decide, by decide⟩ IW.blind (va_recv hK hP (ci := 4) (q0 := 0) rfl rfl) (IW.at hP hD hK hA hE hS) hl.1 (Nat.le_of_ble_eq_true rfl) dX5_isChecked_5 rfl ⟨by decide, by decide⟩) (fun r_1 hr_1 => ?_)
  subst hr_1
  refine W.top (y := .int (nI (kgs bd w))) (congrArg Value.int (pI_lt hkg)) ?_
  refine lv_iconst (v := (nI 1)) hx hb dX5_isChecked_8 (by decide) ?_
  refine lv_iload_n hx hb dX5_isChecked_9 rfl (lv_at hl 2 rfl) ?_
  refine ln_isub hx hb dX5_isChecked_10 (by omega) ?_
  refine roI (rnV (As := [.int (nI b), .int (nI (kgs bd w)), .int (nI (1 - w))]) (rest := []) S0 (c_X5_isAttacked l bd b (kgs bd w) (1 - w) hb9 hkg (by omega) hBp) wm_X5_60 wi_X5_isAttacked ws_X5_isAttacked wn_X5 wc_X5_isAttacked hd_X5_isAttacked ⟨rfl, rfl, by decide, by decide⟩ IW.blind (va_recv hK hP (ci := 4) (q0 := 0) rfl rfl) (IW.at hP hD hK hA hE hS) hl.1 (Nat.le_of_ble_eq_true rfl) dX5_isChecked_11 rfl ⟨by decide, by decide⟩) (fun r_2 hr_2 => ?_)
  subst hr_2
  exact reZ (v := isA bd (kgs bd w) (1 - w)) hx hb hr hlocks dX5_isChecked_14 rfl
end
section
/-- a board at a place of the array: pieces, side, rights, passing (64: none) -/
def Bd (F : Nat → Int32) (b : Nat) (bd : Nat → Nat) (sd rt ps : Nat) : Prop := Bp F b bd ∧ F (b + 64) = nI sd ∧ sd < 2 ∧ F (b + 65) = nI rt ∧ rt < 16 ∧ F (b + 66) = pI ps ∧ ps < 65
theorem dif2 {f t : Nat} (hf : f < 64) (ht : t < 64) : (nI t - nI f = nI 2 ↔ t = f + 2) ∧ (nI t - nI f = (-2) ↔ f = t + 2) := by
  have h := pk_sub_toInt (a := t) (b := f) (by omega) (by omega)
  have h2 : (nI 2).toInt = 2 := rfl
  have h3 : (-2 : Int32).toInt = -2 := rfl
  constructor
  · rw [← Int32.toInt_inj, h, h2]; omega
  · rw [← Int32.toInt_inj, h, h3]; omega
def rgt (sd f t : Nat) : Nat := (if t = f + 2 then 1 else 2) * 4 ^ sd
theorem rgt_eq {sd f t : Nat} (hs : sd < 2) : nI (if t = f + 2 then 1 else 2) <<< (nI (2 * sd) &&& 31) = nI (rgt sd f t) := by
  have : sd = 0 ∨ sd = 1 := by omega
  unfold rgt
  rcases this with rfl | rfl <;> split <;> rfl
def cnr (sd f t : Nat) : Nat := if t = f + 2 then 4 + 56 * sd + 3 else 4 + 56 * sd - 4
theorem cnr_lt {sd f t : Nat} (hs : sd < 2) : cnr sd f t < 64 := by unfold cnr; split <;> omega
theorem cnr_lined {sd f t : Nat} (hs : sd < 2) (hf : f = 4 + 56 * sd) : lined f (cnr sd f t) = true := by
  have : sd = 0 ∨ sd = 1 := by omega
  unfold cnr
  rcases this with rfl | rfl <;> subst hf <;> split <;> rfl
def rgh (rt sd f t : Nat) : Bool := decide (¬ nI rt &&& nI (rgt sd f t) = 0)
def can (bd : Nat → Nat) (sd rt f t : Nat) : Bool := rgh rt sd f t && decide (bd (cnr sd f t) = 4 + 6 * sd) && fre bd f (cnr sd f t)
def cas (bd : Nat → Nat) (sd rt f t : Nat) : Bool := decide (f = 4 + 56 * sd ∧ (t = f + 2 ∨ f = t + 2)) && (can bd sd rt f t && !isA bd f (1 - sd) && !isA bd ((f + t) / 2) (1 - sd))
theorem cas_y {bd : Nat → Nat} {sd rt f t : Nat} (h : f = 4 + 56 * sd) (h2 : t = f + 2 ∨ f = t + 2) : cas bd sd rt f t = (can bd sd rt f t && !isA bd f (1 - sd) && !isA bd ((f + t) / 2) (1 - sd)) := by unfold cas; rw [decide_eq_true ⟨h, h2⟩, Bool.true_and]
theorem cas_n {bd : Nat → Nat} {sd rt f t : Nat} (h : ¬ (f = 4 + 56 * sd ∧ (t = f + 2 ∨ f = t + 2))) : cas bd sd rt f t = false := by unfold cas; rw [decide_eq_false h, Bool.false_and]
def bkI (sd t : Nat) : Int32 := if sd = 0 then nI t - nI 8 else nI (t + 8)
def bkN (sd t : Nat) : Nat := if sd = 0 then t - 8 else t + 8
theorem bk_e {sd t : Nat} (ht : t < 64) (h : isq (bkI sd t) = true) : bkI sd t = nI (bkN sd t) ∧ bkN sd t < 64 := by
  unfold bkI at h ⊢
  unfold bkN
  by_cases h0 : sd = 0
  · simp only [if_pos h0] at h ⊢
    have h1 := of_decide_eq_true h
    rw [pk_sub_toInt (by omega) (by omega)] at h1
    exact ⟨pk_sub (by omega), by omega⟩
  · simp only [if_neg h0] at h ⊢
    rw [isq_n (by omega)] at h
    exact ⟨trivial, of_decide_eq_true h⟩
theorem pI_eq {t n : Nat} (ht : t < 64) (hn : n < 65) : nI t = pI n ↔ t = n := by
  unfold pI
  by_cases h : n < 64
  · rw [if_pos h]; exact nI_eq (by omega) (by omega)
  · rw [if_neg h]
    constructor
    · intro e
      have h2 := congrArg Int32.toInt e
      rw [nI_toInt (by omega)] at h2
      have h3 : (-1 : Int32).toInt = -1 := rfl
      omega
    · intro e; omega
def tps (bd : Nat → Nat) (sd ps f t : Nat) : Bool := decide (t = ps) && (decide (bd t = 0) && (atk bd f t && (isq (bkI sd t) && decide (bd (bkN sd t) = 7 - 6 * sd))))
def onI (sd : Nat) : Int32 := if sd = 0 then nI 8 else (-8)
def st1 (sd f t : Nat) : Prop := (sd = 0 ∧ t = f + 8) ∨ (¬ sd = 0 ∧ f = t + 8)
def st2 (sd f t : Nat) : Prop := (sd = 0 ∧ t = f + 16) ∨ (¬ sd = 0 ∧ f = t + 16)
theorem st1_e {sd f t : Nat} (hf : f < 64) (ht : t < 64) : nI t = nI f + onI sd ↔ st1 sd f t := by
  unfold onI st1
  by_cases h : sd = 0
  · rw [if_pos h, nI_add, nI_eq (by omega) (by omega)]; omega
  · rw [if_neg h]
    constructor
    · intro e
      have e2 : nI t + nI 8 = nI f := by rw [e, Int32.add_assoc]; rw [show ((-8 : Int32) + nI 8) = 0 from rfl, Int32.add_zero]
      rw [nI_add, nI_eq (by omega) (by omega)] at e2
      omega
    · intro e
      have e2 : f = t + 8 := by omega
      rw [e2, ← nI_add, Int32.add_assoc, show (nI 8 + (-8 : Int32)) = 0 from rfl, Int32.add_zero]
theorem st2_e {sd f t : Nat} (hf : f < 64) (ht : t < 64) : nI t = nI f + nI 2 * onI sd ↔ st2 sd f t := by
  unfold onI st2
  by_cases h : sd = 0
  · rw [if_pos h, pk_mul, nI_add, nI_eq (by omega) (by omega)]; omega
  · rw [if_neg h, show nI 2 * (-8 : Int32) = -16 from rfl]
    constructor
    · intro e
      have e2 : nI t + nI 16 = nI f := by rw [e, Int32.add_assoc]; rw [show ((-16 : Int32) + nI 16) = 0 from rfl, Int32.add_zero]
      rw [nI_add, nI_eq (by omega) (by omega)] at e2
      omega
    · intro e
      have e2 : f = t + 16 := by omega
      rw [e2, ← nI_add, Int32.add_assoc, show (nI 16 + (-16 : Int32)) = 0 from rfl, Int32.add_zero]
theorem st2_m {sd b f t : Nat} (h : st2 sd f t) : nI (b + f) + onI sd = nI (b + (f + t) / 2) := by
  unfold onI
  rcases h with ⟨h, e⟩ | ⟨h, e⟩
  · rw [if_pos h, nI_add, show b + f + 8 = b + (f + t) / 2 by omega]
  · rw [if_neg h, show b + f = b + (f + t) / 2 + 8 by omega, ← nI_add, Int32.add_assoc, show (nI 8 + (-8 : Int32)) = 0 from rfl, Int32.add_zero]
def pgo (bd : Nat → Nat) (sd ps f t : Nat) : Bool :=
  if (sd = 0 ∧ t = f + 8) ∨ (¬ sd = 0 ∧ f = t + 8) then decide (bd t = 0)
  else if (sd = 0 ∧ t = f + 16) ∨ (¬ sd = 0 ∧ f = t + 16) then decide (f / 8 = if sd = 0 then 1 else 6) && (decide (bd ((f + t) / 2) = 0) && decide (bd t = 0))
  else (atk bd f t && decide (sdN (bd t) = 1 - sd)) || tps bd sd ps f t
theorem pgo_1 {bd : Nat → Nat} {sd ps f t : Nat} (h : st1 sd f t) : pgo bd sd ps f t = decide (bd t = 0) := by unfold pgo; unfold st1 at h; rw [if_pos h]
theorem pgo_2 {bd : Nat → Nat} {sd ps f t : Nat} (h : ¬ st1 sd f t) (h2 : st2 sd f t) : pgo bd sd ps f t = (decide (f / 8 = if sd = 0 then 1 else 6) && (decide (bd ((f + t) / 2) = 0) && decide (bd t = 0))) := by unfold pgo; unfold st1 at h; unfold st2 at h2; rw [if_neg h, if_pos h2]
theorem pgo_3 {bd : Nat → Nat} {sd ps f t : Nat} (h : ¬ st1 sd f t) (h2 : ¬ st2 sd f t) : pgo bd sd ps f t = ((atk bd f t && decide (sdN (bd t) = 1 - sd)) || tps bd sd ps f t) := by unfold pgo; unfold st1 at h; unfold st2 at h2; rw [if_neg h, if_neg h2]
def gos (bd : Nat → Nat) (sd rt ps f t : Nat) : Bool :=
  if ¬ sdN (bd f) = sd ∨ sdN (bd t) = sd ∨ kd (bd t) = 6 then false
  else if kd (bd f) = 1 then pgo bd sd ps f t else atk bd f t || (decide (kd (bd f) = 6) && cas bd sd rt f t)
theorem gos_0 {bd : Nat → Nat} {sd rt ps f t : Nat} (h : ¬ sdN (bd f) = sd ∨ sdN (bd t) = sd ∨ kd (bd t) = 6) : gos bd sd rt ps f t = false := by unfold gos; rw [if_pos h]
theorem gos_1 {bd : Nat → Nat} {sd rt ps f t : Nat} (h1 : sdN (bd f) = sd) (h2 : ¬ sdN (bd t) = sd) (h3 : ¬ kd (bd t) = 6) (h : kd (bd f) = 1) : gos bd sd rt ps f t = pgo bd sd ps f t := by unfold gos; rw [if_neg (fun z => z.elim (fun a => a h1) (fun a => a.elim h2 h3)), if_pos h]
theorem gos_2 {bd : Nat → Nat} {sd rt ps f t : Nat} (h1 : sdN (bd f) = sd) (h2 : ¬ sdN (bd t) = sd) (h3 : ¬ kd (bd t) = 6) (h : ¬ kd (bd f) = 1) : gos bd sd rt ps f t = (atk bd f t || (decide (kd (bd f) = 6) && cas bd sd rt f t)) := by unfold gos; rw [if_neg (fun z => z.elim (fun a => a h1) (fun a => a.elim h2 h3)), if_neg h]
theorem rgt_lt {sd f t : Nat} (hs : sd < 2) : rgt sd f t < 9 := by
  have : sd = 0 ∨ sd = 1 := by omega
  unfold rgt
  rcases this with rfl | rfl <;> split <;> decide
end
section
theorem dX5_castles_0 : decode cX5_castles 0 = .ok (.aload_n 0, 1) := by decide +kernel
theorem dX5_castles_1 : decode cX5_castles 1 = .ok (.getfield 7, 3) := by decide +kernel
theorem dX5_castles_4 : decode cX5_castles 4 = .ok (.iload_n 1, 1) := by decide +kernel
theorem dX5_castles_5 : decode cX5_castles 5 = .ok (.bipush 64, 2) := by decide +kernel
theorem dX5_castles_7 : decode cX5_castles 7 = .ok (.iadd, 1) := by decide +kernel
theorem dX5_castles_8 : decode cX5_castles 8 = .ok (.iaload, 1) := by decide +kernel
theorem dX5_castles_9 : decode cX5_castles 9 = .ok (.istore 4, 2) := by decide +kernel
theorem dX5_castles_11 : decode cX5_castles 11 = .ok (.iconst 4, 1) := by decide +kernel
theorem dX5_castles_12 : decode cX5_castles 12 = .ok (.bipush 56, 2) := by decide +kernel
theorem dX5_castles_14 : decode cX5_castles 14 = .ok (.iload 4, 2) := by decide +kernel
theorem dX5_castles_16 : decode cX5_castles 16 = .ok (.imul, 1) := by decide +kernel
theorem dX5_castles_17 : decode cX5_castles 17 = .ok (.iadd, 1) := by decide +kernel
theorem dX5_castles_18 : decode cX5_castles 18 = .ok (.istore 5, 2) := by decide +kernel
theorem dX5_castles_20 : decode cX5_castles 20 = .ok (.iload_n 3, 1) := by decide +kernel
theorem dX5_castles_21 : decode cX5_castles 21 = .ok (.iload_n 2, 1) := by decide +kernel
theorem dX5_castles_22 : decode cX5_castles 22 = .ok (.isub, 1) := by decide +kernel
theorem dX5_castles_23 : decode cX5_castles 23 = .ok (.istore 6, 2) := by decide +kernel
theorem dX5_castles_25 : decode cX5_castles 25 = .ok (.iload_n 2, 1) := by decide +kernel
theorem dX5_castles_26 : decode cX5_castles 26 = .ok (.iload 5, 2) := by decide +kernel
theorem dX5_castles_28 : decode cX5_castles 28 = .ok (.if_icmp .ne 16, 3) := by decide +kernel
theorem dX5_castles_31 : decode cX5_castles 31 = .ok (.iload 6, 2) := by decide +kernel
theorem dX5_castles_33 : decode cX5_castles 33 = .ok (.iconst 2, 1) := by decide +kernel
theorem dX5_castles_34 : decode cX5_castles 34 = .ok (.if_icmp .eq 12, 3) := by decide +kernel
theorem dX5_castles_37 : decode cX5_castles 37 = .ok (.iload 6, 2) := by decide +kernel
theorem dX5_castles_39 : decode cX5_castles 39 = .ok (.bipush (-2), 2) := by decide +kernel
theorem dX5_castles_41 : decode cX5_castles 41 = .ok (.if_icmp .eq 5, 3) := by decide +kernel
theorem dX5_castles_44 : decode cX5_castles 44 = .ok (.iconst 0, 1) := by decide +kernel
theorem dX5_castles_45 : decode cX5_castles 45 = .ok (.ireturn, 1) := by decide +kernel
theorem dX5_castles_46 : decode cX5_castles 46 = .ok (.iload 6, 2) := by decide +kernel
theorem dX5_castles_48 : decode cX5_castles 48 = .ok (.iconst 2, 1) := by decide +kernel
theorem dX5_castles_49 : decode cX5_castles 49 = .ok (.if_icmp .ne 7, 3) := by decide +kernel
theorem dX5_castles_52 : decode cX5_castles 52 = .ok (.iconst 1, 1) := by decide +kernel
theorem dX5_castles_53 : decode cX5_castles 53 = .ok (.goto 4, 3) := by decide +kernel
theorem dX5_castles_56 : decode cX5_castles 56 = .ok (.iconst 2, 1) := by decide +kernel
theorem dX5_castles_57 : decode cX5_castles 57 = .ok (.iconst 2, 1) := by decide +kernel
theorem dX5_castles_58 : decode cX5_castles 58 = .ok (.iload 4, 2) := by decide +kernel
theorem dX5_castles_60 : decode cX5_castles 60 = .ok (.imul, 1) := by decide +kernel
theorem dX5_castles_61 : decode cX5_castles 61 = .ok (.ishl, 1) := by decide +kernel
theorem dX5_castles_62 : decode cX5_castles 62 = .ok (.istore 7, 2) := by decide +kernel
theorem dX5_castles_64 : decode cX5_castles 64 = .ok (.iload 6, 2) := by decide +kernel
theorem dX5_castles_66 : decode cX5_castles 66 = .ok (.iconst 2, 1) := by decide +kernel
theorem dX5_castles_67 : decode cX5_castles 67 = .ok (.if_icmp .ne 10, 3) := by decide +kernel
theorem dX5_castles_70 : decode cX5_castles 70 = .ok (.iload 5, 2) := by decide +kernel
theorem dX5_castles_72 : decode cX5_castles 72 = .ok (.iconst 3, 1) := by decide +kernel
theorem dX5_castles_73 : decode cX5_castles 73 = .ok (.iadd, 1) := by decide +kernel
theorem dX5_castles_74 : decode cX5_castles 74 = .ok (.goto 7, 3) := by decide +kernel
theorem dX5_castles_77 : decode cX5_castles 77 = .ok (.iload 5, 2) := by decide +kernel
theorem dX5_castles_79 : decode cX5_castles 79 = .ok (.iconst 4, 1) := by decide +kernel
theorem dX5_castles_80 : decode cX5_castles 80 = .ok (.isub, 1) := by decide +kernel
theorem dX5_castles_81 : decode cX5_castles 81 = .ok (.istore 8, 2) := by decide +kernel
theorem dX5_castles_83 : decode cX5_castles 83 = .ok (.aload_n 0, 1) := by decide +kernel
theorem dX5_castles_84 : decode cX5_castles 84 = .ok (.getfield 7, 3) := by decide +kernel
theorem dX5_castles_87 : decode cX5_castles 87 = .ok (.iload_n 1, 1) := by decide +kernel
theorem dX5_castles_88 : decode cX5_castles 88 = .ok (.bipush 65, 2) := by decide +kernel
theorem dX5_castles_90 : decode cX5_castles 90 = .ok (.iadd, 1) := by decide +kernel
theorem dX5_castles_91 : decode cX5_castles 91 = .ok (.iaload, 1) := by decide +kernel
theorem dX5_castles_92 : decode cX5_castles 92 = .ok (.iload 7, 2) := by decide +kernel
theorem dX5_castles_94 : decode cX5_castles 94 = .ok (.iand, 1) := by decide +kernel
theorem dX5_castles_95 : decode cX5_castles 95 = .ok (.ifCond .eq 37, 3) := by decide +kernel
theorem dX5_castles_98 : decode cX5_castles 98 = .ok (.aload_n 0, 1) := by decide +kernel
theorem dX5_castles_99 : decode cX5_castles 99 = .ok (.getfield 7, 3) := by decide +kernel
theorem dX5_castles_102 : decode cX5_castles 102 = .ok (.iload_n 1, 1) := by decide +kernel
theorem dX5_castles_103 : decode cX5_castles 103 = .ok (.iload 8, 2) := by decide +kernel
theorem dX5_castles_105 : decode cX5_castles 105 = .ok (.iadd, 1) := by decide +kernel
theorem dX5_castles_106 : decode cX5_castles 106 = .ok (.iaload, 1) := by decide +kernel
theorem dX5_castles_107 : decode cX5_castles 107 = .ok (.iconst 4, 1) := by decide +kernel
theorem dX5_castles_108 : decode cX5_castles 108 = .ok (.bipush 6, 2) := by decide +kernel
theorem dX5_castles_110 : decode cX5_castles 110 = .ok (.iload 4, 2) := by decide +kernel
theorem dX5_castles_112 : decode cX5_castles 112 = .ok (.imul, 1) := by decide +kernel
theorem dX5_castles_113 : decode cX5_castles 113 = .ok (.iadd, 1) := by decide +kernel
theorem dX5_castles_114 : decode cX5_castles 114 = .ok (.if_icmp .ne 18, 3) := by decide +kernel
theorem dX5_castles_117 : decode cX5_castles 117 = .ok (.aload_n 0, 1) := by decide +kernel
theorem dX5_castles_118 : decode cX5_castles 118 = .ok (.iload_n 1, 1) := by decide +kernel
theorem dX5_castles_119 : decode cX5_castles 119 = .ok (.iload_n 2, 1) := by decide +kernel
theorem dX5_castles_120 : decode cX5_castles 120 = .ok (.iload 8, 2) := by decide +kernel
theorem dX5_castles_122 : decode cX5_castles 122 = .ok (.invokevirtual 47, 3) := by decide +kernel
theorem dX5_castles_125 : decode cX5_castles 125 = .ok (.ifCond .eq 7, 3) := by decide +kernel
theorem dX5_castles_128 : decode cX5_castles 128 = .ok (.iconst 1, 1) := by decide +kernel
theorem dX5_castles_129 : decode cX5_castles 129 = .ok (.goto 4, 3) := by decide +kernel
theorem dX5_castles_132 : decode cX5_castles 132 = .ok (.iconst 0, 1) := by decide +kernel
theorem dX5_castles_133 : decode cX5_castles 133 = .ok (.istore 9, 2) := by decide +kernel
theorem dX5_castles_135 : decode cX5_castles 135 = .ok (.iload 9, 2) := by decide +kernel
theorem dX5_castles_137 : decode cX5_castles 137 = .ok (.ifCond .eq 37, 3) := by decide +kernel
theorem dX5_castles_140 : decode cX5_castles 140 = .ok (.aload_n 0, 1) := by decide +kernel
theorem dX5_castles_141 : decode cX5_castles 141 = .ok (.iload_n 1, 1) := by decide +kernel
theorem dX5_castles_142 : decode cX5_castles 142 = .ok (.iload_n 2, 1) := by decide +kernel
theorem dX5_castles_143 : decode cX5_castles 143 = .ok (.iconst 1, 1) := by decide +kernel
theorem dX5_castles_144 : decode cX5_castles 144 = .ok (.iload 4, 2) := by decide +kernel
theorem dX5_castles_146 : decode cX5_castles 146 = .ok (.isub, 1) := by decide +kernel
theorem dX5_castles_147 : decode cX5_castles 147 = .ok (.invokevirtual 60, 3) := by decide +kernel
theorem dX5_castles_150 : decode cX5_castles 150 = .ok (.ifCond .ne 24, 3) := by decide +kernel
theorem dX5_castles_153 : decode cX5_castles 153 = .ok (.aload_n 0, 1) := by decide +kernel
theorem dX5_castles_154 : decode cX5_castles 154 = .ok (.iload_n 1, 1) := by decide +kernel
theorem dX5_castles_155 : decode cX5_castles 155 = .ok (.iload_n 2, 1) := by decide +kernel
theorem dX5_castles_156 : decode cX5_castles 156 = .ok (.iload_n 3, 1) := by decide +kernel
theorem dX5_castles_157 : decode cX5_castles 157 = .ok (.iadd, 1) := by decide +kernel
theorem dX5_castles_158 : decode cX5_castles 158 = .ok (.iconst 2, 1) := by decide +kernel
theorem dX5_castles_159 : decode cX5_castles 159 = .ok (.idiv, 1) := by decide +kernel
theorem dX5_castles_160 : decode cX5_castles 160 = .ok (.iconst 1, 1) := by decide +kernel
theorem dX5_castles_161 : decode cX5_castles 161 = .ok (.iload 4, 2) := by decide +kernel
theorem dX5_castles_163 : decode cX5_castles 163 = .ok (.isub, 1) := by decide +kernel
theorem dX5_castles_164 : decode cX5_castles 164 = .ok (.invokevirtual 60, 3) := by decide +kernel
theorem dX5_castles_167 : decode cX5_castles 167 = .ok (.ifCond .ne 7, 3) := by decide +kernel
theorem dX5_castles_170 : decode cX5_castles 170 = .ok (.iconst 1, 1) := by decide +kernel
theorem dX5_castles_171 : decode cX5_castles 171 = .ok (.goto 4, 3) := by decide +kernel
theorem dX5_castles_174 : decode cX5_castles 174 = .ok (.iconst 0, 1) := by decide +kernel
theorem dX5_castles_175 : decode cX5_castles 175 = .ok (.ireturn, 1) := by decide +kernel
theorem hd_X5_castles : yX5_castles.cls ≠ "java/lang/invoke/MethodHandle" ∧ yX5_castles.cls ≠ "java/lang/invoke/VarHandle" ∧ (parseMethodDescriptor yX5_castles.desc).map (fun d => d.parameters.length) = some 3 := by decide +kernel
set_option maxHeartbeats 4000000 in
set_option maxRecDepth 100000 in
/-- castles -/
theorem c_X5_castles (l : Launch) {D : va_G} {cI cJ : ClassId} {A : Nat → Prop} {hm b0 b1 b2 b3 : Nat} {th mk sz : Int32} {F mv kp li : Nat → Int32} (bd : Nat → Nat) (sd rt ps b f t : Nat) (hb9 : b ≤ 300) (hf : f < 64) (ht : t < 64) (hBd : Bd F b bd sd rt ps) : Met l yX5_castles (Cond.code yX5_castles cX5_castles 10 (some .boolean) :: wsL_law) (rK 3) (va_Pc [.ref hm, .int (nI b), .int (nI f), .int (nI t)] (IW D cI cJ A (rW cI hm b0 b1 b2 b3 th mk sz F mv kp li))) (vp_Si (fun r => r = bI (cas bd sd rt f t))) 0 0 (fun _ => False) := by
  refine entM (by decide) (Nat.le_of_ble_eq_true rfl) ?_
  intro p e s m below meth c ls S0 hr hlocks hG hnm hB hl
  have hx := S0.1
  have hb := S0.2.1
  have hown := S0.2.2.2.1
  have hl : lv_has ls 10 [(0, .ref hm), (1, .int (nI b)), (2, .int (nI f)), (3, .int (nI t))] := hl
  obtain ⟨hP, hD, hK, hA, hE⟩ := hB
  have hS : va_S A s.heap s.heap [] := va_S.rf
  obtain ⟨hBp, hsd, hs2, hrt, hr16, hps, hp65⟩ := id hBd
  have hcl := cnr_lt (f := f) (t := t) hs2
  have hrg := rgt_lt (f := f) (t := t) hs2
  refine lv_aload_n hx hb dX5_castles_0 rfl (lv_at hl 0 rfl) ?_
  refine va_get (D := D) (ci := 4) (v := .ref b0) (C := RX5) (T := TX5) (N := 7) hx hb hG wu_X5 hown hK hP 0 rfl rfl 1 (by decide) (hG _ wf_X5_7) (fun _ h9 => h9) rfl dX5_castles_1 ?_
  refine lv_iload_n hx hb dX5_castles_4 rfl (lv_at hl 1 rfl) ?_
  refine lv_bipush (v := (nI 64)) hx hb dX5_castles_5 (by decide) ?_
  refine ln_iadd hx hb dX5_castles_7 ?_
  refine va_iald hx hb hK hP 1 0 rfl rfl (vp_in_nI (by omega) (by decide)) dX5_castles_8 ?_
  refine W.top (y := .int (F (b + 64))) (congrArg (fun z => Value.int (F z)) (nI_clamp (by omega))) ?_
  refine W.top (y := .int (nI sd)) (congrArg Value.int hsd) ?_
  refine lv_istore (lv' := [(4, .int (nI sd)), (0, .ref hm), (1, .int (nI b)), (2, .int (nI f)), (3, .int (nI t))]) hx hb dX5_castles_9 hl (by decide) rfl (fun ls hl => ?_)
  refine lv_iconst (v := (nI 4)) hx hb dX5_castles_11 (by decide) ?_
  refine lv_bipush (v := (nI 56)) hx hb dX5_castles_12 (by decide) ?_
  refine lv_iload hx hb dX5_castles_14 (lv_at hl 0 rfl) ?_
  refine ln_imul hx hb dX5_castles_16 ?_
  refine ln_iadd hx hb dX5_castles_17 ?_
  refine lv_istore (lv' := [(5, .int (nI (4 + (56 * sd)))), (4, .int (nI sd)), (0, .ref hm), (1, .int (nI b)), (2, .int (nI f)), (3, .int (nI t))]) hx hb dX5_castles_18 hl (by decide) rfl (fun ls hl => ?_)
  refine lv_iload_n hx hb dX5_castles_20 rfl (lv_at hl 5 rfl) ?_
  refine lv_iload_n hx hb dX5_castles_21 rfl (lv_at hl 4 rfl) ?_
  refine lv_isub hx hb dX5_castles_22 ?_
  refine lv_istore (lv' := [(6, .int ((nI t) - (nI f))), (5, .int (nI (4 + (56 * sd)))), (4, .int (nI sd)), (0, .ref hm), (1, .int (nI b)), (2, .int (nI f)), (3, .int (nI t))]) hx hb dX5_castles_23 hl (by decide) rfl (fun ls hl => ?_)
  refine lv_iload_n hx hb dX5_castles_25 rfl (lv_at hl 5 rfl) ?_
  refine lv_iload hx hb dX5_castles_26 (lv_at hl 1 rfl) ?_
  refine ln_icmp_ne (tgt := 44) hx hb dX5_castles_28 (by decide) (by omega) (by omega) (fun c28 => ?_) (fun c28 => ?_)
  · skip
    refine lv_iconst (v := (nI 0)) hx hb dX5_castles_44 (by decide) ?_
    exact reZ (v := false) hx hb hr hlocks dX5_castles_45 (congrArg bI (cas_n (by omega)).symm)
  · skip
    refine lv_iload hx hb dX5_castles_31 (lv_at hl 0 rfl) ?_
    refine lv_iconst (v := (nI 2)) hx hb dX5_castles_33 (by decide) ?_
    refine jnH (t = f + 2 ∨ f = t + 2) 46 10 [(6, .int ((nI t) - (nI f))), (5, .int (nI (4 + (56 * sd)))), (4, .int (nI sd)), (0, .ref hm), (1, .int (nI b)), (2, .int (nI f)), (3, .int (nI t))] [] ?_ (fun hj_46 => ?_)
    · intro hp_46 ls hl
      refine lv_iload hx hb dX5_castles_46 (lv_at hl 0 rfl) ?_
      refine lv_iconst (v := (nI 2)) hx hb dX5_castles_48 (by decide) ?_
      refine jnG 57 10 [(6, .int ((nI t) - (nI f))), (5, .int (nI (4 + (56 * sd)))), (4, .int (nI sd)), (0, .ref hm), (1, .int (nI b)), (2, .int (nI f)), (3, .int (nI t))] [.int (nI (if t = f + 2 then 1 else 2))] ?_ (fun hj_57 => ?_)
      · intro ls hl
        refine lv_iconst (v := (nI 2)) hx hb dX5_castles_57 (by decide) ?_
        refine lv_iload hx hb dX5_castles_58 (lv_at hl 2 rfl) ?_
        refine ln_imul hx hb dX5_castles_60 ?_
        refine lv_ishl hx hb dX5_castles_61 ?_
        refine W.top (y := .int (nI (rgt sd f t))) (congrArg Value.int (rgt_eq hs2)) ?_
        refine lv_istore (lv' := [(7, .int (nI (rgt sd f t))), (6, .int ((nI t) - (nI f))), (5, .int (nI (4 + (56 * sd)))), (4, .int (nI sd)), (0, .ref hm), (1, .int (nI b)), (2, .int (nI f)), (3, .int (nI t))]) hx hb dX5_castles_62 hl (by decide) rfl (fun ls hl => ?_)
        refine lv_iload hx hb dX5_castles_64 (lv_at hl 1 rfl) ?_
        refine lv_iconst (v := (nI 2)) hx hb dX5_castles_66 (by decide) ?_
        refine jnG 81 10 [(7, .int (nI (rgt sd f t))), (6, .int ((nI t) - (nI f))), (5, .int (nI (4 + (56 * sd)))), (4, .int (nI sd)), (0, .ref hm), (1, .int (nI b)), (2, .int (nI f)), (3, .int (nI t))] [.int (nI (cnr sd f t))] ?_ (fun hj_81 => ?_)
        · intro ls hl
          refine lv_istore (lv' := [(8, .int (nI (cnr sd f t))), (7, .int (nI (rgt sd f t))), (6, .int ((nI t) - (nI f))), (5, .int (nI (4 + (56 * sd)))), (4, .int (nI sd)), (0, .ref hm), (1, .int (nI b)), (2, .int (nI f)), (3, .int (nI t))]) hx hb dX5_castles_81 hl (by decide) rfl (fun ls hl => ?_)
          refine lv_aload_n hx hb dX5_castles_83 rfl (lv_at hl 5 rfl) ?_
          refine va_get (D := D) (ci := 4) (v := .ref b0) (C := RX5) (T := TX5) (N := 7) hx hb hG wu_X5 hown hK hP 0 rfl rfl 1 (by decide) (hG _ wf_X5_7) (fun _ h9 => h9) rfl dX5_castles_84 ?_
          refine lv_iload_n hx hb dX5_castles_87 rfl (lv_at hl 6 rfl) ?_
          refine lv_bipush (v := (nI 65)) hx hb dX5_castles_88 (by decide) ?_
          refine ln_iadd hx hb dX5_castles_90 ?_
          refine va_iald hx hb hK hP 1 0 rfl rfl (vp_in_nI (by omega) (by decide)) dX5_castles_91 ?_
          refine W.top (y := .int (F (b + 65))) (congrArg (fun z => Value.int (F z)) (nI_clamp (by omega))) ?_
          refine W.top (y := .int (nI rt)) (congrArg Value.int hrt) ?_
          refine lv_iload hx hb dX5_castles_92 (lv_at hl 1 rfl) ?_
          refine lv_iand hx hb dX5_castles_94 ?_
          refine jnG 133 10 [(8, .int (nI (cnr sd f t))), (7, .int (nI (rgt sd f t))), (6, .int ((nI t) - (nI f))), (5, .int (nI (4 + (56 * sd)))), (4, .int (nI sd)), (0, .ref hm), (1, .int (nI b)), (2, .int (nI f)), (3, .int (nI t))] [.int (bI (can bd sd rt f t))] ?_ (fun hj_133 => ?_)
          · intro ls hl
            refine lv_istore (lv' := [(9, .int (bI (can bd sd rt f t))), (8, .int (nI (cnr sd f t))), (7, .int (nI (rgt sd f t))), (6, .int ((nI t) - (nI f))), (5, .int (nI (4 + (56 * sd)))), (4, .int (nI sd)), (0, .ref hm), (1, .int (nI b)), (2, .int (nI f)), (3, .int (nI t))]) hx hb dX5_castles_133 hl (by decide) rfl (fun ls hl => ?_)
            refine lv_iload hx hb dX5_castles_135 (lv_at hl 0 rfl) ?_
            refine lb_if_eq (tgt := 174) hx hb dX5_castles_137 (by decide) (fun c137 => ?_) (fun c137 => ?_)
            · skip
              refine lv_iconst (v := (nI 0)) hx hb dX5_castles_174 (by decide) ?_
              exact reZ (v := false) hx hb hr hlocks dX5_castles_175 (congrArg bI (by rw [cas_y c28 hp_46]; first | (rw [c137, c150, c167]; rfl) | (rw [c137, c150]; rfl) | (rw [c137]; rfl)))
            · skip
              refine lv_aload_n hx hb dX5_castles_140 rfl (lv_at hl 6 rfl) ?_
              refine lv_iload_n hx hb dX5_castles_141 rfl (lv_at hl 7 rfl) ?_
              refine lv_iload_n hx hb dX5_castles_142 rfl (lv_at hl 8 rfl) ?_
              refine lv_iconst (v := (nI 1)) hx hb dX5_castles_143 (by decide) ?_
              refine lv_iload hx hb dX5_castles_144 (lv_at hl 5 rfl) ?_
              refine ln_isub hx hb dX5_castles_146 (by omega) ?_
              refine roI (rnV (As := [.int (nI b), .int (nI f), .int (nI (1 - sd))]) (rest := []) S0 (c_X5_isAttacked l bd b f (1 - sd) hb9 hf (by omega) hBp) wm_X5_60 wi_X5_isAttacked ws_X5_isAttacked wn_X5 wc_X5_isAttacked hd_X5_isAttacked ⟨rfl, rfl, by decide, by decide⟩ IW.blind (va_recv hK hP (ci := 4) (q0 := 0) rfl rfl) (IW.at hP hD hK hA hE hS) hl.1 (Nat.le_of_ble_eq_true rfl) dX5_castles_147 rfl ⟨by decide, by decide⟩) (fun r_1 hr_1 => ?_)
              subst hr_1
              refine lb_if_ne (tgt := 174) hx hb dX5_castles_150 (by decide) (fun c150 => ?_) (fun c150 => ?_)
              · skip
                refine lv_iconst (v := (nI 0)) hx hb dX5_castles_174 (by decide) ?_
                exact reZ (v := false) hx hb hr hlocks dX5_castles_175 (congrArg bI (by rw [cas_y c28 hp_46]; first | (rw [c137, c150, c167]; rfl) | (rw [c137, c150]; rfl) | (rw [c137]; rfl)))
              · skip
                refine lv_aload_n hx hb dX5_castles_153 rfl (lv_at hl 6 rfl) ?_
                refine lv_iload_n hx hb dX5_castles_154 rfl (lv_at hl 7 rfl) ?_
                refine lv_iload_n hx hb dX5_castles_155 rfl (lv_at hl 8 rfl) ?_
                refine lv_iload_n hx hb dX5_castles_156 rfl (lv_at hl 9 rfl) ?_
                refine ln_iadd hx hb dX5_castles_157 ?_
                refine lv_iconst (v := (nI 2)) hx hb dX5_castles_158 (by decide) ?_
                refine ln_idiv hx hb dX5_castles_159 (by omega) (by decide) (by decide) ?_
                refine lv_iconst (v := (nI 1)) hx hb dX5_castles_160 (by decide) ?_
                refine lv_iload hx hb dX5_castles_161 (lv_at hl 5 rfl) ?_
                refine ln_isub hx hb dX5_castles_163 (by omega) ?_
                refine roI (rnV (As := [.int (nI b), .int (nI ((f + t) / 2)), .int (nI (1 - sd))]) (rest := []) S0 (c_X5_isAttacked l bd b ((f + t) / 2) (1 - sd) hb9 (by omega) (by omega) hBp) wm_X5_60 wi_X5_isAttacked ws_X5_isAttacked wn_X5 wc_X5_isAttacked hd_X5_isAttacked ⟨rfl, rfl, by decide, by decide⟩ IW.blind (va_recv hK hP (ci := 4) (q0 := 0) rfl rfl) (IW.at hP hD hK hA hE hS) hl.1 (Nat.le_of_ble_eq_true rfl) dX5_castles_164 rfl ⟨by decide, by decide⟩) (fun r_2 hr_2 => ?_)
                subst hr_2
                refine lb_if_ne (tgt := 174) hx hb dX5_castles_167 (by decide) (fun c167 => ?_) (fun c167 => ?_)
                · skip
                  refine lv_iconst (v := (nI 0)) hx hb dX5_castles_174 (by decide) ?_
                  exact reZ (v := false) hx hb hr hlocks dX5_castles_175 (congrArg bI (by rw [cas_y c28 hp_46]; first | (rw [c137, c150, c167]; rfl) | (rw [c137, c150]; rfl) | (rw [c137]; rfl)))
                · skip
                  refine lv_iconst (v := (nI 1)) hx hb dX5_castles_170 (by decide) ?_
                  refine lv_goto (tgt := 175) hx hb dX5_castles_171 (by decide) ?_
                  exact reZ (v := true) hx hb hr hlocks dX5_castles_175 (congrArg bI (by rw [cas_y c28 hp_46]; first | (rw [c137, c150, c167]; rfl) | (rw [c137, c150]; rfl) | (rw [c137]; rfl)))
          · skip
            refine lv_if_eq (tgt := 132) hx hb dX5_castles_95 (by decide) (fun c95 => ?_) (fun c95 => ?_)
            · skip
              refine lv_iconst (v := (nI 0)) hx hb dX5_castles_132 (by decide) ?_
              refine W.top (y := .int (bI (can bd sd rt f t))) (congrArg Value.int (by unfold can rgh; first | (rw [decide_eq_false (not_not_intro c95)]; rfl) | (rw [decide_eq_true c95, decide_eq_false c114]; rfl) | (rw [decide_eq_true c95, decide_eq_true c114, c125]; rfl))) ?_
              exact hj_133 ls (lv_sub hl [0, 1, 2, 3, 4, 5, 6, 7, 8] rfl)
            · skip
              refine lv_aload_n hx hb dX5_castles_98 rfl (lv_at hl 5 rfl) ?_
              refine va_get (D := D) (ci := 4) (v := .ref b0) (C := RX5) (T := TX5) (N := 7) hx hb hG wu_X5 hown hK hP 0 rfl rfl 1 (by decide) (hG _ wf_X5_7) (fun _ h9 => h9) rfl dX5_castles_99 ?_
              refine lv_iload_n hx hb dX5_castles_102 rfl (lv_at hl 6 rfl) ?_
              refine lv_iload hx hb dX5_castles_103 (lv_at hl 0 rfl) ?_
              refine ln_iadd hx hb dX5_castles_105 ?_
              have hcb := (hBp _ hcl).2
              refine va_iald hx hb hK hP 1 0 rfl rfl (vp_in_nI (by omega) (by decide)) dX5_castles_106 ?_
              refine W.top (y := .int (F (b + (cnr sd f t)))) (congrArg (fun z => Value.int (F z)) (nI_clamp (by omega))) ?_
              refine W.top (y := .int (nI (bd (cnr sd f t)))) (congrArg Value.int (hBp _ hcl).1) ?_
              refine lv_iconst (v := (nI 4)) hx hb dX5_castles_107 (by decide) ?_
              refine lv_bipush (v := (nI 6)) hx hb dX5_castles_108 (by decide) ?_
              refine lv_iload hx hb dX5_castles_110 (lv_at hl 4 rfl) ?_
              refine ln_imul hx hb dX5_castles_112 ?_
              refine ln_iadd hx hb dX5_castles_113 ?_
              refine ln_icmp_ne (tgt := 132) hx hb dX5_castles_114 (by decide) (by omega) (by omega) (fun c114 => ?_) (fun c114 => ?_)
              · skip
                refine lv_iconst (v := (nI 0)) hx hb dX5_castles_132 (by decide) ?_
                refine W.top (y := .int (bI (can bd sd rt f t))) (congrArg Value.int (by unfold can rgh; first | (rw [decide_eq_false (not_not_intro c95)]; rfl) | (rw [decide_eq_true c95, decide_eq_false c114]; rfl) | (rw [decide_eq_true c95, decide_eq_true c114, c125]; rfl))) ?_
                exact hj_133 ls (lv_sub hl [0, 1, 2, 3, 4, 5, 6, 7, 8] rfl)
              · skip
                refine lv_aload_n hx hb dX5_castles_117 rfl (lv_at hl 5 rfl) ?_
                refine lv_iload_n hx hb dX5_castles_118 rfl (lv_at hl 6 rfl) ?_
                refine lv_iload_n hx hb dX5_castles_119 rfl (lv_at hl 7 rfl) ?_
                refine lv_iload hx hb dX5_castles_120 (lv_at hl 0 rfl) ?_
                refine roI (rnV (As := [.int (nI b), .int (nI f), .int (nI (cnr sd f t))]) (rest := []) S0 (c_X5_isFree l bd b f (cnr sd f t) hb9 hf hcl (cnr_lined hs2 c28) hBp) wm_X5_47 wi_X5_isFree ws_X5_isFree wn_X5 wc_X5_isFree hd_X5_isFree ⟨rfl, rfl, by decide, by decide⟩ IW.blind (va_recv hK hP (ci := 4) (q0 := 0) rfl rfl) (IW.at hP hD hK hA hE hS) hl.1 (Nat.le_of_ble_eq_true rfl) dX5_castles_122 rfl ⟨by decide, by decide⟩) (fun r_3 hr_3 => ?_)
                subst hr_3
                refine lb_if_eq (tgt := 132) hx hb dX5_castles_125 (by decide) (fun c125 => ?_) (fun c125 => ?_)
                · skip
                  refine lv_iconst (v := (nI 0)) hx hb dX5_castles_132 (by decide) ?_
                  refine W.top (y := .int (bI (can bd sd rt f t))) (congrArg Value.int (by unfold can rgh; first | (rw [decide_eq_false (not_not_intro c95)]; rfl) | (rw [decide_eq_true c95, decide_eq_false c114]; rfl) | (rw [decide_eq_true c95, decide_eq_true c114, c125]; rfl))) ?_
                  exact hj_133 ls (lv_sub hl [0, 1, 2, 3, 4, 5, 6, 7, 8] rfl)
                · skip
                  refine lv_iconst (v := (nI 1)) hx hb dX5_castles_128 (by decide) ?_
                  refine lv_goto (tgt := 133) hx hb dX5_castles_129 (by decide) ?_
                  refine W.top (y := .int (bI (can bd sd rt f t))) (congrArg Value.int (by unfold can rgh; first | (rw [decide_eq_false (not_not_intro c95)]; rfl) | (rw [decide_eq_true c95, decide_eq_false c114]; rfl) | (rw [decide_eq_true c95, decide_eq_true c114, c125]; rfl))) ?_
                  exact hj_133 ls (lv_sub hl [0, 1, 2, 3, 4, 5, 6, 7, 8] rfl)
        · skip
          refine lv_icmp_ne (tgt := 77) hx hb dX5_castles_67 (by decide) (fun c67 => ?_) (fun c67 => ?_)
          · skip
            rw [(dif2 hf ht).1] at c67
            refine lv_iload hx hb dX5_castles_77 (lv_at hl 2 rfl) ?_
            refine lv_iconst (v := (nI 4)) hx hb dX5_castles_79 (by decide) ?_
            refine ln_isub hx hb dX5_castles_80 (by omega) ?_
            refine W.top (y := .int (nI (cnr sd f t))) (congrArg Value.int (congrArg nI (by unfold cnr; first | rw [if_pos c67] | rw [if_neg c67]))) ?_
            exact hj_81 ls (lv_sub hl [0, 1, 2, 3, 4, 5, 6, 7] rfl)
          · skip
            rw [(dif2 hf ht).1] at c67
            refine lv_iload hx hb dX5_castles_70 (lv_at hl 2 rfl) ?_
            refine lv_iconst (v := (nI 3)) hx hb dX5_castles_72 (by decide) ?_
            refine ln_iadd hx hb dX5_castles_73 ?_
            refine lv_goto (tgt := 81) hx hb dX5_castles_74 (by decide) ?_
            refine W.top (y := .int (nI (cnr sd f t))) (congrArg Value.int (congrArg nI (by unfold cnr; first | rw [if_pos c67] | rw [if_neg c67]))) ?_
            exact hj_81 ls (lv_sub hl [0, 1, 2, 3, 4, 5, 6, 7] rfl)
      · skip
        refine lv_icmp_ne (tgt := 56) hx hb dX5_castles_49 (by decide) (fun c49 => ?_) (fun c49 => ?_)
        · skip
          rw [(dif2 hf ht).1] at c49
          refine lv_iconst (v := (nI 2)) hx hb dX5_castles_56 (by decide) ?_
          refine W.top (y := .int (nI (if t = f + 2 then 1 else 2))) (congrArg Value.int (congrArg nI (by first | rw [if_pos c49] | rw [if_neg c49]))) ?_
          exact hj_57 ls (lv_sub hl [0, 1, 2, 3, 4, 5, 6] rfl)
        · skip
          rw [(dif2 hf ht).1] at c49
          refine lv_iconst (v := (nI 1)) hx hb dX5_castles_52 (by decide) ?_
          refine lv_goto (tgt := 57) hx hb dX5_castles_53 (by decide) ?_
          refine W.top (y := .int (nI (if t = f + 2 then 1 else 2))) (congrArg Value.int (congrArg nI (by first | rw [if_pos c49] | rw [if_neg c49]))) ?_
          exact hj_57 ls (lv_sub hl [0, 1, 2, 3, 4, 5, 6] rfl)
    · skip
      refine lv_icmp_eq (tgt := 46) hx hb dX5_castles_34 (by decide) (fun c34 => ?_) (fun c34 => ?_)
      · skip
        rw [(dif2 hf ht).1] at c34
        exact hj_46 (by omega) ls (lv_sub hl [0, 1, 2, 3, 4, 5, 6] rfl)
      · skip
        rw [(dif2 hf ht).1] at c34
        refine lv_iload hx hb dX5_castles_37 (lv_at hl 0 rfl) ?_
        refine lv_bipush (v := (-2)) hx hb dX5_castles_39 (by decide) ?_
        refine lv_icmp_eq (tgt := 46) hx hb dX5_castles_41 (by decide) (fun c41 => ?_) (fun c41 => ?_)
        · skip
          rw [(dif2 hf ht).2] at c41
          exact hj_46 (by omega) ls (lv_sub hl [0, 1, 2, 3, 4, 5, 6] rfl)
        · skip
          rw [(dif2 hf ht).2] at c41
          refine lv_iconst (v := (nI 0)) hx hb dX5_castles_44 (by decide) ?_
          exact reZ (v := false) hx hb hr hlocks dX5_castles_45 (congrArg bI (cas_n (by omega)).symm)
theorem dX5_takesPassing_0 : decode cX5_takesPassing 0 = .ok (.aload_n 0, 1) := by decide +kernel
theorem dX5_takesPassing_1 : decode cX5_takesPassing 1 = .ok (.getfield 7, 3) := by decide +kernel
theorem dX5_takesPassing_4 : decode cX5_takesPassing 4 = .ok (.iload_n 1, 1) := by decide +kernel
theorem dX5_takesPassing_5 : decode cX5_takesPassing 5 = .ok (.bipush 64, 2) := by decide +kernel
theorem dX5_takesPassing_7 : decode cX5_takesPassing 7 = .ok (.iadd, 1) := by decide +kernel
theorem dX5_takesPassing_8 : decode cX5_takesPassing 8 = .ok (.iaload, 1) := by decide +kernel
theorem dX5_takesPassing_9 : decode cX5_takesPassing 9 = .ok (.istore 4, 2) := by decide +kernel
theorem dX5_takesPassing_11 : decode cX5_takesPassing 11 = .ok (.iload 4, 2) := by decide +kernel
theorem dX5_takesPassing_13 : decode cX5_takesPassing 13 = .ok (.ifCond .ne 10, 3) := by decide +kernel
theorem dX5_takesPassing_16 : decode cX5_takesPassing 16 = .ok (.iload_n 3, 1) := by decide +kernel
theorem dX5_takesPassing_17 : decode cX5_takesPassing 17 = .ok (.bipush 8, 2) := by decide +kernel
theorem dX5_takesPassing_19 : decode cX5_takesPassing 19 = .ok (.isub, 1) := by decide +kernel
theorem dX5_takesPassing_20 : decode cX5_takesPassing 20 = .ok (.goto 7, 3) := by decide +kernel
theorem dX5_takesPassing_23 : decode cX5_takesPassing 23 = .ok (.iload_n 3, 1) := by decide +kernel
theorem dX5_takesPassing_24 : decode cX5_takesPassing 24 = .ok (.bipush 8, 2) := by decide +kernel
theorem dX5_takesPassing_26 : decode cX5_takesPassing 26 = .ok (.iadd, 1) := by decide +kernel
theorem dX5_takesPassing_27 : decode cX5_takesPassing 27 = .ok (.istore 5, 2) := by decide +kernel
theorem dX5_takesPassing_29 : decode cX5_takesPassing 29 = .ok (.iload_n 3, 1) := by decide +kernel
theorem dX5_takesPassing_30 : decode cX5_takesPassing 30 = .ok (.aload_n 0, 1) := by decide +kernel
theorem dX5_takesPassing_31 : decode cX5_takesPassing 31 = .ok (.getfield 7, 3) := by decide +kernel
theorem dX5_takesPassing_34 : decode cX5_takesPassing 34 = .ok (.iload_n 1, 1) := by decide +kernel
theorem dX5_takesPassing_35 : decode cX5_takesPassing 35 = .ok (.bipush 66, 2) := by decide +kernel
theorem dX5_takesPassing_37 : decode cX5_takesPassing 37 = .ok (.iadd, 1) := by decide +kernel
theorem dX5_takesPassing_38 : decode cX5_takesPassing 38 = .ok (.iaload, 1) := by decide +kernel
theorem dX5_takesPassing_39 : decode cX5_takesPassing 39 = .ok (.if_icmp .ne 68, 3) := by decide +kernel
theorem dX5_takesPassing_42 : decode cX5_takesPassing 42 = .ok (.aload_n 0, 1) := by decide +kernel
theorem dX5_takesPassing_43 : decode cX5_takesPassing 43 = .ok (.getfield 7, 3) := by decide +kernel
theorem dX5_takesPassing_46 : decode cX5_takesPassing 46 = .ok (.iload_n 1, 1) := by decide +kernel
theorem dX5_takesPassing_47 : decode cX5_takesPassing 47 = .ok (.iload_n 3, 1) := by decide +kernel
theorem dX5_takesPassing_48 : decode cX5_takesPassing 48 = .ok (.iadd, 1) := by decide +kernel
theorem dX5_takesPassing_49 : decode cX5_takesPassing 49 = .ok (.iaload, 1) := by decide +kernel
theorem dX5_takesPassing_50 : decode cX5_takesPassing 50 = .ok (.ifCond .ne 57, 3) := by decide +kernel
theorem dX5_takesPassing_53 : decode cX5_takesPassing 53 = .ok (.aload_n 0, 1) := by decide +kernel
theorem dX5_takesPassing_54 : decode cX5_takesPassing 54 = .ok (.iload_n 1, 1) := by decide +kernel
theorem dX5_takesPassing_55 : decode cX5_takesPassing 55 = .ok (.iload_n 2, 1) := by decide +kernel
theorem dX5_takesPassing_56 : decode cX5_takesPassing 56 = .ok (.iload_n 3, 1) := by decide +kernel
theorem dX5_takesPassing_57 : decode cX5_takesPassing 57 = .ok (.invokevirtual 54, 3) := by decide +kernel
theorem dX5_takesPassing_60 : decode cX5_takesPassing 60 = .ok (.ifCond .eq 47, 3) := by decide +kernel
theorem dX5_takesPassing_63 : decode cX5_takesPassing 63 = .ok (.iload 5, 2) := by decide +kernel
theorem dX5_takesPassing_65 : decode cX5_takesPassing 65 = .ok (.invokestatic 36, 3) := by decide +kernel
theorem dX5_takesPassing_68 : decode cX5_takesPassing 68 = .ok (.ifCond .eq 39, 3) := by decide +kernel
theorem dX5_takesPassing_71 : decode cX5_takesPassing 71 = .ok (.aload_n 0, 1) := by decide +kernel
theorem dX5_takesPassing_72 : decode cX5_takesPassing 72 = .ok (.getfield 7, 3) := by decide +kernel
theorem dX5_takesPassing_75 : decode cX5_takesPassing 75 = .ok (.iload_n 1, 1) := by decide +kernel
theorem dX5_takesPassing_76 : decode cX5_takesPassing 76 = .ok (.iload 5, 2) := by decide +kernel
theorem dX5_takesPassing_78 : decode cX5_takesPassing 78 = .ok (.invokestatic 36, 3) := by decide +kernel
theorem dX5_takesPassing_81 : decode cX5_takesPassing 81 = .ok (.ifCond .eq 8, 3) := by decide +kernel
theorem dX5_takesPassing_84 : decode cX5_takesPassing 84 = .ok (.iload 5, 2) := by decide +kernel
theorem dX5_takesPassing_86 : decode cX5_takesPassing 86 = .ok (.goto 4, 3) := by decide +kernel
theorem dX5_takesPassing_89 : decode cX5_takesPassing 89 = .ok (.iconst 0, 1) := by decide +kernel
theorem dX5_takesPassing_90 : decode cX5_takesPassing 90 = .ok (.iadd, 1) := by decide +kernel
theorem dX5_takesPassing_91 : decode cX5_takesPassing 91 = .ok (.iaload, 1) := by decide +kernel
theorem dX5_takesPassing_92 : decode cX5_takesPassing 92 = .ok (.bipush 7, 2) := by decide +kernel
theorem dX5_takesPassing_94 : decode cX5_takesPassing 94 = .ok (.bipush 6, 2) := by decide +kernel
theorem dX5_takesPassing_96 : decode cX5_takesPassing 96 = .ok (.iload 4, 2) := by decide +kernel
theorem dX5_takesPassing_98 : decode cX5_takesPassing 98 = .ok (.imul, 1) := by decide +kernel
theorem dX5_takesPassing_99 : decode cX5_takesPassing 99 = .ok (.isub, 1) := by decide +kernel
theorem dX5_takesPassing_100 : decode cX5_takesPassing 100 = .ok (.if_icmp .ne 7, 3) := by decide +kernel
theorem dX5_takesPassing_103 : decode cX5_takesPassing 103 = .ok (.iconst 1, 1) := by decide +kernel
theorem dX5_takesPassing_104 : decode cX5_takesPassing 104 = .ok (.goto 4, 3) := by decide +kernel
theorem dX5_takesPassing_107 : decode cX5_takesPassing 107 = .ok (.iconst 0, 1) := by decide +kernel
theorem dX5_takesPassing_108 : decode cX5_takesPassing 108 = .ok (.ireturn, 1) := by decide +kernel
theorem hd_X5_takesPassing : yX5_takesPassing.cls ≠ "java/lang/invoke/MethodHandle" ∧ yX5_takesPassing.cls ≠ "java/lang/invoke/VarHandle" ∧ (parseMethodDescriptor yX5_takesPassing.desc).map (fun d => d.parameters.length) = some 3 := by decide +kernel
set_option maxHeartbeats 4000000 in
set_option maxRecDepth 100000 in
/-- takesPassing -/
theorem c_X5_takesPassing (l : Launch) {D : va_G} {cI cJ : ClassId} {A : Nat → Prop} {hm b0 b1 b2 b3 : Nat} {th mk sz : Int32} {F mv kp li : Nat → Int32} (bd : Nat → Nat) (sd rt ps b f t : Nat) (hb9 : b ≤ 300) (hf : f < 64) (ht : t < 64) (hBd : Bd F b bd sd rt ps) : Met l yX5_takesPassing (Cond.code yX5_takesPassing cX5_takesPassing 6 (some .boolean) :: wsL_law) (rK 2) (va_Pc [.ref hm, .int (nI b), .int (nI f), .int (nI t)] (IW D cI cJ A (rW cI hm b0 b1 b2 b3 th mk sz F mv kp li))) (vp_Si (fun r => r = bI (tps bd sd ps f t))) 0 0 (fun _ => False) := by
  refine entM (by decide) (Nat.le_of_ble_eq_true rfl) ?_
  intro p e s m below meth c ls S0 hr hlocks hG hnm hB hl
  have hx := S0.1
  have hb := S0.2.1
  have hown := S0.2.2.2.1
  have hl : lv_has ls 6 [(0, .ref hm), (1, .int (nI b)), (2, .int (nI f)), (3, .int (nI t))] := hl
  obtain ⟨hP, hD, hK, hA, hE⟩ := hB
  have hS : va_S A s.heap s.heap [] := va_S.rf
  obtain ⟨hBp, hsd, hs2, hrt, hr16, hps, hp65⟩ := id hBd
  refine lv_aload_n hx hb dX5_takesPassing_0 rfl (lv_at hl 0 rfl) ?_
  refine va_get (D := D) (ci := 4) (v := .ref b0) (C := RX5) (T := TX5) (N := 7) hx hb hG wu_X5 hown hK hP 0 rfl rfl 1 (by decide) (hG _ wf_X5_7) (fun _ h9 => h9) rfl dX5_takesPassing_1 ?_
  refine lv_iload_n hx hb dX5_takesPassing_4 rfl (lv_at hl 1 rfl) ?_
  refine lv_bipush (v := (nI 64)) hx hb dX5_takesPassing_5 (by decide) ?_
  refine ln_iadd hx hb dX5_takesPassing_7 ?_
  refine va_iald hx hb hK hP 1 0 rfl rfl (vp_in_nI (by omega) (by decide)) dX5_takesPassing_8 ?_
  refine W.top (y := .int (F (b + 64))) (congrArg (fun z => Value.int (F z)) (nI_clamp (by omega))) ?_
  refine W.top (y := .int (nI sd)) (congrArg Value.int hsd) ?_
  refine lv_istore (lv' := [(4, .int (nI sd)), (0, .ref hm), (1, .int (nI b)), (2, .int (nI f)), (3, .int (nI t))]) hx hb dX5_takesPassing_9 hl (by decide) rfl (fun ls hl => ?_)
  refine lv_iload hx hb dX5_takesPassing_11 (lv_at hl 0 rfl) ?_
  refine jnG 27 6 [(4, .int (nI sd)), (0, .ref hm), (1, .int (nI b)), (2, .int (nI f)), (3, .int (nI t))] [.int (bkI sd t)] ?_ (fun hj_27 => ?_)
  · intro ls hl
    refine lv_istore (lv' := [(5, .int (bkI sd t)), (4, .int (nI sd)), (0, .ref hm), (1, .int (nI b)), (2, .int (nI f)), (3, .int (nI t))]) hx hb dX5_takesPassing_27 hl (by decide) rfl (fun ls hl => ?_)
    refine lv_iload_n hx hb dX5_takesPassing_29 rfl (lv_at hl 5 rfl) ?_
    refine lv_aload_n hx hb dX5_takesPassing_30 rfl (lv_at hl 2 rfl) ?_
    refine va_get (D := D) (ci := 4) (v := .ref b0) (C := RX5) (T := TX5) (N := 7) hx hb hG wu_X5 hown hK hP 0 rfl rfl 1 (by decide) (hG _ wf_X5_7) (fun _ h9 => h9) rfl dX5_takesPassing_31 ?_
    refine lv_iload_n hx hb dX5_takesPassing_34 rfl (lv_at hl 3 rfl) ?_
    refine lv_bipush (v := (nI 66)) hx hb dX5_takesPassing_35 (by decide) ?_
    refine ln_iadd hx hb dX5_takesPassing_37 ?_
    refine va_iald hx hb hK hP 1 0 rfl rfl (vp_in_nI (by omega) (by decide)) dX5_takesPassing_38 ?_
    refine W.top (y := .int (F (b + 66))) (congrArg (fun z => Value.int (F z)) (nI_clamp (by omega))) ?_
    refine W.top (y := .int (pI ps)) (congrArg Value.int hps) ?_
    refine lv_icmp_ne (tgt := 107) hx hb dX5_takesPassing_39 (by decide) (fun c39 => ?_) (fun c39 => ?_)
    · skip
      rw [pI_eq ht hp65] at c39
      refine lv_iconst (v := (nI 0)) hx hb dX5_takesPassing_107 (by decide) ?_
      exact reZ (v := false) hx hb hr hlocks dX5_takesPassing_108 (congrArg bI (by unfold tps; first | (rw [decide_eq_true c39, decide_eq_true c50, c60, c68, decide_eq_true c100]; rfl) | (rw [decide_eq_true c39, decide_eq_true c50, c60, c68, decide_eq_false c100]; rfl) | (rw [decide_eq_true c39, decide_eq_true c50, c60, c68]; rfl) | (rw [decide_eq_true c39, decide_eq_true c50, c60]; rfl) | (rw [decide_eq_true c39, decide_eq_false c50]; rfl) | (rw [decide_eq_false c39]; rfl)))
    · skip
      rw [pI_eq ht hp65] at c39
      refine lv_aload_n hx hb dX5_takesPassing_42 rfl (lv_at hl 2 rfl) ?_
      refine va_get (D := D) (ci := 4) (v := .ref b0) (C := RX5) (T := TX5) (N := 7) hx hb hG wu_X5 hown hK hP 0 rfl rfl 1 (by decide) (hG _ wf_X5_7) (fun _ h9 => h9) rfl dX5_takesPassing_43 ?_
      refine lv_iload_n hx hb dX5_takesPassing_46 rfl (lv_at hl 3 rfl) ?_
      refine lv_iload_n hx hb dX5_takesPassing_47 rfl (lv_at hl 5 rfl) ?_
      refine ln_iadd hx hb dX5_takesPassing_48 ?_
      have htb := (hBp _ ht).2
      refine va_iald hx hb hK hP 1 0 rfl rfl (vp_in_nI (by omega) (by decide)) dX5_takesPassing_49 ?_
      refine W.top (y := .int (F (b + t))) (congrArg (fun z => Value.int (F z)) (nI_clamp (by omega))) ?_
      refine W.top (y := .int (nI (bd t))) (congrArg Value.int (hBp _ ht).1) ?_
      refine ln_if_ne (tgt := 107) hx hb dX5_takesPassing_50 (by decide) (by omega) (fun c50 => ?_) (fun c50 => ?_)
      · skip
        refine lv_iconst (v := (nI 0)) hx hb dX5_takesPassing_107 (by decide) ?_
        exact reZ (v := false) hx hb hr hlocks dX5_takesPassing_108 (congrArg bI (by unfold tps; first | (rw [decide_eq_true c39, decide_eq_true c50, c60, c68, decide_eq_true c100]; rfl) | (rw [decide_eq_true c39, decide_eq_true c50, c60, c68, decide_eq_false c100]; rfl) | (rw [decide_eq_true c39, decide_eq_true c50, c60, c68]; rfl) | (rw [decide_eq_true c39, decide_eq_true c50, c60]; rfl) | (rw [decide_eq_true c39, decide_eq_false c50]; rfl) | (rw [decide_eq_false c39]; rfl)))
      · skip
        refine lv_aload_n hx hb dX5_takesPassing_53 rfl (lv_at hl 2 rfl) ?_
        refine lv_iload_n hx hb dX5_takesPassing_54 rfl (lv_at hl 3 rfl) ?_
        refine lv_iload_n hx hb dX5_takesPassing_55 rfl (lv_at hl 4 rfl) ?_
        refine lv_iload_n hx hb dX5_takesPassing_56 rfl (lv_at hl 5 rfl) ?_
        refine roI (rnV (As := [.int (nI b), .int (nI f), .int (nI t)]) (rest := []) S0 (c_X5_attacks l bd b f t hb9 hf ht hBp) wm_X5_54 wi_X5_attacks ws_X5_attacks wn_X5 wc_X5_attacks hd_X5_attacks ⟨rfl, rfl, by decide, by decide⟩ IW.blind (va_recv hK hP (ci := 4) (q0 := 0) rfl rfl) (IW.at hP hD hK hA hE hS) hl.1 (Nat.le_of_ble_eq_true rfl) dX5_takesPassing_57 rfl ⟨by decide, by decide⟩) (fun r_1 hr_1 => ?_)
        subst hr_1
        refine lb_if_eq (tgt := 107) hx hb dX5_takesPassing_60 (by decide) (fun c60 => ?_) (fun c60 => ?_)
        · skip
          refine lv_iconst (v := (nI 0)) hx hb dX5_takesPassing_107 (by decide) ?_
          exact reZ (v := false) hx hb hr hlocks dX5_takesPassing_108 (congrArg bI (by unfold tps; first | (rw [decide_eq_true c39, decide_eq_true c50, c60, c68, decide_eq_true c100]; rfl) | (rw [decide_eq_true c39, decide_eq_true c50, c60, c68, decide_eq_false c100]; rfl) | (rw [decide_eq_true c39, decide_eq_true c50, c60, c68]; rfl) | (rw [decide_eq_true c39, decide_eq_true c50, c60]; rfl) | (rw [decide_eq_true c39, decide_eq_false c50]; rfl) | (rw [decide_eq_false c39]; rfl)))
        · skip
          refine lv_iload hx hb dX5_takesPassing_63 (lv_at hl 0 rfl) ?_
          refine roI (rnS (As := [.int (bkI sd t)]) (rest := []) S0 (c_X5_isSquare l (bkI sd t)) wm_X5_36 wt_X5_isSquare wn_X5 wc_X5_isSquare hd_X5_isSquare ⟨rfl, rfl, by decide, by decide⟩ True.blind (fun _ _ _ => trivial) hl.1 (Nat.le_of_ble_eq_true rfl) dX5_takesPassing_65 rfl ⟨by decide, by decide⟩) (fun r_2 hr_2 => ?_)
          subst hr_2
          refine lb_if_eq (tgt := 107) hx hb dX5_takesPassing_68 (by decide) (fun c68 => ?_) (fun c68 => ?_)
          · skip
            refine lv_iconst (v := (nI 0)) hx hb dX5_takesPassing_107 (by decide) ?_
            exact reZ (v := false) hx hb hr hlocks dX5_takesPassing_108 (congrArg bI (by unfold tps; first | (rw [decide_eq_true c39, decide_eq_true c50, c60, c68, decide_eq_true c100]; rfl) | (rw [decide_eq_true c39, decide_eq_true c50, c60, c68, decide_eq_false c100]; rfl) | (rw [decide_eq_true c39, decide_eq_true c50, c60, c68]; rfl) | (rw [decide_eq_true c39, decide_eq_true c50, c60]; rfl) | (rw [decide_eq_true c39, decide_eq_false c50]; rfl) | (rw [decide_eq_false c39]; rfl)))
          · skip
            obtain ⟨hbe, hbl⟩ := bk_e ht c68
            obtain ⟨hbv, hbk⟩ := hBp _ hbl
            refine lv_aload_n hx hb dX5_takesPassing_71 rfl (lv_at hl 2 rfl) ?_
            refine va_get (D := D) (ci := 4) (v := .ref b0) (C := RX5) (T := TX5) (N := 7) hx hb hG wu_X5 hown hK hP 0 rfl rfl 1 (by decide) (hG _ wf_X5_7) (fun _ h9 => h9) rfl dX5_takesPassing_72 ?_
            refine lv_iload_n hx hb dX5_takesPassing_75 rfl (lv_at hl 3 rfl) ?_
            refine lv_iload hx hb dX5_takesPassing_76 (lv_at hl 0 rfl) ?_
            refine roI (rnS (As := [.int (bkI sd t)]) (rest := [.int (nI b), .ref b0]) S0 (c_X5_isSquare l (bkI sd t)) wm_X5_36 wt_X5_isSquare wn_X5 wc_X5_isSquare hd_X5_isSquare ⟨rfl, rfl, by decide, by decide⟩ True.blind (fun _ _ _ => trivial) hl.1 (Nat.le_of_ble_eq_true rfl) dX5_takesPassing_78 rfl ⟨by decide, by decide⟩) (fun r_3 hr_3 => ?_)
            subst hr_3
            refine lb_if_eq (tgt := 89) hx hb dX5_takesPassing_81 (by decide) (fun c81 => ?_) (fun c81 => ?_)
            · skip
              exact absurd (c68.symm.trans c81) (by decide)
            · skip
              refine lv_iload hx hb dX5_takesPassing_84 (lv_at hl 0 rfl) ?_
              refine W.top (y := .int (nI (bkN sd t))) (congrArg Value.int hbe) ?_
              refine lv_goto (tgt := 90) hx hb dX5_takesPassing_86 (by decide) ?_
              refine ln_iadd hx hb dX5_takesPassing_90 ?_
              refine va_iald hx hb hK hP 1 0 rfl rfl (vp_in_nI (by omega) (by decide)) dX5_takesPassing_91 ?_
              refine W.top (y := .int (F (b + (bkN sd t)))) (congrArg (fun z => Value.int (F z)) (nI_clamp (by omega))) ?_
              refine W.top (y := .int (nI (bd (bkN sd t)))) (congrArg Value.int hbv) ?_
              refine lv_bipush (v := (nI 7)) hx hb dX5_takesPassing_92 (by decide) ?_
              refine lv_bipush (v := (nI 6)) hx hb dX5_takesPassing_94 (by decide) ?_
              refine lv_iload hx hb dX5_takesPassing_96 (lv_at hl 1 rfl) ?_
              refine ln_imul hx hb dX5_takesPassing_98 ?_
              refine ln_isub hx hb dX5_takesPassing_99 (by omega) ?_
              refine ln_icmp_ne (tgt := 107) hx hb dX5_takesPassing_100 (by decide) (by omega) (by omega) (fun c100 => ?_) (fun c100 => ?_)
              · skip
                refine lv_iconst (v := (nI 0)) hx hb dX5_takesPassing_107 (by decide) ?_
                exact reZ (v := false) hx hb hr hlocks dX5_takesPassing_108 (congrArg bI (by unfold tps; first | (rw [decide_eq_true c39, decide_eq_true c50, c60, c68, decide_eq_true c100]; rfl) | (rw [decide_eq_true c39, decide_eq_true c50, c60, c68, decide_eq_false c100]; rfl) | (rw [decide_eq_true c39, decide_eq_true c50, c60, c68]; rfl) | (rw [decide_eq_true c39, decide_eq_true c50, c60]; rfl) | (rw [decide_eq_true c39, decide_eq_false c50]; rfl) | (rw [decide_eq_false c39]; rfl)))
              · skip
                refine lv_iconst (v := (nI 1)) hx hb dX5_takesPassing_103 (by decide) ?_
                refine lv_goto (tgt := 108) hx hb dX5_takesPassing_104 (by decide) ?_
                exact reZ (v := true) hx hb hr hlocks dX5_takesPassing_108 (congrArg bI (by unfold tps; first | (rw [decide_eq_true c39, decide_eq_true c50, c60, c68, decide_eq_true c100]; rfl) | (rw [decide_eq_true c39, decide_eq_true c50, c60, c68, decide_eq_false c100]; rfl) | (rw [decide_eq_true c39, decide_eq_true c50, c60, c68]; rfl) | (rw [decide_eq_true c39, decide_eq_true c50, c60]; rfl) | (rw [decide_eq_true c39, decide_eq_false c50]; rfl) | (rw [decide_eq_false c39]; rfl)))
  · skip
    refine ln_if_ne (tgt := 23) hx hb dX5_takesPassing_13 (by decide) (by omega) (fun c13 => ?_) (fun c13 => ?_)
    · skip
      refine lv_iload_n hx hb dX5_takesPassing_23 rfl (lv_at hl 4 rfl) ?_
      refine lv_bipush (v := (nI 8)) hx hb dX5_takesPassing_24 (by decide) ?_
      refine ln_iadd hx hb dX5_takesPassing_26 ?_
      refine W.top (y := .int (bkI sd t)) (congrArg Value.int (by unfold bkI; first | rw [if_pos c13] | rw [if_neg c13])) ?_
      exact hj_27 ls (lv_sub hl [0, 1, 2, 3, 4] rfl)
    · skip
      refine lv_iload_n hx hb dX5_takesPassing_16 rfl (lv_at hl 4 rfl) ?_
      refine lv_bipush (v := (nI 8)) hx hb dX5_takesPassing_17 (by decide) ?_
      refine lv_isub hx hb dX5_takesPassing_19 ?_
      refine lv_goto (tgt := 27) hx hb dX5_takesPassing_20 (by decide) ?_
      refine W.top (y := .int (bkI sd t)) (congrArg Value.int (by unfold bkI; first | rw [if_pos c13] | rw [if_neg c13])) ?_
      exact hj_27 ls (lv_sub hl [0, 1, 2, 3, 4] rfl)
theorem dX5_pawnGoes_0 : decode cX5_pawnGoes 0 = .ok (.aload_n 0, 1) := by decide +kernel
theorem dX5_pawnGoes_1 : decode cX5_pawnGoes 1 = .ok (.getfield 7, 3) := by decide +kernel
theorem dX5_pawnGoes_4 : decode cX5_pawnGoes 4 = .ok (.iload_n 1, 1) := by decide +kernel
theorem dX5_pawnGoes_5 : decode cX5_pawnGoes 5 = .ok (.bipush 64, 2) := by decide +kernel
theorem dX5_pawnGoes_7 : decode cX5_pawnGoes 7 = .ok (.iadd, 1) := by decide +kernel
theorem dX5_pawnGoes_8 : decode cX5_pawnGoes 8 = .ok (.iaload, 1) := by decide +kernel
theorem dX5_pawnGoes_9 : decode cX5_pawnGoes 9 = .ok (.istore 4, 2) := by decide +kernel
theorem dX5_pawnGoes_11 : decode cX5_pawnGoes 11 = .ok (.iload 4, 2) := by decide +kernel
theorem dX5_pawnGoes_13 : decode cX5_pawnGoes 13 = .ok (.ifCond .ne 8, 3) := by decide +kernel
theorem dX5_pawnGoes_16 : decode cX5_pawnGoes 16 = .ok (.bipush 8, 2) := by decide +kernel
theorem dX5_pawnGoes_18 : decode cX5_pawnGoes 18 = .ok (.goto 5, 3) := by decide +kernel
theorem dX5_pawnGoes_21 : decode cX5_pawnGoes 21 = .ok (.bipush (-8), 2) := by decide +kernel
theorem dX5_pawnGoes_23 : decode cX5_pawnGoes 23 = .ok (.istore 5, 2) := by decide +kernel
theorem dX5_pawnGoes_25 : decode cX5_pawnGoes 25 = .ok (.iload_n 3, 1) := by decide +kernel
theorem dX5_pawnGoes_26 : decode cX5_pawnGoes 26 = .ok (.iload_n 2, 1) := by decide +kernel
theorem dX5_pawnGoes_27 : decode cX5_pawnGoes 27 = .ok (.iload 5, 2) := by decide +kernel
theorem dX5_pawnGoes_29 : decode cX5_pawnGoes 29 = .ok (.iadd, 1) := by decide +kernel
theorem dX5_pawnGoes_30 : decode cX5_pawnGoes 30 = .ok (.if_icmp .ne 20, 3) := by decide +kernel
theorem dX5_pawnGoes_33 : decode cX5_pawnGoes 33 = .ok (.aload_n 0, 1) := by decide +kernel
theorem dX5_pawnGoes_34 : decode cX5_pawnGoes 34 = .ok (.getfield 7, 3) := by decide +kernel
theorem dX5_pawnGoes_37 : decode cX5_pawnGoes 37 = .ok (.iload_n 1, 1) := by decide +kernel
theorem dX5_pawnGoes_38 : decode cX5_pawnGoes 38 = .ok (.iload_n 3, 1) := by decide +kernel
theorem dX5_pawnGoes_39 : decode cX5_pawnGoes 39 = .ok (.iadd, 1) := by decide +kernel
theorem dX5_pawnGoes_40 : decode cX5_pawnGoes 40 = .ok (.iaload, 1) := by decide +kernel
theorem dX5_pawnGoes_41 : decode cX5_pawnGoes 41 = .ok (.ifCond .ne 7, 3) := by decide +kernel
theorem dX5_pawnGoes_44 : decode cX5_pawnGoes 44 = .ok (.iconst 1, 1) := by decide +kernel
theorem dX5_pawnGoes_45 : decode cX5_pawnGoes 45 = .ok (.goto 4, 3) := by decide +kernel
theorem dX5_pawnGoes_48 : decode cX5_pawnGoes 48 = .ok (.iconst 0, 1) := by decide +kernel
theorem dX5_pawnGoes_49 : decode cX5_pawnGoes 49 = .ok (.ireturn, 1) := by decide +kernel
theorem dX5_pawnGoes_50 : decode cX5_pawnGoes 50 = .ok (.iload_n 3, 1) := by decide +kernel
theorem dX5_pawnGoes_51 : decode cX5_pawnGoes 51 = .ok (.iload_n 2, 1) := by decide +kernel
theorem dX5_pawnGoes_52 : decode cX5_pawnGoes 52 = .ok (.iconst 2, 1) := by decide +kernel
theorem dX5_pawnGoes_53 : decode cX5_pawnGoes 53 = .ok (.iload 5, 2) := by decide +kernel
theorem dX5_pawnGoes_55 : decode cX5_pawnGoes 55 = .ok (.imul, 1) := by decide +kernel
theorem dX5_pawnGoes_56 : decode cX5_pawnGoes 56 = .ok (.iadd, 1) := by decide +kernel
theorem dX5_pawnGoes_57 : decode cX5_pawnGoes 57 = .ok (.if_icmp .ne 52, 3) := by decide +kernel
theorem dX5_pawnGoes_60 : decode cX5_pawnGoes 60 = .ok (.iload_n 2, 1) := by decide +kernel
theorem dX5_pawnGoes_61 : decode cX5_pawnGoes 61 = .ok (.bipush 8, 2) := by decide +kernel
theorem dX5_pawnGoes_63 : decode cX5_pawnGoes 63 = .ok (.idiv, 1) := by decide +kernel
theorem dX5_pawnGoes_64 : decode cX5_pawnGoes 64 = .ok (.iload 4, 2) := by decide +kernel
theorem dX5_pawnGoes_66 : decode cX5_pawnGoes 66 = .ok (.ifCond .ne 7, 3) := by decide +kernel
theorem dX5_pawnGoes_69 : decode cX5_pawnGoes 69 = .ok (.iconst 1, 1) := by decide +kernel
theorem dX5_pawnGoes_70 : decode cX5_pawnGoes 70 = .ok (.goto 5, 3) := by decide +kernel
theorem dX5_pawnGoes_73 : decode cX5_pawnGoes 73 = .ok (.bipush 6, 2) := by decide +kernel
theorem dX5_pawnGoes_75 : decode cX5_pawnGoes 75 = .ok (.if_icmp .ne 32, 3) := by decide +kernel
theorem dX5_pawnGoes_78 : decode cX5_pawnGoes 78 = .ok (.aload_n 0, 1) := by decide +kernel
theorem dX5_pawnGoes_79 : decode cX5_pawnGoes 79 = .ok (.getfield 7, 3) := by decide +kernel
theorem dX5_pawnGoes_82 : decode cX5_pawnGoes 82 = .ok (.iload_n 1, 1) := by decide +kernel
theorem dX5_pawnGoes_83 : decode cX5_pawnGoes 83 = .ok (.iload_n 2, 1) := by decide +kernel
theorem dX5_pawnGoes_84 : decode cX5_pawnGoes 84 = .ok (.iadd, 1) := by decide +kernel
theorem dX5_pawnGoes_85 : decode cX5_pawnGoes 85 = .ok (.iload 5, 2) := by decide +kernel
theorem dX5_pawnGoes_87 : decode cX5_pawnGoes 87 = .ok (.iadd, 1) := by decide +kernel
theorem dX5_pawnGoes_88 : decode cX5_pawnGoes 88 = .ok (.iaload, 1) := by decide +kernel
theorem dX5_pawnGoes_89 : decode cX5_pawnGoes 89 = .ok (.ifCond .ne 18, 3) := by decide +kernel
theorem dX5_pawnGoes_92 : decode cX5_pawnGoes 92 = .ok (.aload_n 0, 1) := by decide +kernel
theorem dX5_pawnGoes_93 : decode cX5_pawnGoes 93 = .ok (.getfield 7, 3) := by decide +kernel
theorem dX5_pawnGoes_96 : decode cX5_pawnGoes 96 = .ok (.iload_n 1, 1) := by decide +kernel
theorem dX5_pawnGoes_97 : decode cX5_pawnGoes 97 = .ok (.iload_n 3, 1) := by decide +kernel
theorem dX5_pawnGoes_98 : decode cX5_pawnGoes 98 = .ok (.iadd, 1) := by decide +kernel
theorem dX5_pawnGoes_99 : decode cX5_pawnGoes 99 = .ok (.iaload, 1) := by decide +kernel
theorem dX5_pawnGoes_100 : decode cX5_pawnGoes 100 = .ok (.ifCond .ne 7, 3) := by decide +kernel
theorem dX5_pawnGoes_103 : decode cX5_pawnGoes 103 = .ok (.iconst 1, 1) := by decide +kernel
theorem dX5_pawnGoes_104 : decode cX5_pawnGoes 104 = .ok (.goto 4, 3) := by decide +kernel
theorem dX5_pawnGoes_107 : decode cX5_pawnGoes 107 = .ok (.iconst 0, 1) := by decide +kernel
theorem dX5_pawnGoes_108 : decode cX5_pawnGoes 108 = .ok (.ireturn, 1) := by decide +kernel
theorem dX5_pawnGoes_109 : decode cX5_pawnGoes 109 = .ok (.aload_n 0, 1) := by decide +kernel
theorem dX5_pawnGoes_110 : decode cX5_pawnGoes 110 = .ok (.iload_n 1, 1) := by decide +kernel
theorem dX5_pawnGoes_111 : decode cX5_pawnGoes 111 = .ok (.iload_n 2, 1) := by decide +kernel
theorem dX5_pawnGoes_112 : decode cX5_pawnGoes 112 = .ok (.iload_n 3, 1) := by decide +kernel
theorem dX5_pawnGoes_113 : decode cX5_pawnGoes 113 = .ok (.invokevirtual 54, 3) := by decide +kernel
theorem dX5_pawnGoes_116 : decode cX5_pawnGoes 116 = .ok (.ifCond .eq 21, 3) := by decide +kernel
theorem dX5_pawnGoes_119 : decode cX5_pawnGoes 119 = .ok (.aload_n 0, 1) := by decide +kernel
theorem dX5_pawnGoes_120 : decode cX5_pawnGoes 120 = .ok (.getfield 7, 3) := by decide +kernel
theorem dX5_pawnGoes_123 : decode cX5_pawnGoes 123 = .ok (.iload_n 1, 1) := by decide +kernel
theorem dX5_pawnGoes_124 : decode cX5_pawnGoes 124 = .ok (.iload_n 3, 1) := by decide +kernel
theorem dX5_pawnGoes_125 : decode cX5_pawnGoes 125 = .ok (.iadd, 1) := by decide +kernel
theorem dX5_pawnGoes_126 : decode cX5_pawnGoes 126 = .ok (.iaload, 1) := by decide +kernel
theorem dX5_pawnGoes_127 : decode cX5_pawnGoes 127 = .ok (.invokestatic 51, 3) := by decide +kernel
theorem dX5_pawnGoes_130 : decode cX5_pawnGoes 130 = .ok (.iconst 1, 1) := by decide +kernel
theorem dX5_pawnGoes_131 : decode cX5_pawnGoes 131 = .ok (.iload 4, 2) := by decide +kernel
theorem dX5_pawnGoes_133 : decode cX5_pawnGoes 133 = .ok (.isub, 1) := by decide +kernel
theorem dX5_pawnGoes_134 : decode cX5_pawnGoes 134 = .ok (.if_icmp .eq 13, 3) := by decide +kernel
theorem dX5_pawnGoes_137 : decode cX5_pawnGoes 137 = .ok (.aload_n 0, 1) := by decide +kernel
theorem dX5_pawnGoes_138 : decode cX5_pawnGoes 138 = .ok (.iload_n 1, 1) := by decide +kernel
theorem dX5_pawnGoes_139 : decode cX5_pawnGoes 139 = .ok (.iload_n 2, 1) := by decide +kernel
theorem dX5_pawnGoes_140 : decode cX5_pawnGoes 140 = .ok (.iload_n 3, 1) := by decide +kernel
theorem dX5_pawnGoes_141 : decode cX5_pawnGoes 141 = .ok (.invokevirtual 71, 3) := by decide +kernel
theorem dX5_pawnGoes_144 : decode cX5_pawnGoes 144 = .ok (.ifCond .eq 7, 3) := by decide +kernel
theorem dX5_pawnGoes_147 : decode cX5_pawnGoes 147 = .ok (.iconst 1, 1) := by decide +kernel
theorem dX5_pawnGoes_148 : decode cX5_pawnGoes 148 = .ok (.goto 4, 3) := by decide +kernel
theorem dX5_pawnGoes_151 : decode cX5_pawnGoes 151 = .ok (.iconst 0, 1) := by decide +kernel
theorem dX5_pawnGoes_152 : decode cX5_pawnGoes 152 = .ok (.ireturn, 1) := by decide +kernel
theorem hd_X5_pawnGoes : yX5_pawnGoes.cls ≠ "java/lang/invoke/MethodHandle" ∧ yX5_pawnGoes.cls ≠ "java/lang/invoke/VarHandle" ∧ (parseMethodDescriptor yX5_pawnGoes.desc).map (fun d => d.parameters.length) = some 3 := by decide +kernel
set_option maxHeartbeats 4000000 in
set_option maxRecDepth 100000 in
/-- pawnGoes -/
theorem c_X5_pawnGoes (l : Launch) {D : va_G} {cI cJ : ClassId} {A : Nat → Prop} {hm b0 b1 b2 b3 : Nat} {th mk sz : Int32} {F mv kp li : Nat → Int32} (bd : Nat → Nat) (sd rt ps b f t : Nat) (hb9 : b ≤ 300) (hf : f < 64) (ht : t < 64) (hBd : Bd F b bd sd rt ps) : Met l yX5_pawnGoes (Cond.code yX5_pawnGoes cX5_pawnGoes 6 (some .boolean) :: wsL_law) (rK 3) (va_Pc [.ref hm, .int (nI b), .int (nI f), .int (nI t)] (IW D cI cJ A (rW cI hm b0 b1 b2 b3 th mk sz F mv kp li))) (vp_Si (fun r => r = bI (pgo bd sd ps f t))) 0 0 (fun _ => False) := by
  refine entM (by decide) (Nat.le_of_ble_eq_true rfl) ?_
  intro p e s m below meth c ls S0 hr hlocks hG hnm hB hl
  have hx := S0.1
  have hb := S0.2.1
  have hown := S0.2.2.2.1
  have hl : lv_has ls 6 [(0, .ref hm), (1, .int (nI b)), (2, .int (nI f)), (3, .int (nI t))] := hl
  obtain ⟨hP, hD, hK, hA, hE⟩ := hB
  have hS : va_S A s.heap s.heap [] := va_S.rf
  obtain ⟨hBp, hsd, hs2, hrt, hr16, hps, hp65⟩ := id hBd
  have htb := (hBp _ ht).2
  refine lv_aload_n hx hb dX5_pawnGoes_0 rfl (lv_at hl 0 rfl) ?_
  refine va_get (D := D) (ci := 4) (v := .ref b0) (C := RX5) (T := TX5) (N := 7) hx hb hG wu_X5 hown hK hP 0 rfl rfl 1 (by decide) (hG _ wf_X5_7) (fun _ h9 => h9) rfl dX5_pawnGoes_1 ?_
  refine lv_iload_n hx hb dX5_pawnGoes_4 rfl (lv_at hl 1 rfl) ?_
  refine lv_bipush (v := (nI 64)) hx hb dX5_pawnGoes_5 (by decide) ?_
  refine ln_iadd hx hb dX5_pawnGoes_7 ?_
  refine va_iald hx hb hK hP 1 0 rfl rfl (vp_in_nI (by omega) (by decide)) dX5_pawnGoes_8 ?_
  refine W.top (y := .int (F (b + 64))) (congrArg (fun z => Value.int (F z)) (nI_clamp (by omega))) ?_
  refine W.top (y := .int (nI sd)) (congrArg Value.int hsd) ?_
  refine lv_istore (lv' := [(4, .int (nI sd)), (0, .ref hm), (1, .int (nI b)), (2, .int (nI f)), (3, .int (nI t))]) hx hb dX5_pawnGoes_9 hl (by decide) rfl (fun ls hl => ?_)
  refine lv_iload hx hb dX5_pawnGoes_11 (lv_at hl 0 rfl) ?_
  refine jnG 23 6 [(4, .int (nI sd)), (0, .ref hm), (1, .int (nI b)), (2, .int (nI f)), (3, .int (nI t))] [.int (onI sd)] ?_ (fun hj_23 => ?_)
  · intro ls hl
    refine lv_istore (lv' := [(5, .int (onI sd)), (4, .int (nI sd)), (0, .ref hm), (1, .int (nI b)), (2, .int (nI f)), (3, .int (nI t))]) hx hb dX5_pawnGoes_23 hl (by decide) rfl (fun ls hl => ?_)
    refine lv_iload_n hx hb dX5_pawnGoes_25 rfl (lv_at hl 5 rfl) ?_
    refine lv_iload_n hx hb dX5_pawnGoes_26 rfl (lv_at hl 4 rfl) ?_
    refine lv_iload hx hb dX5_pawnGoes_27 (lv_at hl 0 rfl) ?_
    refine lv_iadd hx hb dX5_pawnGoes_29 ?_
    refine lv_icmp_ne (tgt := 50) hx hb dX5_pawnGoes_30 (by decide) (fun c30 => ?_) (fun c30 => ?_)
    · skip
      rw [st1_e hf ht] at c30
      refine lv_iload_n hx hb dX5_pawnGoes_50 rfl (lv_at hl 5 rfl) ?_
      refine lv_iload_n hx hb dX5_pawnGoes_51 rfl (lv_at hl 4 rfl) ?_
      refine lv_iconst (v := (nI 2)) hx hb dX5_pawnGoes_52 (by decide) ?_
      refine lv_iload hx hb dX5_pawnGoes_53 (lv_at hl 0 rfl) ?_
      refine lv_imul hx hb dX5_pawnGoes_55 ?_
      refine lv_iadd hx hb dX5_pawnGoes_56 ?_
      refine lv_icmp_ne (tgt := 109) hx hb dX5_pawnGoes_57 (by decide) (fun c57 => ?_) (fun c57 => ?_)
      · skip
        rw [st2_e hf ht] at c57
        refine lv_aload_n hx hb dX5_pawnGoes_109 rfl (lv_at hl 2 rfl) ?_
        refine lv_iload_n hx hb dX5_pawnGoes_110 rfl (lv_at hl 3 rfl) ?_
        refine lv_iload_n hx hb dX5_pawnGoes_111 rfl (lv_at hl 4 rfl) ?_
        refine lv_iload_n hx hb dX5_pawnGoes_112 rfl (lv_at hl 5 rfl) ?_
        refine roI (rnV (As := [.int (nI b), .int (nI f), .int (nI t)]) (rest := []) S0 (c_X5_attacks l bd b f t hb9 hf ht hBp) wm_X5_54 wi_X5_attacks ws_X5_attacks wn_X5 wc_X5_attacks hd_X5_attacks ⟨rfl, rfl, by decide, by decide⟩ IW.blind (va_recv hK hP (ci := 4) (q0 := 0) rfl rfl) (IW.at hP hD hK hA hE hS) hl.1 (Nat.le_of_ble_eq_true rfl) dX5_pawnGoes_113 rfl ⟨by decide, by decide⟩) (fun r_1 hr_1 => ?_)
        subst hr_1
        refine lb_if_eq (tgt := 137) hx hb dX5_pawnGoes_116 (by decide) (fun c116 => ?_) (fun c116 => ?_)
        · skip
          refine lv_aload_n hx hb dX5_pawnGoes_137 rfl (lv_at hl 2 rfl) ?_
          refine lv_iload_n hx hb dX5_pawnGoes_138 rfl (lv_at hl 3 rfl) ?_
          refine lv_iload_n hx hb dX5_pawnGoes_139 rfl (lv_at hl 4 rfl) ?_
          refine lv_iload_n hx hb dX5_pawnGoes_140 rfl (lv_at hl 5 rfl) ?_
          refine roI (rnV (As := [.int (nI b), .int (nI f), .int (nI t)]) (rest := []) S0 (c_X5_takesPassing l bd sd rt ps b f t hb9 hf ht hBd) wm_X5_71 wi_X5_takesPassing ws_X5_takesPassing wn_X5 wc_X5_takesPassing hd_X5_takesPassing ⟨rfl, rfl, by decide, by decide⟩ IW.blind (va_recv hK hP (ci := 4) (q0 := 0) rfl rfl) (IW.at hP hD hK hA hE hS) hl.1 (Nat.le_of_ble_eq_true rfl) dX5_pawnGoes_141 rfl ⟨by decide, by decide⟩) (fun r_2 hr_2 => ?_)
          subst hr_2
          refine lb_if_eq (tgt := 151) hx hb dX5_pawnGoes_144 (by decide) (fun c144 => ?_) (fun c144 => ?_)
          · skip
            refine lv_iconst (v := (nI 0)) hx hb dX5_pawnGoes_151 (by decide) ?_
            exact reZ (v := false) hx hb hr hlocks dX5_pawnGoes_152 (congrArg bI (by rw [pgo_3 c30 c57]; first | (rw [c116, decide_eq_true c134]; rfl) | (rw [c116, decide_eq_false c134, c144]; rfl) | (rw [c116, c144]; rfl)))
          · skip
            refine lv_iconst (v := (nI 1)) hx hb dX5_pawnGoes_147 (by decide) ?_
            refine lv_goto (tgt := 152) hx hb dX5_pawnGoes_148 (by decide) ?_
            exact reZ (v := true) hx hb hr hlocks dX5_pawnGoes_152 (congrArg bI (by rw [pgo_3 c30 c57]; first | (rw [c116, decide_eq_true c134]; rfl) | (rw [c116, decide_eq_false c134, c144]; rfl) | (rw [c116, c144]; rfl)))
        · skip
          refine lv_aload_n hx hb dX5_pawnGoes_119 rfl (lv_at hl 2 rfl) ?_
          refine va_get (D := D) (ci := 4) (v := .ref b0) (C := RX5) (T := TX5) (N := 7) hx hb hG wu_X5 hown hK hP 0 rfl rfl 1 (by decide) (hG _ wf_X5_7) (fun _ h9 => h9) rfl dX5_pawnGoes_120 ?_
          refine lv_iload_n hx hb dX5_pawnGoes_123 rfl (lv_at hl 3 rfl) ?_
          refine lv_iload_n hx hb dX5_pawnGoes_124 rfl (lv_at hl 5 rfl) ?_
          refine ln_iadd hx hb dX5_pawnGoes_125 ?_
          refine va_iald hx hb hK hP 1 0 rfl rfl (vp_in_nI (by omega) (by decide)) dX5_pawnGoes_126 ?_
          refine W.top (y := .int (F (b + t))) (congrArg (fun z => Value.int (F z)) (nI_clamp (by omega))) ?_
          refine W.top (y := .int (nI (bd t))) (congrArg Value.int (hBp _ ht).1) ?_
          refine roI (rnS (As := [.int (nI (bd t))]) (rest := []) S0 (c_X5_sideOf l (bd t) (by omega)) wm_X5_51 wt_X5_sideOf wn_X5 wc_X5_sideOf hd_X5_sideOf ⟨rfl, rfl, by decide, by decide⟩ True.blind (fun _ _ _ => trivial) hl.1 (Nat.le_of_ble_eq_true rfl) dX5_pawnGoes_127 rfl ⟨by decide, by decide⟩) (fun r_3 hr_3 => ?_)
          subst hr_3
          refine lv_iconst (v := (nI 1)) hx hb dX5_pawnGoes_130 (by decide) ?_
          refine lv_iload hx hb dX5_pawnGoes_131 (lv_at hl 1 rfl) ?_
          refine ln_isub hx hb dX5_pawnGoes_133 (by omega) ?_
          refine lv_icmp_eq (tgt := 147) hx hb dX5_pawnGoes_134 (by decide) (fun c134 => ?_) (fun c134 => ?_)
          · skip
            rw [sdI_eq (by omega)] at c134
            refine lv_iconst (v := (nI 1)) hx hb dX5_pawnGoes_147 (by decide) ?_
            refine lv_goto (tgt := 152) hx hb dX5_pawnGoes_148 (by decide) ?_
            exact reZ (v := true) hx hb hr hlocks dX5_pawnGoes_152 (congrArg bI (by rw [pgo_3 c30 c57]; first | (rw [c116, decide_eq_true c134]; rfl) | (rw [c116, decide_eq_false c134, c144]; rfl) | (rw [c116, c144]; rfl)))
          · skip
            rw [sdI_eq (by omega)] at c134
            refine lv_aload_n hx hb dX5_pawnGoes_137 rfl (lv_at hl 2 rfl) ?_
            refine lv_iload_n hx hb dX5_pawnGoes_138 rfl (lv_at hl 3 rfl) ?_
            refine lv_iload_n hx hb dX5_pawnGoes_139 rfl (lv_at hl 4 rfl) ?_
            refine lv_iload_n hx hb dX5_pawnGoes_140 rfl (lv_at hl 5 rfl) ?_
            refine roI (rnV (As := [.int (nI b), .int (nI f), .int (nI t)]) (rest := []) S0 (c_X5_takesPassing l bd sd rt ps b f t hb9 hf ht hBd) wm_X5_71 wi_X5_takesPassing ws_X5_takesPassing wn_X5 wc_X5_takesPassing hd_X5_takesPassing ⟨rfl, rfl, by decide, by decide⟩ IW.blind (va_recv hK hP (ci := 4) (q0 := 0) rfl rfl) (IW.at hP hD hK hA hE hS) hl.1 (Nat.le_of_ble_eq_true rfl) dX5_pawnGoes_141 rfl ⟨by decide, by decide⟩) (fun r_4 hr_4 => ?_)
            subst hr_4
            refine lb_if_eq (tgt := 151) hx hb dX5_pawnGoes_144 (by decide) (fun c144 => ?_) (fun c144 => ?_)
            · skip
              refine lv_iconst (v := (nI 0)) hx hb dX5_pawnGoes_151 (by decide) ?_
              exact reZ (v := false) hx hb hr hlocks dX5_pawnGoes_152 (congrArg bI (by rw [pgo_3 c30 c57]; first | (rw [c116, decide_eq_true c134]; rfl) | (rw [c116, decide_eq_false c134, c144]; rfl) | (rw [c116, c144]; rfl)))
            · skip
              refine lv_iconst (v := (nI 1)) hx hb dX5_pawnGoes_147 (by decide) ?_
              refine lv_goto (tgt := 152) hx hb dX5_pawnGoes_148 (by decide) ?_
              exact reZ (v := true) hx hb hr hlocks dX5_pawnGoes_152 (congrArg bI (by rw [pgo_3 c30 c57]; first | (rw [c116, decide_eq_true c134]; rfl) | (rw [c116, decide_eq_false c134, c144]; rfl) | (rw [c116, c144]; rfl)))
      · skip
        rw [st2_e hf ht] at c57
        refine lv_iload_n hx hb dX5_pawnGoes_60 rfl (lv_at hl 4 rfl) ?_
        refine lv_bipush (v := (nI 8)) hx hb dX5_pawnGoes_61 (by decide) ?_
        refine ln_idiv hx hb dX5_pawnGoes_63 (by omega) (by decide) (by decide) ?_
        refine lv_iload hx hb dX5_pawnGoes_64 (lv_at hl 1 rfl) ?_
        refine jnG 75 6 [(5, .int (onI sd)), (4, .int (nI sd)), (0, .ref hm), (1, .int (nI b)), (2, .int (nI f)), (3, .int (nI t))] [.int (nI (if sd = 0 then 1 else 6)), .int (nI (f / 8))] ?_ (fun hj_75 => ?_)
        · intro ls hl
          have hif : (if sd = 0 then 1 else 6) < 7 := by split <;> omega
          refine ln_icmp_ne (tgt := 107) hx hb dX5_pawnGoes_75 (by decide) (by omega) (by omega) (fun c75 => ?_) (fun c75 => ?_)
          · skip
            refine lv_iconst (v := (nI 0)) hx hb dX5_pawnGoes_107 (by decide) ?_
            exact reZ (v := false) hx hb hr hlocks dX5_pawnGoes_108 (congrArg bI (by rw [pgo_2 c30 c57]; first | (rw [decide_eq_true c75, decide_eq_true c89, decide_eq_true c100]; rfl) | (rw [decide_eq_true c75, decide_eq_true c89, decide_eq_false c100]; rfl) | (rw [decide_eq_true c75, decide_eq_false c89]; rfl) | (rw [decide_eq_false c75]; rfl)))
          · skip
            refine lv_aload_n hx hb dX5_pawnGoes_78 rfl (lv_at hl 2 rfl) ?_
            refine va_get (D := D) (ci := 4) (v := .ref b0) (C := RX5) (T := TX5) (N := 7) hx hb hG wu_X5 hown hK hP 0 rfl rfl 1 (by decide) (hG _ wf_X5_7) (fun _ h9 => h9) rfl dX5_pawnGoes_79 ?_
            refine lv_iload_n hx hb dX5_pawnGoes_82 rfl (lv_at hl 3 rfl) ?_
            refine lv_iload_n hx hb dX5_pawnGoes_83 rfl (lv_at hl 4 rfl) ?_
            refine ln_iadd hx hb dX5_pawnGoes_84 ?_
            refine lv_iload hx hb dX5_pawnGoes_85 (lv_at hl 0 rfl) ?_
            refine lv_iadd hx hb dX5_pawnGoes_87 ?_
            refine W.top (y := .int (nI (b + (f + t) / 2))) (congrArg Value.int (st2_m c57)) ?_
            have hmb := (hBp ((f + t) / 2) (by omega)).2
            refine va_iald hx hb hK hP 1 0 rfl rfl (vp_in_nI (by omega) (by decide)) dX5_pawnGoes_88 ?_
            refine W.top (y := .int (F (b + (f + t) / 2))) (congrArg (fun z => Value.int (F z)) (nI_clamp (by omega))) ?_
            refine W.top (y := .int (nI (bd ((f + t) / 2)))) (congrArg Value.int (hBp _ (by omega)).1) ?_
            refine ln_if_ne (tgt := 107) hx hb dX5_pawnGoes_89 (by decide) (by omega) (fun c89 => ?_) (fun c89 => ?_)
            · skip
              refine lv_iconst (v := (nI 0)) hx hb dX5_pawnGoes_107 (by decide) ?_
              exact reZ (v := false) hx hb hr hlocks dX5_pawnGoes_108 (congrArg bI (by rw [pgo_2 c30 c57]; first | (rw [decide_eq_true c75, decide_eq_true c89, decide_eq_true c100]; rfl) | (rw [decide_eq_true c75, decide_eq_true c89, decide_eq_false c100]; rfl) | (rw [decide_eq_true c75, decide_eq_false c89]; rfl) | (rw [decide_eq_false c75]; rfl)))
            · skip
              refine lv_aload_n hx hb dX5_pawnGoes_92 rfl (lv_at hl 2 rfl) ?_
              refine va_get (D := D) (ci := 4) (v := .ref b0) (C := RX5) (T := TX5) (N := 7) hx hb hG wu_X5 hown hK hP 0 rfl rfl 1 (by decide) (hG _ wf_X5_7) (fun _ h9 => h9) rfl dX5_pawnGoes_93 ?_
              refine lv_iload_n hx hb dX5_pawnGoes_96 rfl (lv_at hl 3 rfl) ?_
              refine lv_iload_n hx hb dX5_pawnGoes_97 rfl (lv_at hl 5 rfl) ?_
              refine ln_iadd hx hb dX5_pawnGoes_98 ?_
              refine va_iald hx hb hK hP 1 0 rfl rfl (vp_in_nI (by omega) (by decide)) dX5_pawnGoes_99 ?_
              refine W.top (y := .int (F (b + t))) (congrArg (fun z => Value.int (F z)) (nI_clamp (by omega))) ?_
              refine W.top (y := .int (nI (bd t))) (congrArg Value.int (hBp _ ht).1) ?_
              refine ln_if_ne (tgt := 107) hx hb dX5_pawnGoes_100 (by decide) (by omega) (fun c100 => ?_) (fun c100 => ?_)
              · skip
                refine lv_iconst (v := (nI 0)) hx hb dX5_pawnGoes_107 (by decide) ?_
                exact reZ (v := false) hx hb hr hlocks dX5_pawnGoes_108 (congrArg bI (by rw [pgo_2 c30 c57]; first | (rw [decide_eq_true c75, decide_eq_true c89, decide_eq_true c100]; rfl) | (rw [decide_eq_true c75, decide_eq_true c89, decide_eq_false c100]; rfl) | (rw [decide_eq_true c75, decide_eq_false c89]; rfl) | (rw [decide_eq_false c75]; rfl)))
              · skip
                refine lv_iconst (v := (nI 1)) hx hb dX5_pawnGoes_103 (by decide) ?_
                refine lv_goto (tgt := 108) hx hb dX5_pawnGoes_104 (by decide) ?_
                exact reZ (v := true) hx hb hr hlocks dX5_pawnGoes_108 (congrArg bI (by rw [pgo_2 c30 c57]; first | (rw [decide_eq_true c75, decide_eq_true c89, decide_eq_true c100]; rfl) | (rw [decide_eq_true c75, decide_eq_true c89, decide_eq_false c100]; rfl) | (rw [decide_eq_true c75, decide_eq_false c89]; rfl) | (rw [decide_eq_false c75]; rfl)))
        · skip
          refine ln_if_ne (tgt := 73) hx hb dX5_pawnGoes_66 (by decide) (by omega) (fun c66 => ?_) (fun c66 => ?_)
          · skip
            refine lv_bipush (v := (nI 6)) hx hb dX5_pawnGoes_73 (by decide) ?_
            refine W.top (y := .int (nI (if sd = 0 then 1 else 6))) (congrArg Value.int (congrArg nI (by first | rw [if_pos c66] | rw [if_neg c66]))) ?_
            exact hj_75 ls (lv_sub hl [0, 1, 2, 3, 4, 5] rfl)
          · skip
            refine lv_iconst (v := (nI 1)) hx hb dX5_pawnGoes_69 (by decide) ?_
            refine lv_goto (tgt := 75) hx hb dX5_pawnGoes_70 (by decide) ?_
            refine W.top (y := .int (nI (if sd = 0 then 1 else 6))) (congrArg Value.int (congrArg nI (by first | rw [if_pos c66] | rw [if_neg c66]))) ?_
            exact hj_75 ls (lv_sub hl [0, 1, 2, 3, 4, 5] rfl)
    · skip
      rw [st1_e hf ht] at c30
      refine lv_aload_n hx hb dX5_pawnGoes_33 rfl (lv_at hl 2 rfl) ?_
      refine va_get (D := D) (ci := 4) (v := .ref b0) (C := RX5) (T := TX5) (N := 7) hx hb hG wu_X5 hown hK hP 0 rfl rfl 1 (by decide) (hG _ wf_X5_7) (fun _ h9 => h9) rfl dX5_pawnGoes_34 ?_
      refine lv_iload_n hx hb dX5_pawnGoes_37 rfl (lv_at hl 3 rfl) ?_
      refine lv_iload_n hx hb dX5_pawnGoes_38 rfl (lv_at hl 5 rfl) ?_
      refine ln_iadd hx hb dX5_pawnGoes_39 ?_
      refine va_iald hx hb hK hP 1 0 rfl rfl (vp_in_nI (by omega) (by decide)) dX5_pawnGoes_40 ?_
      refine W.top (y := .int (F (b + t))) (congrArg (fun z => Value.int (F z)) (nI_clamp (by omega))) ?_
      refine W.top (y := .int (nI (bd t))) (congrArg Value.int (hBp _ ht).1) ?_
      refine ln_if_ne (tgt := 48) hx hb dX5_pawnGoes_41 (by decide) (by omega) (fun c41 => ?_) (fun c41 => ?_)
      · skip
        refine lv_iconst (v := (nI 0)) hx hb dX5_pawnGoes_48 (by decide) ?_
        exact reZ (v := false) hx hb hr hlocks dX5_pawnGoes_49 (congrArg bI (by rw [pgo_1 c30]; first | rw [decide_eq_true c41] | rw [decide_eq_false c41]))
      · skip
        refine lv_iconst (v := (nI 1)) hx hb dX5_pawnGoes_44 (by decide) ?_
        refine lv_goto (tgt := 49) hx hb dX5_pawnGoes_45 (by decide) ?_
        exact reZ (v := true) hx hb hr hlocks dX5_pawnGoes_49 (congrArg bI (by rw [pgo_1 c30]; first | rw [decide_eq_true c41] | rw [decide_eq_false c41]))
  · skip
    refine ln_if_ne (tgt := 21) hx hb dX5_pawnGoes_13 (by decide) (by omega) (fun c13 => ?_) (fun c13 => ?_)
    · skip
      refine lv_bipush (v := (-8)) hx hb dX5_pawnGoes_21 (by decide) ?_
      refine W.top (y := .int (onI sd)) (congrArg Value.int (by unfold onI; first | rw [if_pos c13] | rw [if_neg c13])) ?_
      exact hj_23 ls (lv_sub hl [0, 1, 2, 3, 4] rfl)
    · skip
      refine lv_bipush (v := (nI 8)) hx hb dX5_pawnGoes_16 (by decide) ?_
      refine lv_goto (tgt := 23) hx hb dX5_pawnGoes_18 (by decide) ?_
      refine W.top (y := .int (onI sd)) (congrArg Value.int (by unfold onI; first | rw [if_pos c13] | rw [if_neg c13])) ?_
      exact hj_23 ls (lv_sub hl [0, 1, 2, 3, 4] rfl)
theorem dX5_goes_0 : decode cX5_goes 0 = .ok (.aload_n 0, 1) := by decide +kernel
theorem dX5_goes_1 : decode cX5_goes 1 = .ok (.getfield 7, 3) := by decide +kernel
theorem dX5_goes_4 : decode cX5_goes 4 = .ok (.iload_n 1, 1) := by decide +kernel
theorem dX5_goes_5 : decode cX5_goes 5 = .ok (.bipush 64, 2) := by decide +kernel
theorem dX5_goes_7 : decode cX5_goes 7 = .ok (.iadd, 1) := by decide +kernel
theorem dX5_goes_8 : decode cX5_goes 8 = .ok (.iaload, 1) := by decide +kernel
theorem dX5_goes_9 : decode cX5_goes 9 = .ok (.istore 4, 2) := by decide +kernel
theorem dX5_goes_11 : decode cX5_goes 11 = .ok (.aload_n 0, 1) := by decide +kernel
theorem dX5_goes_12 : decode cX5_goes 12 = .ok (.getfield 7, 3) := by decide +kernel
theorem dX5_goes_15 : decode cX5_goes 15 = .ok (.iload_n 1, 1) := by decide +kernel
theorem dX5_goes_16 : decode cX5_goes 16 = .ok (.iload_n 2, 1) := by decide +kernel
theorem dX5_goes_17 : decode cX5_goes 17 = .ok (.iadd, 1) := by decide +kernel
theorem dX5_goes_18 : decode cX5_goes 18 = .ok (.iaload, 1) := by decide +kernel
theorem dX5_goes_19 : decode cX5_goes 19 = .ok (.invokestatic 40, 3) := by decide +kernel
theorem dX5_goes_22 : decode cX5_goes 22 = .ok (.istore 5, 2) := by decide +kernel
theorem dX5_goes_24 : decode cX5_goes 24 = .ok (.aload_n 0, 1) := by decide +kernel
theorem dX5_goes_25 : decode cX5_goes 25 = .ok (.getfield 7, 3) := by decide +kernel
theorem dX5_goes_28 : decode cX5_goes 28 = .ok (.iload_n 1, 1) := by decide +kernel
theorem dX5_goes_29 : decode cX5_goes 29 = .ok (.iload_n 2, 1) := by decide +kernel
theorem dX5_goes_30 : decode cX5_goes 30 = .ok (.iadd, 1) := by decide +kernel
theorem dX5_goes_31 : decode cX5_goes 31 = .ok (.iaload, 1) := by decide +kernel
theorem dX5_goes_32 : decode cX5_goes 32 = .ok (.invokestatic 51, 3) := by decide +kernel
theorem dX5_goes_35 : decode cX5_goes 35 = .ok (.iload 4, 2) := by decide +kernel
theorem dX5_goes_37 : decode cX5_goes 37 = .ok (.if_icmp .ne 35, 3) := by decide +kernel
theorem dX5_goes_40 : decode cX5_goes 40 = .ok (.aload_n 0, 1) := by decide +kernel
theorem dX5_goes_41 : decode cX5_goes 41 = .ok (.getfield 7, 3) := by decide +kernel
theorem dX5_goes_44 : decode cX5_goes 44 = .ok (.iload_n 1, 1) := by decide +kernel
theorem dX5_goes_45 : decode cX5_goes 45 = .ok (.iload_n 3, 1) := by decide +kernel
theorem dX5_goes_46 : decode cX5_goes 46 = .ok (.iadd, 1) := by decide +kernel
theorem dX5_goes_47 : decode cX5_goes 47 = .ok (.iaload, 1) := by decide +kernel
theorem dX5_goes_48 : decode cX5_goes 48 = .ok (.invokestatic 51, 3) := by decide +kernel
theorem dX5_goes_51 : decode cX5_goes 51 = .ok (.iload 4, 2) := by decide +kernel
theorem dX5_goes_53 : decode cX5_goes 53 = .ok (.if_icmp .eq 19, 3) := by decide +kernel
theorem dX5_goes_56 : decode cX5_goes 56 = .ok (.aload_n 0, 1) := by decide +kernel
theorem dX5_goes_57 : decode cX5_goes 57 = .ok (.getfield 7, 3) := by decide +kernel
theorem dX5_goes_60 : decode cX5_goes 60 = .ok (.iload_n 1, 1) := by decide +kernel
theorem dX5_goes_61 : decode cX5_goes 61 = .ok (.iload_n 3, 1) := by decide +kernel
theorem dX5_goes_62 : decode cX5_goes 62 = .ok (.iadd, 1) := by decide +kernel
theorem dX5_goes_63 : decode cX5_goes 63 = .ok (.iaload, 1) := by decide +kernel
theorem dX5_goes_64 : decode cX5_goes 64 = .ok (.invokestatic 40, 3) := by decide +kernel
theorem dX5_goes_67 : decode cX5_goes 67 = .ok (.bipush 6, 2) := by decide +kernel
theorem dX5_goes_69 : decode cX5_goes 69 = .ok (.if_icmp .ne 5, 3) := by decide +kernel
theorem dX5_goes_72 : decode cX5_goes 72 = .ok (.iconst 0, 1) := by decide +kernel
theorem dX5_goes_73 : decode cX5_goes 73 = .ok (.ireturn, 1) := by decide +kernel
theorem dX5_goes_74 : decode cX5_goes 74 = .ok (.iload 5, 2) := by decide +kernel
theorem dX5_goes_76 : decode cX5_goes 76 = .ok (.iconst 1, 1) := by decide +kernel
theorem dX5_goes_77 : decode cX5_goes 77 = .ok (.if_icmp .ne 13, 3) := by decide +kernel
theorem dX5_goes_80 : decode cX5_goes 80 = .ok (.aload_n 0, 1) := by decide +kernel
theorem dX5_goes_81 : decode cX5_goes 81 = .ok (.iload_n 1, 1) := by decide +kernel
theorem dX5_goes_82 : decode cX5_goes 82 = .ok (.iload_n 2, 1) := by decide +kernel
theorem dX5_goes_83 : decode cX5_goes 83 = .ok (.iload_n 3, 1) := by decide +kernel
theorem dX5_goes_84 : decode cX5_goes 84 = .ok (.invokevirtual 74, 3) := by decide +kernel
theorem dX5_goes_87 : decode cX5_goes 87 = .ok (.goto 35, 3) := by decide +kernel
theorem dX5_goes_90 : decode cX5_goes 90 = .ok (.aload_n 0, 1) := by decide +kernel
theorem dX5_goes_91 : decode cX5_goes 91 = .ok (.iload_n 1, 1) := by decide +kernel
theorem dX5_goes_92 : decode cX5_goes 92 = .ok (.iload_n 2, 1) := by decide +kernel
theorem dX5_goes_93 : decode cX5_goes 93 = .ok (.iload_n 3, 1) := by decide +kernel
theorem dX5_goes_94 : decode cX5_goes 94 = .ok (.invokevirtual 54, 3) := by decide +kernel
theorem dX5_goes_97 : decode cX5_goes 97 = .ok (.ifCond .ne 20, 3) := by decide +kernel
theorem dX5_goes_100 : decode cX5_goes 100 = .ok (.iload 5, 2) := by decide +kernel
theorem dX5_goes_102 : decode cX5_goes 102 = .ok (.bipush 6, 2) := by decide +kernel
theorem dX5_goes_104 : decode cX5_goes 104 = .ok (.if_icmp .ne 17, 3) := by decide +kernel
theorem dX5_goes_107 : decode cX5_goes 107 = .ok (.aload_n 0, 1) := by decide +kernel
theorem dX5_goes_108 : decode cX5_goes 108 = .ok (.iload_n 1, 1) := by decide +kernel
theorem dX5_goes_109 : decode cX5_goes 109 = .ok (.iload_n 2, 1) := by decide +kernel
theorem dX5_goes_110 : decode cX5_goes 110 = .ok (.iload_n 3, 1) := by decide +kernel
theorem dX5_goes_111 : decode cX5_goes 111 = .ok (.invokevirtual 77, 3) := by decide +kernel
theorem dX5_goes_114 : decode cX5_goes 114 = .ok (.ifCond .eq 7, 3) := by decide +kernel
theorem dX5_goes_117 : decode cX5_goes 117 = .ok (.iconst 1, 1) := by decide +kernel
theorem dX5_goes_118 : decode cX5_goes 118 = .ok (.goto 4, 3) := by decide +kernel
theorem dX5_goes_121 : decode cX5_goes 121 = .ok (.iconst 0, 1) := by decide +kernel
theorem dX5_goes_122 : decode cX5_goes 122 = .ok (.ireturn, 1) := by decide +kernel
theorem hd_X5_goes : yX5_goes.cls ≠ "java/lang/invoke/MethodHandle" ∧ yX5_goes.cls ≠ "java/lang/invoke/VarHandle" ∧ (parseMethodDescriptor yX5_goes.desc).map (fun d => d.parameters.length) = some 3 := by decide +kernel
set_option maxHeartbeats 4000000 in
set_option maxRecDepth 100000 in
/-- goes -/
theorem c_X5_goes (l : Launch) {D : va_G} {cI cJ : ClassId} {A : Nat → Prop} {hm b0 b1 b2 b3 : Nat} {th mk sz : Int32} {F mv kp li : Nat → Int32} (bd : Nat → Nat) (sd rt ps b f t : Nat) (hb9 : b ≤ 300) (hf : f < 64) (ht : t < 64) (hBd : Bd F b bd sd rt ps) : Met l yX5_goes (Cond.code yX5_goes cX5_goes 6 (some .boolean) :: wsL_law) (rK 4) (va_Pc [.ref hm, .int (nI b), .int (nI f), .int (nI t)] (IW D cI cJ A (rW cI hm b0 b1 b2 b3 th mk sz F mv kp li))) (vp_Si (fun r => r = bI (gos bd sd rt ps f t))) 0 0 (fun _ => False) := by
  refine entM (by decide) (Nat.le_of_ble_eq_true rfl) ?_
  intro p e s m below meth c ls S0 hr hlocks hG hnm hB hl
  have hx := S0.1
  have hb := S0.2.1
  have hown := S0.2.2.2.1
  have hl : lv_has ls 6 [(0, .ref hm), (1, .int (nI b)), (2, .int (nI f)), (3, .int (nI t))] := hl
  obtain ⟨hP, hD, hK, hA, hE⟩ := hB
  have hS : va_S A s.heap s.heap [] := va_S.rf
  obtain ⟨hBp, hsd, hs2, hrt, hr16, hps, hp65⟩ := id hBd
  obtain ⟨htv, htb⟩ := hBp _ ht
  obtain ⟨hfv, hfb⟩ := hBp _ hf
  have hkf := kd_lt hfb
  have hkt := kd_lt htb
  refine lv_aload_n hx hb dX5_goes_0 rfl (lv_at hl 0 rfl) ?_
  refine va_get (D := D) (ci := 4) (v := .ref b0) (C := RX5) (T := TX5) (N := 7) hx hb hG wu_X5 hown hK hP 0 rfl rfl 1 (by decide) (hG _ wf_X5_7) (fun _ h9 => h9) rfl dX5_goes_1 ?_
  refine lv_iload_n hx hb dX5_goes_4 rfl (lv_at hl 1 rfl) ?_
  refine lv_bipush (v := (nI 64)) hx hb dX5_goes_5 (by decide) ?_
  refine ln_iadd hx hb dX5_goes_7 ?_
  refine va_iald hx hb hK hP 1 0 rfl rfl (vp_in_nI (by omega) (by decide)) dX5_goes_8 ?_
  refine W.top (y := .int (F (b + 64))) (congrArg (fun z => Value.int (F z)) (nI_clamp (by omega))) ?_
  refine W.top (y := .int (nI sd)) (congrArg Value.int hsd) ?_
  refine lv_istore (lv' := [(4, .int (nI sd)), (0, .ref hm), (1, .int (nI b)), (2, .int (nI f)), (3, .int (nI t))]) hx hb dX5_goes_9 hl (by decide) rfl (fun ls hl => ?_)
  refine lv_aload_n hx hb dX5_goes_11 rfl (lv_at hl 1 rfl) ?_
  refine va_get (D := D) (ci := 4) (v := .ref b0) (C := RX5) (T := TX5) (N := 7) hx hb hG wu_X5 hown hK hP 0 rfl rfl 1 (by decide) (hG _ wf_X5_7) (fun _ h9 => h9) rfl dX5_goes_12 ?_
  refine lv_iload_n hx hb dX5_goes_15 rfl (lv_at hl 2 rfl) ?_
  refine lv_iload_n hx hb dX5_goes_16 rfl (lv_at hl 3 rfl) ?_
  refine ln_iadd hx hb dX5_goes_17 ?_
  refine va_iald hx hb hK hP 1 0 rfl rfl (vp_in_nI (by omega) (by decide)) dX5_goes_18 ?_
  refine W.top (y := .int (F (b + f))) (congrArg (fun z => Value.int (F z)) (nI_clamp (by omega))) ?_
  refine W.top (y := .int (nI (bd f))) (congrArg Value.int hfv) ?_
  refine roI (rnS (As := [.int (nI (bd f))]) (rest := []) S0 (c_X5_kindOf l (bd f) (by omega)) wm_X5_40 wt_X5_kindOf wn_X5 wc_X5_kindOf hd_X5_kindOf ⟨rfl, rfl, by decide, by decide⟩ True.blind (fun _ _ _ => trivial) hl.1 (Nat.le_of_ble_eq_true rfl) dX5_goes_19 rfl ⟨by decide, by decide⟩) (fun r_1 hr_1 => ?_)
  subst hr_1
  refine lv_istore (lv' := [(5, .int (nI (kd (bd f)))), (4, .int (nI sd)), (0, .ref hm), (1, .int (nI b)), (2, .int (nI f)), (3, .int (nI t))]) hx hb dX5_goes_22 hl (by decide) rfl (fun ls hl => ?_)
  refine lv_aload_n hx hb dX5_goes_24 rfl (lv_at hl 2 rfl) ?_
  refine va_get (D := D) (ci := 4) (v := .ref b0) (C := RX5) (T := TX5) (N := 7) hx hb hG wu_X5 hown hK hP 0 rfl rfl 1 (by decide) (hG _ wf_X5_7) (fun _ h9 => h9) rfl dX5_goes_25 ?_
  refine lv_iload_n hx hb dX5_goes_28 rfl (lv_at hl 3 rfl) ?_
  refine lv_iload_n hx hb dX5_goes_29 rfl (lv_at hl 4 rfl) ?_
  refine ln_iadd hx hb dX5_goes_30 ?_
  refine va_iald hx hb hK hP 1 0 rfl rfl (vp_in_nI (by omega) (by decide)) dX5_goes_31 ?_
  refine W.top (y := .int (F (b + f))) (congrArg (fun z => Value.int (F z)) (nI_clamp (by omega))) ?_
  refine W.top (y := .int (nI (bd f))) (congrArg Value.int hfv) ?_
  refine roI (rnS (As := [.int (nI (bd f))]) (rest := []) S0 (c_X5_sideOf l (bd f) (by omega)) wm_X5_51 wt_X5_sideOf wn_X5 wc_X5_sideOf hd_X5_sideOf ⟨rfl, rfl, by decide, by decide⟩ True.blind (fun _ _ _ => trivial) hl.1 (Nat.le_of_ble_eq_true rfl) dX5_goes_32 rfl ⟨by decide, by decide⟩) (fun r_2 hr_2 => ?_)
  subst hr_2
  refine lv_iload hx hb dX5_goes_35 (lv_at hl 1 rfl) ?_
  refine lv_icmp_ne (tgt := 72) hx hb dX5_goes_37 (by decide) (fun c37 => ?_) (fun c37 => ?_)
  · skip
    rw [sdI_eq hs2] at c37
    refine lv_iconst (v := (nI 0)) hx hb dX5_goes_72 (by decide) ?_
    exact reZ (v := false) hx hb hr hlocks dX5_goes_73 (congrArg bI (gos_0 (by first | exact Or.inl c37 | exact Or.inr (Or.inl c53) | exact Or.inr (Or.inr c69))).symm)
  · skip
    rw [sdI_eq hs2] at c37
    refine lv_aload_n hx hb dX5_goes_40 rfl (lv_at hl 2 rfl) ?_
    refine va_get (D := D) (ci := 4) (v := .ref b0) (C := RX5) (T := TX5) (N := 7) hx hb hG wu_X5 hown hK hP 0 rfl rfl 1 (by decide) (hG _ wf_X5_7) (fun _ h9 => h9) rfl dX5_goes_41 ?_
    refine lv_iload_n hx hb dX5_goes_44 rfl (lv_at hl 3 rfl) ?_
    refine lv_iload_n hx hb dX5_goes_45 rfl (lv_at hl 5 rfl) ?_
    refine ln_iadd hx hb dX5_goes_46 ?_
    refine va_iald hx hb hK hP 1 0 rfl rfl (vp_in_nI (by omega) (by decide)) dX5_goes_47 ?_
    refine W.top (y := .int (F (b + t))) (congrArg (fun z => Value.int (F z)) (nI_clamp (by omega))) ?_
    refine W.top (y := .int (nI (bd t))) (congrArg Value.int htv) ?_
    refine roI (rnS (As := [.int (nI (bd t))]) (rest := []) S0 (c_X5_sideOf l (bd t) (by omega)) wm_X5_51 wt_X5_sideOf wn_X5 wc_X5_sideOf hd_X5_sideOf ⟨rfl, rfl, by decide, by decide⟩ True.blind (fun _ _ _ => trivial) hl.1 (Nat.le_of_ble_eq_true rfl) dX5_goes_48 rfl ⟨by decide, by decide⟩) (fun r_3 hr_3 => ?_)
    subst hr_3
    refine lv_iload hx hb dX5_goes_51 (lv_at hl 1 rfl) ?_
    refine lv_icmp_eq (tgt := 72) hx hb dX5_goes_53 (by decide) (fun c53 => ?_) (fun c53 => ?_)
    · skip
      rw [sdI_eq hs2] at c53
      refine lv_iconst (v := (nI 0)) hx hb dX5_goes_72 (by decide) ?_
      exact reZ (v := false) hx hb hr hlocks dX5_goes_73 (congrArg bI (gos_0 (by first | exact Or.inl c37 | exact Or.inr (Or.inl c53) | exact Or.inr (Or.inr c69))).symm)
    · skip
      rw [sdI_eq hs2] at c53
      refine lv_aload_n hx hb dX5_goes_56 rfl (lv_at hl 2 rfl) ?_
      refine va_get (D := D) (ci := 4) (v := .ref b0) (C := RX5) (T := TX5) (N := 7) hx hb hG wu_X5 hown hK hP 0 rfl rfl 1 (by decide) (hG _ wf_X5_7) (fun _ h9 => h9) rfl dX5_goes_57 ?_
      refine lv_iload_n hx hb dX5_goes_60 rfl (lv_at hl 3 rfl) ?_
      refine lv_iload_n hx hb dX5_goes_61 rfl (lv_at hl 5 rfl) ?_
      refine ln_iadd hx hb dX5_goes_62 ?_
      refine va_iald hx hb hK hP 1 0 rfl rfl (vp_in_nI (by omega) (by decide)) dX5_goes_63 ?_
      refine W.top (y := .int (F (b + t))) (congrArg (fun z => Value.int (F z)) (nI_clamp (by omega))) ?_
      refine W.top (y := .int (nI (bd t))) (congrArg Value.int htv) ?_
      refine roI (rnS (As := [.int (nI (bd t))]) (rest := []) S0 (c_X5_kindOf l (bd t) (by omega)) wm_X5_40 wt_X5_kindOf wn_X5 wc_X5_kindOf hd_X5_kindOf ⟨rfl, rfl, by decide, by decide⟩ True.blind (fun _ _ _ => trivial) hl.1 (Nat.le_of_ble_eq_true rfl) dX5_goes_64 rfl ⟨by decide, by decide⟩) (fun r_4 hr_4 => ?_)
      subst hr_4
      refine lv_bipush (v := (nI 6)) hx hb dX5_goes_67 (by decide) ?_
      refine ln_icmp_ne (tgt := 74) hx hb dX5_goes_69 (by decide) (by omega) (by decide) (fun c69 => ?_) (fun c69 => ?_)
      · skip
        refine lv_iload hx hb dX5_goes_74 (lv_at hl 0 rfl) ?_
        refine lv_iconst (v := (nI 1)) hx hb dX5_goes_76 (by decide) ?_
        refine ln_icmp_ne (tgt := 90) hx hb dX5_goes_77 (by decide) (by omega) (by decide) (fun c77 => ?_) (fun c77 => ?_)
        · skip
          refine lv_aload_n hx hb dX5_goes_90 rfl (lv_at hl 2 rfl) ?_
          refine lv_iload_n hx hb dX5_goes_91 rfl (lv_at hl 3 rfl) ?_
          refine lv_iload_n hx hb dX5_goes_92 rfl (lv_at hl 4 rfl) ?_
          refine lv_iload_n hx hb dX5_goes_93 rfl (lv_at hl 5 rfl) ?_
          refine roI (rnV (As := [.int (nI b), .int (nI f), .int (nI t)]) (rest := []) S0 (c_X5_attacks l bd b f t hb9 hf ht hBp) wm_X5_54 wi_X5_attacks ws_X5_attacks wn_X5 wc_X5_attacks hd_X5_attacks ⟨rfl, rfl, by decide, by decide⟩ IW.blind (va_recv hK hP (ci := 4) (q0 := 0) rfl rfl) (IW.at hP hD hK hA hE hS) hl.1 (Nat.le_of_ble_eq_true rfl) dX5_goes_94 rfl ⟨by decide, by decide⟩) (fun r_5 hr_5 => ?_)
          subst hr_5
          refine lb_if_ne (tgt := 117) hx hb dX5_goes_97 (by decide) (fun c97 => ?_) (fun c97 => ?_)
          · skip
            refine lv_iconst (v := (nI 1)) hx hb dX5_goes_117 (by decide) ?_
            refine lv_goto (tgt := 122) hx hb dX5_goes_118 (by decide) ?_
            exact reZ (v := true) hx hb hr hlocks dX5_goes_122 (congrArg bI (by first | rw [gos_1 c37 c53 c69 c77] | (rw [gos_2 c37 c53 c69 c77, c97]; rfl) | (rw [gos_2 c37 c53 c69 c77, c97, decide_eq_true c104, c114]; rfl) | (rw [gos_2 c37 c53 c69 c77, c97, decide_eq_false c104]; rfl)))
          · skip
            refine lv_iload hx hb dX5_goes_100 (lv_at hl 0 rfl) ?_
            refine lv_bipush (v := (nI 6)) hx hb dX5_goes_102 (by decide) ?_
            refine ln_icmp_ne (tgt := 121) hx hb dX5_goes_104 (by decide) (by omega) (by decide) (fun c104 => ?_) (fun c104 => ?_)
            · skip
              refine lv_iconst (v := (nI 0)) hx hb dX5_goes_121 (by decide) ?_
              exact reZ (v := false) hx hb hr hlocks dX5_goes_122 (congrArg bI (by first | rw [gos_1 c37 c53 c69 c77] | (rw [gos_2 c37 c53 c69 c77, c97]; rfl) | (rw [gos_2 c37 c53 c69 c77, c97, decide_eq_true c104, c114]; rfl) | (rw [gos_2 c37 c53 c69 c77, c97, decide_eq_false c104]; rfl)))
            · skip
              refine lv_aload_n hx hb dX5_goes_107 rfl (lv_at hl 2 rfl) ?_
              refine lv_iload_n hx hb dX5_goes_108 rfl (lv_at hl 3 rfl) ?_
              refine lv_iload_n hx hb dX5_goes_109 rfl (lv_at hl 4 rfl) ?_
              refine lv_iload_n hx hb dX5_goes_110 rfl (lv_at hl 5 rfl) ?_
              refine roI (rnV (As := [.int (nI b), .int (nI f), .int (nI t)]) (rest := []) S0 (c_X5_castles l bd sd rt ps b f t hb9 hf ht hBd) wm_X5_77 wi_X5_castles ws_X5_castles wn_X5 wc_X5_castles hd_X5_castles ⟨rfl, rfl, by decide, by decide⟩ IW.blind (va_recv hK hP (ci := 4) (q0 := 0) rfl rfl) (IW.at hP hD hK hA hE hS) hl.1 (Nat.le_of_ble_eq_true rfl) dX5_goes_111 rfl ⟨by decide, by decide⟩) (fun r_6 hr_6 => ?_)
              subst hr_6
              refine lb_if_eq (tgt := 121) hx hb dX5_goes_114 (by decide) (fun c114 => ?_) (fun c114 => ?_)
              · skip
                refine lv_iconst (v := (nI 0)) hx hb dX5_goes_121 (by decide) ?_
                exact reZ (v := false) hx hb hr hlocks dX5_goes_122 (congrArg bI (by first | rw [gos_1 c37 c53 c69 c77] | (rw [gos_2 c37 c53 c69 c77, c97]; rfl) | (rw [gos_2 c37 c53 c69 c77, c97, decide_eq_true c104, c114]; rfl) | (rw [gos_2 c37 c53 c69 c77, c97, decide_eq_false c104]; rfl)))
              · skip
                refine lv_iconst (v := (nI 1)) hx hb dX5_goes_117 (by decide) ?_
                refine lv_goto (tgt := 122) hx hb dX5_goes_118 (by decide) ?_
                exact reZ (v := true) hx hb hr hlocks dX5_goes_122 (congrArg bI (by first | rw [gos_1 c37 c53 c69 c77] | (rw [gos_2 c37 c53 c69 c77, c97]; rfl) | (rw [gos_2 c37 c53 c69 c77, c97, decide_eq_true c104, c114]; rfl) | (rw [gos_2 c37 c53 c69 c77, c97, decide_eq_false c104]; rfl)))
        · skip
          refine lv_aload_n hx hb dX5_goes_80 rfl (lv_at hl 2 rfl) ?_
          refine lv_iload_n hx hb dX5_goes_81 rfl (lv_at hl 3 rfl) ?_
          refine lv_iload_n hx hb dX5_goes_82 rfl (lv_at hl 4 rfl) ?_
          refine lv_iload_n hx hb dX5_goes_83 rfl (lv_at hl 5 rfl) ?_
          refine roI (rnV (As := [.int (nI b), .int (nI f), .int (nI t)]) (rest := []) S0 (c_X5_pawnGoes l bd sd rt ps b f t hb9 hf ht hBd) wm_X5_74 wi_X5_pawnGoes ws_X5_pawnGoes wn_X5 wc_X5_pawnGoes hd_X5_pawnGoes ⟨rfl, rfl, by decide, by decide⟩ IW.blind (va_recv hK hP (ci := 4) (q0 := 0) rfl rfl) (IW.at hP hD hK hA hE hS) hl.1 (Nat.le_of_ble_eq_true rfl) dX5_goes_84 rfl ⟨by decide, by decide⟩) (fun r_7 hr_7 => ?_)
          subst hr_7
          refine lv_goto (tgt := 122) hx hb dX5_goes_87 (by decide) ?_
          exact reZ (v := pgo bd sd ps f t) hx hb hr hlocks dX5_goes_122 (congrArg bI (by first | rw [gos_1 c37 c53 c69 c77] | (rw [gos_2 c37 c53 c69 c77, c97]; rfl) | (rw [gos_2 c37 c53 c69 c77, c97, decide_eq_true c104, c114]; rfl) | (rw [gos_2 c37 c53 c69 c77, c97, decide_eq_false c104]; rfl)))
      · skip
        refine lv_iconst (v := (nI 0)) hx hb dX5_goes_72 (by decide) ?_
        exact reZ (v := false) hx hb hr hlocks dX5_goes_73 (congrArg bI (gos_0 (by first | exact Or.inl c37 | exact Or.inr (Or.inl c53) | exact Or.inr (Or.inr c69))).symm)
end
section
/-! the board behind a move -/
def upN (g : Nat → Nat) (k v : Nat) : Nat → Nat := fun j => if j = k then v else g j
theorem Bp_in {F : Nat → Int32} {b : Nat} {bd : Nat → Nat} (h : Bp F b bd) {q v : Nat} (hq : q < 64) (hv : v < 13) : Bp (upd F (b + q) (nI v)) b (upN bd q v) := by
  intro j hj
  unfold upN
  by_cases e : j = q
  · subst e; rw [if_pos rfl, pk_us]; exact ⟨rfl, hv⟩
  · rw [if_neg e, pk_un (by omega)]; exact h j hj
theorem Bp_out {F : Nat → Int32} {b : Nat} {bd : Nat → Nat} (h : Bp F b bd) {k : Nat} {x : Int32} (hk : k < b ∨ b + 64 ≤ k) : Bp (upd F k x) b bd := by
  intro j hj
  rw [pk_un (by omega)]
  exact h j hj
/-- outside the board at c the arrays agree -/
def Ag (F G : Nat → Int32) (c : Nat) : Prop := ∀ k, (k < c ∨ c + 67 ≤ k) → G k = F k
theorem Ag.rf {F : Nat → Int32} {c : Nat} : Ag F F c := fun _ _ => rfl
theorem Ag.up {F G : Nat → Int32} {c k : Nat} {x : Int32} (h : Ag F G c) (h1 : c ≤ k) (h2 : k < c + 67) : Ag F (upd G k x) c := by
  intro j hj
  rw [pk_un (by omega)]
  exact h j hj
theorem Ag.Bp {F G : Nat → Int32} {b c : Nat} {bd : Nat → Nat} (h : Ag F G c) (hb : b + 67 ≤ c) (hB : Bp F b bd) : Bp G b bd := fun q hq => by rw [h _ (by omega)]; exact hB q hq
theorem Ag.Bd {F G : Nat → Int32} {b c : Nat} {bd : Nat → Nat} {sd rt ps : Nat} (h : Ag F G c) (hb : b + 67 ≤ c) (hB : Bd F b bd sd rt ps) : Bd G b bd sd rt ps := by
  obtain ⟨h1, h2, h3, h4, h5, h6, h7⟩ := hB
  exact ⟨h.Bp hb h1, by rw [h _ (by omega)]; exact h2, h3, by rw [h _ (by omega)]; exact h4, h5, by rw [h _ (by omega)]; exact h6, h7⟩
def ctl (bd : Nat → Nat) (f t : Nat) : Bool := decide (kd (bd f) = 6) && decide (ap (f % 8) (t % 8) = 2)
def inp (bd : Nat → Nat) (sd ps f t : Nat) : Bool := decide (kd (bd f) = 1) && tps bd sd ps f t
def rok (f t : Nat) : Nat := if f < t then f + 3 else f - 4
def bh1 (bd : Nat → Nat) (sd ps f t : Nat) : Nat → Nat := if inp bd sd ps f t = true then upN bd (bkN sd t) 0 else bd
def bh2 (bd : Nat → Nat) (sd ps f t k : Nat) : Nat → Nat := upN (upN (bh1 bd sd ps f t) f 0) t (if k = 0 then bd f else k + 6 * sd)
/-- the pieces behind a move -/
def bhB (bd : Nat → Nat) (sd ps f t k : Nat) : Nat → Nat := if ctl bd f t = true then upN (upN (bh2 bd sd ps f t k) (rok f t) 0) ((f + t) / 2) (4 + 6 * sd) else bh2 bd sd ps f t k
def bhK (bd : Nat → Nat) (sd rt f : Nat) : Nat := if kd (bd f) = 6 then rt &&& (15 - 3 * 4 ^ sd) else rt
/-- the rights behind a move -/
def bhR (bd : Nat → Nat) (sd rt f t : Nat) : Nat := (bhK bd sd rt f &&& (15 - crn f)) &&& (15 - crn t)
def tkN (g : Nat → Nat) (sd p n : Nat) : Bool := (List.range n).any fun s => decide (g s = 7 - 6 * sd) && atk g s p
/-- passing behind a move -/
def bhP (bd : Nat → Nat) (sd ps f t k : Nat) : Nat := if kd (bd f) = 1 ∧ ap (f / 8) (t / 8) = 2 then (if tkN (bhB bd sd ps f t k) sd ((f + t) / 2) 64 = true then (f + t) / 2 else 64) else 64
theorem tkN_s (g : Nat → Nat) (sd p n : Nat) : tkN g sd p (n + 1) = (tkN g sd p n || (decide (g n = 7 - 6 * sd) && atk g n p)) := by
  unfold tkN
  rw [List.range_succ, List.any_append]
  simp
set_option maxRecDepth 100000 in
theorem andn_chk : ((List.range 16).all fun a => (List.range 16).all fun b => decide (nI a &&& (nI b ^^^ (-1)) = nI (a &&& (15 - b)))) = true := by decide +kernel
theorem andn {a b : Nat} (ha : a < 16) (hb : b < 16) : nI a &&& (nI b ^^^ (-1)) = nI (a &&& (15 - b)) := of_decide_eq_true (all_lt (all_lt andn_chk ha) hb)
theorem and16 {a b : Nat} (ha : a < 16) : a &&& b < 16 := Nat.lt_of_le_of_lt Nat.and_le_left ha
theorem crn_lt (q : Nat) : crn q < 16 := by unfold crn; (repeat' split) <;> omega
theorem sh3 {sd : Nat} (hs : sd < 2) : nI 3 <<< (nI (2 * sd) &&& 31) = nI (3 * 4 ^ sd) ∧ 3 * 4 ^ sd < 16 := by
  have : sd = 0 ∨ sd = 1 := by omega
  rcases this with rfl | rfl <;> exact ⟨rfl, by decide⟩
theorem bhK_lt {bd : Nat → Nat} {sd rt f : Nat} (h : rt < 16) : bhK bd sd rt f < 16 := by unfold bhK; split; exact and16 h; exact h
theorem bhR_lt {bd : Nat → Nat} {sd rt f t : Nat} (h : rt < 16) : bhR bd sd rt f t < 16 := and16 (and16 (bhK_lt h))
theorem ctl_own {bd : Nat → Nat} {sd rt ps f t : Nat} (hg : gos bd sd rt ps f t = true) (h : ctl bd f t = true) : f = 4 + 56 * sd ∧ (t = f + 2 ∨ f = t + 2) := by
  unfold ctl at h
  simp only [Bool.and_eq_true, decide_eq_true_eq] at h
  unfold gos at hg
  split at hg
  · exact absurd hg (by decide)
  · rw [if_neg (by omega)] at hg
    have hna : atk bd f t = false := by
      by_cases e : f = t
      · exact atk_0 (Or.inr e)
      · rw [atk_6 e h.1]; exact decide_eq_false (by omega)
    rw [hna, Bool.false_or, Bool.and_eq_true] at hg
    have h2 := hg.2
    unfold cas at h2
    rw [Bool.and_eq_true] at h2
    exact of_decide_eq_true h2.1
theorem inp_bk {bd : Nat → Nat} {sd ps f t : Nat} (h : inp bd sd ps f t = true) : isq (bkI sd t) = true := by
  unfold inp tps at h
  simp only [Bool.and_eq_true] at h
  exact h.2.2.2.2.1
theorem cp_s {F G : Nat → Int32} {b d i : Nat} (h : ∀ j, j < i → G (d + j) = F (b + j)) (h2 : G (b + i) = F (b + i)) : ∀ j, j < i + 1 → upd G (d + i) (G (b + i)) (d + j) = F (b + j) := by
  intro j hj
  by_cases e : j = i
  · rw [e, pk_us, h2]
  · rw [pk_un (by omega)]; exact h j (by omega)
end
section
theorem dX5_behind_0 : decode cX5_behind 0 = .ok (.iload_n 3, 1) := by decide +kernel
theorem dX5_behind_1 : decode cX5_behind 1 = .ok (.bipush 64, 2) := by decide +kernel
theorem dX5_behind_3 : decode cX5_behind 3 = .ok (.irem, 1) := by decide +kernel
theorem dX5_behind_4 : decode cX5_behind 4 = .ok (.istore 4, 2) := by decide +kernel
theorem dX5_behind_6 : decode cX5_behind 6 = .ok (.iload_n 3, 1) := by decide +kernel
theorem dX5_behind_7 : decode cX5_behind 7 = .ok (.bipush 64, 2) := by decide +kernel
theorem dX5_behind_9 : decode cX5_behind 9 = .ok (.idiv, 1) := by decide +kernel
theorem dX5_behind_10 : decode cX5_behind 10 = .ok (.bipush 64, 2) := by decide +kernel
theorem dX5_behind_12 : decode cX5_behind 12 = .ok (.irem, 1) := by decide +kernel
theorem dX5_behind_13 : decode cX5_behind 13 = .ok (.istore 5, 2) := by decide +kernel
theorem dX5_behind_15 : decode cX5_behind 15 = .ok (.iload_n 3, 1) := by decide +kernel
theorem dX5_behind_16 : decode cX5_behind 16 = .ok (.sipush 4096, 3) := by decide +kernel
theorem dX5_behind_19 : decode cX5_behind 19 = .ok (.idiv, 1) := by decide +kernel
theorem dX5_behind_20 : decode cX5_behind 20 = .ok (.istore 6, 2) := by decide +kernel
theorem dX5_behind_22 : decode cX5_behind 22 = .ok (.aload_n 0, 1) := by decide +kernel
theorem dX5_behind_23 : decode cX5_behind 23 = .ok (.getfield 7, 3) := by decide +kernel
theorem dX5_behind_26 : decode cX5_behind 26 = .ok (.iload_n 1, 1) := by decide +kernel
theorem dX5_behind_27 : decode cX5_behind 27 = .ok (.bipush 64, 2) := by decide +kernel
theorem dX5_behind_29 : decode cX5_behind 29 = .ok (.iadd, 1) := by decide +kernel
theorem dX5_behind_30 : decode cX5_behind 30 = .ok (.iaload, 1) := by decide +kernel
theorem dX5_behind_31 : decode cX5_behind 31 = .ok (.istore 7, 2) := by decide +kernel
theorem dX5_behind_33 : decode cX5_behind 33 = .ok (.aload_n 0, 1) := by decide +kernel
theorem dX5_behind_34 : decode cX5_behind 34 = .ok (.getfield 7, 3) := by decide +kernel
theorem dX5_behind_37 : decode cX5_behind 37 = .ok (.iload_n 1, 1) := by decide +kernel
theorem dX5_behind_38 : decode cX5_behind 38 = .ok (.iload 4, 2) := by decide +kernel
theorem dX5_behind_40 : decode cX5_behind 40 = .ok (.iadd, 1) := by decide +kernel
theorem dX5_behind_41 : decode cX5_behind 41 = .ok (.iaload, 1) := by decide +kernel
theorem dX5_behind_42 : decode cX5_behind 42 = .ok (.istore 8, 2) := by decide +kernel
theorem dX5_behind_44 : decode cX5_behind 44 = .ok (.iload 8, 2) := by decide +kernel
theorem dX5_behind_46 : decode cX5_behind 46 = .ok (.invokestatic 40, 3) := by decide +kernel
theorem dX5_behind_49 : decode cX5_behind 49 = .ok (.bipush 6, 2) := by decide +kernel
theorem dX5_behind_51 : decode cX5_behind 51 = .ok (.if_icmp .ne 24, 3) := by decide +kernel
theorem dX5_behind_54 : decode cX5_behind 54 = .ok (.iload 4, 2) := by decide +kernel
theorem dX5_behind_56 : decode cX5_behind 56 = .ok (.bipush 8, 2) := by decide +kernel
theorem dX5_behind_58 : decode cX5_behind 58 = .ok (.irem, 1) := by decide +kernel
theorem dX5_behind_59 : decode cX5_behind 59 = .ok (.iload 5, 2) := by decide +kernel
theorem dX5_behind_61 : decode cX5_behind 61 = .ok (.bipush 8, 2) := by decide +kernel
theorem dX5_behind_63 : decode cX5_behind 63 = .ok (.irem, 1) := by decide +kernel
theorem dX5_behind_64 : decode cX5_behind 64 = .ok (.invokestatic 43, 3) := by decide +kernel
theorem dX5_behind_67 : decode cX5_behind 67 = .ok (.iconst 2, 1) := by decide +kernel
theorem dX5_behind_68 : decode cX5_behind 68 = .ok (.if_icmp .ne 7, 3) := by decide +kernel
theorem dX5_behind_71 : decode cX5_behind 71 = .ok (.iconst 1, 1) := by decide +kernel
theorem dX5_behind_72 : decode cX5_behind 72 = .ok (.goto 4, 3) := by decide +kernel
theorem dX5_behind_75 : decode cX5_behind 75 = .ok (.iconst 0, 1) := by decide +kernel
theorem dX5_behind_76 : decode cX5_behind 76 = .ok (.istore 9, 2) := by decide +kernel
theorem dX5_behind_78 : decode cX5_behind 78 = .ok (.iload 8, 2) := by decide +kernel
theorem dX5_behind_80 : decode cX5_behind 80 = .ok (.invokestatic 40, 3) := by decide +kernel
theorem dX5_behind_83 : decode cX5_behind 83 = .ok (.iconst 1, 1) := by decide +kernel
theorem dX5_behind_84 : decode cX5_behind 84 = .ok (.if_icmp .ne 19, 3) := by decide +kernel
theorem dX5_behind_87 : decode cX5_behind 87 = .ok (.aload_n 0, 1) := by decide +kernel
theorem dX5_behind_88 : decode cX5_behind 88 = .ok (.iload_n 1, 1) := by decide +kernel
theorem dX5_behind_89 : decode cX5_behind 89 = .ok (.iload 4, 2) := by decide +kernel
theorem dX5_behind_91 : decode cX5_behind 91 = .ok (.iload 5, 2) := by decide +kernel
theorem dX5_behind_93 : decode cX5_behind 93 = .ok (.invokevirtual 71, 3) := by decide +kernel
theorem dX5_behind_96 : decode cX5_behind 96 = .ok (.ifCond .eq 7, 3) := by decide +kernel
theorem dX5_behind_99 : decode cX5_behind 99 = .ok (.iconst 1, 1) := by decide +kernel
theorem dX5_behind_100 : decode cX5_behind 100 = .ok (.goto 4, 3) := by decide +kernel
theorem dX5_behind_103 : decode cX5_behind 103 = .ok (.iconst 0, 1) := by decide +kernel
theorem dX5_behind_104 : decode cX5_behind 104 = .ok (.istore 10, 2) := by decide +kernel
theorem dX5_behind_106 : decode cX5_behind 106 = .ok (.iconst 0, 1) := by decide +kernel
theorem dX5_behind_107 : decode cX5_behind 107 = .ok (.istore 11, 2) := by decide +kernel
theorem dX5_behind_109 : decode cX5_behind 109 = .ok (.iload 11, 2) := by decide +kernel
theorem dX5_behind_111 : decode cX5_behind 111 = .ok (.bipush 67, 2) := by decide +kernel
theorem dX5_behind_113 : decode cX5_behind 113 = .ok (.if_icmp .ge 27, 3) := by decide +kernel
theorem dX5_behind_116 : decode cX5_behind 116 = .ok (.aload_n 0, 1) := by decide +kernel
theorem dX5_behind_117 : decode cX5_behind 117 = .ok (.getfield 7, 3) := by decide +kernel
theorem dX5_behind_120 : decode cX5_behind 120 = .ok (.iload_n 2, 1) := by decide +kernel
theorem dX5_behind_121 : decode cX5_behind 121 = .ok (.iload 11, 2) := by decide +kernel
theorem dX5_behind_123 : decode cX5_behind 123 = .ok (.iadd, 1) := by decide +kernel
theorem dX5_behind_124 : decode cX5_behind 124 = .ok (.aload_n 0, 1) := by decide +kernel
theorem dX5_behind_125 : decode cX5_behind 125 = .ok (.getfield 7, 3) := by decide +kernel
theorem dX5_behind_128 : decode cX5_behind 128 = .ok (.iload_n 1, 1) := by decide +kernel
theorem dX5_behind_129 : decode cX5_behind 129 = .ok (.iload 11, 2) := by decide +kernel
theorem dX5_behind_131 : decode cX5_behind 131 = .ok (.iadd, 1) := by decide +kernel
theorem dX5_behind_132 : decode cX5_behind 132 = .ok (.iaload, 1) := by decide +kernel
theorem dX5_behind_133 : decode cX5_behind 133 = .ok (.iastore, 1) := by decide +kernel
theorem dX5_behind_134 : decode cX5_behind 134 = .ok (.iinc 11 1, 3) := by decide +kernel
theorem dX5_behind_137 : decode cX5_behind 137 = .ok (.goto (-28), 3) := by decide +kernel
theorem dX5_behind_140 : decode cX5_behind 140 = .ok (.iload 7, 2) := by decide +kernel
theorem dX5_behind_142 : decode cX5_behind 142 = .ok (.ifCond .ne 11, 3) := by decide +kernel
theorem dX5_behind_145 : decode cX5_behind 145 = .ok (.iload 5, 2) := by decide +kernel
theorem dX5_behind_147 : decode cX5_behind 147 = .ok (.bipush 8, 2) := by decide +kernel
theorem dX5_behind_149 : decode cX5_behind 149 = .ok (.isub, 1) := by decide +kernel
theorem dX5_behind_150 : decode cX5_behind 150 = .ok (.goto 8, 3) := by decide +kernel
theorem dX5_behind_153 : decode cX5_behind 153 = .ok (.iload 5, 2) := by decide +kernel
theorem dX5_behind_155 : decode cX5_behind 155 = .ok (.bipush 8, 2) := by decide +kernel
theorem dX5_behind_157 : decode cX5_behind 157 = .ok (.iadd, 1) := by decide +kernel
theorem dX5_behind_158 : decode cX5_behind 158 = .ok (.istore 11, 2) := by decide +kernel
theorem dX5_behind_160 : decode cX5_behind 160 = .ok (.iload 10, 2) := by decide +kernel
theorem dX5_behind_162 : decode cX5_behind 162 = .ok (.ifCond .eq 13, 3) := by decide +kernel
theorem dX5_behind_165 : decode cX5_behind 165 = .ok (.aload_n 0, 1) := by decide +kernel
theorem dX5_behind_166 : decode cX5_behind 166 = .ok (.getfield 7, 3) := by decide +kernel
theorem dX5_behind_169 : decode cX5_behind 169 = .ok (.iload_n 2, 1) := by decide +kernel
theorem dX5_behind_170 : decode cX5_behind 170 = .ok (.iload 11, 2) := by decide +kernel
theorem dX5_behind_172 : decode cX5_behind 172 = .ok (.iadd, 1) := by decide +kernel
theorem dX5_behind_173 : decode cX5_behind 173 = .ok (.iconst 0, 1) := by decide +kernel
theorem dX5_behind_174 : decode cX5_behind 174 = .ok (.iastore, 1) := by decide +kernel
theorem dX5_behind_175 : decode cX5_behind 175 = .ok (.aload_n 0, 1) := by decide +kernel
theorem dX5_behind_176 : decode cX5_behind 176 = .ok (.getfield 7, 3) := by decide +kernel
theorem dX5_behind_179 : decode cX5_behind 179 = .ok (.iload_n 2, 1) := by decide +kernel
theorem dX5_behind_180 : decode cX5_behind 180 = .ok (.iload 4, 2) := by decide +kernel
theorem dX5_behind_182 : decode cX5_behind 182 = .ok (.iadd, 1) := by decide +kernel
theorem dX5_behind_183 : decode cX5_behind 183 = .ok (.iconst 0, 1) := by decide +kernel
theorem dX5_behind_184 : decode cX5_behind 184 = .ok (.iastore, 1) := by decide +kernel
theorem dX5_behind_185 : decode cX5_behind 185 = .ok (.aload_n 0, 1) := by decide +kernel
theorem dX5_behind_186 : decode cX5_behind 186 = .ok (.getfield 7, 3) := by decide +kernel
theorem dX5_behind_189 : decode cX5_behind 189 = .ok (.iload_n 2, 1) := by decide +kernel
theorem dX5_behind_190 : decode cX5_behind 190 = .ok (.iload 5, 2) := by decide +kernel
theorem dX5_behind_192 : decode cX5_behind 192 = .ok (.iadd, 1) := by decide +kernel
theorem dX5_behind_193 : decode cX5_behind 193 = .ok (.iload 6, 2) := by decide +kernel
theorem dX5_behind_195 : decode cX5_behind 195 = .ok (.ifCond .le 14, 3) := by decide +kernel
theorem dX5_behind_198 : decode cX5_behind 198 = .ok (.iload 6, 2) := by decide +kernel
theorem dX5_behind_200 : decode cX5_behind 200 = .ok (.bipush 6, 2) := by decide +kernel
theorem dX5_behind_202 : decode cX5_behind 202 = .ok (.iload 7, 2) := by decide +kernel
theorem dX5_behind_204 : decode cX5_behind 204 = .ok (.imul, 1) := by decide +kernel
theorem dX5_behind_205 : decode cX5_behind 205 = .ok (.iadd, 1) := by decide +kernel
theorem dX5_behind_206 : decode cX5_behind 206 = .ok (.goto 5, 3) := by decide +kernel
theorem dX5_behind_209 : decode cX5_behind 209 = .ok (.iload 8, 2) := by decide +kernel
theorem dX5_behind_211 : decode cX5_behind 211 = .ok (.iastore, 1) := by decide +kernel
theorem dX5_behind_212 : decode cX5_behind 212 = .ok (.iload 9, 2) := by decide +kernel
theorem dX5_behind_214 : decode cX5_behind 214 = .ok (.ifCond .eq 54, 3) := by decide +kernel
theorem dX5_behind_217 : decode cX5_behind 217 = .ok (.iload 5, 2) := by decide +kernel
theorem dX5_behind_219 : decode cX5_behind 219 = .ok (.iload 4, 2) := by decide +kernel
theorem dX5_behind_221 : decode cX5_behind 221 = .ok (.if_icmp .le 10, 3) := by decide +kernel
theorem dX5_behind_224 : decode cX5_behind 224 = .ok (.iload 4, 2) := by decide +kernel
theorem dX5_behind_226 : decode cX5_behind 226 = .ok (.iconst 3, 1) := by decide +kernel
theorem dX5_behind_227 : decode cX5_behind 227 = .ok (.iadd, 1) := by decide +kernel
theorem dX5_behind_228 : decode cX5_behind 228 = .ok (.goto 7, 3) := by decide +kernel
theorem dX5_behind_231 : decode cX5_behind 231 = .ok (.iload 4, 2) := by decide +kernel
theorem dX5_behind_233 : decode cX5_behind 233 = .ok (.iconst 4, 1) := by decide +kernel
theorem dX5_behind_234 : decode cX5_behind 234 = .ok (.isub, 1) := by decide +kernel
theorem dX5_behind_235 : decode cX5_behind 235 = .ok (.istore 12, 2) := by decide +kernel
theorem dX5_behind_237 : decode cX5_behind 237 = .ok (.aload_n 0, 1) := by decide +kernel
theorem dX5_behind_238 : decode cX5_behind 238 = .ok (.getfield 7, 3) := by decide +kernel
theorem dX5_behind_241 : decode cX5_behind 241 = .ok (.iload_n 2, 1) := by decide +kernel
theorem dX5_behind_242 : decode cX5_behind 242 = .ok (.iload 12, 2) := by decide +kernel
theorem dX5_behind_244 : decode cX5_behind 244 = .ok (.iadd, 1) := by decide +kernel
theorem dX5_behind_245 : decode cX5_behind 245 = .ok (.iconst 0, 1) := by decide +kernel
theorem dX5_behind_246 : decode cX5_behind 246 = .ok (.iastore, 1) := by decide +kernel
theorem dX5_behind_247 : decode cX5_behind 247 = .ok (.aload_n 0, 1) := by decide +kernel
theorem dX5_behind_248 : decode cX5_behind 248 = .ok (.getfield 7, 3) := by decide +kernel
theorem dX5_behind_251 : decode cX5_behind 251 = .ok (.iload_n 2, 1) := by decide +kernel
theorem dX5_behind_252 : decode cX5_behind 252 = .ok (.iload 4, 2) := by decide +kernel
theorem dX5_behind_254 : decode cX5_behind 254 = .ok (.iload 5, 2) := by decide +kernel
theorem dX5_behind_256 : decode cX5_behind 256 = .ok (.iadd, 1) := by decide +kernel
theorem dX5_behind_257 : decode cX5_behind 257 = .ok (.iconst 2, 1) := by decide +kernel
theorem dX5_behind_258 : decode cX5_behind 258 = .ok (.idiv, 1) := by decide +kernel
theorem dX5_behind_259 : decode cX5_behind 259 = .ok (.iadd, 1) := by decide +kernel
theorem dX5_behind_260 : decode cX5_behind 260 = .ok (.iconst 4, 1) := by decide +kernel
theorem dX5_behind_261 : decode cX5_behind 261 = .ok (.bipush 6, 2) := by decide +kernel
theorem dX5_behind_263 : decode cX5_behind 263 = .ok (.iload 7, 2) := by decide +kernel
theorem dX5_behind_265 : decode cX5_behind 265 = .ok (.imul, 1) := by decide +kernel
theorem dX5_behind_266 : decode cX5_behind 266 = .ok (.iadd, 1) := by decide +kernel
theorem dX5_behind_267 : decode cX5_behind 267 = .ok (.iastore, 1) := by decide +kernel
theorem dX5_behind_268 : decode cX5_behind 268 = .ok (.iload 8, 2) := by decide +kernel
theorem dX5_behind_270 : decode cX5_behind 270 = .ok (.invokestatic 40, 3) := by decide +kernel
theorem dX5_behind_273 : decode cX5_behind 273 = .ok (.bipush 6, 2) := by decide +kernel
theorem dX5_behind_275 : decode cX5_behind 275 = .ok (.if_icmp .ne 24, 3) := by decide +kernel
theorem dX5_behind_278 : decode cX5_behind 278 = .ok (.aload_n 0, 1) := by decide +kernel
theorem dX5_behind_279 : decode cX5_behind 279 = .ok (.getfield 7, 3) := by decide +kernel
theorem dX5_behind_282 : decode cX5_behind 282 = .ok (.iload_n 1, 1) := by decide +kernel
theorem dX5_behind_283 : decode cX5_behind 283 = .ok (.bipush 65, 2) := by decide +kernel
theorem dX5_behind_285 : decode cX5_behind 285 = .ok (.iadd, 1) := by decide +kernel
theorem dX5_behind_286 : decode cX5_behind 286 = .ok (.iaload, 1) := by decide +kernel
theorem dX5_behind_287 : decode cX5_behind 287 = .ok (.iconst 3, 1) := by decide +kernel
theorem dX5_behind_288 : decode cX5_behind 288 = .ok (.iconst 2, 1) := by decide +kernel
theorem dX5_behind_289 : decode cX5_behind 289 = .ok (.iload 7, 2) := by decide +kernel
theorem dX5_behind_291 : decode cX5_behind 291 = .ok (.imul, 1) := by decide +kernel
theorem dX5_behind_292 : decode cX5_behind 292 = .ok (.ishl, 1) := by decide +kernel
theorem dX5_behind_293 : decode cX5_behind 293 = .ok (.iconst (-1), 1) := by decide +kernel
theorem dX5_behind_294 : decode cX5_behind 294 = .ok (.ixor, 1) := by decide +kernel
theorem dX5_behind_295 : decode cX5_behind 295 = .ok (.iand, 1) := by decide +kernel
theorem dX5_behind_296 : decode cX5_behind 296 = .ok (.goto 12, 3) := by decide +kernel
theorem dX5_behind_299 : decode cX5_behind 299 = .ok (.aload_n 0, 1) := by decide +kernel
theorem dX5_behind_300 : decode cX5_behind 300 = .ok (.getfield 7, 3) := by decide +kernel
theorem dX5_behind_303 : decode cX5_behind 303 = .ok (.iload_n 1, 1) := by decide +kernel
theorem dX5_behind_304 : decode cX5_behind 304 = .ok (.bipush 65, 2) := by decide +kernel
theorem dX5_behind_306 : decode cX5_behind 306 = .ok (.iadd, 1) := by decide +kernel
theorem dX5_behind_307 : decode cX5_behind 307 = .ok (.iaload, 1) := by decide +kernel
theorem dX5_behind_308 : decode cX5_behind 308 = .ok (.istore 12, 2) := by decide +kernel
theorem dX5_behind_310 : decode cX5_behind 310 = .ok (.aload_n 0, 1) := by decide +kernel
theorem dX5_behind_311 : decode cX5_behind 311 = .ok (.getfield 7, 3) := by decide +kernel
theorem dX5_behind_314 : decode cX5_behind 314 = .ok (.iload_n 2, 1) := by decide +kernel
theorem dX5_behind_315 : decode cX5_behind 315 = .ok (.bipush 65, 2) := by decide +kernel
theorem dX5_behind_317 : decode cX5_behind 317 = .ok (.iadd, 1) := by decide +kernel
theorem dX5_behind_318 : decode cX5_behind 318 = .ok (.iload 12, 2) := by decide +kernel
theorem dX5_behind_320 : decode cX5_behind 320 = .ok (.iload 4, 2) := by decide +kernel
theorem dX5_behind_322 : decode cX5_behind 322 = .ok (.invokestatic 80, 3) := by decide +kernel
theorem dX5_behind_325 : decode cX5_behind 325 = .ok (.iconst (-1), 1) := by decide +kernel
theorem dX5_behind_326 : decode cX5_behind 326 = .ok (.ixor, 1) := by decide +kernel
theorem dX5_behind_327 : decode cX5_behind 327 = .ok (.iand, 1) := by decide +kernel
theorem dX5_behind_328 : decode cX5_behind 328 = .ok (.iload 5, 2) := by decide +kernel
theorem dX5_behind_330 : decode cX5_behind 330 = .ok (.invokestatic 80, 3) := by decide +kernel
theorem dX5_behind_333 : decode cX5_behind 333 = .ok (.iconst (-1), 1) := by decide +kernel
theorem dX5_behind_334 : decode cX5_behind 334 = .ok (.ixor, 1) := by decide +kernel
theorem dX5_behind_335 : decode cX5_behind 335 = .ok (.iand, 1) := by decide +kernel
theorem dX5_behind_336 : decode cX5_behind 336 = .ok (.iastore, 1) := by decide +kernel
theorem dX5_behind_337 : decode cX5_behind 337 = .ok (.aload_n 0, 1) := by decide +kernel
theorem dX5_behind_338 : decode cX5_behind 338 = .ok (.getfield 7, 3) := by decide +kernel
theorem dX5_behind_341 : decode cX5_behind 341 = .ok (.iload_n 2, 1) := by decide +kernel
theorem dX5_behind_342 : decode cX5_behind 342 = .ok (.bipush 66, 2) := by decide +kernel
theorem dX5_behind_344 : decode cX5_behind 344 = .ok (.iadd, 1) := by decide +kernel
theorem dX5_behind_345 : decode cX5_behind 345 = .ok (.iconst (-1), 1) := by decide +kernel
theorem dX5_behind_346 : decode cX5_behind 346 = .ok (.iastore, 1) := by decide +kernel
theorem dX5_behind_347 : decode cX5_behind 347 = .ok (.iload 8, 2) := by decide +kernel
theorem dX5_behind_349 : decode cX5_behind 349 = .ok (.invokestatic 40, 3) := by decide +kernel
theorem dX5_behind_352 : decode cX5_behind 352 = .ok (.iconst 1, 1) := by decide +kernel
theorem dX5_behind_353 : decode cX5_behind 353 = .ok (.if_icmp .ne 112, 3) := by decide +kernel
theorem dX5_behind_356 : decode cX5_behind 356 = .ok (.iload 4, 2) := by decide +kernel
theorem dX5_behind_358 : decode cX5_behind 358 = .ok (.bipush 8, 2) := by decide +kernel
theorem dX5_behind_360 : decode cX5_behind 360 = .ok (.idiv, 1) := by decide +kernel
theorem dX5_behind_361 : decode cX5_behind 361 = .ok (.iload 5, 2) := by decide +kernel
theorem dX5_behind_363 : decode cX5_behind 363 = .ok (.bipush 8, 2) := by decide +kernel
theorem dX5_behind_365 : decode cX5_behind 365 = .ok (.idiv, 1) := by decide +kernel
theorem dX5_behind_366 : decode cX5_behind 366 = .ok (.invokestatic 43, 3) := by decide +kernel
theorem dX5_behind_369 : decode cX5_behind 369 = .ok (.iconst 2, 1) := by decide +kernel
theorem dX5_behind_370 : decode cX5_behind 370 = .ok (.if_icmp .ne 95, 3) := by decide +kernel
theorem dX5_behind_373 : decode cX5_behind 373 = .ok (.iload 4, 2) := by decide +kernel
theorem dX5_behind_375 : decode cX5_behind 375 = .ok (.iload 5, 2) := by decide +kernel
theorem dX5_behind_377 : decode cX5_behind 377 = .ok (.iadd, 1) := by decide +kernel
theorem dX5_behind_378 : decode cX5_behind 378 = .ok (.iconst 2, 1) := by decide +kernel
theorem dX5_behind_379 : decode cX5_behind 379 = .ok (.idiv, 1) := by decide +kernel
theorem dX5_behind_380 : decode cX5_behind 380 = .ok (.istore 13, 2) := by decide +kernel
theorem dX5_behind_382 : decode cX5_behind 382 = .ok (.iconst 0, 1) := by decide +kernel
theorem dX5_behind_383 : decode cX5_behind 383 = .ok (.istore 14, 2) := by decide +kernel
theorem dX5_behind_385 : decode cX5_behind 385 = .ok (.iload 14, 2) := by decide +kernel
theorem dX5_behind_387 : decode cX5_behind 387 = .ok (.bipush 64, 2) := by decide +kernel
theorem dX5_behind_389 : decode cX5_behind 389 = .ok (.if_icmp .ge 76, 3) := by decide +kernel
theorem dX5_behind_392 : decode cX5_behind 392 = .ok (.aload_n 0, 1) := by decide +kernel
theorem dX5_behind_393 : decode cX5_behind 393 = .ok (.getfield 7, 3) := by decide +kernel
theorem dX5_behind_396 : decode cX5_behind 396 = .ok (.iload_n 2, 1) := by decide +kernel
theorem dX5_behind_397 : decode cX5_behind 397 = .ok (.iload 14, 2) := by decide +kernel
theorem dX5_behind_399 : decode cX5_behind 399 = .ok (.iadd, 1) := by decide +kernel
theorem dX5_behind_400 : decode cX5_behind 400 = .ok (.iaload, 1) := by decide +kernel
theorem dX5_behind_401 : decode cX5_behind 401 = .ok (.bipush 7, 2) := by decide +kernel
theorem dX5_behind_403 : decode cX5_behind 403 = .ok (.bipush 6, 2) := by decide +kernel
theorem dX5_behind_405 : decode cX5_behind 405 = .ok (.iload 7, 2) := by decide +kernel
theorem dX5_behind_407 : decode cX5_behind 407 = .ok (.imul, 1) := by decide +kernel
theorem dX5_behind_408 : decode cX5_behind 408 = .ok (.isub, 1) := by decide +kernel
theorem dX5_behind_409 : decode cX5_behind 409 = .ok (.if_icmp .ne 19, 3) := by decide +kernel
theorem dX5_behind_412 : decode cX5_behind 412 = .ok (.aload_n 0, 1) := by decide +kernel
theorem dX5_behind_413 : decode cX5_behind 413 = .ok (.iload_n 2, 1) := by decide +kernel
theorem dX5_behind_414 : decode cX5_behind 414 = .ok (.iload 14, 2) := by decide +kernel
theorem dX5_behind_416 : decode cX5_behind 416 = .ok (.iload 13, 2) := by decide +kernel
theorem dX5_behind_418 : decode cX5_behind 418 = .ok (.invokevirtual 54, 3) := by decide +kernel
theorem dX5_behind_421 : decode cX5_behind 421 = .ok (.ifCond .eq 7, 3) := by decide +kernel
theorem dX5_behind_424 : decode cX5_behind 424 = .ok (.iconst 1, 1) := by decide +kernel
theorem dX5_behind_425 : decode cX5_behind 425 = .ok (.goto 4, 3) := by decide +kernel
theorem dX5_behind_428 : decode cX5_behind 428 = .ok (.iconst 0, 1) := by decide +kernel
theorem dX5_behind_429 : decode cX5_behind 429 = .ok (.istore 15, 2) := by decide +kernel
theorem dX5_behind_431 : decode cX5_behind 431 = .ok (.aload_n 0, 1) := by decide +kernel
theorem dX5_behind_432 : decode cX5_behind 432 = .ok (.getfield 7, 3) := by decide +kernel
theorem dX5_behind_435 : decode cX5_behind 435 = .ok (.iload_n 2, 1) := by decide +kernel
theorem dX5_behind_436 : decode cX5_behind 436 = .ok (.bipush 66, 2) := by decide +kernel
theorem dX5_behind_438 : decode cX5_behind 438 = .ok (.iadd, 1) := by decide +kernel
theorem dX5_behind_439 : decode cX5_behind 439 = .ok (.iload 15, 2) := by decide +kernel
theorem dX5_behind_441 : decode cX5_behind 441 = .ok (.ifCond .eq 8, 3) := by decide +kernel
theorem dX5_behind_444 : decode cX5_behind 444 = .ok (.iload 13, 2) := by decide +kernel
theorem dX5_behind_446 : decode cX5_behind 446 = .ok (.goto 12, 3) := by decide +kernel
theorem dX5_behind_449 : decode cX5_behind 449 = .ok (.aload_n 0, 1) := by decide +kernel
theorem dX5_behind_450 : decode cX5_behind 450 = .ok (.getfield 7, 3) := by decide +kernel
theorem dX5_behind_453 : decode cX5_behind 453 = .ok (.iload_n 2, 1) := by decide +kernel
theorem dX5_behind_454 : decode cX5_behind 454 = .ok (.bipush 66, 2) := by decide +kernel
theorem dX5_behind_456 : decode cX5_behind 456 = .ok (.iadd, 1) := by decide +kernel
theorem dX5_behind_457 : decode cX5_behind 457 = .ok (.iaload, 1) := by decide +kernel
theorem dX5_behind_458 : decode cX5_behind 458 = .ok (.iastore, 1) := by decide +kernel
theorem dX5_behind_459 : decode cX5_behind 459 = .ok (.iinc 14 1, 3) := by decide +kernel
theorem dX5_behind_462 : decode cX5_behind 462 = .ok (.goto (-77), 3) := by decide +kernel
theorem dX5_behind_465 : decode cX5_behind 465 = .ok (.aload_n 0, 1) := by decide +kernel
theorem dX5_behind_466 : decode cX5_behind 466 = .ok (.getfield 7, 3) := by decide +kernel
theorem dX5_behind_469 : decode cX5_behind 469 = .ok (.iload_n 2, 1) := by decide +kernel
theorem dX5_behind_470 : decode cX5_behind 470 = .ok (.bipush 64, 2) := by decide +kernel
theorem dX5_behind_472 : decode cX5_behind 472 = .ok (.iadd, 1) := by decide +kernel
theorem dX5_behind_473 : decode cX5_behind 473 = .ok (.iconst 1, 1) := by decide +kernel
theorem dX5_behind_474 : decode cX5_behind 474 = .ok (.iload 7, 2) := by decide +kernel
theorem dX5_behind_476 : decode cX5_behind 476 = .ok (.isub, 1) := by decide +kernel
theorem dX5_behind_477 : decode cX5_behind 477 = .ok (.iastore, 1) := by decide +kernel
theorem dX5_behind_478 : decode cX5_behind 478 = .ok (.return_, 1) := by decide +kernel
theorem hd_X5_behind : yX5_behind.cls ≠ "java/lang/invoke/MethodHandle" ∧ yX5_behind.cls ≠ "java/lang/invoke/VarHandle" ∧ (parseMethodDescriptor yX5_behind.desc).map (fun d => d.parameters.length) = some 3 := by decide +kernel
set_option maxHeartbeats 4000000 in
set_option maxRecDepth 100000 in
/-- behind -/
theorem c_X5_behind (l : Launch) {D : va_G} {cI cJ : ClassId} {A : Nat → Prop} {hm b0 b1 b2 b3 : Nat} {th mk sz : Int32} {F mv kp li : Nat → Int32} (bd : Nat → Nat) (sd rt ps b d f t k : Nat) (hbd : b + 67 ≤ d) (hd9 : d ≤ 300) (hf : f < 64) (ht : t < 64) (hk6 : k < 6) (hgo : gos bd sd rt ps f t = true) (hBd : Bd F b bd sd rt ps) : Met l yX5_behind (Cond.code yX5_behind cX5_behind 16 none :: wsL_law) (rK 3) (va_Pc [.ref hm, .int (nI b), .int (nI d), .int (nI (f + 64 * t + 4096 * k))] (IW D cI cJ A (rW cI hm b0 b1 b2 b3 th mk sz F mv kp li))) (va_Qv (fun u => Bd u d (bhB bd sd ps f t k) (1 - sd) (bhR bd sd rt f t) (bhP bd sd ps f t k) ∧ Ag F u d) (fun (u : Nat → Int32) t => IW D cI cJ A (rW cI hm b0 b1 b2 b3 th mk sz u mv kp li) t) A) 0 0 A := by
  refine entM (by decide) (Nat.le_of_ble_eq_true rfl) ?_
  intro p e s m below meth c ls S0 hr hlocks hG hnm hB hl
  have hx := S0.1
  have hb := S0.2.1
  have hown := S0.2.2.2.1
  have hl : lv_has ls 16 [(0, .ref hm), (1, .int (nI b)), (2, .int (nI d)), (3, .int (nI (f + 64 * t + 4096 * k)))] := hl
  obtain ⟨hP, hD, hK, hA, hE⟩ := hB
  have hS : va_S A s.heap s.heap [] := va_S.rf
  obtain ⟨hBp, hsd, hs2, hrt, hr16, hps, hp65⟩ := id hBd
  obtain ⟨hfv, hfb⟩ := hBp f hf
  have hkf := kd_lt hfb
  have hap1 : ap (f % 8) (t % 8) < 8 := ap_lt (by omega) (by omega)
  have hap2 : ap (f / 8) (t / 8) < 8 := ap_lt (by omega) (by omega)
  refine lv_iload_n hx hb dX5_behind_0 rfl (lv_at hl 3 rfl) ?_
  refine lv_bipush (v := (nI 64)) hx hb dX5_behind_1 (by decide) ?_
  refine ln_irem hx hb dX5_behind_3 (by omega) (by decide) (by decide) ?_
  refine W.top (y := .int (nI f)) (congrArg Value.int (congrArg nI (by omega))) ?_
  refine lv_istore (lv' := [(4, .int (nI f)), (0, .ref hm), (1, .int (nI b)), (2, .int (nI d)), (3, .int (nI (f + 64 * t + 4096 * k)))]) hx hb dX5_behind_4 hl (by decide) rfl (fun ls hl => ?_)
  refine lv_iload_n hx hb dX5_behind_6 rfl (lv_at hl 4 rfl) ?_
  refine lv_bipush (v := (nI 64)) hx hb dX5_behind_7 (by decide) ?_
  refine ln_idiv hx hb dX5_behind_9 (by omega) (by decide) (by decide) ?_
  refine lv_bipush (v := (nI 64)) hx hb dX5_behind_10 (by decide) ?_
  refine ln_irem hx hb dX5_behind_12 (by omega) (by decide) (by decide) ?_
  refine W.top (y := .int (nI t)) (congrArg Value.int (congrArg nI (by omega))) ?_
  refine lv_istore (lv' := [(5, .int (nI t)), (4, .int (nI f)), (0, .ref hm), (1, .int (nI b)), (2, .int (nI d)), (3, .int (nI (f + 64 * t + 4096 * k)))]) hx hb dX5_behind_13 hl (by decide) rfl (fun ls hl => ?_)
  refine lv_iload_n hx hb dX5_behind_15 rfl (lv_at hl 5 rfl) ?_
  refine lv_sipush (v := (nI 4096)) hx hb dX5_behind_16 (by decide) ?_
  refine ln_idiv hx hb dX5_behind_19 (by omega) (by decide) (by decide) ?_
  refine W.top (y := .int (nI k)) (congrArg Value.int (congrArg nI (by omega))) ?_
  refine lv_istore (lv' := [(6, .int (nI k)), (5, .int (nI t)), (4, .int (nI f)), (0, .ref hm), (1, .int (nI b)), (2, .int (nI d)), (3, .int (nI (f + 64 * t + 4096 * k)))]) hx hb dX5_behind_20 hl (by decide) rfl (fun ls hl => ?_)
  refine lv_aload_n hx hb dX5_behind_22 rfl (lv_at hl 3 rfl) ?_
  refine va_get (D := D) (ci := 4) (v := .ref b0) (C := RX5) (T := TX5) (N := 7) hx hb hG wu_X5 hown hK hP 0 rfl rfl 1 (by decide) (hG _ wf_X5_7) (fun _ h9 => h9) rfl dX5_behind_23 ?_
  refine lv_iload_n hx hb dX5_behind_26 rfl (lv_at hl 4 rfl) ?_
  refine lv_bipush (v := (nI 64)) hx hb dX5_behind_27 (by decide) ?_
  refine ln_iadd hx hb dX5_behind_29 ?_
  refine va_iald hx hb hK hP 1 0 rfl rfl (vp_in_nI (by omega) (by decide)) dX5_behind_30 ?_
  refine W.top (y := .int (F (b + 64))) (congrArg (fun z => Value.int (F z)) (nI_clamp (by omega))) ?_
  refine W.top (y := .int (nI sd)) (congrArg Value.int hsd) ?_
  refine lv_istore (lv' := [(7, .int (nI sd)), (6, .int (nI k)), (5, .int (nI t)), (4, .int (nI f)), (0, .ref hm), (1, .int (nI b)), (2, .int (nI d)), (3, .int (nI (f + 64 * t + 4096 * k)))]) hx hb dX5_behind_31 hl (by decide) rfl (fun ls hl => ?_)
  refine lv_aload_n hx hb dX5_behind_33 rfl (lv_at hl 4 rfl) ?_
  refine va_get (D := D) (ci := 4) (v := .ref b0) (C := RX5) (T := TX5) (N := 7) hx hb hG wu_X5 hown hK hP 0 rfl rfl 1 (by decide) (hG _ wf_X5_7) (fun _ h9 => h9) rfl dX5_behind_34 ?_
  refine lv_iload_n hx hb dX5_behind_37 rfl (lv_at hl 5 rfl) ?_
  refine lv_iload hx hb dX5_behind_38 (lv_at hl 3 rfl) ?_
  refine ln_iadd hx hb dX5_behind_40 ?_
  refine va_iald hx hb hK hP 1 0 rfl rfl (vp_in_nI (by omega) (by decide)) dX5_behind_41 ?_
  refine W.top (y := .int (F (b + f))) (congrArg (fun z => Value.int (F z)) (nI_clamp (by omega))) ?_
  refine W.top (y := .int (nI (bd f))) (congrArg Value.int hfv) ?_
  refine lv_istore (lv' := [(8, .int (nI (bd f))), (7, .int (nI sd)), (6, .int (nI k)), (5, .int (nI t)), (4, .int (nI f)), (0, .ref hm), (1, .int (nI b)), (2, .int (nI d)), (3, .int (nI (f + 64 * t + 4096 * k)))]) hx hb dX5_behind_42 hl (by decide) rfl (fun ls hl => ?_)
  refine lv_iload hx hb dX5_behind_44 (lv_at hl 0 rfl) ?_
  refine roI (rnS (As := [.int (nI (bd f))]) (rest := []) S0 (c_X5_kindOf l (bd f) (by omega)) wm_X5_40 wt_X5_kindOf wn_X5 wc_X5_kindOf hd_X5_kindOf ⟨rfl, rfl, by decide, by decide⟩ True.blind (fun _ _ _ => trivial) hl.1 (Nat.le_of_ble_eq_true rfl) dX5_behind_46 rfl ⟨by decide, by decide⟩) (fun r_1 hr_1 => ?_)
  subst hr_1
  refine lv_bipush (v := (nI 6)) hx hb dX5_behind_49 (by decide) ?_
  refine jnG 76 16 [(8, .int (nI (bd f))), (7, .int (nI sd)), (6, .int (nI k)), (5, .int (nI t)), (4, .int (nI f)), (0, .ref hm), (1, .int (nI b)), (2, .int (nI d)), (3, .int (nI (f + 64 * t + 4096 * k)))] [.int (bI (ctl bd f t))] ?_ (fun hj_76 => ?_)
  · intro ls hl
    refine lv_istore (lv' := [(9, .int (bI (ctl bd f t))), (8, .int (nI (bd f))), (7, .int (nI sd)), (6, .int (nI k)), (5, .int (nI t)), (4, .int (nI f)), (0, .ref hm), (1, .int (nI b)), (2, .int (nI d)), (3, .int (nI (f + 64 * t + 4096 * k)))]) hx hb dX5_behind_76 hl (by decide) rfl (fun ls hl => ?_)
    refine lv_iload hx hb dX5_behind_78 (lv_at hl 1 rfl) ?_
    refine roI (rnS (As := [.int (nI (bd f))]) (rest := []) S0 (c_X5_kindOf l (bd f) (by omega)) wm_X5_40 wt_X5_kindOf wn_X5 wc_X5_kindOf hd_X5_kindOf ⟨rfl, rfl, by decide, by decide⟩ True.blind (fun _ _ _ => trivial) hl.1 (Nat.le_of_ble_eq_true rfl) dX5_behind_80 rfl ⟨by decide, by decide⟩) (fun r_2 hr_2 => ?_)
    subst hr_2
    refine lv_iconst (v := (nI 1)) hx hb dX5_behind_83 (by decide) ?_
    refine jnG 104 16 [(9, .int (bI (ctl bd f t))), (8, .int (nI (bd f))), (7, .int (nI sd)), (6, .int (nI k)), (5, .int (nI t)), (4, .int (nI f)), (0, .ref hm), (1, .int (nI b)), (2, .int (nI d)), (3, .int (nI (f + 64 * t + 4096 * k)))] [.int (bI (inp bd sd ps f t))] ?_ (fun hj_104 => ?_)
    · intro ls hl
      refine lv_istore (lv' := [(10, .int (bI (inp bd sd ps f t))), (9, .int (bI (ctl bd f t))), (8, .int (nI (bd f))), (7, .int (nI sd)), (6, .int (nI k)), (5, .int (nI t)), (4, .int (nI f)), (0, .ref hm), (1, .int (nI b)), (2, .int (nI d)), (3, .int (nI (f + 64 * t + 4096 * k)))]) hx hb dX5_behind_104 hl (by decide) rfl (fun ls hl => ?_)
      refine lv_iconst (v := (nI 0)) hx hb dX5_behind_106 (by decide) ?_
      refine lv_istore (lv' := [(11, .int (nI 0)), (10, .int (bI (inp bd sd ps f t))), (9, .int (bI (ctl bd f t))), (8, .int (nI (bd f))), (7, .int (nI sd)), (6, .int (nI k)), (5, .int (nI t)), (4, .int (nI f)), (0, .ref hm), (1, .int (nI b)), (2, .int (nI d)), (3, .int (nI (f + 64 * t + 4096 * k)))]) hx hb dX5_behind_107 hl (by decide) rfl (fun ls hl => ?_)
      refine lpW (σ := (Nat) × (Nat → Int32)) 109 16 [] (fun x9 => [(0, .ref hm), (1, .int (nI b)), (2, .int (nI d)), (4, .int (nI f)), (5, .int (nI t)), (6, .int (nI k)), (7, .int (nI sd)), (8, .int (nI (bd f))), (9, .int (bI (ctl bd f t))), (10, .int (bI (inp bd sd ps f t))), (11, .int (nI x9.1))]) (fun x9 => rW cI hm b0 b1 b2 b3 th mk sz x9.2 mv kp li) (fun x9 => x9.1 ≤ 67 ∧ (∀ j, j < x9.1 → x9.2 (d + j) = F (b + j)) ∧ Ag F x9.2 d) (fun x9 => 67 - x9.1) (0, F) ⟨Nat.zero_le _, fun _ h => absurd h (Nat.not_lt_zero _), Ag.rf⟩ (lv_sub hl [8, 9, 10, 7, 6, 5, 4, 3, 2, 1, 0] rfl) hP hD hS ?_
      clear hP hD hS hl ls
      rintro ⟨i, G⟩ H locs hI hP hD hS ih ls hl
      try dsimp only at hI ih hl hP hD
      obtain ⟨hi, hcp, hAg⟩ := hI
      refine lv_iload hx hb dX5_behind_109 (lv_at hl 10 rfl) ?_
      refine lv_bipush (v := (nI 67)) hx hb dX5_behind_111 (by decide) ?_
      refine ln_icmp_ge (tgt := 140) hx hb dX5_behind_113 (by decide) (by omega) (by decide) (fun c113 => ?_) (fun c113 => ?_)
      · skip
        have hBc : Bp G d bd := fun q hq => by rw [hcp q (by omega)]; exact hBp q hq
        refine lv_iload hx hb dX5_behind_140 (lv_at hl 6 rfl) ?_
        refine jnG 158 16 [(0, .ref hm), (1, .int (nI b)), (2, .int (nI d)), (4, .int (nI f)), (5, .int (nI t)), (6, .int (nI k)), (7, .int (nI sd)), (8, .int (nI (bd f))), (9, .int (bI (ctl bd f t))), (10, .int (bI (inp bd sd ps f t))), (11, .int (nI i))] [.int (bkI sd t)] ?_ (fun hj_158 => ?_)
        · intro ls hl
          refine lv_istore (lv' := [(11, .int (bkI sd t)), (0, .ref hm), (1, .int (nI b)), (2, .int (nI d)), (4, .int (nI f)), (5, .int (nI t)), (6, .int (nI k)), (7, .int (nI sd)), (8, .int (nI (bd f))), (9, .int (bI (ctl bd f t))), (10, .int (bI (inp bd sd ps f t)))]) hx hb dX5_behind_158 hl (by decide) rfl (fun ls hl => ?_)
          refine lv_iload hx hb dX5_behind_160 (lv_at hl 10 rfl) ?_
          refine jnW (σ := (Nat → Int32)) (D := D) (A := A) (H0 := s.heap) 175 16 (fun x9 => [(11, .int (bkI sd t)), (0, .ref hm), (1, .int (nI b)), (2, .int (nI d)), (4, .int (nI f)), (5, .int (nI t)), (6, .int (nI k)), (7, .int (nI sd)), (8, .int (nI (bd f))), (9, .int (bI (ctl bd f t))), (10, .int (bI (inp bd sd ps f t)))]) [] (fun x9 => rW cI hm b0 b1 b2 b3 th mk sz x9 mv kp li) (fun x9 => Bp x9 d (bh1 bd sd ps f t) ∧ Ag F x9 d) ?_ (fun hj_175 => ?_)
          · clear hP hD hS hl ls
            rintro G1 H locs hI hP hD hS ls hl
            try dsimp only at hI hP hD hl
            obtain ⟨hB1, hAg1⟩ := hI
            refine lv_aload_n hx hb dX5_behind_175 rfl (lv_at hl 1 rfl) ?_
            refine va_get (D := D) (ci := 4) (v := .ref b0) (C := RX5) (T := TX5) (N := 7) hx hb hG wu_X5 hown hK hP 0 rfl rfl 1 (by decide) (hG _ wf_X5_7) (fun _ h9 => h9) rfl dX5_behind_176 ?_
            refine lv_iload_n hx hb dX5_behind_179 rfl (lv_at hl 3 rfl) ?_
            refine lv_iload hx hb dX5_behind_180 (lv_at hl 4 rfl) ?_
            refine ln_iadd hx hb dX5_behind_182 ?_
            refine lv_iconst (v := (nI 0)) hx hb dX5_behind_183 (by decide) ?_
            refine va_iast hx hb hK hP hD hS 1 0 rfl rfl (vp_in_nI (by omega) (by decide)) dX5_behind_184 (fun H locs hP hD hS => ?_)
            rw [nI_clamp (show (d + f) < 2 ^ 31 by omega)] at hP hD
            have hP : va_P D classes (rW cI hm b0 b1 b2 b3 th mk sz (upd G1 (d + f) (nI 0)) mv kp li) H := hP
            have hD : va_D A (rW cI hm b0 b1 b2 b3 th mk sz (upd G1 (d + f) (nI 0)) mv kp li) := hD
            refine lv_aload_n hx hb dX5_behind_185 rfl (lv_at hl 1 rfl) ?_
            refine va_get (D := D) (ci := 4) (v := .ref b0) (C := RX5) (T := TX5) (N := 7) hx hb hG wu_X5 hown hK hP 0 rfl rfl 1 (by decide) (hG _ wf_X5_7) (fun _ h9 => h9) rfl dX5_behind_186 ?_
            refine lv_iload_n hx hb dX5_behind_189 rfl (lv_at hl 3 rfl) ?_
            refine lv_iload hx hb dX5_behind_190 (lv_at hl 5 rfl) ?_
            refine ln_iadd hx hb dX5_behind_192 ?_
            refine lv_iload hx hb dX5_behind_193 (lv_at hl 6 rfl) ?_
            refine jnG 211 16 [(11, .int (bkI sd t)), (0, .ref hm), (1, .int (nI b)), (2, .int (nI d)), (4, .int (nI f)), (5, .int (nI t)), (6, .int (nI k)), (7, .int (nI sd)), (8, .int (nI (bd f))), (9, .int (bI (ctl bd f t))), (10, .int (bI (inp bd sd ps f t)))] [.int (nI (if k = 0 then bd f else k + 6 * sd)), .int (nI (d + t)), .ref b0] ?_ (fun hj_211 => ?_)
            · intro ls hl
              have hnv : (if k = 0 then bd f else k + 6 * sd) < 13 := by split <;> omega
              refine va_iast hx hb hK hP hD hS 1 0 rfl rfl (vp_in_nI (by omega) (by decide)) dX5_behind_211 (fun H locs hP hD hS => ?_)
              rw [nI_clamp (show (d + t) < 2 ^ 31 by omega)] at hP hD
              have hP : va_P D classes (rW cI hm b0 b1 b2 b3 th mk sz (upd (upd G1 (d + f) (nI 0)) (d + t) (nI (if k = 0 then bd f else k + 6 * sd))) mv kp li) H := hP
              have hD : va_D A (rW cI hm b0 b1 b2 b3 th mk sz (upd (upd G1 (d + f) (nI 0)) (d + t) (nI (if k = 0 then bd f else k + 6 * sd))) mv kp li) := hD
              have hB2 : Bp _ d (bh2 bd sd ps f t k) := Bp_in (Bp_in hB1 hf (show 0 < 13 by decide)) ht hnv
              have hAg2 := (hAg1.up (k := d + f) (x := nI 0) (by omega) (by omega)).up (k := d + t) (x := nI (if k = 0 then bd f else k + 6 * sd)) (by omega) (by omega)
              refine lv_iload hx hb dX5_behind_212 (lv_at hl 9 rfl) ?_
              refine jnW (σ := (Nat → Int32)) (D := D) (A := A) (H0 := s.heap) 268 16 (fun x9 => [(11, .int (bkI sd t)), (0, .ref hm), (1, .int (nI b)), (2, .int (nI d)), (4, .int (nI f)), (5, .int (nI t)), (6, .int (nI k)), (7, .int (nI sd)), (8, .int (nI (bd f))), (9, .int (bI (ctl bd f t))), (10, .int (bI (inp bd sd ps f t)))]) [] (fun x9 => rW cI hm b0 b1 b2 b3 th mk sz x9 mv kp li) (fun x9 => Bp x9 d (bhB bd sd ps f t k) ∧ Ag F x9 d) ?_ (fun hj_268 => ?_)
              · clear hP hD hS hl ls
                rintro G3 H locs hI hP hD hS ls hl
                try dsimp only at hI hP hD hl
                obtain ⟨hB3, hAg3⟩ := hI
                have hBb := hAg3.Bd hbd hBd
                obtain ⟨-, -, -, hrt3, -, -, -⟩ := id hBb
                refine lv_iload hx hb dX5_behind_268 (lv_at hl 8 rfl) ?_
                refine roI (rnS (As := [.int (nI (bd f))]) (rest := []) S0 (c_X5_kindOf l (bd f) (by omega)) wm_X5_40 wt_X5_kindOf wn_X5 wc_X5_kindOf hd_X5_kindOf ⟨rfl, rfl, by decide, by decide⟩ True.blind (fun _ _ _ => trivial) hl.1 (Nat.le_of_ble_eq_true rfl) dX5_behind_270 rfl ⟨by decide, by decide⟩) (fun r_3 hr_3 => ?_)
                subst hr_3
                refine lv_bipush (v := (nI 6)) hx hb dX5_behind_273 (by decide) ?_
                refine jnG 308 16 [(11, .int (bkI sd t)), (0, .ref hm), (1, .int (nI b)), (2, .int (nI d)), (4, .int (nI f)), (5, .int (nI t)), (6, .int (nI k)), (7, .int (nI sd)), (8, .int (nI (bd f))), (9, .int (bI (ctl bd f t))), (10, .int (bI (inp bd sd ps f t)))] [.int (nI (bhK bd sd rt f))] ?_ (fun hj_308 => ?_)
                · intro ls hl
                  refine lv_istore (lv' := [(12, .int (nI (bhK bd sd rt f))), (11, .int (bkI sd t)), (0, .ref hm), (1, .int (nI b)), (2, .int (nI d)), (4, .int (nI f)), (5, .int (nI t)), (6, .int (nI k)), (7, .int (nI sd)), (8, .int (nI (bd f))), (9, .int (bI (ctl bd f t))), (10, .int (bI (inp bd sd ps f t)))]) hx hb dX5_behind_308 hl (by decide) rfl (fun ls hl => ?_)
                  refine lv_aload_n hx hb dX5_behind_310 rfl (lv_at hl 2 rfl) ?_
                  refine va_get (D := D) (ci := 4) (v := .ref b0) (C := RX5) (T := TX5) (N := 7) hx hb hG wu_X5 hown hK hP 0 rfl rfl 1 (by decide) (hG _ wf_X5_7) (fun _ h9 => h9) rfl dX5_behind_311 ?_
                  refine lv_iload_n hx hb dX5_behind_314 rfl (lv_at hl 4 rfl) ?_
                  refine lv_bipush (v := (nI 65)) hx hb dX5_behind_315 (by decide) ?_
                  refine ln_iadd hx hb dX5_behind_317 ?_
                  refine lv_iload hx hb dX5_behind_318 (lv_at hl 0 rfl) ?_
                  refine lv_iload hx hb dX5_behind_320 (lv_at hl 5 rfl) ?_
                  refine roI (rnS (As := [.int (nI f)]) (rest := [.int (nI (bhK bd sd rt f)), .int (nI (d + 65)), .ref b0]) S0 (c_X5_corner l f (by omega)) wm_X5_80 wt_X5_corner wn_X5 wc_X5_corner hd_X5_corner ⟨rfl, rfl, by decide, by decide⟩ True.blind (fun _ _ _ => trivial) hl.1 (Nat.le_of_ble_eq_true rfl) dX5_behind_322 rfl ⟨by decide, by decide⟩) (fun r_4 hr_4 => ?_)
                  subst hr_4
                  refine lv_iconst (v := (-1)) hx hb dX5_behind_325 (by decide) ?_
                  refine lv_ixor hx hb dX5_behind_326 ?_
                  refine lv_iand hx hb dX5_behind_327 ?_
                  refine W.top (y := .int (nI (bhK bd sd rt f &&& (15 - crn f)))) (congrArg Value.int (andn (bhK_lt hr16) (crn_lt f))) ?_
                  refine lv_iload hx hb dX5_behind_328 (lv_at hl 6 rfl) ?_
                  refine roI (rnS (As := [.int (nI t)]) (rest := [.int (nI (bhK bd sd rt f &&& (15 - crn f))), .int (nI (d + 65)), .ref b0]) S0 (c_X5_corner l t (by omega)) wm_X5_80 wt_X5_corner wn_X5 wc_X5_corner hd_X5_corner ⟨rfl, rfl, by decide, by decide⟩ True.blind (fun _ _ _ => trivial) hl.1 (Nat.le_of_ble_eq_true rfl) dX5_behind_330 rfl ⟨by decide, by decide⟩) (fun r_5 hr_5 => ?_)
                  subst hr_5
                  refine lv_iconst (v := (-1)) hx hb dX5_behind_333 (by decide) ?_
                  refine lv_ixor hx hb dX5_behind_334 ?_
                  refine lv_iand hx hb dX5_behind_335 ?_
                  refine W.top (y := .int (nI (bhR bd sd rt f t))) (congrArg Value.int (andn (and16 (bhK_lt hr16)) (crn_lt t))) ?_
                  refine va_iast hx hb hK hP hD hS 1 0 rfl rfl (vp_in_nI (by omega) (by decide)) dX5_behind_336 (fun H locs hP hD hS => ?_)
                  rw [nI_clamp (show (d + 65) < 2 ^ 31 by omega)] at hP hD
                  have hP : va_P D classes (rW cI hm b0 b1 b2 b3 th mk sz (upd G3 (d + 65) (nI (bhR bd sd rt f t))) mv kp li) H := hP
                  have hD : va_D A (rW cI hm b0 b1 b2 b3 th mk sz (upd G3 (d + 65) (nI (bhR bd sd rt f t))) mv kp li) := hD
                  refine lv_aload_n hx hb dX5_behind_337 rfl (lv_at hl 2 rfl) ?_
                  refine va_get (D := D) (ci := 4) (v := .ref b0) (C := RX5) (T := TX5) (N := 7) hx hb hG wu_X5 hown hK hP 0 rfl rfl 1 (by decide) (hG _ wf_X5_7) (fun _ h9 => h9) rfl dX5_behind_338 ?_
                  refine lv_iload_n hx hb dX5_behind_341 rfl (lv_at hl 4 rfl) ?_
                  refine lv_bipush (v := (nI 66)) hx hb dX5_behind_342 (by decide) ?_
                  refine ln_iadd hx hb dX5_behind_344 ?_
                  refine lv_iconst (v := (-1)) hx hb dX5_behind_345 (by decide) ?_
                  refine va_iast hx hb hK hP hD hS 1 0 rfl rfl (vp_in_nI (by omega) (by decide)) dX5_behind_346 (fun H locs hP hD hS => ?_)
                  rw [nI_clamp (show (d + 66) < 2 ^ 31 by omega)] at hP hD
                  have hP : va_P D classes (rW cI hm b0 b1 b2 b3 th mk sz (upd (upd G3 (d + 65) (nI (bhR bd sd rt f t))) (d + 66) (-1)) mv kp li) H := hP
                  have hD : va_D A (rW cI hm b0 b1 b2 b3 th mk sz (upd (upd G3 (d + 65) (nI (bhR bd sd rt f t))) (d + 66) (-1)) mv kp li) := hD
                  have hB4 : Bp _ d (bhB bd sd ps f t k) := Bp_out (Bp_out hB3 (k := d + 65) (x := nI (bhR bd sd rt f t)) (by omega)) (k := d + 66) (x := (-1)) (by omega)
                  have hAg4 := (hAg3.up (k := d + 65) (x := nI (bhR bd sd rt f t)) (by omega) (by omega)).up (k := d + 66) (x := (-1)) (by omega) (by omega)
                  have h65 : upd (upd G3 (d + 65) (nI (bhR bd sd rt f t))) (d + 66) (-1) (d + 65) = nI (bhR bd sd rt f t) := by rw [pk_un (by omega), pk_us]
                  have h66 : upd (upd G3 (d + 65) (nI (bhR bd sd rt f t))) (d + 66) (-1) (d + 66) = pI 64 := pk_us
                  refine lv_iload hx hb dX5_behind_347 (lv_at hl 9 rfl) ?_
                  refine roI (rnS (As := [.int (nI (bd f))]) (rest := []) S0 (c_X5_kindOf l (bd f) (by omega)) wm_X5_40 wt_X5_kindOf wn_X5 wc_X5_kindOf hd_X5_kindOf ⟨rfl, rfl, by decide, by decide⟩ True.blind (fun _ _ _ => trivial) hl.1 (Nat.le_of_ble_eq_true rfl) dX5_behind_349 rfl ⟨by decide, by decide⟩) (fun r_6 hr_6 => ?_)
                  subst hr_6
                  refine lv_iconst (v := (nI 1)) hx hb dX5_behind_352 (by decide) ?_
                  refine jnW (σ := (Nat → Int32)) (D := D) (A := A) (H0 := s.heap) 465 16 (fun x9 => [(0, .ref hm), (2, .int (nI d)), (7, .int (nI sd))]) [] (fun x9 => rW cI hm b0 b1 b2 b3 th mk sz x9 mv kp li) (fun x9 => Bp x9 d (bhB bd sd ps f t k) ∧ x9 (d + 65) = nI (bhR bd sd rt f t) ∧ x9 (d + 66) = pI (bhP bd sd ps f t k) ∧ Ag F x9 d) ?_ (fun hj_465 => ?_)
                  · clear hP hD hS hl ls
                    rintro G6 H locs hI hP hD hS ls hl
                    try dsimp only at hI hP hD hl
                    obtain ⟨hB6, h65, h66, hAg6⟩ := hI
                    refine lv_aload_n hx hb dX5_behind_465 rfl (lv_at hl 0 rfl) ?_
                    refine va_get (D := D) (ci := 4) (v := .ref b0) (C := RX5) (T := TX5) (N := 7) hx hb hG wu_X5 hown hK hP 0 rfl rfl 1 (by decide) (hG _ wf_X5_7) (fun _ h9 => h9) rfl dX5_behind_466 ?_
                    refine lv_iload_n hx hb dX5_behind_469 rfl (lv_at hl 1 rfl) ?_
                    refine lv_bipush (v := (nI 64)) hx hb dX5_behind_470 (by decide) ?_
                    refine ln_iadd hx hb dX5_behind_472 ?_
                    refine lv_iconst (v := (nI 1)) hx hb dX5_behind_473 (by decide) ?_
                    refine lv_iload hx hb dX5_behind_474 (lv_at hl 2 rfl) ?_
                    refine ln_isub hx hb dX5_behind_476 (by omega) ?_
                    refine va_iast hx hb hK hP hD hS 1 0 rfl rfl (vp_in_nI (by omega) (by decide)) dX5_behind_477 (fun H locs hP hD hS => ?_)
                    rw [nI_clamp (show (d + 64) < 2 ^ 31 by omega)] at hP hD
                    have hP : va_P D classes (rW cI hm b0 b1 b2 b3 th mk sz (upd G6 (d + 64) (nI (1 - sd))) mv kp li) H := hP
                    have hD : va_D A (rW cI hm b0 b1 b2 b3 th mk sz (upd G6 (d + 64) (nI (1 - sd))) mv kp li) := hD
                    exact weV (upd G6 (d + 64) (nI (1 - sd))) hx hb hr hlocks dX5_behind_478 ⟨⟨Bp_out hB6 (by omega), pk_us, by omega, by rw [pk_un (by omega)]; exact h65, bhR_lt hr16, by rw [pk_un (by omega)]; exact h66, by unfold bhP; (repeat' split) <;> omega⟩, hAg6.up (by omega) (by omega)⟩ hP hD hK hA hE hS
                  · skip
                    refine ln_icmp_ne (tgt := 465) hx hb dX5_behind_353 (by decide) (by omega) (by decide) (fun c353 => ?_) (fun c353 => ?_)
                    · skip
                      exact hj_465 (upd (upd G3 (d + 65) (nI (bhR bd sd rt f t))) (d + 66) (-1)) H locs (by unfold bhP; first | (rw [if_neg (fun z => c353 z.1)]; exact ⟨hB4, h65, h66, hAg4⟩) | (rw [if_neg (fun z => c370 z.2)]; exact ⟨hB4, h65, h66, hAg4⟩) | (rw [if_pos ⟨c353, c370⟩]; exact ⟨hB5, h65, h66, hAg5⟩)) hP hD hS ls (lv_sub hl [2, 4, 8] rfl)
                    · skip
                      refine lv_iload hx hb dX5_behind_356 (lv_at hl 5 rfl) ?_
                      refine lv_bipush (v := (nI 8)) hx hb dX5_behind_358 (by decide) ?_
                      refine ln_idiv hx hb dX5_behind_360 (by omega) (by decide) (by decide) ?_
                      refine lv_iload hx hb dX5_behind_361 (lv_at hl 6 rfl) ?_
                      refine lv_bipush (v := (nI 8)) hx hb dX5_behind_363 (by decide) ?_
                      refine ln_idiv hx hb dX5_behind_365 (by omega) (by decide) (by decide) ?_
                      refine roI (rnS (As := [.int (nI (f / 8)), .int (nI (t / 8))]) (rest := []) S0 (c_X5_apart l (f / 8) (t / 8) (by omega) (by omega)) wm_X5_43 wt_X5_apart wn_X5 wc_X5_apart hd_X5_apart ⟨rfl, rfl, by decide, by decide⟩ True.blind (fun _ _ _ => trivial) hl.1 (Nat.le_of_ble_eq_true rfl) dX5_behind_366 rfl ⟨by decide, by decide⟩) (fun r_7 hr_7 => ?_)
                      subst hr_7
                      refine lv_iconst (v := (nI 2)) hx hb dX5_behind_369 (by decide) ?_
                      refine ln_icmp_ne (tgt := 465) hx hb dX5_behind_370 (by decide) (by omega) (by decide) (fun c370 => ?_) (fun c370 => ?_)
                      · skip
                        exact hj_465 (upd (upd G3 (d + 65) (nI (bhR bd sd rt f t))) (d + 66) (-1)) H locs (by unfold bhP; first | (rw [if_neg (fun z => c353 z.1)]; exact ⟨hB4, h65, h66, hAg4⟩) | (rw [if_neg (fun z => c370 z.2)]; exact ⟨hB4, h65, h66, hAg4⟩) | (rw [if_pos ⟨c353, c370⟩]; exact ⟨hB5, h65, h66, hAg5⟩)) hP hD hS ls (lv_sub hl [2, 4, 8] rfl)
                      · skip
                        refine lv_iload hx hb dX5_behind_373 (lv_at hl 5 rfl) ?_
                        refine lv_iload hx hb dX5_behind_375 (lv_at hl 6 rfl) ?_
                        refine ln_iadd hx hb dX5_behind_377 ?_
                        refine lv_iconst (v := (nI 2)) hx hb dX5_behind_378 (by decide) ?_
                        refine ln_idiv hx hb dX5_behind_379 (by omega) (by decide) (by decide) ?_
                        refine lv_istore (lv' := [(13, .int (nI ((f + t) / 2))), (12, .int (nI (bhK bd sd rt f))), (11, .int (bkI sd t)), (0, .ref hm), (1, .int (nI b)), (2, .int (nI d)), (4, .int (nI f)), (5, .int (nI t)), (6, .int (nI k)), (7, .int (nI sd)), (8, .int (nI (bd f))), (9, .int (bI (ctl bd f t))), (10, .int (bI (inp bd sd ps f t)))]) hx hb dX5_behind_380 hl (by decide) rfl (fun ls hl => ?_)
                        refine lv_iconst (v := (nI 0)) hx hb dX5_behind_382 (by decide) ?_
                        refine lv_istore (lv' := [(14, .int (nI 0)), (13, .int (nI ((f + t) / 2))), (12, .int (nI (bhK bd sd rt f))), (11, .int (bkI sd t)), (0, .ref hm), (1, .int (nI b)), (2, .int (nI d)), (4, .int (nI f)), (5, .int (nI t)), (6, .int (nI k)), (7, .int (nI sd)), (8, .int (nI (bd f))), (9, .int (bI (ctl bd f t))), (10, .int (bI (inp bd sd ps f t)))]) hx hb dX5_behind_383 hl (by decide) rfl (fun ls hl => ?_)
                        refine lpW (σ := (Nat) × (Nat → Int32)) 385 16 [] (fun x9 => [(0, .ref hm), (2, .int (nI d)), (7, .int (nI sd)), (13, .int (nI ((f + t) / 2))), (14, .int (nI x9.1))]) (fun x9 => rW cI hm b0 b1 b2 b3 th mk sz x9.2 mv kp li) (fun x9 => x9.1 ≤ 64 ∧ Bp x9.2 d (bhB bd sd ps f t k) ∧ x9.2 (d + 65) = nI (bhR bd sd rt f t) ∧ x9.2 (d + 66) = pI (if tkN (bhB bd sd ps f t k) sd ((f + t) / 2) x9.1 = true then (f + t) / 2 else 64) ∧ Ag F x9.2 d) (fun x9 => 64 - x9.1) (0, (upd (upd G3 (d + 65) (nI (bhR bd sd rt f t))) (d + 66) (-1))) ⟨Nat.zero_le _, hB4, h65, h66, hAg4⟩ (lv_sub hl [4, 6, 10, 1, 0] rfl) hP hD hS ?_
                        clear hP hD hS hl ls
                        rintro ⟨i, G5⟩ H locs hI hP hD hS ih ls hl
                        try dsimp only at hI ih hl hP hD
                        clear hB4 hAg4 h65 h66
                        obtain ⟨hi, hB5, h65, h66, hAg5⟩ := hI
                        refine lv_iload hx hb dX5_behind_385 (lv_at hl 4 rfl) ?_
                        refine lv_bipush (v := (nI 64)) hx hb dX5_behind_387 (by decide) ?_
                        refine ln_icmp_ge (tgt := 465) hx hb dX5_behind_389 (by decide) (by omega) (by decide) (fun c389 => ?_) (fun c389 => ?_)
                        · skip
                          have hi64 : i = 64 := by omega
                          rw [hi64] at h66
                          exact hj_465 G5 H locs (by unfold bhP; first | (rw [if_neg (fun z => c353 z.1)]; exact ⟨hB4, h65, h66, hAg4⟩) | (rw [if_neg (fun z => c370 z.2)]; exact ⟨hB4, h65, h66, hAg4⟩) | (rw [if_pos ⟨c353, c370⟩]; exact ⟨hB5, h65, h66, hAg5⟩)) hP hD hS ls (lv_sub hl [0, 1, 2] rfl)
                        · skip
                          have hi : i < 64 := by omega
                          obtain ⟨hv9, hk9⟩ := hB5 i hi
                          refine lv_aload_n hx hb dX5_behind_392 rfl (lv_at hl 0 rfl) ?_
                          refine va_get (D := D) (ci := 4) (v := .ref b0) (C := RX5) (T := TX5) (N := 7) hx hb hG wu_X5 hown hK hP 0 rfl rfl 1 (by decide) (hG _ wf_X5_7) (fun _ h9 => h9) rfl dX5_behind_393 ?_
                          refine lv_iload_n hx hb dX5_behind_396 rfl (lv_at hl 1 rfl) ?_
                          refine lv_iload hx hb dX5_behind_397 (lv_at hl 4 rfl) ?_
                          refine ln_iadd hx hb dX5_behind_399 ?_
                          refine va_iald hx hb hK hP 1 0 rfl rfl (vp_in_nI (by omega) (by decide)) dX5_behind_400 ?_
                          refine W.top (y := .int (G5 (d + i))) (congrArg (fun z => Value.int (G5 z)) (nI_clamp (by omega))) ?_
                          refine W.top (y := .int (nI (bhB bd sd ps f t k i))) (congrArg Value.int hv9) ?_
                          refine lv_bipush (v := (nI 7)) hx hb dX5_behind_401 (by decide) ?_
                          refine lv_bipush (v := (nI 6)) hx hb dX5_behind_403 (by decide) ?_
                          refine lv_iload hx hb dX5_behind_405 (lv_at hl 2 rfl) ?_
                          refine ln_imul hx hb dX5_behind_407 ?_
                          refine ln_isub hx hb dX5_behind_408 (by omega) ?_
                          refine jnG 429 16 [(0, .ref hm), (2, .int (nI d)), (7, .int (nI sd)), (13, .int (nI ((f + t) / 2))), (14, .int (nI i))] [.int (bI (decide (bhB bd sd ps f t k i = 7 - 6 * sd) && atk (bhB bd sd ps f t k) i ((f + t) / 2)))] ?_ (fun hj_429 => ?_)
                          · intro ls hl
                            refine lv_istore (lv' := [(15, .int (bI (decide (bhB bd sd ps f t k i = 7 - 6 * sd) && atk (bhB bd sd ps f t k) i ((f + t) / 2)))), (0, .ref hm), (2, .int (nI d)), (7, .int (nI sd)), (13, .int (nI ((f + t) / 2))), (14, .int (nI i))]) hx hb dX5_behind_429 hl (by decide) rfl (fun ls hl => ?_)
                            refine lv_aload_n hx hb dX5_behind_431 rfl (lv_at hl 1 rfl) ?_
                            refine va_get (D := D) (ci := 4) (v := .ref b0) (C := RX5) (T := TX5) (N := 7) hx hb hG wu_X5 hown hK hP 0 rfl rfl 1 (by decide) (hG _ wf_X5_7) (fun _ h9 => h9) rfl dX5_behind_432 ?_
                            refine lv_iload_n hx hb dX5_behind_435 rfl (lv_at hl 2 rfl) ?_
                            refine lv_bipush (v := (nI 66)) hx hb dX5_behind_436 (by decide) ?_
                            refine ln_iadd hx hb dX5_behind_438 ?_
                            refine lv_iload hx hb dX5_behind_439 (lv_at hl 0 rfl) ?_
                            refine jnG 458 16 [(15, .int (bI (decide (bhB bd sd ps f t k i = 7 - 6 * sd) && atk (bhB bd sd ps f t k) i ((f + t) / 2)))), (0, .ref hm), (2, .int (nI d)), (7, .int (nI sd)), (13, .int (nI ((f + t) / 2))), (14, .int (nI i))] [.int (pI (if tkN (bhB bd sd ps f t k) sd ((f + t) / 2) (i + 1) = true then (f + t) / 2 else 64)), .int (nI (d + 66)), .ref b0] ?_ (fun hj_458 => ?_)
                            · intro ls hl
                              refine va_iast hx hb hK hP hD hS 1 0 rfl rfl (vp_in_nI (by omega) (by decide)) dX5_behind_458 (fun H locs hP hD hS => ?_)
                              rw [nI_clamp (show (d + 66) < 2 ^ 31 by omega)] at hP hD
                              have hP : va_P D classes (rW cI hm b0 b1 b2 b3 th mk sz (upd G5 (d + 66) (pI (if tkN (bhB bd sd ps f t k) sd ((f + t) / 2) (i + 1) = true then (f + t) / 2 else 64))) mv kp li) H := hP
                              have hD : va_D A (rW cI hm b0 b1 b2 b3 th mk sz (upd G5 (d + 66) (pI (if tkN (bhB bd sd ps f t k) sd ((f + t) / 2) (i + 1) = true then (f + t) / 2 else 64))) mv kp li) := hD
                              refine lv_iinc (v := (nI (i + 1))) (lv' := [(14, .int (nI (i + 1))), (15, .int (bI (decide (bhB bd sd ps f t k i = 7 - 6 * sd) && atk (bhB bd sd ps f t k) i ((f + t) / 2)))), (0, .ref hm), (2, .int (nI d)), (7, .int (nI sd)), (13, .int (nI ((f + t) / 2)))]) hx hb dX5_behind_459 hl (k := 5) rfl (show nI i + Int32.ofInt 1 = nI (i + 1) from nI_add _ 1) (by decide) rfl (fun ls hl => ?_)
                              refine lv_goto (tgt := 385) hx hb dX5_behind_462 (by decide) ?_
                              exact ih ((i + 1), (upd G5 (d + 66) (pI (if tkN (bhB bd sd ps f t k) sd ((f + t) / 2) (i + 1) = true then (f + t) / 2 else 64)))) H locs ⟨by omega, Bp_out hB5 (by omega), by dsimp only; rw [pk_un (by omega)]; exact h65, pk_us, hAg5.up (by omega) (by omega)⟩ (by (try dsimp only); omega) hP hD hS ls (lv_sub hl [2, 3, 4, 5, 0] rfl)
                            · skip
                              refine lb_if_eq (tgt := 449) hx hb dX5_behind_441 (by decide) (fun c441 => ?_) (fun c441 => ?_)
                              · skip
                                refine lv_aload_n hx hb dX5_behind_449 rfl (lv_at hl 1 rfl) ?_
                                refine va_get (D := D) (ci := 4) (v := .ref b0) (C := RX5) (T := TX5) (N := 7) hx hb hG wu_X5 hown hK hP 0 rfl rfl 1 (by decide) (hG _ wf_X5_7) (fun _ h9 => h9) rfl dX5_behind_450 ?_
                                refine lv_iload_n hx hb dX5_behind_453 rfl (lv_at hl 2 rfl) ?_
                                refine lv_bipush (v := (nI 66)) hx hb dX5_behind_454 (by decide) ?_
                                refine ln_iadd hx hb dX5_behind_456 ?_
                                refine va_iald hx hb hK hP 1 0 rfl rfl (vp_in_nI (by omega) (by decide)) dX5_behind_457 ?_
                                refine W.top (y := .int (G5 (d + 66))) (congrArg (fun z => Value.int (G5 z)) (nI_clamp (by omega))) ?_
                                refine W.top (y := .int (pI (if tkN (bhB bd sd ps f t k) sd ((f + t) / 2) i = true then (f + t) / 2 else 64))) (congrArg Value.int h66) ?_
                                refine W.top (y := .int (pI (if tkN (bhB bd sd ps f t k) sd ((f + t) / 2) (i + 1) = true then (f + t) / 2 else 64))) (congrArg Value.int (by rw [tkN_s, c441]; first | rw [Bool.or_false] | (rw [Bool.or_true, if_pos rfl, pI_lt (by omega)]))) ?_
                                exact hj_458 ls (lv_sub hl [0, 1, 2, 3, 4, 5] rfl)
                              · skip
                                refine lv_iload hx hb dX5_behind_444 (lv_at hl 4 rfl) ?_
                                refine lv_goto (tgt := 458) hx hb dX5_behind_446 (by decide) ?_
                                refine W.top (y := .int (pI (if tkN (bhB bd sd ps f t k) sd ((f + t) / 2) (i + 1) = true then (f + t) / 2 else 64))) (congrArg Value.int (by rw [tkN_s, c441]; first | rw [Bool.or_false] | (rw [Bool.or_true, if_pos rfl, pI_lt (by omega)]))) ?_
                                exact hj_458 ls (lv_sub hl [0, 1, 2, 3, 4, 5] rfl)
                          · skip
                            refine ln_icmp_ne (tgt := 428) hx hb dX5_behind_409 (by decide) (by omega) (by omega) (fun c409 => ?_) (fun c409 => ?_)
                            · skip
                              refine lv_iconst (v := (nI 0)) hx hb dX5_behind_428 (by decide) ?_
                              refine W.top (y := .int (bI (decide (bhB bd sd ps f t k i = 7 - 6 * sd) && atk (bhB bd sd ps f t k) i ((f + t) / 2)))) (congrArg Value.int (by first | (rw [decide_eq_true c409, c421]; rfl) | (rw [decide_eq_false c409]; rfl))) ?_
                              exact hj_429 ls (lv_sub hl [0, 1, 2, 3, 4] rfl)
                            · skip
                              refine lv_aload_n hx hb dX5_behind_412 rfl (lv_at hl 0 rfl) ?_
                              refine lv_iload_n hx hb dX5_behind_413 rfl (lv_at hl 1 rfl) ?_
                              refine lv_iload hx hb dX5_behind_414 (lv_at hl 4 rfl) ?_
                              refine lv_iload hx hb dX5_behind_416 (lv_at hl 3 rfl) ?_
                              refine roI (rnV (As := [.int (nI d), .int (nI i), .int (nI ((f + t) / 2))]) (rest := []) S0 (c_X5_attacks l (bhB bd sd ps f t k) d i ((f + t) / 2) hd9 hi (by omega) hB5) wm_X5_54 wi_X5_attacks ws_X5_attacks wn_X5 wc_X5_attacks hd_X5_attacks ⟨rfl, rfl, by decide, by decide⟩ IW.blind (va_recv hK hP (ci := 4) (q0 := 0) rfl rfl) (IW.at hP hD hK hA hE hS) hl.1 (Nat.le_of_ble_eq_true rfl) dX5_behind_418 rfl ⟨by decide, by decide⟩) (fun r_8 hr_8 => ?_)
                              subst hr_8
                              refine lb_if_eq (tgt := 428) hx hb dX5_behind_421 (by decide) (fun c421 => ?_) (fun c421 => ?_)
                              · skip
                                refine lv_iconst (v := (nI 0)) hx hb dX5_behind_428 (by decide) ?_
                                refine W.top (y := .int (bI (decide (bhB bd sd ps f t k i = 7 - 6 * sd) && atk (bhB bd sd ps f t k) i ((f + t) / 2)))) (congrArg Value.int (by first | (rw [decide_eq_true c409, c421]; rfl) | (rw [decide_eq_false c409]; rfl))) ?_
                                exact hj_429 ls (lv_sub hl [0, 1, 2, 3, 4] rfl)
                              · skip
                                refine lv_iconst (v := (nI 1)) hx hb dX5_behind_424 (by decide) ?_
                                refine lv_goto (tgt := 429) hx hb dX5_behind_425 (by decide) ?_
                                refine W.top (y := .int (bI (decide (bhB bd sd ps f t k i = 7 - 6 * sd) && atk (bhB bd sd ps f t k) i ((f + t) / 2)))) (congrArg Value.int (by first | (rw [decide_eq_true c409, c421]; rfl) | (rw [decide_eq_false c409]; rfl))) ?_
                                exact hj_429 ls (lv_sub hl [0, 1, 2, 3, 4] rfl)
                · skip
                  refine ln_icmp_ne (tgt := 299) hx hb dX5_behind_275 (by decide) (by omega) (by decide) (fun c275 => ?_) (fun c275 => ?_)
                  · skip
                    refine lv_aload_n hx hb dX5_behind_299 rfl (lv_at hl 1 rfl) ?_
                    refine va_get (D := D) (ci := 4) (v := .ref b0) (C := RX5) (T := TX5) (N := 7) hx hb hG wu_X5 hown hK hP 0 rfl rfl 1 (by decide) (hG _ wf_X5_7) (fun _ h9 => h9) rfl dX5_behind_300 ?_
                    refine lv_iload_n hx hb dX5_behind_303 rfl (lv_at hl 2 rfl) ?_
                    refine lv_bipush (v := (nI 65)) hx hb dX5_behind_304 (by decide) ?_
                    refine ln_iadd hx hb dX5_behind_306 ?_
                    refine va_iald hx hb hK hP 1 0 rfl rfl (vp_in_nI (by omega) (by decide)) dX5_behind_307 ?_
                    refine W.top (y := .int (G3 (b + 65))) (congrArg (fun z => Value.int (G3 z)) (nI_clamp (by omega))) ?_
                    refine W.top (y := .int (nI rt)) (congrArg Value.int hrt3) ?_
                    refine W.top (y := .int (nI (bhK bd sd rt f))) (congrArg Value.int (by unfold bhK; first | (rw [if_pos c275, (sh3 hs2).1]; exact andn hr16 (sh3 hs2).2) | rw [if_neg c275])) ?_
                    exact hj_308 ls (lv_sub hl [0, 1, 2, 3, 4, 5, 6, 7, 8, 9, 10] rfl)
                  · skip
                    refine lv_aload_n hx hb dX5_behind_278 rfl (lv_at hl 1 rfl) ?_
                    refine va_get (D := D) (ci := 4) (v := .ref b0) (C := RX5) (T := TX5) (N := 7) hx hb hG wu_X5 hown hK hP 0 rfl rfl 1 (by decide) (hG _ wf_X5_7) (fun _ h9 => h9) rfl dX5_behind_279 ?_
                    refine lv_iload_n hx hb dX5_behind_282 rfl (lv_at hl 2 rfl) ?_
                    refine lv_bipush (v := (nI 65)) hx hb dX5_behind_283 (by decide) ?_
                    refine ln_iadd hx hb dX5_behind_285 ?_
                    refine va_iald hx hb hK hP 1 0 rfl rfl (vp_in_nI (by omega) (by decide)) dX5_behind_286 ?_
                    refine W.top (y := .int (G3 (b + 65))) (congrArg (fun z => Value.int (G3 z)) (nI_clamp (by omega))) ?_
                    refine W.top (y := .int (nI rt)) (congrArg Value.int hrt3) ?_
                    refine lv_iconst (v := (nI 3)) hx hb dX5_behind_287 (by decide) ?_
                    refine lv_iconst (v := (nI 2)) hx hb dX5_behind_288 (by decide) ?_
                    refine lv_iload hx hb dX5_behind_289 (lv_at hl 7 rfl) ?_
                    refine ln_imul hx hb dX5_behind_291 ?_
                    refine lv_ishl hx hb dX5_behind_292 ?_
                    refine lv_iconst (v := (-1)) hx hb dX5_behind_293 (by decide) ?_
                    refine lv_ixor hx hb dX5_behind_294 ?_
                    refine lv_iand hx hb dX5_behind_295 ?_
                    refine lv_goto (tgt := 308) hx hb dX5_behind_296 (by decide) ?_
                    refine W.top (y := .int (nI (bhK bd sd rt f))) (congrArg Value.int (by unfold bhK; first | (rw [if_pos c275, (sh3 hs2).1]; exact andn hr16 (sh3 hs2).2) | rw [if_neg c275])) ?_
                    exact hj_308 ls (lv_sub hl [0, 1, 2, 3, 4, 5, 6, 7, 8, 9, 10] rfl)
              · skip
                refine lb_if_eq (tgt := 268) hx hb dX5_behind_214 (by decide) (fun c214 => ?_) (fun c214 => ?_)
                · skip
                  exact hj_268 (upd (upd G1 (d + f) (nI 0)) (d + t) (nI (if k = 0 then bd f else k + 6 * sd))) H locs (by unfold bhB; first | (rw [if_neg (show ¬ ctl bd f t = true by rw [c214]; decide)]; exact ⟨hB2, hAg2⟩) | (rw [if_pos c214]; exact ⟨Bp_in (Bp_in hB2 hrl (by decide)) (by omega) (by omega), (hAg2.up (by omega) (by omega)).up (by omega) (by omega)⟩)) hP hD hS ls (lv_sub hl [0, 1, 2, 3, 4, 5, 6, 7, 8, 9, 10] rfl)
                · skip
                  obtain ⟨ho1, ho2⟩ := ctl_own hgo c214
                  refine lv_iload hx hb dX5_behind_217 (lv_at hl 5 rfl) ?_
                  refine lv_iload hx hb dX5_behind_219 (lv_at hl 4 rfl) ?_
                  refine jnG 235 16 [(11, .int (bkI sd t)), (0, .ref hm), (1, .int (nI b)), (2, .int (nI d)), (4, .int (nI f)), (5, .int (nI t)), (6, .int (nI k)), (7, .int (nI sd)), (8, .int (nI (bd f))), (9, .int (bI (ctl bd f t))), (10, .int (bI (inp bd sd ps f t)))] [.int (nI (rok f t))] ?_ (fun hj_235 => ?_)
                  · intro ls hl
                    have hrl : rok f t < 64 := by unfold rok; split <;> omega
                    refine lv_istore (lv' := [(12, .int (nI (rok f t))), (11, .int (bkI sd t)), (0, .ref hm), (1, .int (nI b)), (2, .int (nI d)), (4, .int (nI f)), (5, .int (nI t)), (6, .int (nI k)), (7, .int (nI sd)), (8, .int (nI (bd f))), (9, .int (bI (ctl bd f t))), (10, .int (bI (inp bd sd ps f t)))]) hx hb dX5_behind_235 hl (by decide) rfl (fun ls hl => ?_)
                    refine lv_aload_n hx hb dX5_behind_237 rfl (lv_at hl 2 rfl) ?_
                    refine va_get (D := D) (ci := 4) (v := .ref b0) (C := RX5) (T := TX5) (N := 7) hx hb hG wu_X5 hown hK hP 0 rfl rfl 1 (by decide) (hG _ wf_X5_7) (fun _ h9 => h9) rfl dX5_behind_238 ?_
                    refine lv_iload_n hx hb dX5_behind_241 rfl (lv_at hl 4 rfl) ?_
                    refine lv_iload hx hb dX5_behind_242 (lv_at hl 0 rfl) ?_
                    refine ln_iadd hx hb dX5_behind_244 ?_
                    refine lv_iconst (v := (nI 0)) hx hb dX5_behind_245 (by decide) ?_
                    refine va_iast hx hb hK hP hD hS 1 0 rfl rfl (vp_in_nI (by omega) (by decide)) dX5_behind_246 (fun H locs hP hD hS => ?_)
                    rw [nI_clamp (show (d + (rok f t)) < 2 ^ 31 by omega)] at hP hD
                    have hP : va_P D classes (rW cI hm b0 b1 b2 b3 th mk sz (upd (upd (upd G1 (d + f) (nI 0)) (d + t) (nI (if k = 0 then bd f else k + 6 * sd))) (d + (rok f t)) (nI 0)) mv kp li) H := hP
                    have hD : va_D A (rW cI hm b0 b1 b2 b3 th mk sz (upd (upd (upd G1 (d + f) (nI 0)) (d + t) (nI (if k = 0 then bd f else k + 6 * sd))) (d + (rok f t)) (nI 0)) mv kp li) := hD
                    refine lv_aload_n hx hb dX5_behind_247 rfl (lv_at hl 2 rfl) ?_
                    refine va_get (D := D) (ci := 4) (v := .ref b0) (C := RX5) (T := TX5) (N := 7) hx hb hG wu_X5 hown hK hP 0 rfl rfl 1 (by decide) (hG _ wf_X5_7) (fun _ h9 => h9) rfl dX5_behind_248 ?_
                    refine lv_iload_n hx hb dX5_behind_251 rfl (lv_at hl 4 rfl) ?_
                    refine lv_iload hx hb dX5_behind_252 (lv_at hl 5 rfl) ?_
                    refine lv_iload hx hb dX5_behind_254 (lv_at hl 6 rfl) ?_
                    refine ln_iadd hx hb dX5_behind_256 ?_
                    refine lv_iconst (v := (nI 2)) hx hb dX5_behind_257 (by decide) ?_
                    refine ln_idiv hx hb dX5_behind_258 (by omega) (by decide) (by decide) ?_
                    refine ln_iadd hx hb dX5_behind_259 ?_
                    refine lv_iconst (v := (nI 4)) hx hb dX5_behind_260 (by decide) ?_
                    refine lv_bipush (v := (nI 6)) hx hb dX5_behind_261 (by decide) ?_
                    refine lv_iload hx hb dX5_behind_263 (lv_at hl 8 rfl) ?_
                    refine ln_imul hx hb dX5_behind_265 ?_
                    refine ln_iadd hx hb dX5_behind_266 ?_
                    refine va_iast hx hb hK hP hD hS 1 0 rfl rfl (vp_in_nI (by omega) (by decide)) dX5_behind_267 (fun H locs hP hD hS => ?_)
                    rw [nI_clamp (show (d + ((f + t) / 2)) < 2 ^ 31 by omega)] at hP hD
                    have hP : va_P D classes (rW cI hm b0 b1 b2 b3 th mk sz (upd (upd (upd (upd G1 (d + f) (nI 0)) (d + t) (nI (if k = 0 then bd f else k + 6 * sd))) (d + (rok f t)) (nI 0)) (d + ((f + t) / 2)) (nI (4 + (6 * sd)))) mv kp li) H := hP
                    have hD : va_D A (rW cI hm b0 b1 b2 b3 th mk sz (upd (upd (upd (upd G1 (d + f) (nI 0)) (d + t) (nI (if k = 0 then bd f else k + 6 * sd))) (d + (rok f t)) (nI 0)) (d + ((f + t) / 2)) (nI (4 + (6 * sd)))) mv kp li) := hD
                    exact hj_268 (upd (upd (upd (upd G1 (d + f) (nI 0)) (d + t) (nI (if k = 0 then bd f else k + 6 * sd))) (d + (rok f t)) (nI 0)) (d + ((f + t) / 2)) (nI (4 + (6 * sd)))) H locs (by unfold bhB; first | (rw [if_neg (show ¬ ctl bd f t = true by rw [c214]; decide)]; exact ⟨hB2, hAg2⟩) | (rw [if_pos c214]; exact ⟨Bp_in (Bp_in hB2 hrl (by decide)) (by omega) (by omega), (hAg2.up (by omega) (by omega)).up (by omega) (by omega)⟩)) hP hD hS ls (lv_sub hl [1, 2, 3, 4, 5, 6, 7, 8, 9, 10, 11] rfl)
                  · skip
                    refine ln_icmp_le (tgt := 231) hx hb dX5_behind_221 (by decide) (by omega) (by omega) (fun c221 => ?_) (fun c221 => ?_)
                    · skip
                      refine lv_iload hx hb dX5_behind_231 (lv_at hl 4 rfl) ?_
                      refine lv_iconst (v := (nI 4)) hx hb dX5_behind_233 (by decide) ?_
                      refine ln_isub hx hb dX5_behind_234 (by omega) ?_
                      refine W.top (y := .int (nI (rok f t))) (congrArg Value.int (congrArg nI (by unfold rok; first | rw [if_neg (by omega)] | rw [if_pos (by omega)]))) ?_
                      exact hj_235 ls (lv_sub hl [0, 1, 2, 3, 4, 5, 6, 7, 8, 9, 10] rfl)
                    · skip
                      refine lv_iload hx hb dX5_behind_224 (lv_at hl 4 rfl) ?_
                      refine lv_iconst (v := (nI 3)) hx hb dX5_behind_226 (by decide) ?_
                      refine ln_iadd hx hb dX5_behind_227 ?_
                      refine lv_goto (tgt := 235) hx hb dX5_behind_228 (by decide) ?_
                      refine W.top (y := .int (nI (rok f t))) (congrArg Value.int (congrArg nI (by unfold rok; first | rw [if_neg (by omega)] | rw [if_pos (by omega)]))) ?_
                      exact hj_235 ls (lv_sub hl [0, 1, 2, 3, 4, 5, 6, 7, 8, 9, 10] rfl)
            · skip
              refine ln_if_le (tgt := 209) hx hb dX5_behind_195 (by decide) (by omega) (fun c195 => ?_) (fun c195 => ?_)
              · skip
                refine lv_iload hx hb dX5_behind_209 (lv_at hl 8 rfl) ?_
                refine W.top (y := .int (nI (if k = 0 then bd f else k + 6 * sd))) (congrArg Value.int (congrArg nI (by first | rw [if_pos c195] | rw [if_neg c195]))) ?_
                exact hj_211 ls (lv_sub hl [0, 1, 2, 3, 4, 5, 6, 7, 8, 9, 10] rfl)
              · skip
                refine lv_iload hx hb dX5_behind_198 (lv_at hl 6 rfl) ?_
                refine lv_bipush (v := (nI 6)) hx hb dX5_behind_200 (by decide) ?_
                refine lv_iload hx hb dX5_behind_202 (lv_at hl 7 rfl) ?_
                refine ln_imul hx hb dX5_behind_204 ?_
                refine ln_iadd hx hb dX5_behind_205 ?_
                refine lv_goto (tgt := 211) hx hb dX5_behind_206 (by decide) ?_
                refine W.top (y := .int (nI (if k = 0 then bd f else k + 6 * sd))) (congrArg Value.int (congrArg nI (by first | rw [if_pos c195] | rw [if_neg c195]))) ?_
                exact hj_211 ls (lv_sub hl [0, 1, 2, 3, 4, 5, 6, 7, 8, 9, 10] rfl)
          · skip
            refine lb_if_eq (tgt := 175) hx hb dX5_behind_162 (by decide) (fun c162 => ?_) (fun c162 => ?_)
            · skip
              exact hj_175 G H locs (by unfold bh1; first | (rw [if_neg (show ¬ inp bd sd ps f t = true by rw [c162]; decide)]; exact ⟨hBc, hAg⟩) | (rw [if_pos c162]; exact ⟨Bp_in hBc hbl (by omega), hAg.up (by omega) (by omega)⟩)) hP hD hS ls (lv_sub hl [0, 1, 2, 3, 4, 5, 6, 7, 8, 9, 10] rfl)
            · skip
              obtain ⟨hbe, hbl⟩ := bk_e ht (inp_bk c162)
              refine lv_aload_n hx hb dX5_behind_165 rfl (lv_at hl 1 rfl) ?_
              refine va_get (D := D) (ci := 4) (v := .ref b0) (C := RX5) (T := TX5) (N := 7) hx hb hG wu_X5 hown hK hP 0 rfl rfl 1 (by decide) (hG _ wf_X5_7) (fun _ h9 => h9) rfl dX5_behind_166 ?_
              refine lv_iload_n hx hb dX5_behind_169 rfl (lv_at hl 3 rfl) ?_
              refine lv_iload hx hb dX5_behind_170 (lv_at hl 0 rfl) ?_
              refine W.top (y := .int (nI (bkN sd t))) (congrArg Value.int hbe) ?_
              refine ln_iadd hx hb dX5_behind_172 ?_
              refine lv_iconst (v := (nI 0)) hx hb dX5_behind_173 (by decide) ?_
              refine va_iast hx hb hK hP hD hS 1 0 rfl rfl (vp_in_nI (by omega) (by decide)) dX5_behind_174 (fun H locs hP hD hS => ?_)
              rw [nI_clamp (show (d + (bkN sd t)) < 2 ^ 31 by omega)] at hP hD
              have hP : va_P D classes (rW cI hm b0 b1 b2 b3 th mk sz (upd G (d + (bkN sd t)) (nI 0)) mv kp li) H := hP
              have hD : va_D A (rW cI hm b0 b1 b2 b3 th mk sz (upd G (d + (bkN sd t)) (nI 0)) mv kp li) := hD
              exact hj_175 (upd G (d + (bkN sd t)) (nI 0)) H locs (by unfold bh1; first | (rw [if_neg (show ¬ inp bd sd ps f t = true by rw [c162]; decide)]; exact ⟨hBc, hAg⟩) | (rw [if_pos c162]; exact ⟨Bp_in hBc hbl (by omega), hAg.up (by omega) (by omega)⟩)) hP hD hS ls (lv_sub hl [0, 1, 2, 3, 4, 5, 6, 7, 8, 9, 10] rfl)
        · skip
          refine ln_if_ne (tgt := 153) hx hb dX5_behind_142 (by decide) (by omega) (fun c142 => ?_) (fun c142 => ?_)
          · skip
            refine lv_iload hx hb dX5_behind_153 (lv_at hl 4 rfl) ?_
            refine lv_bipush (v := (nI 8)) hx hb dX5_behind_155 (by decide) ?_
            refine ln_iadd hx hb dX5_behind_157 ?_
            refine W.top (y := .int (bkI sd t)) (congrArg Value.int (by unfold bkI; first | rw [if_pos c142] | rw [if_neg c142])) ?_
            exact hj_158 ls (lv_sub hl [0, 1, 2, 3, 4, 5, 6, 7, 8, 9, 10] rfl)
          · skip
            refine lv_iload hx hb dX5_behind_145 (lv_at hl 4 rfl) ?_
            refine lv_bipush (v := (nI 8)) hx hb dX5_behind_147 (by decide) ?_
            refine lv_isub hx hb dX5_behind_149 ?_
            refine lv_goto (tgt := 158) hx hb dX5_behind_150 (by decide) ?_
            refine W.top (y := .int (bkI sd t)) (congrArg Value.int (by unfold bkI; first | rw [if_pos c142] | rw [if_neg c142])) ?_
            exact hj_158 ls (lv_sub hl [0, 1, 2, 3, 4, 5, 6, 7, 8, 9, 10] rfl)
      · skip
        refine lv_aload_n hx hb dX5_behind_116 rfl (lv_at hl 0 rfl) ?_
        refine va_get (D := D) (ci := 4) (v := .ref b0) (C := RX5) (T := TX5) (N := 7) hx hb hG wu_X5 hown hK hP 0 rfl rfl 1 (by decide) (hG _ wf_X5_7) (fun _ h9 => h9) rfl dX5_behind_117 ?_
        refine lv_iload_n hx hb dX5_behind_120 rfl (lv_at hl 2 rfl) ?_
        refine lv_iload hx hb dX5_behind_121 (lv_at hl 10 rfl) ?_
        refine ln_iadd hx hb dX5_behind_123 ?_
        refine lv_aload_n hx hb dX5_behind_124 rfl (lv_at hl 0 rfl) ?_
        refine va_get (D := D) (ci := 4) (v := .ref b0) (C := RX5) (T := TX5) (N := 7) hx hb hG wu_X5 hown hK hP 0 rfl rfl 1 (by decide) (hG _ wf_X5_7) (fun _ h9 => h9) rfl dX5_behind_125 ?_
        refine lv_iload_n hx hb dX5_behind_128 rfl (lv_at hl 1 rfl) ?_
        refine lv_iload hx hb dX5_behind_129 (lv_at hl 10 rfl) ?_
        refine ln_iadd hx hb dX5_behind_131 ?_
        refine va_iald hx hb hK hP 1 0 rfl rfl (vp_in_nI (by omega) (by decide)) dX5_behind_132 ?_
        refine W.top (y := .int (G (b + i))) (congrArg (fun z => Value.int (G z)) (nI_clamp (by omega))) ?_
        refine va_iast hx hb hK hP hD hS 1 0 rfl rfl (vp_in_nI (by omega) (by decide)) dX5_behind_133 (fun H locs hP hD hS => ?_)
        rw [nI_clamp (show (d + i) < 2 ^ 31 by omega)] at hP hD
        have hP : va_P D classes (rW cI hm b0 b1 b2 b3 th mk sz (upd G (d + i) (G (b + i))) mv kp li) H := hP
        have hD : va_D A (rW cI hm b0 b1 b2 b3 th mk sz (upd G (d + i) (G (b + i))) mv kp li) := hD
        refine lv_iinc (v := (nI (i + 1))) (lv' := [(11, .int (nI (i + 1))), (0, .ref hm), (1, .int (nI b)), (2, .int (nI d)), (4, .int (nI f)), (5, .int (nI t)), (6, .int (nI k)), (7, .int (nI sd)), (8, .int (nI (bd f))), (9, .int (bI (ctl bd f t))), (10, .int (bI (inp bd sd ps f t)))]) hx hb dX5_behind_134 hl (k := 10) rfl (show nI i + Int32.ofInt 1 = nI (i + 1) from nI_add _ 1) (by decide) rfl (fun ls hl => ?_)
        refine lv_goto (tgt := 109) hx hb dX5_behind_137 (by decide) ?_
        exact ih ((i + 1), (upd G (d + i) (G (b + i)))) H locs ⟨by omega, cp_s hcp (hAg _ (by omega)), hAg.up (by omega) (by omega)⟩ (by (try dsimp only); omega) hP hD hS ls (lv_sub hl [1, 2, 3, 4, 5, 6, 7, 8, 9, 10, 0] rfl)
    · skip
      refine ln_icmp_ne (tgt := 103) hx hb dX5_behind_84 (by decide) (by omega) (by decide) (fun c84 => ?_) (fun c84 => ?_)
      · skip
        refine lv_iconst (v := (nI 0)) hx hb dX5_behind_103 (by decide) ?_
        refine W.top (y := .int (bI (inp bd sd ps f t))) (congrArg Value.int (by unfold inp; first | (rw [decide_eq_true c84, c96]; rfl) | (rw [decide_eq_false c84]; rfl))) ?_
        exact hj_104 ls (lv_sub hl [0, 1, 2, 3, 4, 5, 6, 7, 8, 9] rfl)
      · skip
        refine lv_aload_n hx hb dX5_behind_87 rfl (lv_at hl 6 rfl) ?_
        refine lv_iload_n hx hb dX5_behind_88 rfl (lv_at hl 7 rfl) ?_
        refine lv_iload hx hb dX5_behind_89 (lv_at hl 5 rfl) ?_
        refine lv_iload hx hb dX5_behind_91 (lv_at hl 4 rfl) ?_
        refine roI (rnV (As := [.int (nI b), .int (nI f), .int (nI t)]) (rest := []) S0 (c_X5_takesPassing l bd sd rt ps b f t (by omega) hf ht hBd) wm_X5_71 wi_X5_takesPassing ws_X5_takesPassing wn_X5 wc_X5_takesPassing hd_X5_takesPassing ⟨rfl, rfl, by decide, by decide⟩ IW.blind (va_recv hK hP (ci := 4) (q0 := 0) rfl rfl) (IW.at hP hD hK hA hE hS) hl.1 (Nat.le_of_ble_eq_true rfl) dX5_behind_93 rfl ⟨by decide, by decide⟩) (fun r_9 hr_9 => ?_)
        subst hr_9
        refine lb_if_eq (tgt := 103) hx hb dX5_behind_96 (by decide) (fun c96 => ?_) (fun c96 => ?_)
        · skip
          refine lv_iconst (v := (nI 0)) hx hb dX5_behind_103 (by decide) ?_
          refine W.top (y := .int (bI (inp bd sd ps f t))) (congrArg Value.int (by unfold inp; first | (rw [decide_eq_true c84, c96]; rfl) | (rw [decide_eq_false c84]; rfl))) ?_
          exact hj_104 ls (lv_sub hl [0, 1, 2, 3, 4, 5, 6, 7, 8, 9] rfl)
        · skip
          refine lv_iconst (v := (nI 1)) hx hb dX5_behind_99 (by decide) ?_
          refine lv_goto (tgt := 104) hx hb dX5_behind_100 (by decide) ?_
          refine W.top (y := .int (bI (inp bd sd ps f t))) (congrArg Value.int (by unfold inp; first | (rw [decide_eq_true c84, c96]; rfl) | (rw [decide_eq_false c84]; rfl))) ?_
          exact hj_104 ls (lv_sub hl [0, 1, 2, 3, 4, 5, 6, 7, 8, 9] rfl)
  · skip
    refine ln_icmp_ne (tgt := 75) hx hb dX5_behind_51 (by decide) (by omega) (by decide) (fun c51 => ?_) (fun c51 => ?_)
    · skip
      refine lv_iconst (v := (nI 0)) hx hb dX5_behind_75 (by decide) ?_
      refine W.top (y := .int (bI (ctl bd f t))) (congrArg Value.int (by unfold ctl; first | (rw [decide_eq_true c51, decide_eq_true c68]; rfl) | (rw [decide_eq_true c51, decide_eq_false c68]; rfl) | (rw [decide_eq_false c51]; rfl))) ?_
      exact hj_76 ls (lv_sub hl [0, 1, 2, 3, 4, 5, 6, 7, 8] rfl)
    · skip
      refine lv_iload hx hb dX5_behind_54 (lv_at hl 4 rfl) ?_
      refine lv_bipush (v := (nI 8)) hx hb dX5_behind_56 (by decide) ?_
      refine ln_irem hx hb dX5_behind_58 (by omega) (by decide) (by decide) ?_
      refine lv_iload hx hb dX5_behind_59 (lv_at hl 3 rfl) ?_
      refine lv_bipush (v := (nI 8)) hx hb dX5_behind_61 (by decide) ?_
      refine ln_irem hx hb dX5_behind_63 (by omega) (by decide) (by decide) ?_
      refine roI (rnS (As := [.int (nI (f % 8)), .int (nI (t % 8))]) (rest := []) S0 (c_X5_apart l (f % 8) (t % 8) (by omega) (by omega)) wm_X5_43 wt_X5_apart wn_X5 wc_X5_apart hd_X5_apart ⟨rfl, rfl, by decide, by decide⟩ True.blind (fun _ _ _ => trivial) hl.1 (Nat.le_of_ble_eq_true rfl) dX5_behind_64 rfl ⟨by decide, by decide⟩) (fun r_10 hr_10 => ?_)
      subst hr_10
      refine lv_iconst (v := (nI 2)) hx hb dX5_behind_67 (by decide) ?_
      refine ln_icmp_ne (tgt := 75) hx hb dX5_behind_68 (by decide) (by omega) (by decide) (fun c68 => ?_) (fun c68 => ?_)
      · skip
        refine lv_iconst (v := (nI 0)) hx hb dX5_behind_75 (by decide) ?_
        refine W.top (y := .int (bI (ctl bd f t))) (congrArg Value.int (by unfold ctl; first | (rw [decide_eq_true c51, decide_eq_true c68]; rfl) | (rw [decide_eq_true c51, decide_eq_false c68]; rfl) | (rw [decide_eq_false c51]; rfl))) ?_
        exact hj_76 ls (lv_sub hl [0, 1, 2, 3, 4, 5, 6, 7, 8] rfl)
      · skip
        refine lv_iconst (v := (nI 1)) hx hb dX5_behind_71 (by decide) ?_
        refine lv_goto (tgt := 76) hx hb dX5_behind_72 (by decide) ?_
        refine W.top (y := .int (bI (ctl bd f t))) (congrArg Value.int (by unfold ctl; first | (rw [decide_eq_true c51, decide_eq_true c68]; rfl) | (rw [decide_eq_true c51, decide_eq_false c68]; rfl) | (rw [decide_eq_false c51]; rfl))) ?_
        exact hj_76 ls (lv_sub hl [0, 1, 2, 3, 4, 5, 6, 7, 8] rfl)
end
section
/-! legal moves, the list -/
theorem bI_inj {a b : Bool} : bI a = bI b ↔ a = b := by cases a <;> cases b <;> decide
theorem kc_up (g : Nat → Nat) (w q v : Nat) : ∀ n, q < n → kc (upN g q v) w n + (if g q = 6 + 6 * w then 1 else 0) = kc g w n + (if v = 6 + 6 * w then 1 else 0) := by
  have out : ∀ n, n ≤ q → kc (upN g q v) w n = kc g w n := by
    intro n
    induction n with
    | zero => intro _; rfl
    | succ n ih => intro h; unfold kc; rw [ih (by omega), show upN g q v n = g n from if_neg (by omega)]
  intro n
  induction n with
  | zero => intro h; omega
  | succ n ih =>
    intro h
    by_cases e : q = n
    · subst e
      have h1 := out q (Nat.le_refl q)
      unfold kc
      rw [h1, show upN g q v q = v from if_pos rfl]
      omega
    · have h1 := ih (by omega)
      unfold kc
      rw [show upN g q v n = g n from if_neg (by omega)]
      omega
theorem kat_lt (g : Nat → Nat) (w : Nat) : ∀ n, n ≤ 64 → 0 < kc g w n → kat g w n < n
  | 0, _, h => by simp [kc] at h
  | n + 1, h0, h => by
    unfold kat
    unfold kc at h
    by_cases e : g n = 6 + 6 * w
    · rw [if_pos e]; omega
    · rw [if_neg e] at h ⊢
      have := kat_lt g w n (by omega) (by omega)
      omega
theorem kgs_of {g : Nat → Nat} {w : Nat} (h : kc g w 64 = 1) : kgs g w < 64 := by
  unfold kgs
  rw [if_pos h]
  exact kat_lt g w 64 (by omega) (by omega)
theorem kc_of {g : Nat → Nat} {w : Nat} (h : kgs g w < 64) : kc g w 64 = 1 := by
  unfold kgs at h
  by_cases e : kc g w 64 = 1
  · exact e
  · rw [if_neg e] at h; omega
theorem upN_ne {g : Nat → Nat} {k v j : Nat} (h : j ≠ k) : upN g k v j = g j := if_neg h
theorem upN_eq {g : Nat → Nat} {k v : Nat} : upN g k v k = v := if_pos rfl
theorem kc_up0 {g : Nat → Nat} {w q v : Nat} (hq : q < 64) (h1 : g q ≠ 6 + 6 * w) (h2 : v ≠ 6 + 6 * w) : kc (upN g q v) w 64 = kc g w 64 := by
  have := kc_up g w q v 64 hq
  rw [if_neg h1, if_neg h2] at this
  omega
def lst (bd : Nat → Nat) (sd f t : Nat) : Bool := decide (kd (bd f) = 1) && decide (t / 8 = if sd = 0 then 7 else 0)
def pre (bd : Nat → Nat) (sd rt ps f t k : Nat) : Bool := !decide (k = 1) && (decide (lst bd sd f t = decide (1 < k)) && (!decide (f = t) && gos bd sd rt ps f t))
/-- a move is legal -/
def lgl (bd : Nat → Nat) (sd rt ps f t k : Nat) : Bool := pre bd sd rt ps f t k && !isA (bhB bd sd ps f t k) (kgs (bhB bd sd ps f t k) sd) (1 - sd)
theorem lgl_0 {bd : Nat → Nat} {sd rt ps f t k : Nat} (h : pre bd sd rt ps f t k = false) : lgl bd sd rt ps f t k = false := by unfold lgl; rw [h]; rfl
theorem pre_go {bd : Nat → Nat} {sd rt ps f t k : Nat} (h : pre bd sd rt ps f t k = true) : gos bd sd rt ps f t = true ∧ f ≠ t ∧ k ≠ 1 ∧ lst bd sd f t = decide (1 < k) := by
  unfold pre at h
  simp only [Bool.and_eq_true, Bool.not_eq_true', decide_eq_true_eq, decide_eq_false_iff_not] at h
  exact ⟨h.2.2.2, h.2.2.1, h.1, h.2.1⟩
theorem gos_of {bd : Nat → Nat} {sd rt ps f t : Nat} (h : gos bd sd rt ps f t = true) : sdN (bd f) = sd ∧ sdN (bd t) ≠ sd ∧ kd (bd t) ≠ 6 := by
  unfold gos at h
  split at h
  · exact absurd h (by decide)
  · rename_i h2
    refine ⟨Classical.byContradiction fun z => h2 (Or.inl z), fun z => h2 (Or.inr (Or.inl z)), fun z => h2 (Or.inr (Or.inr z))⟩
theorem kd_K {w x : Nat} (hw : w < 2) (h : x = 6 + 6 * w) : kd x = 6 := by
  have : w = 0 ∨ w = 1 := by omega
  rcases this with rfl | rfl <;> subst h <;> rfl
theorem kd_6 {sd x : Nat} (hx : x < 13) (hs : sdN x = sd) (h : kd x = 6) : x = 6 + 6 * sd := by
  unfold kd at h
  unfold sdN at hs
  (repeat' split at h) <;> (repeat' split at hs) <;> omega
/-- what is taken in passing is a pawn; what castles with the king is a rook, to an empty square -/
theorem inp_pw {bd : Nat → Nat} {sd ps f t : Nat} (h : inp bd sd ps f t = true) : kd (bd f) = 1 ∧ bd (bkN sd t) = 7 - 6 * sd ∧ bd t = 0 ∧ t = ps := by
  unfold inp tps at h
  simp only [Bool.and_eq_true, decide_eq_true_eq] at h
  exact ⟨h.1, h.2.2.2.2.2, h.2.2.1, h.2.1⟩
theorem ctl_can {bd : Nat → Nat} {sd rt ps f t : Nat} (hg : gos bd sd rt ps f t = true) (h : ctl bd f t = true) : can bd sd rt f t = true ∧ kd (bd f) = 6 := by
  unfold ctl at h
  simp only [Bool.and_eq_true, decide_eq_true_eq] at h
  refine ⟨?_, h.1⟩
  unfold gos at hg
  split at hg
  · exact absurd hg (by decide)
  · rw [if_neg (by omega)] at hg
    have hna : atk bd f t = false := by
      by_cases e : f = t
      · exact atk_0 (Or.inr e)
      · rw [atk_6 e h.1]; exact decide_eq_false (by omega)
    rw [hna, Bool.false_or, Bool.and_eq_true] at hg
    have h2 := hg.2
    unfold cas at h2
    simp only [Bool.and_eq_true] at h2
    exact h2.2.1.1
def LI (M : Nat → Int32) (L : List Nat) : Prop := ∀ j, j < L.length → M j = nI (L.getD j 0)
theorem LI_nil {M : Nat → Int32} : LI M [] := fun j h => absurd h (Nat.not_lt_zero j)
theorem LI_app {M : Nat → Int32} {L : List Nat} {x : Nat} (h : LI M L) : LI (upd M (0 + L.length) (nI x)) (L ++ [x]) := by
  intro j hj
  rw [Nat.zero_add]
  rw [List.length_append, List.length_singleton] at hj
  by_cases e : j = L.length
  · subst e; rw [pk_us]; simp [List.getD]
  · rw [pk_un e, h j (by omega)]
    have h3 : j < L.length := by omega
    simp [List.getD, List.getElem?_append_left h3]
def mvx (x : Nat) : Nat := x / 384 + 64 * (x / 6 % 64) + 4096 * (x % 6)
def lgx (bd : Nat → Nat) (sd rt ps x : Nat) : Bool := lgl bd sd rt ps (x / 384) (x / 6 % 64) (x % 6)
/-- the legal moves among the first n triples (from, to, kind) -/
def lgN (bd : Nat → Nat) (sd rt ps n : Nat) : List Nat := (List.range n).filterMap fun x => if lgx bd sd rt ps x = true then some (mvx x) else none
def legs (bd : Nat → Nat) (sd rt ps : Nat) : List Nat := lgN bd sd rt ps 24576
theorem lgN_s (bd : Nat → Nat) (sd rt ps n : Nat) : lgN bd sd rt ps (n + 1) = lgN bd sd rt ps n ++ (if lgx bd sd rt ps n = true then [mvx n] else []) := by
  unfold lgN
  rw [List.range_succ, List.filterMap_append]
  congr 1
  by_cases h : lgx bd sd rt ps n = true
  · simp [h]
  · simp [h]
theorem lgN_len (bd : Nat → Nat) (sd rt ps : Nat) : ∀ m n, m ≤ n → (lgN bd sd rt ps m).length ≤ (lgN bd sd rt ps n).length := by
  intro m n h
  induction n with
  | zero => rw [show m = 0 by omega]; exact Nat.le_refl _
  | succ n ih =>
    by_cases e : m = n + 1
    · rw [e]; exact Nat.le_refl _
    · rw [lgN_s, List.length_append]; have := ih (by omega); omega
theorem lgN_skip {bd : Nat → Nat} {sd rt ps f : Nat} (h : sdN (bd f) ≠ sd) : ∀ m, m ≤ 384 → lgN bd sd rt ps (f * 384 + m) = lgN bd sd rt ps (f * 384) := by
  intro m
  induction m with
  | zero => intro _; rw [Nat.add_zero]
  | succ m ih =>
    intro hm
    rw [← Nat.add_assoc, lgN_s, ih (by omega)]
    have h1 : (f * 384 + m) / 384 = f := by omega
    have h2 : lgx bd sd rt ps (f * 384 + m) = false := by
      unfold lgx
      rw [h1]
      apply lgl_0
      have : gos bd sd rt ps f ((f * 384 + m) / 6 % 64) = false := gos_0 (Or.inl h)
      unfold pre
      rw [this]
      simp
    rw [if_neg (by rw [h2]; decide), List.append_nil]
/-- the position can be played -/
def plb (bd : Nat → Nat) (sd : Nat) : Bool := decide (kgs bd 0 < 64) && (decide (kgs bd 1 < 64) && !isA bd (kgs bd (1 - sd)) (1 - (1 - sd)))
end
section
/-! a move keeps both kings -/
theorem fre_at {bd : Nat → Nat} {f t i : Nat} (h : fre bd f t = true) (h1 : i ≠ 0) (h2 : i < far f t) : bd (pt f t i) = 0 := by
  have := all_lt h h2
  simp only [Bool.or_eq_true, decide_eq_true_eq, beq_iff_eq] at this
  rcases this with h | h
  · exact absurd h h1
  · exact h
theorem can_at {bd : Nat → Nat} {sd rt f t : Nat} (hs : sd < 2) (hf : f = 4 + 56 * sd) (h2 : t = f + 2 ∨ f = t + 2) (h : can bd sd rt f t = true) : bd (rok f t) = 4 + 6 * sd ∧ bd ((f + t) / 2) = 0 ∧ bd t = 0 ∧ cnr sd f t = rok f t := by
  unfold can at h
  simp only [Bool.and_eq_true, decide_eq_true_eq] at h
  obtain ⟨⟨-, hc⟩, hfr⟩ := h
  have hcr : cnr sd f t = rok f t := by unfold cnr rok; (repeat' split) <;> omega
  rw [hcr] at hc hfr
  refine ⟨hc, ?_, ?_, hcr⟩
  · have : sd = 0 ∨ sd = 1 := by omega
    rcases this with rfl | rfl <;> subst hf <;> rcases h2 with h2 | h2
    · subst h2; exact fre_at (i := 1) hfr (by decide) (by decide)
    · obtain rfl : t = 2 := by omega
      exact fre_at (i := 1) hfr (by decide) (by decide)
    · subst h2; exact fre_at (i := 1) hfr (by decide) (by decide)
    · obtain rfl : t = 58 := by omega
      exact fre_at (i := 1) hfr (by decide) (by decide)
  · have : sd = 0 ∨ sd = 1 := by omega
    rcases this with rfl | rfl <;> subst hf <;> rcases h2 with h2 | h2
    · subst h2; exact fre_at (i := 2) hfr (by decide) (by decide)
    · obtain rfl : t = 2 := by omega
      exact fre_at (i := 2) hfr (by decide) (by decide)
    · subst h2; exact fre_at (i := 2) hfr (by decide) (by decide)
    · obtain rfl : t = 58 := by omega
      exact fre_at (i := 2) hfr (by decide) (by decide)
theorem bh_kc {bd : Nat → Nat} {sd rt ps f t k w : Nat} (hb : ∀ q, q < 64 → bd q < 13) (hs : sd < 2) (hw : w < 2) (hf : f < 64) (ht : t < 64) (hk6 : k < 6) (hg : gos bd sd rt ps f t = true) (hn : f ≠ t) (hk1 : k ≠ 1) (hkp : ¬ kd (bd f) = 1 → k = 0) (hc : kc bd w 64 = 1) : kc (bhB bd sd ps f t k) w 64 = 1 := by
  obtain ⟨g1, g2, g3⟩ := gos_of hg
  have hfb := hb f hf
  have hnt : bd t ≠ 6 + 6 * w := fun z => g3 (kd_K hw z)
  have e1 : kc (bh1 bd sd ps f t) w 64 = 1 ∧ bh1 bd sd ps f t f = bd f ∧ bh1 bd sd ps f t t = bd t := by
    unfold bh1
    by_cases hi : inp bd sd ps f t = true
    · rw [if_pos hi]
      obtain ⟨i1, i2, i3, i4⟩ := inp_pw hi
      have hbl := (bk_e ht (inp_bk hi)).2
      have n1 : f ≠ bkN sd t := by
        intro z
        rw [← z] at i2
        rw [i2] at g1
        unfold sdN at g1
        (repeat' split at g1) <;> omega
      have n2 : t ≠ bkN sd t := by intro z; rw [← z, i3] at i2; omega
      refine ⟨?_, upN_ne n1, upN_ne n2⟩
      rw [kc_up0 hbl (by omega) (by omega)]; exact hc
    · rw [if_neg hi]; exact ⟨hc, rfl, rfl⟩
  obtain ⟨a1, a2, a3⟩ := e1
  have e2 := kc_up (bh1 bd sd ps f t) w f 0 64 hf
  have e3 := kc_up (upN (bh1 bd sd ps f t) f 0) w t (if k = 0 then bd f else k + 6 * sd) 64 ht
  rw [show upN (bh1 bd sd ps f t) f 0 t = bd t from (upN_ne (Ne.symm hn)).trans a3, if_neg hnt] at e3
  rw [a2, if_neg (show ¬ 0 = 6 + 6 * w by omega)] at e2
  have e4 : kc (bh2 bd sd ps f t k) w 64 = 1 := by
    unfold bh2
    by_cases hk : k = 0
    · rw [if_pos hk] at e3 ⊢
      omega
    · rw [if_neg hk] at e3 ⊢
      have hp : kd (bd f) = 1 := Classical.byContradiction fun z => hk (hkp z)
      have hnf : bd f ≠ 6 + 6 * w := fun z => by rw [kd_K hw z] at hp; omega
      rw [if_neg hnf] at e2
      rw [if_neg (show ¬ k + 6 * sd = 6 + 6 * w by omega)] at e3
      omega
  unfold bhB
  by_cases hct : ctl bd f t = true
  · rw [if_pos hct]
    obtain ⟨o1, o2⟩ := ctl_own hg hct
    obtain ⟨c1, c2⟩ := ctl_can hg hct
    obtain ⟨r1, r2, r3, r4⟩ := can_at hs o1 o2 c1
    have hni : ¬ inp bd sd ps f t = true := fun z => by have := (inp_pw z).1; omega
    have hb1 : bh1 bd sd ps f t = bd := by unfold bh1; rw [if_neg hni]
    have hrl : rok f t < 64 := by rw [← r4]; exact cnr_lt hs
    have nr : rok f t ≠ f ∧ rok f t ≠ t ∧ rok f t ≠ (f + t) / 2 := by unfold rok; split <;> omega
    have v1 : bh2 bd sd ps f t k (rok f t) = 4 + 6 * sd := by unfold bh2; rw [upN_ne nr.2.1, upN_ne nr.1, hb1, r1]
    have v2 : upN (bh2 bd sd ps f t k) (rok f t) 0 ((f + t) / 2) = 0 := by
      rw [upN_ne (Ne.symm nr.2.2)]; unfold bh2; rw [upN_ne (by omega), upN_ne (by omega), hb1, r2]
    rw [kc_up0 (by omega) (by omega) (by omega), kc_up0 hrl (by omega) (by omega)]
    exact e4
  · rw [if_neg hct]; exact e4
theorem bh_kgs {bd : Nat → Nat} {sd rt ps f t k w : Nat} (hb : ∀ q, q < 64 → bd q < 13) (hs : sd < 2) (hw : w < 2) (hf : f < 64) (ht : t < 64) (hk6 : k < 6) (hp : pre bd sd rt ps f t k = true) (h : kgs bd w < 64) : kgs (bhB bd sd ps f t k) w < 64 := by
  obtain ⟨h1, h2, h3, h4⟩ := pre_go hp
  refine kgs_of (bh_kc (rt := rt) hb hs hw hf ht hk6 h1 h2 h3 (fun z => ?_) (kc_of h))
  unfold lst at h4
  rw [decide_eq_false z, Bool.false_and] at h4
  have := of_decide_eq_false h4.symm
  omega
theorem upN_lt {g : Nat → Nat} {k v : Nat} (h : ∀ q, q < 64 → g q < 13) (hv : v < 13) : ∀ q, q < 64 → upN g k v q < 13 := by
  intro q hq
  unfold upN
  split
  · exact hv
  · exact h q hq
theorem bh_lt {bd : Nat → Nat} {sd ps f t k : Nat} (hb : ∀ q, q < 64 → bd q < 13) (hs : sd < 2) (hf : f < 64) (hk6 : k < 6) : ∀ q, q < 64 → bhB bd sd ps f t k q < 13 := by
  have h1 : ∀ q, q < 64 → bh1 bd sd ps f t q < 13 := by
    unfold bh1
    split
    · exact upN_lt hb (by decide)
    · exact hb
  have h2 : ∀ q, q < 64 → bh2 bd sd ps f t k q < 13 := by
    unfold bh2
    refine upN_lt (upN_lt h1 (by decide)) ?_
    have := hb f hf
    split <;> omega
  unfold bhB
  split
  · exact upN_lt (upN_lt h2 (by decide)) (by omega)
  · exact h2
end
section
theorem dX5_isLegal_0 : decode cX5_isLegal 0 = .ok (.iload_n 2, 1) := by decide +kernel
theorem dX5_isLegal_1 : decode cX5_isLegal 1 = .ok (.bipush 64, 2) := by decide +kernel
theorem dX5_isLegal_3 : decode cX5_isLegal 3 = .ok (.irem, 1) := by decide +kernel
theorem dX5_isLegal_4 : decode cX5_isLegal 4 = .ok (.istore_n 3, 1) := by decide +kernel
theorem dX5_isLegal_5 : decode cX5_isLegal 5 = .ok (.iload_n 2, 1) := by decide +kernel
theorem dX5_isLegal_6 : decode cX5_isLegal 6 = .ok (.bipush 64, 2) := by decide +kernel
theorem dX5_isLegal_8 : decode cX5_isLegal 8 = .ok (.idiv, 1) := by decide +kernel
theorem dX5_isLegal_9 : decode cX5_isLegal 9 = .ok (.bipush 64, 2) := by decide +kernel
theorem dX5_isLegal_11 : decode cX5_isLegal 11 = .ok (.irem, 1) := by decide +kernel
theorem dX5_isLegal_12 : decode cX5_isLegal 12 = .ok (.istore 4, 2) := by decide +kernel
theorem dX5_isLegal_14 : decode cX5_isLegal 14 = .ok (.iload_n 2, 1) := by decide +kernel
theorem dX5_isLegal_15 : decode cX5_isLegal 15 = .ok (.sipush 4096, 3) := by decide +kernel
theorem dX5_isLegal_18 : decode cX5_isLegal 18 = .ok (.idiv, 1) := by decide +kernel
theorem dX5_isLegal_19 : decode cX5_isLegal 19 = .ok (.istore 5, 2) := by decide +kernel
theorem dX5_isLegal_21 : decode cX5_isLegal 21 = .ok (.aload_n 0, 1) := by decide +kernel
theorem dX5_isLegal_22 : decode cX5_isLegal 22 = .ok (.getfield 7, 3) := by decide +kernel
theorem dX5_isLegal_25 : decode cX5_isLegal 25 = .ok (.iload_n 1, 1) := by decide +kernel
theorem dX5_isLegal_26 : decode cX5_isLegal 26 = .ok (.iload_n 3, 1) := by decide +kernel
theorem dX5_isLegal_27 : decode cX5_isLegal 27 = .ok (.iadd, 1) := by decide +kernel
theorem dX5_isLegal_28 : decode cX5_isLegal 28 = .ok (.iaload, 1) := by decide +kernel
theorem dX5_isLegal_29 : decode cX5_isLegal 29 = .ok (.invokestatic 40, 3) := by decide +kernel
theorem dX5_isLegal_32 : decode cX5_isLegal 32 = .ok (.iconst 1, 1) := by decide +kernel
theorem dX5_isLegal_33 : decode cX5_isLegal 33 = .ok (.if_icmp .ne 33, 3) := by decide +kernel
theorem dX5_isLegal_36 : decode cX5_isLegal 36 = .ok (.iload 4, 2) := by decide +kernel
theorem dX5_isLegal_38 : decode cX5_isLegal 38 = .ok (.bipush 8, 2) := by decide +kernel
theorem dX5_isLegal_40 : decode cX5_isLegal 40 = .ok (.idiv, 1) := by decide +kernel
theorem dX5_isLegal_41 : decode cX5_isLegal 41 = .ok (.aload_n 0, 1) := by decide +kernel
theorem dX5_isLegal_42 : decode cX5_isLegal 42 = .ok (.getfield 7, 3) := by decide +kernel
theorem dX5_isLegal_45 : decode cX5_isLegal 45 = .ok (.iload_n 1, 1) := by decide +kernel
theorem dX5_isLegal_46 : decode cX5_isLegal 46 = .ok (.bipush 64, 2) := by decide +kernel
theorem dX5_isLegal_48 : decode cX5_isLegal 48 = .ok (.iadd, 1) := by decide +kernel
theorem dX5_isLegal_49 : decode cX5_isLegal 49 = .ok (.iaload, 1) := by decide +kernel
theorem dX5_isLegal_50 : decode cX5_isLegal 50 = .ok (.ifCond .ne 8, 3) := by decide +kernel
theorem dX5_isLegal_53 : decode cX5_isLegal 53 = .ok (.bipush 7, 2) := by decide +kernel
theorem dX5_isLegal_55 : decode cX5_isLegal 55 = .ok (.goto 4, 3) := by decide +kernel
theorem dX5_isLegal_58 : decode cX5_isLegal 58 = .ok (.iconst 0, 1) := by decide +kernel
theorem dX5_isLegal_59 : decode cX5_isLegal 59 = .ok (.if_icmp .ne 7, 3) := by decide +kernel
theorem dX5_isLegal_62 : decode cX5_isLegal 62 = .ok (.iconst 1, 1) := by decide +kernel
theorem dX5_isLegal_63 : decode cX5_isLegal 63 = .ok (.goto 4, 3) := by decide +kernel
theorem dX5_isLegal_66 : decode cX5_isLegal 66 = .ok (.iconst 0, 1) := by decide +kernel
theorem dX5_isLegal_67 : decode cX5_isLegal 67 = .ok (.istore 6, 2) := by decide +kernel
theorem dX5_isLegal_69 : decode cX5_isLegal 69 = .ok (.iload 5, 2) := by decide +kernel
theorem dX5_isLegal_71 : decode cX5_isLegal 71 = .ok (.iconst 5, 1) := by decide +kernel
theorem dX5_isLegal_72 : decode cX5_isLegal 72 = .ok (.if_icmp .gt 42, 3) := by decide +kernel
theorem dX5_isLegal_75 : decode cX5_isLegal 75 = .ok (.iload 5, 2) := by decide +kernel
theorem dX5_isLegal_77 : decode cX5_isLegal 77 = .ok (.iconst 1, 1) := by decide +kernel
theorem dX5_isLegal_78 : decode cX5_isLegal 78 = .ok (.if_icmp .eq 36, 3) := by decide +kernel
theorem dX5_isLegal_81 : decode cX5_isLegal 81 = .ok (.iload 6, 2) := by decide +kernel
theorem dX5_isLegal_83 : decode cX5_isLegal 83 = .ok (.iload 5, 2) := by decide +kernel
theorem dX5_isLegal_85 : decode cX5_isLegal 85 = .ok (.iconst 1, 1) := by decide +kernel
theorem dX5_isLegal_86 : decode cX5_isLegal 86 = .ok (.if_icmp .le 7, 3) := by decide +kernel
theorem dX5_isLegal_89 : decode cX5_isLegal 89 = .ok (.iconst 1, 1) := by decide +kernel
theorem dX5_isLegal_90 : decode cX5_isLegal 90 = .ok (.goto 4, 3) := by decide +kernel
theorem dX5_isLegal_93 : decode cX5_isLegal 93 = .ok (.iconst 0, 1) := by decide +kernel
theorem dX5_isLegal_94 : decode cX5_isLegal 94 = .ok (.if_icmp .ne 20, 3) := by decide +kernel
theorem dX5_isLegal_97 : decode cX5_isLegal 97 = .ok (.iload_n 3, 1) := by decide +kernel
theorem dX5_isLegal_98 : decode cX5_isLegal 98 = .ok (.iload 4, 2) := by decide +kernel
theorem dX5_isLegal_100 : decode cX5_isLegal 100 = .ok (.if_icmp .eq 14, 3) := by decide +kernel
theorem dX5_isLegal_103 : decode cX5_isLegal 103 = .ok (.aload_n 0, 1) := by decide +kernel
theorem dX5_isLegal_104 : decode cX5_isLegal 104 = .ok (.iload_n 1, 1) := by decide +kernel
theorem dX5_isLegal_105 : decode cX5_isLegal 105 = .ok (.iload_n 3, 1) := by decide +kernel
theorem dX5_isLegal_106 : decode cX5_isLegal 106 = .ok (.iload 4, 2) := by decide +kernel
theorem dX5_isLegal_108 : decode cX5_isLegal 108 = .ok (.invokevirtual 83, 3) := by decide +kernel
theorem dX5_isLegal_111 : decode cX5_isLegal 111 = .ok (.ifCond .ne 5, 3) := by decide +kernel
theorem dX5_isLegal_114 : decode cX5_isLegal 114 = .ok (.iconst 0, 1) := by decide +kernel
theorem dX5_isLegal_115 : decode cX5_isLegal 115 = .ok (.ireturn, 1) := by decide +kernel
theorem dX5_isLegal_116 : decode cX5_isLegal 116 = .ok (.aload_n 0, 1) := by decide +kernel
theorem dX5_isLegal_117 : decode cX5_isLegal 117 = .ok (.iload_n 1, 1) := by decide +kernel
theorem dX5_isLegal_118 : decode cX5_isLegal 118 = .ok (.iload_n 1, 1) := by decide +kernel
theorem dX5_isLegal_119 : decode cX5_isLegal 119 = .ok (.bipush 67, 2) := by decide +kernel
theorem dX5_isLegal_121 : decode cX5_isLegal 121 = .ok (.iadd, 1) := by decide +kernel
theorem dX5_isLegal_122 : decode cX5_isLegal 122 = .ok (.iload_n 2, 1) := by decide +kernel
theorem dX5_isLegal_123 : decode cX5_isLegal 123 = .ok (.invokevirtual 86, 3) := by decide +kernel
theorem dX5_isLegal_126 : decode cX5_isLegal 126 = .ok (.aload_n 0, 1) := by decide +kernel
theorem dX5_isLegal_127 : decode cX5_isLegal 127 = .ok (.iload_n 1, 1) := by decide +kernel
theorem dX5_isLegal_128 : decode cX5_isLegal 128 = .ok (.bipush 67, 2) := by decide +kernel
theorem dX5_isLegal_130 : decode cX5_isLegal 130 = .ok (.iadd, 1) := by decide +kernel
theorem dX5_isLegal_131 : decode cX5_isLegal 131 = .ok (.aload_n 0, 1) := by decide +kernel
theorem dX5_isLegal_132 : decode cX5_isLegal 132 = .ok (.getfield 7, 3) := by decide +kernel
theorem dX5_isLegal_135 : decode cX5_isLegal 135 = .ok (.iload_n 1, 1) := by decide +kernel
theorem dX5_isLegal_136 : decode cX5_isLegal 136 = .ok (.bipush 64, 2) := by decide +kernel
theorem dX5_isLegal_138 : decode cX5_isLegal 138 = .ok (.iadd, 1) := by decide +kernel
theorem dX5_isLegal_139 : decode cX5_isLegal 139 = .ok (.iaload, 1) := by decide +kernel
theorem dX5_isLegal_140 : decode cX5_isLegal 140 = .ok (.invokevirtual 63, 3) := by decide +kernel
theorem dX5_isLegal_143 : decode cX5_isLegal 143 = .ok (.ifCond .ne 7, 3) := by decide +kernel
theorem dX5_isLegal_146 : decode cX5_isLegal 146 = .ok (.iconst 1, 1) := by decide +kernel
theorem dX5_isLegal_147 : decode cX5_isLegal 147 = .ok (.goto 4, 3) := by decide +kernel
theorem dX5_isLegal_150 : decode cX5_isLegal 150 = .ok (.iconst 0, 1) := by decide +kernel
theorem dX5_isLegal_151 : decode cX5_isLegal 151 = .ok (.ireturn, 1) := by decide +kernel
theorem hd_X5_isLegal : yX5_isLegal.cls ≠ "java/lang/invoke/MethodHandle" ∧ yX5_isLegal.cls ≠ "java/lang/invoke/VarHandle" ∧ (parseMethodDescriptor yX5_isLegal.desc).map (fun d => d.parameters.length) = some 2 := by decide +kernel
set_option maxHeartbeats 4000000 in
set_option maxRecDepth 100000 in
/-- isLegal -/
theorem c_X5_isLegal (l : Launch) {D : va_G} {cI cJ : ClassId} {A : Nat → Prop} {hm b0 b1 b2 b3 : Nat} {th mk sz : Int32} {F mv kp li : Nat → Int32} (bd : Nat → Nat) (sd rt ps b : Nat) (hb9 : b ≤ 200) (hBd : Bd F b bd sd rt ps) (hkg : kgs bd sd < 64) (f t k : Nat) (hf : f < 64) (ht : t < 64) (hk6 : k < 6) : Met l yX5_isLegal (Cond.code yX5_isLegal cX5_isLegal 7 (some .boolean) :: wsL_law) (rK 5) (va_Pc [.ref hm, .int (nI b), .int (nI (f + 64 * t + 4096 * k))] (IW D cI cJ A (rW cI hm b0 b1 b2 b3 th mk sz F mv kp li))) (va_Qi (fun r u => r = bI (lgl bd sd rt ps f t k) ∧ Ag F u (b + 67)) (fun (u : Nat → Int32) t => IW D cI cJ A (rW cI hm b0 b1 b2 b3 th mk sz u mv kp li) t) A) 0 0 A := by
  refine entM (by decide) (Nat.le_of_ble_eq_true rfl) ?_
  intro p e s m below meth c ls S0 hr hlocks hG hnm hB hl
  have hx := S0.1
  have hb := S0.2.1
  have hown := S0.2.2.2.1
  have hl : lv_has ls 7 [(0, .ref hm), (1, .int (nI b)), (2, .int (nI (f + 64 * t + 4096 * k)))] := hl
  obtain ⟨hP, hD, hK, hA, hE⟩ := hB
  have hS : va_S A s.heap s.heap [] := va_S.rf
  obtain ⟨hBp, hsd, hs2, hrt, hr16, hps, hp65⟩ := id hBd
  obtain ⟨hfv, hfb⟩ := hBp f hf
  have hkf := kd_lt hfb
  refine lv_iload_n hx hb dX5_isLegal_0 rfl (lv_at hl 2 rfl) ?_
  refine lv_bipush (v := (nI 64)) hx hb dX5_isLegal_1 (by decide) ?_
  refine ln_irem hx hb dX5_isLegal_3 (by omega) (by decide) (by decide) ?_
  refine W.top (y := .int (nI f)) (congrArg Value.int (congrArg nI (by omega))) ?_
  refine lv_istore_n (lv' := [(3, .int (nI f)), (0, .ref hm), (1, .int (nI b)), (2, .int (nI (f + 64 * t + 4096 * k)))]) hx hb dX5_isLegal_4 rfl hl (by decide) rfl (fun ls hl => ?_)
  refine lv_iload_n hx hb dX5_isLegal_5 rfl (lv_at hl 3 rfl) ?_
  refine lv_bipush (v := (nI 64)) hx hb dX5_isLegal_6 (by decide) ?_
  refine ln_idiv hx hb dX5_isLegal_8 (by omega) (by decide) (by decide) ?_
  refine lv_bipush (v := (nI 64)) hx hb dX5_isLegal_9 (by decide) ?_
  refine ln_irem hx hb dX5_isLegal_11 (by omega) (by decide) (by decide) ?_
  refine W.top (y := .int (nI t)) (congrArg Value.int (congrArg nI (by omega))) ?_
  refine lv_istore (lv' := [(4, .int (nI t)), (3, .int (nI f)), (0, .ref hm), (1, .int (nI b)), (2, .int (nI (f + 64 * t + 4096 * k)))]) hx hb dX5_isLegal_12 hl (by decide) rfl (fun ls hl => ?_)
  refine lv_iload_n hx hb dX5_isLegal_14 rfl (lv_at hl 4 rfl) ?_
  refine lv_sipush (v := (nI 4096)) hx hb dX5_isLegal_15 (by decide) ?_
  refine ln_idiv hx hb dX5_isLegal_18 (by omega) (by decide) (by decide) ?_
  refine W.top (y := .int (nI k)) (congrArg Value.int (congrArg nI (by omega))) ?_
  refine lv_istore (lv' := [(5, .int (nI k)), (4, .int (nI t)), (3, .int (nI f)), (0, .ref hm), (1, .int (nI b)), (2, .int (nI (f + 64 * t + 4096 * k)))]) hx hb dX5_isLegal_19 hl (by decide) rfl (fun ls hl => ?_)
  refine lv_aload_n hx hb dX5_isLegal_21 rfl (lv_at hl 3 rfl) ?_
  refine va_get (D := D) (ci := 4) (v := .ref b0) (C := RX5) (T := TX5) (N := 7) hx hb hG wu_X5 hown hK hP 0 rfl rfl 1 (by decide) (hG _ wf_X5_7) (fun _ h9 => h9) rfl dX5_isLegal_22 ?_
  refine lv_iload_n hx hb dX5_isLegal_25 rfl (lv_at hl 4 rfl) ?_
  refine lv_iload_n hx hb dX5_isLegal_26 rfl (lv_at hl 2 rfl) ?_
  refine ln_iadd hx hb dX5_isLegal_27 ?_
  refine va_iald hx hb hK hP 1 0 rfl rfl (vp_in_nI (by omega) (by decide)) dX5_isLegal_28 ?_
  refine W.top (y := .int (F (b + f))) (congrArg (fun z => Value.int (F z)) (nI_clamp (by omega))) ?_
  refine W.top (y := .int (nI (bd f))) (congrArg Value.int hfv) ?_
  refine roI (rnS (As := [.int (nI (bd f))]) (rest := []) S0 (c_X5_kindOf l (bd f) (by omega)) wm_X5_40 wt_X5_kindOf wn_X5 wc_X5_kindOf hd_X5_kindOf ⟨rfl, rfl, by decide, by decide⟩ True.blind (fun _ _ _ => trivial) hl.1 (Nat.le_of_ble_eq_true rfl) dX5_isLegal_29 rfl ⟨by decide, by decide⟩) (fun r_1 hr_1 => ?_)
  subst hr_1
  refine lv_iconst (v := (nI 1)) hx hb dX5_isLegal_32 (by decide) ?_
  refine jnG 67 7 [(5, .int (nI k)), (4, .int (nI t)), (3, .int (nI f)), (0, .ref hm), (1, .int (nI b)), (2, .int (nI (f + 64 * t + 4096 * k)))] [.int (bI (lst bd sd f t))] ?_ (fun hj_67 => ?_)
  · intro ls hl
    refine lv_istore (lv' := [(6, .int (bI (lst bd sd f t))), (5, .int (nI k)), (4, .int (nI t)), (3, .int (nI f)), (0, .ref hm), (1, .int (nI b)), (2, .int (nI (f + 64 * t + 4096 * k)))]) hx hb dX5_isLegal_67 hl (by decide) rfl (fun ls hl => ?_)
    refine lv_iload hx hb dX5_isLegal_69 (lv_at hl 1 rfl) ?_
    refine lv_iconst (v := (nI 5)) hx hb dX5_isLegal_71 (by decide) ?_
    refine ln_icmp_gt (tgt := 114) hx hb dX5_isLegal_72 (by decide) (by omega) (by decide) (fun c72 => ?_) (fun c72 => ?_)
    · skip
      exact absurd c72 (by omega)
    · skip
      refine lv_iload hx hb dX5_isLegal_75 (lv_at hl 1 rfl) ?_
      refine lv_iconst (v := (nI 1)) hx hb dX5_isLegal_77 (by decide) ?_
      refine ln_icmp_eq (tgt := 114) hx hb dX5_isLegal_78 (by decide) (by omega) (by decide) (fun c78 => ?_) (fun c78 => ?_)
      · skip
        refine lv_iconst (v := (nI 0)) hx hb dX5_isLegal_114 (by decide) ?_
        exact weZ (v := false) (F) hx hb hr hlocks dX5_isLegal_115 ⟨congrArg bI (lgl_0 (by unfold pre; first | (rw [decide_eq_true c78]; rfl) | (rw [decide_eq_false c78, decide_eq_false c94]; rfl) | (rw [decide_eq_false c78, decide_eq_true c94, decide_eq_true c100]; rfl) | (rw [decide_eq_false c78, decide_eq_true c94, decide_eq_false c100, c111]; rfl))).symm, Ag.rf⟩ hP hD hK hA hE hS
      · skip
        refine lv_iload hx hb dX5_isLegal_81 (lv_at hl 0 rfl) ?_
        refine lv_iload hx hb dX5_isLegal_83 (lv_at hl 1 rfl) ?_
        refine lv_iconst (v := (nI 1)) hx hb dX5_isLegal_85 (by decide) ?_
        refine jnG 94 7 [(6, .int (bI (lst bd sd f t))), (5, .int (nI k)), (4, .int (nI t)), (3, .int (nI f)), (0, .ref hm), (1, .int (nI b)), (2, .int (nI (f + 64 * t + 4096 * k)))] [.int (bI (decide (1 < k))), .int (bI (lst bd sd f t))] ?_ (fun hj_94 => ?_)
        · intro ls hl
          refine lv_icmp_ne (tgt := 114) hx hb dX5_isLegal_94 (by decide) (fun c94 => ?_) (fun c94 => ?_)
          · skip
            rw [bI_inj] at c94
            refine lv_iconst (v := (nI 0)) hx hb dX5_isLegal_114 (by decide) ?_
            exact weZ (v := false) (F) hx hb hr hlocks dX5_isLegal_115 ⟨congrArg bI (lgl_0 (by unfold pre; first | (rw [decide_eq_true c78]; rfl) | (rw [decide_eq_false c78, decide_eq_false c94]; rfl) | (rw [decide_eq_false c78, decide_eq_true c94, decide_eq_true c100]; rfl) | (rw [decide_eq_false c78, decide_eq_true c94, decide_eq_false c100, c111]; rfl))).symm, Ag.rf⟩ hP hD hK hA hE hS
          · skip
            rw [bI_inj] at c94
            refine lv_iload_n hx hb dX5_isLegal_97 rfl (lv_at hl 3 rfl) ?_
            refine lv_iload hx hb dX5_isLegal_98 (lv_at hl 2 rfl) ?_
            refine ln_icmp_eq (tgt := 114) hx hb dX5_isLegal_100 (by decide) (by omega) (by omega) (fun c100 => ?_) (fun c100 => ?_)
            · skip
              refine lv_iconst (v := (nI 0)) hx hb dX5_isLegal_114 (by decide) ?_
              exact weZ (v := false) (F) hx hb hr hlocks dX5_isLegal_115 ⟨congrArg bI (lgl_0 (by unfold pre; first | (rw [decide_eq_true c78]; rfl) | (rw [decide_eq_false c78, decide_eq_false c94]; rfl) | (rw [decide_eq_false c78, decide_eq_true c94, decide_eq_true c100]; rfl) | (rw [decide_eq_false c78, decide_eq_true c94, decide_eq_false c100, c111]; rfl))).symm, Ag.rf⟩ hP hD hK hA hE hS
            · skip
              refine lv_aload_n hx hb dX5_isLegal_103 rfl (lv_at hl 4 rfl) ?_
              refine lv_iload_n hx hb dX5_isLegal_104 rfl (lv_at hl 5 rfl) ?_
              refine lv_iload_n hx hb dX5_isLegal_105 rfl (lv_at hl 3 rfl) ?_
              refine lv_iload hx hb dX5_isLegal_106 (lv_at hl 2 rfl) ?_
              refine roI (rnV (As := [.int (nI b), .int (nI f), .int (nI t)]) (rest := []) S0 (c_X5_goes l bd sd rt ps b f t (by omega) hf ht hBd) wm_X5_83 wi_X5_goes ws_X5_goes wn_X5 wc_X5_goes hd_X5_goes ⟨rfl, rfl, by decide, by decide⟩ IW.blind (va_recv hK hP (ci := 4) (q0 := 0) rfl rfl) (IW.at hP hD hK hA hE hS) hl.1 (Nat.le_of_ble_eq_true rfl) dX5_isLegal_108 rfl ⟨by decide, by decide⟩) (fun r_2 hr_2 => ?_)
              subst hr_2
              refine lb_if_ne (tgt := 116) hx hb dX5_isLegal_111 (by decide) (fun c111 => ?_) (fun c111 => ?_)
              · skip
                have hpr : pre bd sd rt ps f t k = true := by
                  unfold pre; rw [decide_eq_false c78, decide_eq_true c94, decide_eq_false c100, c111]; rfl
                refine lv_aload_n hx hb dX5_isLegal_116 rfl (lv_at hl 4 rfl) ?_
                refine lv_iload_n hx hb dX5_isLegal_117 rfl (lv_at hl 5 rfl) ?_
                refine lv_iload_n hx hb dX5_isLegal_118 rfl (lv_at hl 5 rfl) ?_
                refine lv_bipush (v := (nI 67)) hx hb dX5_isLegal_119 (by decide) ?_
                refine ln_iadd hx hb dX5_isLegal_121 ?_
                refine lv_iload_n hx hb dX5_isLegal_122 rfl (lv_at hl 6 rfl) ?_
                refine chV (rnV (As := [.int (nI b), .int (nI (b + 67)), .int (nI (f + 64 * t + 4096 * k))]) (rest := []) S0 (c_X5_behind l bd sd rt ps b (b + 67) f t k (by omega) (by omega) hf ht hk6 c111 hBd) wm_X5_86 wi_X5_behind ws_X5_behind wn_X5 wc_X5_behind hd_X5_behind ⟨rfl, rfl, by decide, by decide⟩ IW.blind (va_recv hK hP (ci := 4) (q0 := 0) rfl rfl) (IW.at hP hD hK hA hE hS) hl.1 (Nat.le_of_ble_eq_true rfl) dX5_isLegal_123 rfl ⟨by decide, by decide⟩) hS (fun u_4 H locs hu hP hD hS => ?_)
                obtain ⟨hBn, hAn⟩ := hu
                have hP : va_P D classes (rW cI hm b0 b1 b2 b3 th mk sz u_4 mv kp li) H := hP
                have hD : va_D A (rW cI hm b0 b1 b2 b3 th mk sz u_4 mv kp li) := hD
                refine lv_aload_n hx hb dX5_isLegal_126 rfl (lv_at hl 4 rfl) ?_
                refine lv_iload_n hx hb dX5_isLegal_127 rfl (lv_at hl 5 rfl) ?_
                refine lv_bipush (v := (nI 67)) hx hb dX5_isLegal_128 (by decide) ?_
                refine ln_iadd hx hb dX5_isLegal_130 ?_
                refine lv_aload_n hx hb dX5_isLegal_131 rfl (lv_at hl 4 rfl) ?_
                refine va_get (D := D) (ci := 4) (v := .ref b0) (C := RX5) (T := TX5) (N := 7) hx hb hG wu_X5 hown hK hP 0 rfl rfl 1 (by decide) (hG _ wf_X5_7) (fun _ h9 => h9) rfl dX5_isLegal_132 ?_
                refine lv_iload_n hx hb dX5_isLegal_135 rfl (lv_at hl 5 rfl) ?_
                refine lv_bipush (v := (nI 64)) hx hb dX5_isLegal_136 (by decide) ?_
                refine ln_iadd hx hb dX5_isLegal_138 ?_
                refine va_iald hx hb hK hP 1 0 rfl rfl (vp_in_nI (by omega) (by decide)) dX5_isLegal_139 ?_
                refine W.top (y := .int (u_4 (b + 64))) (congrArg (fun z => Value.int (u_4 z)) (nI_clamp (by omega))) ?_
                refine W.top (y := .int (nI sd)) (congrArg Value.int ((hAn _ (by omega)).trans hsd)) ?_
                refine roI (rnV (As := [.int (nI (b + 67)), .int (nI sd)]) (rest := []) S0 (c_X5_isChecked l (bhB bd sd ps f t k) (b + 67) sd (by omega) hs2 hBn.1 (bh_kgs (rt := rt) (fun q hq => (hBp q hq).2) hs2 hs2 hf ht hk6 hpr hkg)) wm_X5_63 wi_X5_isChecked ws_X5_isChecked wn_X5 wc_X5_isChecked hd_X5_isChecked ⟨rfl, rfl, by decide, by decide⟩ IW.blind (va_recv hK hP (ci := 4) (q0 := 0) rfl rfl) (IW.at hP hD hK hA hE hS) hl.1 (Nat.le_of_ble_eq_true rfl) dX5_isLegal_140 rfl ⟨by decide, by decide⟩) (fun r_5 hr_5 => ?_)
                subst hr_5
                refine lb_if_ne (tgt := 150) hx hb dX5_isLegal_143 (by decide) (fun c143 => ?_) (fun c143 => ?_)
                · skip
                  refine lv_iconst (v := (nI 0)) hx hb dX5_isLegal_150 (by decide) ?_
                  exact weZ (v := false) (u_4) hx hb hr hlocks dX5_isLegal_151 ⟨congrArg bI (by unfold lgl; rw [hpr, c143]; rfl), hAn⟩ hP hD hK hA hE hS
                · skip
                  refine lv_iconst (v := (nI 1)) hx hb dX5_isLegal_146 (by decide) ?_
                  refine lv_goto (tgt := 151) hx hb dX5_isLegal_147 (by decide) ?_
                  exact weZ (v := true) (u_4) hx hb hr hlocks dX5_isLegal_151 ⟨congrArg bI (by unfold lgl; rw [hpr, c143]; rfl), hAn⟩ hP hD hK hA hE hS
              · skip
                refine lv_iconst (v := (nI 0)) hx hb dX5_isLegal_114 (by decide) ?_
                exact weZ (v := false) (F) hx hb hr hlocks dX5_isLegal_115 ⟨congrArg bI (lgl_0 (by unfold pre; first | (rw [decide_eq_true c78]; rfl) | (rw [decide_eq_false c78, decide_eq_false c94]; rfl) | (rw [decide_eq_false c78, decide_eq_true c94, decide_eq_true c100]; rfl) | (rw [decide_eq_false c78, decide_eq_true c94, decide_eq_false c100, c111]; rfl))).symm, Ag.rf⟩ hP hD hK hA hE hS
        · skip
          refine ln_icmp_le (tgt := 93) hx hb dX5_isLegal_86 (by decide) (by omega) (by decide) (fun c86 => ?_) (fun c86 => ?_)
          · skip
            refine lv_iconst (v := (nI 0)) hx hb dX5_isLegal_93 (by decide) ?_
            refine W.top (y := .int (bI (decide (1 < k)))) (congrArg Value.int (by first | (rw [decide_eq_true (show 1 < k by omega)]; rfl) | (rw [decide_eq_false (show ¬ 1 < k by omega)]; rfl))) ?_
            exact hj_94 ls (lv_sub hl [0, 1, 2, 3, 4, 5, 6] rfl)
          · skip
            refine lv_iconst (v := (nI 1)) hx hb dX5_isLegal_89 (by decide) ?_
            refine lv_goto (tgt := 94) hx hb dX5_isLegal_90 (by decide) ?_
            refine W.top (y := .int (bI (decide (1 < k)))) (congrArg Value.int (by first | (rw [decide_eq_true (show 1 < k by omega)]; rfl) | (rw [decide_eq_false (show ¬ 1 < k by omega)]; rfl))) ?_
            exact hj_94 ls (lv_sub hl [0, 1, 2, 3, 4, 5, 6] rfl)
  · skip
    refine ln_icmp_ne (tgt := 66) hx hb dX5_isLegal_33 (by decide) (by omega) (by decide) (fun c33 => ?_) (fun c33 => ?_)
    · skip
      refine lv_iconst (v := (nI 0)) hx hb dX5_isLegal_66 (by decide) ?_
      refine W.top (y := .int (bI (lst bd sd f t))) (congrArg Value.int (by unfold lst; first | (rw [decide_eq_true c33, decide_eq_true c59]; rfl) | (rw [decide_eq_true c33, decide_eq_false c59]; rfl) | (rw [decide_eq_false c33]; rfl))) ?_
      exact hj_67 ls (lv_sub hl [0, 1, 2, 3, 4, 5] rfl)
    · skip
      refine lv_iload hx hb dX5_isLegal_36 (lv_at hl 1 rfl) ?_
      refine lv_bipush (v := (nI 8)) hx hb dX5_isLegal_38 (by decide) ?_
      refine ln_idiv hx hb dX5_isLegal_40 (by omega) (by decide) (by decide) ?_
      refine lv_aload_n hx hb dX5_isLegal_41 rfl (lv_at hl 3 rfl) ?_
      refine va_get (D := D) (ci := 4) (v := .ref b0) (C := RX5) (T := TX5) (N := 7) hx hb hG wu_X5 hown hK hP 0 rfl rfl 1 (by decide) (hG _ wf_X5_7) (fun _ h9 => h9) rfl dX5_isLegal_42 ?_
      refine lv_iload_n hx hb dX5_isLegal_45 rfl (lv_at hl 4 rfl) ?_
      refine lv_bipush (v := (nI 64)) hx hb dX5_isLegal_46 (by decide) ?_
      refine ln_iadd hx hb dX5_isLegal_48 ?_
      refine va_iald hx hb hK hP 1 0 rfl rfl (vp_in_nI (by omega) (by decide)) dX5_isLegal_49 ?_
      refine W.top (y := .int (F (b + 64))) (congrArg (fun z => Value.int (F z)) (nI_clamp (by omega))) ?_
      refine W.top (y := .int (nI sd)) (congrArg Value.int hsd) ?_
      refine jnG 59 7 [(5, .int (nI k)), (4, .int (nI t)), (3, .int (nI f)), (0, .ref hm), (1, .int (nI b)), (2, .int (nI (f + 64 * t + 4096 * k)))] [.int (nI (if sd = 0 then 7 else 0)), .int (nI (t / 8))] ?_ (fun hj_59 => ?_)
      · intro ls hl
        have hif : (if sd = 0 then 7 else 0) < 8 := by split <;> omega
        refine ln_icmp_ne (tgt := 66) hx hb dX5_isLegal_59 (by decide) (by omega) (by omega) (fun c59 => ?_) (fun c59 => ?_)
        · skip
          refine lv_iconst (v := (nI 0)) hx hb dX5_isLegal_66 (by decide) ?_
          refine W.top (y := .int (bI (lst bd sd f t))) (congrArg Value.int (by unfold lst; first | (rw [decide_eq_true c33, decide_eq_true c59]; rfl) | (rw [decide_eq_true c33, decide_eq_false c59]; rfl) | (rw [decide_eq_false c33]; rfl))) ?_
          exact hj_67 ls (lv_sub hl [0, 1, 2, 3, 4, 5] rfl)
        · skip
          refine lv_iconst (v := (nI 1)) hx hb dX5_isLegal_62 (by decide) ?_
          refine lv_goto (tgt := 67) hx hb dX5_isLegal_63 (by decide) ?_
          refine W.top (y := .int (bI (lst bd sd f t))) (congrArg Value.int (by unfold lst; first | (rw [decide_eq_true c33, decide_eq_true c59]; rfl) | (rw [decide_eq_true c33, decide_eq_false c59]; rfl) | (rw [decide_eq_false c33]; rfl))) ?_
          exact hj_67 ls (lv_sub hl [0, 1, 2, 3, 4, 5] rfl)
      · skip
        refine ln_if_ne (tgt := 58) hx hb dX5_isLegal_50 (by decide) (by omega) (fun c50 => ?_) (fun c50 => ?_)
        · skip
          refine lv_iconst (v := (nI 0)) hx hb dX5_isLegal_58 (by decide) ?_
          refine W.top (y := .int (nI (if sd = 0 then 7 else 0))) (congrArg Value.int (congrArg nI (by first | rw [if_pos c50] | rw [if_neg c50]))) ?_
          exact hj_59 ls (lv_sub hl [0, 1, 2, 3, 4, 5] rfl)
        · skip
          refine lv_bipush (v := (nI 7)) hx hb dX5_isLegal_53 (by decide) ?_
          refine lv_goto (tgt := 59) hx hb dX5_isLegal_55 (by decide) ?_
          refine W.top (y := .int (nI (if sd = 0 then 7 else 0))) (congrArg Value.int (congrArg nI (by first | rw [if_pos c50] | rw [if_neg c50]))) ?_
          exact hj_59 ls (lv_sub hl [0, 1, 2, 3, 4, 5] rfl)
theorem dX5_listed_0 : decode cX5_listed 0 = .ok (.iconst 0, 1) := by decide +kernel
theorem dX5_listed_1 : decode cX5_listed 1 = .ok (.istore_n 3, 1) := by decide +kernel
theorem dX5_listed_2 : decode cX5_listed 2 = .ok (.iconst 0, 1) := by decide +kernel
theorem dX5_listed_3 : decode cX5_listed 3 = .ok (.istore 4, 2) := by decide +kernel
theorem dX5_listed_5 : decode cX5_listed 5 = .ok (.iload 4, 2) := by decide +kernel
theorem dX5_listed_7 : decode cX5_listed 7 = .ok (.bipush 64, 2) := by decide +kernel
theorem dX5_listed_9 : decode cX5_listed 9 = .ok (.if_icmp .ge 105, 3) := by decide +kernel
theorem dX5_listed_12 : decode cX5_listed 12 = .ok (.iconst 0, 1) := by decide +kernel
theorem dX5_listed_13 : decode cX5_listed 13 = .ok (.istore 5, 2) := by decide +kernel
theorem dX5_listed_15 : decode cX5_listed 15 = .ok (.iload 5, 2) := by decide +kernel
theorem dX5_listed_17 : decode cX5_listed 17 = .ok (.bipush 64, 2) := by decide +kernel
theorem dX5_listed_19 : decode cX5_listed 19 = .ok (.if_icmp .ge 89, 3) := by decide +kernel
theorem dX5_listed_22 : decode cX5_listed 22 = .ok (.aload_n 0, 1) := by decide +kernel
theorem dX5_listed_23 : decode cX5_listed 23 = .ok (.getfield 7, 3) := by decide +kernel
theorem dX5_listed_26 : decode cX5_listed 26 = .ok (.iload_n 1, 1) := by decide +kernel
theorem dX5_listed_27 : decode cX5_listed 27 = .ok (.iload 4, 2) := by decide +kernel
theorem dX5_listed_29 : decode cX5_listed 29 = .ok (.iadd, 1) := by decide +kernel
theorem dX5_listed_30 : decode cX5_listed 30 = .ok (.iaload, 1) := by decide +kernel
theorem dX5_listed_31 : decode cX5_listed 31 = .ok (.invokestatic 51, 3) := by decide +kernel
theorem dX5_listed_34 : decode cX5_listed 34 = .ok (.aload_n 0, 1) := by decide +kernel
theorem dX5_listed_35 : decode cX5_listed 35 = .ok (.getfield 7, 3) := by decide +kernel
theorem dX5_listed_38 : decode cX5_listed 38 = .ok (.iload_n 1, 1) := by decide +kernel
theorem dX5_listed_39 : decode cX5_listed 39 = .ok (.bipush 64, 2) := by decide +kernel
theorem dX5_listed_41 : decode cX5_listed 41 = .ok (.iadd, 1) := by decide +kernel
theorem dX5_listed_42 : decode cX5_listed 42 = .ok (.iaload, 1) := by decide +kernel
theorem dX5_listed_43 : decode cX5_listed 43 = .ok (.if_icmp .ne 65, 3) := by decide +kernel
theorem dX5_listed_46 : decode cX5_listed 46 = .ok (.iconst 0, 1) := by decide +kernel
theorem dX5_listed_47 : decode cX5_listed 47 = .ok (.istore 6, 2) := by decide +kernel
theorem dX5_listed_49 : decode cX5_listed 49 = .ok (.iload 6, 2) := by decide +kernel
theorem dX5_listed_51 : decode cX5_listed 51 = .ok (.bipush 6, 2) := by decide +kernel
theorem dX5_listed_53 : decode cX5_listed 53 = .ok (.if_icmp .ge 49, 3) := by decide +kernel
theorem dX5_listed_56 : decode cX5_listed 56 = .ok (.iload 4, 2) := by decide +kernel
theorem dX5_listed_58 : decode cX5_listed 58 = .ok (.bipush 64, 2) := by decide +kernel
theorem dX5_listed_60 : decode cX5_listed 60 = .ok (.iload 5, 2) := by decide +kernel
theorem dX5_listed_62 : decode cX5_listed 62 = .ok (.imul, 1) := by decide +kernel
theorem dX5_listed_63 : decode cX5_listed 63 = .ok (.iadd, 1) := by decide +kernel
theorem dX5_listed_64 : decode cX5_listed 64 = .ok (.sipush 4096, 3) := by decide +kernel
theorem dX5_listed_67 : decode cX5_listed 67 = .ok (.iload 6, 2) := by decide +kernel
theorem dX5_listed_69 : decode cX5_listed 69 = .ok (.imul, 1) := by decide +kernel
theorem dX5_listed_70 : decode cX5_listed 70 = .ok (.iadd, 1) := by decide +kernel
theorem dX5_listed_71 : decode cX5_listed 71 = .ok (.istore 7, 2) := by decide +kernel
theorem dX5_listed_73 : decode cX5_listed 73 = .ok (.aload_n 0, 1) := by decide +kernel
theorem dX5_listed_74 : decode cX5_listed 74 = .ok (.iload_n 1, 1) := by decide +kernel
theorem dX5_listed_75 : decode cX5_listed 75 = .ok (.iload 7, 2) := by decide +kernel
theorem dX5_listed_77 : decode cX5_listed 77 = .ok (.invokevirtual 90, 3) := by decide +kernel
theorem dX5_listed_80 : decode cX5_listed 80 = .ok (.ifCond .eq 16, 3) := by decide +kernel
theorem dX5_listed_83 : decode cX5_listed 83 = .ok (.aload_n 0, 1) := by decide +kernel
theorem dX5_listed_84 : decode cX5_listed 84 = .ok (.getfield 19, 3) := by decide +kernel
theorem dX5_listed_87 : decode cX5_listed 87 = .ok (.iload_n 2, 1) := by decide +kernel
theorem dX5_listed_88 : decode cX5_listed 88 = .ok (.iload_n 3, 1) := by decide +kernel
theorem dX5_listed_89 : decode cX5_listed 89 = .ok (.iadd, 1) := by decide +kernel
theorem dX5_listed_90 : decode cX5_listed 90 = .ok (.iload 7, 2) := by decide +kernel
theorem dX5_listed_92 : decode cX5_listed 92 = .ok (.iastore, 1) := by decide +kernel
theorem dX5_listed_93 : decode cX5_listed 93 = .ok (.iinc 3 1, 3) := by decide +kernel
theorem dX5_listed_96 : decode cX5_listed 96 = .ok (.iinc 6 1, 3) := by decide +kernel
theorem dX5_listed_99 : decode cX5_listed 99 = .ok (.goto (-50), 3) := by decide +kernel
theorem dX5_listed_102 : decode cX5_listed 102 = .ok (.iinc 5 1, 3) := by decide +kernel
theorem dX5_listed_105 : decode cX5_listed 105 = .ok (.goto (-90), 3) := by decide +kernel
theorem dX5_listed_108 : decode cX5_listed 108 = .ok (.iinc 4 1, 3) := by decide +kernel
theorem dX5_listed_111 : decode cX5_listed 111 = .ok (.goto (-106), 3) := by decide +kernel
theorem dX5_listed_114 : decode cX5_listed 114 = .ok (.iload_n 3, 1) := by decide +kernel
theorem dX5_listed_115 : decode cX5_listed 115 = .ok (.ireturn, 1) := by decide +kernel
theorem hd_X5_listed : yX5_listed.cls ≠ "java/lang/invoke/MethodHandle" ∧ yX5_listed.cls ≠ "java/lang/invoke/VarHandle" ∧ (parseMethodDescriptor yX5_listed.desc).map (fun d => d.parameters.length) = some 2 := by decide +kernel
set_option maxHeartbeats 4000000 in
set_option maxRecDepth 100000 in
/-- listed -/
theorem c_X5_listed (l : Launch) {D : va_G} {cI cJ : ClassId} {A : Nat → Prop} {hm b0 b1 b2 b3 : Nat} {th mk sz : Int32} {F mv kp li : Nat → Int32} (bd : Nat → Nat) (sd rt ps b : Nat) (hb9 : b ≤ 200) (hBd : Bd F b bd sd rt ps) (hkg : kgs bd sd < 64) (hLen : (legs bd sd rt ps).length ≤ 1024) : Met l yX5_listed (Cond.code yX5_listed cX5_listed 8 (some .int) :: wsL_law) (rK 6) (va_Pc [.ref hm, .int (nI b), .int (nI 0)] (IW D cI cJ A (rW cI hm b0 b1 b2 b3 th mk sz F mv kp li))) (va_Qi (fun r u => r = nI (legs bd sd rt ps).length ∧ Ag F u.1 (b + 67) ∧ LI u.2 (legs bd sd rt ps)) (fun (u : (Nat → Int32) × (Nat → Int32)) t => IW D cI cJ A (rW cI hm b0 b1 b2 b3 th mk sz u.1 mv kp u.2) t) A) 0 0 A := by
  refine entM (by decide) (Nat.le_of_ble_eq_true rfl) ?_
  intro p e s m below meth c ls S0 hr hlocks hG hnm hB hl
  have hx := S0.1
  have hb := S0.2.1
  have hown := S0.2.2.2.1
  have hl : lv_has ls 8 [(0, .ref hm), (1, .int (nI b)), (2, .int (nI 0))] := hl
  obtain ⟨hP, hD, hK, hA, hE⟩ := hB
  have hS : va_S A s.heap s.heap [] := va_S.rf
  obtain ⟨hBp, hsd, hs2, hrt, hr16, hps, hp65⟩ := id hBd
  have hLL : ∀ n, n ≤ 24576 → (lgN bd sd rt ps n).length ≤ 1024 := fun n hn => Nat.le_trans (lgN_len bd sd rt ps n 24576 hn) hLen
  refine lv_iconst (v := (nI 0)) hx hb dX5_listed_0 (by decide) ?_
  refine W.top (y := .int (nI ((lgN bd sd rt ps (0 * 384)).length))) (congrArg Value.int rfl) ?_
  refine lv_istore_n (lv' := [(3, .int (nI ((lgN bd sd rt ps (0 * 384)).length))), (0, .ref hm), (1, .int (nI b)), (2, .int (nI 0))]) hx hb dX5_listed_1 rfl hl (by decide) rfl (fun ls hl => ?_)
  refine lv_iconst (v := (nI 0)) hx hb dX5_listed_2 (by decide) ?_
  refine lv_istore (lv' := [(4, .int (nI 0)), (3, .int (nI ((lgN bd sd rt ps (0 * 384)).length))), (0, .ref hm), (1, .int (nI b)), (2, .int (nI 0))]) hx hb dX5_listed_3 hl (by decide) rfl (fun ls hl => ?_)
  refine lpW (σ := (Nat) × (Nat → Int32) × (Nat → Int32)) 5 8 [] (fun x9 => [(0, .ref hm), (1, .int (nI b)), (2, .int (nI 0)), (3, .int (nI ((lgN bd sd rt ps (x9.1 * 384)).length))), (4, .int (nI x9.1))]) (fun x9 => rW cI hm b0 b1 b2 b3 th mk sz x9.2.1 mv kp x9.2.2) (fun x9 => x9.1 ≤ 64 ∧ Ag F x9.2.1 (b + 67) ∧ LI x9.2.2 (lgN bd sd rt ps (x9.1 * 384))) (fun x9 => 64 - x9.1) (0, F, li) ⟨Nat.zero_le _, Ag.rf, LI_nil⟩ (lv_sub hl [2, 3, 4, 1, 0] rfl) hP hD hS ?_
  clear hP hD hS hl ls
  rintro ⟨f, G, M⟩ H locs hI hP hD hS ih_5 ls hl
  try dsimp only at hI ih_5 hl hP hD
  obtain ⟨hf, hAg, hLI⟩ := hI
  have hl1 := hLL (f * 384) (by omega)
  refine lv_iload hx hb dX5_listed_5 (lv_at hl 4 rfl) ?_
  refine lv_bipush (v := (nI 64)) hx hb dX5_listed_7 (by decide) ?_
  refine ln_icmp_ge (tgt := 114) hx hb dX5_listed_9 (by decide) (by omega) (by decide) (fun c9 => ?_) (fun c9 => ?_)
  · skip
    have hf64 : f = 64 := by omega
    rw [hf64] at hLI hl
    refine lv_iload_n hx hb dX5_listed_114 rfl (lv_at hl 3 rfl) ?_
    exact weI ((G, M)) hx hb hr hlocks dX5_listed_115 ⟨rfl, hAg, hLI⟩ hP hD hK hA hE hS
  · skip
    have hf : f < 64 := by omega
    have hBg := hAg.Bd (by omega) hBd
    obtain ⟨hfv, hfb⟩ := hBp f hf
    refine lv_iconst (v := (nI 0)) hx hb dX5_listed_12 (by decide) ?_
    refine lv_istore (lv' := [(5, .int (nI 0)), (0, .ref hm), (1, .int (nI b)), (2, .int (nI 0)), (3, .int (nI ((lgN bd sd rt ps (f * 384)).length))), (4, .int (nI f))]) hx hb dX5_listed_13 hl (by decide) rfl (fun ls hl => ?_)
    clear hBg
    refine lpW (σ := (Nat) × (Nat → Int32) × (Nat → Int32)) 15 8 [] (fun x9 => [(0, .ref hm), (1, .int (nI b)), (2, .int (nI 0)), (3, .int (nI ((lgN bd sd rt ps (f * 384 + x9.1 * 6)).length))), (4, .int (nI f)), (5, .int (nI x9.1))]) (fun x9 => rW cI hm b0 b1 b2 b3 th mk sz x9.2.1 mv kp x9.2.2) (fun x9 => x9.1 ≤ 64 ∧ Ag F x9.2.1 (b + 67) ∧ LI x9.2.2 (lgN bd sd rt ps (f * 384 + x9.1 * 6))) (fun x9 => 64 - x9.1) (0, G, M) ⟨Nat.zero_le _, hAg, hLI⟩ (lv_sub hl [1, 2, 3, 4, 5, 0] rfl) hP hD hS ?_
    clear hP hD hS hl ls
    rintro ⟨t, G, M⟩ H locs hI hP hD hS ih_15 ls hl
    try dsimp only at hI ih_15 hl hP hD
    clear hAg hLI
    obtain ⟨ht, hAg, hLI⟩ := hI
    have hl2 := hLL (f * 384 + t * 6) (by omega)
    have hBg := hAg.Bd (by omega) hBd
    refine lv_iload hx hb dX5_listed_15 (lv_at hl 5 rfl) ?_
    refine lv_bipush (v := (nI 64)) hx hb dX5_listed_17 (by decide) ?_
    refine ln_icmp_ge (tgt := 108) hx hb dX5_listed_19 (by decide) (by omega) (by decide) (fun c19 => ?_) (fun c19 => ?_)
    · skip
      refine lv_iinc (v := (nI (f + 1))) (lv' := [(4, .int (nI (f + 1))), (0, .ref hm), (1, .int (nI b)), (2, .int (nI 0)), (3, .int (nI ((lgN bd sd rt ps (f * 384 + t * 6)).length))), (5, .int (nI t))]) hx hb dX5_listed_108 hl (k := 4) rfl (show nI f + Int32.ofInt 1 = nI (f + 1) from nI_add _ 1) (by decide) rfl (fun ls hl => ?_)
      refine lv_goto (tgt := 5) hx hb dX5_listed_111 (by decide) ?_
      have hlq : lgN bd sd rt ps (f * 384 + t * 6) = lgN bd sd rt ps ((f + 1) * 384) := by
        first | (rw [show (f + 1) * 384 = f * 384 + 384 by omega, lgN_skip c43 384 (by omega), lgN_skip c43 _ (by omega)]) | (rw [show f * 384 + t * 6 = (f + 1) * 384 by omega])
      rw [hlq] at hl hLI
      exact ih_5 ((f + 1), G, M) H locs ⟨by omega, hAg, hLI⟩ (by (try dsimp only); omega) hP hD hS ls (lv_sub hl [1, 2, 3, 4, 0] rfl)
    · skip
      have ht : t < 64 := by omega
      refine lv_aload_n hx hb dX5_listed_22 rfl (lv_at hl 0 rfl) ?_
      refine va_get (D := D) (ci := 4) (v := .ref b0) (C := RX5) (T := TX5) (N := 7) hx hb hG wu_X5 hown hK hP 0 rfl rfl 1 (by decide) (hG _ wf_X5_7) (fun _ h9 => h9) rfl dX5_listed_23 ?_
      refine lv_iload_n hx hb dX5_listed_26 rfl (lv_at hl 1 rfl) ?_
      refine lv_iload hx hb dX5_listed_27 (lv_at hl 4 rfl) ?_
      refine ln_iadd hx hb dX5_listed_29 ?_
      refine va_iald hx hb hK hP 1 0 rfl rfl (vp_in_nI (by omega) (by decide)) dX5_listed_30 ?_
      refine W.top (y := .int (G (b + f))) (congrArg (fun z => Value.int (G z)) (nI_clamp (by omega))) ?_
      refine W.top (y := .int (nI (bd f))) (congrArg Value.int ((hAg _ (by omega)).trans hfv)) ?_
      refine roI (rnS (As := [.int (nI (bd f))]) (rest := []) S0 (c_X5_sideOf l (bd f) (by omega)) wm_X5_51 wt_X5_sideOf wn_X5 wc_X5_sideOf hd_X5_sideOf ⟨rfl, rfl, by decide, by decide⟩ True.blind (fun _ _ _ => trivial) hl.1 (Nat.le_of_ble_eq_true rfl) dX5_listed_31 rfl ⟨by decide, by decide⟩) (fun r_1 hr_1 => ?_)
      subst hr_1
      refine lv_aload_n hx hb dX5_listed_34 rfl (lv_at hl 0 rfl) ?_
      refine va_get (D := D) (ci := 4) (v := .ref b0) (C := RX5) (T := TX5) (N := 7) hx hb hG wu_X5 hown hK hP 0 rfl rfl 1 (by decide) (hG _ wf_X5_7) (fun _ h9 => h9) rfl dX5_listed_35 ?_
      refine lv_iload_n hx hb dX5_listed_38 rfl (lv_at hl 1 rfl) ?_
      refine lv_bipush (v := (nI 64)) hx hb dX5_listed_39 (by decide) ?_
      refine ln_iadd hx hb dX5_listed_41 ?_
      refine va_iald hx hb hK hP 1 0 rfl rfl (vp_in_nI (by omega) (by decide)) dX5_listed_42 ?_
      refine W.top (y := .int (G (b + 64))) (congrArg (fun z => Value.int (G z)) (nI_clamp (by omega))) ?_
      refine W.top (y := .int (nI sd)) (congrArg Value.int hBg.2.1) ?_
      refine lv_icmp_ne (tgt := 108) hx hb dX5_listed_43 (by decide) (fun c43 => ?_) (fun c43 => ?_)
      · skip
        rw [sdI_eq hs2] at c43
        refine lv_iinc (v := (nI (f + 1))) (lv' := [(4, .int (nI (f + 1))), (0, .ref hm), (1, .int (nI b)), (2, .int (nI 0)), (3, .int (nI ((lgN bd sd rt ps (f * 384 + t * 6)).length))), (5, .int (nI t))]) hx hb dX5_listed_108 hl (k := 4) rfl (show nI f + Int32.ofInt 1 = nI (f + 1) from nI_add _ 1) (by decide) rfl (fun ls hl => ?_)
        refine lv_goto (tgt := 5) hx hb dX5_listed_111 (by decide) ?_
        have hlq : lgN bd sd rt ps (f * 384 + t * 6) = lgN bd sd rt ps ((f + 1) * 384) := by
          first | (rw [show (f + 1) * 384 = f * 384 + 384 by omega, lgN_skip c43 384 (by omega), lgN_skip c43 _ (by omega)]) | (rw [show f * 384 + t * 6 = (f + 1) * 384 by omega])
        rw [hlq] at hl hLI
        exact ih_5 ((f + 1), G, M) H locs ⟨by omega, hAg, hLI⟩ (by (try dsimp only); omega) hP hD hS ls (lv_sub hl [1, 2, 3, 4, 0] rfl)
      · skip
        rw [sdI_eq hs2] at c43
        refine lv_iconst (v := (nI 0)) hx hb dX5_listed_46 (by decide) ?_
        refine lv_istore (lv' := [(6, .int (nI 0)), (0, .ref hm), (1, .int (nI b)), (2, .int (nI 0)), (3, .int (nI ((lgN bd sd rt ps (f * 384 + t * 6)).length))), (4, .int (nI f)), (5, .int (nI t))]) hx hb dX5_listed_47 hl (by decide) rfl (fun ls hl => ?_)
        clear hBg
        refine lpW (σ := (Nat) × (Nat → Int32) × (Nat → Int32)) 49 8 [] (fun x9 => [(0, .ref hm), (1, .int (nI b)), (2, .int (nI 0)), (3, .int (nI ((lgN bd sd rt ps (f * 384 + t * 6 + x9.1)).length))), (4, .int (nI f)), (5, .int (nI t)), (6, .int (nI x9.1))]) (fun x9 => rW cI hm b0 b1 b2 b3 th mk sz x9.2.1 mv kp x9.2.2) (fun x9 => x9.1 ≤ 6 ∧ Ag F x9.2.1 (b + 67) ∧ LI x9.2.2 (lgN bd sd rt ps (f * 384 + t * 6 + x9.1))) (fun x9 => 6 - x9.1) (0, G, M) ⟨Nat.zero_le _, hAg, hLI⟩ (lv_sub hl [1, 2, 3, 4, 5, 6, 0] rfl) hP hD hS ?_
        clear hP hD hS hl ls
        rintro ⟨k, G, M⟩ H locs hI hP hD hS ih_49 ls hl
        try dsimp only at hI ih_49 hl hP hD
        clear hAg hLI
        obtain ⟨hk, hAg, hLI⟩ := hI
        have hl3 := hLL (f * 384 + t * 6 + k) (by omega)
        have hBg := hAg.Bd (by omega) hBd
        refine lv_iload hx hb dX5_listed_49 (lv_at hl 6 rfl) ?_
        refine lv_bipush (v := (nI 6)) hx hb dX5_listed_51 (by decide) ?_
        refine ln_icmp_ge (tgt := 102) hx hb dX5_listed_53 (by decide) (by omega) (by decide) (fun c53 => ?_) (fun c53 => ?_)
        · skip
          refine lv_iinc (v := (nI (t + 1))) (lv' := [(5, .int (nI (t + 1))), (0, .ref hm), (1, .int (nI b)), (2, .int (nI 0)), (3, .int (nI ((lgN bd sd rt ps (f * 384 + t * 6 + k)).length))), (4, .int (nI f)), (6, .int (nI k))]) hx hb dX5_listed_102 hl (k := 5) rfl (show nI t + Int32.ofInt 1 = nI (t + 1) from nI_add _ 1) (by decide) rfl (fun ls hl => ?_)
          refine lv_goto (tgt := 15) hx hb dX5_listed_105 (by decide) ?_
          have hlq : lgN bd sd rt ps (f * 384 + t * 6 + k) = lgN bd sd rt ps (f * 384 + (t + 1) * 6) := by rw [show f * 384 + t * 6 + k = f * 384 + (t + 1) * 6 by omega]
          rw [hlq] at hl hLI
          exact ih_15 ((t + 1), G, M) H locs ⟨by omega, hAg, hLI⟩ (by (try dsimp only); omega) hP hD hS ls (lv_sub hl [1, 2, 3, 4, 5, 0] rfl)
        · skip
          have hk : k < 6 := by omega
          have hl4 := hLL (f * 384 + t * 6 + k + 1) (by omega)
          have hx1 : (f * 384 + t * 6 + k) / 384 = f := by omega
          have hx2 : (f * 384 + t * 6 + k) / 6 % 64 = t := by omega
          have hx3 : (f * 384 + t * 6 + k) % 6 = k := by omega
          have hxl : lgx bd sd rt ps (f * 384 + t * 6 + k) = lgl bd sd rt ps f t k := by unfold lgx; rw [hx1, hx2, hx3]
          have hxm : mvx (f * 384 + t * 6 + k) = f + 64 * t + 4096 * k := by unfold mvx; rw [hx1, hx2, hx3]
          have hls := lgN_s bd sd rt ps (f * 384 + t * 6 + k)
          rw [hxl, hxm] at hls
          refine lv_iload hx hb dX5_listed_56 (lv_at hl 4 rfl) ?_
          refine lv_bipush (v := (nI 64)) hx hb dX5_listed_58 (by decide) ?_
          refine lv_iload hx hb dX5_listed_60 (lv_at hl 5 rfl) ?_
          refine ln_imul hx hb dX5_listed_62 ?_
          refine ln_iadd hx hb dX5_listed_63 ?_
          refine lv_sipush (v := (nI 4096)) hx hb dX5_listed_64 (by decide) ?_
          refine lv_iload hx hb dX5_listed_67 (lv_at hl 6 rfl) ?_
          refine ln_imul hx hb dX5_listed_69 ?_
          refine ln_iadd hx hb dX5_listed_70 ?_
          refine lv_istore (lv' := [(7, .int (nI ((f + (64 * t)) + (4096 * k)))), (0, .ref hm), (1, .int (nI b)), (2, .int (nI 0)), (3, .int (nI ((lgN bd sd rt ps (f * 384 + t * 6 + k)).length))), (4, .int (nI f)), (5, .int (nI t)), (6, .int (nI k))]) hx hb dX5_listed_71 hl (by decide) rfl (fun ls hl => ?_)
          refine lv_aload_n hx hb dX5_listed_73 rfl (lv_at hl 1 rfl) ?_
          refine lv_iload_n hx hb dX5_listed_74 rfl (lv_at hl 2 rfl) ?_
          refine lv_iload hx hb dX5_listed_75 (lv_at hl 0 rfl) ?_
          refine chI (rnV (As := [.int (nI b), .int (nI ((f + (64 * t)) + (4096 * k)))]) (rest := []) S0 (c_X5_isLegal l bd sd rt ps b hb9 hBg hkg f t k hf ht hk) wm_X5_90 wi_X5_isLegal ws_X5_isLegal wn_X5 wc_X5_isLegal hd_X5_isLegal ⟨rfl, rfl, by decide, by decide⟩ IW.blind (va_recv hK hP (ci := 4) (q0 := 0) rfl rfl) (IW.at hP hD hK hA hE hS) hl.1 (Nat.le_of_ble_eq_true rfl) dX5_listed_77 rfl ⟨by decide, by decide⟩) hS (fun r_2 u_3 H locs hu hP hD hS => ?_)
          obtain ⟨he9, hA9⟩ := hu
          subst he9
          have hP : va_P D classes (rW cI hm b0 b1 b2 b3 th mk sz u_3 mv kp M) H := hP
          have hD : va_D A (rW cI hm b0 b1 b2 b3 th mk sz u_3 mv kp M) := hD
          have hA8 : Ag F _ (b + 67) := fun j hj => (hA9 j hj).trans (hAg j hj)
          refine jnW (σ := (Nat → Int32) × (Nat → Int32)) (D := D) (A := A) (H0 := s.heap) 96 8 (fun x9 => [(0, .ref hm), (1, .int (nI b)), (2, .int (nI 0)), (3, .int (nI ((lgN bd sd rt ps (f * 384 + t * 6 + k + 1)).length))), (4, .int (nI f)), (5, .int (nI t)), (6, .int (nI k))]) [] (fun x9 => rW cI hm b0 b1 b2 b3 th mk sz x9.1 mv kp x9.2) (fun x9 => Ag F x9.1 (b + 67) ∧ LI x9.2 (lgN bd sd rt ps (f * 384 + t * 6 + k + 1))) ?_ (fun hj_96 => ?_)
          · clear hP hD hS hl ls
            rintro ⟨G1, M1⟩ H locs hI hP hD hS ls hl
            try dsimp only at hI hP hD hl
            have hI9 : k + 1 ≤ 6 ∧ Ag F G1 (b + 67) ∧ LI M1 (lgN bd sd rt ps (f * 384 + t * 6 + (k + 1))) := ⟨by omega, hI⟩
            refine lv_iinc (v := (nI (k + 1))) (lv' := [(6, .int (nI (k + 1))), (0, .ref hm), (1, .int (nI b)), (2, .int (nI 0)), (3, .int (nI ((lgN bd sd rt ps (f * 384 + t * 6 + k + 1)).length))), (4, .int (nI f)), (5, .int (nI t))]) hx hb dX5_listed_96 hl (k := 6) rfl (show nI k + Int32.ofInt 1 = nI (k + 1) from nI_add _ 1) (by decide) rfl (fun ls hl => ?_)
            refine lv_goto (tgt := 49) hx hb dX5_listed_99 (by decide) ?_
            exact ih_49 ((k + 1), G1, M1) H locs (by assumption) (by (try dsimp only); omega) hP hD hS ls (lv_sub hl [1, 2, 3, 4, 5, 6, 0] rfl)
          · skip
            refine lb_if_eq (tgt := 96) hx hb dX5_listed_80 (by decide) (fun c80 => ?_) (fun c80 => ?_)
            · skip
              rw [if_neg (by rw [c80]; decide), List.append_nil] at hls
              rw [← hls] at hl hLI
              exact hj_96 (u_3, M) H locs (by first | exact ⟨hA8, hLI⟩ | exact ⟨hA8, hLI2⟩) hP hD hS ls (lv_sub hl [1, 2, 3, 4, 5, 6, 7] rfl)
            · skip
              rw [if_pos c80] at hls
              have hll : (lgN bd sd rt ps (f * 384 + t * 6 + k)).length + 1 = (lgN bd sd rt ps (f * 384 + t * 6 + k + 1)).length := by rw [hls, List.length_append]; rfl
              refine lv_aload_n hx hb dX5_listed_83 rfl (lv_at hl 1 rfl) ?_
              refine va_get (D := D) (ci := 4) (v := .ref b3) (C := RX5) (T := TX5) (N := 7) hx hb hG wu_X5 hown hK hP 0 rfl rfl 6 (by decide) (hG _ wf_X5_19) (fun _ h9 => h9) rfl dX5_listed_84 ?_
              refine lv_iload_n hx hb dX5_listed_87 rfl (lv_at hl 3 rfl) ?_
              refine lv_iload_n hx hb dX5_listed_88 rfl (lv_at hl 4 rfl) ?_
              refine ln_iadd hx hb dX5_listed_89 ?_
              refine lv_iload hx hb dX5_listed_90 (lv_at hl 0 rfl) ?_
              refine va_iast hx hb hK hP hD hS 4 0 rfl rfl (vp_in_nI (by omega) (by decide)) dX5_listed_92 (fun H locs hP hD hS => ?_)
              rw [nI_clamp (show (0 + ((lgN bd sd rt ps (f * 384 + t * 6 + k)).length)) < 2 ^ 31 by omega)] at hP hD
              have hP : va_P D classes (rW cI hm b0 b1 b2 b3 th mk sz u_3 mv kp (upd M (0 + ((lgN bd sd rt ps (f * 384 + t * 6 + k)).length)) (nI ((f + (64 * t)) + (4096 * k))))) H := hP
              have hD : va_D A (rW cI hm b0 b1 b2 b3 th mk sz u_3 mv kp (upd M (0 + ((lgN bd sd rt ps (f * 384 + t * 6 + k)).length)) (nI ((f + (64 * t)) + (4096 * k))))) := hD
              have hLI2 := LI_app (x := f + 64 * t + 4096 * k) hLI
              rw [← hls] at hLI2
              refine lv_iinc (v := (nI (((lgN bd sd rt ps (f * 384 + t * 6 + k)).length) + 1))) (lv' := [(3, .int (nI (((lgN bd sd rt ps (f * 384 + t * 6 + k)).length) + 1))), (7, .int (nI ((f + (64 * t)) + (4096 * k)))), (0, .ref hm), (1, .int (nI b)), (2, .int (nI 0)), (4, .int (nI f)), (5, .int (nI t)), (6, .int (nI k))]) hx hb dX5_listed_93 hl (k := 4) rfl (show nI ((lgN bd sd rt ps (f * 384 + t * 6 + k)).length) + Int32.ofInt 1 = nI (((lgN bd sd rt ps (f * 384 + t * 6 + k)).length) + 1) from nI_add _ 1) (by decide) rfl (fun ls hl => ?_)
              rw [hll] at hl
              exact hj_96 (u_3, (upd M (0 + ((lgN bd sd rt ps (f * 384 + t * 6 + k)).length)) (nI ((f + (64 * t)) + (4096 * k))))) H locs (by first | exact ⟨hA8, hLI⟩ | exact ⟨hA8, hLI2⟩) hP hD hS ls (lv_sub hl [2, 3, 4, 0, 5, 6, 7] rfl)
end
section
/-! the reference's public calls -/
def bgn (q : Nat) : Nat := if q < 8 then hmf q else if q < 16 then 1 else if q < 48 then 0 else if q < 56 then 7 else 6 + hmf (q - 56)
def ptc (x y : Int32) : Nat := if isq x = false then 1 else if y < 0 ∨ nI 12 < y then 2 else 0
def stc (x y z : Int32) : Nat := if x < 0 ∨ nI 1 < x ∨ y < 0 ∨ nI 15 < y ∨ z < -1 ∨ nI 63 < z then 1 else 0
theorem hmf_lt (f : Nat) : hmf f < 7 := by unfold hmf; (repeat' split) <;> omega
/-- the place of a move among the first n of the list; 64000 for none -/
def plc (L : List Nat) (x : Int32) : Nat → Int32
  | 0 => -1
  | n + 1 => if nI (L.getD n 0) = x then nI n else plc L x n
def onc (L : List Nat) (x : Int32) (w : Bool) : Nat → Nat
  | 0 => 0
  | n + 1 => onc L x w n + if nI (if w = true then L.getD n 0 % 64 else L.getD n 0 / 64 % 64) = x then 1 else 0
theorem onc_le (L : List Nat) (x : Int32) (w : Bool) : ∀ n, onc L x w n ≤ n
  | 0 => Nat.le_refl 0
  | n + 1 => by have := onc_le L x w n; unfold onc; (repeat' split) <;> omega
/-- what need answers, and the size that it leaves -/
def ndN (bd : Nat → Nat) (sd : Nat) : Nat := if plb bd sd = true then 0 else 1
def szN (bd : Nat → Nat) (sd rt ps : Nat) : Nat := if plb bd sd = true then (legs bd sd rt ps).length else 0
def lgs (bd : Nat → Nat) (sd rt ps : Nat) : List Nat := if plb bd sd = true then legs bd sd rt ps else []
theorem szN_eq (bd : Nat → Nat) (sd rt ps : Nat) : szN bd sd rt ps = (lgs bd sd rt ps).length := by unfold szN lgs; split <;> rfl
theorem mvx_lt (x : Nat) (h : x < 24576) : mvx x < 24576 := by unfold mvx; omega
theorem legs_lt {bd : Nat → Nat} {sd rt ps y : Nat} (h : y ∈ legs bd sd rt ps) : y < 24576 := by
  unfold legs lgN at h
  obtain ⟨x, hx, he⟩ := List.mem_filterMap.mp h
  split at he
  · cases he; exact mvx_lt x (List.mem_range.mp hx)
  · cases he
theorem getD_lt {L : List Nat} {n b : Nat} (h : ∀ y ∈ L, y < b) (hb : 0 < b) : L.getD n 0 < b := by
  rw [List.getD_eq_getElem?_getD]
  cases e : L[n]? with
  | none => exact hb
  | some v => exact h v (List.mem_of_getElem? e)
theorem lgs_lt {bd : Nat → Nat} {sd rt ps : Nat} : ∀ y ∈ lgs bd sd rt ps, y < 24576 := by
  intro y hy
  unfold lgs at hy
  split at hy
  · exact legs_lt hy
  · cases hy
theorem plb_k {bd : Nat → Nat} {sd w : Nat} (hw : w < 2) (h : plb bd sd = true) : kgs bd w < 64 := by
  unfold plb at h
  simp only [Bool.and_eq_true, decide_eq_true_eq] at h
  have : w = 0 ∨ w = 1 := by omega
  rcases this with rfl | rfl
  · exact h.1
  · exact h.2.1
theorem kg_both {bd : Nat → Nat} (h0 : kgs bd 0 < 64) (h1 : kgs bd 1 < 64) : ∀ w, w < 2 → kgs bd w < 64 := by
  intro w hw
  have : w = 0 ∨ w = 1 := by omega
  rcases this with rfl | rfl
  · exact h0
  · exact h1
end
section
theorem dX5_isPlayable_0 : decode cX5_isPlayable 0 = .ok (.aload_n 0, 1) := by decide +kernel
theorem dX5_isPlayable_1 : decode cX5_isPlayable 1 = .ok (.iconst 0, 1) := by decide +kernel
theorem dX5_isPlayable_2 : decode cX5_isPlayable 2 = .ok (.iconst 0, 1) := by decide +kernel
theorem dX5_isPlayable_3 : decode cX5_isPlayable 3 = .ok (.invokevirtual 57, 3) := by decide +kernel
theorem dX5_isPlayable_6 : decode cX5_isPlayable 6 = .ok (.ifCond .lt 33, 3) := by decide +kernel
theorem dX5_isPlayable_9 : decode cX5_isPlayable 9 = .ok (.aload_n 0, 1) := by decide +kernel
theorem dX5_isPlayable_10 : decode cX5_isPlayable 10 = .ok (.iconst 0, 1) := by decide +kernel
theorem dX5_isPlayable_11 : decode cX5_isPlayable 11 = .ok (.iconst 1, 1) := by decide +kernel
theorem dX5_isPlayable_12 : decode cX5_isPlayable 12 = .ok (.invokevirtual 57, 3) := by decide +kernel
theorem dX5_isPlayable_15 : decode cX5_isPlayable 15 = .ok (.ifCond .lt 24, 3) := by decide +kernel
theorem dX5_isPlayable_18 : decode cX5_isPlayable 18 = .ok (.aload_n 0, 1) := by decide +kernel
theorem dX5_isPlayable_19 : decode cX5_isPlayable 19 = .ok (.iconst 0, 1) := by decide +kernel
theorem dX5_isPlayable_20 : decode cX5_isPlayable 20 = .ok (.iconst 1, 1) := by decide +kernel
theorem dX5_isPlayable_21 : decode cX5_isPlayable 21 = .ok (.aload_n 0, 1) := by decide +kernel
theorem dX5_isPlayable_22 : decode cX5_isPlayable 22 = .ok (.getfield 7, 3) := by decide +kernel
theorem dX5_isPlayable_25 : decode cX5_isPlayable 25 = .ok (.bipush 64, 2) := by decide +kernel
theorem dX5_isPlayable_27 : decode cX5_isPlayable 27 = .ok (.iaload, 1) := by decide +kernel
theorem dX5_isPlayable_28 : decode cX5_isPlayable 28 = .ok (.isub, 1) := by decide +kernel
theorem dX5_isPlayable_29 : decode cX5_isPlayable 29 = .ok (.invokevirtual 63, 3) := by decide +kernel
theorem dX5_isPlayable_32 : decode cX5_isPlayable 32 = .ok (.ifCond .ne 7, 3) := by decide +kernel
theorem dX5_isPlayable_35 : decode cX5_isPlayable 35 = .ok (.iconst 1, 1) := by decide +kernel
theorem dX5_isPlayable_36 : decode cX5_isPlayable 36 = .ok (.goto 4, 3) := by decide +kernel
theorem dX5_isPlayable_39 : decode cX5_isPlayable 39 = .ok (.iconst 0, 1) := by decide +kernel
theorem dX5_isPlayable_40 : decode cX5_isPlayable 40 = .ok (.ireturn, 1) := by decide +kernel
theorem hd_X5_isPlayable : yX5_isPlayable.cls ≠ "java/lang/invoke/MethodHandle" ∧ yX5_isPlayable.cls ≠ "java/lang/invoke/VarHandle" ∧ (parseMethodDescriptor yX5_isPlayable.desc).map (fun d => d.parameters.length) = some 0 := by decide +kernel
set_option maxHeartbeats 4000000 in
set_option maxRecDepth 100000 in
/-- isPlayable -/
theorem c_X5_isPlayable (l : Launch) {D : va_G} {cI cJ : ClassId} {A : Nat → Prop} {hm b0 b1 b2 b3 : Nat} {th mk sz : Int32} {F mv kp li : Nat → Int32} (bd : Nat → Nat) (sd rt ps : Nat) (hBd : Bd F 0 bd sd rt ps) : Met l yX5_isPlayable (Cond.code yX5_isPlayable cX5_isPlayable 1 (some .boolean) :: wsL_law) (rK 4) (va_Pc [.ref hm] (IW D cI cJ A (rW cI hm b0 b1 b2 b3 th mk sz F mv kp li))) (vp_Si (fun r => r = bI (plb bd sd))) 0 0 (fun _ => False) := by
  refine entM (by decide) (Nat.le_of_ble_eq_true rfl) ?_
  intro p e s m below meth c ls S0 hr hlocks hG hnm hB hl
  have hx := S0.1
  have hb := S0.2.1
  have hown := S0.2.2.2.1
  have hl : lv_has ls 1 [(0, .ref hm)] := hl
  obtain ⟨hP, hD, hK, hA, hE⟩ := hB
  have hS : va_S A s.heap s.heap [] := va_S.rf
  obtain ⟨hBp, hsd, hs2, hrt, hr16, hps, hp65⟩ := id hBd
  have hk0 := kat_le bd 0 64 (by decide)
  have hg0 : ∀ w, kgs bd w ≤ 64 := fun w => by unfold kgs; by_cases h : kc bd w 64 = 1; (rw [if_pos h]; exact kat_le bd w 64 (by decide)); (rw [if_neg h]; exact Nat.le_refl _)
  refine lv_aload_n hx hb dX5_isPlayable_0 rfl (lv_at hl 0 rfl) ?_
  refine lv_iconst (v := (nI 0)) hx hb dX5_isPlayable_1 (by decide) ?_
  refine lv_iconst (v := (nI 0)) hx hb dX5_isPlayable_2 (by decide) ?_
  refine roI (rnV (As := [.int (nI 0), .int (nI 0)]) (rest := []) S0 (c_X5_kingOf l bd 0 0 (by decide) (by decide) hBp) wm_X5_57 wi_X5_kingOf ws_X5_kingOf wn_X5 wc_X5_kingOf hd_X5_kingOf ⟨rfl, rfl, by decide, by decide⟩ IW.blind (va_recv hK hP (ci := 4) (q0 := 0) rfl rfl) (IW.at hP hD hK hA hE hS) hl.1 (Nat.le_of_ble_eq_true rfl) dX5_isPlayable_3 rfl ⟨by decide, by decide⟩) (fun r_1 hr_1 => ?_)
  subst hr_1
  refine lv_if_lt (tgt := 39) hx hb dX5_isPlayable_6 (by decide) (fun c6 => ?_) (fun c6 => ?_)
  · skip
    rw [pI_neg (hg0 0)] at c6
    refine lv_iconst (v := (nI 0)) hx hb dX5_isPlayable_39 (by decide) ?_
    exact reZ (v := false) hx hb hr hlocks dX5_isPlayable_40 (congrArg bI (by unfold plb; first | (rw [decide_eq_false c6]; rfl) | (rw [decide_eq_true (Classical.byContradiction c6), decide_eq_false c15]; rfl) | (rw [decide_eq_true (Classical.byContradiction c6), decide_eq_true (Classical.byContradiction c15), c32]; rfl)))
  · skip
    rw [pI_neg (hg0 0)] at c6
    refine lv_aload_n hx hb dX5_isPlayable_9 rfl (lv_at hl 0 rfl) ?_
    refine lv_iconst (v := (nI 0)) hx hb dX5_isPlayable_10 (by decide) ?_
    refine lv_iconst (v := (nI 1)) hx hb dX5_isPlayable_11 (by decide) ?_
    refine roI (rnV (As := [.int (nI 0), .int (nI 1)]) (rest := []) S0 (c_X5_kingOf l bd 0 1 (by decide) (by decide) hBp) wm_X5_57 wi_X5_kingOf ws_X5_kingOf wn_X5 wc_X5_kingOf hd_X5_kingOf ⟨rfl, rfl, by decide, by decide⟩ IW.blind (va_recv hK hP (ci := 4) (q0 := 0) rfl rfl) (IW.at hP hD hK hA hE hS) hl.1 (Nat.le_of_ble_eq_true rfl) dX5_isPlayable_12 rfl ⟨by decide, by decide⟩) (fun r_2 hr_2 => ?_)
    subst hr_2
    refine lv_if_lt (tgt := 39) hx hb dX5_isPlayable_15 (by decide) (fun c15 => ?_) (fun c15 => ?_)
    · skip
      rw [pI_neg (hg0 1)] at c15
      refine lv_iconst (v := (nI 0)) hx hb dX5_isPlayable_39 (by decide) ?_
      exact reZ (v := false) hx hb hr hlocks dX5_isPlayable_40 (congrArg bI (by unfold plb; first | (rw [decide_eq_false c6]; rfl) | (rw [decide_eq_true (Classical.byContradiction c6), decide_eq_false c15]; rfl) | (rw [decide_eq_true (Classical.byContradiction c6), decide_eq_true (Classical.byContradiction c15), c32]; rfl)))
    · skip
      rw [pI_neg (hg0 1)] at c15
      have hka := kg_both (Classical.byContradiction c6) (Classical.byContradiction c15)
      refine lv_aload_n hx hb dX5_isPlayable_18 rfl (lv_at hl 0 rfl) ?_
      refine lv_iconst (v := (nI 0)) hx hb dX5_isPlayable_19 (by decide) ?_
      refine lv_iconst (v := (nI 1)) hx hb dX5_isPlayable_20 (by decide) ?_
      refine lv_aload_n hx hb dX5_isPlayable_21 rfl (lv_at hl 0 rfl) ?_
      refine va_get (D := D) (ci := 4) (v := .ref b0) (C := RX5) (T := TX5) (N := 7) hx hb hG wu_X5 hown hK hP 0 rfl rfl 1 (by decide) (hG _ wf_X5_7) (fun _ h9 => h9) rfl dX5_isPlayable_22 ?_
      refine lv_bipush (v := (nI 64)) hx hb dX5_isPlayable_25 (by decide) ?_
      refine va_iald hx hb hK hP 1 0 rfl rfl (vp_in_nI (by decide) (by decide)) dX5_isPlayable_27 ?_
      refine W.top (y := .int (F 64)) (congrArg (fun z => Value.int (F z)) (nI_clamp (by decide))) ?_
      refine W.top (y := .int (nI sd)) (congrArg Value.int hsd) ?_
      refine ln_isub hx hb dX5_isPlayable_28 (by omega) ?_
      refine roI (rnV (As := [.int (nI 0), .int (nI (1 - sd))]) (rest := []) S0 (c_X5_isChecked l bd 0 (1 - sd) (by decide) (by omega) hBp (hka _ (by omega))) wm_X5_63 wi_X5_isChecked ws_X5_isChecked wn_X5 wc_X5_isChecked hd_X5_isChecked ⟨rfl, rfl, by decide, by decide⟩ IW.blind (va_recv hK hP (ci := 4) (q0 := 0) rfl rfl) (IW.at hP hD hK hA hE hS) hl.1 (Nat.le_of_ble_eq_true rfl) dX5_isPlayable_29 rfl ⟨by decide, by decide⟩) (fun r_3 hr_3 => ?_)
      subst hr_3
      refine lb_if_ne (tgt := 39) hx hb dX5_isPlayable_32 (by decide) (fun c32 => ?_) (fun c32 => ?_)
      · skip
        refine lv_iconst (v := (nI 0)) hx hb dX5_isPlayable_39 (by decide) ?_
        exact reZ (v := false) hx hb hr hlocks dX5_isPlayable_40 (congrArg bI (by unfold plb; first | (rw [decide_eq_false c6]; rfl) | (rw [decide_eq_true (Classical.byContradiction c6), decide_eq_false c15]; rfl) | (rw [decide_eq_true (Classical.byContradiction c6), decide_eq_true (Classical.byContradiction c15), c32]; rfl)))
      · skip
        refine lv_iconst (v := (nI 1)) hx hb dX5_isPlayable_35 (by decide) ?_
        refine lv_goto (tgt := 40) hx hb dX5_isPlayable_36 (by decide) ?_
        exact reZ (v := true) hx hb hr hlocks dX5_isPlayable_40 (congrArg bI (by unfold plb; first | (rw [decide_eq_false c6]; rfl) | (rw [decide_eq_true (Classical.byContradiction c6), decide_eq_false c15]; rfl) | (rw [decide_eq_true (Classical.byContradiction c6), decide_eq_true (Classical.byContradiction c15), c32]; rfl)))
theorem dX5_playable_0 : decode cX5_playable 0 = .ok (.aload_n 0, 1) := by decide +kernel
theorem dX5_playable_1 : decode cX5_playable 1 = .ok (.iconst 0, 1) := by decide +kernel
theorem dX5_playable_2 : decode cX5_playable 2 = .ok (.putfield 22, 3) := by decide +kernel
theorem dX5_playable_5 : decode cX5_playable 5 = .ok (.aload_n 0, 1) := by decide +kernel
theorem dX5_playable_6 : decode cX5_playable 6 = .ok (.invokevirtual 67, 3) := by decide +kernel
theorem dX5_playable_9 : decode cX5_playable 9 = .ok (.ireturn, 1) := by decide +kernel
theorem hd_X5_playable : yX5_playable.cls ≠ "java/lang/invoke/MethodHandle" ∧ yX5_playable.cls ≠ "java/lang/invoke/VarHandle" ∧ (parseMethodDescriptor yX5_playable.desc).map (fun d => d.parameters.length) = some 0 := by decide +kernel
set_option maxHeartbeats 4000000 in
set_option maxRecDepth 100000 in
/-- playable -/
theorem c_X5_playable (l : Launch) {D : va_G} {cI cJ : ClassId} {A : Nat → Prop} {hm b0 b1 b2 b3 : Nat} {th mk sz : Int32} {F mv kp li : Nat → Int32} (bd : Nat → Nat) (sd rt ps : Nat) (hBd : Bd F 0 bd sd rt ps) : Met l yX5_playable (Cond.code yX5_playable cX5_playable 1 (some .boolean) :: wsL_law) (rK 5) (va_Pc [.ref hm] (IW D cI cJ A (rW cI hm b0 b1 b2 b3 th mk sz F mv kp li))) (va_Qi (fun r _ => r = bI (plb bd sd)) (fun (u : Unit) t => IW D cI cJ A (rW cI hm b0 b1 b2 b3 (nI 0) mk sz F mv kp li) t) A) 0 0 A := by
  refine entM (by decide) (Nat.le_of_ble_eq_true rfl) ?_
  intro p e s m below meth c ls S0 hr hlocks hG hnm hB hl
  have hx := S0.1
  have hb := S0.2.1
  have hown := S0.2.2.2.1
  have hl : lv_has ls 1 [(0, .ref hm)] := hl
  obtain ⟨hP, hD, hK, hA, hE⟩ := hB
  have hS : va_S A s.heap s.heap [] := va_S.rf
  refine lv_aload_n hx hb dX5_playable_0 rfl (lv_at hl 0 rfl) ?_
  refine lv_iconst (v := (nI 0)) hx hb dX5_playable_1 (by decide) ?_
  refine va_put (D := D) (ci := 4) (v := .int (nI 0)) (ty := .int) (C := RX5) (T := TX5) (N := 7) hx hb hG wu_X5 tyX5 tyX5_ok nmX5 hown hK hP hD hS 0 rfl rfl 0 (by decide) (hG _ wf_X5_22) (fun _ h9 => h9) rfl (by decide +kernel) rfl rfl (Nat.le_of_ble_eq_true rfl) dX5_playable_2 (fun H locs hP hD hS => ?_)
  have hP : va_P D classes (rW cI hm b0 b1 b2 b3 (nI 0) mk sz F mv kp li) H := hP
  have hD : va_D A (rW cI hm b0 b1 b2 b3 (nI 0) mk sz F mv kp li) := hD
  refine lv_aload_n hx hb dX5_playable_5 rfl (lv_at hl 0 rfl) ?_
  refine roI (rnV (As := []) (rest := []) S0 (c_X5_isPlayable l bd sd rt ps hBd) wm_X5_67 wi_X5_isPlayable ws_X5_isPlayable wn_X5 wc_X5_isPlayable hd_X5_isPlayable ⟨rfl, rfl, by decide, by decide⟩ IW.blind (va_recv hK hP (ci := 4) (q0 := 0) rfl rfl) (IW.at hP hD hK hA hE hS) hl.1 (Nat.le_of_ble_eq_true rfl) dX5_playable_6 rfl ⟨by decide, by decide⟩) (fun r_1 hr_1 => ?_)
  subst hr_1
  exact weZ (v := plb bd sd) (()) hx hb hr hlocks dX5_playable_9 rfl hP hD hK hA hE hS
theorem dX5_need_0 : decode cX5_need 0 = .ok (.aload_n 0, 1) := by decide +kernel
theorem dX5_need_1 : decode cX5_need 1 = .ok (.invokevirtual 67, 3) := by decide +kernel
theorem dX5_need_4 : decode cX5_need 4 = .ok (.istore_n 1, 1) := by decide +kernel
theorem dX5_need_5 : decode cX5_need 5 = .ok (.aload_n 0, 1) := by decide +kernel
theorem dX5_need_6 : decode cX5_need 6 = .ok (.iload_n 1, 1) := by decide +kernel
theorem dX5_need_7 : decode cX5_need 7 = .ok (.ifCond .eq 12, 3) := by decide +kernel
theorem dX5_need_10 : decode cX5_need 10 = .ok (.aload_n 0, 1) := by decide +kernel
theorem dX5_need_11 : decode cX5_need 11 = .ok (.iconst 0, 1) := by decide +kernel
theorem dX5_need_12 : decode cX5_need 12 = .ok (.iconst 0, 1) := by decide +kernel
theorem dX5_need_13 : decode cX5_need 13 = .ok (.invokevirtual 93, 3) := by decide +kernel
theorem dX5_need_16 : decode cX5_need 16 = .ok (.goto 4, 3) := by decide +kernel
theorem dX5_need_19 : decode cX5_need 19 = .ok (.iconst 0, 1) := by decide +kernel
theorem dX5_need_20 : decode cX5_need 20 = .ok (.putfield 96, 3) := by decide +kernel
theorem dX5_need_23 : decode cX5_need 23 = .ok (.iload_n 1, 1) := by decide +kernel
theorem dX5_need_24 : decode cX5_need 24 = .ok (.ifCond .eq 7, 3) := by decide +kernel
theorem dX5_need_27 : decode cX5_need 27 = .ok (.iconst 0, 1) := by decide +kernel
theorem dX5_need_28 : decode cX5_need 28 = .ok (.goto 4, 3) := by decide +kernel
theorem dX5_need_31 : decode cX5_need 31 = .ok (.iconst 1, 1) := by decide +kernel
theorem dX5_need_32 : decode cX5_need 32 = .ok (.ireturn, 1) := by decide +kernel
theorem hd_X5_need : yX5_need.cls ≠ "java/lang/invoke/MethodHandle" ∧ yX5_need.cls ≠ "java/lang/invoke/VarHandle" ∧ (parseMethodDescriptor yX5_need.desc).map (fun d => d.parameters.length) = some 0 := by decide +kernel
set_option maxHeartbeats 4000000 in
set_option maxRecDepth 100000 in
/-- need -/
theorem c_X5_need (l : Launch) {D : va_G} {cI cJ : ClassId} {A : Nat → Prop} {hm b0 b1 b2 b3 : Nat} {th mk sz : Int32} {F mv kp li : Nat → Int32} (bd : Nat → Nat) (sd rt ps : Nat) (hBd : Bd F 0 bd sd rt ps) (hLen : plb bd sd = true → (legs bd sd rt ps).length ≤ 1024) : Met l yX5_need (Cond.code yX5_need cX5_need 2 (some .int) :: wsL_law) (rK 7) (va_Pc [.ref hm] (IW D cI cJ A (rW cI hm b0 b1 b2 b3 th mk sz F mv kp li))) (va_Qi (fun r u => r = nI (ndN bd sd) ∧ Ag F u.1 67 ∧ LI u.2 (lgs bd sd rt ps)) (fun (u : (Nat → Int32) × (Nat → Int32)) t => IW D cI cJ A (rW cI hm b0 b1 b2 b3 th mk (nI (szN bd sd rt ps)) u.1 mv kp u.2) t) A) 0 0 A := by
  refine entM (by decide) (Nat.le_of_ble_eq_true rfl) ?_
  intro p e s m below meth c ls S0 hr hlocks hG hnm hB hl
  have hx := S0.1
  have hb := S0.2.1
  have hown := S0.2.2.2.1
  have hl : lv_has ls 2 [(0, .ref hm)] := hl
  obtain ⟨hP, hD, hK, hA, hE⟩ := hB
  have hS : va_S A s.heap s.heap [] := va_S.rf
  obtain ⟨hBp, hsd, hs2, hrt, hr16, hps, hp65⟩ := id hBd
  refine lv_aload_n hx hb dX5_need_0 rfl (lv_at hl 0 rfl) ?_
  refine roI (rnV (As := []) (rest := []) S0 (c_X5_isPlayable l bd sd rt ps hBd) wm_X5_67 wi_X5_isPlayable ws_X5_isPlayable wn_X5 wc_X5_isPlayable hd_X5_isPlayable ⟨rfl, rfl, by decide, by decide⟩ IW.blind (va_recv hK hP (ci := 4) (q0 := 0) rfl rfl) (IW.at hP hD hK hA hE hS) hl.1 (Nat.le_of_ble_eq_true rfl) dX5_need_1 rfl ⟨by decide, by decide⟩) (fun r_1 hr_1 => ?_)
  subst hr_1
  refine lv_istore_n (lv' := [(1, .int (bI (plb bd sd))), (0, .ref hm)]) hx hb dX5_need_4 rfl hl (by decide) rfl (fun ls hl => ?_)
  refine lv_aload_n hx hb dX5_need_5 rfl (lv_at hl 1 rfl) ?_
  refine lv_iload_n hx hb dX5_need_6 rfl (lv_at hl 0 rfl) ?_
  refine jnW (σ := (Nat → Int32) × (Nat → Int32)) (D := D) (A := A) (H0 := s.heap) 20 2 (fun x9 => [(1, .int (bI (plb bd sd))), (0, .ref hm)]) [.int (nI (szN bd sd rt ps)), .ref hm] (fun x9 => rW cI hm b0 b1 b2 b3 th mk sz x9.1 mv kp x9.2) (fun x9 => Ag F x9.1 67 ∧ LI x9.2 (lgs bd sd rt ps)) ?_ (fun hj_20 => ?_)
  · clear hP hD hS hl ls
    rintro ⟨G1, M1⟩ H locs hI hP hD hS ls hl
    try dsimp only at hI hP hD hl
    obtain ⟨hA1, hL1⟩ := hI
    refine va_put (D := D) (ci := 4) (v := .int (nI (szN bd sd rt ps))) (ty := .int) (C := RX5) (T := TX5) (N := 7) hx hb hG wu_X5 tyX5 tyX5_ok nmX5 hown hK hP hD hS 0 rfl rfl 5 (by decide) (hG _ wf_X5_96) (fun _ h9 => h9) rfl (by decide +kernel) rfl rfl (Nat.le_of_ble_eq_true rfl) dX5_need_20 (fun H locs hP hD hS => ?_)
    have hP : va_P D classes (rW cI hm b0 b1 b2 b3 th mk (nI (szN bd sd rt ps)) G1 mv kp M1) H := hP
    have hD : va_D A (rW cI hm b0 b1 b2 b3 th mk (nI (szN bd sd rt ps)) G1 mv kp M1) := hD
    refine lv_iload_n hx hb dX5_need_23 rfl (lv_at hl 0 rfl) ?_
    refine lb_if_eq (tgt := 31) hx hb dX5_need_24 (by decide) (fun c24 => ?_) (fun c24 => ?_)
    · skip
      refine lv_iconst (v := (nI 1)) hx hb dX5_need_31 (by decide) ?_
      exact weI ((G1, M1)) hx hb hr hlocks dX5_need_32 ⟨by unfold ndN; first | rw [if_pos c24] | rw [if_neg (show ¬ plb bd sd = true by rw [c24]; decide)], hA1, hL1⟩ hP hD hK hA hE hS
    · skip
      refine lv_iconst (v := (nI 0)) hx hb dX5_need_27 (by decide) ?_
      refine lv_goto (tgt := 32) hx hb dX5_need_28 (by decide) ?_
      exact weI ((G1, M1)) hx hb hr hlocks dX5_need_32 ⟨by unfold ndN; first | rw [if_pos c24] | rw [if_neg (show ¬ plb bd sd = true by rw [c24]; decide)], hA1, hL1⟩ hP hD hK hA hE hS
  · skip
    refine lb_if_eq (tgt := 19) hx hb dX5_need_7 (by decide) (fun c7 => ?_) (fun c7 => ?_)
    · skip
      refine lv_iconst (v := (nI 0)) hx hb dX5_need_19 (by decide) ?_
      refine W.top (y := .int (nI (szN bd sd rt ps))) (congrArg Value.int (congrArg nI (by unfold szN; first | rw [if_pos c7] | rw [if_neg (show ¬ plb bd sd = true by rw [c7]; decide)]))) ?_
      exact hj_20 (F, li) _ _ (by unfold lgs; first | (rw [if_pos c7]; exact ⟨hA9, hL9⟩) | (rw [if_neg (show ¬ plb bd sd = true by rw [c7]; decide)]; exact ⟨Ag.rf, LI_nil⟩)) hP hD hS ls (lv_sub hl [0, 1] rfl)
    · skip
      refine lv_aload_n hx hb dX5_need_10 rfl (lv_at hl 1 rfl) ?_
      refine lv_iconst (v := (nI 0)) hx hb dX5_need_11 (by decide) ?_
      refine lv_iconst (v := (nI 0)) hx hb dX5_need_12 (by decide) ?_
      refine chI (rnV (As := [.int (nI 0), .int (nI 0)]) (rest := [.ref hm]) S0 (c_X5_listed l bd sd rt ps 0 (by decide) hBd (plb_k hs2 c7) (hLen c7)) wm_X5_93 wi_X5_listed ws_X5_listed wn_X5 wc_X5_listed hd_X5_listed ⟨rfl, rfl, by decide, by decide⟩ IW.blind (va_recv hK hP (ci := 4) (q0 := 0) rfl rfl) (IW.at hP hD hK hA hE hS) hl.1 (Nat.le_of_ble_eq_true rfl) dX5_need_13 rfl ⟨by decide, by decide⟩) hS (fun r_2 u_3 H locs hu hP hD hS => ?_)
      obtain ⟨he9, hA9, hL9⟩ := hu
      subst he9
      have hP : va_P D classes (rW cI hm b0 b1 b2 b3 th mk sz u_3.1 mv kp u_3.2) H := hP
      have hD : va_D A (rW cI hm b0 b1 b2 b3 th mk sz u_3.1 mv kp u_3.2) := hD
      refine lv_goto (tgt := 20) hx hb dX5_need_16 (by decide) ?_
      refine W.top (y := .int (nI (szN bd sd rt ps))) (congrArg Value.int (congrArg nI (by unfold szN; first | rw [if_pos c7] | rw [if_neg (show ¬ plb bd sd = true by rw [c7]; decide)]))) ?_
      exact hj_20 (u_3.1, u_3.2) _ _ (by unfold lgs; first | (rw [if_pos c7]; exact ⟨hA9, hL9⟩) | (rw [if_neg (show ¬ plb bd sd = true by rw [c7]; decide)]; exact ⟨Ag.rf, LI_nil⟩)) hP hD hS ls (lv_sub hl [0, 1] rfl)
theorem dX5_thrown_0 : decode cX5_thrown 0 = .ok (.aload_n 0, 1) := by decide +kernel
theorem dX5_thrown_1 : decode cX5_thrown 1 = .ok (.getfield 22, 3) := by decide +kernel
theorem dX5_thrown_4 : decode cX5_thrown 4 = .ok (.ireturn, 1) := by decide +kernel
theorem hd_X5_thrown : yX5_thrown.cls ≠ "java/lang/invoke/MethodHandle" ∧ yX5_thrown.cls ≠ "java/lang/invoke/VarHandle" ∧ (parseMethodDescriptor yX5_thrown.desc).map (fun d => d.parameters.length) = some 0 := by decide +kernel
set_option maxHeartbeats 4000000 in
set_option maxRecDepth 100000 in
/-- thrown -/
theorem c_X5_thrown (l : Launch) {D : va_G} {cI cJ : ClassId} {A : Nat → Prop} {hm b0 b1 b2 b3 : Nat} {th mk sz : Int32} {F mv kp li : Nat → Int32}  : Met l yX5_thrown (Cond.code yX5_thrown cX5_thrown 1 (some .int) :: wsL_law) (rK 0) (va_Pc [.ref hm] (IW D cI cJ A (rW cI hm b0 b1 b2 b3 th mk sz F mv kp li))) (vp_Si (fun r => r = th)) 0 0 (fun _ => False) := by
  refine entM (by decide) (Nat.le_of_ble_eq_true rfl) ?_
  intro p e s m below meth c ls S0 hr hlocks hG hnm hB hl
  have hx := S0.1
  have hb := S0.2.1
  have hown := S0.2.2.2.1
  have hl : lv_has ls 1 [(0, .ref hm)] := hl
  obtain ⟨hP, hD, hK, hA, hE⟩ := hB
  have hS : va_S A s.heap s.heap [] := va_S.rf
  refine lv_aload_n hx hb dX5_thrown_0 rfl (lv_at hl 0 rfl) ?_
  refine va_get (D := D) (ci := 4) (v := .int th) (C := RX5) (T := TX5) (N := 7) hx hb hG wu_X5 hown hK hP 0 rfl rfl 0 (by decide) (hG _ wf_X5_22) (fun _ h9 => h9) rfl dX5_thrown_1 ?_
  exact reI hx hb hr hlocks dX5_thrown_4 rfl
end
section
def mvc (bd : Nat → Nat) (sd rt ps : Nat) (x : Int32) : Nat := if ndN bd sd = 0 then (if x < 0 ∨ ¬ x < nI (szN bd sd rt ps) then 2 else ndN bd sd) else ndN bd sd
theorem mvc_0 {bd : Nat → Nat} {sd rt ps : Nat} {x : Int32} (h : mvc bd sd rt ps x = 0) (hs : szN bd sd rt ps < 2 ^ 31) : ∃ j, j < szN bd sd rt ps ∧ x = nI j := by
  unfold mvc at h
  split at h
  · split at h
    · omega
    · rename_i h2
      have h3 : ¬ x < 0 := fun z => h2 (Or.inl z)
      have h4 : x < nI (szN bd sd rt ps) := Classical.byContradiction fun z => h2 (Or.inr z)
      obtain ⟨j, hj, rfl⟩ := nI_of h3
      exact ⟨j, (nI_ltI hj hs).mp h4, rfl⟩
  · omega
theorem plc_s (L : List Nat) (x : Int32) (n : Nat) : plc L x (n + 1) = if nI (L.getD n 0) = x then nI n else plc L x n := rfl
end
section
theorem dX5_placeOf_0 : decode cX5_placeOf 0 = .ok (.iconst (-1), 1) := by decide +kernel
theorem dX5_placeOf_1 : decode cX5_placeOf 1 = .ok (.istore_n 2, 1) := by decide +kernel
theorem dX5_placeOf_2 : decode cX5_placeOf 2 = .ok (.iconst 0, 1) := by decide +kernel
theorem dX5_placeOf_3 : decode cX5_placeOf 3 = .ok (.istore_n 3, 1) := by decide +kernel
theorem dX5_placeOf_4 : decode cX5_placeOf 4 = .ok (.iload_n 3, 1) := by decide +kernel
theorem dX5_placeOf_5 : decode cX5_placeOf 5 = .ok (.aload_n 0, 1) := by decide +kernel
theorem dX5_placeOf_6 : decode cX5_placeOf 6 = .ok (.getfield 96, 3) := by decide +kernel
theorem dX5_placeOf_9 : decode cX5_placeOf 9 = .ok (.if_icmp .ge 25, 3) := by decide +kernel
theorem dX5_placeOf_12 : decode cX5_placeOf 12 = .ok (.aload_n 0, 1) := by decide +kernel
theorem dX5_placeOf_13 : decode cX5_placeOf 13 = .ok (.getfield 19, 3) := by decide +kernel
theorem dX5_placeOf_16 : decode cX5_placeOf 16 = .ok (.iload_n 3, 1) := by decide +kernel
theorem dX5_placeOf_17 : decode cX5_placeOf 17 = .ok (.iaload, 1) := by decide +kernel
theorem dX5_placeOf_18 : decode cX5_placeOf 18 = .ok (.iload_n 1, 1) := by decide +kernel
theorem dX5_placeOf_19 : decode cX5_placeOf 19 = .ok (.if_icmp .ne 7, 3) := by decide +kernel
theorem dX5_placeOf_22 : decode cX5_placeOf 22 = .ok (.iload_n 3, 1) := by decide +kernel
theorem dX5_placeOf_23 : decode cX5_placeOf 23 = .ok (.goto 4, 3) := by decide +kernel
theorem dX5_placeOf_26 : decode cX5_placeOf 26 = .ok (.iload_n 2, 1) := by decide +kernel
theorem dX5_placeOf_27 : decode cX5_placeOf 27 = .ok (.istore_n 2, 1) := by decide +kernel
theorem dX5_placeOf_28 : decode cX5_placeOf 28 = .ok (.iinc 3 1, 3) := by decide +kernel
theorem dX5_placeOf_31 : decode cX5_placeOf 31 = .ok (.goto (-27), 3) := by decide +kernel
theorem dX5_placeOf_34 : decode cX5_placeOf 34 = .ok (.iload_n 2, 1) := by decide +kernel
theorem dX5_placeOf_35 : decode cX5_placeOf 35 = .ok (.ireturn, 1) := by decide +kernel
theorem hd_X5_placeOf : yX5_placeOf.cls ≠ "java/lang/invoke/MethodHandle" ∧ yX5_placeOf.cls ≠ "java/lang/invoke/VarHandle" ∧ (parseMethodDescriptor yX5_placeOf.desc).map (fun d => d.parameters.length) = some 1 := by decide +kernel
set_option maxHeartbeats 4000000 in
set_option maxRecDepth 100000 in
/-- placeOf -/
theorem c_X5_placeOf (l : Launch) {D : va_G} {cI cJ : ClassId} {A : Nat → Prop} {hm b0 b1 b2 b3 : Nat} {th mk sz : Int32} {F mv kp li : Nat → Int32} (x : Int32) (L : List Nat) (hL : LI li L) (hsz : sz = nI L.length) (hLn : L.length ≤ 1024) : Met l yX5_placeOf (Cond.code yX5_placeOf cX5_placeOf 4 (some .int) :: wsL_law) (rK 0) (va_Pc [.ref hm, .int x] (IW D cI cJ A (rW cI hm b0 b1 b2 b3 th mk sz F mv kp li))) (vp_Si (fun r => r = plc L x L.length)) 0 0 (fun _ => False) := by
  refine entM (by decide) (Nat.le_of_ble_eq_true rfl) ?_
  intro p e s m below meth c ls S0 hr hlocks hG hnm hB hl
  have hx := S0.1
  have hb := S0.2.1
  have hown := S0.2.2.2.1
  have hl : lv_has ls 4 [(0, .ref hm), (1, .int x)] := hl
  obtain ⟨hP, hD, hK, hA, hE⟩ := hB
  have hS : va_S A s.heap s.heap [] := va_S.rf
  refine lv_iconst (v := (-1)) hx hb dX5_placeOf_0 (by decide) ?_
  refine W.top (y := .int (plc L x 0)) (congrArg Value.int rfl) ?_
  refine lv_istore_n (lv' := [(2, .int (plc L x 0)), (0, .ref hm), (1, .int x)]) hx hb dX5_placeOf_1 rfl hl (by decide) rfl (fun ls hl => ?_)
  refine lv_iconst (v := (nI 0)) hx hb dX5_placeOf_2 (by decide) ?_
  refine lv_istore_n (lv' := [(3, .int (nI 0)), (2, .int (plc L x 0)), (0, .ref hm), (1, .int x)]) hx hb dX5_placeOf_3 rfl hl (by decide) rfl (fun ls hl => ?_)
  refine lpR (σ := (Nat)) 4 4 [] (fun x9 => [(0, .ref hm), (1, .int x), (2, .int (plc L x x9)), (3, .int (nI x9))]) (fun x9 => x9 ≤ L.length) (fun x9 => L.length - x9) 0 (Nat.zero_le _) (lv_sub hl [2, 3, 1, 0] rfl) ?_
  clear hl ls
  rintro i hI ih_4 ls hl
  try dsimp only at hI ih_4 hl
  refine lv_iload_n hx hb dX5_placeOf_4 rfl (lv_at hl 3 rfl) ?_
  refine lv_aload_n hx hb dX5_placeOf_5 rfl (lv_at hl 0 rfl) ?_
  refine va_get (D := D) (ci := 4) (v := .int sz) (C := RX5) (T := TX5) (N := 7) hx hb hG wu_X5 hown hK hP 0 rfl rfl 5 (by decide) (hG _ wf_X5_96) (fun _ h9 => h9) rfl dX5_placeOf_6 ?_
  refine W.top (y := .int (nI L.length)) (congrArg Value.int hsz) ?_
  refine ln_icmp_ge (tgt := 34) hx hb dX5_placeOf_9 (by decide) (by omega) (by omega) (fun c9 => ?_) (fun c9 => ?_)
  · skip
    refine lv_iload_n hx hb dX5_placeOf_34 rfl (lv_at hl 2 rfl) ?_
    exact reI hx hb hr hlocks dX5_placeOf_35 (by rw [show i = L.length by omega])
  · skip
    have hi : i < L.length := by omega
    refine lv_aload_n hx hb dX5_placeOf_12 rfl (lv_at hl 0 rfl) ?_
    refine va_get (D := D) (ci := 4) (v := .ref b3) (C := RX5) (T := TX5) (N := 7) hx hb hG wu_X5 hown hK hP 0 rfl rfl 6 (by decide) (hG _ wf_X5_19) (fun _ h9 => h9) rfl dX5_placeOf_13 ?_
    refine lv_iload_n hx hb dX5_placeOf_16 rfl (lv_at hl 3 rfl) ?_
    refine va_iald hx hb hK hP 4 0 rfl rfl (vp_in_nI (by omega) (by decide)) dX5_placeOf_17 ?_
    refine W.top (y := .int (li i)) (congrArg (fun z => Value.int (li z)) (nI_clamp (by omega))) ?_
    refine W.top (y := .int (nI (L.getD i 0))) (congrArg Value.int (hL i hi)) ?_
    refine lv_iload_n hx hb dX5_placeOf_18 rfl (lv_at hl 1 rfl) ?_
    refine jnG 27 4 [(0, .ref hm), (1, .int x), (2, .int (plc L x i)), (3, .int (nI i))] [.int (plc L x (i + 1))] ?_ (fun hj_27 => ?_)
    · intro ls hl
      refine lv_istore_n (lv' := [(2, .int (plc L x (i + 1))), (0, .ref hm), (1, .int x), (3, .int (nI i))]) hx hb dX5_placeOf_27 rfl hl (by decide) rfl (fun ls hl => ?_)
      refine lv_iinc (v := (nI (i + 1))) (lv' := [(3, .int (nI (i + 1))), (2, .int (plc L x (i + 1))), (0, .ref hm), (1, .int x)]) hx hb dX5_placeOf_28 hl (k := 3) rfl (show nI i + Int32.ofInt 1 = nI (i + 1) from nI_add _ 1) (by decide) rfl (fun ls hl => ?_)
      refine lv_goto (tgt := 4) hx hb dX5_placeOf_31 (by decide) ?_
      exact ih_4 (i + 1) (by omega) (by (try dsimp only); omega) ls (lv_sub hl [2, 3, 1, 0] rfl)
    · skip
      refine lv_icmp_ne (tgt := 26) hx hb dX5_placeOf_19 (by decide) (fun c19 => ?_) (fun c19 => ?_)
      · skip
        refine lv_iload_n hx hb dX5_placeOf_26 rfl (lv_at hl 2 rfl) ?_
        refine W.top (y := .int (plc L x (i + 1))) (congrArg Value.int (by rw [plc_s]; first | rw [if_pos c19] | rw [if_neg c19])) ?_
        exact hj_27 ls (lv_sub hl [0, 1, 2, 3] rfl)
      · skip
        refine lv_iload_n hx hb dX5_placeOf_22 rfl (lv_at hl 3 rfl) ?_
        refine lv_goto (tgt := 27) hx hb dX5_placeOf_23 (by decide) ?_
        refine W.top (y := .int (plc L x (i + 1))) (congrArg Value.int (by rw [plc_s]; first | rw [if_pos c19] | rw [if_neg c19])) ?_
        exact hj_27 ls (lv_sub hl [0, 1, 2, 3] rfl)
theorem dX5_count_0 : decode cX5_count 0 = .ok (.aload_n 0, 1) := by decide +kernel
theorem dX5_count_1 : decode cX5_count 1 = .ok (.aload_n 0, 1) := by decide +kernel
theorem dX5_count_2 : decode cX5_count 2 = .ok (.invokevirtual 99, 3) := by decide +kernel
theorem dX5_count_5 : decode cX5_count 5 = .ok (.putfield 22, 3) := by decide +kernel
theorem dX5_count_8 : decode cX5_count 8 = .ok (.aload_n 0, 1) := by decide +kernel
theorem dX5_count_9 : decode cX5_count 9 = .ok (.getfield 96, 3) := by decide +kernel
theorem dX5_count_12 : decode cX5_count 12 = .ok (.ireturn, 1) := by decide +kernel
theorem hd_X5_count : yX5_count.cls ≠ "java/lang/invoke/MethodHandle" ∧ yX5_count.cls ≠ "java/lang/invoke/VarHandle" ∧ (parseMethodDescriptor yX5_count.desc).map (fun d => d.parameters.length) = some 0 := by decide +kernel
set_option maxHeartbeats 4000000 in
set_option maxRecDepth 100000 in
/-- count -/
theorem c_X5_count (l : Launch) {D : va_G} {cI cJ : ClassId} {A : Nat → Prop} {hm b0 b1 b2 b3 : Nat} {th mk sz : Int32} {F mv kp li : Nat → Int32} (bd : Nat → Nat) (sd rt ps : Nat) (hBd : Bd F 0 bd sd rt ps) (hLen : plb bd sd = true → (legs bd sd rt ps).length ≤ 1024) : Met l yX5_count (Cond.code yX5_count cX5_count 1 (some .int) :: wsL_law) (rK 8) (va_Pc [.ref hm] (IW D cI cJ A (rW cI hm b0 b1 b2 b3 th mk sz F mv kp li))) (va_Qi (fun r u => r = nI (szN bd sd rt ps) ∧ Ag F u.1 67 ∧ LI u.2 (lgs bd sd rt ps)) (fun (u : (Nat → Int32) × (Nat → Int32)) t => IW D cI cJ A (rW cI hm b0 b1 b2 b3 (nI (ndN bd sd)) mk (nI (szN bd sd rt ps)) u.1 mv kp u.2) t) A) 0 0 A := by
  refine entM (by decide) (Nat.le_of_ble_eq_true rfl) ?_
  intro p e s m below meth c ls S0 hr hlocks hG hnm hB hl
  have hx := S0.1
  have hb := S0.2.1
  have hown := S0.2.2.2.1
  have hl : lv_has ls 1 [(0, .ref hm)] := hl
  obtain ⟨hP, hD, hK, hA, hE⟩ := hB
  have hS : va_S A s.heap s.heap [] := va_S.rf
  obtain ⟨hBp, hsd, hs2, hrt, hr16, hps, hp65⟩ := id hBd
  have hnd : ndN bd sd < 2 := by unfold ndN; split <;> omega
  refine lv_aload_n hx hb dX5_count_0 rfl (lv_at hl 0 rfl) ?_
  refine lv_aload_n hx hb dX5_count_1 rfl (lv_at hl 0 rfl) ?_
  refine chI (rnV (As := []) (rest := [.ref hm]) S0 (c_X5_need l bd sd rt ps hBd hLen) wm_X5_99 wi_X5_need ws_X5_need wn_X5 wc_X5_need hd_X5_need ⟨rfl, rfl, by decide, by decide⟩ IW.blind (va_recv hK hP (ci := 4) (q0 := 0) rfl rfl) (IW.at hP hD hK hA hE hS) hl.1 (Nat.le_of_ble_eq_true rfl) dX5_count_2 rfl ⟨by decide, by decide⟩) hS (fun r_1 u_2 H locs hu hP hD hS => ?_)
  obtain ⟨he9, hA9, hL9⟩ := hu
  subst he9
  have hP : va_P D classes (rW cI hm b0 b1 b2 b3 th mk (nI (szN bd sd rt ps)) u_2.1 mv kp u_2.2) H := hP
  have hD : va_D A (rW cI hm b0 b1 b2 b3 th mk (nI (szN bd sd rt ps)) u_2.1 mv kp u_2.2) := hD
  refine va_put (D := D) (ci := 4) (v := .int (nI (ndN bd sd))) (ty := .int) (C := RX5) (T := TX5) (N := 7) hx hb hG wu_X5 tyX5 tyX5_ok nmX5 hown hK hP hD hS 0 rfl rfl 0 (by decide) (hG _ wf_X5_22) (fun _ h9 => h9) rfl (by decide +kernel) rfl rfl (Nat.le_of_ble_eq_true rfl) dX5_count_5 (fun H locs hP hD hS => ?_)
  have hP : va_P D classes (rW cI hm b0 b1 b2 b3 (nI (ndN bd sd)) mk (nI (szN bd sd rt ps)) u_2.1 mv kp u_2.2) H := hP
  have hD : va_D A (rW cI hm b0 b1 b2 b3 (nI (ndN bd sd)) mk (nI (szN bd sd rt ps)) u_2.1 mv kp u_2.2) := hD
  refine lv_aload_n hx hb dX5_count_8 rfl (lv_at hl 0 rfl) ?_
  refine va_get (D := D) (ci := 4) (v := .int (nI (szN bd sd rt ps))) (C := RX5) (T := TX5) (N := 7) hx hb hG wu_X5 hown hK hP 0 rfl rfl 5 (by decide) (hG _ wf_X5_96) (fun _ h9 => h9) rfl dX5_count_9 ?_
  exact weI ((u_2.1, u_2.2)) hx hb hr hlocks dX5_count_12 ⟨rfl, hA9, hL9⟩ hP hD hK hA hE hS
theorem dX5_move_0 : decode cX5_move 0 = .ok (.aload_n 0, 1) := by decide +kernel
theorem dX5_move_1 : decode cX5_move 1 = .ok (.aload_n 0, 1) := by decide +kernel
theorem dX5_move_2 : decode cX5_move 2 = .ok (.invokevirtual 99, 3) := by decide +kernel
theorem dX5_move_5 : decode cX5_move 5 = .ok (.putfield 22, 3) := by decide +kernel
theorem dX5_move_8 : decode cX5_move 8 = .ok (.aload_n 0, 1) := by decide +kernel
theorem dX5_move_9 : decode cX5_move 9 = .ok (.aload_n 0, 1) := by decide +kernel
theorem dX5_move_10 : decode cX5_move 10 = .ok (.getfield 22, 3) := by decide +kernel
theorem dX5_move_13 : decode cX5_move 13 = .ok (.ifCond .ne 19, 3) := by decide +kernel
theorem dX5_move_16 : decode cX5_move 16 = .ok (.iload_n 1, 1) := by decide +kernel
theorem dX5_move_17 : decode cX5_move 17 = .ok (.ifCond .lt 11, 3) := by decide +kernel
theorem dX5_move_20 : decode cX5_move 20 = .ok (.iload_n 1, 1) := by decide +kernel
theorem dX5_move_21 : decode cX5_move 21 = .ok (.aload_n 0, 1) := by decide +kernel
theorem dX5_move_22 : decode cX5_move 22 = .ok (.getfield 96, 3) := by decide +kernel
theorem dX5_move_25 : decode cX5_move 25 = .ok (.if_icmp .lt 7, 3) := by decide +kernel
theorem dX5_move_28 : decode cX5_move 28 = .ok (.iconst 2, 1) := by decide +kernel
theorem dX5_move_29 : decode cX5_move 29 = .ok (.goto 7, 3) := by decide +kernel
theorem dX5_move_32 : decode cX5_move 32 = .ok (.aload_n 0, 1) := by decide +kernel
theorem dX5_move_33 : decode cX5_move 33 = .ok (.getfield 22, 3) := by decide +kernel
theorem dX5_move_36 : decode cX5_move 36 = .ok (.putfield 22, 3) := by decide +kernel
theorem dX5_move_39 : decode cX5_move 39 = .ok (.aload_n 0, 1) := by decide +kernel
theorem dX5_move_40 : decode cX5_move 40 = .ok (.getfield 22, 3) := by decide +kernel
theorem dX5_move_43 : decode cX5_move 43 = .ok (.ifCond .le 7, 3) := by decide +kernel
theorem dX5_move_46 : decode cX5_move 46 = .ok (.iconst 0, 1) := by decide +kernel
theorem dX5_move_47 : decode cX5_move 47 = .ok (.goto 9, 3) := by decide +kernel
theorem dX5_move_50 : decode cX5_move 50 = .ok (.aload_n 0, 1) := by decide +kernel
theorem dX5_move_51 : decode cX5_move 51 = .ok (.getfield 19, 3) := by decide +kernel
theorem dX5_move_54 : decode cX5_move 54 = .ok (.iload_n 1, 1) := by decide +kernel
theorem dX5_move_55 : decode cX5_move 55 = .ok (.iaload, 1) := by decide +kernel
theorem dX5_move_56 : decode cX5_move 56 = .ok (.ireturn, 1) := by decide +kernel
theorem hd_X5_move : yX5_move.cls ≠ "java/lang/invoke/MethodHandle" ∧ yX5_move.cls ≠ "java/lang/invoke/VarHandle" ∧ (parseMethodDescriptor yX5_move.desc).map (fun d => d.parameters.length) = some 1 := by decide +kernel
set_option maxHeartbeats 4000000 in
set_option maxRecDepth 100000 in
/-- move -/
theorem c_X5_move (l : Launch) {D : va_G} {cI cJ : ClassId} {A : Nat → Prop} {hm b0 b1 b2 b3 : Nat} {th mk sz : Int32} {F mv kp li : Nat → Int32} (bd : Nat → Nat) (sd rt ps : Nat) (hBd : Bd F 0 bd sd rt ps) (hLen : plb bd sd = true → (legs bd sd rt ps).length ≤ 1024) (x : Int32) : Met l yX5_move (Cond.code yX5_move cX5_move 2 (some .int) :: wsL_law) (rK 8) (va_Pc [.ref hm, .int x] (IW D cI cJ A (rW cI hm b0 b1 b2 b3 th mk sz F mv kp li))) (va_Qi (fun r u => r = (if mvc bd sd rt ps x = 0 then nI ((lgs bd sd rt ps).getD x.toNatClampNeg 0) else nI 0) ∧ Ag F u.1 67 ∧ LI u.2 (lgs bd sd rt ps)) (fun (u : (Nat → Int32) × (Nat → Int32)) t => IW D cI cJ A (rW cI hm b0 b1 b2 b3 (nI (mvc bd sd rt ps x)) mk (nI (szN bd sd rt ps)) u.1 mv kp u.2) t) A) 0 0 A := by
  refine entM (by decide) (Nat.le_of_ble_eq_true rfl) ?_
  intro p e s m below meth c ls S0 hr hlocks hG hnm hB hl
  have hx := S0.1
  have hb := S0.2.1
  have hown := S0.2.2.2.1
  have hl : lv_has ls 2 [(0, .ref hm), (1, .int x)] := hl
  obtain ⟨hP, hD, hK, hA, hE⟩ := hB
  have hS : va_S A s.heap s.heap [] := va_S.rf
  obtain ⟨hBp, hsd, hs2, hrt, hr16, hps, hp65⟩ := id hBd
  have hnd : ndN bd sd < 2 := by unfold ndN; split <;> omega
  have hszl : szN bd sd rt ps ≤ 1024 := by unfold szN; split; (rename_i h9; exact hLen h9); exact Nat.zero_le _
  refine lv_aload_n hx hb dX5_move_0 rfl (lv_at hl 0 rfl) ?_
  refine lv_aload_n hx hb dX5_move_1 rfl (lv_at hl 0 rfl) ?_
  refine chI (rnV (As := []) (rest := [.ref hm]) S0 (c_X5_need l bd sd rt ps hBd hLen) wm_X5_99 wi_X5_need ws_X5_need wn_X5 wc_X5_need hd_X5_need ⟨rfl, rfl, by decide, by decide⟩ IW.blind (va_recv hK hP (ci := 4) (q0 := 0) rfl rfl) (IW.at hP hD hK hA hE hS) hl.1 (Nat.le_of_ble_eq_true rfl) dX5_move_2 rfl ⟨by decide, by decide⟩) hS (fun r_1 u_2 H locs hu hP hD hS => ?_)
  obtain ⟨he9, hA9, hL9⟩ := hu
  subst he9
  have hP : va_P D classes (rW cI hm b0 b1 b2 b3 th mk (nI (szN bd sd rt ps)) u_2.1 mv kp u_2.2) H := hP
  have hD : va_D A (rW cI hm b0 b1 b2 b3 th mk (nI (szN bd sd rt ps)) u_2.1 mv kp u_2.2) := hD
  refine va_put (D := D) (ci := 4) (v := .int (nI (ndN bd sd))) (ty := .int) (C := RX5) (T := TX5) (N := 7) hx hb hG wu_X5 tyX5 tyX5_ok nmX5 hown hK hP hD hS 0 rfl rfl 0 (by decide) (hG _ wf_X5_22) (fun _ h9 => h9) rfl (by decide +kernel) rfl rfl (Nat.le_of_ble_eq_true rfl) dX5_move_5 (fun H locs hP hD hS => ?_)
  have hP : va_P D classes (rW cI hm b0 b1 b2 b3 (nI (ndN bd sd)) mk (nI (szN bd sd rt ps)) u_2.1 mv kp u_2.2) H := hP
  have hD : va_D A (rW cI hm b0 b1 b2 b3 (nI (ndN bd sd)) mk (nI (szN bd sd rt ps)) u_2.1 mv kp u_2.2) := hD
  refine lv_aload_n hx hb dX5_move_8 rfl (lv_at hl 0 rfl) ?_
  refine lv_aload_n hx hb dX5_move_9 rfl (lv_at hl 0 rfl) ?_
  refine va_get (D := D) (ci := 4) (v := .int (nI (ndN bd sd))) (C := RX5) (T := TX5) (N := 7) hx hb hG wu_X5 hown hK hP 0 rfl rfl 0 (by decide) (hG _ wf_X5_22) (fun _ h9 => h9) rfl dX5_move_10 ?_
  refine jnG 36 2 [(0, .ref hm), (1, .int x)] [.int (nI (mvc bd sd rt ps x)), .ref hm] ?_ (fun hj_36 => ?_)
  · intro ls hl
    refine va_put (D := D) (ci := 4) (v := .int (nI (mvc bd sd rt ps x))) (ty := .int) (C := RX5) (T := TX5) (N := 7) hx hb hG wu_X5 tyX5 tyX5_ok nmX5 hown hK hP hD hS 0 rfl rfl 0 (by decide) (hG _ wf_X5_22) (fun _ h9 => h9) rfl (by decide +kernel) rfl rfl (Nat.le_of_ble_eq_true rfl) dX5_move_36 (fun H locs hP hD hS => ?_)
    have hP : va_P D classes (rW cI hm b0 b1 b2 b3 (nI (mvc bd sd rt ps x)) mk (nI (szN bd sd rt ps)) u_2.1 mv kp u_2.2) H := hP
    have hD : va_D A (rW cI hm b0 b1 b2 b3 (nI (mvc bd sd rt ps x)) mk (nI (szN bd sd rt ps)) u_2.1 mv kp u_2.2) := hD
    have hmc : mvc bd sd rt ps x < 3 := by unfold mvc; (repeat' split) <;> omega
    refine lv_aload_n hx hb dX5_move_39 rfl (lv_at hl 0 rfl) ?_
    refine va_get (D := D) (ci := 4) (v := .int (nI (mvc bd sd rt ps x))) (C := RX5) (T := TX5) (N := 7) hx hb hG wu_X5 hown hK hP 0 rfl rfl 0 (by decide) (hG _ wf_X5_22) (fun _ h9 => h9) rfl dX5_move_40 ?_
    refine ln_if_le (tgt := 50) hx hb dX5_move_43 (by decide) (by omega) (fun c43 => ?_) (fun c43 => ?_)
    · skip
      obtain ⟨j9, hj9, hx9⟩ := mvc_0 c43 (by omega)
      have hL8 := hL9 j9 (by rw [← szN_eq]; exact hj9)
      refine lv_aload_n hx hb dX5_move_50 rfl (lv_at hl 0 rfl) ?_
      refine va_get (D := D) (ci := 4) (v := .ref b3) (C := RX5) (T := TX5) (N := 7) hx hb hG wu_X5 hown hK hP 0 rfl rfl 6 (by decide) (hG _ wf_X5_19) (fun _ h9 => h9) rfl dX5_move_51 ?_
      refine lv_iload_n hx hb dX5_move_54 rfl (lv_at hl 1 rfl) ?_
      refine W.top (y := .int (nI j9)) (congrArg Value.int hx9) ?_
      refine va_iald hx hb hK hP 4 0 rfl rfl (vp_in_nI (by omega) (by decide)) dX5_move_55 ?_
      refine W.top (y := .int (u_2.2 j9)) (congrArg (fun z => Value.int (u_2.2 z)) (nI_clamp (by omega))) ?_
      refine W.top (y := .int (nI ((lgs bd sd rt ps).getD j9 0))) (congrArg Value.int hL8) ?_
      exact weI ((u_2.1, u_2.2)) hx hb hr hlocks dX5_move_56 ⟨by first | (rw [if_pos c43, hx9, nI_clamp (by omega)]) | (rw [if_neg c43]), hA9, hL9⟩ hP hD hK hA hE hS
    · skip
      refine lv_iconst (v := (nI 0)) hx hb dX5_move_46 (by decide) ?_
      refine lv_goto (tgt := 56) hx hb dX5_move_47 (by decide) ?_
      exact weI ((u_2.1, u_2.2)) hx hb hr hlocks dX5_move_56 ⟨by first | (rw [if_pos c43, hx9, nI_clamp (by omega)]) | (rw [if_neg c43]), hA9, hL9⟩ hP hD hK hA hE hS
  · skip
    refine ln_if_ne (tgt := 32) hx hb dX5_move_13 (by decide) (by omega) (fun c13 => ?_) (fun c13 => ?_)
    · skip
      refine lv_aload_n hx hb dX5_move_32 rfl (lv_at hl 0 rfl) ?_
      refine va_get (D := D) (ci := 4) (v := .int (nI (ndN bd sd))) (C := RX5) (T := TX5) (N := 7) hx hb hG wu_X5 hown hK hP 0 rfl rfl 0 (by decide) (hG _ wf_X5_22) (fun _ h9 => h9) rfl dX5_move_33 ?_
      refine W.top (y := .int (nI (mvc bd sd rt ps x))) (congrArg Value.int (congrArg nI (by unfold mvc; first | (rw [if_neg c13]) | (rw [if_pos c13, if_pos (Or.inl c17)]) | (rw [if_pos c13, if_pos (Or.inr c25)]) | (rw [if_pos c13, if_neg (fun z => z.elim c17 (fun y => y c25)), c13])))) ?_
      exact hj_36 ls (lv_sub hl [0, 1] rfl)
    · skip
      refine lv_iload_n hx hb dX5_move_16 rfl (lv_at hl 1 rfl) ?_
      refine lv_if_lt (tgt := 28) hx hb dX5_move_17 (by decide) (fun c17 => ?_) (fun c17 => ?_)
      · skip
        refine lv_iconst (v := (nI 2)) hx hb dX5_move_28 (by decide) ?_
        refine lv_goto (tgt := 36) hx hb dX5_move_29 (by decide) ?_
        refine W.top (y := .int (nI (mvc bd sd rt ps x))) (congrArg Value.int (congrArg nI (by unfold mvc; first | (rw [if_neg c13]) | (rw [if_pos c13, if_pos (Or.inl c17)]) | (rw [if_pos c13, if_pos (Or.inr c25)]) | (rw [if_pos c13, if_neg (fun z => z.elim c17 (fun y => y c25)), c13])))) ?_
        exact hj_36 ls (lv_sub hl [0, 1] rfl)
      · skip
        refine lv_iload_n hx hb dX5_move_20 rfl (lv_at hl 1 rfl) ?_
        refine lv_aload_n hx hb dX5_move_21 rfl (lv_at hl 0 rfl) ?_
        refine va_get (D := D) (ci := 4) (v := .int (nI (szN bd sd rt ps))) (C := RX5) (T := TX5) (N := 7) hx hb hG wu_X5 hown hK hP 0 rfl rfl 5 (by decide) (hG _ wf_X5_96) (fun _ h9 => h9) rfl dX5_move_22 ?_
        refine lv_icmp_lt (tgt := 32) hx hb dX5_move_25 (by decide) (fun c25 => ?_) (fun c25 => ?_)
        · skip
          refine lv_aload_n hx hb dX5_move_32 rfl (lv_at hl 0 rfl) ?_
          refine va_get (D := D) (ci := 4) (v := .int (nI (ndN bd sd))) (C := RX5) (T := TX5) (N := 7) hx hb hG wu_X5 hown hK hP 0 rfl rfl 0 (by decide) (hG _ wf_X5_22) (fun _ h9 => h9) rfl dX5_move_33 ?_
          refine W.top (y := .int (nI (mvc bd sd rt ps x))) (congrArg Value.int (congrArg nI (by unfold mvc; first | (rw [if_neg c13]) | (rw [if_pos c13, if_pos (Or.inl c17)]) | (rw [if_pos c13, if_pos (Or.inr c25)]) | (rw [if_pos c13, if_neg (fun z => z.elim c17 (fun y => y c25)), c13])))) ?_
          exact hj_36 ls (lv_sub hl [0, 1] rfl)
        · skip
          refine lv_iconst (v := (nI 2)) hx hb dX5_move_28 (by decide) ?_
          refine lv_goto (tgt := 36) hx hb dX5_move_29 (by decide) ?_
          refine W.top (y := .int (nI (mvc bd sd rt ps x))) (congrArg Value.int (congrArg nI (by unfold mvc; first | (rw [if_neg c13]) | (rw [if_pos c13, if_pos (Or.inl c17)]) | (rw [if_pos c13, if_pos (Or.inr c25)]) | (rw [if_pos c13, if_neg (fun z => z.elim c17 (fun y => y c25)), c13])))) ?_
          exact hj_36 ls (lv_sub hl [0, 1] rfl)
theorem dX5_place_0 : decode cX5_place 0 = .ok (.aload_n 0, 1) := by decide +kernel
theorem dX5_place_1 : decode cX5_place 1 = .ok (.aload_n 0, 1) := by decide +kernel
theorem dX5_place_2 : decode cX5_place 2 = .ok (.invokevirtual 99, 3) := by decide +kernel
theorem dX5_place_5 : decode cX5_place 5 = .ok (.putfield 22, 3) := by decide +kernel
theorem dX5_place_8 : decode cX5_place 8 = .ok (.aload_n 0, 1) := by decide +kernel
theorem dX5_place_9 : decode cX5_place 9 = .ok (.getfield 22, 3) := by decide +kernel
theorem dX5_place_12 : decode cX5_place 12 = .ok (.ifCond .le 7, 3) := by decide +kernel
theorem dX5_place_15 : decode cX5_place 15 = .ok (.iconst 0, 1) := by decide +kernel
theorem dX5_place_16 : decode cX5_place 16 = .ok (.goto 8, 3) := by decide +kernel
theorem dX5_place_19 : decode cX5_place 19 = .ok (.aload_n 0, 1) := by decide +kernel
theorem dX5_place_20 : decode cX5_place 20 = .ok (.iload_n 1, 1) := by decide +kernel
theorem dX5_place_21 : decode cX5_place 21 = .ok (.invokevirtual 103, 3) := by decide +kernel
theorem dX5_place_24 : decode cX5_place 24 = .ok (.ireturn, 1) := by decide +kernel
theorem hd_X5_place : yX5_place.cls ≠ "java/lang/invoke/MethodHandle" ∧ yX5_place.cls ≠ "java/lang/invoke/VarHandle" ∧ (parseMethodDescriptor yX5_place.desc).map (fun d => d.parameters.length) = some 1 := by decide +kernel
set_option maxHeartbeats 4000000 in
set_option maxRecDepth 100000 in
/-- place -/
theorem c_X5_place (l : Launch) {D : va_G} {cI cJ : ClassId} {A : Nat → Prop} {hm b0 b1 b2 b3 : Nat} {th mk sz : Int32} {F mv kp li : Nat → Int32} (bd : Nat → Nat) (sd rt ps : Nat) (hBd : Bd F 0 bd sd rt ps) (hLen : plb bd sd = true → (legs bd sd rt ps).length ≤ 1024) (x : Int32) : Met l yX5_place (Cond.code yX5_place cX5_place 2 (some .int) :: wsL_law) (rK 8) (va_Pc [.ref hm, .int x] (IW D cI cJ A (rW cI hm b0 b1 b2 b3 th mk sz F mv kp li))) (va_Qi (fun r u => r = (if ndN bd sd = 0 then plc (lgs bd sd rt ps) x (lgs bd sd rt ps).length else nI 0) ∧ Ag F u.1 67 ∧ LI u.2 (lgs bd sd rt ps)) (fun (u : (Nat → Int32) × (Nat → Int32)) t => IW D cI cJ A (rW cI hm b0 b1 b2 b3 (nI (ndN bd sd)) mk (nI (szN bd sd rt ps)) u.1 mv kp u.2) t) A) 0 0 A := by
  refine entM (by decide) (Nat.le_of_ble_eq_true rfl) ?_
  intro p e s m below meth c ls S0 hr hlocks hG hnm hB hl
  have hx := S0.1
  have hb := S0.2.1
  have hown := S0.2.2.2.1
  have hl : lv_has ls 2 [(0, .ref hm), (1, .int x)] := hl
  obtain ⟨hP, hD, hK, hA, hE⟩ := hB
  have hS : va_S A s.heap s.heap [] := va_S.rf
  obtain ⟨hBp, hsd, hs2, hrt, hr16, hps, hp65⟩ := id hBd
  have hnd : ndN bd sd < 2 := by unfold ndN; split <;> omega
  have hszl : szN bd sd rt ps ≤ 1024 := by unfold szN; split; (rename_i h9; exact hLen h9); exact Nat.zero_le _
  refine lv_aload_n hx hb dX5_place_0 rfl (lv_at hl 0 rfl) ?_
  refine lv_aload_n hx hb dX5_place_1 rfl (lv_at hl 0 rfl) ?_
  refine chI (rnV (As := []) (rest := [.ref hm]) S0 (c_X5_need l bd sd rt ps hBd hLen) wm_X5_99 wi_X5_need ws_X5_need wn_X5 wc_X5_need hd_X5_need ⟨rfl, rfl, by decide, by decide⟩ IW.blind (va_recv hK hP (ci := 4) (q0 := 0) rfl rfl) (IW.at hP hD hK hA hE hS) hl.1 (Nat.le_of_ble_eq_true rfl) dX5_place_2 rfl ⟨by decide, by decide⟩) hS (fun r_1 u_2 H locs hu hP hD hS => ?_)
  obtain ⟨he9, hA9, hL9⟩ := hu
  subst he9
  have hP : va_P D classes (rW cI hm b0 b1 b2 b3 th mk (nI (szN bd sd rt ps)) u_2.1 mv kp u_2.2) H := hP
  have hD : va_D A (rW cI hm b0 b1 b2 b3 th mk (nI (szN bd sd rt ps)) u_2.1 mv kp u_2.2) := hD
  refine va_put (D := D) (ci := 4) (v := .int (nI (ndN bd sd))) (ty := .int) (C := RX5) (T := TX5) (N := 7) hx hb hG wu_X5 tyX5 tyX5_ok nmX5 hown hK hP hD hS 0 rfl rfl 0 (by decide) (hG _ wf_X5_22) (fun _ h9 => h9) rfl (by decide +kernel) rfl rfl (Nat.le_of_ble_eq_true rfl) dX5_place_5 (fun H locs hP hD hS => ?_)
  have hP : va_P D classes (rW cI hm b0 b1 b2 b3 (nI (ndN bd sd)) mk (nI (szN bd sd rt ps)) u_2.1 mv kp u_2.2) H := hP
  have hD : va_D A (rW cI hm b0 b1 b2 b3 (nI (ndN bd sd)) mk (nI (szN bd sd rt ps)) u_2.1 mv kp u_2.2) := hD
  refine lv_aload_n hx hb dX5_place_8 rfl (lv_at hl 0 rfl) ?_
  refine va_get (D := D) (ci := 4) (v := .int (nI (ndN bd sd))) (C := RX5) (T := TX5) (N := 7) hx hb hG wu_X5 hown hK hP 0 rfl rfl 0 (by decide) (hG _ wf_X5_22) (fun _ h9 => h9) rfl dX5_place_9 ?_
  refine ln_if_le (tgt := 19) hx hb dX5_place_12 (by decide) (by omega) (fun c12 => ?_) (fun c12 => ?_)
  · skip
    refine lv_aload_n hx hb dX5_place_19 rfl (lv_at hl 0 rfl) ?_
    refine lv_iload_n hx hb dX5_place_20 rfl (lv_at hl 1 rfl) ?_
    refine roI (rnV (As := [.int x]) (rest := []) S0 (c_X5_placeOf l x (lgs bd sd rt ps) hL9 (congrArg nI (szN_eq bd sd rt ps)) (by rw [← szN_eq]; exact hszl)) wm_X5_103 wi_X5_placeOf ws_X5_placeOf wn_X5 wc_X5_placeOf hd_X5_placeOf ⟨rfl, rfl, by decide, by decide⟩ IW.blind (va_recv hK hP (ci := 4) (q0 := 0) rfl rfl) (IW.at hP hD hK hA hE hS) hl.1 (Nat.le_of_ble_eq_true rfl) dX5_place_21 rfl ⟨by decide, by decide⟩) (fun r_3 hr_3 => ?_)
    subst hr_3
    exact weI ((u_2.1, u_2.2)) hx hb hr hlocks dX5_place_24 ⟨by first | rw [if_pos c12] | rw [if_neg c12], hA9, hL9⟩ hP hD hK hA hE hS
  · skip
    refine lv_iconst (v := (nI 0)) hx hb dX5_place_15 (by decide) ?_
    refine lv_goto (tgt := 24) hx hb dX5_place_16 (by decide) ?_
    exact weI ((u_2.1, u_2.2)) hx hb hr hlocks dX5_place_24 ⟨by first | rw [if_pos c12] | rw [if_neg c12], hA9, hL9⟩ hP hD hK hA hE hS
theorem dX5_on_0 : decode cX5_on 0 = .ok (.aload_n 0, 1) := by decide +kernel
theorem dX5_on_1 : decode cX5_on 1 = .ok (.aload_n 0, 1) := by decide +kernel
theorem dX5_on_2 : decode cX5_on 2 = .ok (.invokevirtual 99, 3) := by decide +kernel
theorem dX5_on_5 : decode cX5_on 5 = .ok (.putfield 22, 3) := by decide +kernel
theorem dX5_on_8 : decode cX5_on 8 = .ok (.iconst 0, 1) := by decide +kernel
theorem dX5_on_9 : decode cX5_on 9 = .ok (.istore_n 3, 1) := by decide +kernel
theorem dX5_on_10 : decode cX5_on 10 = .ok (.iconst 0, 1) := by decide +kernel
theorem dX5_on_11 : decode cX5_on 11 = .ok (.istore 4, 2) := by decide +kernel
theorem dX5_on_13 : decode cX5_on 13 = .ok (.iload 4, 2) := by decide +kernel
theorem dX5_on_15 : decode cX5_on 15 = .ok (.aload_n 0, 1) := by decide +kernel
theorem dX5_on_16 : decode cX5_on 16 = .ok (.getfield 96, 3) := by decide +kernel
theorem dX5_on_19 : decode cX5_on 19 = .ok (.if_icmp .ge 51, 3) := by decide +kernel
theorem dX5_on_22 : decode cX5_on 22 = .ok (.iload_n 3, 1) := by decide +kernel
theorem dX5_on_23 : decode cX5_on 23 = .ok (.iload_n 2, 1) := by decide +kernel
theorem dX5_on_24 : decode cX5_on 24 = .ok (.ifCond .eq 16, 3) := by decide +kernel
theorem dX5_on_27 : decode cX5_on 27 = .ok (.aload_n 0, 1) := by decide +kernel
theorem dX5_on_28 : decode cX5_on 28 = .ok (.getfield 19, 3) := by decide +kernel
theorem dX5_on_31 : decode cX5_on 31 = .ok (.iload 4, 2) := by decide +kernel
theorem dX5_on_33 : decode cX5_on 33 = .ok (.iaload, 1) := by decide +kernel
theorem dX5_on_34 : decode cX5_on 34 = .ok (.bipush 64, 2) := by decide +kernel
theorem dX5_on_36 : decode cX5_on 36 = .ok (.irem, 1) := by decide +kernel
theorem dX5_on_37 : decode cX5_on 37 = .ok (.goto 16, 3) := by decide +kernel
theorem dX5_on_40 : decode cX5_on 40 = .ok (.aload_n 0, 1) := by decide +kernel
theorem dX5_on_41 : decode cX5_on 41 = .ok (.getfield 19, 3) := by decide +kernel
theorem dX5_on_44 : decode cX5_on 44 = .ok (.iload 4, 2) := by decide +kernel
theorem dX5_on_46 : decode cX5_on 46 = .ok (.iaload, 1) := by decide +kernel
theorem dX5_on_47 : decode cX5_on 47 = .ok (.bipush 64, 2) := by decide +kernel
theorem dX5_on_49 : decode cX5_on 49 = .ok (.idiv, 1) := by decide +kernel
theorem dX5_on_50 : decode cX5_on 50 = .ok (.bipush 64, 2) := by decide +kernel
theorem dX5_on_52 : decode cX5_on 52 = .ok (.irem, 1) := by decide +kernel
theorem dX5_on_53 : decode cX5_on 53 = .ok (.iload_n 1, 1) := by decide +kernel
theorem dX5_on_54 : decode cX5_on 54 = .ok (.if_icmp .ne 7, 3) := by decide +kernel
theorem dX5_on_57 : decode cX5_on 57 = .ok (.iconst 1, 1) := by decide +kernel
theorem dX5_on_58 : decode cX5_on 58 = .ok (.goto 4, 3) := by decide +kernel
theorem dX5_on_61 : decode cX5_on 61 = .ok (.iconst 0, 1) := by decide +kernel
theorem dX5_on_62 : decode cX5_on 62 = .ok (.iadd, 1) := by decide +kernel
theorem dX5_on_63 : decode cX5_on 63 = .ok (.istore_n 3, 1) := by decide +kernel
theorem dX5_on_64 : decode cX5_on 64 = .ok (.iinc 4 1, 3) := by decide +kernel
theorem dX5_on_67 : decode cX5_on 67 = .ok (.goto (-54), 3) := by decide +kernel
theorem dX5_on_70 : decode cX5_on 70 = .ok (.iload_n 3, 1) := by decide +kernel
theorem dX5_on_71 : decode cX5_on 71 = .ok (.ireturn, 1) := by decide +kernel
theorem hd_X5_on : yX5_on.cls ≠ "java/lang/invoke/MethodHandle" ∧ yX5_on.cls ≠ "java/lang/invoke/VarHandle" ∧ (parseMethodDescriptor yX5_on.desc).map (fun d => d.parameters.length) = some 2 := by decide +kernel
set_option maxHeartbeats 4000000 in
set_option maxRecDepth 100000 in
/-- on -/
theorem c_X5_on (l : Launch) {D : va_G} {cI cJ : ClassId} {A : Nat → Prop} {hm b0 b1 b2 b3 : Nat} {th mk sz : Int32} {F mv kp li : Nat → Int32} (bd : Nat → Nat) (sd rt ps : Nat) (hBd : Bd F 0 bd sd rt ps) (hLen : plb bd sd = true → (legs bd sd rt ps).length ≤ 1024) (x : Int32) (w : Bool) : Met l yX5_on (Cond.code yX5_on cX5_on 5 (some .int) :: wsL_law) (rK 8) (va_Pc [.ref hm, .int x, .int (bI w)] (IW D cI cJ A (rW cI hm b0 b1 b2 b3 th mk sz F mv kp li))) (va_Qi (fun r u => r = nI (onc (lgs bd sd rt ps) x w (lgs bd sd rt ps).length) ∧ Ag F u.1 67 ∧ LI u.2 (lgs bd sd rt ps)) (fun (u : (Nat → Int32) × (Nat → Int32)) t => IW D cI cJ A (rW cI hm b0 b1 b2 b3 (nI (ndN bd sd)) mk (nI (szN bd sd rt ps)) u.1 mv kp u.2) t) A) 0 0 A := by
  refine entM (by decide) (Nat.le_of_ble_eq_true rfl) ?_
  intro p e s m below meth c ls S0 hr hlocks hG hnm hB hl
  have hx := S0.1
  have hb := S0.2.1
  have hown := S0.2.2.2.1
  have hl : lv_has ls 5 [(0, .ref hm), (1, .int x), (2, .int (bI w))] := hl
  obtain ⟨hP, hD, hK, hA, hE⟩ := hB
  have hS : va_S A s.heap s.heap [] := va_S.rf
  obtain ⟨hBp, hsd, hs2, hrt, hr16, hps, hp65⟩ := id hBd
  have hnd : ndN bd sd < 2 := by unfold ndN; split <;> omega
  have hszl : szN bd sd rt ps ≤ 1024 := by unfold szN; split; (rename_i h9; exact hLen h9); exact Nat.zero_le _
  refine lv_aload_n hx hb dX5_on_0 rfl (lv_at hl 0 rfl) ?_
  refine lv_aload_n hx hb dX5_on_1 rfl (lv_at hl 0 rfl) ?_
  refine chI (rnV (As := []) (rest := [.ref hm]) S0 (c_X5_need l bd sd rt ps hBd hLen) wm_X5_99 wi_X5_need ws_X5_need wn_X5 wc_X5_need hd_X5_need ⟨rfl, rfl, by decide, by decide⟩ IW.blind (va_recv hK hP (ci := 4) (q0 := 0) rfl rfl) (IW.at hP hD hK hA hE hS) hl.1 (Nat.le_of_ble_eq_true rfl) dX5_on_2 rfl ⟨by decide, by decide⟩) hS (fun r_1 u_2 H locs hu hP hD hS => ?_)
  obtain ⟨he9, hA9, hL9⟩ := hu
  subst he9
  have hP : va_P D classes (rW cI hm b0 b1 b2 b3 th mk (nI (szN bd sd rt ps)) u_2.1 mv kp u_2.2) H := hP
  have hD : va_D A (rW cI hm b0 b1 b2 b3 th mk (nI (szN bd sd rt ps)) u_2.1 mv kp u_2.2) := hD
  refine va_put (D := D) (ci := 4) (v := .int (nI (ndN bd sd))) (ty := .int) (C := RX5) (T := TX5) (N := 7) hx hb hG wu_X5 tyX5 tyX5_ok nmX5 hown hK hP hD hS 0 rfl rfl 0 (by decide) (hG _ wf_X5_22) (fun _ h9 => h9) rfl (by decide +kernel) rfl rfl (Nat.le_of_ble_eq_true rfl) dX5_on_5 (fun H locs hP hD hS => ?_)
  have hP : va_P D classes (rW cI hm b0 b1 b2 b3 (nI (ndN bd sd)) mk (nI (szN bd sd rt ps)) u_2.1 mv kp u_2.2) H := hP
  have hD : va_D A (rW cI hm b0 b1 b2 b3 (nI (ndN bd sd)) mk (nI (szN bd sd rt ps)) u_2.1 mv kp u_2.2) := hD
  refine lv_iconst (v := (nI 0)) hx hb dX5_on_8 (by decide) ?_
  refine W.top (y := .int (nI (onc (lgs bd sd rt ps) x w 0))) (congrArg Value.int rfl) ?_
  refine lv_istore_n (lv' := [(3, .int (nI (onc (lgs bd sd rt ps) x w 0))), (0, .ref hm), (1, .int x), (2, .int (bI w))]) hx hb dX5_on_9 rfl hl (by decide) rfl (fun ls hl => ?_)
  refine lv_iconst (v := (nI 0)) hx hb dX5_on_10 (by decide) ?_
  refine lv_istore (lv' := [(4, .int (nI 0)), (3, .int (nI (onc (lgs bd sd rt ps) x w 0))), (0, .ref hm), (1, .int x), (2, .int (bI w))]) hx hb dX5_on_11 hl (by decide) rfl (fun ls hl => ?_)
  refine lpW (σ := (Nat) × (Nat → Int32) × (Nat → Int32)) 13 5 [] (fun x9 => [(0, .ref hm), (1, .int x), (2, .int (bI w)), (3, .int (nI (onc (lgs bd sd rt ps) x w x9.1))), (4, .int (nI x9.1))]) (fun x9 => rW cI hm b0 b1 b2 b3 (nI (ndN bd sd)) mk (nI (szN bd sd rt ps)) x9.2.1 mv kp x9.2.2) (fun x9 => x9.1 ≤ szN bd sd rt ps ∧ Ag F x9.2.1 67 ∧ LI x9.2.2 (lgs bd sd rt ps)) (fun x9 => szN bd sd rt ps - x9.1) (0, u_2.1, u_2.2) ⟨Nat.zero_le _, hA9, hL9⟩ (lv_sub hl [2, 3, 4, 1, 0] rfl) hP hD hS ?_
  clear hP hD hS hl ls
  rintro ⟨i, G, M⟩ H locs hI hP hD hS ih_13 ls hl
  try dsimp only at hI ih_13 hl hP hD
  clear hA9 hL9
  obtain ⟨hi, hA9, hL9⟩ := hI
  have hon := onc_le (lgs bd sd rt ps) x w i
  refine lv_iload hx hb dX5_on_13 (lv_at hl 4 rfl) ?_
  refine lv_aload_n hx hb dX5_on_15 rfl (lv_at hl 0 rfl) ?_
  refine va_get (D := D) (ci := 4) (v := .int (nI (szN bd sd rt ps))) (C := RX5) (T := TX5) (N := 7) hx hb hG wu_X5 hown hK hP 0 rfl rfl 5 (by decide) (hG _ wf_X5_96) (fun _ h9 => h9) rfl dX5_on_16 ?_
  refine ln_icmp_ge (tgt := 70) hx hb dX5_on_19 (by decide) (by omega) (by omega) (fun c19 => ?_) (fun c19 => ?_)
  · skip
    refine lv_iload_n hx hb dX5_on_70 rfl (lv_at hl 3 rfl) ?_
    exact weI ((G, M)) hx hb hr hlocks dX5_on_71 ⟨by rw [show i = (lgs bd sd rt ps).length by rw [← szN_eq]; omega], hA9, hL9⟩ hP hD hK hA hE hS
  · skip
    have hi2 : i < szN bd sd rt ps := by omega
    have hv9 := hL9 i (by rw [← szN_eq]; exact hi2)
    have hv8 : (lgs bd sd rt ps).getD i 0 < 24576 := getD_lt lgs_lt (by decide)
    refine lv_iload_n hx hb dX5_on_22 rfl (lv_at hl 3 rfl) ?_
    refine lv_iload_n hx hb dX5_on_23 rfl (lv_at hl 2 rfl) ?_
    refine jnG 53 5 [(0, .ref hm), (1, .int x), (2, .int (bI w)), (3, .int (nI (onc (lgs bd sd rt ps) x w i))), (4, .int (nI i))] [.int (nI (if w = true then (lgs bd sd rt ps).getD i 0 % 64 else (lgs bd sd rt ps).getD i 0 / 64 % 64)), .int (nI (onc (lgs bd sd rt ps) x w i))] ?_ (fun hj_53 => ?_)
    · intro ls hl
      refine lv_iload_n hx hb dX5_on_53 rfl (lv_at hl 1 rfl) ?_
      refine jnG 62 5 [(0, .ref hm), (1, .int x), (2, .int (bI w)), (3, .int (nI (onc (lgs bd sd rt ps) x w i))), (4, .int (nI i))] [.int (nI (if nI (if w = true then (lgs bd sd rt ps).getD i 0 % 64 else (lgs bd sd rt ps).getD i 0 / 64 % 64) = x then 1 else 0)), .int (nI (onc (lgs bd sd rt ps) x w i))] ?_ (fun hj_62 => ?_)
      · intro ls hl
        refine ln_iadd hx hb dX5_on_62 ?_
        refine lv_istore_n (lv' := [(3, .int (nI ((onc (lgs bd sd rt ps) x w i) + (if nI (if w = true then (lgs bd sd rt ps).getD i 0 % 64 else (lgs bd sd rt ps).getD i 0 / 64 % 64) = x then 1 else 0)))), (0, .ref hm), (1, .int x), (2, .int (bI w)), (4, .int (nI i))]) hx hb dX5_on_63 rfl hl (by decide) rfl (fun ls hl => ?_)
        refine lv_iinc (v := (nI (i + 1))) (lv' := [(4, .int (nI (i + 1))), (3, .int (nI ((onc (lgs bd sd rt ps) x w i) + (if nI (if w = true then (lgs bd sd rt ps).getD i 0 % 64 else (lgs bd sd rt ps).getD i 0 / 64 % 64) = x then 1 else 0)))), (0, .ref hm), (1, .int x), (2, .int (bI w))]) hx hb dX5_on_64 hl (k := 4) rfl (show nI i + Int32.ofInt 1 = nI (i + 1) from nI_add _ 1) (by decide) rfl (fun ls hl => ?_)
        refine lv_goto (tgt := 13) hx hb dX5_on_67 (by decide) ?_
        exact ih_13 ((i + 1), G, M) _ _ ⟨by omega, hA9, hL9⟩ (by (try dsimp only); omega) hP hD hS ls (lv_sub hl [2, 3, 4, 1, 0] rfl)
      · skip
        refine lv_icmp_ne (tgt := 61) hx hb dX5_on_54 (by decide) (fun c54 => ?_) (fun c54 => ?_)
        · skip
          refine lv_iconst (v := (nI 0)) hx hb dX5_on_61 (by decide) ?_
          refine W.top (y := .int (nI (if nI (if w = true then (lgs bd sd rt ps).getD i 0 % 64 else (lgs bd sd rt ps).getD i 0 / 64 % 64) = x then 1 else 0))) (congrArg Value.int (congrArg nI (by first | rw [if_pos c54] | rw [if_neg c54]))) ?_
          exact hj_62 ls (lv_sub hl [0, 1, 2, 3, 4] rfl)
        · skip
          refine lv_iconst (v := (nI 1)) hx hb dX5_on_57 (by decide) ?_
          refine lv_goto (tgt := 62) hx hb dX5_on_58 (by decide) ?_
          refine W.top (y := .int (nI (if nI (if w = true then (lgs bd sd rt ps).getD i 0 % 64 else (lgs bd sd rt ps).getD i 0 / 64 % 64) = x then 1 else 0))) (congrArg Value.int (congrArg nI (by first | rw [if_pos c54] | rw [if_neg c54]))) ?_
          exact hj_62 ls (lv_sub hl [0, 1, 2, 3, 4] rfl)
    · skip
      refine lb_if_eq (tgt := 40) hx hb dX5_on_24 (by decide) (fun c24 => ?_) (fun c24 => ?_)
      · skip
        refine lv_aload_n hx hb dX5_on_40 rfl (lv_at hl 0 rfl) ?_
        refine va_get (D := D) (ci := 4) (v := .ref b3) (C := RX5) (T := TX5) (N := 7) hx hb hG wu_X5 hown hK hP 0 rfl rfl 6 (by decide) (hG _ wf_X5_19) (fun _ h9 => h9) rfl dX5_on_41 ?_
        refine lv_iload hx hb dX5_on_44 (lv_at hl 4 rfl) ?_
        refine va_iald hx hb hK hP 4 0 rfl rfl (vp_in_nI (by omega) (by decide)) dX5_on_46 ?_
        refine W.top (y := .int (M i)) (congrArg (fun z => Value.int (M z)) (nI_clamp (by omega))) ?_
        refine W.top (y := .int (nI ((lgs bd sd rt ps).getD i 0))) (congrArg Value.int hv9) ?_
        refine lv_bipush (v := (nI 64)) hx hb dX5_on_47 (by decide) ?_
        refine ln_idiv hx hb dX5_on_49 (by omega) (by decide) (by decide) ?_
        refine lv_bipush (v := (nI 64)) hx hb dX5_on_50 (by decide) ?_
        refine ln_irem hx hb dX5_on_52 (by omega) (by decide) (by decide) ?_
        refine W.top (y := .int (nI (if w = true then (lgs bd sd rt ps).getD i 0 % 64 else (lgs bd sd rt ps).getD i 0 / 64 % 64))) (congrArg Value.int (congrArg nI (by first | rw [if_pos c24] | rw [if_neg (show ¬ w = true by rw [c24]; decide)]))) ?_
        exact hj_53 ls (lv_sub hl [0, 1, 2, 3, 4] rfl)
      · skip
        refine lv_aload_n hx hb dX5_on_27 rfl (lv_at hl 0 rfl) ?_
        refine va_get (D := D) (ci := 4) (v := .ref b3) (C := RX5) (T := TX5) (N := 7) hx hb hG wu_X5 hown hK hP 0 rfl rfl 6 (by decide) (hG _ wf_X5_19) (fun _ h9 => h9) rfl dX5_on_28 ?_
        refine lv_iload hx hb dX5_on_31 (lv_at hl 4 rfl) ?_
        refine va_iald hx hb hK hP 4 0 rfl rfl (vp_in_nI (by omega) (by decide)) dX5_on_33 ?_
        refine W.top (y := .int (M i)) (congrArg (fun z => Value.int (M z)) (nI_clamp (by omega))) ?_
        refine W.top (y := .int (nI ((lgs bd sd rt ps).getD i 0))) (congrArg Value.int hv9) ?_
        refine lv_bipush (v := (nI 64)) hx hb dX5_on_34 (by decide) ?_
        refine ln_irem hx hb dX5_on_36 (by omega) (by decide) (by decide) ?_
        refine lv_goto (tgt := 53) hx hb dX5_on_37 (by decide) ?_
        refine W.top (y := .int (nI (if w = true then (lgs bd sd rt ps).getD i 0 % 64 else (lgs bd sd rt ps).getD i 0 / 64 % 64))) (congrArg Value.int (congrArg nI (by first | rw [if_pos c24] | rw [if_neg (show ¬ w = true by rw [c24]; decide)]))) ?_
        exact hj_53 ls (lv_sub hl [0, 1, 2, 3, 4] rfl)
end
section
theorem Bd_up {F : Nat → Int32} {bd : Nat → Nat} {sd rt ps q v : Nat} (h : Bd F 0 bd sd rt ps) (hq : q < 64) (hv : v < 13) : Bd (upd F q (nI v)) 0 (upN bd q v) sd rt ps := by
  obtain ⟨h1, h2, h3, h4, h5, h6, h7⟩ := h
  refine ⟨?_, ?_, h3, ?_, h5, ?_, h7⟩
  · have := Bp_in h1 hq hv; rwa [Nat.zero_add] at this
  · rw [pk_un (by omega)]; exact h2
  · rw [pk_un (by omega)]; exact h4
  · rw [pk_un (by omega)]; exact h6
def pt0 (x y : Int32) : Nat := if isq x = false then 1 else if y < 0 ∨ ¬ y ≤ nI 12 then 2 else 0
theorem pt0_0 {x y : Int32} (h : pt0 x y = 0) : ∃ q v, q < 64 ∧ v < 13 ∧ x = nI q ∧ y = nI v := by
  unfold pt0 at h
  split at h
  · omega
  · rename_i h1
    split at h
    · omega
    · rename_i h2
      have h3 : isq x = true := by cases e : isq x; exact absurd e h1; rfl
      obtain ⟨q, hq, rfl⟩ := isq_of h3
      obtain ⟨v, hv, rfl⟩ := nI_of (fun z => h2 (Or.inl z) : ¬ y < 0)
      refine ⟨q, v, hq, ?_, rfl, rfl⟩
      have := (nI_leI hv (show 12 < 2 ^ 31 by decide)).mp (Classical.byContradiction fun z => h2 (Or.inr z))
      omega
def st0 (x y z : Int32) : Nat := if x < 0 ∨ nI 1 < x ∨ y < 0 ∨ nI 15 < y ∨ z < (-1) ∨ ¬ z ≤ nI 63 then 1 else 0
theorem pI_of {z : Int32} (h1 : ¬ z < (-1)) (h2 : z ≤ nI 63) : ∃ n, n < 65 ∧ z = pI n := by
  by_cases h : z < 0
  · refine ⟨64, by decide, ?_⟩
    rw [pI_64]
    rw [Int32.lt_iff_toInt_lt] at h h1
    rw [← Int32.toInt_inj]
    have e1 : (-1 : Int32).toInt = -1 := rfl
    have e0 : (0 : Int32).toInt = 0 := rfl
    omega
  · obtain ⟨n, hn, rfl⟩ := nI_of h
    have := (nI_leI hn (show 63 < 2 ^ 31 by decide)).mp h2
    exact ⟨n, by omega, (pI_lt (by omega)).symm⟩
theorem st0_0 {x y z : Int32} (h : st0 x y z = 0) : ∃ a b n, a < 2 ∧ b < 16 ∧ n < 65 ∧ x = nI a ∧ y = nI b ∧ z = pI n := by
  unfold st0 at h
  split at h
  · omega
  · rename_i h1
    simp only [not_or] at h1
    obtain ⟨a1, a2, a3, a4, a5, a6⟩ := h1
    obtain ⟨a, ha, rfl⟩ := nI_of a1
    obtain ⟨b, hb, rfl⟩ := nI_of a3
    obtain ⟨n, hn, rfl⟩ := pI_of a5 (Classical.not_not.mp a6)
    have e1 : ¬ 1 < a := fun z => a2 ((nI_ltI (show 1 < 2 ^ 31 by decide) ha).mpr z)
    have e2 : ¬ 15 < b := fun z => a4 ((nI_ltI (show 15 < 2 ^ 31 by decide) hb).mpr z)
    exact ⟨a, b, n, by omega, by omega, hn, rfl, rfl, rfl⟩
theorem bg_s {G : Nat → Int32} {i : Nat} (hi : i < 8) (h : ∀ q, q < 64 → G q = nI (if q % 8 < i then bgn q else 0)) : ∀ q, q < 64 → upd (upd (upd (upd G i (nI (hmf i))) (8 + i) (nI 1)) (48 + i) (nI 7)) (56 + i) (nI (6 + hmf i)) q = nI (if q % 8 < i + 1 then bgn q else 0) := by
  intro q hq
  by_cases e1 : q = 56 + i
  · rw [e1, pk_us, if_pos (by omega)]; unfold bgn
    rw [if_neg (by omega), if_neg (by omega), if_neg (by omega), if_neg (by omega), show 56 + i - 56 = i by omega]
  · rw [pk_un e1]
    by_cases e2 : q = 48 + i
    · rw [e2, pk_us, if_pos (by omega)]; unfold bgn
      rw [if_neg (by omega), if_neg (by omega), if_neg (by omega), if_pos (by omega)]
    · rw [pk_un e2]
      by_cases e3 : q = 8 + i
      · rw [e3, pk_us, if_pos (by omega)]; unfold bgn
        rw [if_neg (by omega), if_pos (by omega)]
      · rw [pk_un e3]
        by_cases e4 : q = i
        · rw [e4, pk_us, if_pos (by omega)]; unfold bgn
          rw [if_pos (by omega)]
        · rw [pk_un e4, h q hq]
          by_cases e5 : q % 8 < i
          · rw [if_pos e5, if_pos (by omega)]
          · rw [if_neg e5]
            by_cases e6 : q % 8 < i + 1
            · rw [if_pos e6]; unfold bgn
              rw [if_neg (by omega), if_neg (by omega), if_pos (by omega)]
            · rw [if_neg e6]
theorem bgn_lt (q : Nat) (h : q < 64) : bgn q < 13 := by
  have h1 := hmf_lt q
  have h2 := hmf_lt (q - 56)
  unfold bgn
  (repeat' split) <;> omega
def lk3 (sd rt ps j : Nat) : Int32 := if j = 0 then nI sd else if j = 1 then nI rt else pI ps
def lk0 (sd rt ps : Nat) (mk x : Int32) : Int32 := if ¬ x < 0 ∧ ¬ nI 3 ≤ x then lk3 sd rt ps x.toNatClampNeg else if x = nI 3 then mk else (-1)
theorem lk3_at {F : Nat → Int32} {bd : Nat → Nat} {sd rt ps j : Nat} (h : Bd F 0 bd sd rt ps) (hj : j < 3) : F (64 + j) = lk3 sd rt ps j := by
  obtain ⟨-, h2, -, h4, -, h6, -⟩ := h
  have : j = 0 ∨ j = 1 ∨ j = 2 := by omega
  rw [Nat.zero_add] at h2 h4 h6
  rcases this with rfl | rfl | rfl
  · exact h2
  · exact h4
  · exact h6
/-- what a board's copy is -/
theorem Bd_cp {F G : Nat → Int32} {b c : Nat} {bd : Nat → Nat} {sd rt ps : Nat} (h : Bd F b bd sd rt ps) (hc : ∀ j, j < 67 → G (c + j) = F (b + j)) : Bd G c bd sd rt ps := by
  obtain ⟨h1, h2, h3, h4, h5, h6, h7⟩ := h
  exact ⟨fun q hq => by rw [hc q (by omega)]; exact h1 q hq, by rw [hc 64 (by decide)]; exact h2, h3, by rw [hc 65 (by decide)]; exact h4, h5, by rw [hc 66 (by decide)]; exact h6, h7⟩
theorem cpy_s {G f : Nat → Int32} {i : Nat} (h : ∀ j, j < i → G j = f j) : ∀ j, j < i + 1 → upd G i (f i) j = f j := by
  intro j hj
  by_cases e : j = i
  · rw [e, pk_us]
  · rw [pk_un e]; exact h j (by omega)
theorem cl_s {G : Nat → Int32} {i : Nat} (h : ∀ j, j < i → G j = nI 0) : ∀ j, j < i + 1 → upd G i (nI 0) j = nI 0 := cpy_s (f := fun _ => nI 0) h
theorem ndN_0 {bd : Nat → Nat} {sd : Nat} : ndN bd sd = 0 ↔ plb bd sd = true := by unfold ndN; split <;> simp_all
theorem Bd_st {F : Nat → Int32} {bd : Nat → Nat} {sd rt ps a b n : Nat} (h : Bd F 0 bd sd rt ps) (ha : a < 2) (hb : b < 16) (hn : n < 65) : Bd (upd (upd (upd F 64 (nI a)) 65 (nI b)) 66 (pI n)) 0 bd a b n :=
  ⟨fun q hq => by rw [pk_un (by omega), pk_un (by omega), pk_un (by omega)]; exact h.1 q hq, by rw [pk_un (by omega), pk_un (by omega)]; exact pk_us, ha, by rw [pk_un (by omega)]; exact pk_us, hb, pk_us, hn⟩
end
section
theorem dX5_clear_0 : decode cX5_clear 0 = .ok (.aload_n 0, 1) := by decide +kernel
theorem dX5_clear_1 : decode cX5_clear 1 = .ok (.iconst 0, 1) := by decide +kernel
theorem dX5_clear_2 : decode cX5_clear 2 = .ok (.putfield 22, 3) := by decide +kernel
theorem dX5_clear_5 : decode cX5_clear 5 = .ok (.iconst 0, 1) := by decide +kernel
theorem dX5_clear_6 : decode cX5_clear 6 = .ok (.istore_n 1, 1) := by decide +kernel
theorem dX5_clear_7 : decode cX5_clear 7 = .ok (.iload_n 1, 1) := by decide +kernel
theorem dX5_clear_8 : decode cX5_clear 8 = .ok (.bipush 67, 2) := by decide +kernel
theorem dX5_clear_10 : decode cX5_clear 10 = .ok (.if_icmp .ge 16, 3) := by decide +kernel
theorem dX5_clear_13 : decode cX5_clear 13 = .ok (.aload_n 0, 1) := by decide +kernel
theorem dX5_clear_14 : decode cX5_clear 14 = .ok (.getfield 7, 3) := by decide +kernel
theorem dX5_clear_17 : decode cX5_clear 17 = .ok (.iload_n 1, 1) := by decide +kernel
theorem dX5_clear_18 : decode cX5_clear 18 = .ok (.iconst 0, 1) := by decide +kernel
theorem dX5_clear_19 : decode cX5_clear 19 = .ok (.iastore, 1) := by decide +kernel
theorem dX5_clear_20 : decode cX5_clear 20 = .ok (.iinc 1 1, 3) := by decide +kernel
theorem dX5_clear_23 : decode cX5_clear 23 = .ok (.goto (-16), 3) := by decide +kernel
theorem dX5_clear_26 : decode cX5_clear 26 = .ok (.aload_n 0, 1) := by decide +kernel
theorem dX5_clear_27 : decode cX5_clear 27 = .ok (.getfield 7, 3) := by decide +kernel
theorem dX5_clear_30 : decode cX5_clear 30 = .ok (.bipush 66, 2) := by decide +kernel
theorem dX5_clear_32 : decode cX5_clear 32 = .ok (.iconst (-1), 1) := by decide +kernel
theorem dX5_clear_33 : decode cX5_clear 33 = .ok (.iastore, 1) := by decide +kernel
theorem dX5_clear_34 : decode cX5_clear 34 = .ok (.aload_n 0, 1) := by decide +kernel
theorem dX5_clear_35 : decode cX5_clear 35 = .ok (.iconst 0, 1) := by decide +kernel
theorem dX5_clear_36 : decode cX5_clear 36 = .ok (.putfield 26, 3) := by decide +kernel
theorem dX5_clear_39 : decode cX5_clear 39 = .ok (.return_, 1) := by decide +kernel
theorem hd_X5_clear : yX5_clear.cls ≠ "java/lang/invoke/MethodHandle" ∧ yX5_clear.cls ≠ "java/lang/invoke/VarHandle" ∧ (parseMethodDescriptor yX5_clear.desc).map (fun d => d.parameters.length) = some 0 := by decide +kernel
set_option maxHeartbeats 4000000 in
set_option maxRecDepth 100000 in
/-- clear -/
theorem c_X5_clear (l : Launch) {D : va_G} {cI cJ : ClassId} {A : Nat → Prop} {hm b0 b1 b2 b3 : Nat} {th mk sz : Int32} {F mv kp li : Nat → Int32}  : Met l yX5_clear (Cond.code yX5_clear cX5_clear 2 none :: wsL_law) (rK 0) (va_Pc [.ref hm] (IW D cI cJ A (rW cI hm b0 b1 b2 b3 th mk sz F mv kp li))) (va_Qv (fun u => Bd u 0 (fun _ => 0) 0 0 64) (fun (u : Nat → Int32) t => IW D cI cJ A (rW cI hm b0 b1 b2 b3 (nI 0) (nI 0) sz u mv kp li) t) A) 0 0 A := by
  refine entM (by decide) (Nat.le_of_ble_eq_true rfl) ?_
  intro p e s m below meth c ls S0 hr hlocks hG hnm hB hl
  have hx := S0.1
  have hb := S0.2.1
  have hown := S0.2.2.2.1
  have hl : lv_has ls 2 [(0, .ref hm)] := hl
  obtain ⟨hP, hD, hK, hA, hE⟩ := hB
  have hS : va_S A s.heap s.heap [] := va_S.rf
  refine lv_aload_n hx hb dX5_clear_0 rfl (lv_at hl 0 rfl) ?_
  refine lv_iconst (v := (nI 0)) hx hb dX5_clear_1 (by decide) ?_
  refine va_put (D := D) (ci := 4) (v := .int (nI 0)) (ty := .int) (C := RX5) (T := TX5) (N := 7) hx hb hG wu_X5 tyX5 tyX5_ok nmX5 hown hK hP hD hS 0 rfl rfl 0 (by decide) (hG _ wf_X5_22) (fun _ h9 => h9) rfl (by decide +kernel) rfl rfl (Nat.le_of_ble_eq_true rfl) dX5_clear_2 (fun H locs hP hD hS => ?_)
  have hP : va_P D classes (rW cI hm b0 b1 b2 b3 (nI 0) mk sz F mv kp li) H := hP
  have hD : va_D A (rW cI hm b0 b1 b2 b3 (nI 0) mk sz F mv kp li) := hD
  refine lv_iconst (v := (nI 0)) hx hb dX5_clear_5 (by decide) ?_
  refine lv_istore_n (lv' := [(1, .int (nI 0)), (0, .ref hm)]) hx hb dX5_clear_6 rfl hl (by decide) rfl (fun ls hl => ?_)
  refine lpW (σ := (Nat) × (Nat → Int32)) 7 2 [] (fun x9 => [(0, .ref hm), (1, .int (nI x9.1))]) (fun x9 => rW cI hm b0 b1 b2 b3 (nI 0) mk sz x9.2 mv kp li) (fun x9 => x9.1 ≤ 67 ∧ ∀ j, j < x9.1 → x9.2 j = nI 0) (fun x9 => 67 - x9.1) (0, F) ⟨Nat.zero_le _, fun _ h => absurd h (Nat.not_lt_zero _)⟩ (lv_sub hl [1, 0] rfl) hP hD hS ?_
  clear hP hD hS hl ls
  rintro ⟨i, G⟩ H locs hI hP hD hS ih_7 ls hl
  try dsimp only at hI ih_7 hl hP hD
  obtain ⟨hi, hz⟩ := hI
  refine lv_iload_n hx hb dX5_clear_7 rfl (lv_at hl 1 rfl) ?_
  refine lv_bipush (v := (nI 67)) hx hb dX5_clear_8 (by decide) ?_
  refine ln_icmp_ge (tgt := 26) hx hb dX5_clear_10 (by decide) (by omega) (by decide) (fun c_1 => ?_) (fun c_1 => ?_)
  · skip
    refine lv_aload_n hx hb dX5_clear_26 rfl (lv_at hl 0 rfl) ?_
    refine va_get (D := D) (ci := 4) (v := .ref b0) (C := RX5) (T := TX5) (N := 7) hx hb hG wu_X5 hown hK hP 0 rfl rfl 1 (by decide) (hG _ wf_X5_7) (fun _ h9 => h9) rfl dX5_clear_27 ?_
    refine lv_bipush (v := (nI 66)) hx hb dX5_clear_30 (by decide) ?_
    refine lv_iconst (v := (-1)) hx hb dX5_clear_32 (by decide) ?_
    refine va_iast hx hb hK hP hD hS 1 0 rfl rfl (vp_in_nI (by decide) (by decide)) dX5_clear_33 (fun H locs hP hD hS => ?_)
    rw [nI_clamp (show 66 < 2 ^ 31 by omega)] at hP hD
    have hP : va_P D classes (rW cI hm b0 b1 b2 b3 (nI 0) mk sz (upd G 66 (-1)) mv kp li) H := hP
    have hD : va_D A (rW cI hm b0 b1 b2 b3 (nI 0) mk sz (upd G 66 (-1)) mv kp li) := hD
    refine lv_aload_n hx hb dX5_clear_34 rfl (lv_at hl 0 rfl) ?_
    refine lv_iconst (v := (nI 0)) hx hb dX5_clear_35 (by decide) ?_
    refine va_put (D := D) (ci := 4) (v := .int (nI 0)) (ty := .int) (C := RX5) (T := TX5) (N := 7) hx hb hG wu_X5 tyX5 tyX5_ok nmX5 hown hK hP hD hS 0 rfl rfl 2 (by decide) (hG _ wf_X5_26) (fun _ h9 => h9) rfl (by decide +kernel) rfl rfl (Nat.le_of_ble_eq_true rfl) dX5_clear_36 (fun H locs hP hD hS => ?_)
    have hP : va_P D classes (rW cI hm b0 b1 b2 b3 (nI 0) (nI 0) sz (upd G 66 (-1)) mv kp li) H := hP
    have hD : va_D A (rW cI hm b0 b1 b2 b3 (nI 0) (nI 0) sz (upd G 66 (-1)) mv kp li) := hD
    exact weV (upd G 66 (-1)) hx hb hr hlocks dX5_clear_39 ⟨fun q hq => ⟨by rw [pk_un (by omega)]; exact hz _ (by omega), (show 0 < 13 by decide)⟩, by rw [pk_un (by omega)]; exact hz _ (by omega), by decide, by rw [pk_un (by omega)]; exact hz _ (by omega), by decide, pk_us, by decide⟩ hP hD hK hA hE hS
  · skip
    refine lv_aload_n hx hb dX5_clear_13 rfl (lv_at hl 0 rfl) ?_
    refine va_get (D := D) (ci := 4) (v := .ref b0) (C := RX5) (T := TX5) (N := 7) hx hb hG wu_X5 hown hK hP 0 rfl rfl 1 (by decide) (hG _ wf_X5_7) (fun _ h9 => h9) rfl dX5_clear_14 ?_
    refine lv_iload_n hx hb dX5_clear_17 rfl (lv_at hl 1 rfl) ?_
    refine lv_iconst (v := (nI 0)) hx hb dX5_clear_18 (by decide) ?_
    refine va_iast hx hb hK hP hD hS 1 0 rfl rfl (vp_in_nI (by omega) (by decide)) dX5_clear_19 (fun H locs hP hD hS => ?_)
    rw [nI_clamp (show i < 2 ^ 31 by omega)] at hP hD
    have hP : va_P D classes (rW cI hm b0 b1 b2 b3 (nI 0) mk sz (upd G i (nI 0)) mv kp li) H := hP
    have hD : va_D A (rW cI hm b0 b1 b2 b3 (nI 0) mk sz (upd G i (nI 0)) mv kp li) := hD
    refine lv_iinc (v := (nI (i + 1))) (lv' := [(1, .int (nI (i + 1))), (0, .ref hm)]) hx hb dX5_clear_20 hl (k := 1) rfl (show nI i + Int32.ofInt 1 = nI (i + 1) from nI_add _ 1) (by decide) rfl (fun ls hl => ?_)
    refine lv_goto (tgt := 7) hx hb dX5_clear_23 (by decide) ?_
    exact ih_7 ((i + 1), (upd G i (nI 0))) _ _ ⟨by omega, cl_s hz⟩ (by (try dsimp only); omega) hP hD hS ls (lv_sub hl [1, 0] rfl)
theorem dX5_begin_0 : decode cX5_begin 0 = .ok (.aload_n 0, 1) := by decide +kernel
theorem dX5_begin_1 : decode cX5_begin 1 = .ok (.invokevirtual 29, 3) := by decide +kernel
theorem dX5_begin_4 : decode cX5_begin 4 = .ok (.iconst 0, 1) := by decide +kernel
theorem dX5_begin_5 : decode cX5_begin 5 = .ok (.istore_n 1, 1) := by decide +kernel
theorem dX5_begin_6 : decode cX5_begin 6 = .ok (.iload_n 1, 1) := by decide +kernel
theorem dX5_begin_7 : decode cX5_begin 7 = .ok (.bipush 8, 2) := by decide +kernel
theorem dX5_begin_9 : decode cX5_begin 9 = .ok (.if_icmp .ge 56, 3) := by decide +kernel
theorem dX5_begin_12 : decode cX5_begin 12 = .ok (.aload_n 0, 1) := by decide +kernel
theorem dX5_begin_13 : decode cX5_begin 13 = .ok (.getfield 7, 3) := by decide +kernel
theorem dX5_begin_16 : decode cX5_begin 16 = .ok (.iload_n 1, 1) := by decide +kernel
theorem dX5_begin_17 : decode cX5_begin 17 = .ok (.iload_n 1, 1) := by decide +kernel
theorem dX5_begin_18 : decode cX5_begin 18 = .ok (.invokestatic 32, 3) := by decide +kernel
theorem dX5_begin_21 : decode cX5_begin 21 = .ok (.iastore, 1) := by decide +kernel
theorem dX5_begin_22 : decode cX5_begin 22 = .ok (.aload_n 0, 1) := by decide +kernel
theorem dX5_begin_23 : decode cX5_begin 23 = .ok (.getfield 7, 3) := by decide +kernel
theorem dX5_begin_26 : decode cX5_begin 26 = .ok (.bipush 8, 2) := by decide +kernel
theorem dX5_begin_28 : decode cX5_begin 28 = .ok (.iload_n 1, 1) := by decide +kernel
theorem dX5_begin_29 : decode cX5_begin 29 = .ok (.iadd, 1) := by decide +kernel
theorem dX5_begin_30 : decode cX5_begin 30 = .ok (.iconst 1, 1) := by decide +kernel
theorem dX5_begin_31 : decode cX5_begin 31 = .ok (.iastore, 1) := by decide +kernel
theorem dX5_begin_32 : decode cX5_begin 32 = .ok (.aload_n 0, 1) := by decide +kernel
theorem dX5_begin_33 : decode cX5_begin 33 = .ok (.getfield 7, 3) := by decide +kernel
theorem dX5_begin_36 : decode cX5_begin 36 = .ok (.bipush 48, 2) := by decide +kernel
theorem dX5_begin_38 : decode cX5_begin 38 = .ok (.iload_n 1, 1) := by decide +kernel
theorem dX5_begin_39 : decode cX5_begin 39 = .ok (.iadd, 1) := by decide +kernel
theorem dX5_begin_40 : decode cX5_begin 40 = .ok (.bipush 7, 2) := by decide +kernel
theorem dX5_begin_42 : decode cX5_begin 42 = .ok (.iastore, 1) := by decide +kernel
theorem dX5_begin_43 : decode cX5_begin 43 = .ok (.aload_n 0, 1) := by decide +kernel
theorem dX5_begin_44 : decode cX5_begin 44 = .ok (.getfield 7, 3) := by decide +kernel
theorem dX5_begin_47 : decode cX5_begin 47 = .ok (.bipush 56, 2) := by decide +kernel
theorem dX5_begin_49 : decode cX5_begin 49 = .ok (.iload_n 1, 1) := by decide +kernel
theorem dX5_begin_50 : decode cX5_begin 50 = .ok (.iadd, 1) := by decide +kernel
theorem dX5_begin_51 : decode cX5_begin 51 = .ok (.bipush 6, 2) := by decide +kernel
theorem dX5_begin_53 : decode cX5_begin 53 = .ok (.iload_n 1, 1) := by decide +kernel
theorem dX5_begin_54 : decode cX5_begin 54 = .ok (.invokestatic 32, 3) := by decide +kernel
theorem dX5_begin_57 : decode cX5_begin 57 = .ok (.iadd, 1) := by decide +kernel
theorem dX5_begin_58 : decode cX5_begin 58 = .ok (.iastore, 1) := by decide +kernel
theorem dX5_begin_59 : decode cX5_begin 59 = .ok (.iinc 1 1, 3) := by decide +kernel
theorem dX5_begin_62 : decode cX5_begin 62 = .ok (.goto (-56), 3) := by decide +kernel
theorem dX5_begin_65 : decode cX5_begin 65 = .ok (.aload_n 0, 1) := by decide +kernel
theorem dX5_begin_66 : decode cX5_begin 66 = .ok (.getfield 7, 3) := by decide +kernel
theorem dX5_begin_69 : decode cX5_begin 69 = .ok (.bipush 65, 2) := by decide +kernel
theorem dX5_begin_71 : decode cX5_begin 71 = .ok (.bipush 15, 2) := by decide +kernel
theorem dX5_begin_73 : decode cX5_begin 73 = .ok (.iastore, 1) := by decide +kernel
theorem dX5_begin_74 : decode cX5_begin 74 = .ok (.return_, 1) := by decide +kernel
theorem hd_X5_begin : yX5_begin.cls ≠ "java/lang/invoke/MethodHandle" ∧ yX5_begin.cls ≠ "java/lang/invoke/VarHandle" ∧ (parseMethodDescriptor yX5_begin.desc).map (fun d => d.parameters.length) = some 0 := by decide +kernel
set_option maxHeartbeats 4000000 in
set_option maxRecDepth 100000 in
/-- begin -/
theorem c_X5_begin (l : Launch) {D : va_G} {cI cJ : ClassId} {A : Nat → Prop} {hm b0 b1 b2 b3 : Nat} {th mk sz : Int32} {F mv kp li : Nat → Int32}  : Met l yX5_begin (Cond.code yX5_begin cX5_begin 2 none :: wsL_law) (rK 1) (va_Pc [.ref hm] (IW D cI cJ A (rW cI hm b0 b1 b2 b3 th mk sz F mv kp li))) (va_Qv (fun u => Bd u 0 bgn 0 15 64) (fun (u : Nat → Int32) t => IW D cI cJ A (rW cI hm b0 b1 b2 b3 (nI 0) (nI 0) sz u mv kp li) t) A) 0 0 A := by
  refine entM (by decide) (Nat.le_of_ble_eq_true rfl) ?_
  intro p e s m below meth c ls S0 hr hlocks hG hnm hB hl
  have hx := S0.1
  have hb := S0.2.1
  have hown := S0.2.2.2.1
  have hl : lv_has ls 2 [(0, .ref hm)] := hl
  obtain ⟨hP, hD, hK, hA, hE⟩ := hB
  have hS : va_S A s.heap s.heap [] := va_S.rf
  refine lv_aload_n hx hb dX5_begin_0 rfl (lv_at hl 0 rfl) ?_
  refine chV (rnV (As := []) (rest := []) S0 (c_X5_clear l ) wm_X5_29 wi_X5_clear ws_X5_clear wn_X5 wc_X5_clear hd_X5_clear ⟨rfl, rfl, by decide, by decide⟩ IW.blind (va_recv hK hP (ci := 4) (q0 := 0) rfl rfl) (IW.at hP hD hK hA hE hS) hl.1 (Nat.le_of_ble_eq_true rfl) dX5_begin_1 rfl ⟨by decide, by decide⟩) hS (fun u_2 H locs hu hP hD hS => ?_)
  have hP : va_P D classes (rW cI hm b0 b1 b2 b3 (nI 0) (nI 0) sz u_2 mv kp li) H := hP
  have hD : va_D A (rW cI hm b0 b1 b2 b3 (nI 0) (nI 0) sz u_2 mv kp li) := hD
  obtain ⟨a1, a2, -, a4, -, a6, -⟩ := hu
  refine lv_iconst (v := (nI 0)) hx hb dX5_begin_4 (by decide) ?_
  refine lv_istore_n (lv' := [(1, .int (nI 0)), (0, .ref hm)]) hx hb dX5_begin_5 rfl hl (by decide) rfl (fun ls hl => ?_)
  refine lpW (σ := (Nat) × (Nat → Int32)) 6 2 [] (fun x9 => [(0, .ref hm), (1, .int (nI x9.1))]) (fun x9 => rW cI hm b0 b1 b2 b3 (nI 0) (nI 0) sz x9.2 mv kp li) (fun x9 => x9.1 ≤ 8 ∧ (∀ q, q < 64 → x9.2 q = nI (if q % 8 < x9.1 then bgn q else 0)) ∧ x9.2 64 = nI 0 ∧ x9.2 65 = nI 0 ∧ x9.2 66 = pI 64) (fun x9 => 8 - x9.1) (0, u_2) ⟨Nat.zero_le _, fun q hq => by rw [if_neg (Nat.not_lt_zero _)]; have := (a1 q hq).1; rwa [Nat.zero_add] at this, a2, a4, a6⟩ (lv_sub hl [1, 0] rfl) hP hD hS ?_
  clear hP hD hS hl ls
  rintro ⟨i, G⟩ H locs hI hP hD hS ih_6 ls hl
  try dsimp only at hI ih_6 hl hP hD
  obtain ⟨hi, hg, g64, g65, g66⟩ := hI
  refine lv_iload_n hx hb dX5_begin_6 rfl (lv_at hl 1 rfl) ?_
  refine lv_bipush (v := (nI 8)) hx hb dX5_begin_7 (by decide) ?_
  refine ln_icmp_ge (tgt := 65) hx hb dX5_begin_9 (by decide) (by omega) (by decide) (fun c9 => ?_) (fun c9 => ?_)
  · skip
    refine lv_aload_n hx hb dX5_begin_65 rfl (lv_at hl 0 rfl) ?_
    refine va_get (D := D) (ci := 4) (v := .ref b0) (C := RX5) (T := TX5) (N := 7) hx hb hG wu_X5 hown hK hP 0 rfl rfl 1 (by decide) (hG _ wf_X5_7) (fun _ h9 => h9) rfl dX5_begin_66 ?_
    refine lv_bipush (v := (nI 65)) hx hb dX5_begin_69 (by decide) ?_
    refine lv_bipush (v := (nI 15)) hx hb dX5_begin_71 (by decide) ?_
    refine va_iast hx hb hK hP hD hS 1 0 rfl rfl (vp_in_nI (by decide) (by decide)) dX5_begin_73 (fun H locs hP hD hS => ?_)
    rw [nI_clamp (show 65 < 2 ^ 31 by omega)] at hP hD
    have hP : va_P D classes (rW cI hm b0 b1 b2 b3 (nI 0) (nI 0) sz (upd G 65 (nI 15)) mv kp li) H := hP
    have hD : va_D A (rW cI hm b0 b1 b2 b3 (nI 0) (nI 0) sz (upd G 65 (nI 15)) mv kp li) := hD
    exact weV (upd G 65 (nI 15)) hx hb hr hlocks dX5_begin_74 ⟨fun q hq => ⟨by rw [pk_un (by omega), Nat.zero_add, hg q hq, if_pos (by omega)], bgn_lt q hq⟩, by rw [pk_un (by omega)]; exact g64, by decide, pk_us, by decide, by rw [pk_un (by omega)]; exact g66, by decide⟩ hP hD hK hA hE hS
  · skip
    have hhm := hmf_lt i
    refine lv_aload_n hx hb dX5_begin_12 rfl (lv_at hl 0 rfl) ?_
    refine va_get (D := D) (ci := 4) (v := .ref b0) (C := RX5) (T := TX5) (N := 7) hx hb hG wu_X5 hown hK hP 0 rfl rfl 1 (by decide) (hG _ wf_X5_7) (fun _ h9 => h9) rfl dX5_begin_13 ?_
    refine lv_iload_n hx hb dX5_begin_16 rfl (lv_at hl 1 rfl) ?_
    refine lv_iload_n hx hb dX5_begin_17 rfl (lv_at hl 1 rfl) ?_
    refine roI (rnS (As := [.int (nI i)]) (rest := [.int (nI i), .ref b0]) S0 (c_X5_home l i (by omega)) wm_X5_32 wt_X5_home wn_X5 wc_X5_home hd_X5_home ⟨rfl, rfl, by decide, by decide⟩ True.blind (fun _ _ _ => trivial) hl.1 (Nat.le_of_ble_eq_true rfl) dX5_begin_18 rfl ⟨by decide, by decide⟩) (fun r_3 hr_3 => ?_)
    subst hr_3
    refine va_iast hx hb hK hP hD hS 1 0 rfl rfl (vp_in_nI (by omega) (by decide)) dX5_begin_21 (fun H locs hP hD hS => ?_)
    rw [nI_clamp (show i < 2 ^ 31 by omega)] at hP hD
    have hP : va_P D classes (rW cI hm b0 b1 b2 b3 (nI 0) (nI 0) sz (upd G i (nI (hmf i))) mv kp li) H := hP
    have hD : va_D A (rW cI hm b0 b1 b2 b3 (nI 0) (nI 0) sz (upd G i (nI (hmf i))) mv kp li) := hD
    refine lv_aload_n hx hb dX5_begin_22 rfl (lv_at hl 0 rfl) ?_
    refine va_get (D := D) (ci := 4) (v := .ref b0) (C := RX5) (T := TX5) (N := 7) hx hb hG wu_X5 hown hK hP 0 rfl rfl 1 (by decide) (hG _ wf_X5_7) (fun _ h9 => h9) rfl dX5_begin_23 ?_
    refine lv_bipush (v := (nI 8)) hx hb dX5_begin_26 (by decide) ?_
    refine lv_iload_n hx hb dX5_begin_28 rfl (lv_at hl 1 rfl) ?_
    refine ln_iadd hx hb dX5_begin_29 ?_
    refine lv_iconst (v := (nI 1)) hx hb dX5_begin_30 (by decide) ?_
    refine va_iast hx hb hK hP hD hS 1 0 rfl rfl (vp_in_nI (by omega) (by decide)) dX5_begin_31 (fun H locs hP hD hS => ?_)
    rw [nI_clamp (show (8 + i) < 2 ^ 31 by omega)] at hP hD
    have hP : va_P D classes (rW cI hm b0 b1 b2 b3 (nI 0) (nI 0) sz (upd (upd G i (nI (hmf i))) (8 + i) (nI 1)) mv kp li) H := hP
    have hD : va_D A (rW cI hm b0 b1 b2 b3 (nI 0) (nI 0) sz (upd (upd G i (nI (hmf i))) (8 + i) (nI 1)) mv kp li) := hD
    refine lv_aload_n hx hb dX5_begin_32 rfl (lv_at hl 0 rfl) ?_
    refine va_get (D := D) (ci := 4) (v := .ref b0) (C := RX5) (T := TX5) (N := 7) hx hb hG wu_X5 hown hK hP 0 rfl rfl 1 (by decide) (hG _ wf_X5_7) (fun _ h9 => h9) rfl dX5_begin_33 ?_
    refine lv_bipush (v := (nI 48)) hx hb dX5_begin_36 (by decide) ?_
    refine lv_iload_n hx hb dX5_begin_38 rfl (lv_at hl 1 rfl) ?_
    refine ln_iadd hx hb dX5_begin_39 ?_
    refine lv_bipush (v := (nI 7)) hx hb dX5_begin_40 (by decide) ?_
    refine va_iast hx hb hK hP hD hS 1 0 rfl rfl (vp_in_nI (by omega) (by decide)) dX5_begin_42 (fun H locs hP hD hS => ?_)
    rw [nI_clamp (show (48 + i) < 2 ^ 31 by omega)] at hP hD
    have hP : va_P D classes (rW cI hm b0 b1 b2 b3 (nI 0) (nI 0) sz (upd (upd (upd G i (nI (hmf i))) (8 + i) (nI 1)) (48 + i) (nI 7)) mv kp li) H := hP
    have hD : va_D A (rW cI hm b0 b1 b2 b3 (nI 0) (nI 0) sz (upd (upd (upd G i (nI (hmf i))) (8 + i) (nI 1)) (48 + i) (nI 7)) mv kp li) := hD
    refine lv_aload_n hx hb dX5_begin_43 rfl (lv_at hl 0 rfl) ?_
    refine va_get (D := D) (ci := 4) (v := .ref b0) (C := RX5) (T := TX5) (N := 7) hx hb hG wu_X5 hown hK hP 0 rfl rfl 1 (by decide) (hG _ wf_X5_7) (fun _ h9 => h9) rfl dX5_begin_44 ?_
    refine lv_bipush (v := (nI 56)) hx hb dX5_begin_47 (by decide) ?_
    refine lv_iload_n hx hb dX5_begin_49 rfl (lv_at hl 1 rfl) ?_
    refine ln_iadd hx hb dX5_begin_50 ?_
    refine lv_bipush (v := (nI 6)) hx hb dX5_begin_51 (by decide) ?_
    refine lv_iload_n hx hb dX5_begin_53 rfl (lv_at hl 1 rfl) ?_
    refine roI (rnS (As := [.int (nI i)]) (rest := [.int (nI 6), .int (nI (56 + i)), .ref b0]) S0 (c_X5_home l i (by omega)) wm_X5_32 wt_X5_home wn_X5 wc_X5_home hd_X5_home ⟨rfl, rfl, by decide, by decide⟩ True.blind (fun _ _ _ => trivial) hl.1 (Nat.le_of_ble_eq_true rfl) dX5_begin_54 rfl ⟨by decide, by decide⟩) (fun r_4 hr_4 => ?_)
    subst hr_4
    refine ln_iadd hx hb dX5_begin_57 ?_
    refine va_iast hx hb hK hP hD hS 1 0 rfl rfl (vp_in_nI (by omega) (by decide)) dX5_begin_58 (fun H locs hP hD hS => ?_)
    rw [nI_clamp (show (56 + i) < 2 ^ 31 by omega)] at hP hD
    have hP : va_P D classes (rW cI hm b0 b1 b2 b3 (nI 0) (nI 0) sz (upd (upd (upd (upd G i (nI (hmf i))) (8 + i) (nI 1)) (48 + i) (nI 7)) (56 + i) (nI (6 + (hmf i)))) mv kp li) H := hP
    have hD : va_D A (rW cI hm b0 b1 b2 b3 (nI 0) (nI 0) sz (upd (upd (upd (upd G i (nI (hmf i))) (8 + i) (nI 1)) (48 + i) (nI 7)) (56 + i) (nI (6 + (hmf i)))) mv kp li) := hD
    refine lv_iinc (v := (nI (i + 1))) (lv' := [(1, .int (nI (i + 1))), (0, .ref hm)]) hx hb dX5_begin_59 hl (k := 1) rfl (show nI i + Int32.ofInt 1 = nI (i + 1) from nI_add _ 1) (by decide) rfl (fun ls hl => ?_)
    refine lv_goto (tgt := 6) hx hb dX5_begin_62 (by decide) ?_
    exact ih_6 ((i + 1), (upd (upd (upd (upd G i (nI (hmf i))) (8 + i) (nI 1)) (48 + i) (nI 7)) (56 + i) (nI (6 + (hmf i))))) _ _ ⟨by omega, bg_s (by omega) hg, by dsimp only; rw [pk_un (by omega), pk_un (by omega), pk_un (by omega), pk_un (by omega)]; exact g64, by dsimp only; rw [pk_un (by omega), pk_un (by omega), pk_un (by omega), pk_un (by omega)]; exact g65, by dsimp only; rw [pk_un (by omega), pk_un (by omega), pk_un (by omega), pk_un (by omega)]; exact g66⟩ (by (try dsimp only); omega) hP hD hS ls (lv_sub hl [1, 0] rfl)
theorem dX5_put_0 : decode cX5_put 0 = .ok (.aload_n 0, 1) := by decide +kernel
theorem dX5_put_1 : decode cX5_put 1 = .ok (.iload_n 1, 1) := by decide +kernel
theorem dX5_put_2 : decode cX5_put 2 = .ok (.invokestatic 36, 3) := by decide +kernel
theorem dX5_put_5 : decode cX5_put 5 = .ok (.ifCond .ne 7, 3) := by decide +kernel
theorem dX5_put_8 : decode cX5_put 8 = .ok (.iconst 1, 1) := by decide +kernel
theorem dX5_put_9 : decode cX5_put 9 = .ok (.goto 18, 3) := by decide +kernel
theorem dX5_put_12 : decode cX5_put 12 = .ok (.iload_n 2, 1) := by decide +kernel
theorem dX5_put_13 : decode cX5_put 13 = .ok (.ifCond .lt 9, 3) := by decide +kernel
theorem dX5_put_16 : decode cX5_put 16 = .ok (.iload_n 2, 1) := by decide +kernel
theorem dX5_put_17 : decode cX5_put 17 = .ok (.bipush 12, 2) := by decide +kernel
theorem dX5_put_19 : decode cX5_put 19 = .ok (.if_icmp .le 7, 3) := by decide +kernel
theorem dX5_put_22 : decode cX5_put 22 = .ok (.iconst 2, 1) := by decide +kernel
theorem dX5_put_23 : decode cX5_put 23 = .ok (.goto 4, 3) := by decide +kernel
theorem dX5_put_26 : decode cX5_put 26 = .ok (.iconst 0, 1) := by decide +kernel
theorem dX5_put_27 : decode cX5_put 27 = .ok (.putfield 22, 3) := by decide +kernel
theorem dX5_put_30 : decode cX5_put 30 = .ok (.aload_n 0, 1) := by decide +kernel
theorem dX5_put_31 : decode cX5_put 31 = .ok (.getfield 22, 3) := by decide +kernel
theorem dX5_put_34 : decode cX5_put 34 = .ok (.ifCond .le 4, 3) := by decide +kernel
theorem dX5_put_37 : decode cX5_put 37 = .ok (.return_, 1) := by decide +kernel
theorem dX5_put_38 : decode cX5_put 38 = .ok (.aload_n 0, 1) := by decide +kernel
theorem dX5_put_39 : decode cX5_put 39 = .ok (.getfield 7, 3) := by decide +kernel
theorem dX5_put_42 : decode cX5_put 42 = .ok (.iload_n 1, 1) := by decide +kernel
theorem dX5_put_43 : decode cX5_put 43 = .ok (.iload_n 2, 1) := by decide +kernel
theorem dX5_put_44 : decode cX5_put 44 = .ok (.iastore, 1) := by decide +kernel
theorem dX5_put_45 : decode cX5_put 45 = .ok (.aload_n 0, 1) := by decide +kernel
theorem dX5_put_46 : decode cX5_put 46 = .ok (.iconst 0, 1) := by decide +kernel
theorem dX5_put_47 : decode cX5_put 47 = .ok (.putfield 26, 3) := by decide +kernel
theorem dX5_put_50 : decode cX5_put 50 = .ok (.return_, 1) := by decide +kernel
theorem hd_X5_put : yX5_put.cls ≠ "java/lang/invoke/MethodHandle" ∧ yX5_put.cls ≠ "java/lang/invoke/VarHandle" ∧ (parseMethodDescriptor yX5_put.desc).map (fun d => d.parameters.length) = some 2 := by decide +kernel
set_option maxHeartbeats 4000000 in
set_option maxRecDepth 100000 in
/-- put -/
theorem c_X5_put (l : Launch) {D : va_G} {cI cJ : ClassId} {A : Nat → Prop} {hm b0 b1 b2 b3 : Nat} {th mk sz : Int32} {F mv kp li : Nat → Int32} (bd : Nat → Nat) (sd rt ps : Nat) (hBd : Bd F 0 bd sd rt ps) (x y : Int32) : Met l yX5_put (Cond.code yX5_put cX5_put 3 none :: wsL_law) (rK 1) (va_Pc [.ref hm, .int x, .int y] (IW D cI cJ A (rW cI hm b0 b1 b2 b3 th mk sz F mv kp li))) (va_Qv (fun u => (pt0 x y = 0 → ∃ q v, q < 64 ∧ v < 13 ∧ x = nI q ∧ y = nI v ∧ Bd u.1 0 (upN bd q v) sd rt ps ∧ u.2 = nI 0) ∧ (¬ pt0 x y = 0 → u.1 = F ∧ u.2 = mk)) (fun (u : (Nat → Int32) × Int32) t => IW D cI cJ A (rW cI hm b0 b1 b2 b3 (nI (pt0 x y)) u.2 sz u.1 mv kp li) t) A) 0 0 A := by
  refine entM (by decide) (Nat.le_of_ble_eq_true rfl) ?_
  intro p e s m below meth c ls S0 hr hlocks hG hnm hB hl
  have hx := S0.1
  have hb := S0.2.1
  have hown := S0.2.2.2.1
  have hl : lv_has ls 3 [(0, .ref hm), (1, .int x), (2, .int y)] := hl
  obtain ⟨hP, hD, hK, hA, hE⟩ := hB
  have hS : va_S A s.heap s.heap [] := va_S.rf
  have hp0 : pt0 x y < 3 := by unfold pt0; (repeat' split) <;> omega
  refine lv_aload_n hx hb dX5_put_0 rfl (lv_at hl 0 rfl) ?_
  refine lv_iload_n hx hb dX5_put_1 rfl (lv_at hl 1 rfl) ?_
  refine roI (rnS (As := [.int x]) (rest := [.ref hm]) S0 (c_X5_isSquare l x) wm_X5_36 wt_X5_isSquare wn_X5 wc_X5_isSquare hd_X5_isSquare ⟨rfl, rfl, by decide, by decide⟩ True.blind (fun _ _ _ => trivial) hl.1 (Nat.le_of_ble_eq_true rfl) dX5_put_2 rfl ⟨by decide, by decide⟩) (fun r_1 hr_1 => ?_)
  subst hr_1
  refine jnG 27 3 [(0, .ref hm), (1, .int x), (2, .int y)] [.int (nI (pt0 x y)), .ref hm] ?_ (fun hj_27 => ?_)
  · intro ls hl
    refine va_put (D := D) (ci := 4) (v := .int (nI (pt0 x y))) (ty := .int) (C := RX5) (T := TX5) (N := 7) hx hb hG wu_X5 tyX5 tyX5_ok nmX5 hown hK hP hD hS 0 rfl rfl 0 (by decide) (hG _ wf_X5_22) (fun _ h9 => h9) rfl (by decide +kernel) rfl rfl (Nat.le_of_ble_eq_true rfl) dX5_put_27 (fun H locs hP hD hS => ?_)
    have hP : va_P D classes (rW cI hm b0 b1 b2 b3 (nI (pt0 x y)) mk sz F mv kp li) H := hP
    have hD : va_D A (rW cI hm b0 b1 b2 b3 (nI (pt0 x y)) mk sz F mv kp li) := hD
    refine lv_aload_n hx hb dX5_put_30 rfl (lv_at hl 0 rfl) ?_
    refine va_get (D := D) (ci := 4) (v := .int (nI (pt0 x y))) (C := RX5) (T := TX5) (N := 7) hx hb hG wu_X5 hown hK hP 0 rfl rfl 0 (by decide) (hG _ wf_X5_22) (fun _ h9 => h9) rfl dX5_put_31 ?_
    refine ln_if_le (tgt := 38) hx hb dX5_put_34 (by decide) (by omega) (fun c34 => ?_) (fun c34 => ?_)
    · skip
      obtain ⟨q9, v9, hq9, hv9, hx9, hy9⟩ := pt0_0 c34
      refine lv_aload_n hx hb dX5_put_38 rfl (lv_at hl 0 rfl) ?_
      refine va_get (D := D) (ci := 4) (v := .ref b0) (C := RX5) (T := TX5) (N := 7) hx hb hG wu_X5 hown hK hP 0 rfl rfl 1 (by decide) (hG _ wf_X5_7) (fun _ h9 => h9) rfl dX5_put_39 ?_
      refine lv_iload_n hx hb dX5_put_42 rfl (lv_at hl 1 rfl) ?_
      refine W.top (y := .int (nI q9)) (congrArg Value.int hx9) ?_
      refine lv_iload_n hx hb dX5_put_43 rfl (lv_at hl 2 rfl) ?_
      refine W.top (y := .int (nI v9)) (congrArg Value.int hy9) ?_
      refine va_iast hx hb hK hP hD hS 1 0 rfl rfl (vp_in_nI (by omega) (by decide)) dX5_put_44 (fun H locs hP hD hS => ?_)
      rw [nI_clamp (show q9 < 2 ^ 31 by omega)] at hP hD
      have hP : va_P D classes (rW cI hm b0 b1 b2 b3 (nI (pt0 x y)) mk sz (upd F q9 (nI v9)) mv kp li) H := hP
      have hD : va_D A (rW cI hm b0 b1 b2 b3 (nI (pt0 x y)) mk sz (upd F q9 (nI v9)) mv kp li) := hD
      refine lv_aload_n hx hb dX5_put_45 rfl (lv_at hl 0 rfl) ?_
      refine lv_iconst (v := (nI 0)) hx hb dX5_put_46 (by decide) ?_
      refine va_put (D := D) (ci := 4) (v := .int (nI 0)) (ty := .int) (C := RX5) (T := TX5) (N := 7) hx hb hG wu_X5 tyX5 tyX5_ok nmX5 hown hK hP hD hS 0 rfl rfl 2 (by decide) (hG _ wf_X5_26) (fun _ h9 => h9) rfl (by decide +kernel) rfl rfl (Nat.le_of_ble_eq_true rfl) dX5_put_47 (fun H locs hP hD hS => ?_)
      have hP : va_P D classes (rW cI hm b0 b1 b2 b3 (nI (pt0 x y)) (nI 0) sz (upd F q9 (nI v9)) mv kp li) H := hP
      have hD : va_D A (rW cI hm b0 b1 b2 b3 (nI (pt0 x y)) (nI 0) sz (upd F q9 (nI v9)) mv kp li) := hD
      exact weV ((upd F q9 (nI v9), (nI 0))) hx hb hr hlocks dX5_put_50 ⟨fun _ => ⟨q9, v9, hq9, hv9, hx9, hy9, Bd_up hBd hq9 hv9, rfl⟩, fun z => absurd c34 z⟩ hP hD hK hA hE hS
    · skip
      exact weV ((F, mk)) hx hb hr hlocks dX5_put_37 ⟨fun z => absurd z c34, fun _ => ⟨rfl, rfl⟩⟩ hP hD hK hA hE hS
  · skip
    refine lb_if_ne (tgt := 12) hx hb dX5_put_5 (by decide) (fun c5 => ?_) (fun c5 => ?_)
    · skip
      refine lv_iload_n hx hb dX5_put_12 rfl (lv_at hl 2 rfl) ?_
      refine lv_if_lt (tgt := 22) hx hb dX5_put_13 (by decide) (fun c13 => ?_) (fun c13 => ?_)
      · skip
        refine lv_iconst (v := (nI 2)) hx hb dX5_put_22 (by decide) ?_
        refine lv_goto (tgt := 27) hx hb dX5_put_23 (by decide) ?_
        refine W.top (y := .int (nI (pt0 x y))) (congrArg Value.int (congrArg nI (by unfold pt0; first | rw [if_pos c5] | (rw [if_neg (show ¬ isq x = false by rw [c5]; decide)]; first | rw [if_pos (Or.inl c13)] | rw [if_pos (Or.inr c19)] | rw [if_neg (fun z => z.elim c13 (fun w => w c19))])))) ?_
        exact hj_27 ls (lv_sub hl [0, 1, 2] rfl)
      · skip
        refine lv_iload_n hx hb dX5_put_16 rfl (lv_at hl 2 rfl) ?_
        refine lv_bipush (v := (nI 12)) hx hb dX5_put_17 (by decide) ?_
        refine lv_icmp_le (tgt := 26) hx hb dX5_put_19 (by decide) (fun c19 => ?_) (fun c19 => ?_)
        · skip
          refine lv_iconst (v := (nI 0)) hx hb dX5_put_26 (by decide) ?_
          refine W.top (y := .int (nI (pt0 x y))) (congrArg Value.int (congrArg nI (by unfold pt0; first | rw [if_pos c5] | (rw [if_neg (show ¬ isq x = false by rw [c5]; decide)]; first | rw [if_pos (Or.inl c13)] | rw [if_pos (Or.inr c19)] | rw [if_neg (fun z => z.elim c13 (fun w => w c19))])))) ?_
          exact hj_27 ls (lv_sub hl [0, 1, 2] rfl)
        · skip
          refine lv_iconst (v := (nI 2)) hx hb dX5_put_22 (by decide) ?_
          refine lv_goto (tgt := 27) hx hb dX5_put_23 (by decide) ?_
          refine W.top (y := .int (nI (pt0 x y))) (congrArg Value.int (congrArg nI (by unfold pt0; first | rw [if_pos c5] | (rw [if_neg (show ¬ isq x = false by rw [c5]; decide)]; first | rw [if_pos (Or.inl c13)] | rw [if_pos (Or.inr c19)] | rw [if_neg (fun z => z.elim c13 (fun w => w c19))])))) ?_
          exact hj_27 ls (lv_sub hl [0, 1, 2] rfl)
    · skip
      refine lv_iconst (v := (nI 1)) hx hb dX5_put_8 (by decide) ?_
      refine lv_goto (tgt := 27) hx hb dX5_put_9 (by decide) ?_
      refine W.top (y := .int (nI (pt0 x y))) (congrArg Value.int (congrArg nI (by unfold pt0; first | rw [if_pos c5] | (rw [if_neg (show ¬ isq x = false by rw [c5]; decide)]; first | rw [if_pos (Or.inl c13)] | rw [if_pos (Or.inr c19)] | rw [if_neg (fun z => z.elim c13 (fun w => w c19))])))) ?_
      exact hj_27 ls (lv_sub hl [0, 1, 2] rfl)
theorem dX5_state_0 : decode cX5_state 0 = .ok (.aload_n 0, 1) := by decide +kernel
theorem dX5_state_1 : decode cX5_state 1 = .ok (.iload_n 1, 1) := by decide +kernel
theorem dX5_state_2 : decode cX5_state 2 = .ok (.ifCond .lt 29, 3) := by decide +kernel
theorem dX5_state_5 : decode cX5_state 5 = .ok (.iload_n 1, 1) := by decide +kernel
theorem dX5_state_6 : decode cX5_state 6 = .ok (.iconst 1, 1) := by decide +kernel
theorem dX5_state_7 : decode cX5_state 7 = .ok (.if_icmp .gt 24, 3) := by decide +kernel
theorem dX5_state_10 : decode cX5_state 10 = .ok (.iload_n 2, 1) := by decide +kernel
theorem dX5_state_11 : decode cX5_state 11 = .ok (.ifCond .lt 20, 3) := by decide +kernel
theorem dX5_state_14 : decode cX5_state 14 = .ok (.iload_n 2, 1) := by decide +kernel
theorem dX5_state_15 : decode cX5_state 15 = .ok (.bipush 15, 2) := by decide +kernel
theorem dX5_state_17 : decode cX5_state 17 = .ok (.if_icmp .gt 14, 3) := by decide +kernel
theorem dX5_state_20 : decode cX5_state 20 = .ok (.iload_n 3, 1) := by decide +kernel
theorem dX5_state_21 : decode cX5_state 21 = .ok (.iconst (-1), 1) := by decide +kernel
theorem dX5_state_22 : decode cX5_state 22 = .ok (.if_icmp .lt 9, 3) := by decide +kernel
theorem dX5_state_25 : decode cX5_state 25 = .ok (.iload_n 3, 1) := by decide +kernel
theorem dX5_state_26 : decode cX5_state 26 = .ok (.bipush 63, 2) := by decide +kernel
theorem dX5_state_28 : decode cX5_state 28 = .ok (.if_icmp .le 7, 3) := by decide +kernel
theorem dX5_state_31 : decode cX5_state 31 = .ok (.iconst 1, 1) := by decide +kernel
theorem dX5_state_32 : decode cX5_state 32 = .ok (.goto 4, 3) := by decide +kernel
theorem dX5_state_35 : decode cX5_state 35 = .ok (.iconst 0, 1) := by decide +kernel
theorem dX5_state_36 : decode cX5_state 36 = .ok (.putfield 22, 3) := by decide +kernel
theorem dX5_state_39 : decode cX5_state 39 = .ok (.aload_n 0, 1) := by decide +kernel
theorem dX5_state_40 : decode cX5_state 40 = .ok (.getfield 22, 3) := by decide +kernel
theorem dX5_state_43 : decode cX5_state 43 = .ok (.ifCond .le 4, 3) := by decide +kernel
theorem dX5_state_46 : decode cX5_state 46 = .ok (.return_, 1) := by decide +kernel
theorem dX5_state_47 : decode cX5_state 47 = .ok (.aload_n 0, 1) := by decide +kernel
theorem dX5_state_48 : decode cX5_state 48 = .ok (.getfield 7, 3) := by decide +kernel
theorem dX5_state_51 : decode cX5_state 51 = .ok (.bipush 64, 2) := by decide +kernel
theorem dX5_state_53 : decode cX5_state 53 = .ok (.iload_n 1, 1) := by decide +kernel
theorem dX5_state_54 : decode cX5_state 54 = .ok (.iastore, 1) := by decide +kernel
theorem dX5_state_55 : decode cX5_state 55 = .ok (.aload_n 0, 1) := by decide +kernel
theorem dX5_state_56 : decode cX5_state 56 = .ok (.getfield 7, 3) := by decide +kernel
theorem dX5_state_59 : decode cX5_state 59 = .ok (.bipush 65, 2) := by decide +kernel
theorem dX5_state_61 : decode cX5_state 61 = .ok (.iload_n 2, 1) := by decide +kernel
theorem dX5_state_62 : decode cX5_state 62 = .ok (.iastore, 1) := by decide +kernel
theorem dX5_state_63 : decode cX5_state 63 = .ok (.aload_n 0, 1) := by decide +kernel
theorem dX5_state_64 : decode cX5_state 64 = .ok (.getfield 7, 3) := by decide +kernel
theorem dX5_state_67 : decode cX5_state 67 = .ok (.bipush 66, 2) := by decide +kernel
theorem dX5_state_69 : decode cX5_state 69 = .ok (.iload_n 3, 1) := by decide +kernel
theorem dX5_state_70 : decode cX5_state 70 = .ok (.iastore, 1) := by decide +kernel
theorem dX5_state_71 : decode cX5_state 71 = .ok (.aload_n 0, 1) := by decide +kernel
theorem dX5_state_72 : decode cX5_state 72 = .ok (.iconst 0, 1) := by decide +kernel
theorem dX5_state_73 : decode cX5_state 73 = .ok (.putfield 26, 3) := by decide +kernel
theorem dX5_state_76 : decode cX5_state 76 = .ok (.return_, 1) := by decide +kernel
theorem hd_X5_state : yX5_state.cls ≠ "java/lang/invoke/MethodHandle" ∧ yX5_state.cls ≠ "java/lang/invoke/VarHandle" ∧ (parseMethodDescriptor yX5_state.desc).map (fun d => d.parameters.length) = some 3 := by decide +kernel
set_option maxHeartbeats 4000000 in
set_option maxRecDepth 100000 in
/-- state -/
theorem c_X5_state (l : Launch) {D : va_G} {cI cJ : ClassId} {A : Nat → Prop} {hm b0 b1 b2 b3 : Nat} {th mk sz : Int32} {F mv kp li : Nat → Int32} (bd : Nat → Nat) (sd rt ps : Nat) (hBd : Bd F 0 bd sd rt ps) (x y z : Int32) : Met l yX5_state (Cond.code yX5_state cX5_state 4 none :: wsL_law) (rK 0) (va_Pc [.ref hm, .int x, .int y, .int z] (IW D cI cJ A (rW cI hm b0 b1 b2 b3 th mk sz F mv kp li))) (va_Qv (fun u => (st0 x y z = 0 → ∃ a b n, a < 2 ∧ b < 16 ∧ n < 65 ∧ x = nI a ∧ y = nI b ∧ z = pI n ∧ Bd u.1 0 bd a b n ∧ u.2 = nI 0) ∧ (¬ st0 x y z = 0 → u.1 = F ∧ u.2 = mk)) (fun (u : (Nat → Int32) × Int32) t => IW D cI cJ A (rW cI hm b0 b1 b2 b3 (nI (st0 x y z)) u.2 sz u.1 mv kp li) t) A) 0 0 A := by
  refine entM (by decide) (Nat.le_of_ble_eq_true rfl) ?_
  intro p e s m below meth c ls S0 hr hlocks hG hnm hB hl
  have hx := S0.1
  have hb := S0.2.1
  have hown := S0.2.2.2.1
  have hl : lv_has ls 4 [(0, .ref hm), (1, .int x), (2, .int y), (3, .int z)] := hl
  obtain ⟨hP, hD, hK, hA, hE⟩ := hB
  have hS : va_S A s.heap s.heap [] := va_S.rf
  have hp0 : st0 x y z < 3 := by unfold st0; (repeat' split) <;> omega
  refine lv_aload_n hx hb dX5_state_0 rfl (lv_at hl 0 rfl) ?_
  refine lv_iload_n hx hb dX5_state_1 rfl (lv_at hl 1 rfl) ?_
  refine jnG 36 4 [(0, .ref hm), (1, .int x), (2, .int y), (3, .int z)] [.int (nI (st0 x y z)), .ref hm] ?_ (fun hj_36 => ?_)
  · intro ls hl
    refine va_put (D := D) (ci := 4) (v := .int (nI (st0 x y z))) (ty := .int) (C := RX5) (T := TX5) (N := 7) hx hb hG wu_X5 tyX5 tyX5_ok nmX5 hown hK hP hD hS 0 rfl rfl 0 (by decide) (hG _ wf_X5_22) (fun _ h9 => h9) rfl (by decide +kernel) rfl rfl (Nat.le_of_ble_eq_true rfl) dX5_state_36 (fun H locs hP hD hS => ?_)
    have hP : va_P D classes (rW cI hm b0 b1 b2 b3 (nI (st0 x y z)) mk sz F mv kp li) H := hP
    have hD : va_D A (rW cI hm b0 b1 b2 b3 (nI (st0 x y z)) mk sz F mv kp li) := hD
    refine lv_aload_n hx hb dX5_state_39 rfl (lv_at hl 0 rfl) ?_
    refine va_get (D := D) (ci := 4) (v := .int (nI (st0 x y z))) (C := RX5) (T := TX5) (N := 7) hx hb hG wu_X5 hown hK hP 0 rfl rfl 0 (by decide) (hG _ wf_X5_22) (fun _ h9 => h9) rfl dX5_state_40 ?_
    refine ln_if_le (tgt := 47) hx hb dX5_state_43 (by decide) (by omega) (fun c43 => ?_) (fun c43 => ?_)
    · skip
      obtain ⟨a9, b9, n9, ha9, hb9, hn9, hx9, hy9, hz9⟩ := st0_0 c43
      refine lv_aload_n hx hb dX5_state_47 rfl (lv_at hl 0 rfl) ?_
      refine va_get (D := D) (ci := 4) (v := .ref b0) (C := RX5) (T := TX5) (N := 7) hx hb hG wu_X5 hown hK hP 0 rfl rfl 1 (by decide) (hG _ wf_X5_7) (fun _ h9 => h9) rfl dX5_state_48 ?_
      refine lv_bipush (v := (nI 64)) hx hb dX5_state_51 (by decide) ?_
      refine lv_iload_n hx hb dX5_state_53 rfl (lv_at hl 1 rfl) ?_
      refine W.top (y := .int (nI a9)) (congrArg Value.int hx9) ?_
      refine va_iast hx hb hK hP hD hS 1 0 rfl rfl (vp_in_nI (by decide) (by decide)) dX5_state_54 (fun H locs hP hD hS => ?_)
      rw [nI_clamp (show 64 < 2 ^ 31 by omega)] at hP hD
      have hP : va_P D classes (rW cI hm b0 b1 b2 b3 (nI (st0 x y z)) mk sz (upd F 64 (nI a9)) mv kp li) H := hP
      have hD : va_D A (rW cI hm b0 b1 b2 b3 (nI (st0 x y z)) mk sz (upd F 64 (nI a9)) mv kp li) := hD
      refine lv_aload_n hx hb dX5_state_55 rfl (lv_at hl 0 rfl) ?_
      refine va_get (D := D) (ci := 4) (v := .ref b0) (C := RX5) (T := TX5) (N := 7) hx hb hG wu_X5 hown hK hP 0 rfl rfl 1 (by decide) (hG _ wf_X5_7) (fun _ h9 => h9) rfl dX5_state_56 ?_
      refine lv_bipush (v := (nI 65)) hx hb dX5_state_59 (by decide) ?_
      refine lv_iload_n hx hb dX5_state_61 rfl (lv_at hl 2 rfl) ?_
      refine W.top (y := .int (nI b9)) (congrArg Value.int hy9) ?_
      refine va_iast hx hb hK hP hD hS 1 0 rfl rfl (vp_in_nI (by decide) (by decide)) dX5_state_62 (fun H locs hP hD hS => ?_)
      rw [nI_clamp (show 65 < 2 ^ 31 by omega)] at hP hD
      have hP : va_P D classes (rW cI hm b0 b1 b2 b3 (nI (st0 x y z)) mk sz (upd (upd F 64 (nI a9)) 65 (nI b9)) mv kp li) H := hP
      have hD : va_D A (rW cI hm b0 b1 b2 b3 (nI (st0 x y z)) mk sz (upd (upd F 64 (nI a9)) 65 (nI b9)) mv kp li) := hD
      refine lv_aload_n hx hb dX5_state_63 rfl (lv_at hl 0 rfl) ?_
      refine va_get (D := D) (ci := 4) (v := .ref b0) (C := RX5) (T := TX5) (N := 7) hx hb hG wu_X5 hown hK hP 0 rfl rfl 1 (by decide) (hG _ wf_X5_7) (fun _ h9 => h9) rfl dX5_state_64 ?_
      refine lv_bipush (v := (nI 66)) hx hb dX5_state_67 (by decide) ?_
      refine lv_iload_n hx hb dX5_state_69 rfl (lv_at hl 3 rfl) ?_
      refine W.top (y := .int (pI n9)) (congrArg Value.int hz9) ?_
      refine va_iast hx hb hK hP hD hS 1 0 rfl rfl (vp_in_nI (by decide) (by decide)) dX5_state_70 (fun H locs hP hD hS => ?_)
      rw [nI_clamp (show 66 < 2 ^ 31 by omega)] at hP hD
      have hP : va_P D classes (rW cI hm b0 b1 b2 b3 (nI (st0 x y z)) mk sz (upd (upd (upd F 64 (nI a9)) 65 (nI b9)) 66 (pI n9)) mv kp li) H := hP
      have hD : va_D A (rW cI hm b0 b1 b2 b3 (nI (st0 x y z)) mk sz (upd (upd (upd F 64 (nI a9)) 65 (nI b9)) 66 (pI n9)) mv kp li) := hD
      refine lv_aload_n hx hb dX5_state_71 rfl (lv_at hl 0 rfl) ?_
      refine lv_iconst (v := (nI 0)) hx hb dX5_state_72 (by decide) ?_
      refine va_put (D := D) (ci := 4) (v := .int (nI 0)) (ty := .int) (C := RX5) (T := TX5) (N := 7) hx hb hG wu_X5 tyX5 tyX5_ok nmX5 hown hK hP hD hS 0 rfl rfl 2 (by decide) (hG _ wf_X5_26) (fun _ h9 => h9) rfl (by decide +kernel) rfl rfl (Nat.le_of_ble_eq_true rfl) dX5_state_73 (fun H locs hP hD hS => ?_)
      have hP : va_P D classes (rW cI hm b0 b1 b2 b3 (nI (st0 x y z)) (nI 0) sz (upd (upd (upd F 64 (nI a9)) 65 (nI b9)) 66 (pI n9)) mv kp li) H := hP
      have hD : va_D A (rW cI hm b0 b1 b2 b3 (nI (st0 x y z)) (nI 0) sz (upd (upd (upd F 64 (nI a9)) 65 (nI b9)) 66 (pI n9)) mv kp li) := hD
      exact weV ((upd (upd (upd F 64 (nI a9)) 65 (nI b9)) 66 (pI n9), (nI 0))) hx hb hr hlocks dX5_state_76 ⟨fun _ => ⟨a9, b9, n9, ha9, hb9, hn9, hx9, hy9, hz9, Bd_st hBd ha9 hb9 hn9, rfl⟩, fun z => absurd c43 z⟩ hP hD hK hA hE hS
    · skip
      exact weV ((F, mk)) hx hb hr hlocks dX5_state_46 ⟨fun z => absurd z c43, fun _ => ⟨rfl, rfl⟩⟩ hP hD hK hA hE hS
  · skip
    refine lv_if_lt (tgt := 31) hx hb dX5_state_2 (by decide) (fun c2 => ?_) (fun c2 => ?_)
    · skip
      refine lv_iconst (v := (nI 1)) hx hb dX5_state_31 (by decide) ?_
      refine lv_goto (tgt := 36) hx hb dX5_state_32 (by decide) ?_
      refine W.top (y := .int (nI (st0 x y z))) (congrArg Value.int (congrArg nI (by unfold st0; first | rw [if_pos (Or.inl c2)] | rw [if_pos (Or.inr (Or.inl c7))] | rw [if_pos (Or.inr (Or.inr (Or.inl c11)))] | rw [if_pos (Or.inr (Or.inr (Or.inr (Or.inl c17))))] | rw [if_pos (Or.inr (Or.inr (Or.inr (Or.inr (Or.inl c22)))))] | rw [if_pos (Or.inr (Or.inr (Or.inr (Or.inr (Or.inr c28)))))] | rw [if_neg (fun q => q.elim c2 (fun q => q.elim c7 (fun q => q.elim c11 (fun q => q.elim c17 (fun q => q.elim c22 (fun w => w c28))))))]))) ?_
      exact hj_36 ls (lv_sub hl [0, 1, 2, 3] rfl)
    · skip
      refine lv_iload_n hx hb dX5_state_5 rfl (lv_at hl 1 rfl) ?_
      refine lv_iconst (v := (nI 1)) hx hb dX5_state_6 (by decide) ?_
      refine lv_icmp_gt (tgt := 31) hx hb dX5_state_7 (by decide) (fun c7 => ?_) (fun c7 => ?_)
      · skip
        refine lv_iconst (v := (nI 1)) hx hb dX5_state_31 (by decide) ?_
        refine lv_goto (tgt := 36) hx hb dX5_state_32 (by decide) ?_
        refine W.top (y := .int (nI (st0 x y z))) (congrArg Value.int (congrArg nI (by unfold st0; first | rw [if_pos (Or.inl c2)] | rw [if_pos (Or.inr (Or.inl c7))] | rw [if_pos (Or.inr (Or.inr (Or.inl c11)))] | rw [if_pos (Or.inr (Or.inr (Or.inr (Or.inl c17))))] | rw [if_pos (Or.inr (Or.inr (Or.inr (Or.inr (Or.inl c22)))))] | rw [if_pos (Or.inr (Or.inr (Or.inr (Or.inr (Or.inr c28)))))] | rw [if_neg (fun q => q.elim c2 (fun q => q.elim c7 (fun q => q.elim c11 (fun q => q.elim c17 (fun q => q.elim c22 (fun w => w c28))))))]))) ?_
        exact hj_36 ls (lv_sub hl [0, 1, 2, 3] rfl)
      · skip
        refine lv_iload_n hx hb dX5_state_10 rfl (lv_at hl 2 rfl) ?_
        refine lv_if_lt (tgt := 31) hx hb dX5_state_11 (by decide) (fun c11 => ?_) (fun c11 => ?_)
        · skip
          refine lv_iconst (v := (nI 1)) hx hb dX5_state_31 (by decide) ?_
          refine lv_goto (tgt := 36) hx hb dX5_state_32 (by decide) ?_
          refine W.top (y := .int (nI (st0 x y z))) (congrArg Value.int (congrArg nI (by unfold st0; first | rw [if_pos (Or.inl c2)] | rw [if_pos (Or.inr (Or.inl c7))] | rw [if_pos (Or.inr (Or.inr (Or.inl c11)))] | rw [if_pos (Or.inr (Or.inr (Or.inr (Or.inl c17))))] | rw [if_pos (Or.inr (Or.inr (Or.inr (Or.inr (Or.inl c22)))))] | rw [if_pos (Or.inr (Or.inr (Or.inr (Or.inr (Or.inr c28)))))] | rw [if_neg (fun q => q.elim c2 (fun q => q.elim c7 (fun q => q.elim c11 (fun q => q.elim c17 (fun q => q.elim c22 (fun w => w c28))))))]))) ?_
          exact hj_36 ls (lv_sub hl [0, 1, 2, 3] rfl)
        · skip
          refine lv_iload_n hx hb dX5_state_14 rfl (lv_at hl 2 rfl) ?_
          refine lv_bipush (v := (nI 15)) hx hb dX5_state_15 (by decide) ?_
          refine lv_icmp_gt (tgt := 31) hx hb dX5_state_17 (by decide) (fun c17 => ?_) (fun c17 => ?_)
          · skip
            refine lv_iconst (v := (nI 1)) hx hb dX5_state_31 (by decide) ?_
            refine lv_goto (tgt := 36) hx hb dX5_state_32 (by decide) ?_
            refine W.top (y := .int (nI (st0 x y z))) (congrArg Value.int (congrArg nI (by unfold st0; first | rw [if_pos (Or.inl c2)] | rw [if_pos (Or.inr (Or.inl c7))] | rw [if_pos (Or.inr (Or.inr (Or.inl c11)))] | rw [if_pos (Or.inr (Or.inr (Or.inr (Or.inl c17))))] | rw [if_pos (Or.inr (Or.inr (Or.inr (Or.inr (Or.inl c22)))))] | rw [if_pos (Or.inr (Or.inr (Or.inr (Or.inr (Or.inr c28)))))] | rw [if_neg (fun q => q.elim c2 (fun q => q.elim c7 (fun q => q.elim c11 (fun q => q.elim c17 (fun q => q.elim c22 (fun w => w c28))))))]))) ?_
            exact hj_36 ls (lv_sub hl [0, 1, 2, 3] rfl)
          · skip
            refine lv_iload_n hx hb dX5_state_20 rfl (lv_at hl 3 rfl) ?_
            refine lv_iconst (v := (-1)) hx hb dX5_state_21 (by decide) ?_
            refine lv_icmp_lt (tgt := 31) hx hb dX5_state_22 (by decide) (fun c22 => ?_) (fun c22 => ?_)
            · skip
              refine lv_iconst (v := (nI 1)) hx hb dX5_state_31 (by decide) ?_
              refine lv_goto (tgt := 36) hx hb dX5_state_32 (by decide) ?_
              refine W.top (y := .int (nI (st0 x y z))) (congrArg Value.int (congrArg nI (by unfold st0; first | rw [if_pos (Or.inl c2)] | rw [if_pos (Or.inr (Or.inl c7))] | rw [if_pos (Or.inr (Or.inr (Or.inl c11)))] | rw [if_pos (Or.inr (Or.inr (Or.inr (Or.inl c17))))] | rw [if_pos (Or.inr (Or.inr (Or.inr (Or.inr (Or.inl c22)))))] | rw [if_pos (Or.inr (Or.inr (Or.inr (Or.inr (Or.inr c28)))))] | rw [if_neg (fun q => q.elim c2 (fun q => q.elim c7 (fun q => q.elim c11 (fun q => q.elim c17 (fun q => q.elim c22 (fun w => w c28))))))]))) ?_
              exact hj_36 ls (lv_sub hl [0, 1, 2, 3] rfl)
            · skip
              refine lv_iload_n hx hb dX5_state_25 rfl (lv_at hl 3 rfl) ?_
              refine lv_bipush (v := (nI 63)) hx hb dX5_state_26 (by decide) ?_
              refine lv_icmp_le (tgt := 35) hx hb dX5_state_28 (by decide) (fun c28 => ?_) (fun c28 => ?_)
              · skip
                refine lv_iconst (v := (nI 0)) hx hb dX5_state_35 (by decide) ?_
                refine W.top (y := .int (nI (st0 x y z))) (congrArg Value.int (congrArg nI (by unfold st0; first | rw [if_pos (Or.inl c2)] | rw [if_pos (Or.inr (Or.inl c7))] | rw [if_pos (Or.inr (Or.inr (Or.inl c11)))] | rw [if_pos (Or.inr (Or.inr (Or.inr (Or.inl c17))))] | rw [if_pos (Or.inr (Or.inr (Or.inr (Or.inr (Or.inl c22)))))] | rw [if_pos (Or.inr (Or.inr (Or.inr (Or.inr (Or.inr c28)))))] | rw [if_neg (fun q => q.elim c2 (fun q => q.elim c7 (fun q => q.elim c11 (fun q => q.elim c17 (fun q => q.elim c22 (fun w => w c28))))))]))) ?_
                exact hj_36 ls (lv_sub hl [0, 1, 2, 3] rfl)
              · skip
                refine lv_iconst (v := (nI 1)) hx hb dX5_state_31 (by decide) ?_
                refine lv_goto (tgt := 36) hx hb dX5_state_32 (by decide) ?_
                refine W.top (y := .int (nI (st0 x y z))) (congrArg Value.int (congrArg nI (by unfold st0; first | rw [if_pos (Or.inl c2)] | rw [if_pos (Or.inr (Or.inl c7))] | rw [if_pos (Or.inr (Or.inr (Or.inl c11)))] | rw [if_pos (Or.inr (Or.inr (Or.inr (Or.inl c17))))] | rw [if_pos (Or.inr (Or.inr (Or.inr (Or.inr (Or.inl c22)))))] | rw [if_pos (Or.inr (Or.inr (Or.inr (Or.inr (Or.inr c28)))))] | rw [if_neg (fun q => q.elim c2 (fun q => q.elim c7 (fun q => q.elim c11 (fun q => q.elim c17 (fun q => q.elim c22 (fun w => w c28))))))]))) ?_
                exact hj_36 ls (lv_sub hl [0, 1, 2, 3] rfl)
theorem dX5_at_0 : decode cX5_at 0 = .ok (.aload_n 0, 1) := by decide +kernel
theorem dX5_at_1 : decode cX5_at 1 = .ok (.iconst 0, 1) := by decide +kernel
theorem dX5_at_2 : decode cX5_at 2 = .ok (.putfield 22, 3) := by decide +kernel
theorem dX5_at_5 : decode cX5_at 5 = .ok (.iload_n 1, 1) := by decide +kernel
theorem dX5_at_6 : decode cX5_at 6 = .ok (.invokestatic 36, 3) := by decide +kernel
theorem dX5_at_9 : decode cX5_at 9 = .ok (.ifCond .eq 12, 3) := by decide +kernel
theorem dX5_at_12 : decode cX5_at 12 = .ok (.aload_n 0, 1) := by decide +kernel
theorem dX5_at_13 : decode cX5_at 13 = .ok (.getfield 7, 3) := by decide +kernel
theorem dX5_at_16 : decode cX5_at 16 = .ok (.iload_n 1, 1) := by decide +kernel
theorem dX5_at_17 : decode cX5_at 17 = .ok (.iaload, 1) := by decide +kernel
theorem dX5_at_18 : decode cX5_at 18 = .ok (.goto 4, 3) := by decide +kernel
theorem dX5_at_21 : decode cX5_at 21 = .ok (.iconst (-1), 1) := by decide +kernel
theorem dX5_at_22 : decode cX5_at 22 = .ok (.ireturn, 1) := by decide +kernel
theorem hd_X5_at : yX5_at.cls ≠ "java/lang/invoke/MethodHandle" ∧ yX5_at.cls ≠ "java/lang/invoke/VarHandle" ∧ (parseMethodDescriptor yX5_at.desc).map (fun d => d.parameters.length) = some 1 := by decide +kernel
set_option maxHeartbeats 4000000 in
set_option maxRecDepth 100000 in
/-- at -/
theorem c_X5_at (l : Launch) {D : va_G} {cI cJ : ClassId} {A : Nat → Prop} {hm b0 b1 b2 b3 : Nat} {th mk sz : Int32} {F mv kp li : Nat → Int32} (bd : Nat → Nat) (sd rt ps : Nat) (hBd : Bd F 0 bd sd rt ps) (x : Int32) : Met l yX5_at (Cond.code yX5_at cX5_at 2 (some .int) :: wsL_law) (rK 1) (va_Pc [.ref hm, .int x] (IW D cI cJ A (rW cI hm b0 b1 b2 b3 th mk sz F mv kp li))) (va_Qi (fun r _ => r = (if isq x = true then nI (bd x.toNatClampNeg) else -1)) (fun (u : Unit) t => IW D cI cJ A (rW cI hm b0 b1 b2 b3 (nI 0) mk sz F mv kp li) t) A) 0 0 A := by
  refine entM (by decide) (Nat.le_of_ble_eq_true rfl) ?_
  intro p e s m below meth c ls S0 hr hlocks hG hnm hB hl
  have hx := S0.1
  have hb := S0.2.1
  have hown := S0.2.2.2.1
  have hl : lv_has ls 2 [(0, .ref hm), (1, .int x)] := hl
  obtain ⟨hP, hD, hK, hA, hE⟩ := hB
  have hS : va_S A s.heap s.heap [] := va_S.rf
  refine lv_aload_n hx hb dX5_at_0 rfl (lv_at hl 0 rfl) ?_
  refine lv_iconst (v := (nI 0)) hx hb dX5_at_1 (by decide) ?_
  refine va_put (D := D) (ci := 4) (v := .int (nI 0)) (ty := .int) (C := RX5) (T := TX5) (N := 7) hx hb hG wu_X5 tyX5 tyX5_ok nmX5 hown hK hP hD hS 0 rfl rfl 0 (by decide) (hG _ wf_X5_22) (fun _ h9 => h9) rfl (by decide +kernel) rfl rfl (Nat.le_of_ble_eq_true rfl) dX5_at_2 (fun H locs hP hD hS => ?_)
  have hP : va_P D classes (rW cI hm b0 b1 b2 b3 (nI 0) mk sz F mv kp li) H := hP
  have hD : va_D A (rW cI hm b0 b1 b2 b3 (nI 0) mk sz F mv kp li) := hD
  refine lv_iload_n hx hb dX5_at_5 rfl (lv_at hl 1 rfl) ?_
  refine roI (rnS (As := [.int x]) (rest := []) S0 (c_X5_isSquare l x) wm_X5_36 wt_X5_isSquare wn_X5 wc_X5_isSquare hd_X5_isSquare ⟨rfl, rfl, by decide, by decide⟩ True.blind (fun _ _ _ => trivial) hl.1 (Nat.le_of_ble_eq_true rfl) dX5_at_6 rfl ⟨by decide, by decide⟩) (fun r_1 hr_1 => ?_)
  subst hr_1
  refine lb_if_eq (tgt := 21) hx hb dX5_at_9 (by decide) (fun c9 => ?_) (fun c9 => ?_)
  · skip
    refine lv_iconst (v := (-1)) hx hb dX5_at_21 (by decide) ?_
    exact weI (()) hx hb hr hlocks dX5_at_22 (by first | (rw [if_pos c9, hx9, nI_clamp (by omega)]) | rw [if_neg (show ¬ isq x = true by rw [c9]; decide)]) hP hD hK hA hE hS
  · skip
    obtain ⟨j9, hj9, hx9⟩ := isq_of c9
    have hv9 := (hBd.1 j9 hj9).1
    rw [Nat.zero_add] at hv9
    refine lv_aload_n hx hb dX5_at_12 rfl (lv_at hl 0 rfl) ?_
    refine va_get (D := D) (ci := 4) (v := .ref b0) (C := RX5) (T := TX5) (N := 7) hx hb hG wu_X5 hown hK hP 0 rfl rfl 1 (by decide) (hG _ wf_X5_7) (fun _ h9 => h9) rfl dX5_at_13 ?_
    refine lv_iload_n hx hb dX5_at_16 rfl (lv_at hl 1 rfl) ?_
    refine W.top (y := .int (nI j9)) (congrArg Value.int hx9) ?_
    refine va_iald hx hb hK hP 1 0 rfl rfl (vp_in_nI (by omega) (by decide)) dX5_at_17 ?_
    refine W.top (y := .int (F j9)) (congrArg (fun z => Value.int (F z)) (nI_clamp (by omega))) ?_
    refine W.top (y := .int (nI (bd j9))) (congrArg Value.int hv9) ?_
    refine lv_goto (tgt := 22) hx hb dX5_at_18 (by decide) ?_
    exact weI (()) hx hb hr hlocks dX5_at_22 (by first | (rw [if_pos c9, hx9, nI_clamp (by omega)]) | rw [if_neg (show ¬ isq x = true by rw [c9]; decide)]) hP hD hK hA hE hS
theorem dX5_look_0 : decode cX5_look 0 = .ok (.aload_n 0, 1) := by decide +kernel
theorem dX5_look_1 : decode cX5_look 1 = .ok (.iconst 0, 1) := by decide +kernel
theorem dX5_look_2 : decode cX5_look 2 = .ok (.putfield 22, 3) := by decide +kernel
theorem dX5_look_5 : decode cX5_look 5 = .ok (.iload_n 1, 1) := by decide +kernel
theorem dX5_look_6 : decode cX5_look 6 = .ok (.ifCond .lt 20, 3) := by decide +kernel
theorem dX5_look_9 : decode cX5_look 9 = .ok (.iload_n 1, 1) := by decide +kernel
theorem dX5_look_10 : decode cX5_look 10 = .ok (.iconst 3, 1) := by decide +kernel
theorem dX5_look_11 : decode cX5_look 11 = .ok (.if_icmp .ge 15, 3) := by decide +kernel
theorem dX5_look_14 : decode cX5_look 14 = .ok (.aload_n 0, 1) := by decide +kernel
theorem dX5_look_15 : decode cX5_look 15 = .ok (.getfield 7, 3) := by decide +kernel
theorem dX5_look_18 : decode cX5_look 18 = .ok (.bipush 64, 2) := by decide +kernel
theorem dX5_look_20 : decode cX5_look 20 = .ok (.iload_n 1, 1) := by decide +kernel
theorem dX5_look_21 : decode cX5_look 21 = .ok (.iadd, 1) := by decide +kernel
theorem dX5_look_22 : decode cX5_look 22 = .ok (.iaload, 1) := by decide +kernel
theorem dX5_look_23 : decode cX5_look 23 = .ok (.goto 16, 3) := by decide +kernel
theorem dX5_look_26 : decode cX5_look 26 = .ok (.iload_n 1, 1) := by decide +kernel
theorem dX5_look_27 : decode cX5_look 27 = .ok (.iconst 3, 1) := by decide +kernel
theorem dX5_look_28 : decode cX5_look 28 = .ok (.if_icmp .ne 10, 3) := by decide +kernel
theorem dX5_look_31 : decode cX5_look 31 = .ok (.aload_n 0, 1) := by decide +kernel
theorem dX5_look_32 : decode cX5_look 32 = .ok (.getfield 26, 3) := by decide +kernel
theorem dX5_look_35 : decode cX5_look 35 = .ok (.goto 4, 3) := by decide +kernel
theorem dX5_look_38 : decode cX5_look 38 = .ok (.iconst (-1), 1) := by decide +kernel
theorem dX5_look_39 : decode cX5_look 39 = .ok (.ireturn, 1) := by decide +kernel
theorem hd_X5_look : yX5_look.cls ≠ "java/lang/invoke/MethodHandle" ∧ yX5_look.cls ≠ "java/lang/invoke/VarHandle" ∧ (parseMethodDescriptor yX5_look.desc).map (fun d => d.parameters.length) = some 1 := by decide +kernel
set_option maxHeartbeats 4000000 in
set_option maxRecDepth 100000 in
/-- look -/
theorem c_X5_look (l : Launch) {D : va_G} {cI cJ : ClassId} {A : Nat → Prop} {hm b0 b1 b2 b3 : Nat} {th mk sz : Int32} {F mv kp li : Nat → Int32} (bd : Nat → Nat) (sd rt ps : Nat) (hBd : Bd F 0 bd sd rt ps) (x : Int32) : Met l yX5_look (Cond.code yX5_look cX5_look 2 (some .int) :: wsL_law) (rK 0) (va_Pc [.ref hm, .int x] (IW D cI cJ A (rW cI hm b0 b1 b2 b3 th mk sz F mv kp li))) (va_Qi (fun r _ => r = lk0 sd rt ps mk x) (fun (u : Unit) t => IW D cI cJ A (rW cI hm b0 b1 b2 b3 (nI 0) mk sz F mv kp li) t) A) 0 0 A := by
  refine entM (by decide) (Nat.le_of_ble_eq_true rfl) ?_
  intro p e s m below meth c ls S0 hr hlocks hG hnm hB hl
  have hx := S0.1
  have hb := S0.2.1
  have hown := S0.2.2.2.1
  have hl : lv_has ls 2 [(0, .ref hm), (1, .int x)] := hl
  obtain ⟨hP, hD, hK, hA, hE⟩ := hB
  have hS : va_S A s.heap s.heap [] := va_S.rf
  refine lv_aload_n hx hb dX5_look_0 rfl (lv_at hl 0 rfl) ?_
  refine lv_iconst (v := (nI 0)) hx hb dX5_look_1 (by decide) ?_
  refine va_put (D := D) (ci := 4) (v := .int (nI 0)) (ty := .int) (C := RX5) (T := TX5) (N := 7) hx hb hG wu_X5 tyX5 tyX5_ok nmX5 hown hK hP hD hS 0 rfl rfl 0 (by decide) (hG _ wf_X5_22) (fun _ h9 => h9) rfl (by decide +kernel) rfl rfl (Nat.le_of_ble_eq_true rfl) dX5_look_2 (fun H locs hP hD hS => ?_)
  have hP : va_P D classes (rW cI hm b0 b1 b2 b3 (nI 0) mk sz F mv kp li) H := hP
  have hD : va_D A (rW cI hm b0 b1 b2 b3 (nI 0) mk sz F mv kp li) := hD
  refine lv_iload_n hx hb dX5_look_5 rfl (lv_at hl 1 rfl) ?_
  refine lv_if_lt (tgt := 26) hx hb dX5_look_6 (by decide) (fun c6 => ?_) (fun c6 => ?_)
  · skip
    have hno : ¬ (¬ x < 0 ∧ ¬ nI 3 ≤ x) := fun z => z.1 c6
    refine lv_iload_n hx hb dX5_look_26 rfl (lv_at hl 1 rfl) ?_
    refine lv_iconst (v := (nI 3)) hx hb dX5_look_27 (by decide) ?_
    refine lv_icmp_ne (tgt := 38) hx hb dX5_look_28 (by decide) (fun c28 => ?_) (fun c28 => ?_)
    · skip
      refine lv_iconst (v := (-1)) hx hb dX5_look_38 (by decide) ?_
      exact weI (()) hx hb hr hlocks dX5_look_39 (by unfold lk0; first | (rw [if_pos ⟨c6, c11⟩, hx9, nI_clamp hj9]) | (rw [if_neg hno, if_pos c28]) | (rw [if_neg hno, if_neg c28])) hP hD hK hA hE hS
    · skip
      refine lv_aload_n hx hb dX5_look_31 rfl (lv_at hl 0 rfl) ?_
      refine va_get (D := D) (ci := 4) (v := .int mk) (C := RX5) (T := TX5) (N := 7) hx hb hG wu_X5 hown hK hP 0 rfl rfl 2 (by decide) (hG _ wf_X5_26) (fun _ h9 => h9) rfl dX5_look_32 ?_
      refine lv_goto (tgt := 39) hx hb dX5_look_35 (by decide) ?_
      exact weI (()) hx hb hr hlocks dX5_look_39 (by unfold lk0; first | (rw [if_pos ⟨c6, c11⟩, hx9, nI_clamp hj9]) | (rw [if_neg hno, if_pos c28]) | (rw [if_neg hno, if_neg c28])) hP hD hK hA hE hS
  · skip
    refine lv_iload_n hx hb dX5_look_9 rfl (lv_at hl 1 rfl) ?_
    refine lv_iconst (v := (nI 3)) hx hb dX5_look_10 (by decide) ?_
    refine lv_icmp_ge (tgt := 26) hx hb dX5_look_11 (by decide) (fun c11 => ?_) (fun c11 => ?_)
    · skip
      have hno : ¬ (¬ x < 0 ∧ ¬ nI 3 ≤ x) := fun z => z.2 c11
      refine lv_iload_n hx hb dX5_look_26 rfl (lv_at hl 1 rfl) ?_
      refine lv_iconst (v := (nI 3)) hx hb dX5_look_27 (by decide) ?_
      refine lv_icmp_ne (tgt := 38) hx hb dX5_look_28 (by decide) (fun c28 => ?_) (fun c28 => ?_)
      · skip
        refine lv_iconst (v := (-1)) hx hb dX5_look_38 (by decide) ?_
        exact weI (()) hx hb hr hlocks dX5_look_39 (by unfold lk0; first | (rw [if_pos ⟨c6, c11⟩, hx9, nI_clamp hj9]) | (rw [if_neg hno, if_pos c28]) | (rw [if_neg hno, if_neg c28])) hP hD hK hA hE hS
      · skip
        refine lv_aload_n hx hb dX5_look_31 rfl (lv_at hl 0 rfl) ?_
        refine va_get (D := D) (ci := 4) (v := .int mk) (C := RX5) (T := TX5) (N := 7) hx hb hG wu_X5 hown hK hP 0 rfl rfl 2 (by decide) (hG _ wf_X5_26) (fun _ h9 => h9) rfl dX5_look_32 ?_
        refine lv_goto (tgt := 39) hx hb dX5_look_35 (by decide) ?_
        exact weI (()) hx hb hr hlocks dX5_look_39 (by unfold lk0; first | (rw [if_pos ⟨c6, c11⟩, hx9, nI_clamp hj9]) | (rw [if_neg hno, if_pos c28]) | (rw [if_neg hno, if_neg c28])) hP hD hK hA hE hS
    · skip
      obtain ⟨j9, hj9, hx9⟩ := nI_of c6
      have hj3 : j9 < 3 := by rw [hx9] at c11; exact Nat.lt_of_not_le (fun z => c11 ((nI_leI (by decide) hj9).mpr z))
      refine lv_aload_n hx hb dX5_look_14 rfl (lv_at hl 0 rfl) ?_
      refine va_get (D := D) (ci := 4) (v := .ref b0) (C := RX5) (T := TX5) (N := 7) hx hb hG wu_X5 hown hK hP 0 rfl rfl 1 (by decide) (hG _ wf_X5_7) (fun _ h9 => h9) rfl dX5_look_15 ?_
      refine lv_bipush (v := (nI 64)) hx hb dX5_look_18 (by decide) ?_
      refine lv_iload_n hx hb dX5_look_20 rfl (lv_at hl 1 rfl) ?_
      refine W.top (y := .int (nI j9)) (congrArg Value.int hx9) ?_
      refine ln_iadd hx hb dX5_look_21 ?_
      refine va_iald hx hb hK hP 1 0 rfl rfl (vp_in_nI (by omega) (by decide)) dX5_look_22 ?_
      refine W.top (y := .int (F (64 + j9))) (congrArg (fun z => Value.int (F z)) (nI_clamp (by omega))) ?_
      refine W.top (y := .int (lk3 sd rt ps j9)) (congrArg Value.int (lk3_at hBd hj3)) ?_
      refine lv_goto (tgt := 39) hx hb dX5_look_23 (by decide) ?_
      exact weI (()) hx hb hr hlocks dX5_look_39 (by unfold lk0; first | (rw [if_pos ⟨c6, c11⟩, hx9, nI_clamp hj9]) | (rw [if_neg hno, if_pos c28]) | (rw [if_neg hno, if_neg c28])) hP hD hK hA hE hS
theorem dX5_check_0 : decode cX5_check 0 = .ok (.aload_n 0, 1) := by decide +kernel
theorem dX5_check_1 : decode cX5_check 1 = .ok (.aload_n 0, 1) := by decide +kernel
theorem dX5_check_2 : decode cX5_check 2 = .ok (.invokevirtual 67, 3) := by decide +kernel
theorem dX5_check_5 : decode cX5_check 5 = .ok (.ifCond .eq 7, 3) := by decide +kernel
theorem dX5_check_8 : decode cX5_check 8 = .ok (.iconst 0, 1) := by decide +kernel
theorem dX5_check_9 : decode cX5_check 9 = .ok (.goto 4, 3) := by decide +kernel
theorem dX5_check_12 : decode cX5_check 12 = .ok (.iconst 1, 1) := by decide +kernel
theorem dX5_check_13 : decode cX5_check 13 = .ok (.putfield 22, 3) := by decide +kernel
theorem dX5_check_16 : decode cX5_check 16 = .ok (.aload_n 0, 1) := by decide +kernel
theorem dX5_check_17 : decode cX5_check 17 = .ok (.getfield 22, 3) := by decide +kernel
theorem dX5_check_20 : decode cX5_check 20 = .ok (.ifCond .ne 22, 3) := by decide +kernel
theorem dX5_check_23 : decode cX5_check 23 = .ok (.aload_n 0, 1) := by decide +kernel
theorem dX5_check_24 : decode cX5_check 24 = .ok (.iconst 0, 1) := by decide +kernel
theorem dX5_check_25 : decode cX5_check 25 = .ok (.aload_n 0, 1) := by decide +kernel
theorem dX5_check_26 : decode cX5_check 26 = .ok (.getfield 7, 3) := by decide +kernel
theorem dX5_check_29 : decode cX5_check 29 = .ok (.bipush 64, 2) := by decide +kernel
theorem dX5_check_31 : decode cX5_check 31 = .ok (.iaload, 1) := by decide +kernel
theorem dX5_check_32 : decode cX5_check 32 = .ok (.invokevirtual 63, 3) := by decide +kernel
theorem dX5_check_35 : decode cX5_check 35 = .ok (.ifCond .eq 7, 3) := by decide +kernel
theorem dX5_check_38 : decode cX5_check 38 = .ok (.iconst 1, 1) := by decide +kernel
theorem dX5_check_39 : decode cX5_check 39 = .ok (.goto 4, 3) := by decide +kernel
theorem dX5_check_42 : decode cX5_check 42 = .ok (.iconst 0, 1) := by decide +kernel
theorem dX5_check_43 : decode cX5_check 43 = .ok (.ireturn, 1) := by decide +kernel
theorem hd_X5_check : yX5_check.cls ≠ "java/lang/invoke/MethodHandle" ∧ yX5_check.cls ≠ "java/lang/invoke/VarHandle" ∧ (parseMethodDescriptor yX5_check.desc).map (fun d => d.parameters.length) = some 0 := by decide +kernel
set_option maxHeartbeats 4000000 in
set_option maxRecDepth 100000 in
/-- check -/
theorem c_X5_check (l : Launch) {D : va_G} {cI cJ : ClassId} {A : Nat → Prop} {hm b0 b1 b2 b3 : Nat} {th mk sz : Int32} {F mv kp li : Nat → Int32} (bd : Nat → Nat) (sd rt ps : Nat) (hBd : Bd F 0 bd sd rt ps) : Met l yX5_check (Cond.code yX5_check cX5_check 1 (some .boolean) :: wsL_law) (rK 5) (va_Pc [.ref hm] (IW D cI cJ A (rW cI hm b0 b1 b2 b3 th mk sz F mv kp li))) (va_Qi (fun r _ => r = bI (plb bd sd && isA bd (kgs bd sd) (1 - sd))) (fun (u : Unit) t => IW D cI cJ A (rW cI hm b0 b1 b2 b3 (nI (ndN bd sd)) mk sz F mv kp li) t) A) 0 0 A := by
  refine entM (by decide) (Nat.le_of_ble_eq_true rfl) ?_
  intro p e s m below meth c ls S0 hr hlocks hG hnm hB hl
  have hx := S0.1
  have hb := S0.2.1
  have hown := S0.2.2.2.1
  have hl : lv_has ls 1 [(0, .ref hm)] := hl
  obtain ⟨hP, hD, hK, hA, hE⟩ := hB
  have hS : va_S A s.heap s.heap [] := va_S.rf
  obtain ⟨hBp, hsd, hs2, hrt, hr16, hps, hp65⟩ := id hBd
  have hnd : ndN bd sd < 2 := by unfold ndN; split <;> omega
  refine lv_aload_n hx hb dX5_check_0 rfl (lv_at hl 0 rfl) ?_
  refine lv_aload_n hx hb dX5_check_1 rfl (lv_at hl 0 rfl) ?_
  refine roI (rnV (As := []) (rest := [.ref hm]) S0 (c_X5_isPlayable l bd sd rt ps hBd) wm_X5_67 wi_X5_isPlayable ws_X5_isPlayable wn_X5 wc_X5_isPlayable hd_X5_isPlayable ⟨rfl, rfl, by decide, by decide⟩ IW.blind (va_recv hK hP (ci := 4) (q0 := 0) rfl rfl) (IW.at hP hD hK hA hE hS) hl.1 (Nat.le_of_ble_eq_true rfl) dX5_check_2 rfl ⟨by decide, by decide⟩) (fun r_1 hr_1 => ?_)
  subst hr_1
  refine jnG 13 1 [(0, .ref hm)] [.int (nI (ndN bd sd)), .ref hm] ?_ (fun hj_13 => ?_)
  · intro ls hl
    refine va_put (D := D) (ci := 4) (v := .int (nI (ndN bd sd))) (ty := .int) (C := RX5) (T := TX5) (N := 7) hx hb hG wu_X5 tyX5 tyX5_ok nmX5 hown hK hP hD hS 0 rfl rfl 0 (by decide) (hG _ wf_X5_22) (fun _ h9 => h9) rfl (by decide +kernel) rfl rfl (Nat.le_of_ble_eq_true rfl) dX5_check_13 (fun H locs hP hD hS => ?_)
    have hP : va_P D classes (rW cI hm b0 b1 b2 b3 (nI (ndN bd sd)) mk sz F mv kp li) H := hP
    have hD : va_D A (rW cI hm b0 b1 b2 b3 (nI (ndN bd sd)) mk sz F mv kp li) := hD
    refine lv_aload_n hx hb dX5_check_16 rfl (lv_at hl 0 rfl) ?_
    refine va_get (D := D) (ci := 4) (v := .int (nI (ndN bd sd))) (C := RX5) (T := TX5) (N := 7) hx hb hG wu_X5 hown hK hP 0 rfl rfl 0 (by decide) (hG _ wf_X5_22) (fun _ h9 => h9) rfl dX5_check_17 ?_
    refine ln_if_ne (tgt := 42) hx hb dX5_check_20 (by decide) (by omega) (fun c20 => ?_) (fun c20 => ?_)
    · skip
      rw [ndN_0] at c20
      refine lv_iconst (v := (nI 0)) hx hb dX5_check_42 (by decide) ?_
      exact weZ (v := false) (()) hx hb hr hlocks dX5_check_43 (congrArg bI (by first | (rw [c20, c35]; rfl) | (rw [Bool.eq_false_iff.mpr c20]; rfl))) hP hD hK hA hE hS
    · skip
      rw [ndN_0] at c20
      refine lv_aload_n hx hb dX5_check_23 rfl (lv_at hl 0 rfl) ?_
      refine lv_iconst (v := (nI 0)) hx hb dX5_check_24 (by decide) ?_
      refine lv_aload_n hx hb dX5_check_25 rfl (lv_at hl 0 rfl) ?_
      refine va_get (D := D) (ci := 4) (v := .ref b0) (C := RX5) (T := TX5) (N := 7) hx hb hG wu_X5 hown hK hP 0 rfl rfl 1 (by decide) (hG _ wf_X5_7) (fun _ h9 => h9) rfl dX5_check_26 ?_
      refine lv_bipush (v := (nI 64)) hx hb dX5_check_29 (by decide) ?_
      refine va_iald hx hb hK hP 1 0 rfl rfl (vp_in_nI (by decide) (by decide)) dX5_check_31 ?_
      refine W.top (y := .int (F 64)) (congrArg (fun z => Value.int (F z)) (nI_clamp (by decide))) ?_
      refine W.top (y := .int (nI sd)) (congrArg Value.int hsd) ?_
      refine roI (rnV (As := [.int (nI 0), .int (nI sd)]) (rest := []) S0 (c_X5_isChecked l bd 0 sd (by decide) hs2 hBp (plb_k hs2 c20)) wm_X5_63 wi_X5_isChecked ws_X5_isChecked wn_X5 wc_X5_isChecked hd_X5_isChecked ⟨rfl, rfl, by decide, by decide⟩ IW.blind (va_recv hK hP (ci := 4) (q0 := 0) rfl rfl) (IW.at hP hD hK hA hE hS) hl.1 (Nat.le_of_ble_eq_true rfl) dX5_check_32 rfl ⟨by decide, by decide⟩) (fun r_2 hr_2 => ?_)
      subst hr_2
      refine lb_if_eq (tgt := 42) hx hb dX5_check_35 (by decide) (fun c35 => ?_) (fun c35 => ?_)
      · skip
        refine lv_iconst (v := (nI 0)) hx hb dX5_check_42 (by decide) ?_
        exact weZ (v := false) (()) hx hb hr hlocks dX5_check_43 (congrArg bI (by first | (rw [c20, c35]; rfl) | (rw [Bool.eq_false_iff.mpr c20]; rfl))) hP hD hK hA hE hS
      · skip
        refine lv_iconst (v := (nI 1)) hx hb dX5_check_38 (by decide) ?_
        refine lv_goto (tgt := 43) hx hb dX5_check_39 (by decide) ?_
        exact weZ (v := true) (()) hx hb hr hlocks dX5_check_43 (congrArg bI (by first | (rw [c20, c35]; rfl) | (rw [Bool.eq_false_iff.mpr c20]; rfl))) hP hD hK hA hE hS
  · skip
    refine lb_if_eq (tgt := 12) hx hb dX5_check_5 (by decide) (fun c5 => ?_) (fun c5 => ?_)
    · skip
      refine lv_iconst (v := (nI 1)) hx hb dX5_check_12 (by decide) ?_
      refine W.top (y := .int (nI (ndN bd sd))) (congrArg Value.int (congrArg nI (by unfold ndN; first | rw [if_pos c5] | rw [if_neg (show ¬ plb bd sd = true by rw [c5]; decide)]))) ?_
      exact hj_13 ls (lv_sub hl [0] rfl)
    · skip
      refine lv_iconst (v := (nI 0)) hx hb dX5_check_8 (by decide) ?_
      refine lv_goto (tgt := 13) hx hb dX5_check_9 (by decide) ?_
      refine W.top (y := .int (nI (ndN bd sd))) (congrArg Value.int (congrArg nI (by unfold ndN; first | rw [if_pos c5] | rw [if_neg (show ¬ plb bd sd = true by rw [c5]; decide)]))) ?_
      exact hj_13 ls (lv_sub hl [0] rfl)
theorem dX5_unmake_0 : decode cX5_unmake 0 = .ok (.aload_n 0, 1) := by decide +kernel
theorem dX5_unmake_1 : decode cX5_unmake 1 = .ok (.iconst 0, 1) := by decide +kernel
theorem dX5_unmake_2 : decode cX5_unmake 2 = .ok (.putfield 22, 3) := by decide +kernel
theorem dX5_unmake_5 : decode cX5_unmake 5 = .ok (.aload_n 0, 1) := by decide +kernel
theorem dX5_unmake_6 : decode cX5_unmake 6 = .ok (.getfield 26, 3) := by decide +kernel
theorem dX5_unmake_9 : decode cX5_unmake 9 = .ok (.ifCond .ne 5, 3) := by decide +kernel
theorem dX5_unmake_12 : decode cX5_unmake 12 = .ok (.iconst (-1), 1) := by decide +kernel
theorem dX5_unmake_13 : decode cX5_unmake 13 = .ok (.ireturn, 1) := by decide +kernel
theorem dX5_unmake_14 : decode cX5_unmake 14 = .ok (.aload_n 0, 1) := by decide +kernel
theorem dX5_unmake_15 : decode cX5_unmake 15 = .ok (.dup, 1) := by decide +kernel
theorem dX5_unmake_16 : decode cX5_unmake 16 = .ok (.getfield 26, 3) := by decide +kernel
theorem dX5_unmake_19 : decode cX5_unmake 19 = .ok (.iconst 1, 1) := by decide +kernel
theorem dX5_unmake_20 : decode cX5_unmake 20 = .ok (.isub, 1) := by decide +kernel
theorem dX5_unmake_21 : decode cX5_unmake 21 = .ok (.putfield 26, 3) := by decide +kernel
theorem dX5_unmake_24 : decode cX5_unmake 24 = .ok (.iconst 0, 1) := by decide +kernel
theorem dX5_unmake_25 : decode cX5_unmake 25 = .ok (.istore_n 1, 1) := by decide +kernel
theorem dX5_unmake_26 : decode cX5_unmake 26 = .ok (.iload_n 1, 1) := by decide +kernel
theorem dX5_unmake_27 : decode cX5_unmake 27 = .ok (.bipush 67, 2) := by decide +kernel
theorem dX5_unmake_29 : decode cX5_unmake 29 = .ok (.if_icmp .ge 29, 3) := by decide +kernel
theorem dX5_unmake_32 : decode cX5_unmake 32 = .ok (.aload_n 0, 1) := by decide +kernel
theorem dX5_unmake_33 : decode cX5_unmake 33 = .ok (.getfield 7, 3) := by decide +kernel
theorem dX5_unmake_36 : decode cX5_unmake 36 = .ok (.iload_n 1, 1) := by decide +kernel
theorem dX5_unmake_37 : decode cX5_unmake 37 = .ok (.aload_n 0, 1) := by decide +kernel
theorem dX5_unmake_38 : decode cX5_unmake 38 = .ok (.getfield 16, 3) := by decide +kernel
theorem dX5_unmake_41 : decode cX5_unmake 41 = .ok (.bipush 67, 2) := by decide +kernel
theorem dX5_unmake_43 : decode cX5_unmake 43 = .ok (.aload_n 0, 1) := by decide +kernel
theorem dX5_unmake_44 : decode cX5_unmake 44 = .ok (.getfield 26, 3) := by decide +kernel
theorem dX5_unmake_47 : decode cX5_unmake 47 = .ok (.imul, 1) := by decide +kernel
theorem dX5_unmake_48 : decode cX5_unmake 48 = .ok (.iload_n 1, 1) := by decide +kernel
theorem dX5_unmake_49 : decode cX5_unmake 49 = .ok (.iadd, 1) := by decide +kernel
theorem dX5_unmake_50 : decode cX5_unmake 50 = .ok (.iaload, 1) := by decide +kernel
theorem dX5_unmake_51 : decode cX5_unmake 51 = .ok (.iastore, 1) := by decide +kernel
theorem dX5_unmake_52 : decode cX5_unmake 52 = .ok (.iinc 1 1, 3) := by decide +kernel
theorem dX5_unmake_55 : decode cX5_unmake 55 = .ok (.goto (-29), 3) := by decide +kernel
theorem dX5_unmake_58 : decode cX5_unmake 58 = .ok (.aload_n 0, 1) := by decide +kernel
theorem dX5_unmake_59 : decode cX5_unmake 59 = .ok (.getfield 13, 3) := by decide +kernel
theorem dX5_unmake_62 : decode cX5_unmake 62 = .ok (.aload_n 0, 1) := by decide +kernel
theorem dX5_unmake_63 : decode cX5_unmake 63 = .ok (.getfield 26, 3) := by decide +kernel
theorem dX5_unmake_66 : decode cX5_unmake 66 = .ok (.iaload, 1) := by decide +kernel
theorem dX5_unmake_67 : decode cX5_unmake 67 = .ok (.ireturn, 1) := by decide +kernel
theorem hd_X5_unmake : yX5_unmake.cls ≠ "java/lang/invoke/MethodHandle" ∧ yX5_unmake.cls ≠ "java/lang/invoke/VarHandle" ∧ (parseMethodDescriptor yX5_unmake.desc).map (fun d => d.parameters.length) = some 0 := by decide +kernel
set_option maxHeartbeats 4000000 in
set_option maxRecDepth 100000 in
/-- unmake -/
theorem c_X5_unmake (l : Launch) {D : va_G} {cI cJ : ClassId} {A : Nat → Prop} {hm b0 b1 b2 b3 : Nat} {th sz : Int32} {F mv kp li : Nat → Int32} (n : Nat) (hn : n ≤ 200) : Met l yX5_unmake (Cond.code yX5_unmake cX5_unmake 2 (some .int) :: wsL_law) (rK 0) (va_Pc [.ref hm] (IW D cI cJ A (rW cI hm b0 b1 b2 b3 th (nI n) sz F mv kp li))) (va_Qi (fun r u => (n = 0 → r = -1 ∧ u.1 = F ∧ u.2 = nI 0) ∧ (¬ n = 0 → r = mv (n - 1) ∧ u.2 = nI (n - 1) ∧ ∀ j, j < 67 → u.1 j = kp (67 * (n - 1) + j))) (fun (u : (Nat → Int32) × Int32) t => IW D cI cJ A (rW cI hm b0 b1 b2 b3 (nI 0) u.2 sz u.1 mv kp li) t) A) 0 0 A := by
  refine entM (by decide) (Nat.le_of_ble_eq_true rfl) ?_
  intro p e s m below meth c ls S0 hr hlocks hG hnm hB hl
  have hx := S0.1
  have hb := S0.2.1
  have hown := S0.2.2.2.1
  have hl : lv_has ls 2 [(0, .ref hm)] := hl
  obtain ⟨hP, hD, hK, hA, hE⟩ := hB
  have hS : va_S A s.heap s.heap [] := va_S.rf
  refine lv_aload_n hx hb dX5_unmake_0 rfl (lv_at hl 0 rfl) ?_
  refine lv_iconst (v := (nI 0)) hx hb dX5_unmake_1 (by decide) ?_
  refine va_put (D := D) (ci := 4) (v := .int (nI 0)) (ty := .int) (C := RX5) (T := TX5) (N := 7) hx hb hG wu_X5 tyX5 tyX5_ok nmX5 hown hK hP hD hS 0 rfl rfl 0 (by decide) (hG _ wf_X5_22) (fun _ h9 => h9) rfl (by decide +kernel) rfl rfl (Nat.le_of_ble_eq_true rfl) dX5_unmake_2 (fun H locs hP hD hS => ?_)
  have hP : va_P D classes (rW cI hm b0 b1 b2 b3 (nI 0) (nI n) sz F mv kp li) H := hP
  have hD : va_D A (rW cI hm b0 b1 b2 b3 (nI 0) (nI n) sz F mv kp li) := hD
  refine lv_aload_n hx hb dX5_unmake_5 rfl (lv_at hl 0 rfl) ?_
  refine va_get (D := D) (ci := 4) (v := .int (nI n)) (C := RX5) (T := TX5) (N := 7) hx hb hG wu_X5 hown hK hP 0 rfl rfl 2 (by decide) (hG _ wf_X5_26) (fun _ h9 => h9) rfl dX5_unmake_6 ?_
  refine ln_if_ne (tgt := 14) hx hb dX5_unmake_9 (by decide) (by omega) (fun c9 => ?_) (fun c9 => ?_)
  · skip
    have hn1 : n - 1 ≤ 199 := by omega
    refine lv_aload_n hx hb dX5_unmake_14 rfl (lv_at hl 0 rfl) ?_
    refine lv_dup hx hb dX5_unmake_15 rfl ?_
    refine va_get (D := D) (ci := 4) (v := .int (nI n)) (C := RX5) (T := TX5) (N := 7) hx hb hG wu_X5 hown hK hP 0 rfl rfl 2 (by decide) (hG _ wf_X5_26) (fun _ h9 => h9) rfl dX5_unmake_16 ?_
    refine lv_iconst (v := (nI 1)) hx hb dX5_unmake_19 (by decide) ?_
    refine ln_isub hx hb dX5_unmake_20 (by omega) ?_
    refine va_put (D := D) (ci := 4) (v := .int (nI (n - 1))) (ty := .int) (C := RX5) (T := TX5) (N := 7) hx hb hG wu_X5 tyX5 tyX5_ok nmX5 hown hK hP hD hS 0 rfl rfl 2 (by decide) (hG _ wf_X5_26) (fun _ h9 => h9) rfl (by decide +kernel) rfl rfl (Nat.le_of_ble_eq_true rfl) dX5_unmake_21 (fun H locs hP hD hS => ?_)
    have hP : va_P D classes (rW cI hm b0 b1 b2 b3 (nI 0) (nI (n - 1)) sz F mv kp li) H := hP
    have hD : va_D A (rW cI hm b0 b1 b2 b3 (nI 0) (nI (n - 1)) sz F mv kp li) := hD
    refine lv_iconst (v := (nI 0)) hx hb dX5_unmake_24 (by decide) ?_
    refine lv_istore_n (lv' := [(1, .int (nI 0)), (0, .ref hm)]) hx hb dX5_unmake_25 rfl hl (by decide) rfl (fun ls hl => ?_)
    refine lpW (σ := (Nat) × (Nat → Int32)) 26 2 [] (fun x9 => [(0, .ref hm), (1, .int (nI x9.1))]) (fun x9 => rW cI hm b0 b1 b2 b3 (nI 0) (nI (n - 1)) sz x9.2 mv kp li) (fun x9 => x9.1 ≤ 67 ∧ ∀ j, j < x9.1 → x9.2 j = kp (67 * (n - 1) + j)) (fun x9 => 67 - x9.1) (0, F) ⟨Nat.zero_le _, fun _ h => absurd h (Nat.not_lt_zero _)⟩ (lv_sub hl [1, 0] rfl) hP hD hS ?_
    clear hP hD hS hl ls
    rintro ⟨i, G⟩ H locs hI hP hD hS ih_26 ls hl
    try dsimp only at hI ih_26 hl hP hD
    obtain ⟨hi, hz⟩ := hI
    refine lv_iload_n hx hb dX5_unmake_26 rfl (lv_at hl 1 rfl) ?_
    refine lv_bipush (v := (nI 67)) hx hb dX5_unmake_27 (by decide) ?_
    refine ln_icmp_ge (tgt := 58) hx hb dX5_unmake_29 (by decide) (by omega) (by decide) (fun c_1 => ?_) (fun c_1 => ?_)
    · skip
      refine lv_aload_n hx hb dX5_unmake_58 rfl (lv_at hl 0 rfl) ?_
      refine va_get (D := D) (ci := 4) (v := .ref b1) (C := RX5) (T := TX5) (N := 7) hx hb hG wu_X5 hown hK hP 0 rfl rfl 3 (by decide) (hG _ wf_X5_13) (fun _ h9 => h9) rfl dX5_unmake_59 ?_
      refine lv_aload_n hx hb dX5_unmake_62 rfl (lv_at hl 0 rfl) ?_
      refine va_get (D := D) (ci := 4) (v := .int (nI (n - 1))) (C := RX5) (T := TX5) (N := 7) hx hb hG wu_X5 hown hK hP 0 rfl rfl 2 (by decide) (hG _ wf_X5_26) (fun _ h9 => h9) rfl dX5_unmake_63 ?_
      refine va_iald hx hb hK hP 2 0 rfl rfl (vp_in_nI (by omega) (by decide)) dX5_unmake_66 ?_
      refine W.top (y := .int (mv (n - 1))) (congrArg (fun z => Value.int (mv z)) (nI_clamp (by omega))) ?_
      exact weI ((G, (nI (n - 1)))) hx hb hr hlocks dX5_unmake_67 ⟨fun z => absurd z c9, fun _ => ⟨rfl, rfl, fun j hj => hz j (by omega)⟩⟩ hP hD hK hA hE hS
    · skip
      refine lv_aload_n hx hb dX5_unmake_32 rfl (lv_at hl 0 rfl) ?_
      refine va_get (D := D) (ci := 4) (v := .ref b0) (C := RX5) (T := TX5) (N := 7) hx hb hG wu_X5 hown hK hP 0 rfl rfl 1 (by decide) (hG _ wf_X5_7) (fun _ h9 => h9) rfl dX5_unmake_33 ?_
      refine lv_iload_n hx hb dX5_unmake_36 rfl (lv_at hl 1 rfl) ?_
      refine lv_aload_n hx hb dX5_unmake_37 rfl (lv_at hl 0 rfl) ?_
      refine va_get (D := D) (ci := 4) (v := .ref b2) (C := RX5) (T := TX5) (N := 7) hx hb hG wu_X5 hown hK hP 0 rfl rfl 4 (by decide) (hG _ wf_X5_16) (fun _ h9 => h9) rfl dX5_unmake_38 ?_
      refine lv_bipush (v := (nI 67)) hx hb dX5_unmake_41 (by decide) ?_
      refine lv_aload_n hx hb dX5_unmake_43 rfl (lv_at hl 0 rfl) ?_
      refine va_get (D := D) (ci := 4) (v := .int (nI (n - 1))) (C := RX5) (T := TX5) (N := 7) hx hb hG wu_X5 hown hK hP 0 rfl rfl 2 (by decide) (hG _ wf_X5_26) (fun _ h9 => h9) rfl dX5_unmake_44 ?_
      refine ln_imul hx hb dX5_unmake_47 ?_
      refine lv_iload_n hx hb dX5_unmake_48 rfl (lv_at hl 1 rfl) ?_
      refine ln_iadd hx hb dX5_unmake_49 ?_
      refine va_iald hx hb hK hP 3 0 rfl rfl (vp_in_nI (by omega) (by decide)) dX5_unmake_50 ?_
      refine W.top (y := .int (kp ((67 * (n - 1)) + i))) (congrArg (fun z => Value.int (kp z)) (nI_clamp (by omega))) ?_
      refine va_iast hx hb hK hP hD hS 1 0 rfl rfl (vp_in_nI (by omega) (by decide)) dX5_unmake_51 (fun H locs hP hD hS => ?_)
      rw [nI_clamp (show i < 2 ^ 31 by omega)] at hP hD
      have hP : va_P D classes (rW cI hm b0 b1 b2 b3 (nI 0) (nI (n - 1)) sz (upd G i (kp ((67 * (n - 1)) + i))) mv kp li) H := hP
      have hD : va_D A (rW cI hm b0 b1 b2 b3 (nI 0) (nI (n - 1)) sz (upd G i (kp ((67 * (n - 1)) + i))) mv kp li) := hD
      refine lv_iinc (v := (nI (i + 1))) (lv' := [(1, .int (nI (i + 1))), (0, .ref hm)]) hx hb dX5_unmake_52 hl (k := 1) rfl (show nI i + Int32.ofInt 1 = nI (i + 1) from nI_add _ 1) (by decide) rfl (fun ls hl => ?_)
      refine lv_goto (tgt := 26) hx hb dX5_unmake_55 (by decide) ?_
      exact ih_26 ((i + 1), (upd G i (kp ((67 * (n - 1)) + i)))) _ _ ⟨by omega, cpy_s (f := fun j => kp (67 * (n - 1) + j)) hz⟩ (by (try dsimp only); omega) hP hD hS ls (lv_sub hl [1, 0] rfl)
  · skip
    refine lv_iconst (v := (-1)) hx hb dX5_unmake_12 (by decide) ?_
    exact weI ((F, (nI n))) hx hb hr hlocks dX5_unmake_13 ⟨fun _ => ⟨rfl, rfl, congrArg nI c9⟩, fun z => absurd c9 z⟩ hP hD hK hA hE hS
end
section
/-! making and counting -/
def LenOK : Prop := ∀ (bd : Nat → Nat) (sd rt ps : Nat), (∀ q, q < 64 → bd q < 13) → sd < 2 → ps < 65 → (legs bd sd rt ps).length ≤ 700
theorem LenOK.le {F : Nat → Int32} {b : Nat} {bd : Nat → Nat} {sd rt ps : Nat} (h : LenOK) (hB : Bd F b bd sd rt ps) : (legs bd sd rt ps).length ≤ 1024 := Nat.le_trans (h bd sd rt ps (fun q hq => (hB.1 q hq).2) hB.2.2.1 hB.2.2.2.2.2.2) (by decide)
def nB (bd : Nat → Nat) (sd ps y : Nat) : Nat → Nat := bhB bd sd ps (y % 64) (y / 64 % 64) (y / 4096)
def nR (bd : Nat → Nat) (sd rt y : Nat) : Nat := bhR bd sd rt (y % 64) (y / 64 % 64)
def nP (bd : Nat → Nat) (sd ps y : Nat) : Nat := bhP bd sd ps (y % 64) (y / 64 % 64) (y / 4096)
theorem legs_of {bd : Nat → Nat} {sd rt ps y : Nat} (h : y ∈ legs bd sd rt ps) : ∃ f t k, f < 64 ∧ t < 64 ∧ k < 6 ∧ y = f + 64 * t + 4096 * k ∧ lgl bd sd rt ps f t k = true := by
  unfold legs lgN at h
  obtain ⟨x, hx, he⟩ := List.mem_filterMap.mp h
  have hx := List.mem_range.mp hx
  split at he
  · rename_i h2
    cases he
    exact ⟨x / 384, x / 6 % 64, x % 6, by omega, by omega, by omega, rfl, h2⟩
  · cases he
theorem nB_e {bd : Nat → Nat} {sd ps f t k y : Nat} (hf : f < 64) (ht : t < 64) (e : y = f + 64 * t + 4096 * k) : y % 64 = f ∧ y / 64 % 64 = t ∧ y / 4096 = k ∧ nB bd sd ps y = bhB bd sd ps f t k ∧ nP bd sd ps y = bhP bd sd ps f t k := by
  have h1 : y % 64 = f := by omega
  have h2 : y / 64 % 64 = t := by omega
  have h3 : y / 4096 = k := by omega
  unfold nB nP
  rw [h1, h2, h3]
  exact ⟨rfl, rfl, rfl, rfl, rfl⟩
theorem lgl_pre {bd : Nat → Nat} {sd rt ps f t k : Nat} (h : lgl bd sd rt ps f t k = true) : pre bd sd rt ps f t k = true ∧ isA (bhB bd sd ps f t k) (kgs (bhB bd sd ps f t k) sd) (1 - sd) = false := by
  unfold lgl at h
  rw [Bool.and_eq_true] at h
  exact ⟨h.1, by simpa using h.2⟩
theorem plc_ge {L : List Nat} {x : Int32} : ∀ n, n < 2 ^ 31 → (0 ≤ plc L x n ↔ ∃ i, i < n ∧ nI (L.getD i 0) = x)
  | 0, _ => ⟨fun h => absurd (show (0 : Int32) ≤ -1 from h) (by decide), fun ⟨_, h, _⟩ => absurd h (Nat.not_lt_zero _)⟩
  | n + 1, hn => by
    rw [plc_s]
    by_cases e : nI (L.getD n 0) = x
    · rw [if_pos e]; exact ⟨fun _ => ⟨n, by omega, e⟩, fun _ => nI_pos' (by omega)⟩
    · rw [if_neg e, plc_ge n (by omega)]
      exact ⟨fun ⟨i, h1, h2⟩ => ⟨i, by omega, h2⟩, fun ⟨i, h1, h2⟩ => ⟨i, by
        rcases Nat.lt_or_ge i n with h | h
        · exact h
        · exact absurd (show i = n by omega) (fun z => e (by rw [← z]; exact h2)), h2⟩⟩
theorem getD_mem {L : List Nat} {i : Nat} (h : i < L.length) : L.getD i 0 ∈ L := by
  rw [List.getD_eq_getElem?_getD, List.getElem?_eq_getElem h]
  exact List.getElem_mem h
/-- the move x is on the list -/
theorem isl_of {bd : Nat → Nat} {sd rt ps : Nat} {x : Int32} (hp : plb bd sd = true) (hl : (lgs bd sd rt ps).length ≤ 1024) (h : 0 ≤ plc (lgs bd sd rt ps) x (lgs bd sd rt ps).length) : ∃ f t k, f < 64 ∧ t < 64 ∧ k < 6 ∧ x = nI (f + 64 * t + 4096 * k) ∧ lgl bd sd rt ps f t k = true := by
  obtain ⟨i, hi, he⟩ := (plc_ge _ (by omega)).mp h
  have hm := getD_mem hi
  have hm2 : (lgs bd sd rt ps).getD i 0 ∈ legs bd sd rt ps := by
    generalize (lgs bd sd rt ps).getD i 0 = z at hm
    unfold lgs at hm
    rwa [if_pos hp] at hm
  obtain ⟨f, t, k, h1, h2, h3, h4, h5⟩ := legs_of hm2
  exact ⟨f, t, k, h1, h2, h3, by rw [← he, h4], h5⟩
def kdc (bd : Nat → Nat) (sd rt ps : Nat) (x : Int32) : Nat := if ndN bd sd = 0 then (if 0 ≤ plc (lgs bd sd rt ps) x (lgs bd sd rt ps).length then 0 else 2) else ndN bd sd
def mkc (bd : Nat → Nat) (sd rt ps n : Nat) (x : Int32) : Nat := if ndN bd sd = 0 then (if 0 ≤ plc (lgs bd sd rt ps) x (lgs bd sd rt ps).length then (if n = 200 then 3 else 0) else 2) else ndN bd sd
def lnc (bd : Nat → Nat) (sd : Nat) (x : Int32) : Nat := if ndN bd sd = 0 then (if x < 0 ∨ ¬ x ≤ nI 3 then 2 else 0) else ndN bd sd
/-- what a legal move does -/
def knd (bd : Nat → Nat) (sd rt ps f t k : Nat) : Nat := (((((if ¬ bd t = 0 ∨ inp bd sd ps f t = true then 1 else 0) + (if inp bd sd ps f t = true then 2 else 0)) + (if ctl bd f t = true then 4 else 0)) + (if k = 0 then 0 else 8)) + (if isA (bhB bd sd ps f t k) (kgs (bhB bd sd ps f t k) (1 - sd)) (1 - (1 - sd)) = true then 16 else 0)) + (if (legs (bhB bd sd ps f t k) (1 - sd) (bhR bd sd rt f t) (bhP bd sd ps f t k)).length = 0 then 32 else 0)
def cn1 (bd : Nat → Nat) (sd rt ps : Nat) : Nat := (legs bd sd rt ps).length
def cn2 (bd : Nat → Nat) (sd rt ps : Nat) : Nat := ((legs bd sd rt ps).map fun y => cn1 (nB bd sd ps y) (1 - sd) (nR bd sd rt y) (nP bd sd ps y)).sum
def cn3 (bd : Nat → Nat) (sd rt ps : Nat) : Nat := ((legs bd sd rt ps).map fun y => cn2 (nB bd sd ps y) (1 - sd) (nR bd sd rt y) (nP bd sd ps y)).sum
def smT (L : List Nat) (g : Nat → Nat) (i : Nat) : Nat := ((L.take i).map g).sum
theorem smT_s {L : List Nat} {g : Nat → Nat} {i : Nat} (h : i < L.length) : smT L g (i + 1) = smT L g i + g (L.getD i 0) := by
  unfold smT
  rw [List.take_add_one, List.map_append, List.sum_append, List.getElem?_eq_getElem h, List.getD_eq_getElem?_getD, List.getElem?_eq_getElem h]
  simp
theorem smT_all {L : List Nat} {g : Nat → Nat} : smT L g L.length = (L.map g).sum := by unfold smT; rw [List.take_length]
theorem Bd.lt {F : Nat → Int32} {b : Nat} {bd : Nat → Nat} {sd rt ps : Nat} (h : Bd F b bd sd rt ps) : ∀ q, q < 64 → bd q < 13 := fun q hq => (h.1 q hq).2
/-- a legal move's facts, for the walk -/
theorem lgl_kg {bd : Nat → Nat} {sd rt ps f t k w : Nat} (hb : ∀ q, q < 64 → bd q < 13) (hs : sd < 2) (hw : w < 2) (hf : f < 64) (ht : t < 64) (hk : k < 6) (h : lgl bd sd rt ps f t k = true) (hg : kgs bd w < 64) : kgs (bhB bd sd ps f t k) w < 64 := bh_kgs hb hs hw hf ht hk (lgl_pre h).1 hg
def bsl (x : Int64) (y : Int32) : Int64 := x <<< (y.toInt64 &&& 63)
def bsr (x : Int64) (y : Int32) : Int64 := (x.toUInt64 >>> (y.toInt64.toUInt64 &&& Int64.toUInt64 63)).toInt64
end
section
theorem kdc_0 {bd : Nat → Nat} {sd rt ps : Nat} {x : Int32} (h : kdc bd sd rt ps x = 0) : plb bd sd = true ∧ 0 ≤ plc (lgs bd sd rt ps) x (lgs bd sd rt ps).length := by
  unfold kdc at h
  split at h
  · rename_i h1
    split at h
    · rename_i h2; exact ⟨ndN_0.mp h1, h2⟩
    · omega
  · omega
theorem mkc_0 {bd : Nat → Nat} {sd rt ps n : Nat} {x : Int32} (h : mkc bd sd rt ps n x = 0) : plb bd sd = true ∧ 0 ≤ plc (lgs bd sd rt ps) x (lgs bd sd rt ps).length ∧ ¬ n = 200 := by
  unfold mkc at h
  split at h
  · rename_i h1
    split at h
    · rename_i h2
      split at h
      · omega
      · rename_i h3; exact ⟨ndN_0.mp h1, h2, h3⟩
    · omega
  · omega
theorem lnc_0 {bd : Nat → Nat} {sd : Nat} {x : Int32} (h : lnc bd sd x = 0) : plb bd sd = true ∧ ∃ d, d < 4 ∧ x = nI d := by
  unfold lnc at h
  split at h
  · rename_i h1
    split at h
    · omega
    · rename_i h2
      obtain ⟨d, hd, rfl⟩ := nI_of (fun z => h2 (Or.inl z) : ¬ x < 0)
      have := (nI_leI hd (show 3 < 2 ^ 31 by decide)).mp (Classical.byContradiction fun z => h2 (Or.inr z))
      exact ⟨ndN_0.mp h1, d, by omega, rfl⟩
  · omega
def cnD (bd : Nat → Nat) (sd rt ps d : Nat) : Nat := if d = 0 then 1 else if d = 1 then cn1 bd sd rt ps else if d = 2 then cn2 bd sd rt ps else cn3 bd sd rt ps
theorem cnD_23 {bd : Nat → Nat} {sd rt ps d : Nat} (h : 2 ≤ d) (h2 : d < 4) : cnD bd sd rt ps d = ((legs bd sd rt ps).map (fun y => if d = 2 then cn1 (nB bd sd ps y) (1 - sd) (nR bd sd rt y) (nP bd sd ps y) else cn2 (nB bd sd ps y) (1 - sd) (nR bd sd rt y) (nP bd sd ps y))).sum := by
  unfold cnD
  rw [if_neg (by omega), if_neg (by omega)]
  by_cases e : d = 2
  · simp only [if_pos e]; rfl
  · simp only [if_neg e]; rfl
end
section
theorem dX5_listAt_0 : decode cX5_listAt 0 = .ok (.aload_n 0, 1) := by decide +kernel
theorem dX5_listAt_1 : decode cX5_listAt 1 = .ok (.iload_n 1, 1) := by decide +kernel
theorem dX5_listAt_2 : decode cX5_listAt 2 = .ok (.iconst 0, 1) := by decide +kernel
theorem dX5_listAt_3 : decode cX5_listAt 3 = .ok (.invokevirtual 93, 3) := by decide +kernel
theorem dX5_listAt_6 : decode cX5_listAt 6 = .ok (.istore_n 3, 1) := by decide +kernel
theorem dX5_listAt_7 : decode cX5_listAt 7 = .ok (.iload_n 2, 1) := by decide +kernel
theorem dX5_listAt_8 : decode cX5_listAt 8 = .ok (.iload_n 3, 1) := by decide +kernel
theorem dX5_listAt_9 : decode cX5_listAt 9 = .ok (.if_icmp .ge 12, 3) := by decide +kernel
theorem dX5_listAt_12 : decode cX5_listAt 12 = .ok (.aload_n 0, 1) := by decide +kernel
theorem dX5_listAt_13 : decode cX5_listAt 13 = .ok (.getfield 19, 3) := by decide +kernel
theorem dX5_listAt_16 : decode cX5_listAt 16 = .ok (.iload_n 2, 1) := by decide +kernel
theorem dX5_listAt_17 : decode cX5_listAt 17 = .ok (.iaload, 1) := by decide +kernel
theorem dX5_listAt_18 : decode cX5_listAt 18 = .ok (.goto 4, 3) := by decide +kernel
theorem dX5_listAt_21 : decode cX5_listAt 21 = .ok (.iconst 0, 1) := by decide +kernel
theorem dX5_listAt_22 : decode cX5_listAt 22 = .ok (.ireturn, 1) := by decide +kernel
theorem hd_X5_listAt : yX5_listAt.cls ≠ "java/lang/invoke/MethodHandle" ∧ yX5_listAt.cls ≠ "java/lang/invoke/VarHandle" ∧ (parseMethodDescriptor yX5_listAt.desc).map (fun d => d.parameters.length) = some 2 := by decide +kernel
set_option maxHeartbeats 4000000 in
set_option maxRecDepth 100000 in
/-- listAt -/
theorem c_X5_listAt (l : Launch) {D : va_G} {cI cJ : ClassId} {A : Nat → Prop} {hm b0 b1 b2 b3 : Nat} {th mk sz : Int32} {F mv kp li : Nat → Int32} (bd : Nat → Nat) (sd rt ps b : Nat) (hb9 : b ≤ 200) (hBd : Bd F b bd sd rt ps) (hkg : kgs bd sd < 64) (hLen : (legs bd sd rt ps).length ≤ 1024) (i : Nat) (hi : i < (legs bd sd rt ps).length) : Met l yX5_listAt (Cond.code yX5_listAt cX5_listAt 4 (some .int) :: wsL_law) (rK 7) (va_Pc [.ref hm, .int (nI b), .int (nI i)] (IW D cI cJ A (rW cI hm b0 b1 b2 b3 th mk sz F mv kp li))) (va_Qi (fun r u => r = nI ((legs bd sd rt ps).getD i 0) ∧ Ag F u.1 (b + 67) ∧ LI u.2 (legs bd sd rt ps)) (fun (u : (Nat → Int32) × (Nat → Int32)) t => IW D cI cJ A (rW cI hm b0 b1 b2 b3 th mk sz u.1 mv kp u.2) t) A) 0 0 A := by
  refine entM (by decide) (Nat.le_of_ble_eq_true rfl) ?_
  intro p e s m below meth c ls S0 hr hlocks hG hnm hB hl
  have hx := S0.1
  have hb := S0.2.1
  have hown := S0.2.2.2.1
  have hl : lv_has ls 4 [(0, .ref hm), (1, .int (nI b)), (2, .int (nI i))] := hl
  obtain ⟨hP, hD, hK, hA, hE⟩ := hB
  have hS : va_S A s.heap s.heap [] := va_S.rf
  refine lv_aload_n hx hb dX5_listAt_0 rfl (lv_at hl 0 rfl) ?_
  refine lv_iload_n hx hb dX5_listAt_1 rfl (lv_at hl 1 rfl) ?_
  refine lv_iconst (v := (nI 0)) hx hb dX5_listAt_2 (by decide) ?_
  refine chI (rnV (As := [.int (nI b), .int (nI 0)]) (rest := []) S0 (c_X5_listed l bd sd rt ps b hb9 hBd hkg hLen) wm_X5_93 wi_X5_listed ws_X5_listed wn_X5 wc_X5_listed hd_X5_listed ⟨rfl, rfl, by decide, by decide⟩ IW.blind (va_recv hK hP (ci := 4) (q0 := 0) rfl rfl) (IW.at hP hD hK hA hE hS) hl.1 (Nat.le_of_ble_eq_true rfl) dX5_listAt_3 rfl ⟨by decide, by decide⟩) hS (fun r_1 u_2 H locs hu hP hD hS => ?_)
  obtain ⟨he9, hA9, hL9⟩ := hu
  subst he9
  have hP : va_P D classes (rW cI hm b0 b1 b2 b3 th mk sz u_2.1 mv kp u_2.2) H := hP
  have hD : va_D A (rW cI hm b0 b1 b2 b3 th mk sz u_2.1 mv kp u_2.2) := hD
  refine lv_istore_n (lv' := [(3, .int (nI ((legs bd sd rt ps).length))), (0, .ref hm), (1, .int (nI b)), (2, .int (nI i))]) hx hb dX5_listAt_6 rfl hl (by decide) rfl (fun ls hl => ?_)
  refine lv_iload_n hx hb dX5_listAt_7 rfl (lv_at hl 3 rfl) ?_
  refine lv_iload_n hx hb dX5_listAt_8 rfl (lv_at hl 0 rfl) ?_
  refine ln_icmp_ge (tgt := 21) hx hb dX5_listAt_9 (by decide) (by omega) (by omega) (fun c9 => ?_) (fun c9 => ?_)
  · skip
    exact absurd c9 (by omega)
  · skip
    refine lv_aload_n hx hb dX5_listAt_12 rfl (lv_at hl 1 rfl) ?_
    refine va_get (D := D) (ci := 4) (v := .ref b3) (C := RX5) (T := TX5) (N := 7) hx hb hG wu_X5 hown hK hP 0 rfl rfl 6 (by decide) (hG _ wf_X5_19) (fun _ h9 => h9) rfl dX5_listAt_13 ?_
    refine lv_iload_n hx hb dX5_listAt_16 rfl (lv_at hl 3 rfl) ?_
    refine va_iald hx hb hK hP 4 0 rfl rfl (vp_in_nI (by omega) (by decide)) dX5_listAt_17 ?_
    refine W.top (y := .int (u_2.2 i)) (congrArg (fun z => Value.int (u_2.2 z)) (nI_clamp (by omega))) ?_
    refine W.top (y := .int (nI ((legs bd sd rt ps).getD i 0))) (congrArg Value.int (hL9 i hi)) ?_
    refine lv_goto (tgt := 22) hx hb dX5_listAt_18 (by decide) ?_
    exact weI ((u_2.1, u_2.2)) hx hb hr hlocks dX5_listAt_22 ⟨rfl, hA9, hL9⟩ hP hD hK hA hE hS
theorem dX5_deeper_0 : decode cX5_deeper 0 = .ok (.lconst 0, 1) := by decide +kernel
theorem dX5_deeper_1 : decode cX5_deeper 1 = .ok (.lstore_n 2, 1) := by decide +kernel
theorem dX5_deeper_2 : decode cX5_deeper 2 = .ok (.iconst 0, 1) := by decide +kernel
theorem dX5_deeper_3 : decode cX5_deeper 3 = .ok (.istore 4, 2) := by decide +kernel
theorem dX5_deeper_5 : decode cX5_deeper 5 = .ok (.iload 4, 2) := by decide +kernel
theorem dX5_deeper_7 : decode cX5_deeper 7 = .ok (.iload_n 1, 1) := by decide +kernel
theorem dX5_deeper_8 : decode cX5_deeper 8 = .ok (.if_icmp .ge 42, 3) := by decide +kernel
theorem dX5_deeper_11 : decode cX5_deeper 11 = .ok (.aload_n 0, 1) := by decide +kernel
theorem dX5_deeper_12 : decode cX5_deeper 12 = .ok (.bipush 67, 2) := by decide +kernel
theorem dX5_deeper_14 : decode cX5_deeper 14 = .ok (.iload 4, 2) := by decide +kernel
theorem dX5_deeper_16 : decode cX5_deeper 16 = .ok (.invokevirtual 106, 3) := by decide +kernel
theorem dX5_deeper_19 : decode cX5_deeper 19 = .ok (.istore 5, 2) := by decide +kernel
theorem dX5_deeper_21 : decode cX5_deeper 21 = .ok (.aload_n 0, 1) := by decide +kernel
theorem dX5_deeper_22 : decode cX5_deeper 22 = .ok (.bipush 67, 2) := by decide +kernel
theorem dX5_deeper_24 : decode cX5_deeper 24 = .ok (.sipush 134, 3) := by decide +kernel
theorem dX5_deeper_27 : decode cX5_deeper 27 = .ok (.iload 5, 2) := by decide +kernel
theorem dX5_deeper_29 : decode cX5_deeper 29 = .ok (.invokevirtual 86, 3) := by decide +kernel
theorem dX5_deeper_32 : decode cX5_deeper 32 = .ok (.lload_n 2, 1) := by decide +kernel
theorem dX5_deeper_33 : decode cX5_deeper 33 = .ok (.aload_n 0, 1) := by decide +kernel
theorem dX5_deeper_34 : decode cX5_deeper 34 = .ok (.sipush 134, 3) := by decide +kernel
theorem dX5_deeper_37 : decode cX5_deeper 37 = .ok (.iconst 0, 1) := by decide +kernel
theorem dX5_deeper_38 : decode cX5_deeper 38 = .ok (.invokevirtual 93, 3) := by decide +kernel
theorem dX5_deeper_41 : decode cX5_deeper 41 = .ok (.i2l, 1) := by decide +kernel
theorem dX5_deeper_42 : decode cX5_deeper 42 = .ok (.ladd, 1) := by decide +kernel
theorem dX5_deeper_43 : decode cX5_deeper 43 = .ok (.lstore_n 2, 1) := by decide +kernel
theorem dX5_deeper_44 : decode cX5_deeper 44 = .ok (.iinc 4 1, 3) := by decide +kernel
theorem dX5_deeper_47 : decode cX5_deeper 47 = .ok (.goto (-42), 3) := by decide +kernel
theorem dX5_deeper_50 : decode cX5_deeper 50 = .ok (.lload_n 2, 1) := by decide +kernel
theorem dX5_deeper_51 : decode cX5_deeper 51 = .ok (.lreturn, 1) := by decide +kernel
theorem hd_X5_deeper : yX5_deeper.cls ≠ "java/lang/invoke/MethodHandle" ∧ yX5_deeper.cls ≠ "java/lang/invoke/VarHandle" ∧ (parseMethodDescriptor yX5_deeper.desc).map (fun d => d.parameters.length) = some 1 := by decide +kernel
set_option maxHeartbeats 4000000 in
set_option maxRecDepth 100000 in
/-- deeper -/
theorem c_X5_deeper (l : Launch) {D : va_G} {cI cJ : ClassId} {A : Nat → Prop} {hm b0 b1 b2 b3 : Nat} {th mk sz : Int32} {F mv kp li : Nat → Int32} (bd : Nat → Nat) (sd rt ps : Nat) (hLA : LenOK) (hBd : Bd F 67 bd sd rt ps) (hkg : ∀ w, w < 2 → kgs bd w < 64) : Met l yX5_deeper (Cond.code yX5_deeper cX5_deeper 6 (some .long) :: wsL_law) (rK 8) (va_Pc [.ref hm, .int (nI ((legs bd sd rt ps).length))] (IW D cI cJ A (rW cI hm b0 b1 b2 b3 th mk sz F mv kp li))) (va_Ql (fun r u => r = lN (cn2 bd sd rt ps) ∧ ∀ j, j < 134 → u.1 j = F j) (fun (u : (Nat → Int32) × (Nat → Int32)) t => IW D cI cJ A (rW cI hm b0 b1 b2 b3 th mk sz u.1 mv kp u.2) t) A) 0 0 A := by
  refine entM (by decide) (Nat.le_of_ble_eq_true rfl) ?_
  intro p e s m below meth c ls S0 hr hlocks hG hnm hB hl
  have hx := S0.1
  have hb := S0.2.1
  have hown := S0.2.2.2.1
  have hl : lv_has ls 6 [(0, .ref hm), (1, .int (nI ((legs bd sd rt ps).length)))] := hl
  obtain ⟨hP, hD, hK, hA, hE⟩ := hB
  have hS : va_S A s.heap s.heap [] := va_S.rf
  have hs2 := hBd.2.2.1
  have hLn := hLA.le hBd
  refine lv_lconst (v := 0) hx hb dX5_deeper_0 (by decide) ?_
  refine W.top (y := .long (lN (smT (legs bd sd rt ps) (fun y => cn1 (nB bd sd ps y) (1 - sd) (nR bd sd rt y) (nP bd sd ps y)) 0))) (congrArg Value.long rfl) ?_
  refine lv_lstore_n (lv' := [(2, .long (lN (smT (legs bd sd rt ps) (fun y => cn1 (nB bd sd ps y) (1 - sd) (nR bd sd rt y) (nP bd sd ps y)) 0))), (0, .ref hm), (1, .int (nI ((legs bd sd rt ps).length)))]) hx hb dX5_deeper_1 rfl hl (by decide) rfl (fun ls hl => ?_)
  refine lv_iconst (v := (nI 0)) hx hb dX5_deeper_2 (by decide) ?_
  refine lv_istore (lv' := [(4, .int (nI 0)), (2, .long (lN (smT (legs bd sd rt ps) (fun y => cn1 (nB bd sd ps y) (1 - sd) (nR bd sd rt y) (nP bd sd ps y)) 0))), (0, .ref hm), (1, .int (nI ((legs bd sd rt ps).length)))]) hx hb dX5_deeper_3 hl (by decide) rfl (fun ls hl => ?_)
  refine lpW (σ := (Nat) × (Nat → Int32) × (Nat → Int32)) 5 6 [] (fun x9 => [(0, .ref hm), (1, .int (nI ((legs bd sd rt ps).length))), (2, .long (lN (smT (legs bd sd rt ps) (fun y => cn1 (nB bd sd ps y) (1 - sd) (nR bd sd rt y) (nP bd sd ps y)) x9.1))), (4, .int (nI x9.1))]) (fun x9 => rW cI hm b0 b1 b2 b3 th mk sz x9.2.1 mv kp x9.2.2) (fun x9 => x9.1 ≤ (legs bd sd rt ps).length ∧ ∀ j, j < 134 → x9.2.1 j = F j) (fun x9 => (legs bd sd rt ps).length - x9.1) (0, F, li) ⟨Nat.zero_le _, fun _ _ => rfl⟩ (lv_sub hl [2, 3, 1, 0] rfl) hP hD hS ?_
  clear hP hD hS hl ls
  rintro ⟨i, G, M⟩ H locs hI hP hD hS ih_5 ls hl
  try dsimp only at hI ih_5 hl hP hD
  obtain ⟨hi, hsm⟩ := hI
  refine lv_iload hx hb dX5_deeper_5 (lv_at hl 3 rfl) ?_
  refine lv_iload_n hx hb dX5_deeper_7 rfl (lv_at hl 1 rfl) ?_
  refine ln_icmp_ge (tgt := 50) hx hb dX5_deeper_8 (by decide) (by omega) (by omega) (fun c8 => ?_) (fun c8 => ?_)
  · skip
    refine lv_lload_n hx hb dX5_deeper_50 rfl (lv_at hl 2 rfl) ?_
    exact weL ((G, M)) hx hb hr hlocks dX5_deeper_51 ⟨by rw [show i = (legs bd sd rt ps).length by omega, smT_all]; rfl, hsm⟩ hP hD hK hA hE hS
  · skip
    have hi : i < (legs bd sd rt ps).length := by omega
    have hBg : Bd G 67 bd sd rt ps := Bd_cp hBd (fun j hj => hsm _ (by omega))
    obtain ⟨f, t, k, hf, ht, hk, hy, hlg⟩ := legs_of (getD_mem hi)
    obtain ⟨y1, y2, y3, y4, y5⟩ := nB_e (bd := bd) (sd := sd) (ps := ps) hf ht hy
    have hgo := (pre_go (lgl_pre hlg).1).1
    refine lv_aload_n hx hb dX5_deeper_11 rfl (lv_at hl 0 rfl) ?_
    refine lv_bipush (v := (nI 67)) hx hb dX5_deeper_12 (by decide) ?_
    refine lv_iload hx hb dX5_deeper_14 (lv_at hl 3 rfl) ?_
    refine chI (rnV (As := [.int (nI 67), .int (nI i)]) (rest := []) S0 (c_X5_listAt l bd sd rt ps 67 (by decide) hBg (hkg _ hs2) hLn i hi) wm_X5_106 wi_X5_listAt ws_X5_listAt wn_X5 wc_X5_listAt hd_X5_listAt ⟨rfl, rfl, by decide, by decide⟩ IW.blind (va_recv hK hP (ci := 4) (q0 := 0) rfl rfl) (IW.at hP hD hK hA hE hS) hl.1 (Nat.le_of_ble_eq_true rfl) dX5_deeper_16 rfl ⟨by decide, by decide⟩) hS (fun r_1 u1 H locs hu hP hD hS => ?_)
    obtain ⟨he9, hA9, hL9⟩ := hu
    subst he9
    have hP : va_P D classes (rW cI hm b0 b1 b2 b3 th mk sz u1.1 mv kp u1.2) H := hP
    have hD : va_D A (rW cI hm b0 b1 b2 b3 th mk sz u1.1 mv kp u1.2) := hD
    refine W.top (y := .int (nI (f + 64 * t + 4096 * k))) (congrArg Value.int (congrArg nI hy)) ?_
    have hA8 := hA9
    have hB1 := hA8.Bd (by decide) hBg
    refine lv_istore (lv' := [(5, .int (nI (f + 64 * t + 4096 * k))), (0, .ref hm), (1, .int (nI ((legs bd sd rt ps).length))), (2, .long (lN (smT (legs bd sd rt ps) (fun y => cn1 (nB bd sd ps y) (1 - sd) (nR bd sd rt y) (nP bd sd ps y)) i))), (4, .int (nI i))]) hx hb dX5_deeper_19 hl (by decide) rfl (fun ls hl => ?_)
    refine lv_aload_n hx hb dX5_deeper_21 rfl (lv_at hl 1 rfl) ?_
    refine lv_bipush (v := (nI 67)) hx hb dX5_deeper_22 (by decide) ?_
    refine lv_sipush (v := (nI 134)) hx hb dX5_deeper_24 (by decide) ?_
    refine lv_iload hx hb dX5_deeper_27 (lv_at hl 0 rfl) ?_
    refine chV (rnV (As := [.int (nI 67), .int (nI 134), .int (nI (f + 64 * t + 4096 * k))]) (rest := []) S0 (c_X5_behind l bd sd rt ps 67 134 f t k (by decide) (by decide) hf ht hk hgo hB1) wm_X5_86 wi_X5_behind ws_X5_behind wn_X5 wc_X5_behind hd_X5_behind ⟨rfl, rfl, by decide, by decide⟩ IW.blind (va_recv hK hP (ci := 4) (q0 := 0) rfl rfl) (IW.at hP hD hK hA hE hS) hl.1 (Nat.le_of_ble_eq_true rfl) dX5_deeper_29 rfl ⟨by decide, by decide⟩) hS (fun u2 H locs hu hP hD hS => ?_)
    obtain ⟨hBn, hAn⟩ := hu
    have hP : va_P D classes (rW cI hm b0 b1 b2 b3 th mk sz u2 mv kp u1.2) H := hP
    have hD : va_D A (rW cI hm b0 b1 b2 b3 th mk sz u2 mv kp u1.2) := hD
    refine lv_lload_n hx hb dX5_deeper_32 rfl (lv_at hl 3 rfl) ?_
    refine lv_aload_n hx hb dX5_deeper_33 rfl (lv_at hl 1 rfl) ?_
    refine lv_sipush (v := (nI 134)) hx hb dX5_deeper_34 (by decide) ?_
    refine lv_iconst (v := (nI 0)) hx hb dX5_deeper_37 (by decide) ?_
    refine chI (rnV (As := [.int (nI 134), .int (nI 0)]) (rest := [.long (lN (smT (legs bd sd rt ps) (fun y => cn1 (nB bd sd ps y) (1 - sd) (nR bd sd rt y) (nP bd sd ps y)) i))]) S0 (c_X5_listed l (bhB bd sd ps f t k) (1 - sd) (bhR bd sd rt f t) (bhP bd sd ps f t k) 134 (by decide) hBn (lgl_kg hBd.lt hs2 (by omega) hf ht hk hlg (hkg _ (by omega))) (hLA.le hBn)) wm_X5_93 wi_X5_listed ws_X5_listed wn_X5 wc_X5_listed hd_X5_listed ⟨rfl, rfl, by decide, by decide⟩ IW.blind (va_recv hK hP (ci := 4) (q0 := 0) rfl rfl) (IW.at hP hD hK hA hE hS) hl.1 (Nat.le_of_ble_eq_true rfl) dX5_deeper_38 rfl ⟨by decide, by decide⟩) hS (fun r_3 u3 H locs hu hP hD hS => ?_)
    obtain ⟨he9, hA9, hL9⟩ := hu
    subst he9
    have hP : va_P D classes (rW cI hm b0 b1 b2 b3 th mk sz u3.1 mv kp u3.2) H := hP
    have hD : va_D A (rW cI hm b0 b1 b2 b3 th mk sz u3.1 mv kp u3.2) := hD
    have hl7 := hLA.le hBn
    refine lv_i2l hx hb dX5_deeper_41 rfl ?_
    refine W.top (y := .long (lN (legs (bhB bd sd ps f t k) (1 - sd) (bhR bd sd rt f t) (bhP bd sd ps f t k)).length)) (congrArg Value.long (nI_l (by omega))) ?_
    refine lv_ladd hx hb dX5_deeper_42 ?_
    refine W.top (y := .long (lN (smT (legs bd sd rt ps) (fun y => cn1 (nB bd sd ps y) (1 - sd) (nR bd sd rt y) (nP bd sd ps y)) (i + 1)))) (congrArg Value.long (by rw [lN_add, smT_s hi]; unfold cn1 nR; rw [y4, y5, y1, y2])) ?_
    refine lv_lstore_n (lv' := [(2, .long (lN (smT (legs bd sd rt ps) (fun y => cn1 (nB bd sd ps y) (1 - sd) (nR bd sd rt y) (nP bd sd ps y)) (i + 1)))), (5, .int (nI (f + 64 * t + 4096 * k))), (0, .ref hm), (1, .int (nI ((legs bd sd rt ps).length))), (4, .int (nI i))]) hx hb dX5_deeper_43 rfl hl (by decide) rfl (fun ls hl => ?_)
    refine lv_iinc (v := (nI (i + 1))) (lv' := [(4, .int (nI (i + 1))), (2, .long (lN (smT (legs bd sd rt ps) (fun y => cn1 (nB bd sd ps y) (1 - sd) (nR bd sd rt y) (nP bd sd ps y)) (i + 1)))), (5, .int (nI (f + 64 * t + 4096 * k))), (0, .ref hm), (1, .int (nI ((legs bd sd rt ps).length)))]) hx hb dX5_deeper_44 hl (k := 4) rfl (show nI i + Int32.ofInt 1 = nI (i + 1) from nI_add _ 1) (by decide) rfl (fun ls hl => ?_)
    refine lv_goto (tgt := 5) hx hb dX5_deeper_47 (by decide) ?_
    exact ih_5 ((i + 1), u3.1, u3.2) _ _ ⟨by omega, fun j hj => ((hA9 j (by omega)).trans (hAn j (by omega))).trans ((hA8 j (by omega)).trans (hsm j hj))⟩ (by (try dsimp only); omega) hP hD hS ls (lv_sub hl [3, 4, 1, 0] rfl)
theorem dX5_kind_0 : decode cX5_kind 0 = .ok (.aload_n 0, 1) := by decide +kernel
theorem dX5_kind_1 : decode cX5_kind 1 = .ok (.aload_n 0, 1) := by decide +kernel
theorem dX5_kind_2 : decode cX5_kind 2 = .ok (.invokevirtual 99, 3) := by decide +kernel
theorem dX5_kind_5 : decode cX5_kind 5 = .ok (.putfield 22, 3) := by decide +kernel
theorem dX5_kind_8 : decode cX5_kind 8 = .ok (.aload_n 0, 1) := by decide +kernel
theorem dX5_kind_9 : decode cX5_kind 9 = .ok (.aload_n 0, 1) := by decide +kernel
theorem dX5_kind_10 : decode cX5_kind 10 = .ok (.getfield 22, 3) := by decide +kernel
theorem dX5_kind_13 : decode cX5_kind 13 = .ok (.ifCond .ne 15, 3) := by decide +kernel
theorem dX5_kind_16 : decode cX5_kind 16 = .ok (.aload_n 0, 1) := by decide +kernel
theorem dX5_kind_17 : decode cX5_kind 17 = .ok (.iload_n 1, 1) := by decide +kernel
theorem dX5_kind_18 : decode cX5_kind 18 = .ok (.invokevirtual 103, 3) := by decide +kernel
theorem dX5_kind_21 : decode cX5_kind 21 = .ok (.ifCond .ge 7, 3) := by decide +kernel
theorem dX5_kind_24 : decode cX5_kind 24 = .ok (.iconst 2, 1) := by decide +kernel
theorem dX5_kind_25 : decode cX5_kind 25 = .ok (.goto 7, 3) := by decide +kernel
theorem dX5_kind_28 : decode cX5_kind 28 = .ok (.aload_n 0, 1) := by decide +kernel
theorem dX5_kind_29 : decode cX5_kind 29 = .ok (.getfield 22, 3) := by decide +kernel
theorem dX5_kind_32 : decode cX5_kind 32 = .ok (.putfield 22, 3) := by decide +kernel
theorem dX5_kind_35 : decode cX5_kind 35 = .ok (.aload_n 0, 1) := by decide +kernel
theorem dX5_kind_36 : decode cX5_kind 36 = .ok (.getfield 22, 3) := by decide +kernel
theorem dX5_kind_39 : decode cX5_kind 39 = .ok (.ifCond .le 5, 3) := by decide +kernel
theorem dX5_kind_42 : decode cX5_kind 42 = .ok (.iconst 0, 1) := by decide +kernel
theorem dX5_kind_43 : decode cX5_kind 43 = .ok (.ireturn, 1) := by decide +kernel
theorem dX5_kind_44 : decode cX5_kind 44 = .ok (.iload_n 1, 1) := by decide +kernel
theorem dX5_kind_45 : decode cX5_kind 45 = .ok (.bipush 64, 2) := by decide +kernel
theorem dX5_kind_47 : decode cX5_kind 47 = .ok (.irem, 1) := by decide +kernel
theorem dX5_kind_48 : decode cX5_kind 48 = .ok (.istore_n 2, 1) := by decide +kernel
theorem dX5_kind_49 : decode cX5_kind 49 = .ok (.iload_n 1, 1) := by decide +kernel
theorem dX5_kind_50 : decode cX5_kind 50 = .ok (.bipush 64, 2) := by decide +kernel
theorem dX5_kind_52 : decode cX5_kind 52 = .ok (.idiv, 1) := by decide +kernel
theorem dX5_kind_53 : decode cX5_kind 53 = .ok (.bipush 64, 2) := by decide +kernel
theorem dX5_kind_55 : decode cX5_kind 55 = .ok (.irem, 1) := by decide +kernel
theorem dX5_kind_56 : decode cX5_kind 56 = .ok (.istore_n 3, 1) := by decide +kernel
theorem dX5_kind_57 : decode cX5_kind 57 = .ok (.aload_n 0, 1) := by decide +kernel
theorem dX5_kind_58 : decode cX5_kind 58 = .ok (.getfield 7, 3) := by decide +kernel
theorem dX5_kind_61 : decode cX5_kind 61 = .ok (.iload_n 2, 1) := by decide +kernel
theorem dX5_kind_62 : decode cX5_kind 62 = .ok (.iaload, 1) := by decide +kernel
theorem dX5_kind_63 : decode cX5_kind 63 = .ok (.invokestatic 40, 3) := by decide +kernel
theorem dX5_kind_66 : decode cX5_kind 66 = .ok (.istore 4, 2) := by decide +kernel
theorem dX5_kind_68 : decode cX5_kind 68 = .ok (.iload 4, 2) := by decide +kernel
theorem dX5_kind_70 : decode cX5_kind 70 = .ok (.iconst 1, 1) := by decide +kernel
theorem dX5_kind_71 : decode cX5_kind 71 = .ok (.if_icmp .ne 17, 3) := by decide +kernel
theorem dX5_kind_74 : decode cX5_kind 74 = .ok (.aload_n 0, 1) := by decide +kernel
theorem dX5_kind_75 : decode cX5_kind 75 = .ok (.iconst 0, 1) := by decide +kernel
theorem dX5_kind_76 : decode cX5_kind 76 = .ok (.iload_n 2, 1) := by decide +kernel
theorem dX5_kind_77 : decode cX5_kind 77 = .ok (.iload_n 3, 1) := by decide +kernel
theorem dX5_kind_78 : decode cX5_kind 78 = .ok (.invokevirtual 71, 3) := by decide +kernel
theorem dX5_kind_81 : decode cX5_kind 81 = .ok (.ifCond .eq 7, 3) := by decide +kernel
theorem dX5_kind_84 : decode cX5_kind 84 = .ok (.iconst 1, 1) := by decide +kernel
theorem dX5_kind_85 : decode cX5_kind 85 = .ok (.goto 4, 3) := by decide +kernel
theorem dX5_kind_88 : decode cX5_kind 88 = .ok (.iconst 0, 1) := by decide +kernel
theorem dX5_kind_89 : decode cX5_kind 89 = .ok (.istore 5, 2) := by decide +kernel
theorem dX5_kind_91 : decode cX5_kind 91 = .ok (.aload_n 0, 1) := by decide +kernel
theorem dX5_kind_92 : decode cX5_kind 92 = .ok (.getfield 7, 3) := by decide +kernel
theorem dX5_kind_95 : decode cX5_kind 95 = .ok (.iload_n 3, 1) := by decide +kernel
theorem dX5_kind_96 : decode cX5_kind 96 = .ok (.iaload, 1) := by decide +kernel
theorem dX5_kind_97 : decode cX5_kind 97 = .ok (.ifCond .gt 8, 3) := by decide +kernel
theorem dX5_kind_100 : decode cX5_kind 100 = .ok (.iload 5, 2) := by decide +kernel
theorem dX5_kind_102 : decode cX5_kind 102 = .ok (.ifCond .eq 7, 3) := by decide +kernel
theorem dX5_kind_105 : decode cX5_kind 105 = .ok (.iconst 1, 1) := by decide +kernel
theorem dX5_kind_106 : decode cX5_kind 106 = .ok (.goto 4, 3) := by decide +kernel
theorem dX5_kind_109 : decode cX5_kind 109 = .ok (.iconst 0, 1) := by decide +kernel
theorem dX5_kind_110 : decode cX5_kind 110 = .ok (.istore 6, 2) := by decide +kernel
theorem dX5_kind_112 : decode cX5_kind 112 = .ok (.iload 6, 2) := by decide +kernel
theorem dX5_kind_114 : decode cX5_kind 114 = .ok (.iload 5, 2) := by decide +kernel
theorem dX5_kind_116 : decode cX5_kind 116 = .ok (.ifCond .eq 7, 3) := by decide +kernel
theorem dX5_kind_119 : decode cX5_kind 119 = .ok (.iconst 2, 1) := by decide +kernel
theorem dX5_kind_120 : decode cX5_kind 120 = .ok (.goto 4, 3) := by decide +kernel
theorem dX5_kind_123 : decode cX5_kind 123 = .ok (.iconst 0, 1) := by decide +kernel
theorem dX5_kind_124 : decode cX5_kind 124 = .ok (.iadd, 1) := by decide +kernel
theorem dX5_kind_125 : decode cX5_kind 125 = .ok (.istore 6, 2) := by decide +kernel
theorem dX5_kind_127 : decode cX5_kind 127 = .ok (.iload 6, 2) := by decide +kernel
theorem dX5_kind_129 : decode cX5_kind 129 = .ok (.iload 4, 2) := by decide +kernel
theorem dX5_kind_131 : decode cX5_kind 131 = .ok (.bipush 6, 2) := by decide +kernel
theorem dX5_kind_133 : decode cX5_kind 133 = .ok (.if_icmp .ne 22, 3) := by decide +kernel
theorem dX5_kind_136 : decode cX5_kind 136 = .ok (.iload_n 2, 1) := by decide +kernel
theorem dX5_kind_137 : decode cX5_kind 137 = .ok (.bipush 8, 2) := by decide +kernel
theorem dX5_kind_139 : decode cX5_kind 139 = .ok (.irem, 1) := by decide +kernel
theorem dX5_kind_140 : decode cX5_kind 140 = .ok (.iload_n 3, 1) := by decide +kernel
theorem dX5_kind_141 : decode cX5_kind 141 = .ok (.bipush 8, 2) := by decide +kernel
theorem dX5_kind_143 : decode cX5_kind 143 = .ok (.irem, 1) := by decide +kernel
theorem dX5_kind_144 : decode cX5_kind 144 = .ok (.invokestatic 43, 3) := by decide +kernel
theorem dX5_kind_147 : decode cX5_kind 147 = .ok (.iconst 2, 1) := by decide +kernel
theorem dX5_kind_148 : decode cX5_kind 148 = .ok (.if_icmp .ne 7, 3) := by decide +kernel
theorem dX5_kind_151 : decode cX5_kind 151 = .ok (.iconst 4, 1) := by decide +kernel
theorem dX5_kind_152 : decode cX5_kind 152 = .ok (.goto 4, 3) := by decide +kernel
theorem dX5_kind_155 : decode cX5_kind 155 = .ok (.iconst 0, 1) := by decide +kernel
theorem dX5_kind_156 : decode cX5_kind 156 = .ok (.iadd, 1) := by decide +kernel
theorem dX5_kind_157 : decode cX5_kind 157 = .ok (.istore 6, 2) := by decide +kernel
theorem dX5_kind_159 : decode cX5_kind 159 = .ok (.iload 6, 2) := by decide +kernel
theorem dX5_kind_161 : decode cX5_kind 161 = .ok (.iload_n 1, 1) := by decide +kernel
theorem dX5_kind_162 : decode cX5_kind 162 = .ok (.sipush 4096, 3) := by decide +kernel
theorem dX5_kind_165 : decode cX5_kind 165 = .ok (.if_icmp .lt 8, 3) := by decide +kernel
theorem dX5_kind_168 : decode cX5_kind 168 = .ok (.bipush 8, 2) := by decide +kernel
theorem dX5_kind_170 : decode cX5_kind 170 = .ok (.goto 4, 3) := by decide +kernel
theorem dX5_kind_173 : decode cX5_kind 173 = .ok (.iconst 0, 1) := by decide +kernel
theorem dX5_kind_174 : decode cX5_kind 174 = .ok (.iadd, 1) := by decide +kernel
theorem dX5_kind_175 : decode cX5_kind 175 = .ok (.istore 6, 2) := by decide +kernel
theorem dX5_kind_177 : decode cX5_kind 177 = .ok (.aload_n 0, 1) := by decide +kernel
theorem dX5_kind_178 : decode cX5_kind 178 = .ok (.iconst 0, 1) := by decide +kernel
theorem dX5_kind_179 : decode cX5_kind 179 = .ok (.bipush 67, 2) := by decide +kernel
theorem dX5_kind_181 : decode cX5_kind 181 = .ok (.iload_n 1, 1) := by decide +kernel
theorem dX5_kind_182 : decode cX5_kind 182 = .ok (.invokevirtual 86, 3) := by decide +kernel
theorem dX5_kind_185 : decode cX5_kind 185 = .ok (.iload 6, 2) := by decide +kernel
theorem dX5_kind_187 : decode cX5_kind 187 = .ok (.aload_n 0, 1) := by decide +kernel
theorem dX5_kind_188 : decode cX5_kind 188 = .ok (.bipush 67, 2) := by decide +kernel
theorem dX5_kind_190 : decode cX5_kind 190 = .ok (.aload_n 0, 1) := by decide +kernel
theorem dX5_kind_191 : decode cX5_kind 191 = .ok (.getfield 7, 3) := by decide +kernel
theorem dX5_kind_194 : decode cX5_kind 194 = .ok (.sipush 131, 3) := by decide +kernel
theorem dX5_kind_197 : decode cX5_kind 197 = .ok (.iaload, 1) := by decide +kernel
theorem dX5_kind_198 : decode cX5_kind 198 = .ok (.invokevirtual 63, 3) := by decide +kernel
theorem dX5_kind_201 : decode cX5_kind 201 = .ok (.ifCond .eq 8, 3) := by decide +kernel
theorem dX5_kind_204 : decode cX5_kind 204 = .ok (.bipush 16, 2) := by decide +kernel
theorem dX5_kind_206 : decode cX5_kind 206 = .ok (.goto 4, 3) := by decide +kernel
theorem dX5_kind_209 : decode cX5_kind 209 = .ok (.iconst 0, 1) := by decide +kernel
theorem dX5_kind_210 : decode cX5_kind 210 = .ok (.iadd, 1) := by decide +kernel
theorem dX5_kind_211 : decode cX5_kind 211 = .ok (.istore 6, 2) := by decide +kernel
theorem dX5_kind_213 : decode cX5_kind 213 = .ok (.iload 6, 2) := by decide +kernel
theorem dX5_kind_215 : decode cX5_kind 215 = .ok (.aload_n 0, 1) := by decide +kernel
theorem dX5_kind_216 : decode cX5_kind 216 = .ok (.bipush 67, 2) := by decide +kernel
theorem dX5_kind_218 : decode cX5_kind 218 = .ok (.iconst 0, 1) := by decide +kernel
theorem dX5_kind_219 : decode cX5_kind 219 = .ok (.invokevirtual 93, 3) := by decide +kernel
theorem dX5_kind_222 : decode cX5_kind 222 = .ok (.ifCond .ne 8, 3) := by decide +kernel
theorem dX5_kind_225 : decode cX5_kind 225 = .ok (.bipush 32, 2) := by decide +kernel
theorem dX5_kind_227 : decode cX5_kind 227 = .ok (.goto 4, 3) := by decide +kernel
theorem dX5_kind_230 : decode cX5_kind 230 = .ok (.iconst 0, 1) := by decide +kernel
theorem dX5_kind_231 : decode cX5_kind 231 = .ok (.iadd, 1) := by decide +kernel
theorem dX5_kind_232 : decode cX5_kind 232 = .ok (.ireturn, 1) := by decide +kernel
theorem hd_X5_kind : yX5_kind.cls ≠ "java/lang/invoke/MethodHandle" ∧ yX5_kind.cls ≠ "java/lang/invoke/VarHandle" ∧ (parseMethodDescriptor yX5_kind.desc).map (fun d => d.parameters.length) = some 1 := by decide +kernel
set_option maxHeartbeats 4000000 in
set_option maxRecDepth 100000 in
/-- kind -/
theorem c_X5_kind (l : Launch) {D : va_G} {cI cJ : ClassId} {A : Nat → Prop} {hm b0 b1 b2 b3 : Nat} {th mk sz : Int32} {F mv kp li : Nat → Int32} (bd : Nat → Nat) (sd rt ps : Nat) (hBd : Bd F 0 bd sd rt ps) (hLA : LenOK) (x : Int32) : Met l yX5_kind (Cond.code yX5_kind cX5_kind 7 (some .int) :: wsL_law) (rK 9) (va_Pc [.ref hm, .int x] (IW D cI cJ A (rW cI hm b0 b1 b2 b3 th mk sz F mv kp li))) (va_Qi (fun r u => (kdc bd sd rt ps x = 0 → ∃ f t k, f < 64 ∧ t < 64 ∧ k < 6 ∧ x = nI (f + 64 * t + 4096 * k) ∧ lgl bd sd rt ps f t k = true ∧ r = nI (knd bd sd rt ps f t k)) ∧ Bd u.1 0 bd sd rt ps) (fun (u : (Nat → Int32) × (Nat → Int32)) t => IW D cI cJ A (rW cI hm b0 b1 b2 b3 (nI (kdc bd sd rt ps x)) mk (nI (szN bd sd rt ps)) u.1 mv kp u.2) t) A) 0 0 A := by
  refine entM (by decide) (Nat.le_of_ble_eq_true rfl) ?_
  intro p e s m below meth c ls S0 hr hlocks hG hnm hB hl
  have hx := S0.1
  have hb := S0.2.1
  have hown := S0.2.2.2.1
  have hl : lv_has ls 7 [(0, .ref hm), (1, .int x)] := hl
  obtain ⟨hP, hD, hK, hA, hE⟩ := hB
  have hS : va_S A s.heap s.heap [] := va_S.rf
  obtain ⟨hBp, hsd, hs2, hrt, hr16, hps, hp65⟩ := id hBd
  have hnd : ndN bd sd < 2 := by unfold ndN; split <;> omega
  have hLen : plb bd sd = true → (legs bd sd rt ps).length ≤ 1024 := fun _ => hLA.le hBd
  have hszl : szN bd sd rt ps ≤ 1024 := by unfold szN; split; exact hLA.le hBd; exact Nat.zero_le _
  have hlgl : (lgs bd sd rt ps).length ≤ 1024 := by rw [← szN_eq]; exact hszl
  refine lv_aload_n hx hb dX5_kind_0 rfl (lv_at hl 0 rfl) ?_
  refine lv_aload_n hx hb dX5_kind_1 rfl (lv_at hl 0 rfl) ?_
  refine chI (rnV (As := []) (rest := [.ref hm]) S0 (c_X5_need l bd sd rt ps hBd hLen) wm_X5_99 wi_X5_need ws_X5_need wn_X5 wc_X5_need hd_X5_need ⟨rfl, rfl, by decide, by decide⟩ IW.blind (va_recv hK hP (ci := 4) (q0 := 0) rfl rfl) (IW.at hP hD hK hA hE hS) hl.1 (Nat.le_of_ble_eq_true rfl) dX5_kind_2 rfl ⟨by decide, by decide⟩) hS (fun r_1 u1 H locs hu hP hD hS => ?_)
  obtain ⟨he9, hA9, hL9⟩ := hu
  subst he9
  have hP : va_P D classes (rW cI hm b0 b1 b2 b3 th mk (nI (szN bd sd rt ps)) u1.1 mv kp u1.2) H := hP
  have hD : va_D A (rW cI hm b0 b1 b2 b3 th mk (nI (szN bd sd rt ps)) u1.1 mv kp u1.2) := hD
  have hB8 := hA9.Bd (b := 0) (by decide) hBd
  refine va_put (D := D) (ci := 4) (v := .int (nI (ndN bd sd))) (ty := .int) (C := RX5) (T := TX5) (N := 7) hx hb hG wu_X5 tyX5 tyX5_ok nmX5 hown hK hP hD hS 0 rfl rfl 0 (by decide) (hG _ wf_X5_22) (fun _ h9 => h9) rfl (by decide +kernel) rfl rfl (Nat.le_of_ble_eq_true rfl) dX5_kind_5 (fun H locs hP hD hS => ?_)
  have hP : va_P D classes (rW cI hm b0 b1 b2 b3 (nI (ndN bd sd)) mk (nI (szN bd sd rt ps)) u1.1 mv kp u1.2) H := hP
  have hD : va_D A (rW cI hm b0 b1 b2 b3 (nI (ndN bd sd)) mk (nI (szN bd sd rt ps)) u1.1 mv kp u1.2) := hD
  refine lv_aload_n hx hb dX5_kind_8 rfl (lv_at hl 0 rfl) ?_
  refine lv_aload_n hx hb dX5_kind_9 rfl (lv_at hl 0 rfl) ?_
  refine va_get (D := D) (ci := 4) (v := .int (nI (ndN bd sd))) (C := RX5) (T := TX5) (N := 7) hx hb hG wu_X5 hown hK hP 0 rfl rfl 0 (by decide) (hG _ wf_X5_22) (fun _ h9 => h9) rfl dX5_kind_10 ?_
  refine jnG 32 7 [(0, .ref hm), (1, .int x)] [.int (nI (kdc bd sd rt ps x)), .ref hm] ?_ (fun hj_32 => ?_)
  · intro ls hl
    refine va_put (D := D) (ci := 4) (v := .int (nI (kdc bd sd rt ps x))) (ty := .int) (C := RX5) (T := TX5) (N := 7) hx hb hG wu_X5 tyX5 tyX5_ok nmX5 hown hK hP hD hS 0 rfl rfl 0 (by decide) (hG _ wf_X5_22) (fun _ h9 => h9) rfl (by decide +kernel) rfl rfl (Nat.le_of_ble_eq_true rfl) dX5_kind_32 (fun H locs hP hD hS => ?_)
    have hP : va_P D classes (rW cI hm b0 b1 b2 b3 (nI (kdc bd sd rt ps x)) mk (nI (szN bd sd rt ps)) u1.1 mv kp u1.2) H := hP
    have hD : va_D A (rW cI hm b0 b1 b2 b3 (nI (kdc bd sd rt ps x)) mk (nI (szN bd sd rt ps)) u1.1 mv kp u1.2) := hD
    have hkc : kdc bd sd rt ps x < 3 := by unfold kdc; (repeat' split) <;> omega
    refine lv_aload_n hx hb dX5_kind_35 rfl (lv_at hl 0 rfl) ?_
    refine va_get (D := D) (ci := 4) (v := .int (nI (kdc bd sd rt ps x))) (C := RX5) (T := TX5) (N := 7) hx hb hG wu_X5 hown hK hP 0 rfl rfl 0 (by decide) (hG _ wf_X5_22) (fun _ h9 => h9) rfl dX5_kind_36 ?_
    refine ln_if_le (tgt := 44) hx hb dX5_kind_39 (by decide) (by omega) (fun c39 => ?_) (fun c39 => ?_)
    · skip
      obtain ⟨hpl, hge⟩ := kdc_0 c39
      obtain ⟨f, t, k, hf, ht, hk, hx9, hlg⟩ := isl_of hpl hlgl hge
      have hkg : ∀ w, w < 2 → kgs bd w < 64 := fun w hw => plb_k hw hpl
      have hgo := (pre_go (lgl_pre hlg).1).1
      obtain ⟨hvf, hfb⟩ := hB8.1 f hf
      rw [Nat.zero_add] at hvf
      obtain ⟨hvt, htb⟩ := hB8.1 t ht
      rw [Nat.zero_add] at hvt
      have hkf := kd_lt hfb
      have hap1 : ap (f % 8) (t % 8) < 8 := ap_lt (by omega) (by omega)
      refine lv_iload_n hx hb dX5_kind_44 rfl (lv_at hl 1 rfl) ?_
      refine W.top (y := .int (nI (f + 64 * t + 4096 * k))) (congrArg Value.int hx9) ?_
      refine lv_bipush (v := (nI 64)) hx hb dX5_kind_45 (by decide) ?_
      refine ln_irem hx hb dX5_kind_47 (by omega) (by decide) (by decide) ?_
      refine W.top (y := .int (nI f)) (congrArg Value.int (congrArg nI (by omega))) ?_
      refine lv_istore_n (lv' := [(2, .int (nI f)), (0, .ref hm), (1, .int x)]) hx hb dX5_kind_48 rfl hl (by decide) rfl (fun ls hl => ?_)
      refine lv_iload_n hx hb dX5_kind_49 rfl (lv_at hl 2 rfl) ?_
      refine W.top (y := .int (nI (f + 64 * t + 4096 * k))) (congrArg Value.int hx9) ?_
      refine lv_bipush (v := (nI 64)) hx hb dX5_kind_50 (by decide) ?_
      refine ln_idiv hx hb dX5_kind_52 (by omega) (by decide) (by decide) ?_
      refine lv_bipush (v := (nI 64)) hx hb dX5_kind_53 (by decide) ?_
      refine ln_irem hx hb dX5_kind_55 (by omega) (by decide) (by decide) ?_
      refine W.top (y := .int (nI t)) (congrArg Value.int (congrArg nI (by omega))) ?_
      refine lv_istore_n (lv' := [(3, .int (nI t)), (2, .int (nI f)), (0, .ref hm), (1, .int x)]) hx hb dX5_kind_56 rfl hl (by decide) rfl (fun ls hl => ?_)
      refine lv_aload_n hx hb dX5_kind_57 rfl (lv_at hl 2 rfl) ?_
      refine va_get (D := D) (ci := 4) (v := .ref b0) (C := RX5) (T := TX5) (N := 7) hx hb hG wu_X5 hown hK hP 0 rfl rfl 1 (by decide) (hG _ wf_X5_7) (fun _ h9 => h9) rfl dX5_kind_58 ?_
      refine lv_iload_n hx hb dX5_kind_61 rfl (lv_at hl 1 rfl) ?_
      refine va_iald hx hb hK hP 1 0 rfl rfl (vp_in_nI (by omega) (by decide)) dX5_kind_62 ?_
      refine W.top (y := .int (u1.1 f)) (congrArg (fun z => Value.int (u1.1 z)) (nI_clamp (by omega))) ?_
      refine W.top (y := .int (nI (bd f))) (congrArg Value.int hvf) ?_
      refine roI (rnS (As := [.int (nI (bd f))]) (rest := []) S0 (c_X5_kindOf l (bd f) (by omega)) wm_X5_40 wt_X5_kindOf wn_X5 wc_X5_kindOf hd_X5_kindOf ⟨rfl, rfl, by decide, by decide⟩ True.blind (fun _ _ _ => trivial) hl.1 (Nat.le_of_ble_eq_true rfl) dX5_kind_63 rfl ⟨by decide, by decide⟩) (fun r_2 hr_2 => ?_)
      subst hr_2
      refine lv_istore (lv' := [(4, .int (nI (kd (bd f)))), (3, .int (nI t)), (2, .int (nI f)), (0, .ref hm), (1, .int x)]) hx hb dX5_kind_66 hl (by decide) rfl (fun ls hl => ?_)
      refine lv_iload hx hb dX5_kind_68 (lv_at hl 0 rfl) ?_
      refine lv_iconst (v := (nI 1)) hx hb dX5_kind_70 (by decide) ?_
      refine jnG 89 7 [(4, .int (nI (kd (bd f)))), (3, .int (nI t)), (2, .int (nI f)), (0, .ref hm), (1, .int x)] [.int (bI (inp bd sd ps f t))] ?_ (fun hj_89 => ?_)
      · intro ls hl
        refine lv_istore (lv' := [(5, .int (bI (inp bd sd ps f t))), (4, .int (nI (kd (bd f)))), (3, .int (nI t)), (2, .int (nI f)), (0, .ref hm), (1, .int x)]) hx hb dX5_kind_89 hl (by decide) rfl (fun ls hl => ?_)
        refine lv_aload_n hx hb dX5_kind_91 rfl (lv_at hl 4 rfl) ?_
        refine va_get (D := D) (ci := 4) (v := .ref b0) (C := RX5) (T := TX5) (N := 7) hx hb hG wu_X5 hown hK hP 0 rfl rfl 1 (by decide) (hG _ wf_X5_7) (fun _ h9 => h9) rfl dX5_kind_92 ?_
        refine lv_iload_n hx hb dX5_kind_95 rfl (lv_at hl 2 rfl) ?_
        refine va_iald hx hb hK hP 1 0 rfl rfl (vp_in_nI (by omega) (by decide)) dX5_kind_96 ?_
        refine W.top (y := .int (u1.1 t)) (congrArg (fun z => Value.int (u1.1 z)) (nI_clamp (by omega))) ?_
        refine W.top (y := .int (nI (bd t))) (congrArg Value.int hvt) ?_
        refine jnG 110 7 [(5, .int (bI (inp bd sd ps f t))), (4, .int (nI (kd (bd f)))), (3, .int (nI t)), (2, .int (nI f)), (0, .ref hm), (1, .int x)] [.int (nI (if ¬ bd t = 0 ∨ inp bd sd ps f t = true then 1 else 0))] ?_ (fun hj_110 => ?_)
        · intro ls hl
          refine lv_istore (lv' := [(6, .int (nI (if ¬ bd t = 0 ∨ inp bd sd ps f t = true then 1 else 0))), (5, .int (bI (inp bd sd ps f t))), (4, .int (nI (kd (bd f)))), (3, .int (nI t)), (2, .int (nI f)), (0, .ref hm), (1, .int x)]) hx hb dX5_kind_110 hl (by decide) rfl (fun ls hl => ?_)
          refine lv_iload hx hb dX5_kind_112 (lv_at hl 0 rfl) ?_
          refine lv_iload hx hb dX5_kind_114 (lv_at hl 1 rfl) ?_
          refine jnG 124 7 [(6, .int (nI (if ¬ bd t = 0 ∨ inp bd sd ps f t = true then 1 else 0))), (5, .int (bI (inp bd sd ps f t))), (4, .int (nI (kd (bd f)))), (3, .int (nI t)), (2, .int (nI f)), (0, .ref hm), (1, .int x)] [.int (nI (if inp bd sd ps f t = true then 2 else 0)), .int (nI (if ¬ bd t = 0 ∨ inp bd sd ps f t = true then 1 else 0))] ?_ (fun hj_124 => ?_)
          · intro ls hl
            refine ln_iadd hx hb dX5_kind_124 ?_
            refine lv_istore (lv' := [(6, .int (nI ((if ¬ bd t = 0 ∨ inp bd sd ps f t = true then 1 else 0) + (if inp bd sd ps f t = true then 2 else 0)))), (5, .int (bI (inp bd sd ps f t))), (4, .int (nI (kd (bd f)))), (3, .int (nI t)), (2, .int (nI f)), (0, .ref hm), (1, .int x)]) hx hb dX5_kind_125 hl (by decide) rfl (fun ls hl => ?_)
            refine lv_iload hx hb dX5_kind_127 (lv_at hl 0 rfl) ?_
            refine lv_iload hx hb dX5_kind_129 (lv_at hl 2 rfl) ?_
            refine lv_bipush (v := (nI 6)) hx hb dX5_kind_131 (by decide) ?_
            refine jnG 156 7 [(6, .int (nI ((if ¬ bd t = 0 ∨ inp bd sd ps f t = true then 1 else 0) + (if inp bd sd ps f t = true then 2 else 0)))), (5, .int (bI (inp bd sd ps f t))), (4, .int (nI (kd (bd f)))), (3, .int (nI t)), (2, .int (nI f)), (0, .ref hm), (1, .int x)] [.int (nI (if ctl bd f t = true then 4 else 0)), .int (nI ((if ¬ bd t = 0 ∨ inp bd sd ps f t = true then 1 else 0) + (if inp bd sd ps f t = true then 2 else 0)))] ?_ (fun hj_156 => ?_)
            · intro ls hl
              refine ln_iadd hx hb dX5_kind_156 ?_
              refine lv_istore (lv' := [(6, .int (nI (((if ¬ bd t = 0 ∨ inp bd sd ps f t = true then 1 else 0) + (if inp bd sd ps f t = true then 2 else 0)) + (if ctl bd f t = true then 4 else 0)))), (5, .int (bI (inp bd sd ps f t))), (4, .int (nI (kd (bd f)))), (3, .int (nI t)), (2, .int (nI f)), (0, .ref hm), (1, .int x)]) hx hb dX5_kind_157 hl (by decide) rfl (fun ls hl => ?_)
              refine lv_iload hx hb dX5_kind_159 (lv_at hl 0 rfl) ?_
              refine lv_iload_n hx hb dX5_kind_161 rfl (lv_at hl 6 rfl) ?_
              refine W.top (y := .int (nI (f + 64 * t + 4096 * k))) (congrArg Value.int hx9) ?_
              refine lv_sipush (v := (nI 4096)) hx hb dX5_kind_162 (by decide) ?_
              refine jnG 174 7 [(6, .int (nI (((if ¬ bd t = 0 ∨ inp bd sd ps f t = true then 1 else 0) + (if inp bd sd ps f t = true then 2 else 0)) + (if ctl bd f t = true then 4 else 0)))), (5, .int (bI (inp bd sd ps f t))), (4, .int (nI (kd (bd f)))), (3, .int (nI t)), (2, .int (nI f)), (0, .ref hm), (1, .int x)] [.int (nI (if k = 0 then 0 else 8)), .int (nI (((if ¬ bd t = 0 ∨ inp bd sd ps f t = true then 1 else 0) + (if inp bd sd ps f t = true then 2 else 0)) + (if ctl bd f t = true then 4 else 0)))] ?_ (fun hj_174 => ?_)
              · intro ls hl
                refine ln_iadd hx hb dX5_kind_174 ?_
                refine lv_istore (lv' := [(6, .int (nI ((((if ¬ bd t = 0 ∨ inp bd sd ps f t = true then 1 else 0) + (if inp bd sd ps f t = true then 2 else 0)) + (if ctl bd f t = true then 4 else 0)) + (if k = 0 then 0 else 8)))), (5, .int (bI (inp bd sd ps f t))), (4, .int (nI (kd (bd f)))), (3, .int (nI t)), (2, .int (nI f)), (0, .ref hm), (1, .int x)]) hx hb dX5_kind_175 hl (by decide) rfl (fun ls hl => ?_)
                refine lv_aload_n hx hb dX5_kind_177 rfl (lv_at hl 5 rfl) ?_
                refine lv_iconst (v := (nI 0)) hx hb dX5_kind_178 (by decide) ?_
                refine lv_bipush (v := (nI 67)) hx hb dX5_kind_179 (by decide) ?_
                refine lv_iload_n hx hb dX5_kind_181 rfl (lv_at hl 6 rfl) ?_
                refine W.top (y := .int (nI (f + 64 * t + 4096 * k))) (congrArg Value.int hx9) ?_
                refine chV (rnV (As := [.int (nI 0), .int (nI 67), .int (nI (f + 64 * t + 4096 * k))]) (rest := []) S0 (c_X5_behind l bd sd rt ps 0 67 f t k (by decide) (by decide) hf ht hk hgo hB8) wm_X5_86 wi_X5_behind ws_X5_behind wn_X5 wc_X5_behind hd_X5_behind ⟨rfl, rfl, by decide, by decide⟩ IW.blind (va_recv hK hP (ci := 4) (q0 := 0) rfl rfl) (IW.at hP hD hK hA hE hS) hl.1 (Nat.le_of_ble_eq_true rfl) dX5_kind_182 rfl ⟨by decide, by decide⟩) hS (fun u2 H locs hu hP hD hS => ?_)
                obtain ⟨hBn, hAn⟩ := hu
                have hP : va_P D classes (rW cI hm b0 b1 b2 b3 (nI (kdc bd sd rt ps x)) mk (nI (szN bd sd rt ps)) u2 mv kp u1.2) H := hP
                have hD : va_D A (rW cI hm b0 b1 b2 b3 (nI (kdc bd sd rt ps x)) mk (nI (szN bd sd rt ps)) u2 mv kp u1.2) := hD
                refine lv_iload hx hb dX5_kind_185 (lv_at hl 0 rfl) ?_
                refine lv_aload_n hx hb dX5_kind_187 rfl (lv_at hl 5 rfl) ?_
                refine lv_bipush (v := (nI 67)) hx hb dX5_kind_188 (by decide) ?_
                refine lv_aload_n hx hb dX5_kind_190 rfl (lv_at hl 5 rfl) ?_
                refine va_get (D := D) (ci := 4) (v := .ref b0) (C := RX5) (T := TX5) (N := 7) hx hb hG wu_X5 hown hK hP 0 rfl rfl 1 (by decide) (hG _ wf_X5_7) (fun _ h9 => h9) rfl dX5_kind_191 ?_
                refine lv_sipush (v := (nI 131)) hx hb dX5_kind_194 (by decide) ?_
                refine va_iald hx hb hK hP 1 0 rfl rfl (vp_in_nI (by decide) (by decide)) dX5_kind_197 ?_
                refine W.top (y := .int (u2 131)) (congrArg (fun z => Value.int (u2 z)) (nI_clamp (by decide))) ?_
                refine W.top (y := .int (nI (1 - sd))) (congrArg Value.int hBn.2.1) ?_
                refine roI (rnV (As := [.int (nI 67), .int (nI (1 - sd))]) (rest := [.int (nI ((((if ¬ bd t = 0 ∨ inp bd sd ps f t = true then 1 else 0) + (if inp bd sd ps f t = true then 2 else 0)) + (if ctl bd f t = true then 4 else 0)) + (if k = 0 then 0 else 8)))]) S0 (c_X5_isChecked l (bhB bd sd ps f t k) 67 (1 - sd) (by decide) (by omega) hBn.1 (lgl_kg hBd.lt hs2 (by omega) hf ht hk hlg (hkg _ (by omega)))) wm_X5_63 wi_X5_isChecked ws_X5_isChecked wn_X5 wc_X5_isChecked hd_X5_isChecked ⟨rfl, rfl, by decide, by decide⟩ IW.blind (va_recv hK hP (ci := 4) (q0 := 0) rfl rfl) (IW.at hP hD hK hA hE hS) hl.1 (Nat.le_of_ble_eq_true rfl) dX5_kind_198 rfl ⟨by decide, by decide⟩) (fun r_4 hr_4 => ?_)
                subst hr_4
                refine jnG 210 7 [(6, .int (nI ((((if ¬ bd t = 0 ∨ inp bd sd ps f t = true then 1 else 0) + (if inp bd sd ps f t = true then 2 else 0)) + (if ctl bd f t = true then 4 else 0)) + (if k = 0 then 0 else 8)))), (5, .int (bI (inp bd sd ps f t))), (4, .int (nI (kd (bd f)))), (3, .int (nI t)), (2, .int (nI f)), (0, .ref hm), (1, .int x)] [.int (nI (if isA (bhB bd sd ps f t k) (kgs (bhB bd sd ps f t k) (1 - sd)) (1 - (1 - sd)) = true then 16 else 0)), .int (nI ((((if ¬ bd t = 0 ∨ inp bd sd ps f t = true then 1 else 0) + (if inp bd sd ps f t = true then 2 else 0)) + (if ctl bd f t = true then 4 else 0)) + (if k = 0 then 0 else 8)))] ?_ (fun hj_210 => ?_)
                · intro ls hl
                  refine ln_iadd hx hb dX5_kind_210 ?_
                  refine lv_istore (lv' := [(6, .int (nI (((((if ¬ bd t = 0 ∨ inp bd sd ps f t = true then 1 else 0) + (if inp bd sd ps f t = true then 2 else 0)) + (if ctl bd f t = true then 4 else 0)) + (if k = 0 then 0 else 8)) + (if isA (bhB bd sd ps f t k) (kgs (bhB bd sd ps f t k) (1 - sd)) (1 - (1 - sd)) = true then 16 else 0)))), (5, .int (bI (inp bd sd ps f t))), (4, .int (nI (kd (bd f)))), (3, .int (nI t)), (2, .int (nI f)), (0, .ref hm), (1, .int x)]) hx hb dX5_kind_211 hl (by decide) rfl (fun ls hl => ?_)
                  refine lv_iload hx hb dX5_kind_213 (lv_at hl 0 rfl) ?_
                  refine lv_aload_n hx hb dX5_kind_215 rfl (lv_at hl 5 rfl) ?_
                  refine lv_bipush (v := (nI 67)) hx hb dX5_kind_216 (by decide) ?_
                  refine lv_iconst (v := (nI 0)) hx hb dX5_kind_218 (by decide) ?_
                  refine chI (rnV (As := [.int (nI 67), .int (nI 0)]) (rest := [.int (nI (((((if ¬ bd t = 0 ∨ inp bd sd ps f t = true then 1 else 0) + (if inp bd sd ps f t = true then 2 else 0)) + (if ctl bd f t = true then 4 else 0)) + (if k = 0 then 0 else 8)) + (if isA (bhB bd sd ps f t k) (kgs (bhB bd sd ps f t k) (1 - sd)) (1 - (1 - sd)) = true then 16 else 0)))]) S0 (c_X5_listed l (bhB bd sd ps f t k) (1 - sd) (bhR bd sd rt f t) (bhP bd sd ps f t k) 67 (by decide) hBn (lgl_kg hBd.lt hs2 (by omega) hf ht hk hlg (hkg _ (by omega))) (hLA.le hBn)) wm_X5_93 wi_X5_listed ws_X5_listed wn_X5 wc_X5_listed hd_X5_listed ⟨rfl, rfl, by decide, by decide⟩ IW.blind (va_recv hK hP (ci := 4) (q0 := 0) rfl rfl) (IW.at hP hD hK hA hE hS) hl.1 (Nat.le_of_ble_eq_true rfl) dX5_kind_219 rfl ⟨by decide, by decide⟩) hS (fun r_5 u3 H locs hu hP hD hS => ?_)
                  obtain ⟨he9, hA9, hL9⟩ := hu
                  subst he9
                  have hP : va_P D classes (rW cI hm b0 b1 b2 b3 (nI (kdc bd sd rt ps x)) mk (nI (szN bd sd rt ps)) u3.1 mv kp u3.2) H := hP
                  have hD : va_D A (rW cI hm b0 b1 b2 b3 (nI (kdc bd sd rt ps x)) mk (nI (szN bd sd rt ps)) u3.1 mv kp u3.2) := hD
                  have hl7 := hLA.le hBn
                  refine jnG 231 7 [(6, .int (nI (((((if ¬ bd t = 0 ∨ inp bd sd ps f t = true then 1 else 0) + (if inp bd sd ps f t = true then 2 else 0)) + (if ctl bd f t = true then 4 else 0)) + (if k = 0 then 0 else 8)) + (if isA (bhB bd sd ps f t k) (kgs (bhB bd sd ps f t k) (1 - sd)) (1 - (1 - sd)) = true then 16 else 0)))), (5, .int (bI (inp bd sd ps f t))), (4, .int (nI (kd (bd f)))), (3, .int (nI t)), (2, .int (nI f)), (0, .ref hm), (1, .int x)] [.int (nI (if (legs (bhB bd sd ps f t k) (1 - sd) (bhR bd sd rt f t) (bhP bd sd ps f t k)).length = 0 then 32 else 0)), .int (nI (((((if ¬ bd t = 0 ∨ inp bd sd ps f t = true then 1 else 0) + (if inp bd sd ps f t = true then 2 else 0)) + (if ctl bd f t = true then 4 else 0)) + (if k = 0 then 0 else 8)) + (if isA (bhB bd sd ps f t k) (kgs (bhB bd sd ps f t k) (1 - sd)) (1 - (1 - sd)) = true then 16 else 0)))] ?_ (fun hj_231 => ?_)
                  · intro ls hl
                    refine ln_iadd hx hb dX5_kind_231 ?_
                    exact weI ((u3.1, u3.2)) hx hb hr hlocks dX5_kind_232 ⟨fun _ => ⟨f, t, k, hf, ht, hk, hx9, hlg, rfl⟩, Bd_cp hB8 (fun j hj => by rw [Nat.zero_add]; exact (hA9 j (by omega)).trans (hAn j (by omega)))⟩ hP hD hK hA hE hS
                  · skip
                    refine ln_if_ne (tgt := 230) hx hb dX5_kind_222 (by decide) (by omega) (fun c222 => ?_) (fun c222 => ?_)
                    · skip
                      refine lv_iconst (v := (nI 0)) hx hb dX5_kind_230 (by decide) ?_
                      refine W.top (y := .int (nI (if (legs (bhB bd sd ps f t k) (1 - sd) (bhR bd sd rt f t) (bhP bd sd ps f t k)).length = 0 then 32 else 0))) (congrArg Value.int (congrArg nI (by first | rw [if_pos c222] | rw [if_neg c222]))) ?_
                      exact hj_231 ls (lv_sub hl [0, 1, 2, 3, 4, 5, 6] rfl)
                    · skip
                      refine lv_bipush (v := (nI 32)) hx hb dX5_kind_225 (by decide) ?_
                      refine lv_goto (tgt := 231) hx hb dX5_kind_227 (by decide) ?_
                      refine W.top (y := .int (nI (if (legs (bhB bd sd ps f t k) (1 - sd) (bhR bd sd rt f t) (bhP bd sd ps f t k)).length = 0 then 32 else 0))) (congrArg Value.int (congrArg nI (by first | rw [if_pos c222] | rw [if_neg c222]))) ?_
                      exact hj_231 ls (lv_sub hl [0, 1, 2, 3, 4, 5, 6] rfl)
                · skip
                  refine lb_if_eq (tgt := 209) hx hb dX5_kind_201 (by decide) (fun c201 => ?_) (fun c201 => ?_)
                  · skip
                    refine lv_iconst (v := (nI 0)) hx hb dX5_kind_209 (by decide) ?_
                    refine W.top (y := .int (nI (if isA (bhB bd sd ps f t k) (kgs (bhB bd sd ps f t k) (1 - sd)) (1 - (1 - sd)) = true then 16 else 0))) (congrArg Value.int (congrArg nI (by first | rw [if_pos c201] | (rw [c201]; rfl)))) ?_
                    exact hj_210 ls (lv_sub hl [0, 1, 2, 3, 4, 5, 6] rfl)
                  · skip
                    refine lv_bipush (v := (nI 16)) hx hb dX5_kind_204 (by decide) ?_
                    refine lv_goto (tgt := 210) hx hb dX5_kind_206 (by decide) ?_
                    refine W.top (y := .int (nI (if isA (bhB bd sd ps f t k) (kgs (bhB bd sd ps f t k) (1 - sd)) (1 - (1 - sd)) = true then 16 else 0))) (congrArg Value.int (congrArg nI (by first | rw [if_pos c201] | (rw [c201]; rfl)))) ?_
                    exact hj_210 ls (lv_sub hl [0, 1, 2, 3, 4, 5, 6] rfl)
              · skip
                refine ln_icmp_lt (tgt := 173) hx hb dX5_kind_165 (by decide) (by omega) (by decide) (fun c165 => ?_) (fun c165 => ?_)
                · skip
                  refine lv_iconst (v := (nI 0)) hx hb dX5_kind_173 (by decide) ?_
                  refine W.top (y := .int (nI (if k = 0 then 0 else 8))) (congrArg Value.int (congrArg nI (by first | rw [if_pos (show k = 0 by omega)] | rw [if_neg (show ¬ k = 0 by omega)]))) ?_
                  exact hj_174 ls (lv_sub hl [0, 1, 2, 3, 4, 5, 6] rfl)
                · skip
                  refine lv_bipush (v := (nI 8)) hx hb dX5_kind_168 (by decide) ?_
                  refine lv_goto (tgt := 174) hx hb dX5_kind_170 (by decide) ?_
                  refine W.top (y := .int (nI (if k = 0 then 0 else 8))) (congrArg Value.int (congrArg nI (by first | rw [if_pos (show k = 0 by omega)] | rw [if_neg (show ¬ k = 0 by omega)]))) ?_
                  exact hj_174 ls (lv_sub hl [0, 1, 2, 3, 4, 5, 6] rfl)
            · skip
              refine ln_icmp_ne (tgt := 155) hx hb dX5_kind_133 (by decide) (by omega) (by decide) (fun c133 => ?_) (fun c133 => ?_)
              · skip
                refine lv_iconst (v := (nI 0)) hx hb dX5_kind_155 (by decide) ?_
                refine W.top (y := .int (nI (if ctl bd f t = true then 4 else 0))) (congrArg Value.int (congrArg nI (by unfold ctl; first | (rw [decide_eq_true c133, decide_eq_true c148]; rfl) | (rw [decide_eq_true c133, decide_eq_false c148]; rfl) | (rw [decide_eq_false c133]; rfl)))) ?_
                exact hj_156 ls (lv_sub hl [0, 1, 2, 3, 4, 5, 6] rfl)
              · skip
                refine lv_iload_n hx hb dX5_kind_136 rfl (lv_at hl 4 rfl) ?_
                refine lv_bipush (v := (nI 8)) hx hb dX5_kind_137 (by decide) ?_
                refine ln_irem hx hb dX5_kind_139 (by omega) (by decide) (by decide) ?_
                refine lv_iload_n hx hb dX5_kind_140 rfl (lv_at hl 3 rfl) ?_
                refine lv_bipush (v := (nI 8)) hx hb dX5_kind_141 (by decide) ?_
                refine ln_irem hx hb dX5_kind_143 (by omega) (by decide) (by decide) ?_
                refine roI (rnS (As := [.int (nI (f % 8)), .int (nI (t % 8))]) (rest := [.int (nI ((if ¬ bd t = 0 ∨ inp bd sd ps f t = true then 1 else 0) + (if inp bd sd ps f t = true then 2 else 0)))]) S0 (c_X5_apart l (f % 8) (t % 8) (by omega) (by omega)) wm_X5_43 wt_X5_apart wn_X5 wc_X5_apart hd_X5_apart ⟨rfl, rfl, by decide, by decide⟩ True.blind (fun _ _ _ => trivial) hl.1 (Nat.le_of_ble_eq_true rfl) dX5_kind_144 rfl ⟨by decide, by decide⟩) (fun r_6 hr_6 => ?_)
                subst hr_6
                refine lv_iconst (v := (nI 2)) hx hb dX5_kind_147 (by decide) ?_
                refine ln_icmp_ne (tgt := 155) hx hb dX5_kind_148 (by decide) (by omega) (by decide) (fun c148 => ?_) (fun c148 => ?_)
                · skip
                  refine lv_iconst (v := (nI 0)) hx hb dX5_kind_155 (by decide) ?_
                  refine W.top (y := .int (nI (if ctl bd f t = true then 4 else 0))) (congrArg Value.int (congrArg nI (by unfold ctl; first | (rw [decide_eq_true c133, decide_eq_true c148]; rfl) | (rw [decide_eq_true c133, decide_eq_false c148]; rfl) | (rw [decide_eq_false c133]; rfl)))) ?_
                  exact hj_156 ls (lv_sub hl [0, 1, 2, 3, 4, 5, 6] rfl)
                · skip
                  refine lv_iconst (v := (nI 4)) hx hb dX5_kind_151 (by decide) ?_
                  refine lv_goto (tgt := 156) hx hb dX5_kind_152 (by decide) ?_
                  refine W.top (y := .int (nI (if ctl bd f t = true then 4 else 0))) (congrArg Value.int (congrArg nI (by unfold ctl; first | (rw [decide_eq_true c133, decide_eq_true c148]; rfl) | (rw [decide_eq_true c133, decide_eq_false c148]; rfl) | (rw [decide_eq_false c133]; rfl)))) ?_
                  exact hj_156 ls (lv_sub hl [0, 1, 2, 3, 4, 5, 6] rfl)
          · skip
            refine lb_if_eq (tgt := 123) hx hb dX5_kind_116 (by decide) (fun c116 => ?_) (fun c116 => ?_)
            · skip
              refine lv_iconst (v := (nI 0)) hx hb dX5_kind_123 (by decide) ?_
              refine W.top (y := .int (nI (if inp bd sd ps f t = true then 2 else 0))) (congrArg Value.int (congrArg nI (by first | rw [if_pos c116] | rw [if_neg (show ¬ inp bd sd ps f t = true by rw [c116]; decide)]))) ?_
              exact hj_124 ls (lv_sub hl [0, 1, 2, 3, 4, 5, 6] rfl)
            · skip
              refine lv_iconst (v := (nI 2)) hx hb dX5_kind_119 (by decide) ?_
              refine lv_goto (tgt := 124) hx hb dX5_kind_120 (by decide) ?_
              refine W.top (y := .int (nI (if inp bd sd ps f t = true then 2 else 0))) (congrArg Value.int (congrArg nI (by first | rw [if_pos c116] | rw [if_neg (show ¬ inp bd sd ps f t = true by rw [c116]; decide)]))) ?_
              exact hj_124 ls (lv_sub hl [0, 1, 2, 3, 4, 5, 6] rfl)
        · skip
          refine ln_if_gt (tgt := 105) hx hb dX5_kind_97 (by decide) (by omega) (fun c97 => ?_) (fun c97 => ?_)
          · skip
            refine lv_iconst (v := (nI 1)) hx hb dX5_kind_105 (by decide) ?_
            refine lv_goto (tgt := 110) hx hb dX5_kind_106 (by decide) ?_
            refine W.top (y := .int (nI (if ¬ bd t = 0 ∨ inp bd sd ps f t = true then 1 else 0))) (congrArg Value.int (congrArg nI (by first | rw [if_pos (Or.inl c97)] | rw [if_pos (Or.inr c102)] | rw [if_neg hno]))) ?_
            exact hj_110 ls (lv_sub hl [0, 1, 2, 3, 4, 5] rfl)
          · skip
            refine lv_iload hx hb dX5_kind_100 (lv_at hl 0 rfl) ?_
            refine lb_if_eq (tgt := 109) hx hb dX5_kind_102 (by decide) (fun c102 => ?_) (fun c102 => ?_)
            · skip
              have hno : ¬ (¬ bd t = 0 ∨ inp bd sd ps f t = true) := fun z => z.elim (fun w => w c97) (fun w => by rw [c102] at w; exact absurd w (by decide))
              refine lv_iconst (v := (nI 0)) hx hb dX5_kind_109 (by decide) ?_
              refine W.top (y := .int (nI (if ¬ bd t = 0 ∨ inp bd sd ps f t = true then 1 else 0))) (congrArg Value.int (congrArg nI (by first | rw [if_pos (Or.inl c97)] | rw [if_pos (Or.inr c102)] | rw [if_neg hno]))) ?_
              exact hj_110 ls (lv_sub hl [0, 1, 2, 3, 4, 5] rfl)
            · skip
              refine lv_iconst (v := (nI 1)) hx hb dX5_kind_105 (by decide) ?_
              refine lv_goto (tgt := 110) hx hb dX5_kind_106 (by decide) ?_
              refine W.top (y := .int (nI (if ¬ bd t = 0 ∨ inp bd sd ps f t = true then 1 else 0))) (congrArg Value.int (congrArg nI (by first | rw [if_pos (Or.inl c97)] | rw [if_pos (Or.inr c102)] | rw [if_neg hno]))) ?_
              exact hj_110 ls (lv_sub hl [0, 1, 2, 3, 4, 5] rfl)
      · skip
        refine ln_icmp_ne (tgt := 88) hx hb dX5_kind_71 (by decide) (by omega) (by decide) (fun c71 => ?_) (fun c71 => ?_)
        · skip
          refine lv_iconst (v := (nI 0)) hx hb dX5_kind_88 (by decide) ?_
          refine W.top (y := .int (bI (inp bd sd ps f t))) (congrArg Value.int (by unfold inp; first | (rw [decide_eq_true c71, c81]; rfl) | (rw [decide_eq_false c71]; rfl))) ?_
          exact hj_89 ls (lv_sub hl [0, 1, 2, 3, 4] rfl)
        · skip
          refine lv_aload_n hx hb dX5_kind_74 rfl (lv_at hl 3 rfl) ?_
          refine lv_iconst (v := (nI 0)) hx hb dX5_kind_75 (by decide) ?_
          refine lv_iload_n hx hb dX5_kind_76 rfl (lv_at hl 2 rfl) ?_
          refine lv_iload_n hx hb dX5_kind_77 rfl (lv_at hl 1 rfl) ?_
          refine roI (rnV (As := [.int (nI 0), .int (nI f), .int (nI t)]) (rest := []) S0 (c_X5_takesPassing l bd sd rt ps 0 f t (by decide) hf ht hB8) wm_X5_71 wi_X5_takesPassing ws_X5_takesPassing wn_X5 wc_X5_takesPassing hd_X5_takesPassing ⟨rfl, rfl, by decide, by decide⟩ IW.blind (va_recv hK hP (ci := 4) (q0 := 0) rfl rfl) (IW.at hP hD hK hA hE hS) hl.1 (Nat.le_of_ble_eq_true rfl) dX5_kind_78 rfl ⟨by decide, by decide⟩) (fun r_7 hr_7 => ?_)
          subst hr_7
          refine lb_if_eq (tgt := 88) hx hb dX5_kind_81 (by decide) (fun c81 => ?_) (fun c81 => ?_)
          · skip
            refine lv_iconst (v := (nI 0)) hx hb dX5_kind_88 (by decide) ?_
            refine W.top (y := .int (bI (inp bd sd ps f t))) (congrArg Value.int (by unfold inp; first | (rw [decide_eq_true c71, c81]; rfl) | (rw [decide_eq_false c71]; rfl))) ?_
            exact hj_89 ls (lv_sub hl [0, 1, 2, 3, 4] rfl)
          · skip
            refine lv_iconst (v := (nI 1)) hx hb dX5_kind_84 (by decide) ?_
            refine lv_goto (tgt := 89) hx hb dX5_kind_85 (by decide) ?_
            refine W.top (y := .int (bI (inp bd sd ps f t))) (congrArg Value.int (by unfold inp; first | (rw [decide_eq_true c71, c81]; rfl) | (rw [decide_eq_false c71]; rfl))) ?_
            exact hj_89 ls (lv_sub hl [0, 1, 2, 3, 4] rfl)
    · skip
      refine lv_iconst (v := (nI 0)) hx hb dX5_kind_42 (by decide) ?_
      exact weI ((u1.1, u1.2)) hx hb hr hlocks dX5_kind_43 ⟨fun z => absurd z c39, hB8⟩ hP hD hK hA hE hS
  · skip
    refine ln_if_ne (tgt := 28) hx hb dX5_kind_13 (by decide) (by omega) (fun c13 => ?_) (fun c13 => ?_)
    · skip
      refine lv_aload_n hx hb dX5_kind_28 rfl (lv_at hl 0 rfl) ?_
      refine va_get (D := D) (ci := 4) (v := .int (nI (ndN bd sd))) (C := RX5) (T := TX5) (N := 7) hx hb hG wu_X5 hown hK hP 0 rfl rfl 0 (by decide) (hG _ wf_X5_22) (fun _ h9 => h9) rfl dX5_kind_29 ?_
      refine W.top (y := .int (nI (kdc bd sd rt ps x))) (congrArg Value.int (congrArg nI (by unfold kdc; first | rw [if_neg c13] | (rw [if_pos c13, if_pos c21]; exact c13) | rw [if_pos c13, if_neg c21]))) ?_
      exact hj_32 ls (lv_sub hl [0, 1] rfl)
    · skip
      refine lv_aload_n hx hb dX5_kind_16 rfl (lv_at hl 0 rfl) ?_
      refine lv_iload_n hx hb dX5_kind_17 rfl (lv_at hl 1 rfl) ?_
      refine roI (rnV (As := [.int x]) (rest := [.ref hm]) S0 (c_X5_placeOf l x (lgs bd sd rt ps) hL9 (congrArg nI (szN_eq bd sd rt ps)) (by rw [← szN_eq]; exact hszl)) wm_X5_103 wi_X5_placeOf ws_X5_placeOf wn_X5 wc_X5_placeOf hd_X5_placeOf ⟨rfl, rfl, by decide, by decide⟩ IW.blind (va_recv hK hP (ci := 4) (q0 := 0) rfl rfl) (IW.at hP hD hK hA hE hS) hl.1 (Nat.le_of_ble_eq_true rfl) dX5_kind_18 rfl ⟨by decide, by decide⟩) (fun r_8 hr_8 => ?_)
      subst hr_8
      refine lv_if_ge (tgt := 28) hx hb dX5_kind_21 (by decide) (fun c21 => ?_) (fun c21 => ?_)
      · skip
        refine lv_aload_n hx hb dX5_kind_28 rfl (lv_at hl 0 rfl) ?_
        refine va_get (D := D) (ci := 4) (v := .int (nI (ndN bd sd))) (C := RX5) (T := TX5) (N := 7) hx hb hG wu_X5 hown hK hP 0 rfl rfl 0 (by decide) (hG _ wf_X5_22) (fun _ h9 => h9) rfl dX5_kind_29 ?_
        refine W.top (y := .int (nI (kdc bd sd rt ps x))) (congrArg Value.int (congrArg nI (by unfold kdc; first | rw [if_neg c13] | (rw [if_pos c13, if_pos c21]; exact c13) | rw [if_pos c13, if_neg c21]))) ?_
        exact hj_32 ls (lv_sub hl [0, 1] rfl)
      · skip
        refine lv_iconst (v := (nI 2)) hx hb dX5_kind_24 (by decide) ?_
        refine lv_goto (tgt := 32) hx hb dX5_kind_25 (by decide) ?_
        refine W.top (y := .int (nI (kdc bd sd rt ps x))) (congrArg Value.int (congrArg nI (by unfold kdc; first | rw [if_neg c13] | (rw [if_pos c13, if_pos c21]; exact c13) | rw [if_pos c13, if_neg c21]))) ?_
        exact hj_32 ls (lv_sub hl [0, 1] rfl)
theorem dX5_lines_0 : decode cX5_lines 0 = .ok (.aload_n 0, 1) := by decide +kernel
theorem dX5_lines_1 : decode cX5_lines 1 = .ok (.aload_n 0, 1) := by decide +kernel
theorem dX5_lines_2 : decode cX5_lines 2 = .ok (.invokevirtual 99, 3) := by decide +kernel
theorem dX5_lines_5 : decode cX5_lines 5 = .ok (.putfield 22, 3) := by decide +kernel
theorem dX5_lines_8 : decode cX5_lines 8 = .ok (.aload_n 0, 1) := by decide +kernel
theorem dX5_lines_9 : decode cX5_lines 9 = .ok (.aload_n 0, 1) := by decide +kernel
theorem dX5_lines_10 : decode cX5_lines 10 = .ok (.getfield 22, 3) := by decide +kernel
theorem dX5_lines_13 : decode cX5_lines 13 = .ok (.ifCond .ne 16, 3) := by decide +kernel
theorem dX5_lines_16 : decode cX5_lines 16 = .ok (.iload_n 1, 1) := by decide +kernel
theorem dX5_lines_17 : decode cX5_lines 17 = .ok (.ifCond .lt 8, 3) := by decide +kernel
theorem dX5_lines_20 : decode cX5_lines 20 = .ok (.iload_n 1, 1) := by decide +kernel
theorem dX5_lines_21 : decode cX5_lines 21 = .ok (.iconst 3, 1) := by decide +kernel
theorem dX5_lines_22 : decode cX5_lines 22 = .ok (.if_icmp .le 7, 3) := by decide +kernel
theorem dX5_lines_25 : decode cX5_lines 25 = .ok (.iconst 2, 1) := by decide +kernel
theorem dX5_lines_26 : decode cX5_lines 26 = .ok (.goto 7, 3) := by decide +kernel
theorem dX5_lines_29 : decode cX5_lines 29 = .ok (.aload_n 0, 1) := by decide +kernel
theorem dX5_lines_30 : decode cX5_lines 30 = .ok (.getfield 22, 3) := by decide +kernel
theorem dX5_lines_33 : decode cX5_lines 33 = .ok (.putfield 22, 3) := by decide +kernel
theorem dX5_lines_36 : decode cX5_lines 36 = .ok (.aload_n 0, 1) := by decide +kernel
theorem dX5_lines_37 : decode cX5_lines 37 = .ok (.getfield 22, 3) := by decide +kernel
theorem dX5_lines_40 : decode cX5_lines 40 = .ok (.ifCond .le 5, 3) := by decide +kernel
theorem dX5_lines_43 : decode cX5_lines 43 = .ok (.lconst 0, 1) := by decide +kernel
theorem dX5_lines_44 : decode cX5_lines 44 = .ok (.lreturn, 1) := by decide +kernel
theorem dX5_lines_45 : decode cX5_lines 45 = .ok (.iload_n 1, 1) := by decide +kernel
theorem dX5_lines_46 : decode cX5_lines 46 = .ok (.iconst 2, 1) := by decide +kernel
theorem dX5_lines_47 : decode cX5_lines 47 = .ok (.if_icmp .ge 17, 3) := by decide +kernel
theorem dX5_lines_50 : decode cX5_lines 50 = .ok (.iload_n 1, 1) := by decide +kernel
theorem dX5_lines_51 : decode cX5_lines 51 = .ok (.ifCond .ne 7, 3) := by decide +kernel
theorem dX5_lines_54 : decode cX5_lines 54 = .ok (.lconst 1, 1) := by decide +kernel
theorem dX5_lines_55 : decode cX5_lines 55 = .ok (.goto 8, 3) := by decide +kernel
theorem dX5_lines_58 : decode cX5_lines 58 = .ok (.aload_n 0, 1) := by decide +kernel
theorem dX5_lines_59 : decode cX5_lines 59 = .ok (.getfield 96, 3) := by decide +kernel
theorem dX5_lines_62 : decode cX5_lines 62 = .ok (.i2l, 1) := by decide +kernel
theorem dX5_lines_63 : decode cX5_lines 63 = .ok (.lreturn, 1) := by decide +kernel
theorem dX5_lines_64 : decode cX5_lines 64 = .ok (.aload_n 0, 1) := by decide +kernel
theorem dX5_lines_65 : decode cX5_lines 65 = .ok (.getfield 96, 3) := by decide +kernel
theorem dX5_lines_68 : decode cX5_lines 68 = .ok (.istore_n 2, 1) := by decide +kernel
theorem dX5_lines_69 : decode cX5_lines 69 = .ok (.lconst 0, 1) := by decide +kernel
theorem dX5_lines_70 : decode cX5_lines 70 = .ok (.lstore_n 3, 1) := by decide +kernel
theorem dX5_lines_71 : decode cX5_lines 71 = .ok (.iconst 0, 1) := by decide +kernel
theorem dX5_lines_72 : decode cX5_lines 72 = .ok (.istore 5, 2) := by decide +kernel
theorem dX5_lines_74 : decode cX5_lines 74 = .ok (.iload 5, 2) := by decide +kernel
theorem dX5_lines_76 : decode cX5_lines 76 = .ok (.iload_n 2, 1) := by decide +kernel
theorem dX5_lines_77 : decode cX5_lines 77 = .ok (.if_icmp .ge 56, 3) := by decide +kernel
theorem dX5_lines_80 : decode cX5_lines 80 = .ok (.aload_n 0, 1) := by decide +kernel
theorem dX5_lines_81 : decode cX5_lines 81 = .ok (.iconst 0, 1) := by decide +kernel
theorem dX5_lines_82 : decode cX5_lines 82 = .ok (.iload 5, 2) := by decide +kernel
theorem dX5_lines_84 : decode cX5_lines 84 = .ok (.invokevirtual 106, 3) := by decide +kernel
theorem dX5_lines_87 : decode cX5_lines 87 = .ok (.istore 6, 2) := by decide +kernel
theorem dX5_lines_89 : decode cX5_lines 89 = .ok (.aload_n 0, 1) := by decide +kernel
theorem dX5_lines_90 : decode cX5_lines 90 = .ok (.iconst 0, 1) := by decide +kernel
theorem dX5_lines_91 : decode cX5_lines 91 = .ok (.bipush 67, 2) := by decide +kernel
theorem dX5_lines_93 : decode cX5_lines 93 = .ok (.iload 6, 2) := by decide +kernel
theorem dX5_lines_95 : decode cX5_lines 95 = .ok (.invokevirtual 86, 3) := by decide +kernel
theorem dX5_lines_98 : decode cX5_lines 98 = .ok (.aload_n 0, 1) := by decide +kernel
theorem dX5_lines_99 : decode cX5_lines 99 = .ok (.bipush 67, 2) := by decide +kernel
theorem dX5_lines_101 : decode cX5_lines 101 = .ok (.iconst 0, 1) := by decide +kernel
theorem dX5_lines_102 : decode cX5_lines 102 = .ok (.invokevirtual 93, 3) := by decide +kernel
theorem dX5_lines_105 : decode cX5_lines 105 = .ok (.istore 7, 2) := by decide +kernel
theorem dX5_lines_107 : decode cX5_lines 107 = .ok (.lload_n 3, 1) := by decide +kernel
theorem dX5_lines_108 : decode cX5_lines 108 = .ok (.iload_n 1, 1) := by decide +kernel
theorem dX5_lines_109 : decode cX5_lines 109 = .ok (.iconst 2, 1) := by decide +kernel
theorem dX5_lines_110 : decode cX5_lines 110 = .ok (.if_icmp .ne 9, 3) := by decide +kernel
theorem dX5_lines_113 : decode cX5_lines 113 = .ok (.iload 7, 2) := by decide +kernel
theorem dX5_lines_115 : decode cX5_lines 115 = .ok (.i2l, 1) := by decide +kernel
theorem dX5_lines_116 : decode cX5_lines 116 = .ok (.goto 9, 3) := by decide +kernel
theorem dX5_lines_119 : decode cX5_lines 119 = .ok (.aload_n 0, 1) := by decide +kernel
theorem dX5_lines_120 : decode cX5_lines 120 = .ok (.iload 7, 2) := by decide +kernel
theorem dX5_lines_122 : decode cX5_lines 122 = .ok (.invokevirtual 109, 3) := by decide +kernel
theorem dX5_lines_125 : decode cX5_lines 125 = .ok (.ladd, 1) := by decide +kernel
theorem dX5_lines_126 : decode cX5_lines 126 = .ok (.lstore_n 3, 1) := by decide +kernel
theorem dX5_lines_127 : decode cX5_lines 127 = .ok (.iinc 5 1, 3) := by decide +kernel
theorem dX5_lines_130 : decode cX5_lines 130 = .ok (.goto (-56), 3) := by decide +kernel
theorem dX5_lines_133 : decode cX5_lines 133 = .ok (.lload_n 3, 1) := by decide +kernel
theorem dX5_lines_134 : decode cX5_lines 134 = .ok (.lreturn, 1) := by decide +kernel
theorem hd_X5_lines : yX5_lines.cls ≠ "java/lang/invoke/MethodHandle" ∧ yX5_lines.cls ≠ "java/lang/invoke/VarHandle" ∧ (parseMethodDescriptor yX5_lines.desc).map (fun d => d.parameters.length) = some 1 := by decide +kernel
set_option maxHeartbeats 4000000 in
set_option maxRecDepth 100000 in
/-- lines -/
theorem c_X5_lines (l : Launch) {D : va_G} {cI cJ : ClassId} {A : Nat → Prop} {hm b0 b1 b2 b3 : Nat} {th mk sz : Int32} {F mv kp li : Nat → Int32} (bd : Nat → Nat) (sd rt ps : Nat) (hBd : Bd F 0 bd sd rt ps) (hLA : LenOK) (x : Int32) : Met l yX5_lines (Cond.code yX5_lines cX5_lines 8 (some .long) :: wsL_law) (rK 9) (va_Pc [.ref hm, .int x] (IW D cI cJ A (rW cI hm b0 b1 b2 b3 th mk sz F mv kp li))) (va_Ql (fun r u => (lnc bd sd x = 0 → ∃ d, d < 4 ∧ x = nI d ∧ r = lN (cnD bd sd rt ps d)) ∧ Bd u.1 0 bd sd rt ps) (fun (u : (Nat → Int32) × (Nat → Int32)) t => IW D cI cJ A (rW cI hm b0 b1 b2 b3 (nI (lnc bd sd x)) mk (nI (szN bd sd rt ps)) u.1 mv kp u.2) t) A) 0 0 A := by
  refine entM (by decide) (Nat.le_of_ble_eq_true rfl) ?_
  intro p e s m below meth c ls S0 hr hlocks hG hnm hB hl
  have hx := S0.1
  have hb := S0.2.1
  have hown := S0.2.2.2.1
  have hl : lv_has ls 8 [(0, .ref hm), (1, .int x)] := hl
  obtain ⟨hP, hD, hK, hA, hE⟩ := hB
  have hS : va_S A s.heap s.heap [] := va_S.rf
  obtain ⟨hBp, hsd, hs2, hrt, hr16, hps, hp65⟩ := id hBd
  have hnd : ndN bd sd < 2 := by unfold ndN; split <;> omega
  have hLen : plb bd sd = true → (legs bd sd rt ps).length ≤ 1024 := fun _ => hLA.le hBd
  have hszl : szN bd sd rt ps ≤ 1024 := by unfold szN; split; exact hLA.le hBd; exact Nat.zero_le _
  have hlgl : (lgs bd sd rt ps).length ≤ 1024 := by rw [← szN_eq]; exact hszl
  refine lv_aload_n hx hb dX5_lines_0 rfl (lv_at hl 0 rfl) ?_
  refine lv_aload_n hx hb dX5_lines_1 rfl (lv_at hl 0 rfl) ?_
  refine chI (rnV (As := []) (rest := [.ref hm]) S0 (c_X5_need l bd sd rt ps hBd hLen) wm_X5_99 wi_X5_need ws_X5_need wn_X5 wc_X5_need hd_X5_need ⟨rfl, rfl, by decide, by decide⟩ IW.blind (va_recv hK hP (ci := 4) (q0 := 0) rfl rfl) (IW.at hP hD hK hA hE hS) hl.1 (Nat.le_of_ble_eq_true rfl) dX5_lines_2 rfl ⟨by decide, by decide⟩) hS (fun r_1 u1 H locs hu hP hD hS => ?_)
  obtain ⟨he9, hA9, hL9⟩ := hu
  subst he9
  have hP : va_P D classes (rW cI hm b0 b1 b2 b3 th mk (nI (szN bd sd rt ps)) u1.1 mv kp u1.2) H := hP
  have hD : va_D A (rW cI hm b0 b1 b2 b3 th mk (nI (szN bd sd rt ps)) u1.1 mv kp u1.2) := hD
  have hB8 := hA9.Bd (b := 0) (by decide) hBd
  refine va_put (D := D) (ci := 4) (v := .int (nI (ndN bd sd))) (ty := .int) (C := RX5) (T := TX5) (N := 7) hx hb hG wu_X5 tyX5 tyX5_ok nmX5 hown hK hP hD hS 0 rfl rfl 0 (by decide) (hG _ wf_X5_22) (fun _ h9 => h9) rfl (by decide +kernel) rfl rfl (Nat.le_of_ble_eq_true rfl) dX5_lines_5 (fun H locs hP hD hS => ?_)
  have hP : va_P D classes (rW cI hm b0 b1 b2 b3 (nI (ndN bd sd)) mk (nI (szN bd sd rt ps)) u1.1 mv kp u1.2) H := hP
  have hD : va_D A (rW cI hm b0 b1 b2 b3 (nI (ndN bd sd)) mk (nI (szN bd sd rt ps)) u1.1 mv kp u1.2) := hD
  refine lv_aload_n hx hb dX5_lines_8 rfl (lv_at hl 0 rfl) ?_
  refine lv_aload_n hx hb dX5_lines_9 rfl (lv_at hl 0 rfl) ?_
  refine va_get (D := D) (ci := 4) (v := .int (nI (ndN bd sd))) (C := RX5) (T := TX5) (N := 7) hx hb hG wu_X5 hown hK hP 0 rfl rfl 0 (by decide) (hG _ wf_X5_22) (fun _ h9 => h9) rfl dX5_lines_10 ?_
  refine jnG 33 8 [(0, .ref hm), (1, .int x)] [.int (nI (lnc bd sd x)), .ref hm] ?_ (fun hj_33 => ?_)
  · intro ls hl
    refine va_put (D := D) (ci := 4) (v := .int (nI (lnc bd sd x))) (ty := .int) (C := RX5) (T := TX5) (N := 7) hx hb hG wu_X5 tyX5 tyX5_ok nmX5 hown hK hP hD hS 0 rfl rfl 0 (by decide) (hG _ wf_X5_22) (fun _ h9 => h9) rfl (by decide +kernel) rfl rfl (Nat.le_of_ble_eq_true rfl) dX5_lines_33 (fun H locs hP hD hS => ?_)
    have hP : va_P D classes (rW cI hm b0 b1 b2 b3 (nI (lnc bd sd x)) mk (nI (szN bd sd rt ps)) u1.1 mv kp u1.2) H := hP
    have hD : va_D A (rW cI hm b0 b1 b2 b3 (nI (lnc bd sd x)) mk (nI (szN bd sd rt ps)) u1.1 mv kp u1.2) := hD
    have hkc : lnc bd sd x < 3 := by unfold lnc; (repeat' split) <;> omega
    refine lv_aload_n hx hb dX5_lines_36 rfl (lv_at hl 0 rfl) ?_
    refine va_get (D := D) (ci := 4) (v := .int (nI (lnc bd sd x))) (C := RX5) (T := TX5) (N := 7) hx hb hG wu_X5 hown hK hP 0 rfl rfl 0 (by decide) (hG _ wf_X5_22) (fun _ h9 => h9) rfl dX5_lines_37 ?_
    refine ln_if_le (tgt := 45) hx hb dX5_lines_40 (by decide) (by omega) (fun c40 => ?_) (fun c40 => ?_)
    · skip
      obtain ⟨hpl, d, hd, hx9⟩ := lnc_0 c40
      have hkg : ∀ w, w < 2 → kgs bd w < 64 := fun w hw => plb_k hw hpl
      have hsz : szN bd sd rt ps = (legs bd sd rt ps).length := by unfold szN; rw [if_pos hpl]
      refine lv_iload_n hx hb dX5_lines_45 rfl (lv_at hl 1 rfl) ?_
      refine W.top (y := .int (nI d)) (congrArg Value.int hx9) ?_
      refine lv_iconst (v := (nI 2)) hx hb dX5_lines_46 (by decide) ?_
      refine ln_icmp_ge (tgt := 64) hx hb dX5_lines_47 (by decide) (by omega) (by decide) (fun c47 => ?_) (fun c47 => ?_)
      · skip
        refine lv_aload_n hx hb dX5_lines_64 rfl (lv_at hl 0 rfl) ?_
        refine va_get (D := D) (ci := 4) (v := .int (nI (szN bd sd rt ps))) (C := RX5) (T := TX5) (N := 7) hx hb hG wu_X5 hown hK hP 0 rfl rfl 5 (by decide) (hG _ wf_X5_96) (fun _ h9 => h9) rfl dX5_lines_65 ?_
        refine W.top (y := .int (nI ((legs bd sd rt ps).length))) (congrArg Value.int (congrArg nI hsz)) ?_
        refine lv_istore_n (lv' := [(2, .int (nI ((legs bd sd rt ps).length))), (0, .ref hm), (1, .int x)]) hx hb dX5_lines_68 rfl hl (by decide) rfl (fun ls hl => ?_)
        refine lv_lconst (v := 0) hx hb dX5_lines_69 (by decide) ?_
        refine W.top (y := .long (lN (smT (legs bd sd rt ps) (fun y => if d = 2 then cn1 (nB bd sd ps y) (1 - sd) (nR bd sd rt y) (nP bd sd ps y) else cn2 (nB bd sd ps y) (1 - sd) (nR bd sd rt y) (nP bd sd ps y)) 0))) (congrArg Value.long rfl) ?_
        refine lv_lstore_n (lv' := [(3, .long (lN (smT (legs bd sd rt ps) (fun y => if d = 2 then cn1 (nB bd sd ps y) (1 - sd) (nR bd sd rt y) (nP bd sd ps y) else cn2 (nB bd sd ps y) (1 - sd) (nR bd sd rt y) (nP bd sd ps y)) 0))), (2, .int (nI ((legs bd sd rt ps).length))), (0, .ref hm), (1, .int x)]) hx hb dX5_lines_70 rfl hl (by decide) rfl (fun ls hl => ?_)
        refine lv_iconst (v := (nI 0)) hx hb dX5_lines_71 (by decide) ?_
        refine lv_istore (lv' := [(5, .int (nI 0)), (3, .long (lN (smT (legs bd sd rt ps) (fun y => if d = 2 then cn1 (nB bd sd ps y) (1 - sd) (nR bd sd rt y) (nP bd sd ps y) else cn2 (nB bd sd ps y) (1 - sd) (nR bd sd rt y) (nP bd sd ps y)) 0))), (2, .int (nI ((legs bd sd rt ps).length))), (0, .ref hm), (1, .int x)]) hx hb dX5_lines_72 hl (by decide) rfl (fun ls hl => ?_)
        refine lpW (σ := (Nat) × (Nat → Int32) × (Nat → Int32)) 74 8 [] (fun x9 => [(0, .ref hm), (1, .int x), (2, .int (nI ((legs bd sd rt ps).length))), (3, .long (lN (smT (legs bd sd rt ps) (fun y => if d = 2 then cn1 (nB bd sd ps y) (1 - sd) (nR bd sd rt y) (nP bd sd ps y) else cn2 (nB bd sd ps y) (1 - sd) (nR bd sd rt y) (nP bd sd ps y)) x9.1))), (5, .int (nI x9.1))]) (fun x9 => rW cI hm b0 b1 b2 b3 (nI (lnc bd sd x)) mk (nI (szN bd sd rt ps)) x9.2.1 mv kp x9.2.2) (fun x9 => x9.1 ≤ (legs bd sd rt ps).length ∧ Bd x9.2.1 0 bd sd rt ps) (fun x9 => (legs bd sd rt ps).length - x9.1) (0, u1.1, u1.2) ⟨Nat.zero_le _, hB8⟩ (lv_sub hl [3, 4, 2, 1, 0] rfl) hP hD hS ?_
        clear hP hD hS hl ls
        rintro ⟨i, G, M⟩ H locs hI hP hD hS ih_74 ls hl
        try dsimp only at hI ih_74 hl hP hD
        clear hB8 hA9 hL9
        obtain ⟨hi, hBg⟩ := hI
        refine lv_iload hx hb dX5_lines_74 (lv_at hl 4 rfl) ?_
        refine lv_iload_n hx hb dX5_lines_76 rfl (lv_at hl 2 rfl) ?_
        refine ln_icmp_ge (tgt := 133) hx hb dX5_lines_77 (by decide) (by omega) (by omega) (fun c77 => ?_) (fun c77 => ?_)
        · skip
          refine lv_lload_n hx hb dX5_lines_133 rfl (lv_at hl 3 rfl) ?_
          exact weL ((G, M)) hx hb hr hlocks dX5_lines_134 ⟨fun _ => ⟨d, hd, hx9, by rw [show i = (legs bd sd rt ps).length by omega, smT_all, cnD_23 (by omega) hd]⟩, hBg⟩ hP hD hK hA hE hS
        · skip
          have hi : i < (legs bd sd rt ps).length := by omega
          obtain ⟨f, t, k, hf, ht, hk, hy, hlg⟩ := legs_of (getD_mem hi)
          obtain ⟨y1, y2, y3, y4, y5⟩ := nB_e (bd := bd) (sd := sd) (ps := ps) hf ht hy
          have hgo := (pre_go (lgl_pre hlg).1).1
          refine lv_aload_n hx hb dX5_lines_80 rfl (lv_at hl 0 rfl) ?_
          refine lv_iconst (v := (nI 0)) hx hb dX5_lines_81 (by decide) ?_
          refine lv_iload hx hb dX5_lines_82 (lv_at hl 4 rfl) ?_
          refine chI (rnV (As := [.int (nI 0), .int (nI i)]) (rest := []) S0 (c_X5_listAt l bd sd rt ps 0 (by decide) hBg (hkg _ hs2) (hLA.le hBg) i hi) wm_X5_106 wi_X5_listAt ws_X5_listAt wn_X5 wc_X5_listAt hd_X5_listAt ⟨rfl, rfl, by decide, by decide⟩ IW.blind (va_recv hK hP (ci := 4) (q0 := 0) rfl rfl) (IW.at hP hD hK hA hE hS) hl.1 (Nat.le_of_ble_eq_true rfl) dX5_lines_84 rfl ⟨by decide, by decide⟩) hS (fun r_2 u2 H locs hu hP hD hS => ?_)
          obtain ⟨he9, hA9, hL9⟩ := hu
          subst he9
          have hP : va_P D classes (rW cI hm b0 b1 b2 b3 (nI (lnc bd sd x)) mk (nI (szN bd sd rt ps)) u2.1 mv kp u2.2) H := hP
          have hD : va_D A (rW cI hm b0 b1 b2 b3 (nI (lnc bd sd x)) mk (nI (szN bd sd rt ps)) u2.1 mv kp u2.2) := hD
          refine W.top (y := .int (nI (f + 64 * t + 4096 * k))) (congrArg Value.int (congrArg nI hy)) ?_
          have hB1 := hA9.Bd (b := 0) (by decide) hBg
          refine lv_istore (lv' := [(6, .int (nI (f + 64 * t + 4096 * k))), (0, .ref hm), (1, .int x), (2, .int (nI ((legs bd sd rt ps).length))), (3, .long (lN (smT (legs bd sd rt ps) (fun y => if d = 2 then cn1 (nB bd sd ps y) (1 - sd) (nR bd sd rt y) (nP bd sd ps y) else cn2 (nB bd sd ps y) (1 - sd) (nR bd sd rt y) (nP bd sd ps y)) i))), (5, .int (nI i))]) hx hb dX5_lines_87 hl (by decide) rfl (fun ls hl => ?_)
          refine lv_aload_n hx hb dX5_lines_89 rfl (lv_at hl 1 rfl) ?_
          refine lv_iconst (v := (nI 0)) hx hb dX5_lines_90 (by decide) ?_
          refine lv_bipush (v := (nI 67)) hx hb dX5_lines_91 (by decide) ?_
          refine lv_iload hx hb dX5_lines_93 (lv_at hl 0 rfl) ?_
          refine chV (rnV (As := [.int (nI 0), .int (nI 67), .int (nI (f + 64 * t + 4096 * k))]) (rest := []) S0 (c_X5_behind l bd sd rt ps 0 67 f t k (by decide) (by decide) hf ht hk hgo hB1) wm_X5_86 wi_X5_behind ws_X5_behind wn_X5 wc_X5_behind hd_X5_behind ⟨rfl, rfl, by decide, by decide⟩ IW.blind (va_recv hK hP (ci := 4) (q0 := 0) rfl rfl) (IW.at hP hD hK hA hE hS) hl.1 (Nat.le_of_ble_eq_true rfl) dX5_lines_95 rfl ⟨by decide, by decide⟩) hS (fun u3 H locs hu hP hD hS => ?_)
          obtain ⟨hBn, hAn⟩ := hu
          have hP : va_P D classes (rW cI hm b0 b1 b2 b3 (nI (lnc bd sd x)) mk (nI (szN bd sd rt ps)) u3 mv kp u2.2) H := hP
          have hD : va_D A (rW cI hm b0 b1 b2 b3 (nI (lnc bd sd x)) mk (nI (szN bd sd rt ps)) u3 mv kp u2.2) := hD
          refine lv_aload_n hx hb dX5_lines_98 rfl (lv_at hl 1 rfl) ?_
          refine lv_bipush (v := (nI 67)) hx hb dX5_lines_99 (by decide) ?_
          refine lv_iconst (v := (nI 0)) hx hb dX5_lines_101 (by decide) ?_
          refine chI (rnV (As := [.int (nI 67), .int (nI 0)]) (rest := []) S0 (c_X5_listed l (bhB bd sd ps f t k) (1 - sd) (bhR bd sd rt f t) (bhP bd sd ps f t k) 67 (by decide) hBn (lgl_kg hBg.lt hs2 (by omega) hf ht hk hlg (hkg _ (by omega))) (hLA.le hBn)) wm_X5_93 wi_X5_listed ws_X5_listed wn_X5 wc_X5_listed hd_X5_listed ⟨rfl, rfl, by decide, by decide⟩ IW.blind (va_recv hK hP (ci := 4) (q0 := 0) rfl rfl) (IW.at hP hD hK hA hE hS) hl.1 (Nat.le_of_ble_eq_true rfl) dX5_lines_102 rfl ⟨by decide, by decide⟩) hS (fun r_4 u4 H locs hu hP hD hS => ?_)
          obtain ⟨he9, hA9, hL9⟩ := hu
          subst he9
          have hP : va_P D classes (rW cI hm b0 b1 b2 b3 (nI (lnc bd sd x)) mk (nI (szN bd sd rt ps)) u4.1 mv kp u4.2) H := hP
          have hD : va_D A (rW cI hm b0 b1 b2 b3 (nI (lnc bd sd x)) mk (nI (szN bd sd rt ps)) u4.1 mv kp u4.2) := hD
          have hl7 := hLA.le hBn
          have hB5 : Bd u4.1 0 bd sd rt ps := Bd_cp hB1 (fun j hj => by rw [Nat.zero_add]; exact (hA9 j (by omega)).trans (hAn j (by omega)))
          have hB4 := hA9.Bd (b := 67) (by decide) hBn
          refine lv_istore (lv' := [(7, .int (nI ((legs (bhB bd sd ps f t k) (1 - sd) (bhR bd sd rt f t) (bhP bd sd ps f t k)).length))), (6, .int (nI (f + 64 * t + 4096 * k))), (0, .ref hm), (1, .int x), (2, .int (nI ((legs bd sd rt ps).length))), (3, .long (lN (smT (legs bd sd rt ps) (fun y => if d = 2 then cn1 (nB bd sd ps y) (1 - sd) (nR bd sd rt y) (nP bd sd ps y) else cn2 (nB bd sd ps y) (1 - sd) (nR bd sd rt y) (nP bd sd ps y)) i))), (5, .int (nI i))]) hx hb dX5_lines_105 hl (by decide) rfl (fun ls hl => ?_)
          refine lv_lload_n hx hb dX5_lines_107 rfl (lv_at hl 5 rfl) ?_
          refine lv_iload_n hx hb dX5_lines_108 rfl (lv_at hl 3 rfl) ?_
          refine W.top (y := .int (nI d)) (congrArg Value.int hx9) ?_
          refine lv_iconst (v := (nI 2)) hx hb dX5_lines_109 (by decide) ?_
          refine jnW (σ := (Nat → Int32) × (Nat → Int32)) (D := D) (A := A) (H0 := s.heap) 125 8 (fun x9 => [(7, .int (nI ((legs (bhB bd sd ps f t k) (1 - sd) (bhR bd sd rt f t) (bhP bd sd ps f t k)).length))), (6, .int (nI (f + 64 * t + 4096 * k))), (0, .ref hm), (1, .int x), (2, .int (nI ((legs bd sd rt ps).length))), (3, .long (lN (smT (legs bd sd rt ps) (fun y => if d = 2 then cn1 (nB bd sd ps y) (1 - sd) (nR bd sd rt y) (nP bd sd ps y) else cn2 (nB bd sd ps y) (1 - sd) (nR bd sd rt y) (nP bd sd ps y)) i))), (5, .int (nI i))]) [.long (lN (if d = 2 then cn1 (bhB bd sd ps f t k) (1 - sd) (bhR bd sd rt f t) (bhP bd sd ps f t k) else cn2 (bhB bd sd ps f t k) (1 - sd) (bhR bd sd rt f t) (bhP bd sd ps f t k))), .long (lN (smT (legs bd sd rt ps) (fun y => if d = 2 then cn1 (nB bd sd ps y) (1 - sd) (nR bd sd rt y) (nP bd sd ps y) else cn2 (nB bd sd ps y) (1 - sd) (nR bd sd rt y) (nP bd sd ps y)) i))] (fun x9 => rW cI hm b0 b1 b2 b3 (nI (lnc bd sd x)) mk (nI (szN bd sd rt ps)) x9.1 mv kp x9.2) (fun x9 => Bd x9.1 0 bd sd rt ps) ?_ (fun hj_125 => ?_)
          · clear hP hD hS hl ls
            rintro ⟨G6, M6⟩ H locs hI hP hD hS ls hl
            try dsimp only at hI hP hD hl
            have hB6 := hI
            refine lv_ladd hx hb dX5_lines_125 ?_
            refine W.top (y := .long (lN (smT (legs bd sd rt ps) (fun y => if d = 2 then cn1 (nB bd sd ps y) (1 - sd) (nR bd sd rt y) (nP bd sd ps y) else cn2 (nB bd sd ps y) (1 - sd) (nR bd sd rt y) (nP bd sd ps y)) (i + 1)))) (congrArg Value.long (by rw [lN_add, smT_s hi]; unfold nR; rw [y4, y5, y1, y2])) ?_
            refine lv_lstore_n (lv' := [(3, .long (lN (smT (legs bd sd rt ps) (fun y => if d = 2 then cn1 (nB bd sd ps y) (1 - sd) (nR bd sd rt y) (nP bd sd ps y) else cn2 (nB bd sd ps y) (1 - sd) (nR bd sd rt y) (nP bd sd ps y)) (i + 1)))), (7, .int (nI ((legs (bhB bd sd ps f t k) (1 - sd) (bhR bd sd rt f t) (bhP bd sd ps f t k)).length))), (6, .int (nI (f + 64 * t + 4096 * k))), (0, .ref hm), (1, .int x), (2, .int (nI ((legs bd sd rt ps).length))), (5, .int (nI i))]) hx hb dX5_lines_126 rfl hl (by decide) rfl (fun ls hl => ?_)
            refine lv_iinc (v := (nI (i + 1))) (lv' := [(5, .int (nI (i + 1))), (3, .long (lN (smT (legs bd sd rt ps) (fun y => if d = 2 then cn1 (nB bd sd ps y) (1 - sd) (nR bd sd rt y) (nP bd sd ps y) else cn2 (nB bd sd ps y) (1 - sd) (nR bd sd rt y) (nP bd sd ps y)) (i + 1)))), (7, .int (nI ((legs (bhB bd sd ps f t k) (1 - sd) (bhR bd sd rt f t) (bhP bd sd ps f t k)).length))), (6, .int (nI (f + 64 * t + 4096 * k))), (0, .ref hm), (1, .int x), (2, .int (nI ((legs bd sd rt ps).length)))]) hx hb dX5_lines_127 hl (k := 6) rfl (show nI i + Int32.ofInt 1 = nI (i + 1) from nI_add _ 1) (by decide) rfl (fun ls hl => ?_)
            refine lv_goto (tgt := 74) hx hb dX5_lines_130 (by decide) ?_
            exact ih_74 ((i + 1), G6, M6) _ _ ⟨by omega, hB6⟩ (by (try dsimp only); omega) hP hD hS ls (lv_sub hl [4, 5, 6, 1, 0] rfl)
          · skip
            refine ln_icmp_ne (tgt := 119) hx hb dX5_lines_110 (by decide) (by omega) (by decide) (fun c110 => ?_) (fun c110 => ?_)
            · skip
              refine lv_aload_n hx hb dX5_lines_119 rfl (lv_at hl 2 rfl) ?_
              refine lv_iload hx hb dX5_lines_120 (lv_at hl 0 rfl) ?_
              refine chL (rnV (As := [.int (nI ((legs (bhB bd sd ps f t k) (1 - sd) (bhR bd sd rt f t) (bhP bd sd ps f t k)).length))]) (rest := [.long (lN (smT (legs bd sd rt ps) (fun y => if d = 2 then cn1 (nB bd sd ps y) (1 - sd) (nR bd sd rt y) (nP bd sd ps y) else cn2 (nB bd sd ps y) (1 - sd) (nR bd sd rt y) (nP bd sd ps y)) i))]) S0 (c_X5_deeper l (bhB bd sd ps f t k) (1 - sd) (bhR bd sd rt f t) (bhP bd sd ps f t k) hLA hB4 (fun w hw => lgl_kg hBg.lt hs2 hw hf ht hk hlg (hkg w hw))) wm_X5_109 wi_X5_deeper ws_X5_deeper wn_X5 wc_X5_deeper hd_X5_deeper ⟨rfl, rfl, by decide, by decide⟩ IW.blind (va_recv hK hP (ci := 4) (q0 := 0) rfl rfl) (IW.at hP hD hK hA hE hS) hl.1 (Nat.le_of_ble_eq_true rfl) dX5_lines_122 rfl ⟨by decide, by decide⟩) hS (fun r_5 u5 H locs hu hP hD hS => ?_)
              obtain ⟨he9, hsm9⟩ := hu
              subst he9
              have hP : va_P D classes (rW cI hm b0 b1 b2 b3 (nI (lnc bd sd x)) mk (nI (szN bd sd rt ps)) u5.1 mv kp u5.2) H := hP
              have hD : va_D A (rW cI hm b0 b1 b2 b3 (nI (lnc bd sd x)) mk (nI (szN bd sd rt ps)) u5.1 mv kp u5.2) := hD
              refine W.top (y := .long (lN (if d = 2 then cn1 (bhB bd sd ps f t k) (1 - sd) (bhR bd sd rt f t) (bhP bd sd ps f t k) else cn2 (bhB bd sd ps f t k) (1 - sd) (bhR bd sd rt f t) (bhP bd sd ps f t k)))) (congrArg Value.long (congrArg lN (by first | (rw [if_pos c110]; rfl) | rw [if_neg c110]))) ?_
              exact hj_125 (u5.1, u5.2) _ _ (by first | exact hB5 | exact Bd_cp hB5 (fun j hj => by rw [Nat.zero_add]; exact hsm9 j (by omega))) hP hD hS ls (lv_sub hl [0, 1, 2, 3, 4, 5, 6] rfl)
            · skip
              refine lv_iload hx hb dX5_lines_113 (lv_at hl 0 rfl) ?_
              refine lv_i2l hx hb dX5_lines_115 rfl ?_
              refine W.top (y := .long (lN (legs (bhB bd sd ps f t k) (1 - sd) (bhR bd sd rt f t) (bhP bd sd ps f t k)).length)) (congrArg Value.long (nI_l (by omega))) ?_
              refine lv_goto (tgt := 125) hx hb dX5_lines_116 (by decide) ?_
              refine W.top (y := .long (lN (if d = 2 then cn1 (bhB bd sd ps f t k) (1 - sd) (bhR bd sd rt f t) (bhP bd sd ps f t k) else cn2 (bhB bd sd ps f t k) (1 - sd) (bhR bd sd rt f t) (bhP bd sd ps f t k)))) (congrArg Value.long (congrArg lN (by first | (rw [if_pos c110]; rfl) | rw [if_neg c110]))) ?_
              exact hj_125 (u4.1, u4.2) _ _ (by first | exact hB5 | exact Bd_cp hB5 (fun j hj => by rw [Nat.zero_add]; exact hsm9 j (by omega))) hP hD hS ls (lv_sub hl [0, 1, 2, 3, 4, 5, 6] rfl)
      · skip
        refine lv_iload_n hx hb dX5_lines_50 rfl (lv_at hl 1 rfl) ?_
        refine W.top (y := .int (nI d)) (congrArg Value.int hx9) ?_
        refine ln_if_ne (tgt := 58) hx hb dX5_lines_51 (by decide) (by omega) (fun c51 => ?_) (fun c51 => ?_)
        · skip
          refine lv_aload_n hx hb dX5_lines_58 rfl (lv_at hl 0 rfl) ?_
          refine va_get (D := D) (ci := 4) (v := .int (nI (szN bd sd rt ps))) (C := RX5) (T := TX5) (N := 7) hx hb hG wu_X5 hown hK hP 0 rfl rfl 5 (by decide) (hG _ wf_X5_96) (fun _ h9 => h9) rfl dX5_lines_59 ?_
          refine lv_i2l hx hb dX5_lines_62 rfl ?_
          refine W.top (y := .long (lN (cnD bd sd rt ps d))) (congrArg Value.long (by rw [nI_l (by omega), hsz]; unfold cnD; rw [if_neg c51, if_pos (show d = 1 by omega)]; rfl)) ?_
          exact weL ((u1.1, u1.2)) hx hb hr hlocks dX5_lines_63 ⟨fun _ => ⟨d, hd, hx9, rfl⟩, hB8⟩ hP hD hK hA hE hS
        · skip
          refine lv_lconst (v := 1) hx hb dX5_lines_54 (by decide) ?_
          refine W.top (y := .long (lN (cnD bd sd rt ps d))) (congrArg Value.long (by unfold cnD; rw [if_pos c51]; rfl)) ?_
          refine lv_goto (tgt := 63) hx hb dX5_lines_55 (by decide) ?_
          exact weL ((u1.1, u1.2)) hx hb hr hlocks dX5_lines_63 ⟨fun _ => ⟨d, hd, hx9, rfl⟩, hB8⟩ hP hD hK hA hE hS
    · skip
      refine lv_lconst (v := 0) hx hb dX5_lines_43 (by decide) ?_
      exact weL ((u1.1, u1.2)) hx hb hr hlocks dX5_lines_44 ⟨fun z => absurd z c40, hB8⟩ hP hD hK hA hE hS
  · skip
    refine ln_if_ne (tgt := 29) hx hb dX5_lines_13 (by decide) (by omega) (fun c13 => ?_) (fun c13 => ?_)
    · skip
      refine lv_aload_n hx hb dX5_lines_29 rfl (lv_at hl 0 rfl) ?_
      refine va_get (D := D) (ci := 4) (v := .int (nI (ndN bd sd))) (C := RX5) (T := TX5) (N := 7) hx hb hG wu_X5 hown hK hP 0 rfl rfl 0 (by decide) (hG _ wf_X5_22) (fun _ h9 => h9) rfl dX5_lines_30 ?_
      refine W.top (y := .int (nI (lnc bd sd x))) (congrArg Value.int (congrArg nI (by unfold lnc; first | rw [if_neg c13] | rw [if_pos c13, if_pos (Or.inl c17)] | rw [if_pos c13, if_pos (Or.inr c22)] | (rw [if_pos c13, if_neg (fun z => z.elim c17 (fun w => w c22))]; exact c13)))) ?_
      exact hj_33 ls (lv_sub hl [0, 1] rfl)
    · skip
      refine lv_iload_n hx hb dX5_lines_16 rfl (lv_at hl 1 rfl) ?_
      refine lv_if_lt (tgt := 25) hx hb dX5_lines_17 (by decide) (fun c17 => ?_) (fun c17 => ?_)
      · skip
        refine lv_iconst (v := (nI 2)) hx hb dX5_lines_25 (by decide) ?_
        refine lv_goto (tgt := 33) hx hb dX5_lines_26 (by decide) ?_
        refine W.top (y := .int (nI (lnc bd sd x))) (congrArg Value.int (congrArg nI (by unfold lnc; first | rw [if_neg c13] | rw [if_pos c13, if_pos (Or.inl c17)] | rw [if_pos c13, if_pos (Or.inr c22)] | (rw [if_pos c13, if_neg (fun z => z.elim c17 (fun w => w c22))]; exact c13)))) ?_
        exact hj_33 ls (lv_sub hl [0, 1] rfl)
      · skip
        refine lv_iload_n hx hb dX5_lines_20 rfl (lv_at hl 1 rfl) ?_
        refine lv_iconst (v := (nI 3)) hx hb dX5_lines_21 (by decide) ?_
        refine lv_icmp_le (tgt := 29) hx hb dX5_lines_22 (by decide) (fun c22 => ?_) (fun c22 => ?_)
        · skip
          refine lv_aload_n hx hb dX5_lines_29 rfl (lv_at hl 0 rfl) ?_
          refine va_get (D := D) (ci := 4) (v := .int (nI (ndN bd sd))) (C := RX5) (T := TX5) (N := 7) hx hb hG wu_X5 hown hK hP 0 rfl rfl 0 (by decide) (hG _ wf_X5_22) (fun _ h9 => h9) rfl dX5_lines_30 ?_
          refine W.top (y := .int (nI (lnc bd sd x))) (congrArg Value.int (congrArg nI (by unfold lnc; first | rw [if_neg c13] | rw [if_pos c13, if_pos (Or.inl c17)] | rw [if_pos c13, if_pos (Or.inr c22)] | (rw [if_pos c13, if_neg (fun z => z.elim c17 (fun w => w c22))]; exact c13)))) ?_
          exact hj_33 ls (lv_sub hl [0, 1] rfl)
        · skip
          refine lv_iconst (v := (nI 2)) hx hb dX5_lines_25 (by decide) ?_
          refine lv_goto (tgt := 33) hx hb dX5_lines_26 (by decide) ?_
          refine W.top (y := .int (nI (lnc bd sd x))) (congrArg Value.int (congrArg nI (by unfold lnc; first | rw [if_neg c13] | rw [if_pos c13, if_pos (Or.inl c17)] | rw [if_pos c13, if_pos (Or.inr c22)] | (rw [if_pos c13, if_neg (fun z => z.elim c17 (fun w => w c22))]; exact c13)))) ?_
          exact hj_33 ls (lv_sub hl [0, 1] rfl)
end
section
def slq (bd : Nat → Nat) (sd t : Nat) : Bool := decide (sdN (bd t) = 1 - sd) && (decide (2 < kd (bd t)) && decide (kd (bd t) < 6))
def moq (bd : Nat → Nat) (sd s t : Nat) : Bool := slq bd sd t && (!atk bd t (kgs bd sd) && atk (upN bd s 0) t (kgs bd sd))
def mor (bd : Nat → Nat) (sd s n : Nat) : Bool := (List.range n).any fun t => moq bd sd s t
theorem mor_s (bd : Nat → Nat) (sd s n : Nat) : mor bd sd s (n + 1) = (mor bd sd s n || moq bd sd s n) := by
  unfold mor
  rw [List.range_succ, List.any_append]
  simp
def pnq (bd : Nat → Nat) (sd s : Nat) : Bool := decide (sdN (bd s) = sd) && (!decide (kd (bd s) = 6) && mor bd sd s 64)
def pnN (bd : Nat → Nat) (sd : Nat) : Nat → Int64
  | 0 => 0
  | n + 1 => if pnq bd sd n = true then pnN bd sd n ||| bsl 1 (nI n) else pnN bd sd n
theorem pnN_s (bd : Nat → Nat) (sd n : Nat) : pnN bd sd (n + 1) = if pnq bd sd n = true then pnN bd sd n ||| bsl 1 (nI n) else pnN bd sd n := rfl
theorem pnN_no {bd : Nat → Nat} {sd n : Nat} (h : pnq bd sd n = false) : pnN bd sd n = pnN bd sd (n + 1) := by rw [pnN_s, if_neg (by rw [h]; decide)]
theorem pnN_yes {bd : Nat → Nat} {sd n : Nat} (h : pnq bd sd n = true) : pnN bd sd n ||| bsl 1 (nI n) = pnN bd sd (n + 1) := by rw [pnN_s, if_pos h]
theorem upd_bk {F : Nat → Int32} {i : Nat} {x y : Int32} (h : F i = y) : upd (upd F i x) i y = F := by
  funext j
  by_cases e : j = i
  · rw [e, pk_us, h]
  · rw [pk_un e, pk_un e]
theorem kgs_up0 {bd : Nat → Nat} {w s : Nat} (hs : s < 64) (hw : w < 2) (h : ¬ kd (bd s) = 6) : kgs (upN bd s 0) w = kgs bd w := by
  have h1 : bd s ≠ 6 + 6 * w := fun z => h (kd_K hw z)
  have h2 : ∀ n, kc (upN bd s 0) w n = kc bd w n ∧ kat (upN bd s 0) w n = kat bd w n := by
    intro n
    induction n with
    | zero => exact ⟨rfl, rfl⟩
    | succ n ih =>
      by_cases e : n = s
      · subst e
        unfold kc kat
        rw [upN_eq, ih.1, ih.2, if_neg (show ¬ 0 = 6 + 6 * w by omega), if_neg (show ¬ 0 = 6 + 6 * w by omega), if_neg h1, if_neg h1]
        exact ⟨rfl, rfl⟩
      · unfold kc kat
        rw [upN_ne e, ih.1, ih.2]
        exact ⟨rfl, rfl⟩
  unfold kgs
  rw [(h2 64).1, (h2 64).2]
theorem cpo_s {K f : Nat → Int32} {b i : Nat} (h : ∀ j, j < i → K (b + j) = f j) : ∀ j, j < i + 1 → upd K (b + i) (f i) (b + j) = f j := by
  intro j hj
  by_cases e : j = i
  · rw [e, pk_us]
  · rw [pk_un (by omega)]; exact h j (by omega)
end
section
theorem dX5_make_0 : decode cX5_make 0 = .ok (.aload_n 0, 1) := by decide +kernel
theorem dX5_make_1 : decode cX5_make 1 = .ok (.aload_n 0, 1) := by decide +kernel
theorem dX5_make_2 : decode cX5_make 2 = .ok (.invokevirtual 99, 3) := by decide +kernel
theorem dX5_make_5 : decode cX5_make 5 = .ok (.putfield 22, 3) := by decide +kernel
theorem dX5_make_8 : decode cX5_make 8 = .ok (.aload_n 0, 1) := by decide +kernel
theorem dX5_make_9 : decode cX5_make 9 = .ok (.aload_n 0, 1) := by decide +kernel
theorem dX5_make_10 : decode cX5_make 10 = .ok (.getfield 22, 3) := by decide +kernel
theorem dX5_make_13 : decode cX5_make 13 = .ok (.ifCond .le 10, 3) := by decide +kernel
theorem dX5_make_16 : decode cX5_make 16 = .ok (.aload_n 0, 1) := by decide +kernel
theorem dX5_make_17 : decode cX5_make 17 = .ok (.getfield 22, 3) := by decide +kernel
theorem dX5_make_20 : decode cX5_make 20 = .ok (.goto 30, 3) := by decide +kernel
theorem dX5_make_23 : decode cX5_make 23 = .ok (.aload_n 0, 1) := by decide +kernel
theorem dX5_make_24 : decode cX5_make 24 = .ok (.iload_n 1, 1) := by decide +kernel
theorem dX5_make_25 : decode cX5_make 25 = .ok (.invokevirtual 103, 3) := by decide +kernel
theorem dX5_make_28 : decode cX5_make 28 = .ok (.ifCond .ge 7, 3) := by decide +kernel
theorem dX5_make_31 : decode cX5_make 31 = .ok (.iconst 2, 1) := by decide +kernel
theorem dX5_make_32 : decode cX5_make 32 = .ok (.goto 18, 3) := by decide +kernel
theorem dX5_make_35 : decode cX5_make 35 = .ok (.aload_n 0, 1) := by decide +kernel
theorem dX5_make_36 : decode cX5_make 36 = .ok (.getfield 26, 3) := by decide +kernel
theorem dX5_make_39 : decode cX5_make 39 = .ok (.sipush 200, 3) := by decide +kernel
theorem dX5_make_42 : decode cX5_make 42 = .ok (.if_icmp .ne 7, 3) := by decide +kernel
theorem dX5_make_45 : decode cX5_make 45 = .ok (.iconst 3, 1) := by decide +kernel
theorem dX5_make_46 : decode cX5_make 46 = .ok (.goto 4, 3) := by decide +kernel
theorem dX5_make_49 : decode cX5_make 49 = .ok (.iconst 0, 1) := by decide +kernel
theorem dX5_make_50 : decode cX5_make 50 = .ok (.putfield 22, 3) := by decide +kernel
theorem dX5_make_53 : decode cX5_make 53 = .ok (.aload_n 0, 1) := by decide +kernel
theorem dX5_make_54 : decode cX5_make 54 = .ok (.getfield 22, 3) := by decide +kernel
theorem dX5_make_57 : decode cX5_make 57 = .ok (.ifCond .le 5, 3) := by decide +kernel
theorem dX5_make_60 : decode cX5_make 60 = .ok (.iconst 0, 1) := by decide +kernel
theorem dX5_make_61 : decode cX5_make 61 = .ok (.ireturn, 1) := by decide +kernel
theorem dX5_make_62 : decode cX5_make 62 = .ok (.iconst 0, 1) := by decide +kernel
theorem dX5_make_63 : decode cX5_make 63 = .ok (.istore_n 2, 1) := by decide +kernel
theorem dX5_make_64 : decode cX5_make 64 = .ok (.iload_n 2, 1) := by decide +kernel
theorem dX5_make_65 : decode cX5_make 65 = .ok (.bipush 67, 2) := by decide +kernel
theorem dX5_make_67 : decode cX5_make 67 = .ok (.if_icmp .ge 29, 3) := by decide +kernel
theorem dX5_make_70 : decode cX5_make 70 = .ok (.aload_n 0, 1) := by decide +kernel
theorem dX5_make_71 : decode cX5_make 71 = .ok (.getfield 16, 3) := by decide +kernel
theorem dX5_make_74 : decode cX5_make 74 = .ok (.bipush 67, 2) := by decide +kernel
theorem dX5_make_76 : decode cX5_make 76 = .ok (.aload_n 0, 1) := by decide +kernel
theorem dX5_make_77 : decode cX5_make 77 = .ok (.getfield 26, 3) := by decide +kernel
theorem dX5_make_80 : decode cX5_make 80 = .ok (.imul, 1) := by decide +kernel
theorem dX5_make_81 : decode cX5_make 81 = .ok (.iload_n 2, 1) := by decide +kernel
theorem dX5_make_82 : decode cX5_make 82 = .ok (.iadd, 1) := by decide +kernel
theorem dX5_make_83 : decode cX5_make 83 = .ok (.aload_n 0, 1) := by decide +kernel
theorem dX5_make_84 : decode cX5_make 84 = .ok (.getfield 7, 3) := by decide +kernel
theorem dX5_make_87 : decode cX5_make 87 = .ok (.iload_n 2, 1) := by decide +kernel
theorem dX5_make_88 : decode cX5_make 88 = .ok (.iaload, 1) := by decide +kernel
theorem dX5_make_89 : decode cX5_make 89 = .ok (.iastore, 1) := by decide +kernel
theorem dX5_make_90 : decode cX5_make 90 = .ok (.iinc 2 1, 3) := by decide +kernel
theorem dX5_make_93 : decode cX5_make 93 = .ok (.goto (-29), 3) := by decide +kernel
theorem dX5_make_96 : decode cX5_make 96 = .ok (.aload_n 0, 1) := by decide +kernel
theorem dX5_make_97 : decode cX5_make 97 = .ok (.getfield 13, 3) := by decide +kernel
theorem dX5_make_100 : decode cX5_make 100 = .ok (.aload_n 0, 1) := by decide +kernel
theorem dX5_make_101 : decode cX5_make 101 = .ok (.getfield 26, 3) := by decide +kernel
theorem dX5_make_104 : decode cX5_make 104 = .ok (.iload_n 1, 1) := by decide +kernel
theorem dX5_make_105 : decode cX5_make 105 = .ok (.iastore, 1) := by decide +kernel
theorem dX5_make_106 : decode cX5_make 106 = .ok (.aload_n 0, 1) := by decide +kernel
theorem dX5_make_107 : decode cX5_make 107 = .ok (.dup, 1) := by decide +kernel
theorem dX5_make_108 : decode cX5_make 108 = .ok (.getfield 26, 3) := by decide +kernel
theorem dX5_make_111 : decode cX5_make 111 = .ok (.iconst 1, 1) := by decide +kernel
theorem dX5_make_112 : decode cX5_make 112 = .ok (.iadd, 1) := by decide +kernel
theorem dX5_make_113 : decode cX5_make 113 = .ok (.putfield 26, 3) := by decide +kernel
theorem dX5_make_116 : decode cX5_make 116 = .ok (.aload_n 0, 1) := by decide +kernel
theorem dX5_make_117 : decode cX5_make 117 = .ok (.iconst 0, 1) := by decide +kernel
theorem dX5_make_118 : decode cX5_make 118 = .ok (.bipush 67, 2) := by decide +kernel
theorem dX5_make_120 : decode cX5_make 120 = .ok (.iload_n 1, 1) := by decide +kernel
theorem dX5_make_121 : decode cX5_make 121 = .ok (.invokevirtual 86, 3) := by decide +kernel
theorem dX5_make_124 : decode cX5_make 124 = .ok (.iconst 0, 1) := by decide +kernel
theorem dX5_make_125 : decode cX5_make 125 = .ok (.istore_n 2, 1) := by decide +kernel
theorem dX5_make_126 : decode cX5_make 126 = .ok (.iload_n 2, 1) := by decide +kernel
theorem dX5_make_127 : decode cX5_make 127 = .ok (.bipush 67, 2) := by decide +kernel
theorem dX5_make_129 : decode cX5_make 129 = .ok (.if_icmp .ge 24, 3) := by decide +kernel
theorem dX5_make_132 : decode cX5_make 132 = .ok (.aload_n 0, 1) := by decide +kernel
theorem dX5_make_133 : decode cX5_make 133 = .ok (.getfield 7, 3) := by decide +kernel
theorem dX5_make_136 : decode cX5_make 136 = .ok (.iload_n 2, 1) := by decide +kernel
theorem dX5_make_137 : decode cX5_make 137 = .ok (.aload_n 0, 1) := by decide +kernel
theorem dX5_make_138 : decode cX5_make 138 = .ok (.getfield 7, 3) := by decide +kernel
theorem dX5_make_141 : decode cX5_make 141 = .ok (.bipush 67, 2) := by decide +kernel
theorem dX5_make_143 : decode cX5_make 143 = .ok (.iload_n 2, 1) := by decide +kernel
theorem dX5_make_144 : decode cX5_make 144 = .ok (.iadd, 1) := by decide +kernel
theorem dX5_make_145 : decode cX5_make 145 = .ok (.iaload, 1) := by decide +kernel
theorem dX5_make_146 : decode cX5_make 146 = .ok (.iastore, 1) := by decide +kernel
theorem dX5_make_147 : decode cX5_make 147 = .ok (.iinc 2 1, 3) := by decide +kernel
theorem dX5_make_150 : decode cX5_make 150 = .ok (.goto (-24), 3) := by decide +kernel
theorem dX5_make_153 : decode cX5_make 153 = .ok (.aload_n 0, 1) := by decide +kernel
theorem dX5_make_154 : decode cX5_make 154 = .ok (.iconst 0, 1) := by decide +kernel
theorem dX5_make_155 : decode cX5_make 155 = .ok (.iconst 0, 1) := by decide +kernel
theorem dX5_make_156 : decode cX5_make 156 = .ok (.invokevirtual 93, 3) := by decide +kernel
theorem dX5_make_159 : decode cX5_make 159 = .ok (.ireturn, 1) := by decide +kernel
theorem hd_X5_make : yX5_make.cls ≠ "java/lang/invoke/MethodHandle" ∧ yX5_make.cls ≠ "java/lang/invoke/VarHandle" ∧ (parseMethodDescriptor yX5_make.desc).map (fun d => d.parameters.length) = some 1 := by decide +kernel
set_option maxHeartbeats 4000000 in
set_option maxRecDepth 100000 in
/-- make -/
theorem c_X5_make (l : Launch) {D : va_G} {cI cJ : ClassId} {A : Nat → Prop} {hm b0 b1 b2 b3 : Nat} {th sz : Int32} {F mv kp li : Nat → Int32} (bd : Nat → Nat) (sd rt ps : Nat) (hBd : Bd F 0 bd sd rt ps) (hLA : LenOK) (n : Nat) (hn : n ≤ 200) (x : Int32) : Met l yX5_make (Cond.code yX5_make cX5_make 3 (some .int) :: wsL_law) (rK 9) (va_Pc [.ref hm, .int x] (IW D cI cJ A (rW cI hm b0 b1 b2 b3 th (nI n) sz F mv kp li))) (va_Qi (fun r u => (mkc bd sd rt ps n x = 0 → ∃ f t k, f < 64 ∧ t < 64 ∧ k < 6 ∧ x = nI (f + 64 * t + 4096 * k) ∧ lgl bd sd rt ps f t k = true ∧ r = nI (legs (bhB bd sd ps f t k) (1 - sd) (bhR bd sd rt f t) (bhP bd sd ps f t k)).length ∧ Bd u.1 0 (bhB bd sd ps f t k) (1 - sd) (bhR bd sd rt f t) (bhP bd sd ps f t k) ∧ u.2.1 = nI (n + 1) ∧ u.2.2.1 = upd mv n x ∧ (∀ j, j < 67 → u.2.2.2.1 (67 * n + j) = F j) ∧ ∀ j, j < 67 * n → u.2.2.2.1 j = kp j) ∧ (¬ mkc bd sd rt ps n x = 0 → Bd u.1 0 bd sd rt ps ∧ u.2.1 = nI n ∧ u.2.2.1 = mv ∧ u.2.2.2.1 = kp)) (fun (u : (Nat → Int32) × Int32 × (Nat → Int32) × (Nat → Int32) × (Nat → Int32)) t => IW D cI cJ A (rW cI hm b0 b1 b2 b3 (nI (mkc bd sd rt ps n x)) u.2.1 (nI (szN bd sd rt ps)) u.1 u.2.2.1 u.2.2.2.1 u.2.2.2.2) t) A) 0 0 A := by
  refine entM (by decide) (Nat.le_of_ble_eq_true rfl) ?_
  intro p e s m below meth c ls S0 hr hlocks hG hnm hB hl
  have hx := S0.1
  have hb := S0.2.1
  have hown := S0.2.2.2.1
  have hl : lv_has ls 3 [(0, .ref hm), (1, .int x)] := hl
  obtain ⟨hP, hD, hK, hA, hE⟩ := hB
  have hS : va_S A s.heap s.heap [] := va_S.rf
  obtain ⟨hBp, hsd, hs2, hrt, hr16, hps, hp65⟩ := id hBd
  have hnd : ndN bd sd < 2 := by unfold ndN; split <;> omega
  have hLen : plb bd sd = true → (legs bd sd rt ps).length ≤ 1024 := fun _ => hLA.le hBd
  have hszl : szN bd sd rt ps ≤ 1024 := by unfold szN; split; exact hLA.le hBd; exact Nat.zero_le _
  have hlgl : (lgs bd sd rt ps).length ≤ 1024 := by rw [← szN_eq]; exact hszl
  refine lv_aload_n hx hb dX5_make_0 rfl (lv_at hl 0 rfl) ?_
  refine lv_aload_n hx hb dX5_make_1 rfl (lv_at hl 0 rfl) ?_
  refine chI (rnV (As := []) (rest := [.ref hm]) S0 (c_X5_need l bd sd rt ps hBd hLen) wm_X5_99 wi_X5_need ws_X5_need wn_X5 wc_X5_need hd_X5_need ⟨rfl, rfl, by decide, by decide⟩ IW.blind (va_recv hK hP (ci := 4) (q0 := 0) rfl rfl) (IW.at hP hD hK hA hE hS) hl.1 (Nat.le_of_ble_eq_true rfl) dX5_make_2 rfl ⟨by decide, by decide⟩) hS (fun r_1 u1 H locs hu hP hD hS => ?_)
  obtain ⟨he9, hA9, hL9⟩ := hu
  subst he9
  have hP : va_P D classes (rW cI hm b0 b1 b2 b3 th (nI n) (nI (szN bd sd rt ps)) u1.1 mv kp u1.2) H := hP
  have hD : va_D A (rW cI hm b0 b1 b2 b3 th (nI n) (nI (szN bd sd rt ps)) u1.1 mv kp u1.2) := hD
  have hB8 := hA9.Bd (b := 0) (by decide) hBd
  refine va_put (D := D) (ci := 4) (v := .int (nI (ndN bd sd))) (ty := .int) (C := RX5) (T := TX5) (N := 7) hx hb hG wu_X5 tyX5 tyX5_ok nmX5 hown hK hP hD hS 0 rfl rfl 0 (by decide) (hG _ wf_X5_22) (fun _ h9 => h9) rfl (by decide +kernel) rfl rfl (Nat.le_of_ble_eq_true rfl) dX5_make_5 (fun H locs hP hD hS => ?_)
  have hP : va_P D classes (rW cI hm b0 b1 b2 b3 (nI (ndN bd sd)) (nI n) (nI (szN bd sd rt ps)) u1.1 mv kp u1.2) H := hP
  have hD : va_D A (rW cI hm b0 b1 b2 b3 (nI (ndN bd sd)) (nI n) (nI (szN bd sd rt ps)) u1.1 mv kp u1.2) := hD
  refine lv_aload_n hx hb dX5_make_8 rfl (lv_at hl 0 rfl) ?_
  refine lv_aload_n hx hb dX5_make_9 rfl (lv_at hl 0 rfl) ?_
  refine va_get (D := D) (ci := 4) (v := .int (nI (ndN bd sd))) (C := RX5) (T := TX5) (N := 7) hx hb hG wu_X5 hown hK hP 0 rfl rfl 0 (by decide) (hG _ wf_X5_22) (fun _ h9 => h9) rfl dX5_make_10 ?_
  refine jnG 50 3 [(0, .ref hm), (1, .int x)] [.int (nI (mkc bd sd rt ps n x)), .ref hm] ?_ (fun hj_50 => ?_)
  · intro ls hl
    refine va_put (D := D) (ci := 4) (v := .int (nI (mkc bd sd rt ps n x))) (ty := .int) (C := RX5) (T := TX5) (N := 7) hx hb hG wu_X5 tyX5 tyX5_ok nmX5 hown hK hP hD hS 0 rfl rfl 0 (by decide) (hG _ wf_X5_22) (fun _ h9 => h9) rfl (by decide +kernel) rfl rfl (Nat.le_of_ble_eq_true rfl) dX5_make_50 (fun H locs hP hD hS => ?_)
    have hP : va_P D classes (rW cI hm b0 b1 b2 b3 (nI (mkc bd sd rt ps n x)) (nI n) (nI (szN bd sd rt ps)) u1.1 mv kp u1.2) H := hP
    have hD : va_D A (rW cI hm b0 b1 b2 b3 (nI (mkc bd sd rt ps n x)) (nI n) (nI (szN bd sd rt ps)) u1.1 mv kp u1.2) := hD
    have hkc : mkc bd sd rt ps n x < 4 := by unfold mkc; (repeat' split) <;> omega
    refine lv_aload_n hx hb dX5_make_53 rfl (lv_at hl 0 rfl) ?_
    refine va_get (D := D) (ci := 4) (v := .int (nI (mkc bd sd rt ps n x))) (C := RX5) (T := TX5) (N := 7) hx hb hG wu_X5 hown hK hP 0 rfl rfl 0 (by decide) (hG _ wf_X5_22) (fun _ h9 => h9) rfl dX5_make_54 ?_
    refine ln_if_le (tgt := 62) hx hb dX5_make_57 (by decide) (by omega) (fun c57 => ?_) (fun c57 => ?_)
    · skip
      obtain ⟨hpl, hge, hn2⟩ := mkc_0 c57
      have hn3 : n < 200 := by omega
      obtain ⟨f, t, k, hf, ht, hk, hx9, hlg⟩ := isl_of hpl hlgl hge
      have hkg : ∀ w, w < 2 → kgs bd w < 64 := fun w hw => plb_k hw hpl
      have hgo := (pre_go (lgl_pre hlg).1).1
      refine lv_iconst (v := (nI 0)) hx hb dX5_make_62 (by decide) ?_
      refine lv_istore_n (lv' := [(2, .int (nI 0)), (0, .ref hm), (1, .int x)]) hx hb dX5_make_63 rfl hl (by decide) rfl (fun ls hl => ?_)
      refine lpW (σ := (Nat) × (Nat → Int32)) 64 3 [] (fun x9 => [(0, .ref hm), (1, .int x), (2, .int (nI x9.1))]) (fun x9 => rW cI hm b0 b1 b2 b3 (nI (mkc bd sd rt ps n x)) (nI n) (nI (szN bd sd rt ps)) u1.1 mv x9.2 u1.2) (fun x9 => x9.1 ≤ 67 ∧ (∀ j, j < x9.1 → x9.2 (67 * n + j) = u1.1 j) ∧ ∀ j, j < 67 * n → x9.2 j = kp j) (fun x9 => 67 - x9.1) (0, kp) ⟨Nat.zero_le _, fun _ h => absurd h (Nat.not_lt_zero _), fun _ _ => rfl⟩ (lv_sub hl [1, 2, 0] rfl) hP hD hS ?_
      clear hP hD hS hl ls
      rintro ⟨i, K⟩ H locs hI hP hD hS ih_64 ls hl
      try dsimp only at hI ih_64 hl hP hD
      obtain ⟨hi, hk1, hk2⟩ := hI
      refine lv_iload_n hx hb dX5_make_64 rfl (lv_at hl 2 rfl) ?_
      refine lv_bipush (v := (nI 67)) hx hb dX5_make_65 (by decide) ?_
      refine ln_icmp_ge (tgt := 96) hx hb dX5_make_67 (by decide) (by omega) (by decide) (fun c67 => ?_) (fun c67 => ?_)
      · skip
        have hk3 : ∀ j, j < 67 → K (67 * n + j) = F j := fun j hj => (hk1 j (by omega)).trans (hA9 j (by omega))
        refine lv_aload_n hx hb dX5_make_96 rfl (lv_at hl 0 rfl) ?_
        refine va_get (D := D) (ci := 4) (v := .ref b1) (C := RX5) (T := TX5) (N := 7) hx hb hG wu_X5 hown hK hP 0 rfl rfl 3 (by decide) (hG _ wf_X5_13) (fun _ h9 => h9) rfl dX5_make_97 ?_
        refine lv_aload_n hx hb dX5_make_100 rfl (lv_at hl 0 rfl) ?_
        refine va_get (D := D) (ci := 4) (v := .int (nI n)) (C := RX5) (T := TX5) (N := 7) hx hb hG wu_X5 hown hK hP 0 rfl rfl 2 (by decide) (hG _ wf_X5_26) (fun _ h9 => h9) rfl dX5_make_101 ?_
        refine lv_iload_n hx hb dX5_make_104 rfl (lv_at hl 1 rfl) ?_
        refine va_iast hx hb hK hP hD hS 2 0 rfl rfl (vp_in_nI (by omega) (by decide)) dX5_make_105 (fun H locs hP hD hS => ?_)
        rw [nI_clamp (show n < 2 ^ 31 by omega)] at hP hD
        have hP : va_P D classes (rW cI hm b0 b1 b2 b3 (nI (mkc bd sd rt ps n x)) (nI n) (nI (szN bd sd rt ps)) u1.1 (upd mv n x) K u1.2) H := hP
        have hD : va_D A (rW cI hm b0 b1 b2 b3 (nI (mkc bd sd rt ps n x)) (nI n) (nI (szN bd sd rt ps)) u1.1 (upd mv n x) K u1.2) := hD
        refine lv_aload_n hx hb dX5_make_106 rfl (lv_at hl 0 rfl) ?_
        refine lv_dup hx hb dX5_make_107 rfl ?_
        refine va_get (D := D) (ci := 4) (v := .int (nI n)) (C := RX5) (T := TX5) (N := 7) hx hb hG wu_X5 hown hK hP 0 rfl rfl 2 (by decide) (hG _ wf_X5_26) (fun _ h9 => h9) rfl dX5_make_108 ?_
        refine lv_iconst (v := (nI 1)) hx hb dX5_make_111 (by decide) ?_
        refine ln_iadd hx hb dX5_make_112 ?_
        refine va_put (D := D) (ci := 4) (v := .int (nI (n + 1))) (ty := .int) (C := RX5) (T := TX5) (N := 7) hx hb hG wu_X5 tyX5 tyX5_ok nmX5 hown hK hP hD hS 0 rfl rfl 2 (by decide) (hG _ wf_X5_26) (fun _ h9 => h9) rfl (by decide +kernel) rfl rfl (Nat.le_of_ble_eq_true rfl) dX5_make_113 (fun H locs hP hD hS => ?_)
        have hP : va_P D classes (rW cI hm b0 b1 b2 b3 (nI (mkc bd sd rt ps n x)) (nI (n + 1)) (nI (szN bd sd rt ps)) u1.1 (upd mv n x) K u1.2) H := hP
        have hD : va_D A (rW cI hm b0 b1 b2 b3 (nI (mkc bd sd rt ps n x)) (nI (n + 1)) (nI (szN bd sd rt ps)) u1.1 (upd mv n x) K u1.2) := hD
        refine lv_aload_n hx hb dX5_make_116 rfl (lv_at hl 0 rfl) ?_
        refine lv_iconst (v := (nI 0)) hx hb dX5_make_117 (by decide) ?_
        refine lv_bipush (v := (nI 67)) hx hb dX5_make_118 (by decide) ?_
        refine lv_iload_n hx hb dX5_make_120 rfl (lv_at hl 1 rfl) ?_
        refine W.top (y := .int (nI (f + 64 * t + 4096 * k))) (congrArg Value.int hx9) ?_
        refine chV (rnV (As := [.int (nI 0), .int (nI 67), .int (nI (f + 64 * t + 4096 * k))]) (rest := []) S0 (c_X5_behind l bd sd rt ps 0 67 f t k (by decide) (by decide) hf ht hk hgo hB8) wm_X5_86 wi_X5_behind ws_X5_behind wn_X5 wc_X5_behind hd_X5_behind ⟨rfl, rfl, by decide, by decide⟩ IW.blind (va_recv hK hP (ci := 4) (q0 := 0) rfl rfl) (IW.at hP hD hK hA hE hS) hl.1 (Nat.le_of_ble_eq_true rfl) dX5_make_121 rfl ⟨by decide, by decide⟩) hS (fun u2 H locs hu hP hD hS => ?_)
        obtain ⟨hBn, hAn⟩ := hu
        have hP : va_P D classes (rW cI hm b0 b1 b2 b3 (nI (mkc bd sd rt ps n x)) (nI (n + 1)) (nI (szN bd sd rt ps)) u2 (upd mv n x) K u1.2) H := hP
        have hD : va_D A (rW cI hm b0 b1 b2 b3 (nI (mkc bd sd rt ps n x)) (nI (n + 1)) (nI (szN bd sd rt ps)) u2 (upd mv n x) K u1.2) := hD
        refine lv_iconst (v := (nI 0)) hx hb dX5_make_124 (by decide) ?_
        refine lv_istore_n (lv' := [(2, .int (nI 0)), (0, .ref hm), (1, .int x)]) hx hb dX5_make_125 rfl hl (by decide) rfl (fun ls hl => ?_)
        refine lpW (σ := (Nat) × (Nat → Int32)) 126 3 [] (fun x9 => [(0, .ref hm), (1, .int x), (2, .int (nI x9.1))]) (fun x9 => rW cI hm b0 b1 b2 b3 (nI (mkc bd sd rt ps n x)) (nI (n + 1)) (nI (szN bd sd rt ps)) x9.2 (upd mv n x) K u1.2) (fun x9 => x9.1 ≤ 67 ∧ (∀ j, j < x9.1 → x9.2 j = u2 (67 + j)) ∧ ∀ j, 67 ≤ j → x9.2 j = u2 j) (fun x9 => 67 - x9.1) (0, u2) ⟨Nat.zero_le _, fun _ h => absurd h (Nat.not_lt_zero _), fun _ _ => rfl⟩ (lv_sub hl [1, 2, 0] rfl) hP hD hS ?_
        clear hP hD hS hl ls
        rintro ⟨i, G⟩ H locs hI hP hD hS ih_126 ls hl
        try dsimp only at hI ih_126 hl hP hD
        obtain ⟨hi, hg1, hg2⟩ := hI
        refine lv_iload_n hx hb dX5_make_126 rfl (lv_at hl 2 rfl) ?_
        refine lv_bipush (v := (nI 67)) hx hb dX5_make_127 (by decide) ?_
        refine ln_icmp_ge (tgt := 153) hx hb dX5_make_129 (by decide) (by omega) (by decide) (fun c129 => ?_) (fun c129 => ?_)
        · skip
          have hB7 : Bd G 0 (bhB bd sd ps f t k) (1 - sd) (bhR bd sd rt f t) (bhP bd sd ps f t k) := Bd_cp hBn (fun j hj => by rw [Nat.zero_add]; exact hg1 j (by omega))
          refine lv_aload_n hx hb dX5_make_153 rfl (lv_at hl 0 rfl) ?_
          refine lv_iconst (v := (nI 0)) hx hb dX5_make_154 (by decide) ?_
          refine lv_iconst (v := (nI 0)) hx hb dX5_make_155 (by decide) ?_
          refine chI (rnV (As := [.int (nI 0), .int (nI 0)]) (rest := []) S0 (c_X5_listed l (bhB bd sd ps f t k) (1 - sd) (bhR bd sd rt f t) (bhP bd sd ps f t k) 0 (by decide) hB7 (lgl_kg hB8.lt hs2 (by omega) hf ht hk hlg (hkg _ (by omega))) (hLA.le hB7)) wm_X5_93 wi_X5_listed ws_X5_listed wn_X5 wc_X5_listed hd_X5_listed ⟨rfl, rfl, by decide, by decide⟩ IW.blind (va_recv hK hP (ci := 4) (q0 := 0) rfl rfl) (IW.at hP hD hK hA hE hS) hl.1 (Nat.le_of_ble_eq_true rfl) dX5_make_156 rfl ⟨by decide, by decide⟩) hS (fun r_3 u3 H locs hu hP hD hS => ?_)
          obtain ⟨he9, hA9, hL9⟩ := hu
          subst he9
          have hP : va_P D classes (rW cI hm b0 b1 b2 b3 (nI (mkc bd sd rt ps n x)) (nI (n + 1)) (nI (szN bd sd rt ps)) u3.1 (upd mv n x) K u3.2) H := hP
          have hD : va_D A (rW cI hm b0 b1 b2 b3 (nI (mkc bd sd rt ps n x)) (nI (n + 1)) (nI (szN bd sd rt ps)) u3.1 (upd mv n x) K u3.2) := hD
          have hB6 := hA9.Bd (b := 0) (by decide) hB7
          exact weI ((u3.1, (nI (n + 1)), upd mv n x, K, u3.2)) hx hb hr hlocks dX5_make_159 ⟨fun _ => ⟨f, t, k, hf, ht, hk, hx9, hlg, rfl, hB6, rfl, rfl, hk3, hk2⟩, fun z => absurd c57 z⟩ hP hD hK hA hE hS
        · skip
          refine lv_aload_n hx hb dX5_make_132 rfl (lv_at hl 0 rfl) ?_
          refine va_get (D := D) (ci := 4) (v := .ref b0) (C := RX5) (T := TX5) (N := 7) hx hb hG wu_X5 hown hK hP 0 rfl rfl 1 (by decide) (hG _ wf_X5_7) (fun _ h9 => h9) rfl dX5_make_133 ?_
          refine lv_iload_n hx hb dX5_make_136 rfl (lv_at hl 2 rfl) ?_
          refine lv_aload_n hx hb dX5_make_137 rfl (lv_at hl 0 rfl) ?_
          refine va_get (D := D) (ci := 4) (v := .ref b0) (C := RX5) (T := TX5) (N := 7) hx hb hG wu_X5 hown hK hP 0 rfl rfl 1 (by decide) (hG _ wf_X5_7) (fun _ h9 => h9) rfl dX5_make_138 ?_
          refine lv_bipush (v := (nI 67)) hx hb dX5_make_141 (by decide) ?_
          refine lv_iload_n hx hb dX5_make_143 rfl (lv_at hl 2 rfl) ?_
          refine ln_iadd hx hb dX5_make_144 ?_
          refine va_iald hx hb hK hP 1 0 rfl rfl (vp_in_nI (by omega) (by decide)) dX5_make_145 ?_
          refine W.top (y := .int (G (67 + i))) (congrArg (fun z => Value.int (G z)) (nI_clamp (by omega))) ?_
          refine va_iast hx hb hK hP hD hS 1 0 rfl rfl (vp_in_nI (by omega) (by decide)) dX5_make_146 (fun H locs hP hD hS => ?_)
          rw [nI_clamp (show i < 2 ^ 31 by omega)] at hP hD
          have hP : va_P D classes (rW cI hm b0 b1 b2 b3 (nI (mkc bd sd rt ps n x)) (nI (n + 1)) (nI (szN bd sd rt ps)) (upd G i (G (67 + i))) (upd mv n x) K u1.2) H := hP
          have hD : va_D A (rW cI hm b0 b1 b2 b3 (nI (mkc bd sd rt ps n x)) (nI (n + 1)) (nI (szN bd sd rt ps)) (upd G i (G (67 + i))) (upd mv n x) K u1.2) := hD
          refine lv_iinc (v := (nI (i + 1))) (lv' := [(2, .int (nI (i + 1))), (0, .ref hm), (1, .int x)]) hx hb dX5_make_147 hl (k := 2) rfl (show nI i + Int32.ofInt 1 = nI (i + 1) from nI_add _ 1) (by decide) rfl (fun ls hl => ?_)
          refine lv_goto (tgt := 126) hx hb dX5_make_150 (by decide) ?_
          exact ih_126 ((i + 1), (upd G i (G (67 + i)))) _ _ ⟨by omega, by dsimp only; rw [hg2 _ (by omega)]; exact cpy_s (f := fun j => u2 (67 + j)) hg1, fun j hj => by dsimp only; rw [pk_un (by omega)]; exact hg2 j hj⟩ (by (try dsimp only); omega) hP hD hS ls (lv_sub hl [1, 2, 0] rfl)
      · skip
        refine lv_aload_n hx hb dX5_make_70 rfl (lv_at hl 0 rfl) ?_
        refine va_get (D := D) (ci := 4) (v := .ref b2) (C := RX5) (T := TX5) (N := 7) hx hb hG wu_X5 hown hK hP 0 rfl rfl 4 (by decide) (hG _ wf_X5_16) (fun _ h9 => h9) rfl dX5_make_71 ?_
        refine lv_bipush (v := (nI 67)) hx hb dX5_make_74 (by decide) ?_
        refine lv_aload_n hx hb dX5_make_76 rfl (lv_at hl 0 rfl) ?_
        refine va_get (D := D) (ci := 4) (v := .int (nI n)) (C := RX5) (T := TX5) (N := 7) hx hb hG wu_X5 hown hK hP 0 rfl rfl 2 (by decide) (hG _ wf_X5_26) (fun _ h9 => h9) rfl dX5_make_77 ?_
        refine ln_imul hx hb dX5_make_80 ?_
        refine lv_iload_n hx hb dX5_make_81 rfl (lv_at hl 2 rfl) ?_
        refine ln_iadd hx hb dX5_make_82 ?_
        refine lv_aload_n hx hb dX5_make_83 rfl (lv_at hl 0 rfl) ?_
        refine va_get (D := D) (ci := 4) (v := .ref b0) (C := RX5) (T := TX5) (N := 7) hx hb hG wu_X5 hown hK hP 0 rfl rfl 1 (by decide) (hG _ wf_X5_7) (fun _ h9 => h9) rfl dX5_make_84 ?_
        refine lv_iload_n hx hb dX5_make_87 rfl (lv_at hl 2 rfl) ?_
        refine va_iald hx hb hK hP 1 0 rfl rfl (vp_in_nI (by omega) (by decide)) dX5_make_88 ?_
        refine W.top (y := .int (u1.1 i)) (congrArg (fun z => Value.int (u1.1 z)) (nI_clamp (by omega))) ?_
        refine va_iast hx hb hK hP hD hS 3 0 rfl rfl (vp_in_nI (by omega) (by decide)) dX5_make_89 (fun H locs hP hD hS => ?_)
        rw [nI_clamp (show ((67 * n) + i) < 2 ^ 31 by omega)] at hP hD
        have hP : va_P D classes (rW cI hm b0 b1 b2 b3 (nI (mkc bd sd rt ps n x)) (nI n) (nI (szN bd sd rt ps)) u1.1 mv (upd K ((67 * n) + i) (u1.1 i)) u1.2) H := hP
        have hD : va_D A (rW cI hm b0 b1 b2 b3 (nI (mkc bd sd rt ps n x)) (nI n) (nI (szN bd sd rt ps)) u1.1 mv (upd K ((67 * n) + i) (u1.1 i)) u1.2) := hD
        refine lv_iinc (v := (nI (i + 1))) (lv' := [(2, .int (nI (i + 1))), (0, .ref hm), (1, .int x)]) hx hb dX5_make_90 hl (k := 2) rfl (show nI i + Int32.ofInt 1 = nI (i + 1) from nI_add _ 1) (by decide) rfl (fun ls hl => ?_)
        refine lv_goto (tgt := 64) hx hb dX5_make_93 (by decide) ?_
        exact ih_64 ((i + 1), (upd K ((67 * n) + i) (u1.1 i))) _ _ ⟨by omega, cpo_s hk1, fun j hj => by dsimp only; rw [pk_un (by omega)]; exact hk2 j hj⟩ (by (try dsimp only); omega) hP hD hS ls (lv_sub hl [1, 2, 0] rfl)
    · skip
      refine lv_iconst (v := (nI 0)) hx hb dX5_make_60 (by decide) ?_
      exact weI ((u1.1, (nI n), mv, kp, u1.2)) hx hb hr hlocks dX5_make_61 ⟨fun z => absurd z c57, fun _ => ⟨hB8, rfl, rfl, rfl⟩⟩ hP hD hK hA hE hS
  · skip
    refine ln_if_le (tgt := 23) hx hb dX5_make_13 (by decide) (by omega) (fun c13 => ?_) (fun c13 => ?_)
    · skip
      refine lv_aload_n hx hb dX5_make_23 rfl (lv_at hl 0 rfl) ?_
      refine lv_iload_n hx hb dX5_make_24 rfl (lv_at hl 1 rfl) ?_
      refine roI (rnV (As := [.int x]) (rest := [.ref hm]) S0 (c_X5_placeOf l x (lgs bd sd rt ps) hL9 (congrArg nI (szN_eq bd sd rt ps)) (by rw [← szN_eq]; exact hszl)) wm_X5_103 wi_X5_placeOf ws_X5_placeOf wn_X5 wc_X5_placeOf hd_X5_placeOf ⟨rfl, rfl, by decide, by decide⟩ IW.blind (va_recv hK hP (ci := 4) (q0 := 0) rfl rfl) (IW.at hP hD hK hA hE hS) hl.1 (Nat.le_of_ble_eq_true rfl) dX5_make_25 rfl ⟨by decide, by decide⟩) (fun r_4 hr_4 => ?_)
      subst hr_4
      refine lv_if_ge (tgt := 35) hx hb dX5_make_28 (by decide) (fun c28 => ?_) (fun c28 => ?_)
      · skip
        refine lv_aload_n hx hb dX5_make_35 rfl (lv_at hl 0 rfl) ?_
        refine va_get (D := D) (ci := 4) (v := .int (nI n)) (C := RX5) (T := TX5) (N := 7) hx hb hG wu_X5 hown hK hP 0 rfl rfl 2 (by decide) (hG _ wf_X5_26) (fun _ h9 => h9) rfl dX5_make_36 ?_
        refine lv_sipush (v := (nI 200)) hx hb dX5_make_39 (by decide) ?_
        refine ln_icmp_ne (tgt := 49) hx hb dX5_make_42 (by decide) (by omega) (by decide) (fun c42 => ?_) (fun c42 => ?_)
        · skip
          refine lv_iconst (v := (nI 0)) hx hb dX5_make_49 (by decide) ?_
          refine W.top (y := .int (nI (mkc bd sd rt ps n x))) (congrArg Value.int (congrArg nI (by unfold mkc; first | rw [if_neg c13] | rw [if_pos c13, if_neg c28] | rw [if_pos c13, if_pos c28, if_pos c42] | rw [if_pos c13, if_pos c28, if_neg c42]))) ?_
          exact hj_50 ls (lv_sub hl [0, 1] rfl)
        · skip
          refine lv_iconst (v := (nI 3)) hx hb dX5_make_45 (by decide) ?_
          refine lv_goto (tgt := 50) hx hb dX5_make_46 (by decide) ?_
          refine W.top (y := .int (nI (mkc bd sd rt ps n x))) (congrArg Value.int (congrArg nI (by unfold mkc; first | rw [if_neg c13] | rw [if_pos c13, if_neg c28] | rw [if_pos c13, if_pos c28, if_pos c42] | rw [if_pos c13, if_pos c28, if_neg c42]))) ?_
          exact hj_50 ls (lv_sub hl [0, 1] rfl)
      · skip
        refine lv_iconst (v := (nI 2)) hx hb dX5_make_31 (by decide) ?_
        refine lv_goto (tgt := 50) hx hb dX5_make_32 (by decide) ?_
        refine W.top (y := .int (nI (mkc bd sd rt ps n x))) (congrArg Value.int (congrArg nI (by unfold mkc; first | rw [if_neg c13] | rw [if_pos c13, if_neg c28] | rw [if_pos c13, if_pos c28, if_pos c42] | rw [if_pos c13, if_pos c28, if_neg c42]))) ?_
        exact hj_50 ls (lv_sub hl [0, 1] rfl)
    · skip
      refine lv_aload_n hx hb dX5_make_16 rfl (lv_at hl 0 rfl) ?_
      refine va_get (D := D) (ci := 4) (v := .int (nI (ndN bd sd))) (C := RX5) (T := TX5) (N := 7) hx hb hG wu_X5 hown hK hP 0 rfl rfl 0 (by decide) (hG _ wf_X5_22) (fun _ h9 => h9) rfl dX5_make_17 ?_
      refine lv_goto (tgt := 50) hx hb dX5_make_20 (by decide) ?_
      refine W.top (y := .int (nI (mkc bd sd rt ps n x))) (congrArg Value.int (congrArg nI (by unfold mkc; first | rw [if_neg c13] | rw [if_pos c13, if_neg c28] | rw [if_pos c13, if_pos c28, if_pos c42] | rw [if_pos c13, if_pos c28, if_neg c42]))) ?_
      exact hj_50 ls (lv_sub hl [0, 1] rfl)
theorem dX5_pinned_0 : decode cX5_pinned 0 = .ok (.aload_n 0, 1) := by decide +kernel
theorem dX5_pinned_1 : decode cX5_pinned 1 = .ok (.aload_n 0, 1) := by decide +kernel
theorem dX5_pinned_2 : decode cX5_pinned 2 = .ok (.invokevirtual 67, 3) := by decide +kernel
theorem dX5_pinned_5 : decode cX5_pinned 5 = .ok (.ifCond .eq 7, 3) := by decide +kernel
theorem dX5_pinned_8 : decode cX5_pinned 8 = .ok (.iconst 0, 1) := by decide +kernel
theorem dX5_pinned_9 : decode cX5_pinned 9 = .ok (.goto 4, 3) := by decide +kernel
theorem dX5_pinned_12 : decode cX5_pinned 12 = .ok (.iconst 1, 1) := by decide +kernel
theorem dX5_pinned_13 : decode cX5_pinned 13 = .ok (.putfield 22, 3) := by decide +kernel
theorem dX5_pinned_16 : decode cX5_pinned 16 = .ok (.lconst 0, 1) := by decide +kernel
theorem dX5_pinned_17 : decode cX5_pinned 17 = .ok (.lstore_n 1, 1) := by decide +kernel
theorem dX5_pinned_18 : decode cX5_pinned 18 = .ok (.aload_n 0, 1) := by decide +kernel
theorem dX5_pinned_19 : decode cX5_pinned 19 = .ok (.getfield 7, 3) := by decide +kernel
theorem dX5_pinned_22 : decode cX5_pinned 22 = .ok (.bipush 64, 2) := by decide +kernel
theorem dX5_pinned_24 : decode cX5_pinned 24 = .ok (.iaload, 1) := by decide +kernel
theorem dX5_pinned_25 : decode cX5_pinned 25 = .ok (.istore_n 3, 1) := by decide +kernel
theorem dX5_pinned_26 : decode cX5_pinned 26 = .ok (.iconst 0, 1) := by decide +kernel
theorem dX5_pinned_27 : decode cX5_pinned 27 = .ok (.istore 4, 2) := by decide +kernel
theorem dX5_pinned_29 : decode cX5_pinned 29 = .ok (.iload 4, 2) := by decide +kernel
theorem dX5_pinned_31 : decode cX5_pinned 31 = .ok (.bipush 64, 2) := by decide +kernel
theorem dX5_pinned_33 : decode cX5_pinned 33 = .ok (.if_icmp .ge 193, 3) := by decide +kernel
theorem dX5_pinned_36 : decode cX5_pinned 36 = .ok (.aload_n 0, 1) := by decide +kernel
theorem dX5_pinned_37 : decode cX5_pinned 37 = .ok (.getfield 22, 3) := by decide +kernel
theorem dX5_pinned_40 : decode cX5_pinned 40 = .ok (.ifCond .ne 186, 3) := by decide +kernel
theorem dX5_pinned_43 : decode cX5_pinned 43 = .ok (.aload_n 0, 1) := by decide +kernel
theorem dX5_pinned_44 : decode cX5_pinned 44 = .ok (.getfield 7, 3) := by decide +kernel
theorem dX5_pinned_47 : decode cX5_pinned 47 = .ok (.iload 4, 2) := by decide +kernel
theorem dX5_pinned_49 : decode cX5_pinned 49 = .ok (.iaload, 1) := by decide +kernel
theorem dX5_pinned_50 : decode cX5_pinned 50 = .ok (.istore 5, 2) := by decide +kernel
theorem dX5_pinned_52 : decode cX5_pinned 52 = .ok (.iload 5, 2) := by decide +kernel
theorem dX5_pinned_54 : decode cX5_pinned 54 = .ok (.invokestatic 51, 3) := by decide +kernel
theorem dX5_pinned_57 : decode cX5_pinned 57 = .ok (.iload_n 3, 1) := by decide +kernel
theorem dX5_pinned_58 : decode cX5_pinned 58 = .ok (.if_icmp .ne 162, 3) := by decide +kernel
theorem dX5_pinned_61 : decode cX5_pinned 61 = .ok (.iload 5, 2) := by decide +kernel
theorem dX5_pinned_63 : decode cX5_pinned 63 = .ok (.invokestatic 40, 3) := by decide +kernel
theorem dX5_pinned_66 : decode cX5_pinned 66 = .ok (.bipush 6, 2) := by decide +kernel
theorem dX5_pinned_68 : decode cX5_pinned 68 = .ok (.if_icmp .eq 152, 3) := by decide +kernel
theorem dX5_pinned_71 : decode cX5_pinned 71 = .ok (.iconst 0, 1) := by decide +kernel
theorem dX5_pinned_72 : decode cX5_pinned 72 = .ok (.istore 6, 2) := by decide +kernel
theorem dX5_pinned_74 : decode cX5_pinned 74 = .ok (.iconst 0, 1) := by decide +kernel
theorem dX5_pinned_75 : decode cX5_pinned 75 = .ok (.istore 7, 2) := by decide +kernel
theorem dX5_pinned_77 : decode cX5_pinned 77 = .ok (.iload 7, 2) := by decide +kernel
theorem dX5_pinned_79 : decode cX5_pinned 79 = .ok (.bipush 64, 2) := by decide +kernel
theorem dX5_pinned_81 : decode cX5_pinned 81 = .ok (.if_icmp .ge 123, 3) := by decide +kernel
theorem dX5_pinned_84 : decode cX5_pinned 84 = .ok (.aload_n 0, 1) := by decide +kernel
theorem dX5_pinned_85 : decode cX5_pinned 85 = .ok (.getfield 7, 3) := by decide +kernel
theorem dX5_pinned_88 : decode cX5_pinned 88 = .ok (.iload 7, 2) := by decide +kernel
theorem dX5_pinned_90 : decode cX5_pinned 90 = .ok (.iaload, 1) := by decide +kernel
theorem dX5_pinned_91 : decode cX5_pinned 91 = .ok (.invokestatic 40, 3) := by decide +kernel
theorem dX5_pinned_94 : decode cX5_pinned 94 = .ok (.istore 8, 2) := by decide +kernel
theorem dX5_pinned_96 : decode cX5_pinned 96 = .ok (.aload_n 0, 1) := by decide +kernel
theorem dX5_pinned_97 : decode cX5_pinned 97 = .ok (.getfield 7, 3) := by decide +kernel
theorem dX5_pinned_100 : decode cX5_pinned 100 = .ok (.iload 7, 2) := by decide +kernel
theorem dX5_pinned_102 : decode cX5_pinned 102 = .ok (.iaload, 1) := by decide +kernel
theorem dX5_pinned_103 : decode cX5_pinned 103 = .ok (.invokestatic 51, 3) := by decide +kernel
theorem dX5_pinned_106 : decode cX5_pinned 106 = .ok (.iconst 1, 1) := by decide +kernel
theorem dX5_pinned_107 : decode cX5_pinned 107 = .ok (.iload_n 3, 1) := by decide +kernel
theorem dX5_pinned_108 : decode cX5_pinned 108 = .ok (.isub, 1) := by decide +kernel
theorem dX5_pinned_109 : decode cX5_pinned 109 = .ok (.if_icmp .ne 20, 3) := by decide +kernel
theorem dX5_pinned_112 : decode cX5_pinned 112 = .ok (.iload 8, 2) := by decide +kernel
theorem dX5_pinned_114 : decode cX5_pinned 114 = .ok (.iconst 2, 1) := by decide +kernel
theorem dX5_pinned_115 : decode cX5_pinned 115 = .ok (.if_icmp .le 14, 3) := by decide +kernel
theorem dX5_pinned_118 : decode cX5_pinned 118 = .ok (.iload 8, 2) := by decide +kernel
theorem dX5_pinned_120 : decode cX5_pinned 120 = .ok (.bipush 6, 2) := by decide +kernel
theorem dX5_pinned_122 : decode cX5_pinned 122 = .ok (.if_icmp .ge 7, 3) := by decide +kernel
theorem dX5_pinned_125 : decode cX5_pinned 125 = .ok (.iconst 1, 1) := by decide +kernel
theorem dX5_pinned_126 : decode cX5_pinned 126 = .ok (.goto 4, 3) := by decide +kernel
theorem dX5_pinned_129 : decode cX5_pinned 129 = .ok (.iconst 0, 1) := by decide +kernel
theorem dX5_pinned_130 : decode cX5_pinned 130 = .ok (.istore 9, 2) := by decide +kernel
theorem dX5_pinned_132 : decode cX5_pinned 132 = .ok (.iload 9, 2) := by decide +kernel
theorem dX5_pinned_134 : decode cX5_pinned 134 = .ok (.ifCond .eq 64, 3) := by decide +kernel
theorem dX5_pinned_137 : decode cX5_pinned 137 = .ok (.aload_n 0, 1) := by decide +kernel
theorem dX5_pinned_138 : decode cX5_pinned 138 = .ok (.iconst 0, 1) := by decide +kernel
theorem dX5_pinned_139 : decode cX5_pinned 139 = .ok (.iload 7, 2) := by decide +kernel
theorem dX5_pinned_141 : decode cX5_pinned 141 = .ok (.aload_n 0, 1) := by decide +kernel
theorem dX5_pinned_142 : decode cX5_pinned 142 = .ok (.iconst 0, 1) := by decide +kernel
theorem dX5_pinned_143 : decode cX5_pinned 143 = .ok (.iload_n 3, 1) := by decide +kernel
theorem dX5_pinned_144 : decode cX5_pinned 144 = .ok (.invokevirtual 57, 3) := by decide +kernel
theorem dX5_pinned_147 : decode cX5_pinned 147 = .ok (.invokevirtual 54, 3) := by decide +kernel
theorem dX5_pinned_150 : decode cX5_pinned 150 = .ok (.ifCond .ne 48, 3) := by decide +kernel
theorem dX5_pinned_153 : decode cX5_pinned 153 = .ok (.aload_n 0, 1) := by decide +kernel
theorem dX5_pinned_154 : decode cX5_pinned 154 = .ok (.getfield 7, 3) := by decide +kernel
theorem dX5_pinned_157 : decode cX5_pinned 157 = .ok (.iload 4, 2) := by decide +kernel
theorem dX5_pinned_159 : decode cX5_pinned 159 = .ok (.iconst 0, 1) := by decide +kernel
theorem dX5_pinned_160 : decode cX5_pinned 160 = .ok (.iastore, 1) := by decide +kernel
theorem dX5_pinned_161 : decode cX5_pinned 161 = .ok (.iload 6, 2) := by decide +kernel
theorem dX5_pinned_163 : decode cX5_pinned 163 = .ok (.ifCond .ne 19, 3) := by decide +kernel
theorem dX5_pinned_166 : decode cX5_pinned 166 = .ok (.aload_n 0, 1) := by decide +kernel
theorem dX5_pinned_167 : decode cX5_pinned 167 = .ok (.iconst 0, 1) := by decide +kernel
theorem dX5_pinned_168 : decode cX5_pinned 168 = .ok (.iload 7, 2) := by decide +kernel
theorem dX5_pinned_170 : decode cX5_pinned 170 = .ok (.aload_n 0, 1) := by decide +kernel
theorem dX5_pinned_171 : decode cX5_pinned 171 = .ok (.iconst 0, 1) := by decide +kernel
theorem dX5_pinned_172 : decode cX5_pinned 172 = .ok (.iload_n 3, 1) := by decide +kernel
theorem dX5_pinned_173 : decode cX5_pinned 173 = .ok (.invokevirtual 57, 3) := by decide +kernel
theorem dX5_pinned_176 : decode cX5_pinned 176 = .ok (.invokevirtual 54, 3) := by decide +kernel
theorem dX5_pinned_179 : decode cX5_pinned 179 = .ok (.ifCond .eq 7, 3) := by decide +kernel
theorem dX5_pinned_182 : decode cX5_pinned 182 = .ok (.iconst 1, 1) := by decide +kernel
theorem dX5_pinned_183 : decode cX5_pinned 183 = .ok (.goto 4, 3) := by decide +kernel
theorem dX5_pinned_186 : decode cX5_pinned 186 = .ok (.iconst 0, 1) := by decide +kernel
theorem dX5_pinned_187 : decode cX5_pinned 187 = .ok (.istore 6, 2) := by decide +kernel
theorem dX5_pinned_189 : decode cX5_pinned 189 = .ok (.aload_n 0, 1) := by decide +kernel
theorem dX5_pinned_190 : decode cX5_pinned 190 = .ok (.getfield 7, 3) := by decide +kernel
theorem dX5_pinned_193 : decode cX5_pinned 193 = .ok (.iload 4, 2) := by decide +kernel
theorem dX5_pinned_195 : decode cX5_pinned 195 = .ok (.iload 5, 2) := by decide +kernel
theorem dX5_pinned_197 : decode cX5_pinned 197 = .ok (.iastore, 1) := by decide +kernel
theorem dX5_pinned_198 : decode cX5_pinned 198 = .ok (.iinc 7 1, 3) := by decide +kernel
theorem dX5_pinned_201 : decode cX5_pinned 201 = .ok (.goto (-124), 3) := by decide +kernel
theorem dX5_pinned_204 : decode cX5_pinned 204 = .ok (.iload 6, 2) := by decide +kernel
theorem dX5_pinned_206 : decode cX5_pinned 206 = .ok (.ifCond .eq 12, 3) := by decide +kernel
theorem dX5_pinned_209 : decode cX5_pinned 209 = .ok (.lload_n 1, 1) := by decide +kernel
theorem dX5_pinned_210 : decode cX5_pinned 210 = .ok (.lconst 1, 1) := by decide +kernel
theorem dX5_pinned_211 : decode cX5_pinned 211 = .ok (.iload 4, 2) := by decide +kernel
theorem dX5_pinned_213 : decode cX5_pinned 213 = .ok (.lshl, 1) := by decide +kernel
theorem dX5_pinned_214 : decode cX5_pinned 214 = .ok (.lor, 1) := by decide +kernel
theorem dX5_pinned_215 : decode cX5_pinned 215 = .ok (.goto 4, 3) := by decide +kernel
theorem dX5_pinned_218 : decode cX5_pinned 218 = .ok (.lload_n 1, 1) := by decide +kernel
theorem dX5_pinned_219 : decode cX5_pinned 219 = .ok (.lstore_n 1, 1) := by decide +kernel
theorem dX5_pinned_220 : decode cX5_pinned 220 = .ok (.iinc 4 1, 3) := by decide +kernel
theorem dX5_pinned_223 : decode cX5_pinned 223 = .ok (.goto (-194), 3) := by decide +kernel
theorem dX5_pinned_226 : decode cX5_pinned 226 = .ok (.lload_n 1, 1) := by decide +kernel
theorem dX5_pinned_227 : decode cX5_pinned 227 = .ok (.lreturn, 1) := by decide +kernel
theorem hd_X5_pinned : yX5_pinned.cls ≠ "java/lang/invoke/MethodHandle" ∧ yX5_pinned.cls ≠ "java/lang/invoke/VarHandle" ∧ (parseMethodDescriptor yX5_pinned.desc).map (fun d => d.parameters.length) = some 0 := by decide +kernel
set_option maxHeartbeats 4000000 in
set_option maxRecDepth 100000 in
/-- pinned -/
theorem c_X5_pinned (l : Launch) {D : va_G} {cI cJ : ClassId} {A : Nat → Prop} {hm b0 b1 b2 b3 : Nat} {th mk sz : Int32} {F mv kp li : Nat → Int32} (bd : Nat → Nat) (sd rt ps : Nat) (hBd : Bd F 0 bd sd rt ps) : Met l yX5_pinned (Cond.code yX5_pinned cX5_pinned 10 (some .long) :: wsL_law) (rK 5) (va_Pc [.ref hm] (IW D cI cJ A (rW cI hm b0 b1 b2 b3 th mk sz F mv kp li))) (va_Ql (fun r _ => ndN bd sd = 0 → r = pnN bd sd 64) (fun (u : Unit) t => IW D cI cJ A (rW cI hm b0 b1 b2 b3 (nI (ndN bd sd)) mk sz F mv kp li) t) A) 0 0 A := by
  refine entM (by decide) (Nat.le_of_ble_eq_true rfl) ?_
  intro p e s m below meth c ls S0 hr hlocks hG hnm hB hl
  have hx := S0.1
  have hb := S0.2.1
  have hown := S0.2.2.2.1
  have hl : lv_has ls 10 [(0, .ref hm)] := hl
  obtain ⟨hP, hD, hK, hA, hE⟩ := hB
  have hS : va_S A s.heap s.heap [] := va_S.rf
  obtain ⟨hBp, hsd, hs2, hrt, hr16, hps, hp65⟩ := id hBd
  have hnd : ndN bd sd < 2 := by unfold ndN; split <;> omega
  have hat : ∀ q, q < 64 → F q = nI (bd q) ∧ bd q < 13 := fun q hq => by have := hBp q hq; rwa [Nat.zero_add] at this
  refine lv_aload_n hx hb dX5_pinned_0 rfl (lv_at hl 0 rfl) ?_
  refine lv_aload_n hx hb dX5_pinned_1 rfl (lv_at hl 0 rfl) ?_
  refine roI (rnV (As := []) (rest := [.ref hm]) S0 (c_X5_isPlayable l bd sd rt ps hBd) wm_X5_67 wi_X5_isPlayable ws_X5_isPlayable wn_X5 wc_X5_isPlayable hd_X5_isPlayable ⟨rfl, rfl, by decide, by decide⟩ IW.blind (va_recv hK hP (ci := 4) (q0 := 0) rfl rfl) (IW.at hP hD hK hA hE hS) hl.1 (Nat.le_of_ble_eq_true rfl) dX5_pinned_2 rfl ⟨by decide, by decide⟩) (fun r_1 hr_1 => ?_)
  subst hr_1
  refine jnG 13 10 [(0, .ref hm)] [.int (nI (ndN bd sd)), .ref hm] ?_ (fun hj_13 => ?_)
  · intro ls hl
    refine va_put (D := D) (ci := 4) (v := .int (nI (ndN bd sd))) (ty := .int) (C := RX5) (T := TX5) (N := 7) hx hb hG wu_X5 tyX5 tyX5_ok nmX5 hown hK hP hD hS 0 rfl rfl 0 (by decide) (hG _ wf_X5_22) (fun _ h9 => h9) rfl (by decide +kernel) rfl rfl (Nat.le_of_ble_eq_true rfl) dX5_pinned_13 (fun H locs hP hD hS => ?_)
    have hP : va_P D classes (rW cI hm b0 b1 b2 b3 (nI (ndN bd sd)) mk sz F mv kp li) H := hP
    have hD : va_D A (rW cI hm b0 b1 b2 b3 (nI (ndN bd sd)) mk sz F mv kp li) := hD
    refine lv_lconst (v := 0) hx hb dX5_pinned_16 (by decide) ?_
    refine W.top (y := .long (pnN bd sd 0)) (congrArg Value.long rfl) ?_
    refine lv_lstore_n (lv' := [(1, .long (pnN bd sd 0)), (0, .ref hm)]) hx hb dX5_pinned_17 rfl hl (by decide) rfl (fun ls hl => ?_)
    refine lv_aload_n hx hb dX5_pinned_18 rfl (lv_at hl 1 rfl) ?_
    refine va_get (D := D) (ci := 4) (v := .ref b0) (C := RX5) (T := TX5) (N := 7) hx hb hG wu_X5 hown hK hP 0 rfl rfl 1 (by decide) (hG _ wf_X5_7) (fun _ h9 => h9) rfl dX5_pinned_19 ?_
    refine lv_bipush (v := (nI 64)) hx hb dX5_pinned_22 (by decide) ?_
    refine va_iald hx hb hK hP 1 0 rfl rfl (vp_in_nI (by decide) (by decide)) dX5_pinned_24 ?_
    refine W.top (y := .int (F 64)) (congrArg (fun z => Value.int (F z)) (nI_clamp (by decide))) ?_
    refine W.top (y := .int (nI sd)) (congrArg Value.int hsd) ?_
    refine lv_istore_n (lv' := [(3, .int (nI sd)), (1, .long (pnN bd sd 0)), (0, .ref hm)]) hx hb dX5_pinned_25 rfl hl (by decide) rfl (fun ls hl => ?_)
    refine lv_iconst (v := (nI 0)) hx hb dX5_pinned_26 (by decide) ?_
    refine lv_istore (lv' := [(4, .int (nI 0)), (3, .int (nI sd)), (1, .long (pnN bd sd 0)), (0, .ref hm)]) hx hb dX5_pinned_27 hl (by decide) rfl (fun ls hl => ?_)
    refine lpW (σ := (Nat)) 29 10 [] (fun x9 => [(0, .ref hm), (1, .long (pnN bd sd x9)), (3, .int (nI sd)), (4, .int (nI x9))]) (fun x9 => rW cI hm b0 b1 b2 b3 (nI (ndN bd sd)) mk sz F mv kp li) (fun x9 => x9 ≤ 64) (fun x9 => 64 - x9) 0 (Nat.zero_le _) (lv_sub hl [3, 2, 1, 0] rfl) hP hD hS ?_
    clear hP hD hS hl ls
    rintro i H locs hI hP hD hS ih_29 ls hl
    try dsimp only at hI ih_29 hl hP hD
    refine lv_iload hx hb dX5_pinned_29 (lv_at hl 3 rfl) ?_
    refine lv_bipush (v := (nI 64)) hx hb dX5_pinned_31 (by decide) ?_
    refine ln_icmp_ge (tgt := 226) hx hb dX5_pinned_33 (by decide) (by omega) (by decide) (fun c33 => ?_) (fun c33 => ?_)
    · skip
      refine lv_lload_n hx hb dX5_pinned_226 rfl (lv_at hl 1 rfl) ?_
      exact weL (()) hx hb hr hlocks dX5_pinned_227 (fun z => by first | exact absurd z c40 | rw [show i = 64 by omega]) hP hD hK hA hE hS
    · skip
      have hi : i < 64 := by omega
      obtain ⟨hvi, hbi⟩ := hat i hi
      have hki := kd_lt hbi
      refine lv_aload_n hx hb dX5_pinned_36 rfl (lv_at hl 0 rfl) ?_
      refine va_get (D := D) (ci := 4) (v := .int (nI (ndN bd sd))) (C := RX5) (T := TX5) (N := 7) hx hb hG wu_X5 hown hK hP 0 rfl rfl 0 (by decide) (hG _ wf_X5_22) (fun _ h9 => h9) rfl dX5_pinned_37 ?_
      refine ln_if_ne (tgt := 226) hx hb dX5_pinned_40 (by decide) (by omega) (fun c40 => ?_) (fun c40 => ?_)
      · skip
        refine lv_lload_n hx hb dX5_pinned_226 rfl (lv_at hl 1 rfl) ?_
        exact weL (()) hx hb hr hlocks dX5_pinned_227 (fun z => by first | exact absurd z c40 | rw [show i = 64 by omega]) hP hD hK hA hE hS
      · skip
        have hpl := ndN_0.mp c40
        have hkg := plb_k hs2 hpl
        refine lv_aload_n hx hb dX5_pinned_43 rfl (lv_at hl 0 rfl) ?_
        refine va_get (D := D) (ci := 4) (v := .ref b0) (C := RX5) (T := TX5) (N := 7) hx hb hG wu_X5 hown hK hP 0 rfl rfl 1 (by decide) (hG _ wf_X5_7) (fun _ h9 => h9) rfl dX5_pinned_44 ?_
        refine lv_iload hx hb dX5_pinned_47 (lv_at hl 3 rfl) ?_
        refine va_iald hx hb hK hP 1 0 rfl rfl (vp_in_nI (by omega) (by decide)) dX5_pinned_49 ?_
        refine W.top (y := .int (F i)) (congrArg (fun z => Value.int (F z)) (nI_clamp (by omega))) ?_
        refine W.top (y := .int (nI (bd i))) (congrArg Value.int hvi) ?_
        refine lv_istore (lv' := [(5, .int (nI (bd i))), (0, .ref hm), (1, .long (pnN bd sd i)), (3, .int (nI sd)), (4, .int (nI i))]) hx hb dX5_pinned_50 hl (by decide) rfl (fun ls hl => ?_)
        refine lv_iload hx hb dX5_pinned_52 (lv_at hl 0 rfl) ?_
        refine roI (rnS (As := [.int (nI (bd i))]) (rest := []) S0 (c_X5_sideOf l (bd i) (by omega)) wm_X5_51 wt_X5_sideOf wn_X5 wc_X5_sideOf hd_X5_sideOf ⟨rfl, rfl, by decide, by decide⟩ True.blind (fun _ _ _ => trivial) hl.1 (Nat.le_of_ble_eq_true rfl) dX5_pinned_54 rfl ⟨by decide, by decide⟩) (fun r_2 hr_2 => ?_)
        subst hr_2
        refine lv_iload_n hx hb dX5_pinned_57 rfl (lv_at hl 3 rfl) ?_
        refine jnW (σ := (Unit)) (D := D) (A := A) (H0 := s.heap) 220 10 (fun x9 => [(0, .ref hm), (1, .long (pnN bd sd (i + 1))), (3, .int (nI sd)), (4, .int (nI i))]) [] (fun x9 => rW cI hm b0 b1 b2 b3 (nI (ndN bd sd)) mk sz F mv kp li) (fun x9 => True) ?_ (fun hj_220 => ?_)
        · clear hP hD hS hl ls
          rintro z H locs hI hP hD hS ls hl
          try dsimp only at hI hP hD hl
          refine lv_iinc (v := (nI (i + 1))) (lv' := [(4, .int (nI (i + 1))), (0, .ref hm), (1, .long (pnN bd sd (i + 1))), (3, .int (nI sd))]) hx hb dX5_pinned_220 hl (k := 3) rfl (show nI i + Int32.ofInt 1 = nI (i + 1) from nI_add _ 1) (by decide) rfl (fun ls hl => ?_)
          refine lv_goto (tgt := 29) hx hb dX5_pinned_223 (by decide) ?_
          exact ih_29 (i + 1) _ _ (by omega) (by (try dsimp only); omega) hP hD hS ls (lv_sub hl [1, 2, 3, 0] rfl)
        · skip
          refine lv_icmp_ne (tgt := 220) hx hb dX5_pinned_58 (by decide) (fun c58 => ?_) (fun c58 => ?_)
          · skip
            rw [sdI_eq hs2] at c58
            have hpe : pnN bd sd i = pnN bd sd (i + 1) := pnN_no (by unfold pnq; rw [decide_eq_false c58]; rfl)
            rw [hpe] at hl
            exact hj_220 () _ _ trivial hP hD hS ls (lv_sub hl [1, 2, 3, 4] rfl)
          · skip
            rw [sdI_eq hs2] at c58
            refine lv_iload hx hb dX5_pinned_61 (lv_at hl 0 rfl) ?_
            refine roI (rnS (As := [.int (nI (bd i))]) (rest := []) S0 (c_X5_kindOf l (bd i) (by omega)) wm_X5_40 wt_X5_kindOf wn_X5 wc_X5_kindOf hd_X5_kindOf ⟨rfl, rfl, by decide, by decide⟩ True.blind (fun _ _ _ => trivial) hl.1 (Nat.le_of_ble_eq_true rfl) dX5_pinned_63 rfl ⟨by decide, by decide⟩) (fun r_3 hr_3 => ?_)
            subst hr_3
            refine lv_bipush (v := (nI 6)) hx hb dX5_pinned_66 (by decide) ?_
            refine ln_icmp_eq (tgt := 220) hx hb dX5_pinned_68 (by decide) (by omega) (by decide) (fun c68 => ?_) (fun c68 => ?_)
            · skip
              have hpe : pnN bd sd i = pnN bd sd (i + 1) := pnN_no (by unfold pnq; rw [decide_eq_true c58, decide_eq_true c68]; rfl)
              rw [hpe] at hl
              exact hj_220 () _ _ trivial hP hD hS ls (lv_sub hl [1, 2, 3, 4] rfl)
            · skip
              refine lv_iconst (v := (nI 0)) hx hb dX5_pinned_71 (by decide) ?_
              refine W.top (y := .int (bI (mor bd sd i 0))) (congrArg Value.int rfl) ?_
              refine lv_istore (lv' := [(6, .int (bI (mor bd sd i 0))), (5, .int (nI (bd i))), (0, .ref hm), (1, .long (pnN bd sd i)), (3, .int (nI sd)), (4, .int (nI i))]) hx hb dX5_pinned_72 hl (by decide) rfl (fun ls hl => ?_)
              refine lv_iconst (v := (nI 0)) hx hb dX5_pinned_74 (by decide) ?_
              refine lv_istore (lv' := [(7, .int (nI 0)), (6, .int (bI (mor bd sd i 0))), (5, .int (nI (bd i))), (0, .ref hm), (1, .long (pnN bd sd i)), (3, .int (nI sd)), (4, .int (nI i))]) hx hb dX5_pinned_75 hl (by decide) rfl (fun ls hl => ?_)
              refine lpW (σ := (Nat)) 77 10 [] (fun x9 => [(0, .ref hm), (1, .long (pnN bd sd i)), (3, .int (nI sd)), (4, .int (nI i)), (5, .int (nI (bd i))), (6, .int (bI (mor bd sd i x9))), (7, .int (nI x9))]) (fun x9 => rW cI hm b0 b1 b2 b3 (nI (ndN bd sd)) mk sz F mv kp li) (fun x9 => x9 ≤ 64) (fun x9 => 64 - x9) 0 (Nat.zero_le _) (lv_sub hl [3, 4, 5, 6, 2, 1, 0] rfl) hP hD hS ?_
              clear hP hD hS hl ls
              rintro t H locs hI hP hD hS ih_77 ls hl
              try dsimp only at hI ih_77 hl hP hD
              refine lv_iload hx hb dX5_pinned_77 (lv_at hl 6 rfl) ?_
              refine lv_bipush (v := (nI 64)) hx hb dX5_pinned_79 (by decide) ?_
              refine ln_icmp_ge (tgt := 204) hx hb dX5_pinned_81 (by decide) (by omega) (by decide) (fun c81 => ?_) (fun c81 => ?_)
              · skip
                have ht64 : t = 64 := by omega
                refine lv_iload hx hb dX5_pinned_204 (lv_at hl 5 rfl) ?_
                refine jnG 219 10 [(0, .ref hm), (1, .long (pnN bd sd i)), (3, .int (nI sd)), (4, .int (nI i)), (5, .int (nI (bd i))), (6, .int (bI (mor bd sd i t))), (7, .int (nI t))] [.long (pnN bd sd (i + 1))] ?_ (fun hj_219 => ?_)
                · intro ls hl
                  refine lv_lstore_n (lv' := [(1, .long (pnN bd sd (i + 1))), (0, .ref hm), (3, .int (nI sd)), (4, .int (nI i)), (5, .int (nI (bd i))), (6, .int (bI (mor bd sd i t))), (7, .int (nI t))]) hx hb dX5_pinned_219 rfl hl (by decide) rfl (fun ls hl => ?_)
                  exact hj_220 () _ _ trivial hP hD hS ls (lv_sub hl [1, 0, 2, 3] rfl)
                · skip
                  refine lb_if_eq (tgt := 218) hx hb dX5_pinned_206 (by decide) (fun c206 => ?_) (fun c206 => ?_)
                  · skip
                    rw [ht64] at c206
                    refine lv_lload_n hx hb dX5_pinned_218 rfl (lv_at hl 1 rfl) ?_
                    refine W.top (y := .long (pnN bd sd (i + 1))) (congrArg Value.long (by first | exact pnN_yes (by unfold pnq; rw [decide_eq_true c58, decide_eq_false c68, c206]; rfl) | exact pnN_no (by unfold pnq; rw [decide_eq_true c58, decide_eq_false c68, c206]; rfl))) ?_
                    exact hj_219 ls (lv_sub hl [0, 1, 2, 3, 4, 5, 6] rfl)
                  · skip
                    rw [ht64] at c206
                    refine lv_lload_n hx hb dX5_pinned_209 rfl (lv_at hl 1 rfl) ?_
                    refine lv_lconst (v := 1) hx hb dX5_pinned_210 (by decide) ?_
                    refine lv_iload hx hb dX5_pinned_211 (lv_at hl 3 rfl) ?_
                    refine lv_lshl (v := bsl 1 (nI i)) hx hb dX5_pinned_213 rfl ?_
                    refine lv_lor hx hb dX5_pinned_214 ?_
                    refine lv_goto (tgt := 219) hx hb dX5_pinned_215 (by decide) ?_
                    refine W.top (y := .long (pnN bd sd (i + 1))) (congrArg Value.long (by first | exact pnN_yes (by unfold pnq; rw [decide_eq_true c58, decide_eq_false c68, c206]; rfl) | exact pnN_no (by unfold pnq; rw [decide_eq_true c58, decide_eq_false c68, c206]; rfl))) ?_
                    exact hj_219 ls (lv_sub hl [0, 1, 2, 3, 4, 5, 6] rfl)
              · skip
                have ht : t < 64 := by omega
                obtain ⟨hvt, hbt⟩ := hat t ht
                have hkt := kd_lt hbt
                refine lv_aload_n hx hb dX5_pinned_84 rfl (lv_at hl 0 rfl) ?_
                refine va_get (D := D) (ci := 4) (v := .ref b0) (C := RX5) (T := TX5) (N := 7) hx hb hG wu_X5 hown hK hP 0 rfl rfl 1 (by decide) (hG _ wf_X5_7) (fun _ h9 => h9) rfl dX5_pinned_85 ?_
                refine lv_iload hx hb dX5_pinned_88 (lv_at hl 6 rfl) ?_
                refine va_iald hx hb hK hP 1 0 rfl rfl (vp_in_nI (by omega) (by decide)) dX5_pinned_90 ?_
                refine W.top (y := .int (F t)) (congrArg (fun z => Value.int (F z)) (nI_clamp (by omega))) ?_
                refine W.top (y := .int (nI (bd t))) (congrArg Value.int hvt) ?_
                refine roI (rnS (As := [.int (nI (bd t))]) (rest := []) S0 (c_X5_kindOf l (bd t) (by omega)) wm_X5_40 wt_X5_kindOf wn_X5 wc_X5_kindOf hd_X5_kindOf ⟨rfl, rfl, by decide, by decide⟩ True.blind (fun _ _ _ => trivial) hl.1 (Nat.le_of_ble_eq_true rfl) dX5_pinned_91 rfl ⟨by decide, by decide⟩) (fun r_4 hr_4 => ?_)
                subst hr_4
                refine lv_istore (lv' := [(8, .int (nI (kd (bd t)))), (0, .ref hm), (1, .long (pnN bd sd i)), (3, .int (nI sd)), (4, .int (nI i)), (5, .int (nI (bd i))), (6, .int (bI (mor bd sd i t))), (7, .int (nI t))]) hx hb dX5_pinned_94 hl (by decide) rfl (fun ls hl => ?_)
                refine lv_aload_n hx hb dX5_pinned_96 rfl (lv_at hl 1 rfl) ?_
                refine va_get (D := D) (ci := 4) (v := .ref b0) (C := RX5) (T := TX5) (N := 7) hx hb hG wu_X5 hown hK hP 0 rfl rfl 1 (by decide) (hG _ wf_X5_7) (fun _ h9 => h9) rfl dX5_pinned_97 ?_
                refine lv_iload hx hb dX5_pinned_100 (lv_at hl 7 rfl) ?_
                refine va_iald hx hb hK hP 1 0 rfl rfl (vp_in_nI (by omega) (by decide)) dX5_pinned_102 ?_
                refine W.top (y := .int (F t)) (congrArg (fun z => Value.int (F z)) (nI_clamp (by omega))) ?_
                refine W.top (y := .int (nI (bd t))) (congrArg Value.int hvt) ?_
                refine roI (rnS (As := [.int (nI (bd t))]) (rest := []) S0 (c_X5_sideOf l (bd t) (by omega)) wm_X5_51 wt_X5_sideOf wn_X5 wc_X5_sideOf hd_X5_sideOf ⟨rfl, rfl, by decide, by decide⟩ True.blind (fun _ _ _ => trivial) hl.1 (Nat.le_of_ble_eq_true rfl) dX5_pinned_103 rfl ⟨by decide, by decide⟩) (fun r_5 hr_5 => ?_)
                subst hr_5
                refine lv_iconst (v := (nI 1)) hx hb dX5_pinned_106 (by decide) ?_
                refine lv_iload_n hx hb dX5_pinned_107 rfl (lv_at hl 3 rfl) ?_
                refine ln_isub hx hb dX5_pinned_108 (by omega) ?_
                refine jnG 130 10 [(8, .int (nI (kd (bd t)))), (0, .ref hm), (1, .long (pnN bd sd i)), (3, .int (nI sd)), (4, .int (nI i)), (5, .int (nI (bd i))), (6, .int (bI (mor bd sd i t))), (7, .int (nI t))] [.int (bI (slq bd sd t))] ?_ (fun hj_130 => ?_)
                · intro ls hl
                  refine lv_istore (lv' := [(9, .int (bI (slq bd sd t))), (8, .int (nI (kd (bd t)))), (0, .ref hm), (1, .long (pnN bd sd i)), (3, .int (nI sd)), (4, .int (nI i)), (5, .int (nI (bd i))), (6, .int (bI (mor bd sd i t))), (7, .int (nI t))]) hx hb dX5_pinned_130 hl (by decide) rfl (fun ls hl => ?_)
                  refine lv_iload hx hb dX5_pinned_132 (lv_at hl 0 rfl) ?_
                  refine jnW (σ := (Unit)) (D := D) (A := A) (H0 := s.heap) 198 10 (fun x9 => [(0, .ref hm), (1, .long (pnN bd sd i)), (3, .int (nI sd)), (4, .int (nI i)), (5, .int (nI (bd i))), (6, .int (bI (mor bd sd i (t + 1)))), (7, .int (nI t))]) [] (fun x9 => rW cI hm b0 b1 b2 b3 (nI (ndN bd sd)) mk sz F mv kp li) (fun x9 => True) ?_ (fun hj_198 => ?_)
                  · clear hP hD hS hl ls
                    rintro z H locs hI hP hD hS ls hl
                    try dsimp only at hI hP hD hl
                    refine lv_iinc (v := (nI (t + 1))) (lv' := [(7, .int (nI (t + 1))), (0, .ref hm), (1, .long (pnN bd sd i)), (3, .int (nI sd)), (4, .int (nI i)), (5, .int (nI (bd i))), (6, .int (bI (mor bd sd i (t + 1))))]) hx hb dX5_pinned_198 hl (k := 6) rfl (show nI t + Int32.ofInt 1 = nI (t + 1) from nI_add _ 1) (by decide) rfl (fun ls hl => ?_)
                    refine lv_goto (tgt := 77) hx hb dX5_pinned_201 (by decide) ?_
                    exact ih_77 (t + 1) _ _ (by omega) (by (try dsimp only); omega) hP hD hS ls (lv_sub hl [1, 2, 3, 4, 5, 6, 0] rfl)
                  · skip
                    refine lb_if_eq (tgt := 198) hx hb dX5_pinned_134 (by decide) (fun c134 => ?_) (fun c134 => ?_)
                    · skip
                      have hms : mor bd sd i t = mor bd sd i (t + 1) := by rw [mor_s]; unfold moq; rw [c134, Bool.false_and, Bool.or_false]
                      rw [hms] at hl
                      exact hj_198 () _ _ trivial hP hD hS ls (lv_sub hl [2, 3, 4, 5, 6, 7, 8] rfl)
                    · skip
                      refine lv_aload_n hx hb dX5_pinned_137 rfl (lv_at hl 2 rfl) ?_
                      refine lv_iconst (v := (nI 0)) hx hb dX5_pinned_138 (by decide) ?_
                      refine lv_iload hx hb dX5_pinned_139 (lv_at hl 8 rfl) ?_
                      refine lv_aload_n hx hb dX5_pinned_141 rfl (lv_at hl 2 rfl) ?_
                      refine lv_iconst (v := (nI 0)) hx hb dX5_pinned_142 (by decide) ?_
                      refine lv_iload_n hx hb dX5_pinned_143 rfl (lv_at hl 4 rfl) ?_
                      refine roI (rnV (As := [.int (nI 0), .int (nI sd)]) (rest := [.int (nI t), .int (nI 0), .ref hm]) S0 (c_X5_kingOf l bd 0 sd (by decide) hs2 hBp) wm_X5_57 wi_X5_kingOf ws_X5_kingOf wn_X5 wc_X5_kingOf hd_X5_kingOf ⟨rfl, rfl, by decide, by decide⟩ IW.blind (va_recv hK hP (ci := 4) (q0 := 0) rfl rfl) (IW.at hP hD hK hA hE hS) hl.1 (Nat.le_of_ble_eq_true rfl) dX5_pinned_144 rfl ⟨by decide, by decide⟩) (fun r_6 hr_6 => ?_)
                      subst hr_6
                      refine W.top (y := .int (nI (kgs bd sd))) (congrArg Value.int (pI_lt hkg)) ?_
                      refine roI (rnV (As := [.int (nI 0), .int (nI t), .int (nI (kgs bd sd))]) (rest := []) S0 (c_X5_attacks l bd 0 t (kgs bd sd) (by decide) ht hkg hBp) wm_X5_54 wi_X5_attacks ws_X5_attacks wn_X5 wc_X5_attacks hd_X5_attacks ⟨rfl, rfl, by decide, by decide⟩ IW.blind (va_recv hK hP (ci := 4) (q0 := 0) rfl rfl) (IW.at hP hD hK hA hE hS) hl.1 (Nat.le_of_ble_eq_true rfl) dX5_pinned_147 rfl ⟨by decide, by decide⟩) (fun r_7 hr_7 => ?_)
                      subst hr_7
                      refine lb_if_ne (tgt := 198) hx hb dX5_pinned_150 (by decide) (fun c150 => ?_) (fun c150 => ?_)
                      · skip
                        have hms : mor bd sd i t = mor bd sd i (t + 1) := by rw [mor_s]; unfold moq; rw [c134, c150]; simp
                        rw [hms] at hl
                        exact hj_198 () _ _ trivial hP hD hS ls (lv_sub hl [2, 3, 4, 5, 6, 7, 8] rfl)
                      · skip
                        refine lv_aload_n hx hb dX5_pinned_153 rfl (lv_at hl 2 rfl) ?_
                        refine va_get (D := D) (ci := 4) (v := .ref b0) (C := RX5) (T := TX5) (N := 7) hx hb hG wu_X5 hown hK hP 0 rfl rfl 1 (by decide) (hG _ wf_X5_7) (fun _ h9 => h9) rfl dX5_pinned_154 ?_
                        refine lv_iload hx hb dX5_pinned_157 (lv_at hl 5 rfl) ?_
                        refine lv_iconst (v := (nI 0)) hx hb dX5_pinned_159 (by decide) ?_
                        refine va_iast hx hb hK hP hD hS 1 0 rfl rfl (vp_in_nI (by omega) (by decide)) dX5_pinned_160 (fun H locs hP hD hS => ?_)
                        rw [nI_clamp (show i < 2 ^ 31 by omega)] at hP hD
                        have hP : va_P D classes (rW cI hm b0 b1 b2 b3 (nI (ndN bd sd)) mk sz (upd F i (nI 0)) mv kp li) H := hP
                        have hD : va_D A (rW cI hm b0 b1 b2 b3 (nI (ndN bd sd)) mk sz (upd F i (nI 0)) mv kp li) := hD
                        have hB2 : Bp (upd F i (nI 0)) 0 (upN bd i 0) := by
                          have := Bp_in hBp hi (show 0 < 13 by decide); rwa [Nat.zero_add] at this
                        refine lv_iload hx hb dX5_pinned_161 (lv_at hl 7 rfl) ?_
                        refine jnG 187 10 [(9, .int (bI (slq bd sd t))), (8, .int (nI (kd (bd t)))), (0, .ref hm), (1, .long (pnN bd sd i)), (3, .int (nI sd)), (4, .int (nI i)), (5, .int (nI (bd i))), (6, .int (bI (mor bd sd i t))), (7, .int (nI t))] [.int (bI (mor bd sd i (t + 1)))] ?_ (fun hj_187 => ?_)
                        · intro ls hl
                          refine lv_istore (lv' := [(6, .int (bI (mor bd sd i (t + 1)))), (9, .int (bI (slq bd sd t))), (8, .int (nI (kd (bd t)))), (0, .ref hm), (1, .long (pnN bd sd i)), (3, .int (nI sd)), (4, .int (nI i)), (5, .int (nI (bd i))), (7, .int (nI t))]) hx hb dX5_pinned_187 hl (by decide) rfl (fun ls hl => ?_)
                          refine lv_aload_n hx hb dX5_pinned_189 rfl (lv_at hl 3 rfl) ?_
                          refine va_get (D := D) (ci := 4) (v := .ref b0) (C := RX5) (T := TX5) (N := 7) hx hb hG wu_X5 hown hK hP 0 rfl rfl 1 (by decide) (hG _ wf_X5_7) (fun _ h9 => h9) rfl dX5_pinned_190 ?_
                          refine lv_iload hx hb dX5_pinned_193 (lv_at hl 6 rfl) ?_
                          refine lv_iload hx hb dX5_pinned_195 (lv_at hl 7 rfl) ?_
                          refine va_iast hx hb hK hP hD hS 1 0 rfl rfl (vp_in_nI (by omega) (by decide)) dX5_pinned_197 (fun H locs hP hD hS => ?_)
                          rw [nI_clamp (show i < 2 ^ 31 by omega)] at hP hD
                          have hP : va_P D classes (rW cI hm b0 b1 b2 b3 (nI (ndN bd sd)) mk sz (upd (upd F i (nI 0)) i (nI (bd i))) mv kp li) H := hP
                          have hD : va_D A (rW cI hm b0 b1 b2 b3 (nI (ndN bd sd)) mk sz (upd (upd F i (nI 0)) i (nI (bd i))) mv kp li) := hD
                          rw [upd_bk hvi] at hP hD
                          have hP : va_P D classes (rW cI hm b0 b1 b2 b3 (nI (ndN bd sd)) mk sz F mv kp li) H := hP
                          have hD : va_D A (rW cI hm b0 b1 b2 b3 (nI (ndN bd sd)) mk sz F mv kp li) := hD
                          exact hj_198 () _ _ trivial hP hD hS ls (lv_sub hl [3, 4, 5, 6, 7, 0, 8] rfl)
                        · skip
                          refine lb_if_ne (tgt := 182) hx hb dX5_pinned_163 (by decide) (fun c163 => ?_) (fun c163 => ?_)
                          · skip
                            refine lv_iconst (v := (nI 1)) hx hb dX5_pinned_182 (by decide) ?_
                            refine lv_goto (tgt := 187) hx hb dX5_pinned_183 (by decide) ?_
                            refine W.top (y := .int (bI (mor bd sd i (t + 1)))) (congrArg Value.int (by rw [mor_s]; unfold moq; first | (rw [c163]; rfl) | (rw [c163, c134, c150, c179]; rfl))) ?_
                            exact hj_187 ls (lv_sub hl [0, 1, 2, 3, 4, 5, 6, 7, 8] rfl)
                          · skip
                            refine lv_aload_n hx hb dX5_pinned_166 rfl (lv_at hl 2 rfl) ?_
                            refine lv_iconst (v := (nI 0)) hx hb dX5_pinned_167 (by decide) ?_
                            refine lv_iload hx hb dX5_pinned_168 (lv_at hl 8 rfl) ?_
                            refine lv_aload_n hx hb dX5_pinned_170 rfl (lv_at hl 2 rfl) ?_
                            refine lv_iconst (v := (nI 0)) hx hb dX5_pinned_171 (by decide) ?_
                            refine lv_iload_n hx hb dX5_pinned_172 rfl (lv_at hl 4 rfl) ?_
                            refine roI (rnV (As := [.int (nI 0), .int (nI sd)]) (rest := [.int (nI t), .int (nI 0), .ref hm]) S0 (c_X5_kingOf l (upN bd i 0) 0 sd (by decide) hs2 hB2) wm_X5_57 wi_X5_kingOf ws_X5_kingOf wn_X5 wc_X5_kingOf hd_X5_kingOf ⟨rfl, rfl, by decide, by decide⟩ IW.blind (va_recv hK hP (ci := 4) (q0 := 0) rfl rfl) (IW.at hP hD hK hA hE hS) hl.1 (Nat.le_of_ble_eq_true rfl) dX5_pinned_173 rfl ⟨by decide, by decide⟩) (fun r_8 hr_8 => ?_)
                            subst hr_8
                            refine W.top (y := .int (nI (kgs bd sd))) (congrArg Value.int (by rw [kgs_up0 hi hs2 c68]; exact pI_lt hkg)) ?_
                            refine roI (rnV (As := [.int (nI 0), .int (nI t), .int (nI (kgs bd sd))]) (rest := []) S0 (c_X5_attacks l (upN bd i 0) 0 t (kgs bd sd) (by decide) ht hkg hB2) wm_X5_54 wi_X5_attacks ws_X5_attacks wn_X5 wc_X5_attacks hd_X5_attacks ⟨rfl, rfl, by decide, by decide⟩ IW.blind (va_recv hK hP (ci := 4) (q0 := 0) rfl rfl) (IW.at hP hD hK hA hE hS) hl.1 (Nat.le_of_ble_eq_true rfl) dX5_pinned_176 rfl ⟨by decide, by decide⟩) (fun r_9 hr_9 => ?_)
                            subst hr_9
                            refine lb_if_eq (tgt := 186) hx hb dX5_pinned_179 (by decide) (fun c179 => ?_) (fun c179 => ?_)
                            · skip
                              refine lv_iconst (v := (nI 0)) hx hb dX5_pinned_186 (by decide) ?_
                              refine W.top (y := .int (bI (mor bd sd i (t + 1)))) (congrArg Value.int (by rw [mor_s]; unfold moq; first | (rw [c163]; rfl) | (rw [c163, c134, c150, c179]; rfl))) ?_
                              exact hj_187 ls (lv_sub hl [0, 1, 2, 3, 4, 5, 6, 7, 8] rfl)
                            · skip
                              refine lv_iconst (v := (nI 1)) hx hb dX5_pinned_182 (by decide) ?_
                              refine lv_goto (tgt := 187) hx hb dX5_pinned_183 (by decide) ?_
                              refine W.top (y := .int (bI (mor bd sd i (t + 1)))) (congrArg Value.int (by rw [mor_s]; unfold moq; first | (rw [c163]; rfl) | (rw [c163, c134, c150, c179]; rfl))) ?_
                              exact hj_187 ls (lv_sub hl [0, 1, 2, 3, 4, 5, 6, 7, 8] rfl)
                · skip
                  refine lv_icmp_ne (tgt := 129) hx hb dX5_pinned_109 (by decide) (fun c109 => ?_) (fun c109 => ?_)
                  · skip
                    rw [sdI_eq (by omega)] at c109
                    refine lv_iconst (v := (nI 0)) hx hb dX5_pinned_129 (by decide) ?_
                    refine W.top (y := .int (bI (slq bd sd t))) (congrArg Value.int (by unfold slq; first | (rw [decide_eq_false c109]; rfl) | (rw [decide_eq_true c109, decide_eq_false (show ¬ 2 < kd (bd t) by omega)]; rfl) | (rw [decide_eq_true c109, decide_eq_true (show 2 < kd (bd t) by omega), decide_eq_false (show ¬ kd (bd t) < 6 by omega)]; rfl) | (rw [decide_eq_true c109, decide_eq_true (show 2 < kd (bd t) by omega), decide_eq_true (show kd (bd t) < 6 by omega)]; rfl))) ?_
                    exact hj_130 ls (lv_sub hl [0, 1, 2, 3, 4, 5, 6, 7] rfl)
                  · skip
                    rw [sdI_eq (by omega)] at c109
                    refine lv_iload hx hb dX5_pinned_112 (lv_at hl 0 rfl) ?_
                    refine lv_iconst (v := (nI 2)) hx hb dX5_pinned_114 (by decide) ?_
                    refine ln_icmp_le (tgt := 129) hx hb dX5_pinned_115 (by decide) (by omega) (by decide) (fun c115 => ?_) (fun c115 => ?_)
                    · skip
                      refine lv_iconst (v := (nI 0)) hx hb dX5_pinned_129 (by decide) ?_
                      refine W.top (y := .int (bI (slq bd sd t))) (congrArg Value.int (by unfold slq; first | (rw [decide_eq_false c109]; rfl) | (rw [decide_eq_true c109, decide_eq_false (show ¬ 2 < kd (bd t) by omega)]; rfl) | (rw [decide_eq_true c109, decide_eq_true (show 2 < kd (bd t) by omega), decide_eq_false (show ¬ kd (bd t) < 6 by omega)]; rfl) | (rw [decide_eq_true c109, decide_eq_true (show 2 < kd (bd t) by omega), decide_eq_true (show kd (bd t) < 6 by omega)]; rfl))) ?_
                      exact hj_130 ls (lv_sub hl [0, 1, 2, 3, 4, 5, 6, 7] rfl)
                    · skip
                      refine lv_iload hx hb dX5_pinned_118 (lv_at hl 0 rfl) ?_
                      refine lv_bipush (v := (nI 6)) hx hb dX5_pinned_120 (by decide) ?_
                      refine ln_icmp_ge (tgt := 129) hx hb dX5_pinned_122 (by decide) (by omega) (by decide) (fun c122 => ?_) (fun c122 => ?_)
                      · skip
                        refine lv_iconst (v := (nI 0)) hx hb dX5_pinned_129 (by decide) ?_
                        refine W.top (y := .int (bI (slq bd sd t))) (congrArg Value.int (by unfold slq; first | (rw [decide_eq_false c109]; rfl) | (rw [decide_eq_true c109, decide_eq_false (show ¬ 2 < kd (bd t) by omega)]; rfl) | (rw [decide_eq_true c109, decide_eq_true (show 2 < kd (bd t) by omega), decide_eq_false (show ¬ kd (bd t) < 6 by omega)]; rfl) | (rw [decide_eq_true c109, decide_eq_true (show 2 < kd (bd t) by omega), decide_eq_true (show kd (bd t) < 6 by omega)]; rfl))) ?_
                        exact hj_130 ls (lv_sub hl [0, 1, 2, 3, 4, 5, 6, 7] rfl)
                      · skip
                        refine lv_iconst (v := (nI 1)) hx hb dX5_pinned_125 (by decide) ?_
                        refine lv_goto (tgt := 130) hx hb dX5_pinned_126 (by decide) ?_
                        refine W.top (y := .int (bI (slq bd sd t))) (congrArg Value.int (by unfold slq; first | (rw [decide_eq_false c109]; rfl) | (rw [decide_eq_true c109, decide_eq_false (show ¬ 2 < kd (bd t) by omega)]; rfl) | (rw [decide_eq_true c109, decide_eq_true (show 2 < kd (bd t) by omega), decide_eq_false (show ¬ kd (bd t) < 6 by omega)]; rfl) | (rw [decide_eq_true c109, decide_eq_true (show 2 < kd (bd t) by omega), decide_eq_true (show kd (bd t) < 6 by omega)]; rfl))) ?_
                        exact hj_130 ls (lv_sub hl [0, 1, 2, 3, 4, 5, 6, 7] rfl)
  · skip
    refine lb_if_eq (tgt := 12) hx hb dX5_pinned_5 (by decide) (fun c5 => ?_) (fun c5 => ?_)
    · skip
      refine lv_iconst (v := (nI 1)) hx hb dX5_pinned_12 (by decide) ?_
      refine W.top (y := .int (nI (ndN bd sd))) (congrArg Value.int (congrArg nI (by unfold ndN; first | rw [if_pos c5] | rw [if_neg (show ¬ plb bd sd = true by rw [c5]; decide)]))) ?_
      exact hj_13 ls (lv_sub hl [0] rfl)
    · skip
      refine lv_iconst (v := (nI 0)) hx hb dX5_pinned_8 (by decide) ?_
      refine lv_goto (tgt := 13) hx hb dX5_pinned_9 (by decide) ?_
      refine W.top (y := .int (nI (ndN bd sd))) (congrArg Value.int (congrArg nI (by unfold ndN; first | rw [if_pos c5] | rw [if_neg (show ¬ plb bd sd = true by rw [c5]; decide)]))) ?_
      exact hj_13 ls (lv_sub hl [0] rfl)
end

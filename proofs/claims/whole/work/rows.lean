section
-- ===== PART A: goes FIRST, ahead of the names: the tables' words, and 'selects' of the private methods out of them =====
/-- a private method of a class that the tables say can be made, by its rows of tables_1 -/
def lw_okq (q : MethodName × Nat) : Prop := (q.1.cls ≠ "java/lang/invoke/MethodHandle" ∧ q.1.cls ≠ "java/lang/invoke/VarHandle") ∧ Cond.instantiable q.1.cls q.2 ∈ tables_1 ∧ Cond.privateMethod q.1 ∈ tables_1 ∧ Cond.instanceMethod q.1 ∈ tables_1
theorem lw_p0 : lw_okq (⟨"GuessMarks$Game", "layRow", "(I)V"⟩, 5) := ⟨⟨by decide +kernel, by decide +kernel⟩, List.mem_of_getElem? (i := 26) (by decide +kernel), List.mem_of_getElem? (i := 105) (by decide +kernel), List.mem_of_getElem? (i := 106) (by decide +kernel)⟩
theorem lw_p1 : lw_okq (⟨"GuessMarks", "tellNothing", "()V"⟩, 8) := ⟨⟨by decide +kernel, by decide +kernel⟩, List.mem_of_getElem? (i := 18) (by decide +kernel), List.mem_of_getElem? (i := 117) (by decide +kernel), List.mem_of_getElem? (i := 118) (by decide +kernel)⟩
theorem lw_p2 : lw_okq (⟨"GuessMarks", "listRowsLeft", "()V"⟩, 8) := ⟨⟨by decide +kernel, by decide +kernel⟩, List.mem_of_getElem? (i := 18) (by decide +kernel), List.mem_of_getElem? (i := 128) (by decide +kernel), List.mem_of_getElem? (i := 129) (by decide +kernel)⟩
theorem lw_p3 : lw_okq (⟨"GuessMarks", "remains", "(I)Z"⟩, 8) := ⟨⟨by decide +kernel, by decide +kernel⟩, List.mem_of_getElem? (i := 18) (by decide +kernel), List.mem_of_getElem? (i := 132) (by decide +kernel), List.mem_of_getElem? (i := 133) (by decide +kernel)⟩
theorem lw_p4 : lw_okq (⟨"GuessMarks", "shortestProof", "()I"⟩, 8) := ⟨⟨by decide +kernel, by decide +kernel⟩, List.mem_of_getElem? (i := 18) (by decide +kernel), List.mem_of_getElem? (i := 216) (by decide +kernel), List.mem_of_getElem? (i := 217) (by decide +kernel)⟩
theorem lw_p5 : lw_okq (⟨"GuessMarks", "leavesOne", "(I)Z"⟩, 8) := ⟨⟨by decide +kernel, by decide +kernel⟩, List.mem_of_getElem? (i := 18) (by decide +kernel), List.mem_of_getElem? (i := 222) (by decide +kernel), List.mem_of_getElem? (i := 223) (by decide +kernel)⟩
theorem lw_p6 : lw_okq (⟨"java/lang/Throwable", "fillInStackTrace", "(I)Ljava/lang/Throwable;"⟩, 6) := ⟨⟨by decide +kernel, by decide +kernel⟩, List.mem_of_getElem? (i := 273) (by decide +kernel), List.mem_of_getElem? (i := 271) (by decide +kernel), List.mem_of_getElem? (i := 272) (by decide +kernel)⟩
theorem lw_p7 : lw_okq (⟨"GuessMarks", "requireRow", "(I)V"⟩, 8) := ⟨⟨by decide +kernel, by decide +kernel⟩, List.mem_of_getElem? (i := 18) (by decide +kernel), List.mem_of_getElem? (i := 373) (by decide +kernel), List.mem_of_getElem? (i := 374) (by decide +kernel)⟩
theorem lw_p8 : lw_okq (⟨"GuessMarks", "addEntry", "(II)V"⟩, 8) := ⟨⟨by decide +kernel, by decide +kernel⟩, List.mem_of_getElem? (i := 18) (by decide +kernel), List.mem_of_getElem? (i := 390) (by decide +kernel), List.mem_of_getElem? (i := 391) (by decide +kernel)⟩
theorem lw_p9 : lw_okq (⟨"GuessMarks", "requirePossible", "(I)V"⟩, 8) := ⟨⟨by decide +kernel, by decide +kernel⟩, List.mem_of_getElem? (i := 18) (by decide +kernel), List.mem_of_getElem? (i := 406) (by decide +kernel), List.mem_of_getElem? (i := 407) (by decide +kernel)⟩
theorem lw_p10 : lw_okq (⟨"GuessMarks", "wouldLoseHidden", "(II)Z"⟩, 8) := ⟨⟨by decide +kernel, by decide +kernel⟩, List.mem_of_getElem? (i := 18) (by decide +kernel), List.mem_of_getElem? (i := 415) (by decide +kernel), List.mem_of_getElem? (i := 416) (by decide +kernel)⟩
theorem lw_p11 : lw_okq (⟨"GuessMarks", "requireEntry", "(I)V"⟩, 8) := ⟨⟨by decide +kernel, by decide +kernel⟩, List.mem_of_getElem? (i := 18) (by decide +kernel), List.mem_of_getElem? (i := 439) (by decide +kernel), List.mem_of_getElem? (i := 440) (by decide +kernel)⟩
theorem lw_p12 : lw_okq (⟨"GuessMarks", "partLeft", "(I)V"⟩, 8) := ⟨⟨by decide +kernel, by decide +kernel⟩, List.mem_of_getElem? (i := 18) (by decide +kernel), List.mem_of_getElem? (i := 493) (by decide +kernel), List.mem_of_getElem? (i := 494) (by decide +kernel)⟩
theorem lw_p13 : lw_okq (⟨"GuessMarks", "partRows", "(I[III)V"⟩, 8) := ⟨⟨by decide +kernel, by decide +kernel⟩, List.mem_of_getElem? (i := 18) (by decide +kernel), List.mem_of_getElem? (i := 497) (by decide +kernel), List.mem_of_getElem? (i := 498) (by decide +kernel)⟩
theorem lw_p14 : lw_okq (⟨"GuessMarks", "bestFor", "(I[III)I"⟩, 8) := ⟨⟨by decide +kernel, by decide +kernel⟩, List.mem_of_getElem? (i := 18) (by decide +kernel), List.mem_of_getElem? (i := 564) (by decide +kernel), List.mem_of_getElem? (i := 565) (by decide +kernel)⟩
theorem lw_p15 : lw_okq (⟨"GuessMarks", "guessesFor", "(III)I"⟩, 8) := ⟨⟨by decide +kernel, by decide +kernel⟩, List.mem_of_getElem? (i := 18) (by decide +kernel), List.mem_of_getElem? (i := 587) (by decide +kernel), List.mem_of_getElem? (i := 588) (by decide +kernel)⟩
def lw_privs_1 : List (MethodName × Nat) := [(⟨"GuessMarks$Game", "layRow", "(I)V"⟩, 5), (⟨"GuessMarks", "tellNothing", "()V"⟩, 8), (⟨"GuessMarks", "listRowsLeft", "()V"⟩, 8), (⟨"GuessMarks", "remains", "(I)Z"⟩, 8), (⟨"GuessMarks", "shortestProof", "()I"⟩, 8), (⟨"GuessMarks", "leavesOne", "(I)Z"⟩, 8), (⟨"java/lang/Throwable", "fillInStackTrace", "(I)Ljava/lang/Throwable;"⟩, 6), (⟨"GuessMarks", "requireRow", "(I)V"⟩, 8), (⟨"GuessMarks", "addEntry", "(II)V"⟩, 8), (⟨"GuessMarks", "requirePossible", "(I)V"⟩, 8), (⟨"GuessMarks", "wouldLoseHidden", "(II)Z"⟩, 8), (⟨"GuessMarks", "requireEntry", "(I)V"⟩, 8), (⟨"GuessMarks", "partLeft", "(I)V"⟩, 8), (⟨"GuessMarks", "partRows", "(I[III)V"⟩, 8), (⟨"GuessMarks", "bestFor", "(I[III)I"⟩, 8), (⟨"GuessMarks", "guessesFor", "(III)I"⟩, 8)]
theorem lw_r1 : ∀ q ∈ lw_privs_1, lw_okq q := List.forall_mem_cons.mpr ⟨lw_p0, List.forall_mem_cons.mpr ⟨lw_p1, List.forall_mem_cons.mpr ⟨lw_p2, List.forall_mem_cons.mpr ⟨lw_p3, List.forall_mem_cons.mpr ⟨lw_p4, List.forall_mem_cons.mpr ⟨lw_p5, List.forall_mem_cons.mpr ⟨lw_p6, List.forall_mem_cons.mpr ⟨lw_p7, List.forall_mem_cons.mpr ⟨lw_p8, List.forall_mem_cons.mpr ⟨lw_p9, List.forall_mem_cons.mpr ⟨lw_p10, List.forall_mem_cons.mpr ⟨lw_p11, List.forall_mem_cons.mpr ⟨lw_p12, List.forall_mem_cons.mpr ⟨lw_p13, List.forall_mem_cons.mpr ⟨lw_p14, List.forall_mem_cons.mpr ⟨lw_p15, fun _ h => absurd h List.not_mem_nil⟩⟩⟩⟩⟩⟩⟩⟩⟩⟩⟩⟩⟩⟩⟩⟩
theorem lw_p16 : lw_okq (⟨"GuessMarks", "opensPart", "(III)Z"⟩, 8) := ⟨⟨by decide +kernel, by decide +kernel⟩, List.mem_of_getElem? (i := 18) (by decide +kernel), List.mem_of_getElem? (i := 591) (by decide +kernel), List.mem_of_getElem? (i := 592) (by decide +kernel)⟩
theorem lw_p17 : lw_okq (⟨"GuessMarks", "guessesForPart", "(IIIII)I"⟩, 8) := ⟨⟨by decide +kernel, by decide +kernel⟩, List.mem_of_getElem? (i := 18) (by decide +kernel), List.mem_of_getElem? (i := 595) (by decide +kernel), List.mem_of_getElem? (i := 596) (by decide +kernel)⟩
theorem lw_p18 : lw_okq (⟨"GuessMarksModel", "isRow", "(I)Z"⟩, 16) := ⟨⟨by decide +kernel, by decide +kernel⟩, List.mem_of_getElem? (i := 612) (by decide +kernel), List.mem_of_getElem? (i := 689) (by decide +kernel), List.mem_of_getElem? (i := 690) (by decide +kernel)⟩
theorem lw_p19 : lw_okq (⟨"GuessMarksModel", "colour", "(II)I"⟩, 16) := ⟨⟨by decide +kernel, by decide +kernel⟩, List.mem_of_getElem? (i := 612) (by decide +kernel), List.mem_of_getElem? (i := 693) (by decide +kernel), List.mem_of_getElem? (i := 694) (by decide +kernel)⟩
theorem lw_p20 : lw_okq (⟨"GuessMarksModel", "markOfRows", "(II)I"⟩, 16) := ⟨⟨by decide +kernel, by decide +kernel⟩, List.mem_of_getElem? (i := 612) (by decide +kernel), List.mem_of_getElem? (i := 701) (by decide +kernel), List.mem_of_getElem? (i := 702) (by decide +kernel)⟩
theorem lw_p21 : lw_okq (⟨"GuessMarksModel", "lies", "(I)I"⟩, 16) := ⟨⟨by decide +kernel, by decide +kernel⟩, List.mem_of_getElem? (i := 612) (by decide +kernel), List.mem_of_getElem? (i := 709) (by decide +kernel), List.mem_of_getElem? (i := 710) (by decide +kernel)⟩
theorem lw_p22 : lw_okq (⟨"GuessMarksModel", "isStill", "(I)Z"⟩, 16) := ⟨⟨by decide +kernel, by decide +kernel⟩, List.mem_of_getElem? (i := 612) (by decide +kernel), List.mem_of_getElem? (i := 717) (by decide +kernel), List.mem_of_getElem? (i := 718) (by decide +kernel)⟩
theorem lw_p23 : lw_okq (⟨"GuessMarksModel", "adds", "(II)V"⟩, 16) := ⟨⟨by decide +kernel, by decide +kernel⟩, List.mem_of_getElem? (i := 612) (by decide +kernel), List.mem_of_getElem? (i := 725) (by decide +kernel), List.mem_of_getElem? (i := 726) (by decide +kernel)⟩
theorem lw_p24 : lw_okq (⟨"GuessMarksModel", "isPossible", "(I)Z"⟩, 16) := ⟨⟨by decide +kernel, by decide +kernel⟩, List.mem_of_getElem? (i := 612) (by decide +kernel), List.mem_of_getElem? (i := 733) (by decide +kernel), List.mem_of_getElem? (i := 734) (by decide +kernel)⟩
theorem lw_p25 : lw_okq (⟨"GuessMarksModel", "manyLeft", "()I"⟩, 16) := ⟨⟨by decide +kernel, by decide +kernel⟩, List.mem_of_getElem? (i := 612) (by decide +kernel), List.mem_of_getElem? (i := 737) (by decide +kernel), List.mem_of_getElem? (i := 738) (by decide +kernel)⟩
theorem lw_p26 : lw_okq (⟨"GuessMarksModel", "isEntry", "(I)Z"⟩, 16) := ⟨⟨by decide +kernel, by decide +kernel⟩, List.mem_of_getElem? (i := 612) (by decide +kernel), List.mem_of_getElem? (i := 753) (by decide +kernel), List.mem_of_getElem? (i := 754) (by decide +kernel)⟩
theorem lw_p27 : lw_okq (⟨"GuessMarksModel", "laysLeft", "()I"⟩, 16) := ⟨⟨by decide +kernel, by decide +kernel⟩, List.mem_of_getElem? (i := 612) (by decide +kernel), List.mem_of_getElem? (i := 781) (by decide +kernel), List.mem_of_getElem? (i := 782) (by decide +kernel)⟩
theorem lw_p28 : lw_okq (⟨"GuessMarksModel", "asks", "(I)Z"⟩, 16) := ⟨⟨by decide +kernel, by decide +kernel⟩, List.mem_of_getElem? (i := 612) (by decide +kernel), List.mem_of_getElem? (i := 789) (by decide +kernel), List.mem_of_getElem? (i := 790) (by decide +kernel)⟩
theorem lw_p29 : lw_okq (⟨"GuessMarksModel", "laysParts", "(III)V"⟩, 16) := ⟨⟨by decide +kernel, by decide +kernel⟩, List.mem_of_getElem? (i := 612) (by decide +kernel), List.mem_of_getElem? (i := 793) (by decide +kernel), List.mem_of_getElem? (i := 794) (by decide +kernel)⟩
theorem lw_p30 : lw_okq (⟨"GuessMarksModel", "manyParts", "()I"⟩, 16) := ⟨⟨by decide +kernel, by decide +kernel⟩, List.mem_of_getElem? (i := 612) (by decide +kernel), List.mem_of_getElem? (i := 797) (by decide +kernel), List.mem_of_getElem? (i := 798) (by decide +kernel)⟩
theorem lw_p31 : lw_okq (⟨"GuessMarksModel", "worst", "()I"⟩, 16) := ⟨⟨by decide +kernel, by decide +kernel⟩, List.mem_of_getElem? (i := 612) (by decide +kernel), List.mem_of_getElem? (i := 813) (by decide +kernel), List.mem_of_getElem? (i := 814) (by decide +kernel)⟩
def lw_privs_2 : List (MethodName × Nat) := [(⟨"GuessMarks", "opensPart", "(III)Z"⟩, 8), (⟨"GuessMarks", "guessesForPart", "(IIIII)I"⟩, 8), (⟨"GuessMarksModel", "isRow", "(I)Z"⟩, 16), (⟨"GuessMarksModel", "colour", "(II)I"⟩, 16), (⟨"GuessMarksModel", "markOfRows", "(II)I"⟩, 16), (⟨"GuessMarksModel", "lies", "(I)I"⟩, 16), (⟨"GuessMarksModel", "isStill", "(I)Z"⟩, 16), (⟨"GuessMarksModel", "adds", "(II)V"⟩, 16), (⟨"GuessMarksModel", "isPossible", "(I)Z"⟩, 16), (⟨"GuessMarksModel", "manyLeft", "()I"⟩, 16), (⟨"GuessMarksModel", "isEntry", "(I)Z"⟩, 16), (⟨"GuessMarksModel", "laysLeft", "()I"⟩, 16), (⟨"GuessMarksModel", "asks", "(I)Z"⟩, 16), (⟨"GuessMarksModel", "laysParts", "(III)V"⟩, 16), (⟨"GuessMarksModel", "manyParts", "()I"⟩, 16), (⟨"GuessMarksModel", "worst", "()I"⟩, 16)]
theorem lw_r2 : ∀ q ∈ lw_privs_2, lw_okq q := List.forall_mem_cons.mpr ⟨lw_p16, List.forall_mem_cons.mpr ⟨lw_p17, List.forall_mem_cons.mpr ⟨lw_p18, List.forall_mem_cons.mpr ⟨lw_p19, List.forall_mem_cons.mpr ⟨lw_p20, List.forall_mem_cons.mpr ⟨lw_p21, List.forall_mem_cons.mpr ⟨lw_p22, List.forall_mem_cons.mpr ⟨lw_p23, List.forall_mem_cons.mpr ⟨lw_p24, List.forall_mem_cons.mpr ⟨lw_p25, List.forall_mem_cons.mpr ⟨lw_p26, List.forall_mem_cons.mpr ⟨lw_p27, List.forall_mem_cons.mpr ⟨lw_p28, List.forall_mem_cons.mpr ⟨lw_p29, List.forall_mem_cons.mpr ⟨lw_p30, List.forall_mem_cons.mpr ⟨lw_p31, fun _ h => absurd h List.not_mem_nil⟩⟩⟩⟩⟩⟩⟩⟩⟩⟩⟩⟩⟩⟩⟩⟩
theorem lw_p32 : lw_okq (⟨"GuessMarksModel", "squares", "()I"⟩, 16) := ⟨⟨by decide +kernel, by decide +kernel⟩, List.mem_of_getElem? (i := 612) (by decide +kernel), List.mem_of_getElem? (i := 821) (by decide +kernel), List.mem_of_getElem? (i := 822) (by decide +kernel)⟩
theorem lw_p33 : lw_okq (⟨"GuessMarksModel", "best", "(III)I"⟩, 16) := ⟨⟨by decide +kernel, by decide +kernel⟩, List.mem_of_getElem? (i := 612) (by decide +kernel), List.mem_of_getElem? (i := 829) (by decide +kernel), List.mem_of_getElem? (i := 830) (by decide +kernel)⟩
theorem lw_p34 : lw_okq (⟨"GuessMarksModel", "isAmong", "(III)Z"⟩, 16) := ⟨⟨by decide +kernel, by decide +kernel⟩, List.mem_of_getElem? (i := 612) (by decide +kernel), List.mem_of_getElem? (i := 833) (by decide +kernel), List.mem_of_getElem? (i := 834) (by decide +kernel)⟩
theorem lw_p35 : lw_okq (⟨"GuessMarksModel", "proof", "()I"⟩, 16) := ⟨⟨by decide +kernel, by decide +kernel⟩, List.mem_of_getElem? (i := 612) (by decide +kernel), List.mem_of_getElem? (i := 845) (by decide +kernel), List.mem_of_getElem? (i := 846) (by decide +kernel)⟩
theorem lw_p36 : lw_okq (⟨"GuessMarksModel", "laysLies", "()V"⟩, 16) := ⟨⟨by decide +kernel, by decide +kernel⟩, List.mem_of_getElem? (i := 612) (by decide +kernel), List.mem_of_getElem? (i := 849) (by decide +kernel), List.mem_of_getElem? (i := 850) (by decide +kernel)⟩
theorem lw_p37 : lw_okq (⟨"GuessMarksModel", "isProof", "(I)Z"⟩, 16) := ⟨⟨by decide +kernel, by decide +kernel⟩, List.mem_of_getElem? (i := 612) (by decide +kernel), List.mem_of_getElem? (i := 859) (by decide +kernel), List.mem_of_getElem? (i := 860) (by decide +kernel)⟩
def lw_privs_3 : List (MethodName × Nat) := [(⟨"GuessMarksModel", "squares", "()I"⟩, 16), (⟨"GuessMarksModel", "best", "(III)I"⟩, 16), (⟨"GuessMarksModel", "isAmong", "(III)Z"⟩, 16), (⟨"GuessMarksModel", "proof", "()I"⟩, 16), (⟨"GuessMarksModel", "laysLies", "()V"⟩, 16), (⟨"GuessMarksModel", "isProof", "(I)Z"⟩, 16)]
theorem lw_r3 : ∀ q ∈ lw_privs_3, lw_okq q := List.forall_mem_cons.mpr ⟨lw_p32, List.forall_mem_cons.mpr ⟨lw_p33, List.forall_mem_cons.mpr ⟨lw_p34, List.forall_mem_cons.mpr ⟨lw_p35, List.forall_mem_cons.mpr ⟨lw_p36, List.forall_mem_cons.mpr ⟨lw_p37, fun _ h => absurd h List.not_mem_nil⟩⟩⟩⟩⟩⟩
def lw_privs : List (MethodName × Nat) := lw_privs_1 ++ (lw_privs_2 ++ (lw_privs_3))
def lw_tbl : List Cond := k2_sels lw_privs ++ tables_1
theorem lw_privs_ok : ∀ q ∈ lw_privs, lw_okq q := by
  show ∀ q ∈ lw_privs_1 ++ (lw_privs_2 ++ (lw_privs_3)), lw_okq q
  exact List.forall_mem_append.mpr ⟨lw_r1, List.forall_mem_append.mpr ⟨lw_r2, lw_r3⟩⟩
end
section
/-! ===== BEGIN words of one list among another's, by their places ===== -/
theorem goodIn_r {big : List Cond} (ws : List Cond) (ps : List Nat) (hp : ws = ps.filterMap (fun i => big[i]?)) (h : ws.all goodWord = true) : GoodIn big ws := by
  intro w hw
  have h1 := List.all_eq_true.mp h w hw
  rw [hp] at hw
  obtain ⟨i, -, hi⟩ := List.mem_filterMap.mp hw
  have hm : w ∈ big := by first | exact List.mem_of_getElem? hi | exact List.getElem?_mem hi
  exact ⟨hm, good_of_word h1⟩
theorem goodIn_app {big a b : List Cond} (ha : GoodIn big a) (hb : GoodIn big b) : GoodIn big (a ++ b) := fun w h => (List.mem_append.mp h).elim (ha w) (hb w)
theorem goodIn_ca {big a b : List Cond} {c : Cond} (ha : GoodIn big (c :: a)) (hb : GoodIn big b) : GoodIn big (c :: (a ++ b)) := fun w h => (List.mem_cons.mp h).elim (fun e => ha w (List.mem_cons.mpr (Or.inl e))) (fun h => (List.mem_append.mp h).elim (fun h => ha w (List.mem_cons.mpr (Or.inr h))) (hb w))
theorem goodIn_sub {big ws : List Cond} (hm : ∀ w ∈ ws, w ∈ big) (h : ws.all goodWord = true) : GoodIn big ws := fun w hw => ⟨hm w hw, good_of_word (List.all_eq_true.mp h w hw)⟩
/-! ===== END ===== -/

/-! ===== BEGIN exceptions that leave a method, and their catching by the caller (launches without stack traces) ===== -/
section VXA
/-! The laws vx_back, vx_callV, vx_callS, vx_callSW, vx_throw0, vx_throwS follow proofs of the library, with one case more: JvmDerived/Free/Laws.lean (Back.of_free), Shelf42/LK1.lean (callV, callS), Shelf/KitTraced.lean (throwNew0V, throwNewS). -/
/-- where a method has thrown q: the class by its name, the cell, what was written, the world -/
def vx_T (XC : String → State → State → Prop) (st : State) (q : Addr) (t : State) (mc ms : Nat) (free : Addr → Prop) : Prop :=
  ∃ (E : String) (ce : Cell) (L : List Loc), XC E st t ∧ t.heap[q]? = some ce ∧ ce.vm = .none ∧ st.vm.findClass E = some ce.cls ∧ st.WarmedH t.vm ∧ st.sameButNew ({ t with vm := st.vm } : State) L mc ms ∧ ∀ z ∈ L, free z.base
def vx_Q (Qc : Array Value → State → Outcome → State → Prop) (XC : String → State → State → Prop) (mc ms : Nat) (free : Addr → Prop) : Array Value → State → Outcome → State → Prop := fun a st o t =>
  (Qc a st o t ∧ ∃ L, FrameEnd st o t L mc ms ∧ ∀ q ∈ L, free q.base) ∨ ∃ q, o = .threw q ∧ vx_T XC st q t mc ms free
/-- a callee that returns or throws -/
def vx_Met (l : Launch) (y : MethodName) (ws : List Cond) (rm : Room) (Pc : Array Value → State → Prop) (Qc : Array Value → State → Outcome → State → Prop) (XC : String → State → State → Prop) (mc ms : Nat) (free : Addr → Prop) : Prop :=
  MetFree l y (headSpec ws rm) Pc (fun _ _ _ _ _ => True) (vx_Q Qc XC mc ms free)
def vx_Post (XC : String → State → State → Prop) (mc ms : Nat) (free : Addr → Prop) : Pt → Array Value → Addr → Pt → Prop := fun A a q B =>
  ∃ (g : JFrame) (mk : MethodId) (t : State) (L : List Loc) (E : String) (ce : Cell), B.U.heap = t.heap ∧ B.U.vm = t.vm ∧ XC E (A.U.calling g mk a) t ∧ t.heap[q]? = some ce ∧ ce.vm = .none ∧ A.U.vm.findClass E = some ce.cls ∧ B.locs = A.locs ++ L ∧ (∀ z ∈ L, free z.base) ∧ B.cells = A.cells + mc ∧ B.slots = A.slots + ms
def vx_Back (l : Launch) (R : Room) (p : Program) (e : Env) (below : List Frame) (s : State) (sargs : Array Value) (y : MethodName) (len W9 : Nat)
    (Pre : Pt → Array Value → Prop) (Post : Pt → Array Value → Option Value → Pt → Prop) (PostX : Pt → Array Value → Addr → Pt → Prop) : Prop :=
  ∀ (m : MethodId) (meth : Method) (c : Code) (A : Pt) (g : JFrame) (ig : Instr) (mk : MethodId) (a : Array Value),
    Stand p l e R s m sargs below meth c A.U A.locs A.cells A.slots → g.method = m → g.locals.size = c.maxLocals → decode c.code g.pc = .ok (ig, len) →
    2 * g.monitorRoom + (g.stack.map fun v => v.category).sum ≤ W9 → A.U.methodNamed? y = some mk → Pre A a →
    (∃ (v : Option Value) (B : Pt), Stand p l e R s m sargs below meth c B.U B.locs B.cells B.slots ∧ Post A a v B ∧
      Steps p.tables e below (doInvoke e (A.U.setTop g) [] mk a).1 (B.U.setTop { g with pc := g.pc + len, stack := v.toList ++ g.stack })) ∨
    (∃ (q : Addr) (B : Pt), Stand p l e R s m sargs below meth c B.U B.locs B.cells B.slots ∧ PostX A a q B ∧
      Steps p.tables e below (doInvoke e (A.U.setTop g) [] mk a).1 ((B.U.setTop g).pushFrame (.throwing q)))
section Payer
variable {l : Launch} {R : Room} {p : Program} {e : Env} {below : List Frame} {s : State} {sargs : Array Value} {y : MethodName} {len W9 : Nat}
theorem vx_back {ws : List Cond} {rm : Room} {Pc : Array Value → State → Prop} {Qc : Array Value → State → Outcome → State → Prop} {XC : String → State → State → Prop} {mc ms : Nat} {free : Addr → Prop} {bytes : ByteArray} {maxL : Nat} {ret : Option FieldType}
    (hM : vx_Met l y ws rm Pc Qc XC mc ms free) (hblind : FrameBlind Pc) (hrc : rm.cells = mc) (hrs : rm.slots = ms)
    (hframes : rm.frames + 1 ≤ R.frames) (hlocals : W9 + (maxL + 11) + rm.locals ≤ R.locals)
    (hws : ∀ w ∈ ws, ∀ a' U, s.WarmedH U.vm → w.before a' U = true) (hcode : Cond.code y bytes maxL ret ∈ ws) (hinit : ∀ a' U, s.WarmedH U.vm → (Cond.initialized y.cls).before a' U = true) :
    vx_Back l R p e below s sargs y len W9 (PreOf R mc ms Pc) (PostOf Qc mc ms free) (vx_Post XC mc ms free) := by
  intro m meth c A g ig mk a X hg hsize hdg hW hn hp
  have h1 : (headSpec ws rm).pre.before a A.U = true := atoms_intro fun w hw => hws w hw _ _ X.warmed
  have h2 : (Cond.code y bytes maxL ret).before a A.U = true := hws _ hcode _ _ X.warmed
  have h3 : (Cond.initialized y.cls).before a A.U = true := hinit _ _ X.warmed
  have h4 : A.cells + (headSpec ws rm).room.cells ≤ R.cells := by rw [show (headSpec ws rm).room.cells = mc from hrc]; exact hp.1
  have h5 : A.slots + (headSpec ws rm).room.slots ≤ R.slots := by rw [show (headSpec ws rm).room.slots = ms from hrs]; exact hp.2.1
  have hPc : Pc a (A.U.calling g mk a) := hblind _ _ _ _ hp.2.2
  obtain ⟨U, Ls, c0, s0⟩ := A
  dsimp only [Pt.U, Pt.locs, Pt.cells, Pt.slots] at h1 h2 h3 h4 h5 X hn hPc ⊢
  obtain ⟨methY, cY, hmY, hcY, -, hlY, -, -, -, -⟩ := Cond.code_spec hn h2
  obtain ⟨kY, hkY, -⟩ := className_of_methodNamed hn
  have hinitY : kY.init = .initialized := Cond.initialized_spec (findClass_of_methodNamed hn) hkY h3
  have h : At U g.method c below := by rw [hg]; exact X.here
  have hlocals9 : W9 + (maxL + 11) + (headSpec ws rm).room.locals ≤ R.locals := hlocals
  have happ : (headSpec ws rm).appliesLoose y e.platform (U.calling g mk a) = true :=
    Spec.appliesLoose_calling (g := g) h hdg hn hkY hinitY
      (X.room_calling (g := g) (R' := (headSpec ws rm).room) hsize hmY hcY hframes (by rw [hlY]; omega) h4 h5) h1
  obtain ⟨mid, hmid⟩ := h.above
  have hfr : (U.setTop g).frames = (.java g :: mid) ++ below := by rw [State.frames_setTop' g h.top, hmid]; rfl
  obtain ⟨o, s₂, hsteps, -, hend, hq⟩ := Steps.callFree hM p X.admits X.cas X.clock (acts := []) hfr happ hPc trivial
  have hq' : vx_Q Qc XC mc ms free a (U.calling g mk a) o s₂ := hq
  rw [State.frames_setTop' g h.top] at hend
  obtain ⟨g₀, hg0⟩ := Option.isSome_iff_exists.mp h.top
  obtain ⟨r, hr⟩ := State.topJava?_eq_some.mp hg0
  have hr' : (({ U with heap := s₂.heap, slotsUsed := s₂.slotsUsed } : State).setVm s₂.vm).frames = .java g₀ :: r := hr
  rcases hq' with ⟨hqc, L, hfe, hL⟩ | ⟨q, rfl, E, ce, L, hx, hce, hcv, hcl, hW₂, hsm, hL⟩
  · obtain ⟨⟨v, rfl⟩, hW₂, e2, q2, q3, q4, q5, q6⟩ := id hfe
    have e3 : s₂ = ({ (U.calling g mk a).setFrames s₂.frames with heap := s₂.heap, slotsUsed := s₂.slotsUsed } : State).setVm s₂.vm := by
      have : s₂ = ({ s₂ with vm := (U.calling g mk a).vm } : State).setVm s₂.vm := rfl
      rw [e2] at this
      exact this
    obtain ⟨c₂, i₂, len₂, hc₂, hd₂, hf₂⟩ := hend
    have hW' : U.WarmedH s₂.vm := hW₂
    have hcc : c₂ = c := by
      have h1 : s₂.code? g.method = U.code? g.method := by
        rw [State.code?_eq, State.code?_eq, hW'.alike.method?]
      exact Option.some.inj (hc₂.symm.trans (h1.trans h.code))
    subst hcc
    have hlen : len₂ = len := by rw [hdg] at hd₂; cases hd₂; rfl
    subst hlen
    have hs₂ : s₂ = (({ U with heap := s₂.heap, slotsUsed := s₂.slotsUsed } : State).setVm s₂.vm).setTop { g with pc := g.pc + len₂, stack := v.toList ++ g.stack } := by
      refine e3.trans ?_
      rw [hf₂, State.calling_eq h.top, State.setFrames_setFrames, State.setTop_of_frames _ hr', hr]
      rfl
    have hsame : U.sameButNew ({ U with heap := s₂.heap, slotsUsed := s₂.slotsUsed } : State) L mc ms := by
      refine ⟨?_, q2, q3, q4, q5, q6⟩
      obtain ⟨t, ht, -⟩ := State.frames_cons hr
      show ({ U with heap := s₂.heap, slotsUsed := s₂.slotsUsed } : State) = { U.setFrames U.frames with heap := s₂.heap, slotsUsed := s₂.slotsUsed }
      rw [State.setFrames_self ht]
    subst hg
    refine Or.inl ⟨v, ⟨(({ U with heap := s₂.heap, slotsUsed := s₂.slotsUsed } : State).setVm s₂.vm), Ls ++ L, c0 + mc, s0 + ms⟩,
      ⟨X.admits, X.cas, X.clock, X.frames, X.room, X.hears, X.method, X.code, (X.here.setHeapUsed s₂.heap s₂.slotsUsed).setVm hW'.alike, X.tail, State.WarmedH.trans X.warmed hW', X.limits, X.bytes, X.same.trans (hsame.setVm s.vm)⟩,
      ⟨g, mk, s₂, L, rfl, rfl, hqc, rfl, hL, rfl, rfl⟩, ?_⟩
    show Steps p.tables e below _ ((({ U with heap := s₂.heap, slotsUsed := s₂.slotsUsed } : State).setVm s₂.vm).setTop { g with pc := g.pc + len₂, stack := v.toList ++ g.stack })
    rw [← hs₂]
    exact hsteps
  · obtain ⟨e2, q2, q3, q4, q5, q6⟩ := id hsm
    have e3 : s₂ = ({ (U.calling g mk a).setFrames s₂.frames with heap := s₂.heap, slotsUsed := s₂.slotsUsed } : State).setVm s₂.vm := by
      have : s₂ = ({ s₂ with vm := (U.calling g mk a).vm } : State).setVm s₂.vm := rfl
      rw [e2] at this
      exact this
    have hf₂ : s₂.frames = .throwing q :: .java g :: U.frames.tail := hend
    have hW' : U.WarmedH s₂.vm := hW₂
    have hs₂ : s₂ = ((({ U with heap := s₂.heap, slotsUsed := s₂.slotsUsed } : State).setVm s₂.vm).setTop g).pushFrame (.throwing q) := by
      refine e3.trans ?_
      rw [hf₂, State.calling_eq h.top, State.setFrames_setFrames, State.pushFrame, State.frames_setTop _ hr', State.setTop_of_frames _ hr', State.setFrames_setFrames, hr]
      rfl
    have hsame : U.sameButNew ({ U with heap := s₂.heap, slotsUsed := s₂.slotsUsed } : State) L mc ms := by
      refine ⟨?_, q2, q3, q4, q5, q6⟩
      obtain ⟨t, ht, -⟩ := State.frames_cons hr
      show ({ U with heap := s₂.heap, slotsUsed := s₂.slotsUsed } : State) = { U.setFrames U.frames with heap := s₂.heap, slotsUsed := s₂.slotsUsed }
      rw [State.setFrames_self ht]
    subst hg
    refine Or.inr ⟨q, ⟨(({ U with heap := s₂.heap, slotsUsed := s₂.slotsUsed } : State).setVm s₂.vm), Ls ++ L, c0 + mc, s0 + ms⟩,
      ⟨X.admits, X.cas, X.clock, X.frames, X.room, X.hears, X.method, X.code, (X.here.setHeapUsed s₂.heap s₂.slotsUsed).setVm hW'.alike, X.tail, State.WarmedH.trans X.warmed hW', X.limits, X.bytes, X.same.trans (hsame.setVm s.vm)⟩,
      ⟨g, mk, s₂, L, E, ce, rfl, rfl, hx, hce, hcv, hcl, rfl, hL, rfl, rfl⟩, ?_⟩
    show Steps p.tables e below _ (((({ U with heap := s₂.heap, slotsUsed := s₂.slotsUsed } : State).setVm s₂.vm).setTop g).pushFrame (.throwing q))
    rw [← hs₂]
    exact hsteps
end Payer
section Calls
variable {p : Program} {l : Launch} {e : Env} {R : Room} {s : State} {m : MethodId} {args : Array Value} {below : List Frame} {meth : Method} {c : Code} {T : State} {locs : List Loc} {cells slots : Nat}
theorem vx_callV (X : Stand p l e R s m args below meth c T locs cells slots) (hexec : p.tables.exec = Jvm.exec) {own C : String} {index : Nat} {y : MethodName} {bytes : ByteArray} {maxL : Nat} {ret : Option FieldType}
    (hown : s.vm.findClass own = some m.cls) (hlink : (Cond.methodLink own index y).before args s = true) (hinst : (Cond.instanceMethod y).before args s = true) (hsel : (Cond.selects C y y).before args s = true)
    (hcode : (Cond.code y bytes maxL ret).before args s = true) (hy : y.cls ≠ "java/lang/invoke/MethodHandle" ∧ y.cls ≠ "java/lang/invoke/VarHandle")
    {W9 : Nat} {Pre : Pt → Array Value → Prop} {Post : Pt → Array Value → Option Value → Pt → Prop} {PostX : Pt → Array Value → Addr → Pt → Prop} (hK : vx_Back l R p e below s args y 3 W9 Pre Post PostX)
    {b : Addr} {cellB : Cell} (hcell : T.heap[b]? = some cellB) (hobj : cellB.vm.isStatics = false) (hcls : s.vm.findClass C = some cellB.cls)
    {g : JFrame} (hg : g.method = m) (hsize : g.locals.size = c.maxLocals) {argsL rest : List Value} (hlen : ∀ sig, parseMethodDescriptor y.desc = some sig → argsL.length = sig.parameters.length)
    (hstack : g.stack = argsL.reverse ++ .ref b :: rest) (hW : 2 * g.monitorRoom + (rest.map fun v => v.category).sum ≤ W9) (hdg : decode c.code g.pc = .ok (.invokevirtual index, 3))
    (hpre : ∀ vm₁, s.WarmedH vm₁ → Pre ⟨T.setVm vm₁, locs, cells, slots⟩ (Value.ref b :: argsL).toArray) :
    (∃ (v : Option Value) (vm₁ : Vm) (B : Pt), s.WarmedH vm₁ ∧ Stand p l e R s m args below meth c B.U B.locs B.cells B.slots ∧ Post ⟨T.setVm vm₁, locs, cells, slots⟩ (Value.ref b :: argsL).toArray v B ∧
      ∀ target, Steps p.tables e below (B.U.setTop { g with pc := g.pc + 3, stack := v.toList ++ rest }) target → Steps p.tables e below (T.setTop g) target) ∨
    (∃ (q : Addr) (vm₁ : Vm) (B : Pt), s.WarmedH vm₁ ∧ Stand p l e R s m args below meth c B.U B.locs B.cells B.slots ∧ PostX ⟨T.setVm vm₁, locs, cells, slots⟩ (Value.ref b :: argsL).toArray q B ∧
      Steps p.tables e below (T.setTop g) ((B.U.setTop { g with stack := rest }).pushFrame (.throwing q))) := by
  obtain ⟨mk, methM, hnamed, hmethM, hstM, habM⟩ := Cond.instanceMethod_spec hinst
  obtain ⟨methM', cM, hmethM', -, -, -, -, -, -, hsigM⟩ := Cond.code_spec hnamed hcode
  cases hmethM.symm.trans hmethM'
  obtain ⟨c2, r2, m2, q1, q2, q3, q4, kP, hkP, hkPi⟩ := Cond.selects_spec hsel
  cases hcls.symm.trans q1
  cases (State.methodFound?_of_named hnamed hy).symm.trans q2
  cases hnamed.symm.trans q3
  have hselP : selectMethod e.platform s.vm cellB.cls mk = .method mk := by rw [Launch.admits_selectMethod X.admits]; exact q4
  obtain ⟨vm₁, X₁, hstep₁⟩ := X.invokevirtual hexec hown hlink hnamed hmethM hstM hkP hkPi hy (a := b) (cell := cellB) hcell
    (fun z h => by rw [h] at hobj; cases hobj) hselP hmethM habM hkP hkPi (g := g) hg (argsL := argsL) (rest := rest) (hlen _ hsigM) hstack hdg
  rcases hK m meth c ⟨T.setVm vm₁, locs, cells, slots⟩ { g with stack := rest } (.invokevirtual index) mk (Value.ref b :: argsL).toArray X₁ hg hsize hdg hW (X₁.named hnamed) (hpre vm₁ X₁.warmed) with ⟨v, B, X', hpost, hsteps⟩ | ⟨q, B, X', hpost, hsteps⟩
  · exact Or.inl ⟨v, vm₁, B, X₁.warmed, X', hpost, fun target h => hstep₁ _ fun acts => by rw [doInvoke_state]; exact hsteps.trans h⟩
  · exact Or.inr ⟨q, vm₁, B, X₁.warmed, X', hpost, hstep₁ _ fun acts => by rw [doInvoke_state]; exact hsteps⟩
theorem vx_callS (X : Stand p l e R s m args below meth c T locs cells slots) (hexec : p.tables.exec = Jvm.exec) {own : String} {index : Nat} {y : MethodName} {bytes : ByteArray} {maxL : Nat} {ret : Option FieldType}
    (hown : s.vm.findClass own = some m.cls) (hlink : (Cond.methodLink own index y).before args s = true) (hstat : (Cond.static y).before args s = true) (hinit : (Cond.initialized y.cls).before args s = true)
    (hcode : (Cond.code y bytes maxL ret).before args s = true) (hy : y.cls ≠ "java/lang/invoke/MethodHandle" ∧ y.cls ≠ "java/lang/invoke/VarHandle")
    {W9 : Nat} {Pre : Pt → Array Value → Prop} {Post : Pt → Array Value → Option Value → Pt → Prop} {PostX : Pt → Array Value → Addr → Pt → Prop} (hK : vx_Back l R p e below s args y 3 W9 Pre Post PostX)
    {g : JFrame} (hg : g.method = m) (hsize : g.locals.size = c.maxLocals) {argsL rest : List Value} (hlen : ∀ sig, parseMethodDescriptor y.desc = some sig → argsL.length = sig.parameters.length)
    (hstack : g.stack = argsL.reverse ++ rest) (hW : 2 * g.monitorRoom + (rest.map fun v => v.category).sum ≤ W9) (hdg : decode c.code g.pc = .ok (.invokestatic index, 3))
    (hpre : ∀ vm₁, s.WarmedH vm₁ → Pre ⟨T.setVm vm₁, locs, cells, slots⟩ argsL.toArray) :
    (∃ (v : Option Value) (vm₁ : Vm) (B : Pt), s.WarmedH vm₁ ∧ Stand p l e R s m args below meth c B.U B.locs B.cells B.slots ∧ Post ⟨T.setVm vm₁, locs, cells, slots⟩ argsL.toArray v B ∧
      ∀ target, Steps p.tables e below (B.U.setTop { g with pc := g.pc + 3, stack := v.toList ++ rest }) target → Steps p.tables e below (T.setTop g) target) ∨
    (∃ (q : Addr) (vm₁ : Vm) (B : Pt), s.WarmedH vm₁ ∧ Stand p l e R s m args below meth c B.U B.locs B.cells B.slots ∧ PostX ⟨T.setVm vm₁, locs, cells, slots⟩ argsL.toArray q B ∧
      Steps p.tables e below (T.setTop g) ((B.U.setTop { g with stack := rest }).pushFrame (.throwing q))) := by
  obtain ⟨mk, hnamed⟩ := Cond.code_named hcode
  obtain ⟨methM, cM, hmethM, -, -, -, -, -, -, hsigM⟩ := Cond.code_spec hnamed hcode
  have hstatic : methM.isStatic = true := Cond.static_spec hnamed hmethM hstat
  obtain ⟨kP, hkP, -⟩ := className_of_methodNamed hnamed
  have hinitP : kP.init = .initialized := Cond.initialized_spec (findClass_of_methodNamed hnamed) hkP hinit
  obtain ⟨vm₁, X₁, hstep₁⟩ := X.invokestatic hexec hown hlink hnamed hmethM hstatic hkP hinitP hy (g := g) hg (argsL := argsL) (rest := rest) (hlen _ hsigM) hstack hdg
  rcases hK m meth c ⟨T.setVm vm₁, locs, cells, slots⟩ { g with stack := rest } (.invokestatic index) mk argsL.toArray X₁ hg hsize hdg hW (X₁.named hnamed) (hpre vm₁ X₁.warmed) with ⟨v, B, X', hpost, hsteps⟩ | ⟨q, B, X', hpost, hsteps⟩
  · exact Or.inl ⟨v, vm₁, B, X₁.warmed, X', hpost, fun target h => hstep₁ _ fun acts => by rw [doInvoke_state]; exact hsteps.trans h⟩
  · exact Or.inr ⟨q, vm₁, B, X₁.warmed, X', hpost, hstep₁ _ fun acts => by rw [doInvoke_state]; exact hsteps⟩
end Calls
theorem vx_cls {s : State} {T : State} {vm₁ : Vm} {E : String} {k : ClassId} (hW : s.WarmedH vm₁) (h : (T.setVm vm₁).vm.findClass E = some k) : s.vm.findClass E = some k := by
  have h1 : vm₁.findClass E = some k := h
  rw [hW.alike.findClass] at h1
  exact h1
/-- the method's frame g, with q thrown over it -/
def vx_W (p : Program) (l : Launch) (e : Env) (R : Room) (s : State) (m : MethodId) (args : Array Value) (below : List Frame) (meth : Method) (c : Code) (H : Heap) (locs : List Loc) (cells slots : Nat) (Q : State → Prop) (g : JFrame) (q : Addr) : Prop :=
  ∀ T : State, T.heap = H → Stand p l e R s m args below meth c T locs cells slots → ∃ t, Steps p.tables e below ((T.setTop g).pushFrame (.throwing q)) t ∧ Q t
def vx_Run (p : Program) (l : Launch) (e : Env) (R : Room) (s : State) (m : MethodId) (args : Array Value) (below : List Frame) (meth : Method) (c : Code) (H : Heap) (locs : List Loc) (cells slots mc ms : Nat) (g : JFrame) (rest : List Value) (Qa : State → Outcome → State → Prop) (XC : String → State → State → Prop) (free : Addr → Prop) : Prop :=
  ∀ T : State, T.heap = H → Stand p l e R s m args below meth c T locs cells slots →
    (∃ (v : Option Value) (st₀ t T' : State) (L : List Loc), st₀.heap = H ∧ Stand p l e R s m args below meth c T' (locs ++ L) (cells + mc) (slots + ms) ∧ (∀ q ∈ L, free q.base) ∧ T'.heap = t.heap ∧ T'.vm = t.vm ∧ Qa st₀ (.returned v) t ∧
      Goes p e below T g T' { g with pc := g.pc + 3, stack := v.toList ++ rest }) ∨
    (∃ (q : Addr) (st₀ t T' : State) (L : List Loc) (E : String) (ce : Cell), st₀.heap = H ∧ Stand p l e R s m args below meth c T' (locs ++ L) (cells + mc) (slots + ms) ∧ (∀ z ∈ L, free z.base) ∧ T'.heap = t.heap ∧ T'.vm = t.vm ∧ XC E st₀ t ∧ t.heap[q]? = some ce ∧ ce.vm = .none ∧ s.vm.findClass E = some ce.cls ∧
      Steps p.tables e below (T.setTop g) ((T'.setTop { g with stack := rest }).pushFrame (.throwing q)))
def vx_X {S : Type} (px : S → Prop) (B : String → S → State → Prop) (A : Nat → Prop) : String → State → State → Prop := fun E st t => ∃ u : S, px u ∧ B E u t ∧ va_F A st t
section Runs
variable {p : Program} {l : Launch} {e : Env} {R : Room} {s : State} {m : MethodId} {args : Array Value} {below : List Frame} {meth : Method} {c : Code} {H : Heap} {locs : List Loc} {cells slots : Nat}
variable {y : MethodName} {bytes cc : ByteArray} {maxL nL mc ms n index : Nat} {ret : Option FieldType} {ws : List Cond} {rm : Room} {Pc : Array Value → State → Prop} {Qc : Array Value → State → Outcome → State → Prop} {XC : String → State → State → Prop} {free : Addr → Prop} {Ts : List Cond} {own C : String} {b : Addr} {As rest : List Value} {g : JFrame}
theorem vx_callBack (cb : CallB R s args own index y bytes maxL ret ws rm mc ms n) (hM : vx_Met l y ws rm Pc Qc XC mc ms free) (hbl : FrameBlind Pc) : vx_Back l R p e below s args y 3 8 (PreOf R mc ms Pc) (PostOf Qc mc ms free) (vx_Post XC mc ms free) := by
  obtain ⟨hrc, hrs, hfr, hlo, hws, hcw, -, hini, -⟩ := cb
  exact vx_back (bytes := bytes) (maxL := maxL) (ret := ret) hM hbl hrc hrs hfr hlo hws hcw (fun a' U hW => word_at hW (Or.inl (by first | rfl | simp [Cond.onTables, Cond.keeps, Cond.steady])) hini)
theorem vx_runV (S : CallFix p m c cc nL s args Ts own) (hM : vx_Met l y ws rm Pc Qc XC mc ms free) (cw : CallW R s args own C index y bytes maxL ret ws rm mc ms n) (hp : PreV s H C b Pc As)
    (hg : g.method = m) (hn : As.length = n) (hsize : g.locals.size = nL) (hstack : g.stack = As.reverse ++ .ref b :: rest) (hW : 2 * g.monitorRoom + (rest.map fun v => v.category).sum ≤ 8) (hdg : decode cc g.pc = .ok (.invokevirtual index, 3)) (hf : cells + mc ≤ R.cells ∧ slots + ms ≤ R.slots) :
    vx_Run p l e R s m args below meth c H locs cells slots mc ms g rest (Qc (Value.ref b :: As).toArray) XC free := by
  have hK : vx_Back l R p e below s args y 3 8 (PreOf R mc ms Pc) (PostOf Qc mc ms free) (vx_Post XC mc ms free) := vx_callBack cw.1 hM hp.1
  obtain ⟨⟨-, -, -, -, -, -, hcode, -, hy, hlen, hl⟩, hin, hse⟩ := cw
  obtain ⟨hx, hb, hml, ho, -⟩ := S
  obtain ⟨-, ⟨cellB, hcB, hoB, hclB⟩, hPc⟩ := hp
  intro T hT X
  rcases vx_callV X hx (C := C) (bytes := bytes) (maxL := maxL) (ret := ret) ho hl hin hse hcode hy hK (by rw [hT]; exact hcB) hoB hclB hg (hsize.trans hml.symm) (argsL := As) (rest := rest) (fun sig h => hn.trans (hlen sig h)) hstack hW (by rw [hb]; exact hdg)
    (fun vm₁ hW₁ => ⟨hf.1, hf.2, hPc (T.setVm vm₁) hT hW₁⟩) with ⟨v, vm₁, ⟨U', l2, c2, s2⟩, hW₁, X', ⟨g', mk, t, L, e1, e2, hq, h1, hL, h2, h3⟩, st⟩ | ⟨q, vm₁, ⟨U', l2, c2, s2⟩, hW₁, X', ⟨g', mk, t, L, E, ce, e1, e2, hq, hce, hcv, hcl, h1, hL, h2, h3⟩, st⟩
  · dsimp only [Pt.U, Pt.locs, Pt.cells, Pt.slots] at X' e1 e2 h1 h2 h3 st
    subst h1; subst h2; subst h3
    exact Or.inl ⟨v, (T.setVm vm₁).calling g' mk (Value.ref b :: As).toArray, t, U', L, hT, X', hL, e1, e2, hq, st⟩
  · dsimp only [Pt.U, Pt.locs, Pt.cells, Pt.slots] at X' e1 e2 h1 h2 h3 st hcl
    subst h1; subst h2; subst h3
    exact Or.inr ⟨q, (T.setVm vm₁).calling g' mk (Value.ref b :: As).toArray, t, U', L, E, ce, hT, X', hL, e1, e2, hq, hce, hcv, vx_cls hW₁ hcl, st⟩
theorem vx_runS (S : CallFix p m c cc nL s args Ts own) (hM : vx_Met l y ws rm Pc Qc XC mc ms free) (cw : CallB R s args own index y bytes maxL ret ws rm mc ms n ∧ (Cond.static y).before args s = true) (hp : PreS s H Pc As)
    (hg : g.method = m) (hn : As.length = n) (hsize : g.locals.size = nL) (hstack : g.stack = As.reverse ++ rest) (hW : 2 * g.monitorRoom + (rest.map fun v => v.category).sum ≤ 8) (hdg : decode cc g.pc = .ok (.invokestatic index, 3)) (hf : cells + mc ≤ R.cells ∧ slots + ms ≤ R.slots) :
    vx_Run p l e R s m args below meth c H locs cells slots mc ms g rest (Qc As.toArray) XC free := by
  have hK : vx_Back l R p e below s args y 3 8 (PreOf R mc ms Pc) (PostOf Qc mc ms free) (vx_Post XC mc ms free) := vx_callBack cw.1 hM hp.1
  obtain ⟨⟨-, -, -, -, -, -, hcode, hini, hy, hlen, hl⟩, hstt⟩ := cw
  obtain ⟨hx, hb, hml, ho, -⟩ := S
  intro T hT X
  rcases vx_callS X hx (bytes := bytes) (maxL := maxL) (ret := ret) ho hl hstt hini hcode hy hK hg (hsize.trans hml.symm) (argsL := As) (rest := rest) (fun sig h => hn.trans (hlen sig h)) hstack hW (by rw [hb]; exact hdg)
    (fun vm₁ hW₁ => ⟨hf.1, hf.2, hp.2 (T.setVm vm₁) hT hW₁⟩) with ⟨v, vm₁, ⟨U', l2, c2, s2⟩, hW₁, X', ⟨g', mk, t, L, e1, e2, hq, h1, hL, h2, h3⟩, st⟩ | ⟨q, vm₁, ⟨U', l2, c2, s2⟩, hW₁, X', ⟨g', mk, t, L, E, ce, e1, e2, hq, hce, hcv, hcl, h1, hL, h2, h3⟩, st⟩
  · dsimp only [Pt.U, Pt.locs, Pt.cells, Pt.slots] at X' e1 e2 h1 h2 h3 st
    subst h1; subst h2; subst h3
    exact Or.inl ⟨v, (T.setVm vm₁).calling g' mk As.toArray, t, U', L, hT, X', hL, e1, e2, hq, st⟩
  · dsimp only [Pt.U, Pt.locs, Pt.cells, Pt.slots] at X' e1 e2 h1 h2 h3 st hcl
    subst h1; subst h2; subst h3
    exact Or.inr ⟨q, (T.setVm vm₁).calling g' mk As.toArray, t, U', L, E, ce, hT, X', hL, e1, e2, hq, hce, hcv, vx_cls hW₁ hcl, st⟩
end Runs
section Rows
variable {p : Program} {l : Launch} {e : Env} {R : Room} {s : State} {m : MethodId} {args : Array Value} {below : List Frame} {meth : Method} {c : Code} {H : Heap} {locs : List Loc} {cells slots : Nat} {Q : State → Prop}
variable {mc ms : Nat} {free : Addr → Prop} {A0 A1 : Nat → Prop} {H0 : Heap} {a : Array Value} {pc : Nat} {ls : Array Slot} {st0 rest : List Value}
theorem vx_keep {st₀ t T' : State} {L : List Loc} (h0 : st₀.heap = H) (e1 : T'.heap = t.heap) (hS : va_S A0 H0 H locs) (hA : ∀ q, q < H.size → A1 q → A0 q) (hf : ∀ q, free q → A0 q) (hL : ∀ q ∈ L, free q.base) (hF : va_F A1 st₀ t) :
    H.size ≤ T'.heap.size ∧ (∀ q : Nat, q < H.size → ¬ A1 q → T'.heap[q]? = H[q]?) ∧ va_S A0 H0 T'.heap (locs ++ L) := by
  obtain ⟨hz, hk⟩ := hF
  rw [h0] at hz hk
  exact ⟨by rw [e1]; exact hz, fun q h1 h2 => by rw [e1]; exact hk q h1 h2,
    ⟨Nat.le_trans hS.1 (by rw [e1]; exact hz), fun q h1 h2 => by rw [e1, hk q (Nat.lt_of_lt_of_le h1 hS.1) (fun z => h2 (hA q (Nat.lt_of_lt_of_le h1 hS.1) z))]; exact hS.2.1 q h1 h2, fun q hq => by
      rcases List.mem_append.mp hq with h | h
      · exact hS.2.2 q h
      · exact hf _ (hL q h)⟩⟩
theorem vx_calli {S SX : Type} {post : Int32 → S → Prop} {px : SX → Prop} {B : S → State → Prop} {BX : String → SX → State → Prop} {AX : Nat → Prop} (hr : vx_Run p l e R s m args below meth c H locs cells slots mc ms (F0 m pc ls st0) rest (va_Qi post B A1 a) (vx_X px BX AX) free) (hS : va_S A0 H0 H locs) (hA : ∀ q, q < H.size → A1 q → A0 q) (hf : ∀ q, free q → A0 q) (hAX : ∀ q, q < H.size → AX q → A0 q)
    (kx : ∀ (E : String) (ce : Cell) (q9 : Addr) (u : SX) (t : State) (H1 : Heap) (locs1 : List Loc), t.heap = H1 → s.vm.Alike t.vm → px u → BX E u t → H.size ≤ H1.size → (∀ q : Nat, q < H.size → ¬ AX q → H1[q]? = H[q]?) → va_S A0 H0 H1 locs1 → H1[q9]? = some ce → ce.vm = .none → s.vm.findClass E = some ce.cls → vx_W p l e R s m args below meth c H1 locs1 (cells + mc) (slots + ms) Q (F0 m pc ls rest) q9)
    (kk : ∀ (r : Int32) (u : S) (t : State) (H1 : Heap) (locs1 : List Loc), t.heap = H1 → s.vm.Alike t.vm → post r u → B u t → H.size ≤ H1.size → (∀ q : Nat, q < H.size → ¬ A1 q → H1[q]? = H[q]?) → va_S A0 H0 H1 locs1 → W p l e R s m args below meth c H1 locs1 (cells + mc) (slots + ms) Q (F0 m (pc + 3) ls (.int r :: rest))) : W p l e R s m args below meth c H locs cells slots Q (F0 m pc ls st0) := by
  intro T hT X
  rcases hr T hT X with ⟨v, st₀, t, T', L, h0, X', hL, e1, e2, ⟨⟨r, u, hv, hp, hb⟩, hF⟩, st⟩ | ⟨q, st₀, t, T', L, E, ce, h0, X', hL, e1, e2, ⟨u, hp, hb, hF⟩, hce, hcv, hcl, st⟩
  · cases hv
    obtain ⟨k1, k2, k3⟩ := vx_keep h0 e1 hS hA hf hL hF
    obtain ⟨t2, a1, b1⟩ := kk r u t T'.heap (locs ++ L) e1.symm (by rw [← e2]; exact X'.warmed.alike) hp hb k1 k2 k3 T' rfl X'
    exact ⟨t2, st t2 a1, b1⟩
  · obtain ⟨k1, k2, k3⟩ := vx_keep h0 e1 hS hAX hf hL hF
    obtain ⟨t2, a1, b1⟩ := kx E ce q u t T'.heap (locs ++ L) e1.symm (by rw [← e2]; exact X'.warmed.alike) hp hb k1 k2 k3 (by rw [e1]; exact hce) hcv hcl T' rfl X'
    exact ⟨t2, st.trans a1, b1⟩
theorem vx_calll {S SX : Type} {post : Int64 → S → Prop} {px : SX → Prop} {B : S → State → Prop} {BX : String → SX → State → Prop} {AX : Nat → Prop} (hr : vx_Run p l e R s m args below meth c H locs cells slots mc ms (F0 m pc ls st0) rest (va_Ql post B A1 a) (vx_X px BX AX) free) (hS : va_S A0 H0 H locs) (hA : ∀ q, q < H.size → A1 q → A0 q) (hf : ∀ q, free q → A0 q) (hAX : ∀ q, q < H.size → AX q → A0 q)
    (kx : ∀ (E : String) (ce : Cell) (q9 : Addr) (u : SX) (t : State) (H1 : Heap) (locs1 : List Loc), t.heap = H1 → s.vm.Alike t.vm → px u → BX E u t → H.size ≤ H1.size → (∀ q : Nat, q < H.size → ¬ AX q → H1[q]? = H[q]?) → va_S A0 H0 H1 locs1 → H1[q9]? = some ce → ce.vm = .none → s.vm.findClass E = some ce.cls → vx_W p l e R s m args below meth c H1 locs1 (cells + mc) (slots + ms) Q (F0 m pc ls rest) q9)
    (kk : ∀ (r : Int64) (u : S) (t : State) (H1 : Heap) (locs1 : List Loc), t.heap = H1 → s.vm.Alike t.vm → post r u → B u t → H.size ≤ H1.size → (∀ q : Nat, q < H.size → ¬ A1 q → H1[q]? = H[q]?) → va_S A0 H0 H1 locs1 → W p l e R s m args below meth c H1 locs1 (cells + mc) (slots + ms) Q (F0 m (pc + 3) ls (.long r :: rest))) : W p l e R s m args below meth c H locs cells slots Q (F0 m pc ls st0) := by
  intro T hT X
  rcases hr T hT X with ⟨v, st₀, t, T', L, h0, X', hL, e1, e2, ⟨⟨r, u, hv, hp, hb⟩, hF⟩, st⟩ | ⟨q, st₀, t, T', L, E, ce, h0, X', hL, e1, e2, ⟨u, hp, hb, hF⟩, hce, hcv, hcl, st⟩
  · cases hv
    obtain ⟨k1, k2, k3⟩ := vx_keep h0 e1 hS hA hf hL hF
    obtain ⟨t2, a1, b1⟩ := kk r u t T'.heap (locs ++ L) e1.symm (by rw [← e2]; exact X'.warmed.alike) hp hb k1 k2 k3 T' rfl X'
    exact ⟨t2, st t2 a1, b1⟩
  · obtain ⟨k1, k2, k3⟩ := vx_keep h0 e1 hS hAX hf hL hF
    obtain ⟨t2, a1, b1⟩ := kx E ce q u t T'.heap (locs ++ L) e1.symm (by rw [← e2]; exact X'.warmed.alike) hp hb k1 k2 k3 (by rw [e1]; exact hce) hcv hcl T' rfl X'
    exact ⟨t2, st.trans a1, b1⟩
theorem vx_callf {S SX : Type} {post : UInt32 → S → Prop} {px : SX → Prop} {B : S → State → Prop} {BX : String → SX → State → Prop} {AX : Nat → Prop} (hr : vx_Run p l e R s m args below meth c H locs cells slots mc ms (F0 m pc ls st0) rest (va_Qf post B A1 a) (vx_X px BX AX) free) (hS : va_S A0 H0 H locs) (hA : ∀ q, q < H.size → A1 q → A0 q) (hf : ∀ q, free q → A0 q) (hAX : ∀ q, q < H.size → AX q → A0 q)
    (kx : ∀ (E : String) (ce : Cell) (q9 : Addr) (u : SX) (t : State) (H1 : Heap) (locs1 : List Loc), t.heap = H1 → s.vm.Alike t.vm → px u → BX E u t → H.size ≤ H1.size → (∀ q : Nat, q < H.size → ¬ AX q → H1[q]? = H[q]?) → va_S A0 H0 H1 locs1 → H1[q9]? = some ce → ce.vm = .none → s.vm.findClass E = some ce.cls → vx_W p l e R s m args below meth c H1 locs1 (cells + mc) (slots + ms) Q (F0 m pc ls rest) q9)
    (kk : ∀ (r : UInt32) (u : S) (t : State) (H1 : Heap) (locs1 : List Loc), t.heap = H1 → s.vm.Alike t.vm → post r u → B u t → H.size ≤ H1.size → (∀ q : Nat, q < H.size → ¬ A1 q → H1[q]? = H[q]?) → va_S A0 H0 H1 locs1 → W p l e R s m args below meth c H1 locs1 (cells + mc) (slots + ms) Q (F0 m (pc + 3) ls (.float r :: rest))) : W p l e R s m args below meth c H locs cells slots Q (F0 m pc ls st0) := by
  intro T hT X
  rcases hr T hT X with ⟨v, st₀, t, T', L, h0, X', hL, e1, e2, ⟨⟨r, u, hv, hp, hb⟩, hF⟩, st⟩ | ⟨q, st₀, t, T', L, E, ce, h0, X', hL, e1, e2, ⟨u, hp, hb, hF⟩, hce, hcv, hcl, st⟩
  · cases hv
    obtain ⟨k1, k2, k3⟩ := vx_keep h0 e1 hS hA hf hL hF
    obtain ⟨t2, a1, b1⟩ := kk r u t T'.heap (locs ++ L) e1.symm (by rw [← e2]; exact X'.warmed.alike) hp hb k1 k2 k3 T' rfl X'
    exact ⟨t2, st t2 a1, b1⟩
  · obtain ⟨k1, k2, k3⟩ := vx_keep h0 e1 hS hAX hf hL hF
    obtain ⟨t2, a1, b1⟩ := kx E ce q u t T'.heap (locs ++ L) e1.symm (by rw [← e2]; exact X'.warmed.alike) hp hb k1 k2 k3 (by rw [e1]; exact hce) hcv hcl T' rfl X'
    exact ⟨t2, st.trans a1, b1⟩
theorem vx_calld {S SX : Type} {post : UInt64 → S → Prop} {px : SX → Prop} {B : S → State → Prop} {BX : String → SX → State → Prop} {AX : Nat → Prop} (hr : vx_Run p l e R s m args below meth c H locs cells slots mc ms (F0 m pc ls st0) rest (va_Qd post B A1 a) (vx_X px BX AX) free) (hS : va_S A0 H0 H locs) (hA : ∀ q, q < H.size → A1 q → A0 q) (hf : ∀ q, free q → A0 q) (hAX : ∀ q, q < H.size → AX q → A0 q)
    (kx : ∀ (E : String) (ce : Cell) (q9 : Addr) (u : SX) (t : State) (H1 : Heap) (locs1 : List Loc), t.heap = H1 → s.vm.Alike t.vm → px u → BX E u t → H.size ≤ H1.size → (∀ q : Nat, q < H.size → ¬ AX q → H1[q]? = H[q]?) → va_S A0 H0 H1 locs1 → H1[q9]? = some ce → ce.vm = .none → s.vm.findClass E = some ce.cls → vx_W p l e R s m args below meth c H1 locs1 (cells + mc) (slots + ms) Q (F0 m pc ls rest) q9)
    (kk : ∀ (r : UInt64) (u : S) (t : State) (H1 : Heap) (locs1 : List Loc), t.heap = H1 → s.vm.Alike t.vm → post r u → B u t → H.size ≤ H1.size → (∀ q : Nat, q < H.size → ¬ A1 q → H1[q]? = H[q]?) → va_S A0 H0 H1 locs1 → W p l e R s m args below meth c H1 locs1 (cells + mc) (slots + ms) Q (F0 m (pc + 3) ls (.double r :: rest))) : W p l e R s m args below meth c H locs cells slots Q (F0 m pc ls st0) := by
  intro T hT X
  rcases hr T hT X with ⟨v, st₀, t, T', L, h0, X', hL, e1, e2, ⟨⟨r, u, hv, hp, hb⟩, hF⟩, st⟩ | ⟨q, st₀, t, T', L, E, ce, h0, X', hL, e1, e2, ⟨u, hp, hb, hF⟩, hce, hcv, hcl, st⟩
  · cases hv
    obtain ⟨k1, k2, k3⟩ := vx_keep h0 e1 hS hA hf hL hF
    obtain ⟨t2, a1, b1⟩ := kk r u t T'.heap (locs ++ L) e1.symm (by rw [← e2]; exact X'.warmed.alike) hp hb k1 k2 k3 T' rfl X'
    exact ⟨t2, st t2 a1, b1⟩
  · obtain ⟨k1, k2, k3⟩ := vx_keep h0 e1 hS hAX hf hL hF
    obtain ⟨t2, a1, b1⟩ := kx E ce q u t T'.heap (locs ++ L) e1.symm (by rw [← e2]; exact X'.warmed.alike) hp hb k1 k2 k3 (by rw [e1]; exact hce) hcv hcl T' rfl X'
    exact ⟨t2, st.trans a1, b1⟩
theorem vx_callv {S SX : Type} {post : S → Prop} {px : SX → Prop} {B : S → State → Prop} {BX : String → SX → State → Prop} {AX : Nat → Prop} (hr : vx_Run p l e R s m args below meth c H locs cells slots mc ms (F0 m pc ls st0) rest (va_Qv post B A1 a) (vx_X px BX AX) free) (hS : va_S A0 H0 H locs) (hA : ∀ q, q < H.size → A1 q → A0 q) (hf : ∀ q, free q → A0 q) (hAX : ∀ q, q < H.size → AX q → A0 q)
    (kx : ∀ (E : String) (ce : Cell) (q9 : Addr) (u : SX) (t : State) (H1 : Heap) (locs1 : List Loc), t.heap = H1 → s.vm.Alike t.vm → px u → BX E u t → H.size ≤ H1.size → (∀ q : Nat, q < H.size → ¬ AX q → H1[q]? = H[q]?) → va_S A0 H0 H1 locs1 → H1[q9]? = some ce → ce.vm = .none → s.vm.findClass E = some ce.cls → vx_W p l e R s m args below meth c H1 locs1 (cells + mc) (slots + ms) Q (F0 m pc ls rest) q9)
    (kk : ∀ (u : S) (t : State) (H1 : Heap) (locs1 : List Loc), t.heap = H1 → s.vm.Alike t.vm → post u → B u t → H.size ≤ H1.size → (∀ q : Nat, q < H.size → ¬ A1 q → H1[q]? = H[q]?) → va_S A0 H0 H1 locs1 → W p l e R s m args below meth c H1 locs1 (cells + mc) (slots + ms) Q (F0 m (pc + 3) ls (rest))) : W p l e R s m args below meth c H locs cells slots Q (F0 m pc ls st0) := by
  intro T hT X
  rcases hr T hT X with ⟨v, st₀, t, T', L, h0, X', hL, e1, e2, ⟨⟨u, hv, hp, hb⟩, hF⟩, st⟩ | ⟨q, st₀, t, T', L, E, ce, h0, X', hL, e1, e2, ⟨u, hp, hb, hF⟩, hce, hcv, hcl, st⟩
  · cases hv
    obtain ⟨k1, k2, k3⟩ := vx_keep h0 e1 hS hA hf hL hF
    obtain ⟨t2, a1, b1⟩ := kk u t T'.heap (locs ++ L) e1.symm (by rw [← e2]; exact X'.warmed.alike) hp hb k1 k2 k3 T' rfl X'
    exact ⟨t2, st t2 a1, b1⟩
  · obtain ⟨k1, k2, k3⟩ := vx_keep h0 e1 hS hAX hf hL hF
    obtain ⟨t2, a1, b1⟩ := kx E ce q u t T'.heap (locs ++ L) e1.symm (by rw [← e2]; exact X'.warmed.alike) hp hb k1 k2 k3 (by rw [e1]; exact hce) hcv hcl T' rfl X'
    exact ⟨t2, st.trans a1, b1⟩
/-- caught by the row x of this method's table; the rows ahead don't take it -/
theorem vx_catch {own name : String} {E : String} {ce : Cell} {q : Addr} (hown : s.vm.findClass own = some m.cls) (pre : List ExceptionTableEntry) (x : ExceptionTableEntry) (suf : List ExceptionTableEntry) (hsplit : c.exceptionTable.toList = pre ++ x :: suf)
    (hpass : ∀ z ∈ pre, covers z pc = false ∨ (z.catchType ≠ 0 ∧ ∃ nm : String, (Cond.classLink own z.catchType nm).before args s = true ∧ va_Nc E nm s)) (hx : covers x pc = true) (h0 : x.catchType ≠ 0)
    (hlink : (Cond.classLink own x.catchType name).before args s = true) (hcast : (Cond.castable E name).before args s = true) (hcell : H[q]? = some ce) (hv : ce.vm = .none) (hcl : s.vm.findClass E = some ce.cls)
    (kk : W p l e R s m args below meth c H locs cells slots Q (F0 m x.handlerPc ls [.ref q])) : vx_W p l e R s m args below meth c H locs cells slots Q (F0 m pc ls rest) q := by
  intro T hT X
  have hpl : e.platform.magicAccessors = ({} : Platform).magicAccessors := by rw [X.admits.platform]
  obtain ⟨c3, c4, hc3, hc4, hasg⟩ := Cond.castable_spec hcast
  cases Option.some.inj (hc3.symm.trans hcl)
  obtain ⟨c5, hc5, hcl5⟩ := Cond.classLink_spec hown hlink e.platform hpl
  cases Option.some.inj (hc4.symm.trans hc5)
  obtain ⟨vm', X', st⟩ := X.thenCaughtThrough q (g := F0 m pc ls rest) rfl (Steps.refl _) (by rw [hT]; exact hcell) (by rw [hv]; rfl) (by obtain ⟨k9, h9, -⟩ := Vm.findClass_spec hcl; exact ⟨k9, h9⟩) pre x suf hsplit
    (fun z hz => by
      rcases hpass z hz with h | ⟨hz0, nm, hl1, hn1⟩
      · exact Or.inl h
      · obtain ⟨c6, hc6, hcl6⟩ := Cond.classLink_spec hown hl1 e.platform hpl
        obtain ⟨a8, b8, h1, h2, h3⟩ := hn1
        cases Option.some.inj (h1.symm.trans hcl)
        cases Option.some.inj (h2.symm.trans hc6)
        exact Or.inr ⟨hz0, _, hcl6, h3⟩) hx (Or.inr ⟨h0, c4, hcl5, hasg⟩)
  obtain ⟨t, a1, b1⟩ := kk (T.setVm vm') hT X'
  exact ⟨t, st.trans a1, b1⟩
end Rows
section Ends
variable {p : Program} {l : Launch} {e : Env} {R : Room} {s : State} {m : MethodId} {args : Array Value} {below : List Frame} {meth : Method} {c : Code} {H : Heap} {locs : List Loc} {cells slots : Nat} {Q : State → Prop}
variable {mc ms : Nat} {free : Addr → Prop} {A0 A1 : Nat → Prop} {H0 : Heap} {a : Array Value} {ls : Array Slot} {st0 rest : List Value}
variable {Qc : Array Value → State → Outcome → State → Prop} {XC : String → State → State → Prop}
/-- what a body that may throw owes at its end -/
def vx_MQ (below : List Frame) (Qc : Array Value → State → Outcome → State → Prop) (XC : String → State → State → Prop) (a : Array Value) (s : State) (mc ms : Nat) (free : Addr → Prop) : State → Prop := fun t =>
  ∃ o, t.status = .running ∧ Ended t below o ∧ vx_Q Qc XC mc ms free a s o t
theorem vx_ret {g : JFrame} {mc ms : Nat} (k : W p l e R s m args below meth c H locs cells slots (MQ below Qc args s mc ms free) g) : W p l e R s m args below meth c H locs cells slots (vx_MQ below Qc XC args s mc ms free) g := by
  intro T hT X
  obtain ⟨t, a1, o, b1, b2, b3, b4⟩ := k T hT X
  exact ⟨t, a1, o, b1, b2, Or.inl ⟨b3, b4⟩⟩
/-- not caught here: it goes on to the caller -/
theorem vx_widen {g : JFrame} {q : Addr} {k n : Nat} (h1 : cells ≤ k) (h2 : slots ≤ n) (kk : vx_W p l e R s m args below meth c H locs k n Q g q) : vx_W p l e R s m args below meth c H locs cells slots Q g q := fun T hT X => kk T hT (stand_widen X h1 h2)
theorem vx_out {pc : Nat} {E : String} {ce : Cell} {q : Addr} {mc ms : Nat} (hout : ∀ x ∈ c.exceptionTable.toList, covers x pc = false) (hlocks : meth.locks = false) (hcell : H[q]? = some ce) (hv : ce.vm = .none) (hcl : s.vm.findClass E = some ce.cls)
    (hx : ∀ t : State, t.heap = H → s.vm.Alike t.vm → XC E s t) (hf : ∀ z ∈ locs, free z.base) (hc : cells ≤ mc) (hs : slots ≤ ms) :
    vx_W p l e R s m args below meth c H locs cells slots (vx_MQ below Qc XC args s mc ms free) (F0 m pc ls rest) q := by
  intro T hT X
  obtain ⟨st1, hrun, hend, hW, hsm⟩ := X.leaveThrown q (g := F0 m pc ls rest) rfl rfl rfl hout hlocks
  have hcell9 : (T.setFrames (.throwing q :: below)).heap[q]? = some ce := by
    show T.heap[q]? = some ce
    rw [hT]; exact hcell
  exact ⟨_, st1, .threw q, hrun, hend, Or.inr ⟨q, rfl, E, ce, locs, hx _ hT hW.alike, hcell9, hv, hcl, hW, hsm.mono hc hs, hf⟩⟩
theorem vx_frame {U : State} {k n : Nat} (h : s.sameButNew ({ U with vm := s.vm } : State) locs k n) : s.heap.size ≤ U.heap.size ∧ ∀ q : Nat, q < s.heap.size → (∀ z ∈ locs, z.base ≠ q) → U.heap[q]? = s.heap[q]? := by
  obtain ⟨-, h2, -, -, -, h6⟩ := h
  refine ⟨h2, fun q hq hz => ?_⟩
  obtain ⟨c9, e1, e2, e3, e4⟩ := h6 q _ (Array.getElem?_eq_getElem hq)
  have hs : c9.slots = (s.heap[q]).slots := Array.ext_getElem? fun i => e4 i fun hm => hz _ hm rfl
  have h9 : c9 = s.heap[q] := by
    rw [hs] at e2
    exact e2
  have e5 : U.heap[q]? = some c9 := e1
  rw [e5, h9, Array.getElem?_eq_getElem hq]
/-- the words of a throw but the four that speak of the heap -/
def vx_no (w : Cond) : Bool := decide (w ≠ .isRef (.static Bundle.tN "UNASSIGNED_STACK" Bundle.steD)) && decide (w ≠ .isRef (.static Bundle.tN "SUPPRESSED_SENTINEL" Bundle.listD)) && decide (w ≠ .laysStatic Bundle.tN "UNASSIGNED_STACK" Bundle.steD) && decide (w ≠ .laysStatic Bundle.tN "SUPPRESSED_SENTINEL" Bundle.listD)
def vx_at0 (own : String) (ic : Nat) (X : String) (names : List String) : List Cond := (Bundle.ownAtoms0 own ic X names).filter vx_no
def vx_atS (own : String) (ic : Nat) (X : String) (names : List String) : List Cond := (Bundle.ownAtoms own ic X names).filter vx_no
/-- a word that the tables alone decide, or a good one -/
def vx_ot (w : Cond) : Bool := w.onTables || goodWord w
theorem vx_ot_at {args a' : Array Value} {s U : State} {w : Cond} (hW : s.WarmedH U.vm) (hvm : s.vm = U.vm) (hg : vx_ot w = true) (h : w.before args s = true) : w.before a' U = true := by
  simp only [vx_ot, Bool.or_eq_true] at hg
  rcases hg with hg | hg
  · exact va_tabs hg hvm h
  · exact word_at hW (good_of_word hg) h
/-- a list's words: the good ones out of the method's own list, the others by premises of their own -/
theorem vx_hat {args : Array Value} {s : State} {L B : List Cond} (h1 : ∀ w ∈ L.filter goodWord, w.before args s = true) (h2 : ∀ w ∈ L.filter (fun w => !goodWord w), w ∈ B) (h3 : ∀ w ∈ B, w.before args s = true) : ∀ w ∈ L, w.before args s = true := by
  intro w hw
  by_cases g : goodWord w = true
  · exact h1 w (List.mem_filter.mpr ⟨hw, g⟩)
  · refine h3 w (h2 w (List.mem_filter.mpr ⟨hw, ?_⟩))
    show (!goodWord w) = true
    cases hgw : goodWord w
    · rfl
    · exact absurd hgw g
theorem vx_c {args : Array Value} {s : State} {w : Cond} {B : List Cond} (h : w.before args s = true) (t : ∀ w ∈ B, w.before args s = true) : ∀ w' ∈ w :: B, w'.before args s = true := fun w' h' => (List.mem_cons.mp h').elim (fun e => by rw [e]; exact h) (t w')
theorem vx_n {args : Array Value} {s : State} : ∀ w ∈ ([] : List Cond), w.before args s = true := fun _ h => nomatch h
theorem vx_own {args : Array Value} {s : State} {L : List Cond} (h1 : ∀ w ∈ L.filter vx_no, w.before args s = true)
    (hU : (Cond.isRef (.static Bundle.tN "UNASSIGNED_STACK" Bundle.steD)).before args s = true) (hN : (Cond.isRef (.static Bundle.tN "SUPPRESSED_SENTINEL" Bundle.listD)).before args s = true)
    (lU : (Cond.laysStatic Bundle.tN "UNASSIGNED_STACK" Bundle.steD).before args s = true) (lN : (Cond.laysStatic Bundle.tN "SUPPRESSED_SENTINEL" Bundle.listD).before args s = true) : ∀ w ∈ L, w.before args s = true := by
  intro w hw
  by_cases e1 : w = .isRef (.static Bundle.tN "UNASSIGNED_STACK" Bundle.steD)
  · rw [e1]; exact hU
  · by_cases e2 : w = .isRef (.static Bundle.tN "SUPPRESSED_SENTINEL" Bundle.listD)
    · rw [e2]; exact hN
    · by_cases e3 : w = .laysStatic Bundle.tN "UNASSIGNED_STACK" Bundle.steD
      · rw [e3]; exact lU
      · by_cases e4 : w = .laysStatic Bundle.tN "SUPPRESSED_SENTINEL" Bundle.listD
        · rw [e4]; exact lN
        · exact h1 w (List.mem_filter.mpr ⟨hw, by unfold vx_no; rw [decide_eq_true e1, decide_eq_true e2, decide_eq_true e3, decide_eq_true e4]; rfl⟩)
/-- where a static field lies, its class's statics cell in H -/
def vx_L (C n d : String) (A : Nat → Prop) (U : State) (H : Heap) : Prop := ∃ (c : ClassId) (k : Class) (i : Nat) (f : Field) (a : Nat) (cell : Cell), U.vm.findClass C = some c ∧ U.fieldFound? C n d = some (c, k, i, f) ∧ f.isStatic = true ∧ k.statics = some a ∧ H[a]? = some cell ∧ cell.vm.isStatics = true ∧ cell.cls = c ∧ f.slot < cell.slots.size ∧ k.staticTypes[f.slot]? = some f.type ∧ ¬ A a
theorem vx_L.moved {C n d : String} {A : Nat → Prop} {u U : State} {H : Heap} (hvm : u.vm.Alike U.vm) (h : vx_L C n d A u H) : vx_L C n d A U H := by
  obtain ⟨c, k, i, f, a, cell, h1, h2, h3, h4, h5, h6, h7, h8, h9, h10⟩ := h
  obtain ⟨k', hi', he⟩ := State.fieldFound?_setVm hvm h2
  exact ⟨c, k', i, f, a, cell, by rw [hvm.findClass]; exact h1, hi', h3, by rw [he]; exact h4, h5, h6, h7, h8, by rw [he]; exact h9, h10⟩
theorem vx_L.kept {C n d : String} {A : Nat → Prop} {U : State} {H H1 : Heap} (h : vx_L C n d A U H) (hq : ∀ a : Nat, a < H.size → ¬ A a → H1[a]? = H[a]?) : vx_L C n d A U H1 := by
  obtain ⟨c, k, i, f, a, cell, h1, h2, h3, h4, h5, h6, h7, h8, h9, h10⟩ := h
  exact ⟨c, k, i, f, a, cell, h1, h2, h3, h4, by rw [hq a (Array.getElem?_eq_some_iff.mp h5).1 h10]; exact h5, h6, h7, h8, h9, h10⟩
theorem vx_L.narrow {C n d : String} {A B : Nat → Prop} {U : State} {H : Heap} (h : vx_L C n d A U H) (hAB : ∀ q, B q → A q) : vx_L C n d B U H := by
  obtain ⟨c, k, i, f, a, cell, h1, h2, h3, h4, h5, h6, h7, h8, h9, h10⟩ := h
  exact ⟨c, k, i, f, a, cell, h1, h2, h3, h4, h5, h6, h7, h8, h9, fun z => h10 (hAB _ z)⟩
theorem vx_L.word {C n d : String} {A : Nat → Prop} {s : State} {args : Array Value} (h : vx_L C n d A s s.heap) : (Cond.laysStatic C n d).before args s = true := by
  obtain ⟨c, k, i, f, a, cell, h1, h2, h3, h4, h5, h6, h7, h8, h9, -⟩ := h
  show (Cond.laysStatic C n d).holds args s none s [] = true
  exact Cond.laysStatic_of h1 h2 h3 h4 h5 h6 h7 h8 h9
/-- .. and what it holds: null or some reference -/
def vx_Zq (C n d : String) (A : Nat → Prop) (U : State) (H : Heap) : Prop := va_Zq C n d A U H ∧ vx_L C n d A U H
theorem vx_Zq.moved {C n d : String} {A : Nat → Prop} {u U : State} {H : Heap} (hvm : u.vm.Alike U.vm) (h : vx_Zq C n d A u H) : vx_Zq C n d A U H := ⟨va_Zq.moved hvm h.1, vx_L.moved hvm h.2⟩
theorem vx_Zq.kept {C n d : String} {A : Nat → Prop} {U : State} {H H1 : Heap} (h : vx_Zq C n d A U H) (hq : ∀ a : Nat, a < H.size → ¬ A a → H1[a]? = H[a]?) : vx_Zq C n d A U H1 := ⟨va_Zq.kept h.1 hq, vx_L.kept h.2 hq⟩
theorem vx_Zq.narrow {C n d : String} {A B : Nat → Prop} {U : State} {H : Heap} (h : vx_Zq C n d A U H) (hAB : ∀ q, B q → A q) : vx_Zq C n d B U H := ⟨va_Zq.narrow h.1 hAB, vx_L.narrow h.2 hAB⟩
theorem vx_Zqof {args : Array Value} {s : State} {C n d : String} {A : Nat → Prop} (hl : (Cond.laysStatic C n d).before args s = true) (hini : (Cond.initialized C).before args s = true) (h : (Cond.isRef (.static C n d)).before args s = true) (hA : ∀ a : Nat, a < s.heap.size → ¬ A a) : vx_Zq C n d A s s.heap := by
  refine ⟨va_Zqof hl hini h hA, ?_⟩
  obtain ⟨c, k, i, f, a, cell, h1, h2, h3, h4, h5, h6, h7, h8, h9⟩ := Cond.laysStatic_spec hl
  exact ⟨c, k, i, f, a, cell, h1, h2, h3, h4, h5, h6, h7, h8, h9, hA a (Array.getElem?_eq_some_iff.mp h5).1⟩
theorem vx_isRef {C n d : String} {v : Value} {A : Nat → Prop} {s : State} {args : Array Value} (h : va_Z C n d v A s s.heap) (hv : v.isRef = true) : (Cond.isRef (.static C n d)).before args s = true := by
  obtain ⟨cf, kf, fi, f, a, cell, h1, h2, h3, h4, h5, h6, h7, -⟩ := h
  have he : (Term.static C n d).eval args s none [] s = some v := by
    simp [Term.eval, State.fieldNamed?, h1, h2, h4, h5, h6, h7]
  simp only [Cond.before, Cond.holds, Cond.value, he]
  cases v <;> simp_all [Value.isRef]
theorem vx_isRefq {C n d : String} {A : Nat → Prop} {s : State} {args : Array Value} (h : va_Zq C n d A s s.heap) : (Cond.isRef (.static C n d)).before args s = true := by
  rcases h with h | ⟨t, h⟩
  · exact vx_isRef h rfl
  · exact vx_isRef h rfl
/-- the same frame, seen from here: as if the method were called anew in this heap -/
theorem vx_rebase {T : State} (X : Stand p l e R s m args below meth c T locs cells slots) {R' : Room} (hf : R'.frames ≤ R.frames) (hl : R'.locals ≤ R.locals) (hc : cells + R'.cells ≤ R.cells) (hs : slots + R'.slots ≤ R.slots) :
    Stand p l e R' ((T.setVm s.vm).setFrames (.invoking m args :: below)) m args below meth c T [] 0 0 := by
  have htop : (T.setVm s.vm).topJava?.isSome := X.here.top
  have hF : ((T.setVm s.vm).setFrames (.invoking m args :: below)).frames = .invoking m args :: below := State.frames_setFrames _ (State.cur_lt_of_top htop)
  obtain ⟨g₀, hg0⟩ := Option.isSome_iff_exists.mp htop
  obtain ⟨r, hr⟩ := State.topJava?_eq_some.mp hg0
  have hl9 : e.platform.stackLimits (T.setVm s.vm).me = e.platform.stackLimits s.me := X.limits
  have hb9 : (T.setVm s.vm).me.stackBytes = s.me.stackBytes := X.bytes
  refine ⟨X.admits, X.cas, X.clock, hF, ?_, X.hears, X.method, X.code, X.here, X.tail, X.warmed, ?_, ?_, ?_⟩
  · have h := X.room
    have hU : ((T.setVm s.vm).setFrames (.invoking m args :: below)).localsInUse = s.localsInUse := by
      rw [State.localsInUse_invoking hF (meth := meth) (c := c) X.method X.code, State.localsInUse_invoking X.frames X.method X.code]
    simp only [State.hasRoom, Bool.and_eq_true, decide_eq_true_eq] at h ⊢
    obtain ⟨⟨⟨⟨h1, h2, h3, h4, h5, h6⟩, h7⟩, h8⟩, h9⟩ := h
    rw [X.frames, List.length_cons] at h2 h3
    have q1 := X.heapSize
    have q2 := X.used
    simp only [hF, hU, List.length_cons, State.stackLimits_setFrames, State.stackBytes_setFrames, hl9, hb9]
    refine ⟨⟨⟨⟨by omega, by omega, by omega, by omega, by omega, h6⟩, ?_⟩, ?_⟩, X.book⟩
    · show T.heap.size + R'.cells ≤ e.platform.maxCells
      omega
    · show T.slotsUsed + R'.slots ≤ e.platform.maxSlots
      omega
  · rw [State.stackLimits_setFrames]; rfl
  · rw [State.stackBytes_setFrames]; rfl
  · refine ⟨?_, Nat.le_refl _, Nat.le_refl _, ?_, ?_, fun a c9 h9 => ⟨c9, h9, rfl, rfl, fun _ _ => rfl⟩⟩
    · obtain ⟨t, ht, -⟩ := State.frames_cons hr
      show T.setVm s.vm = { ((T.setVm s.vm).setFrames (.invoking m args :: below)).setFrames (T.setVm s.vm).frames with heap := T.heap, slotsUsed := T.slotsUsed }
      rw [State.setFrames_setFrames, State.setFrames_self ht]
      rfl
    · show T.slotsUsed = T.slotsUsed + ((T.heap.toList.drop T.heap.size).map (·.slots.size)).sum
      rw [List.drop_eq_nil_of_le (Nat.le_of_eq Array.length_toList)]
      rfl
    · show ((T.heap.toList.drop T.heap.size).map (·.slots.size)).sum ≤ 0
      rw [List.drop_eq_nil_of_le (Nat.le_of_eq Array.length_toList)]
      exact Nat.le_refl _
/-- 'throw new E()': new; dup; invokespecial; athrow -/
theorem vx_throw0 {cc : ByteArray} {pc : Nat} (hexec : p.tables.exec = Jvm.exec) (hb : c.code = cc) (hl : l.stackTraces = false) {own cls : String} {names : List String} {ik ic mc ms : Nat} {A : Nat → Prop}
    (hown : s.vm.findClass own = some m.cls) (hcls : Bundle.fit cls = true) (hnames : ∀ n ∈ names, Bundle.fit n = true)
    (hk : (Cond.classLink own ik cls).before args s = true) (hini : (Cond.initialized cls).before args s = true) (hat : ∀ w ∈ vx_at0 own ic cls names, w.before args s = true)
    (hgood : ∀ w ∈ Cond.classLink own ik cls :: Cond.initialized cls :: vx_at0 own ic cls names, vx_ot w = true)
    (hU : vx_Zq Bundle.tN "UNASSIGNED_STACK" Bundle.steD A s s.heap) (hN : vx_Zq Bundle.tN "SUPPRESSED_SENTINEL" Bundle.listD A s s.heap) (hS : va_S A s.heap H locs) (hsize : ls.size = c.maxLocals)
    (d0 : decode cc pc = .ok (.new ik, 3)) (d3 : decode cc (pc + 3) = .ok (.dup, 1)) (d4 : decode cc (pc + 4) = .ok (.invokespecial ic, 3)) (d7 : decode cc (pc + 7) = .ok (.athrow, 1))
    (hout : ∀ x ∈ c.exceptionTable.toList, covers x (pc + 7) = false)
    (hRframes : names.length + 3 < R.frames) (hRlocals : (rest.map fun v => v.category).sum + (13 * (names.length + 1) + 42) ≤ R.locals) (hRcells : cells + 1 ≤ R.cells) (hRslots : slots + 6 ≤ R.slots) (hlocks : meth.locks = false)
    (hx : ∀ t : State, s.vm.Alike t.vm → H.size ≤ t.heap.size → (∀ q : Nat, q < H.size → t.heap[q]? = H[q]?) → XC cls s t)
    (hf : ∀ z ∈ locs, free z.base) (hc : cells + 1 ≤ mc) (hs : slots + 6 ≤ ms) :
    W p l e R s m args below meth c H locs cells slots (vx_MQ below Qc XC args s mc ms free) (F0 m pc ls rest) := by
  intro T hT X
  have htr : e.platform.stackTraces = false := (show e.platform.stackTraces = l.stackTraces by rw [X.admits.platform]).trans hl
  have Y := vx_rebase X (R' := { frames := R.frames, locals := R.locals, cells := 1, slots := 6 }) (Nat.le_refl _) (Nat.le_refl _) hRcells hRslots
  obtain ⟨s', hA⟩ : ∃ z, z = (T.setVm s.vm).setFrames (.invoking m args :: below) := ⟨_, rfl⟩
  rw [← hA] at Y
  have hvm : s'.vm = s.vm := by rw [hA]; rfl
  have hhp : s'.heap = H := by rw [hA]; exact hT
  have hW0 : s.WarmedH s'.vm := by rw [hvm]; exact State.WarmedH.refl s
  have hat' : ∀ w ∈ vx_at0 own ic cls names, w.before args s' = true := fun w hw => vx_ot_at hW0 hvm.symm (hgood w (List.mem_cons_of_mem _ (List.mem_cons_of_mem _ hw))) (hat w hw)
  have hk' : (Cond.classLink own ik cls).before args s' = true := vx_ot_at hW0 hvm.symm (hgood _ List.mem_cons_self) hk
  have hini' : (Cond.initialized cls).before args s' = true := vx_ot_at hW0 hvm.symm (hgood _ (List.mem_cons_of_mem _ List.mem_cons_self)) hini
  have hU' : vx_Zq Bundle.tN "UNASSIGNED_STACK" Bundle.steD A s' s'.heap := by rw [hhp]; exact vx_Zq.moved hW0.alike (hU.kept hS.2.1)
  have hN' : vx_Zq Bundle.tN "SUPPRESSED_SENTINEL" Bundle.listD A s' s'.heap := by rw [hhp]; exact vx_Zq.moved hW0.alike (hN.kept hS.2.1)
  have h : ∀ w ∈ Bundle.ownAtoms0 own ic cls names, w.before args s' = true := vx_own hat' (vx_isRefq hU'.1) (vx_isRefq hN'.1) hU'.2.word hN'.2.word
  have hown' : s'.vm.findClass own = some m.cls := by rw [hvm]; exact hown
  have hins : (Cond.instantiable cls 6).before args s' = true := h _ (by simp [Bundle.ownAtoms0])
  obtain ⟨vm₁, cX, kX, hfX, hkX, -, -, X₁, st1⟩ := Y.newCold hexec (own := own) (C := cls) (index := ik) (n := 6) hown' hk' hins hini'
    (g := F0 m pc ls rest) rfl (by rw [hb]; exact d0) (Nat.le_refl _) (Nat.le_refl _)
  generalize hT1 : (T.setVm vm₁).pushCell { cls := cX, slots := kX.instanceTypes.map defaultValue, vm := .none } = T1 at X₁ st1
  have hcat : (Value.ref T.heap.size).category = 1 := rfl
  have hcellA : T1.heap[T.heap.size]? = some (freshCell cX kX) := by rw [← hT1]; exact State.heap_pushCell_size _ _
  have d3' : decode c.code (pc + 3) = .ok (.dup, 1) := by rw [hb]; exact d3
  obtain ⟨U, hsteps, hrun, hend, hW, hsame, ce, hce, hO⟩ := X₁.ctorThrow0 hexec htr (own := own) (cls := cls) (names := names) (ic := ic) hown' hcls hnames h (fun x hx => nomatch hx) hfX hkX hcellA (by rw [hhp, hT]; exact Nat.le_refl _)
    (g := { method := m, pc := pc + 4, locals := ls, stack := .ref T.heap.size :: .ref T.heap.size :: rest, locked := none }) rfl hsize rfl rfl (rest := rest) rfl
    (by rw [hb]; exact d4) (by rw [hb]; exact d7) hout hRframes (by simp only [List.map_cons, List.sum_cons, hcat]; omega) hlocks
  obtain ⟨f1, f2⟩ := vx_frame hsame
  rw [hhp] at f1 f2
  have hWs : s.WarmedH U.vm := State.WarmedH.trans hW0 hW
  have hcl : s.vm.findClass cls = some ce.cls := by
    have h9 := hO.cls
    rw [hvm] at h9
    exact h9
  have hall : s.sameButNew ({ U with vm := s.vm } : State) locs mc ms := by
    subst hA
    obtain ⟨e1, e2⟩ := hsame
    rw [State.setFrames_setFrames] at e1
    have h2 : (T.setVm s.vm).sameButNew ({ U with vm := s.vm } : State) [] (0 + 1) (0 + 6) := ⟨e1, e2⟩
    have h3 := X.same.trans h2
    rw [List.append_nil] at h3
    exact h3.mono hc hs
  refine ⟨U, ?_, .threw T.heap.size, hrun, hend, Or.inr ⟨T.heap.size, rfl, cls, ce, locs, hx U hWs.alike f1 (fun q hq => f2 q hq (fun z hz => nomatch hz)), hce, hO.vm, hcl, hWs, hall, hf⟩⟩
  refine st1 _ ?_
  show Steps p.tables e below (T1.setTop { method := m, pc := pc + 3, locals := ls, stack := .ref T.heap.size :: rest, locked := none }) _
  jvm_step X₁.here [X₁.here.top, hexec, d3', Value.category]
  exact hsteps
/-- 'throw new E("text")': new; dup; ldc; invokespecial; athrow -/
theorem vx_throwS {cc : ByteArray} {pc : Nat} (hexec : p.tables.exec = Jvm.exec) (hb : c.code = cc) (hl : l.stackTraces = false) {own cls text : String} {names : List String} {ik is ic mc ms sa : Nat} {A : Nat → Prop}
    (hown : s.vm.findClass own = some m.cls) (hcls : Bundle.fit cls = true) (hnames : ∀ n ∈ names, Bundle.fit n = true)
    (hk : (Cond.classLink own ik cls).before args s = true) (hini : (Cond.initialized cls).before args s = true) (hstr : vk_R own is text sa s) (hat : ∀ w ∈ vx_atS own ic cls names, w.before args s = true)
    (hgood : ∀ w ∈ Cond.classLink own ik cls :: Cond.initialized cls :: vx_atS own ic cls names, vx_ot w = true)
    (hU : vx_Zq Bundle.tN "UNASSIGNED_STACK" Bundle.steD A s s.heap) (hN : vx_Zq Bundle.tN "SUPPRESSED_SENTINEL" Bundle.listD A s s.heap) (hS : va_S A s.heap H locs) (hsize : ls.size = c.maxLocals)
    (d0 : decode cc pc = .ok (.new ik, 3)) (d3 : decode cc (pc + 3) = .ok (.dup, 1)) (d4 : decode cc (pc + 4) = .ok (.ldc is, 2)) (d6 : decode cc (pc + 6) = .ok (.invokespecial ic, 3)) (d9 : decode cc (pc + 9) = .ok (.athrow, 1))
    (hout : ∀ x ∈ c.exceptionTable.toList, covers x (pc + 9) = false)
    (hRframes : names.length + 3 < R.frames) (hRlocals : (rest.map fun v => v.category).sum + (13 * (names.length + 1) + 43) ≤ R.locals) (hRcells : cells + 1 ≤ R.cells) (hRslots : slots + 6 ≤ R.slots) (hlocks : meth.locks = false)
    (hx : ∀ t : State, s.vm.Alike t.vm → H.size ≤ t.heap.size → (∀ q : Nat, q < H.size → t.heap[q]? = H[q]?) → XC cls s t)
    (hf : ∀ z ∈ locs, free z.base) (hc : cells + 1 ≤ mc) (hs : slots + 6 ≤ ms) :
    W p l e R s m args below meth c H locs cells slots (vx_MQ below Qc XC args s mc ms free) (F0 m pc ls rest) := by
  intro T hT X
  have htr : e.platform.stackTraces = false := (show e.platform.stackTraces = l.stackTraces by rw [X.admits.platform]).trans hl
  have Y := vx_rebase X (R' := { frames := R.frames, locals := R.locals, cells := 1, slots := 6 }) (Nat.le_refl _) (Nat.le_refl _) hRcells hRslots
  obtain ⟨s', hA⟩ : ∃ z, z = (T.setVm s.vm).setFrames (.invoking m args :: below) := ⟨_, rfl⟩
  rw [← hA] at Y
  have hvm : s'.vm = s.vm := by rw [hA]; rfl
  have hhp : s'.heap = H := by rw [hA]; exact hT
  have hW0 : s.WarmedH s'.vm := by rw [hvm]; exact State.WarmedH.refl s
  have hat' : ∀ w ∈ vx_atS own ic cls names, w.before args s' = true := fun w hw => vx_ot_at hW0 hvm.symm (hgood w (List.mem_cons_of_mem _ (List.mem_cons_of_mem _ hw))) (hat w hw)
  have hk' : (Cond.classLink own ik cls).before args s' = true := vx_ot_at hW0 hvm.symm (hgood _ List.mem_cons_self) hk
  have hini' : (Cond.initialized cls).before args s' = true := vx_ot_at hW0 hvm.symm (hgood _ (List.mem_cons_of_mem _ List.mem_cons_self)) hini
  have hU' : vx_Zq Bundle.tN "UNASSIGNED_STACK" Bundle.steD A s' s'.heap := by rw [hhp]; exact vx_Zq.moved hW0.alike (hU.kept hS.2.1)
  have hN' : vx_Zq Bundle.tN "SUPPRESSED_SENTINEL" Bundle.listD A s' s'.heap := by rw [hhp]; exact vx_Zq.moved hW0.alike (hN.kept hS.2.1)
  have h : ∀ w ∈ Bundle.ownAtoms own ic cls names, w.before args s' = true := vx_own hat' (vx_isRefq hU'.1) (vx_isRefq hN'.1) hU'.2.word hN'.2.word
  have hown' : s'.vm.findClass own = some m.cls := by rw [hvm]; exact hown
  have hins : (Cond.instantiable cls 6).before args s' = true := h _ (by simp [Bundle.ownAtoms])
  obtain ⟨vm₁, cX, kX, hfX, hkX, -, -, X₁, st1⟩ := Y.newCold hexec (own := own) (C := cls) (index := ik) (n := 6) hown' hk' hins hini'
    (g := F0 m pc ls rest) rfl (by rw [hb]; exact d0) (Nat.le_refl _) (Nat.le_refl _)
  generalize hT1 : (T.setVm vm₁).pushCell { cls := cX, slots := kX.instanceTypes.map defaultValue, vm := .none } = T1 at X₁ st1
  have hcat : (Value.ref T.heap.size).category = 1 := rfl
  have hcellA : T1.heap[T.heap.size]? = some (freshCell cX kX) := by rw [← hT1]; exact State.heap_pushCell_size _ _
  have d3' : decode c.code (pc + 3) = .ok (.dup, 1) := by rw [hb]; exact d3
  have d4' : decode c.code (pc + 4) = .ok (.ldc is, 2) := by rw [hb]; exact d4
  have hstr' : vk_R own is text sa s' := vk_R.warm hW0 hstr
  obtain ⟨U, hsteps, hrun, hend, hW, hsame, ce, hce, hO⟩ := X₁.ctorThrowS hexec htr (own := own) (cls := cls) (names := names) (ic := ic) hown' hcls hnames h (fun x hx => nomatch hx) hfX hkX hcellA (by rw [hhp, hT]; exact Nat.le_refl _) (msg := .ref sa) rfl
    (g := { method := m, pc := pc + 6, locals := ls, stack := .ref sa :: .ref T.heap.size :: .ref T.heap.size :: rest, locked := none }) rfl hsize rfl rfl (rest := rest) rfl
    (by rw [hb]; exact d6) (by rw [hb]; exact d9) hout hRframes (by simp only [List.map_cons, List.sum_cons, hcat]; omega) hlocks
  obtain ⟨f1, f2⟩ := vx_frame hsame
  rw [hhp] at f1 f2
  have hWs : s.WarmedH U.vm := State.WarmedH.trans hW0 hW
  have hcl : s.vm.findClass cls = some ce.cls := by
    have h9 := hO.cls
    rw [hvm] at h9
    exact h9
  have hall : s.sameButNew ({ U with vm := s.vm } : State) locs mc ms := by
    subst hA
    obtain ⟨e1, e2⟩ := hsame
    rw [State.setFrames_setFrames] at e1
    have h2 : (T.setVm s.vm).sameButNew ({ U with vm := s.vm } : State) [] (0 + 1) (0 + 6) := ⟨e1, e2⟩
    have h3 := X.same.trans h2
    rw [List.append_nil] at h3
    exact h3.mono hc hs
  refine ⟨U, ?_, .threw T.heap.size, hrun, hend, Or.inr ⟨T.heap.size, rfl, cls, ce, locs, hx U hWs.alike f1 (fun q hq => f2 q hq (fun z hz => nomatch hz)), hce, hO.vm, hcl, hWs, hall, hf⟩⟩
  refine st1 _ ?_
  show Steps p.tables e below (T1.setTop { method := m, pc := pc + 3, locals := ls, stack := .ref T.heap.size :: rest, locked := none }) _
  jvm_step X₁.here [X₁.here.top, hexec, d3', Value.category]
  exact X₁.ldcString hexec (own := own) (text := text) (index := is) (a := sa) hown' hstr'.1 hstr'.2
    (g := { method := m, pc := pc + 4, locals := ls, stack := .ref T.heap.size :: .ref T.heap.size :: rest, locked := none }) rfl d4' _ hsteps
/-- 'throw new E("text")', the text by a wide index -/
theorem vx_throwSW {cc : ByteArray} {pc : Nat} (hexec : p.tables.exec = Jvm.exec) (hb : c.code = cc) (hl : l.stackTraces = false) {own cls text : String} {names : List String} {ik is ic mc ms sa : Nat} {A : Nat → Prop}
    (hown : s.vm.findClass own = some m.cls) (hcls : Bundle.fit cls = true) (hnames : ∀ n ∈ names, Bundle.fit n = true)
    (hk : (Cond.classLink own ik cls).before args s = true) (hini : (Cond.initialized cls).before args s = true) (hstr : vk_R own is text sa s) (hat : ∀ w ∈ vx_atS own ic cls names, w.before args s = true)
    (hgood : ∀ w ∈ Cond.classLink own ik cls :: Cond.initialized cls :: vx_atS own ic cls names, vx_ot w = true)
    (hU : vx_Zq Bundle.tN "UNASSIGNED_STACK" Bundle.steD A s s.heap) (hN : vx_Zq Bundle.tN "SUPPRESSED_SENTINEL" Bundle.listD A s s.heap) (hS : va_S A s.heap H locs) (hsize : ls.size = c.maxLocals)
    (d0 : decode cc pc = .ok (.new ik, 3)) (d3 : decode cc (pc + 3) = .ok (.dup, 1)) (d4 : decode cc (pc + 4) = .ok (.ldc_w is, 3)) (d7 : decode cc (pc + 7) = .ok (.invokespecial ic, 3)) (d10 : decode cc (pc + 10) = .ok (.athrow, 1))
    (hout : ∀ x ∈ c.exceptionTable.toList, covers x (pc + 10) = false)
    (hRframes : names.length + 3 < R.frames) (hRlocals : (rest.map fun v => v.category).sum + (13 * (names.length + 1) + 43) ≤ R.locals) (hRcells : cells + 1 ≤ R.cells) (hRslots : slots + 6 ≤ R.slots) (hlocks : meth.locks = false)
    (hx : ∀ t : State, s.vm.Alike t.vm → H.size ≤ t.heap.size → (∀ q : Nat, q < H.size → t.heap[q]? = H[q]?) → XC cls s t)
    (hf : ∀ z ∈ locs, free z.base) (hc : cells + 1 ≤ mc) (hs : slots + 6 ≤ ms) :
    W p l e R s m args below meth c H locs cells slots (vx_MQ below Qc XC args s mc ms free) (F0 m pc ls rest) := by
  intro T hT X
  have htr : e.platform.stackTraces = false := (show e.platform.stackTraces = l.stackTraces by rw [X.admits.platform]).trans hl
  have Y := vx_rebase X (R' := { frames := R.frames, locals := R.locals, cells := 1, slots := 6 }) (Nat.le_refl _) (Nat.le_refl _) hRcells hRslots
  obtain ⟨s', hA⟩ : ∃ z, z = (T.setVm s.vm).setFrames (.invoking m args :: below) := ⟨_, rfl⟩
  rw [← hA] at Y
  have hvm : s'.vm = s.vm := by rw [hA]; rfl
  have hhp : s'.heap = H := by rw [hA]; exact hT
  have hW0 : s.WarmedH s'.vm := by rw [hvm]; exact State.WarmedH.refl s
  have hat' : ∀ w ∈ vx_atS own ic cls names, w.before args s' = true := fun w hw => vx_ot_at hW0 hvm.symm (hgood w (List.mem_cons_of_mem _ (List.mem_cons_of_mem _ hw))) (hat w hw)
  have hk' : (Cond.classLink own ik cls).before args s' = true := vx_ot_at hW0 hvm.symm (hgood _ List.mem_cons_self) hk
  have hini' : (Cond.initialized cls).before args s' = true := vx_ot_at hW0 hvm.symm (hgood _ (List.mem_cons_of_mem _ List.mem_cons_self)) hini
  have hU' : vx_Zq Bundle.tN "UNASSIGNED_STACK" Bundle.steD A s' s'.heap := by rw [hhp]; exact vx_Zq.moved hW0.alike (hU.kept hS.2.1)
  have hN' : vx_Zq Bundle.tN "SUPPRESSED_SENTINEL" Bundle.listD A s' s'.heap := by rw [hhp]; exact vx_Zq.moved hW0.alike (hN.kept hS.2.1)
  have h : ∀ w ∈ Bundle.ownAtoms own ic cls names, w.before args s' = true := vx_own hat' (vx_isRefq hU'.1) (vx_isRefq hN'.1) hU'.2.word hN'.2.word
  have hown' : s'.vm.findClass own = some m.cls := by rw [hvm]; exact hown
  have hins : (Cond.instantiable cls 6).before args s' = true := h _ (by simp [Bundle.ownAtoms])
  obtain ⟨vm₁, cX, kX, hfX, hkX, -, -, X₁, st1⟩ := Y.newCold hexec (own := own) (C := cls) (index := ik) (n := 6) hown' hk' hins hini'
    (g := F0 m pc ls rest) rfl (by rw [hb]; exact d0) (Nat.le_refl _) (Nat.le_refl _)
  generalize hT1 : (T.setVm vm₁).pushCell { cls := cX, slots := kX.instanceTypes.map defaultValue, vm := .none } = T1 at X₁ st1
  have hcat : (Value.ref T.heap.size).category = 1 := rfl
  have hcellA : T1.heap[T.heap.size]? = some (freshCell cX kX) := by rw [← hT1]; exact State.heap_pushCell_size _ _
  have d3' : decode c.code (pc + 3) = .ok (.dup, 1) := by rw [hb]; exact d3
  have d4' : decode c.code (pc + 4) = .ok (.ldc_w is, 3) := by rw [hb]; exact d4
  have hstr' : vk_R own is text sa s' := vk_R.warm hW0 hstr
  obtain ⟨U, hsteps, hrun, hend, hW, hsame, ce, hce, hO⟩ := X₁.ctorThrowS hexec htr (own := own) (cls := cls) (names := names) (ic := ic) hown' hcls hnames h (fun x hx => nomatch hx) hfX hkX hcellA (by rw [hhp, hT]; exact Nat.le_refl _) (msg := .ref sa) rfl
    (g := { method := m, pc := pc + 7, locals := ls, stack := .ref sa :: .ref T.heap.size :: .ref T.heap.size :: rest, locked := none }) rfl hsize rfl rfl (rest := rest) rfl
    (by rw [hb]; exact d7) (by rw [hb]; exact d10) hout hRframes (by simp only [List.map_cons, List.sum_cons, hcat]; omega) hlocks
  obtain ⟨f1, f2⟩ := vx_frame hsame
  rw [hhp] at f1 f2
  have hWs : s.WarmedH U.vm := State.WarmedH.trans hW0 hW
  have hcl : s.vm.findClass cls = some ce.cls := by
    have h9 := hO.cls
    rw [hvm] at h9
    exact h9
  have hall : s.sameButNew ({ U with vm := s.vm } : State) locs mc ms := by
    subst hA
    obtain ⟨e1, e2⟩ := hsame
    rw [State.setFrames_setFrames] at e1
    have h2 : (T.setVm s.vm).sameButNew ({ U with vm := s.vm } : State) [] (0 + 1) (0 + 6) := ⟨e1, e2⟩
    have h3 := X.same.trans h2
    rw [List.append_nil] at h3
    exact h3.mono hc hs
  refine ⟨U, ?_, .threw T.heap.size, hrun, hend, Or.inr ⟨T.heap.size, rfl, cls, ce, locs, hx U hWs.alike f1 (fun q hq => f2 q hq (fun z hz => nomatch hz)), hce, hO.vm, hcl, hWs, hall, hf⟩⟩
  refine st1 _ ?_
  show Steps p.tables e below (T1.setTop { method := m, pc := pc + 3, locals := ls, stack := .ref T.heap.size :: rest, locked := none }) _
  jvm_step X₁.here [X₁.here.top, hexec, d3', Value.category]
  exact X₁.ldcStringW hexec (own := own) (text := text) (index := is) (a := sa) hown' hstr'.1 hstr'.2
    (g := { method := m, pc := pc + 4, locals := ls, stack := .ref T.heap.size :: .ref T.heap.size :: rest, locked := none }) rfl d4' _ hsteps
end Ends
section Bodies
variable {l : Launch}
theorem vx_ofW {y : MethodName} {ws ws' : List Cond} {rm : Room} {Pc : Array Value → State → Prop} {Qc : Array Value → State → Outcome → State → Prop} {XC : String → State → State → Prop} {mc ms : Nat} {free : Addr → Prop} {cc : ByteArray} {maxL : Nat} {ret : Option FieldType}
    (hy : plainName y.cls = true) (hw : ws = Cond.code y cc maxL ret :: ws')
    (body : ∀ p e s m args below meth c s₁, BodyLoose p l y (headSpec ws rm) cc maxL ret e s m args below meth c s₁ → c.maxLocals = maxL → (∀ x ∈ c.exceptionTable.toList, False) → Pc args s →
      W p l e (headSpec ws rm).room s m args below meth c s.heap [] 0 0 (vx_MQ below Qc XC args s mc ms free) (entryFrame m args maxL)) : vx_Met l y ws rm Pc Qc XC mc ms free := by
  refine MetFree.of_bodyS (code := cc) (maxLocals := maxL) (ret := ret) hy ?_ ?_
  · intro args s m h hn
    obtain ⟨meth, c, h1, h2, h3, h4, h5, h6, -, -⟩ := Cond.code_spec hn (atoms_spec (ws := ws) h _ (by rw [hw]; exact List.mem_cons_self))
    exact ⟨meth, c, h1, h2, h3, h4, h5, h6⟩
  · intro p e s m args below meth c s₁ B hml hP _
    have hh0 : s₁.heap = s.heap := by rw [B.state]; rfl
    have ht : ∀ x ∈ c.exceptionTable.toList, False := by
      obtain ⟨meth9, c9, h1, h2, -, -, -, -, h7, -⟩ := Cond.code_spec B.named (atoms_spec (ws := ws) B.pre _ (by rw [hw]; exact List.mem_cons_self))
      cases Option.some.inj (h1.symm.trans B.method)
      cases Option.some.inj (h2.symm.trans (Stand.of_body B).code)
      intro x hx
      rw [Array.isEmpty_iff.mp h7] at hx
      cases hx
    obtain ⟨t, a1, o, b1, b2, b3⟩ := body p e s m args below meth c s₁ B hml ht hP s₁ hh0 (Stand.of_body B)
    exact ⟨t, o, a1, b1, b2, b3⟩
/-- the table of a body with handlers -/
theorem vx_table {p : Program} {x y : MethodName} {S : Spec} {cc bytes : ByteArray} {maxL maxL' : Nat} {ret ret' : Option FieldType} {e : Env} {s s₁ : State} {m : MethodId} {args : Array Value} {below : List Frame} {meth : Method} {c : Code} {hh : List (Nat × Nat × Nat × Nat)}
    (B : BodyLoose p l y S cc maxL ret e s m args below meth c s₁) (h : (Cond.codeWith y bytes maxL' ret' hh).before args s = true) : c.exceptionTable.toList = tableOf hh := by
  obtain ⟨m9, meth9, c9, hn9, h1, h2, -, -, h6, -⟩ := Cond.codeWith_spec h
  cases Option.some.inj (hn9.symm.trans B.named)
  cases Option.some.inj (h1.symm.trans B.method)
  cases Option.some.inj (h2.symm.trans (Stand.of_body B).code)
  rw [← h6, table_eq]
end Bodies
end VXA
/-! ===== END ===== -/
/-! ===== BEGIN a static call of a method with an exception table ===== -/
section VXS
variable {p : Program} {l : Launch} {e : Env} {R : Room} {s : State} {m : MethodId} {args : Array Value} {below : List Frame} {meth : Method} {c : Code} {T : State} {H : Heap} {locs : List Loc} {cells slots : Nat}
abbrev vx_CSW (R : Room) (s : State) (args : Array Value) (own : String) (index : Nat) (y : MethodName) (bytes : ByteArray) (maxL : Nat) (ret : Option FieldType) (hh : List (Nat × Nat × Nat × Nat)) (ws : List Cond) (rm : Room) (mc ms n : Nat) : Prop :=
  (rm.cells = mc ∧ rm.slots = ms ∧ rm.frames + 1 ≤ R.frames ∧ 8 + (maxL + 11) + rm.locals ≤ R.locals ∧ (∀ w ∈ ws, ∀ (a' : Array Value) (U : State), s.WarmedH U.vm → w.before a' U = true) ∧ Cond.codeWith y bytes maxL ret hh ∈ ws) ∧
  (Cond.codeWith y bytes maxL ret hh).before args s = true ∧ (Cond.initialized y.cls).before args s = true ∧ (y.cls ≠ "java/lang/invoke/MethodHandle" ∧ y.cls ≠ "java/lang/invoke/VarHandle") ∧
  (∀ sig, parseMethodDescriptor y.desc = some sig → n = sig.parameters.length) ∧ (Cond.methodLink own index y).before args s = true ∧ (Cond.static y).before args s = true
theorem vx_cwSW {own : String} {index maxL mc ms : Nat} {y : MethodName} {bytes : ByteArray} {ret : Option FieldType} {hh : List (Nat × Nat × Nat × Nat)} {Ts ws ws' : List Cond} {rm : Room} (n : Nat) (ht : ∀ w ∈ Ts, w.before args s = true) (hT : GoodIn Ts (va_wsS own index y ws)) (hw : ws = Cond.codeWith y bytes maxL ret hh :: ws') (hrc : rm.cells = mc) (hrs : rm.slots = ms)
    (hd : y.cls ≠ "java/lang/invoke/MethodHandle" ∧ y.cls ≠ "java/lang/invoke/VarHandle" ∧ (parseMethodDescriptor y.desc).map (fun d => d.parameters.length) = some n) (hR : rm.frames + 1 ≤ R.frames ∧ 8 + (maxL + 11) + rm.locals ≤ R.locals) :
    vx_CSW R s args own index y bytes maxL ret hh ws rm mc ms n := by
  have ok : ∀ w ∈ va_wsS own index y ws, w.before args s = true := fun w h => ht w (hT w h).1
  have hG : GoodIn Ts ws := fun w h => hT w (by unfold va_wsS; exact List.mem_append_right _ h)
  have hc : Cond.codeWith y bytes maxL ret hh ∈ ws := by rw [hw]; exact List.mem_cons_self
  refine ⟨⟨hrc, hrs, hR.1, hR.2, pay_in ht hG, hc⟩, ht _ (hG _ hc).1, ok _ (by simp [va_wsS]), ⟨hd.1, hd.2.1⟩, fun sig h => ?_, ok _ (by simp [va_wsS]), ok _ (by simp [va_wsS])⟩
  have h2 := hd.2.2
  rw [h] at h2
  exact (Option.some.inj h2).symm
theorem vx_callSW (X : Stand p l e R s m args below meth c T locs cells slots) (hexec : p.tables.exec = Jvm.exec) {own : String} {index : Nat} {y : MethodName} {bytes : ByteArray} {maxL : Nat} {ret : Option FieldType} {hh : List (Nat × Nat × Nat × Nat)}
    (hown : s.vm.findClass own = some m.cls) (hlink : (Cond.methodLink own index y).before args s = true) (hstat : (Cond.static y).before args s = true) (hinit : (Cond.initialized y.cls).before args s = true)
    (hcode : (Cond.codeWith y bytes maxL ret hh).before args s = true) (hy : y.cls ≠ "java/lang/invoke/MethodHandle" ∧ y.cls ≠ "java/lang/invoke/VarHandle")
    {W9 : Nat} {Pre : Pt → Array Value → Prop} {Post : Pt → Array Value → Option Value → Pt → Prop} (hK : Back l R p e below s args y 3 W9 Pre Post)
    {g : JFrame} (hg : g.method = m) (hsize : g.locals.size = c.maxLocals) {argsL rest : List Value} (hlen : ∀ sig, parseMethodDescriptor y.desc = some sig → argsL.length = sig.parameters.length)
    (hstack : g.stack = argsL.reverse ++ rest) (hW : 2 * g.monitorRoom + (rest.map fun v => v.category).sum ≤ W9) (hdg : decode c.code g.pc = .ok (.invokestatic index, 3))
    (hpre : ∀ vm₁, s.WarmedH vm₁ → Pre ⟨T.setVm vm₁, locs, cells, slots⟩ argsL.toArray) :
    ∃ (v : Option Value) (vm₁ : Vm) (B : Pt), s.WarmedH vm₁ ∧ Stand p l e R s m args below meth c B.U B.locs B.cells B.slots ∧ Post ⟨T.setVm vm₁, locs, cells, slots⟩ argsL.toArray v B ∧
      ∀ target, Steps p.tables e below (B.U.setTop { g with pc := g.pc + 3, stack := v.toList ++ rest }) target → Steps p.tables e below (T.setTop g) target := by
  obtain ⟨mk, methM, cM, hnamed, hmethM, -, -, -, -, -, -, hsigM⟩ := Cond.codeWith_spec hcode
  have hstatic : methM.isStatic = true := Cond.static_spec hnamed hmethM hstat
  obtain ⟨kP, hkP, -⟩ := className_of_methodNamed hnamed
  have hinitP : kP.init = .initialized := Cond.initialized_spec (findClass_of_methodNamed hnamed) hkP hinit
  obtain ⟨vm₁, X₁, hstep₁⟩ := X.invokestatic hexec hown hlink hnamed hmethM hstatic hkP hinitP hy (g := g) hg (argsL := argsL) (rest := rest) (hlen _ hsigM) hstack hdg
  obtain ⟨v, B, X', hpost, hsteps⟩ := hK m meth c ⟨T.setVm vm₁, locs, cells, slots⟩ { g with stack := rest } (.invokestatic index) mk argsL.toArray X₁ hg hsize hdg hW (X₁.named hnamed) (hpre vm₁ X₁.warmed)
  exact ⟨v, vm₁, B, X₁.warmed, X', hpost, fun target h => hstep₁ _ fun acts => by rw [doInvoke_state]; exact hsteps.trans h⟩
theorem vx_runSW {y : MethodName} {bytes cc : ByteArray} {maxL nL mc ms n index : Nat} {ret : Option FieldType} {hh : List (Nat × Nat × Nat × Nat)} {ws : List Cond} {rm : Room} {Pc : Array Value → State → Prop} {Qc : Array Value → State → Outcome → State → Prop} {free : Addr → Prop} {Ts : List Cond} {own : String} {As rest : List Value} {g : JFrame}
    (S : CallFix p m c cc nL s args Ts own) (hM : Met l y ws rm Pc Qc mc ms free) (cw : vx_CSW R s args own index y bytes maxL ret hh ws rm mc ms n) (hp : PreS s H Pc As)
    (hg : g.method = m) (hn : As.length = n) (hsize : g.locals.size = nL) (hstack : g.stack = As.reverse ++ rest) (hW : 2 * g.monitorRoom + (rest.map fun v => v.category).sum ≤ 8) (hdg : decode cc g.pc = .ok (.invokestatic index, 3)) (hf : cells + mc ≤ R.cells ∧ slots + ms ≤ R.slots) :
    va_Run p l e R s m args below meth c H locs cells slots mc ms g rest (Qc As.toArray) (free) := by
  obtain ⟨⟨hrc, hrs, hfr, hlo, hws, hcw⟩, hcode, hini, hy, hlen, hl, hstt⟩ := cw
  have hK : Back l R p e below s args y 3 8 (PreOf R mc ms Pc) (PostOf Qc mc ms free) := va_backW (hh := hh) (bytes := bytes) (maxL := maxL) (ret := ret) hM hp.1 hrc hrs hfr hlo hws hcw (fun a' U hW => word_at hW (Or.inl (by first | rfl | simp [Cond.onTables, Cond.keeps, Cond.steady])) hini)
  obtain ⟨hx, hb, hml, ho, -⟩ := S
  intro T hT X
  obtain ⟨v, vm₁, ⟨U', l2, c2, s2⟩, hW₁, X', ⟨g', mk, t, L, e1, e2, hq, h1, hL, h2, h3⟩, st⟩ := vx_callSW X hx (hh := hh) (bytes := bytes) (maxL := maxL) (ret := ret) ho hl hstt hini hcode hy hK hg (hsize.trans hml.symm) (argsL := As) (rest := rest) (fun sig h => hn.trans (hlen sig h)) hstack hW (by rw [hb]; exact hdg)
    (fun vm₁ hW₁ => ⟨hf.1, hf.2, hp.2 (T.setVm vm₁) hT hW₁⟩)
  dsimp only [Pt.U, Pt.locs, Pt.cells, Pt.slots] at X' e1 e2 h1 h2 h3 st
  subst h1; subst h2; subst h3
  exact ⟨v, (T.setVm vm₁).calling g' mk As.toArray, t, U', L, hT, X', hL, e1, e2, hq, st⟩
/-- not caught here, past rows that name other classes: it goes on to the caller -/
theorem vx_outP {p : Program} {l : Launch} {e : Env} {R : Room} {s : State} {m : MethodId} {args : Array Value} {below : List Frame} {meth : Method} {c : Code} {H : Heap} {locs : List Loc} {cells slots : Nat} {free : Addr → Prop} {ls : Array Slot} {rest : List Value} {Qc : Array Value → State → Outcome → State → Prop} {XC : String → State → State → Prop}
    {pc : Nat} {own E : String} {ce : Cell} {q : Addr} {mc ms : Nat} (hown : s.vm.findClass own = some m.cls) (hlocks : meth.locks = false)
    (hpass : ∀ z ∈ c.exceptionTable.toList, covers z pc = false ∨ (z.catchType ≠ 0 ∧ ∃ nm : String, (Cond.classLink own z.catchType nm).before args s = true ∧ va_Nc E nm s)) (hcell : H[q]? = some ce) (hv : ce.vm = .none) (hcl : s.vm.findClass E = some ce.cls)
    (hx : ∀ t : State, t.heap = H → s.vm.Alike t.vm → XC E s t) (hf : ∀ z ∈ locs, free z.base) (hc : cells ≤ mc) (hs : slots ≤ ms) :
    vx_W p l e R s m args below meth c H locs cells slots (vx_MQ below Qc XC args s mc ms free) (F0 m pc ls rest) q := by
  intro T hT X
  have hpl : e.platform.magicAccessors = ({} : Platform).magicAccessors := by rw [X.admits.platform]
  obtain ⟨vm', hW', X', st⟩ := X.outThrough hlocks q (g := F0 m pc ls rest) rfl rfl rfl (cell := ce) (by rw [hT]; exact hcell) (by rw [hv]; rfl)
    (by obtain ⟨k9, h9, -⟩ := Vm.findClass_spec hcl; exact ⟨k9, h9⟩) (fun z hz => by
      rcases hpass z hz with h | ⟨hz0, nm, hl1, hn1⟩
      · exact Or.inl h
      · obtain ⟨c6, hc6, hcl6⟩ := Cond.classLink_spec hown hl1 e.platform hpl
        obtain ⟨a8, b8, h1, h2, h3⟩ := hn1
        cases Option.some.inj (h1.symm.trans hcl)
        cases Option.some.inj (h2.symm.trans hc6)
        exact Or.inr ⟨hz0, _, hcl6, h3⟩)
  obtain ⟨g₀, hfr⟩ := X'.frames_eq
  have hcell9 : ((T.setVm vm').setFrames (.throwing q :: below)).heap[q]? = some ce := by
    show T.heap[q]? = some ce
    rw [hT]; exact hcell
  have hend : Ended ((T.setVm vm').setFrames (.throwing q :: below)) below (.threw q) := State.frames_setFrames _ (State.cur_lt_of_frames hfr)
  refine ⟨(T.setVm vm').setFrames (.throwing q :: below), ?_, .threw q, X'.here.running, hend, Or.inr ⟨q, rfl, E, ce, locs, hx _ hT (X'.ends _).1.alike, hcell9, hv, hcl, (X'.ends _).1, (X'.ends _).2.mono hc hs, hf⟩⟩
  rw [X.pushThrowing_eq]
  exact st
/-- a thing of a world lies in the heap -/
theorem vx_lt {D : va_G} {cl : List vw_C} {ws : va_W} {H1 : Heap} (h : va_P D cl ws H1) {k : Nat} {q : Nat × va_E} (hk : ws[k]? = some q) : q.1 < H1.size := (h k q hk).lt
end VXS
/-! ===== END ===== -/
/-! ===== BEGIN methods with a table of their own: called by a name, returning or throwing ===== -/
section VXH
/-! vx_backW, vx_callVX, vx_callSX, vx_callVW, vx_runVW, vx_runVX, vx_runSX, vx_ofWH follow the same proofs as their sisters above (Free/Laws.lean, Shelf42/LK1.lean); vx_outP calls Shelf42/NT130.lean (outThrough). -/
section
variable {l : Launch} {R : Room} {p : Program} {e : Env} {below : List Frame} {s : State} {sargs : Array Value} {y : MethodName} {len W9 : Nat}
theorem vx_backW {ws : List Cond} {rm : Room} {Pc : Array Value → State → Prop} {Qc : Array Value → State → Outcome → State → Prop} {XC : String → State → State → Prop} {mc ms : Nat} {free : Addr → Prop} {bytes : ByteArray} {maxL : Nat} {ret : Option FieldType} {hh : List (Nat × Nat × Nat × Nat)}
    (hM : vx_Met l y ws rm Pc Qc XC mc ms free) (hblind : FrameBlind Pc) (hrc : rm.cells = mc) (hrs : rm.slots = ms)
    (hframes : rm.frames + 1 ≤ R.frames) (hlocals : W9 + (maxL + 11) + rm.locals ≤ R.locals)
    (hws : ∀ w ∈ ws, ∀ a' U, s.WarmedH U.vm → w.before a' U = true) (hcode : Cond.codeWith y bytes maxL ret hh ∈ ws) (hinit : ∀ a' U, s.WarmedH U.vm → (Cond.initialized y.cls).before a' U = true) :
    vx_Back l R p e below s sargs y len W9 (PreOf R mc ms Pc) (PostOf Qc mc ms free) (vx_Post XC mc ms free) := by
  intro m meth c A g ig mk a X hg hsize hdg hW hn hp
  have h1 : (headSpec ws rm).pre.before a A.U = true := atoms_intro fun w hw => hws w hw _ _ X.warmed
  have h2 : (Cond.codeWith y bytes maxL ret hh).before a A.U = true := hws _ hcode _ _ X.warmed
  have h3 : (Cond.initialized y.cls).before a A.U = true := hinit _ _ X.warmed
  have h4 : A.cells + (headSpec ws rm).room.cells ≤ R.cells := by rw [show (headSpec ws rm).room.cells = mc from hrc]; exact hp.1
  have h5 : A.slots + (headSpec ws rm).room.slots ≤ R.slots := by rw [show (headSpec ws rm).room.slots = ms from hrs]; exact hp.2.1
  have hPc : Pc a (A.U.calling g mk a) := hblind _ _ _ _ hp.2.2
  obtain ⟨U, Ls, c0, s0⟩ := A
  dsimp only [Pt.U, Pt.locs, Pt.cells, Pt.slots] at h1 h2 h3 h4 h5 X hn hPc ⊢
  obtain ⟨m9, methY, cY, hn9, hmY, hcY, -, hlY, -⟩ := Cond.codeWith_spec h2
  cases Option.some.inj (hn9.symm.trans hn)
  obtain ⟨kY, hkY, -⟩ := className_of_methodNamed hn
  have hinitY : kY.init = .initialized := Cond.initialized_spec (findClass_of_methodNamed hn) hkY h3
  have h : At U g.method c below := by rw [hg]; exact X.here
  have hlocals9 : W9 + (maxL + 11) + (headSpec ws rm).room.locals ≤ R.locals := hlocals
  have happ : (headSpec ws rm).appliesLoose y e.platform (U.calling g mk a) = true :=
    Spec.appliesLoose_calling (g := g) h hdg hn hkY hinitY
      (X.room_calling (g := g) (R' := (headSpec ws rm).room) hsize hmY hcY hframes (by rw [hlY]; omega) h4 h5) h1
  obtain ⟨mid, hmid⟩ := h.above
  have hfr : (U.setTop g).frames = (.java g :: mid) ++ below := by rw [State.frames_setTop' g h.top, hmid]; rfl
  obtain ⟨o, s₂, hsteps, -, hend, hq⟩ := Steps.callFree hM p X.admits X.cas X.clock (acts := []) hfr happ hPc trivial
  have hq' : vx_Q Qc XC mc ms free a (U.calling g mk a) o s₂ := hq
  rw [State.frames_setTop' g h.top] at hend
  obtain ⟨g₀, hg0⟩ := Option.isSome_iff_exists.mp h.top
  obtain ⟨r, hr⟩ := State.topJava?_eq_some.mp hg0
  have hr' : (({ U with heap := s₂.heap, slotsUsed := s₂.slotsUsed } : State).setVm s₂.vm).frames = .java g₀ :: r := hr
  rcases hq' with ⟨hqc, L, hfe, hL⟩ | ⟨q, rfl, E, ce, L, hx, hce, hcv, hcl, hW₂, hsm, hL⟩
  · obtain ⟨⟨v, rfl⟩, hW₂, e2, q2, q3, q4, q5, q6⟩ := id hfe
    have e3 : s₂ = ({ (U.calling g mk a).setFrames s₂.frames with heap := s₂.heap, slotsUsed := s₂.slotsUsed } : State).setVm s₂.vm := by
      have : s₂ = ({ s₂ with vm := (U.calling g mk a).vm } : State).setVm s₂.vm := rfl
      rw [e2] at this
      exact this
    obtain ⟨c₂, i₂, len₂, hc₂, hd₂, hf₂⟩ := hend
    have hW' : U.WarmedH s₂.vm := hW₂
    have hcc : c₂ = c := by
      have h1 : s₂.code? g.method = U.code? g.method := by
        rw [State.code?_eq, State.code?_eq, hW'.alike.method?]
      exact Option.some.inj (hc₂.symm.trans (h1.trans h.code))
    subst hcc
    have hlen : len₂ = len := by rw [hdg] at hd₂; cases hd₂; rfl
    subst hlen
    have hs₂ : s₂ = (({ U with heap := s₂.heap, slotsUsed := s₂.slotsUsed } : State).setVm s₂.vm).setTop { g with pc := g.pc + len₂, stack := v.toList ++ g.stack } := by
      refine e3.trans ?_
      rw [hf₂, State.calling_eq h.top, State.setFrames_setFrames, State.setTop_of_frames _ hr', hr]
      rfl
    have hsame : U.sameButNew ({ U with heap := s₂.heap, slotsUsed := s₂.slotsUsed } : State) L mc ms := by
      refine ⟨?_, q2, q3, q4, q5, q6⟩
      obtain ⟨t, ht, -⟩ := State.frames_cons hr
      show ({ U with heap := s₂.heap, slotsUsed := s₂.slotsUsed } : State) = { U.setFrames U.frames with heap := s₂.heap, slotsUsed := s₂.slotsUsed }
      rw [State.setFrames_self ht]
    subst hg
    refine Or.inl ⟨v, ⟨(({ U with heap := s₂.heap, slotsUsed := s₂.slotsUsed } : State).setVm s₂.vm), Ls ++ L, c0 + mc, s0 + ms⟩,
      ⟨X.admits, X.cas, X.clock, X.frames, X.room, X.hears, X.method, X.code, (X.here.setHeapUsed s₂.heap s₂.slotsUsed).setVm hW'.alike, X.tail, State.WarmedH.trans X.warmed hW', X.limits, X.bytes, X.same.trans (hsame.setVm s.vm)⟩,
      ⟨g, mk, s₂, L, rfl, rfl, hqc, rfl, hL, rfl, rfl⟩, ?_⟩
    show Steps p.tables e below _ ((({ U with heap := s₂.heap, slotsUsed := s₂.slotsUsed } : State).setVm s₂.vm).setTop { g with pc := g.pc + len₂, stack := v.toList ++ g.stack })
    rw [← hs₂]
    exact hsteps
  · obtain ⟨e2, q2, q3, q4, q5, q6⟩ := id hsm
    have e3 : s₂ = ({ (U.calling g mk a).setFrames s₂.frames with heap := s₂.heap, slotsUsed := s₂.slotsUsed } : State).setVm s₂.vm := by
      have : s₂ = ({ s₂ with vm := (U.calling g mk a).vm } : State).setVm s₂.vm := rfl
      rw [e2] at this
      exact this
    have hf₂ : s₂.frames = .throwing q :: .java g :: U.frames.tail := hend
    have hW' : U.WarmedH s₂.vm := hW₂
    have hs₂ : s₂ = ((({ U with heap := s₂.heap, slotsUsed := s₂.slotsUsed } : State).setVm s₂.vm).setTop g).pushFrame (.throwing q) := by
      refine e3.trans ?_
      rw [hf₂, State.calling_eq h.top, State.setFrames_setFrames, State.pushFrame, State.frames_setTop _ hr', State.setTop_of_frames _ hr', State.setFrames_setFrames, hr]
      rfl
    have hsame : U.sameButNew ({ U with heap := s₂.heap, slotsUsed := s₂.slotsUsed } : State) L mc ms := by
      refine ⟨?_, q2, q3, q4, q5, q6⟩
      obtain ⟨t, ht, -⟩ := State.frames_cons hr
      show ({ U with heap := s₂.heap, slotsUsed := s₂.slotsUsed } : State) = { U.setFrames U.frames with heap := s₂.heap, slotsUsed := s₂.slotsUsed }
      rw [State.setFrames_self ht]
    subst hg
    refine Or.inr ⟨q, ⟨(({ U with heap := s₂.heap, slotsUsed := s₂.slotsUsed } : State).setVm s₂.vm), Ls ++ L, c0 + mc, s0 + ms⟩,
      ⟨X.admits, X.cas, X.clock, X.frames, X.room, X.hears, X.method, X.code, (X.here.setHeapUsed s₂.heap s₂.slotsUsed).setVm hW'.alike, X.tail, State.WarmedH.trans X.warmed hW', X.limits, X.bytes, X.same.trans (hsame.setVm s.vm)⟩,
      ⟨g, mk, s₂, L, E, ce, rfl, rfl, hx, hce, hcv, hcl, rfl, hL, rfl, rfl⟩, ?_⟩
    show Steps p.tables e below _ (((({ U with heap := s₂.heap, slotsUsed := s₂.slotsUsed } : State).setVm s₂.vm).setTop g).pushFrame (.throwing q))
    rw [← hs₂]
    exact hsteps
end
variable {p : Program} {l : Launch} {e : Env} {R : Room} {s : State} {m : MethodId} {args : Array Value} {below : List Frame} {meth : Method} {c : Code} {T : State} {H : Heap} {locs : List Loc} {cells slots : Nat}
theorem vx_callVX (X : Stand p l e R s m args below meth c T locs cells slots) (hexec : p.tables.exec = Jvm.exec) {own C : String} {index : Nat} {y : MethodName} {bytes : ByteArray} {maxL : Nat} {ret : Option FieldType} {hh : List (Nat × Nat × Nat × Nat)}
    (hown : s.vm.findClass own = some m.cls) (hlink : (Cond.methodLink own index y).before args s = true) (hinst : (Cond.instanceMethod y).before args s = true) (hsel : (Cond.selects C y y).before args s = true)
    (hcode : (Cond.codeWith y bytes maxL ret hh).before args s = true) (hy : y.cls ≠ "java/lang/invoke/MethodHandle" ∧ y.cls ≠ "java/lang/invoke/VarHandle")
    {W9 : Nat} {Pre : Pt → Array Value → Prop} {Post : Pt → Array Value → Option Value → Pt → Prop} {PostX : Pt → Array Value → Addr → Pt → Prop} (hK : vx_Back l R p e below s args y 3 W9 Pre Post PostX)
    {b : Addr} {cellB : Cell} (hcell : T.heap[b]? = some cellB) (hobj : cellB.vm.isStatics = false) (hcls : s.vm.findClass C = some cellB.cls)
    {g : JFrame} (hg : g.method = m) (hsize : g.locals.size = c.maxLocals) {argsL rest : List Value} (hlen : ∀ sig, parseMethodDescriptor y.desc = some sig → argsL.length = sig.parameters.length)
    (hstack : g.stack = argsL.reverse ++ .ref b :: rest) (hW : 2 * g.monitorRoom + (rest.map fun v => v.category).sum ≤ W9) (hdg : decode c.code g.pc = .ok (.invokevirtual index, 3))
    (hpre : ∀ vm₁, s.WarmedH vm₁ → Pre ⟨T.setVm vm₁, locs, cells, slots⟩ (Value.ref b :: argsL).toArray) :
    (∃ (v : Option Value) (vm₁ : Vm) (B : Pt), s.WarmedH vm₁ ∧ Stand p l e R s m args below meth c B.U B.locs B.cells B.slots ∧ Post ⟨T.setVm vm₁, locs, cells, slots⟩ (Value.ref b :: argsL).toArray v B ∧
      ∀ target, Steps p.tables e below (B.U.setTop { g with pc := g.pc + 3, stack := v.toList ++ rest }) target → Steps p.tables e below (T.setTop g) target) ∨
    (∃ (q : Addr) (vm₁ : Vm) (B : Pt), s.WarmedH vm₁ ∧ Stand p l e R s m args below meth c B.U B.locs B.cells B.slots ∧ PostX ⟨T.setVm vm₁, locs, cells, slots⟩ (Value.ref b :: argsL).toArray q B ∧
      Steps p.tables e below (T.setTop g) ((B.U.setTop { g with stack := rest }).pushFrame (.throwing q))) := by
  obtain ⟨mk, methM, hnamed, hmethM, hstM, habM⟩ := Cond.instanceMethod_spec hinst
  obtain ⟨m8, methM', cM, hn8, hmethM', -, -, -, -, -, -, hsigM⟩ := Cond.codeWith_spec hcode
  cases Option.some.inj (hn8.symm.trans hnamed)
  cases hmethM.symm.trans hmethM'
  obtain ⟨c2, r2, m2, q1, q2, q3, q4, kP, hkP, hkPi⟩ := Cond.selects_spec hsel
  cases hcls.symm.trans q1
  cases (State.methodFound?_of_named hnamed hy).symm.trans q2
  cases hnamed.symm.trans q3
  have hselP : selectMethod e.platform s.vm cellB.cls mk = .method mk := by rw [Launch.admits_selectMethod X.admits]; exact q4
  obtain ⟨vm₁, X₁, hstep₁⟩ := X.invokevirtual hexec hown hlink hnamed hmethM hstM hkP hkPi hy (a := b) (cell := cellB) hcell
    (fun z h => by rw [h] at hobj; cases hobj) hselP hmethM habM hkP hkPi (g := g) hg (argsL := argsL) (rest := rest) (hlen _ hsigM) hstack hdg
  rcases hK m meth c ⟨T.setVm vm₁, locs, cells, slots⟩ { g with stack := rest } (.invokevirtual index) mk (Value.ref b :: argsL).toArray X₁ hg hsize hdg hW (X₁.named hnamed) (hpre vm₁ X₁.warmed) with ⟨v, B, X', hpost, hsteps⟩ | ⟨q, B, X', hpost, hsteps⟩
  · exact Or.inl ⟨v, vm₁, B, X₁.warmed, X', hpost, fun target h => hstep₁ _ fun acts => by rw [doInvoke_state]; exact hsteps.trans h⟩
  · exact Or.inr ⟨q, vm₁, B, X₁.warmed, X', hpost, hstep₁ _ fun acts => by rw [doInvoke_state]; exact hsteps⟩
theorem vx_callSX (X : Stand p l e R s m args below meth c T locs cells slots) (hexec : p.tables.exec = Jvm.exec) {own : String} {index : Nat} {y : MethodName} {bytes : ByteArray} {maxL : Nat} {ret : Option FieldType} {hh : List (Nat × Nat × Nat × Nat)}
    (hown : s.vm.findClass own = some m.cls) (hlink : (Cond.methodLink own index y).before args s = true) (hstat : (Cond.static y).before args s = true) (hinit : (Cond.initialized y.cls).before args s = true)
    (hcode : (Cond.codeWith y bytes maxL ret hh).before args s = true) (hy : y.cls ≠ "java/lang/invoke/MethodHandle" ∧ y.cls ≠ "java/lang/invoke/VarHandle")
    {W9 : Nat} {Pre : Pt → Array Value → Prop} {Post : Pt → Array Value → Option Value → Pt → Prop} {PostX : Pt → Array Value → Addr → Pt → Prop} (hK : vx_Back l R p e below s args y 3 W9 Pre Post PostX)
    {g : JFrame} (hg : g.method = m) (hsize : g.locals.size = c.maxLocals) {argsL rest : List Value} (hlen : ∀ sig, parseMethodDescriptor y.desc = some sig → argsL.length = sig.parameters.length)
    (hstack : g.stack = argsL.reverse ++ rest) (hW : 2 * g.monitorRoom + (rest.map fun v => v.category).sum ≤ W9) (hdg : decode c.code g.pc = .ok (.invokestatic index, 3))
    (hpre : ∀ vm₁, s.WarmedH vm₁ → Pre ⟨T.setVm vm₁, locs, cells, slots⟩ argsL.toArray) :
    (∃ (v : Option Value) (vm₁ : Vm) (B : Pt), s.WarmedH vm₁ ∧ Stand p l e R s m args below meth c B.U B.locs B.cells B.slots ∧ Post ⟨T.setVm vm₁, locs, cells, slots⟩ argsL.toArray v B ∧
      ∀ target, Steps p.tables e below (B.U.setTop { g with pc := g.pc + 3, stack := v.toList ++ rest }) target → Steps p.tables e below (T.setTop g) target) ∨
    (∃ (q : Addr) (vm₁ : Vm) (B : Pt), s.WarmedH vm₁ ∧ Stand p l e R s m args below meth c B.U B.locs B.cells B.slots ∧ PostX ⟨T.setVm vm₁, locs, cells, slots⟩ argsL.toArray q B ∧
      Steps p.tables e below (T.setTop g) ((B.U.setTop { g with stack := rest }).pushFrame (.throwing q))) := by
  obtain ⟨mk, methM, cM, hnamed, hmethM, -, -, -, -, -, -, hsigM⟩ := Cond.codeWith_spec hcode
  have hstatic : methM.isStatic = true := Cond.static_spec hnamed hmethM hstat
  obtain ⟨kP, hkP, -⟩ := className_of_methodNamed hnamed
  have hinitP : kP.init = .initialized := Cond.initialized_spec (findClass_of_methodNamed hnamed) hkP hinit
  obtain ⟨vm₁, X₁, hstep₁⟩ := X.invokestatic hexec hown hlink hnamed hmethM hstatic hkP hinitP hy (g := g) hg (argsL := argsL) (rest := rest) (hlen _ hsigM) hstack hdg
  rcases hK m meth c ⟨T.setVm vm₁, locs, cells, slots⟩ { g with stack := rest } (.invokestatic index) mk argsL.toArray X₁ hg hsize hdg hW (X₁.named hnamed) (hpre vm₁ X₁.warmed) with ⟨v, B, X', hpost, hsteps⟩ | ⟨q, B, X', hpost, hsteps⟩
  · exact Or.inl ⟨v, vm₁, B, X₁.warmed, X', hpost, fun target h => hstep₁ _ fun acts => by rw [doInvoke_state]; exact hsteps.trans h⟩
  · exact Or.inr ⟨q, vm₁, B, X₁.warmed, X', hpost, hstep₁ _ fun acts => by rw [doInvoke_state]; exact hsteps⟩
theorem vx_callVW (X : Stand p l e R s m args below meth c T locs cells slots) (hexec : p.tables.exec = Jvm.exec) {own C : String} {index : Nat} {y : MethodName} {bytes : ByteArray} {maxL : Nat} {ret : Option FieldType} {hh : List (Nat × Nat × Nat × Nat)}
    (hown : s.vm.findClass own = some m.cls) (hlink : (Cond.methodLink own index y).before args s = true) (hinst : (Cond.instanceMethod y).before args s = true) (hsel : (Cond.selects C y y).before args s = true)
    (hcode : (Cond.codeWith y bytes maxL ret hh).before args s = true) (hy : y.cls ≠ "java/lang/invoke/MethodHandle" ∧ y.cls ≠ "java/lang/invoke/VarHandle")
    {W9 : Nat} {Pre : Pt → Array Value → Prop} {Post : Pt → Array Value → Option Value → Pt → Prop} (hK : Back l R p e below s args y 3 W9 Pre Post)
    {b : Addr} {cellB : Cell} (hcell : T.heap[b]? = some cellB) (hobj : cellB.vm.isStatics = false) (hcls : s.vm.findClass C = some cellB.cls)
    {g : JFrame} (hg : g.method = m) (hsize : g.locals.size = c.maxLocals) {argsL rest : List Value} (hlen : ∀ sig, parseMethodDescriptor y.desc = some sig → argsL.length = sig.parameters.length)
    (hstack : g.stack = argsL.reverse ++ .ref b :: rest) (hW : 2 * g.monitorRoom + (rest.map fun v => v.category).sum ≤ W9) (hdg : decode c.code g.pc = .ok (.invokevirtual index, 3))
    (hpre : ∀ vm₁, s.WarmedH vm₁ → Pre ⟨T.setVm vm₁, locs, cells, slots⟩ (Value.ref b :: argsL).toArray) :
    ∃ (v : Option Value) (vm₁ : Vm) (B : Pt), s.WarmedH vm₁ ∧ Stand p l e R s m args below meth c B.U B.locs B.cells B.slots ∧ Post ⟨T.setVm vm₁, locs, cells, slots⟩ (Value.ref b :: argsL).toArray v B ∧
      ∀ target, Steps p.tables e below (B.U.setTop { g with pc := g.pc + 3, stack := v.toList ++ rest }) target → Steps p.tables e below (T.setTop g) target := by
  obtain ⟨mk, methM, hnamed, hmethM, hstM, habM⟩ := Cond.instanceMethod_spec hinst
  obtain ⟨m8, methM', cM, hn8, hmethM', -, -, -, -, -, -, hsigM⟩ := Cond.codeWith_spec hcode
  cases Option.some.inj (hn8.symm.trans hnamed)
  cases hmethM.symm.trans hmethM'
  obtain ⟨c2, r2, m2, q1, q2, q3, q4, kP, hkP, hkPi⟩ := Cond.selects_spec hsel
  cases hcls.symm.trans q1
  cases (State.methodFound?_of_named hnamed hy).symm.trans q2
  cases hnamed.symm.trans q3
  have hselP : selectMethod e.platform s.vm cellB.cls mk = .method mk := by rw [Launch.admits_selectMethod X.admits]; exact q4
  obtain ⟨vm₁, X₁, hstep₁⟩ := X.invokevirtual hexec hown hlink hnamed hmethM hstM hkP hkPi hy (a := b) (cell := cellB) hcell
    (fun z h => by rw [h] at hobj; cases hobj) hselP hmethM habM hkP hkPi (g := g) hg (argsL := argsL) (rest := rest) (hlen _ hsigM) hstack hdg
  obtain ⟨v, B, X', hpost, hsteps⟩ := hK m meth c ⟨T.setVm vm₁, locs, cells, slots⟩ { g with stack := rest } (.invokevirtual index) mk (Value.ref b :: argsL).toArray X₁ hg hsize hdg hW (X₁.named hnamed) (hpre vm₁ X₁.warmed)
  exact ⟨v, vm₁, B, X₁.warmed, X', hpost, fun target h => hstep₁ _ fun acts => by rw [doInvoke_state]; exact hsteps.trans h⟩
abbrev vx_CVW (R : Room) (s : State) (args : Array Value) (own C : String) (index : Nat) (y : MethodName) (bytes : ByteArray) (maxL : Nat) (ret : Option FieldType) (hh : List (Nat × Nat × Nat × Nat)) (ws : List Cond) (rm : Room) (mc ms n : Nat) : Prop :=
  (rm.cells = mc ∧ rm.slots = ms ∧ rm.frames + 1 ≤ R.frames ∧ 8 + (maxL + 11) + rm.locals ≤ R.locals ∧ (∀ w ∈ ws, ∀ (a' : Array Value) (U : State), s.WarmedH U.vm → w.before a' U = true) ∧ Cond.codeWith y bytes maxL ret hh ∈ ws) ∧
  (Cond.codeWith y bytes maxL ret hh).before args s = true ∧ (Cond.initialized y.cls).before args s = true ∧ (y.cls ≠ "java/lang/invoke/MethodHandle" ∧ y.cls ≠ "java/lang/invoke/VarHandle") ∧
  (∀ sig, parseMethodDescriptor y.desc = some sig → n = sig.parameters.length) ∧ (Cond.methodLink own index y).before args s = true ∧ (Cond.instanceMethod y).before args s = true ∧ (Cond.selects C y y).before args s = true
theorem vx_cwVW {own C : String} {index maxL mc ms : Nat} {y : MethodName} {bytes : ByteArray} {ret : Option FieldType} {hh : List (Nat × Nat × Nat × Nat)} {Ts ws ws' : List Cond} {rm : Room} (n : Nat) (ht : ∀ w ∈ Ts, w.before args s = true) (hT : GoodIn Ts (wsV own index C y ws)) (hw : ws = Cond.codeWith y bytes maxL ret hh :: ws') (hrc : rm.cells = mc) (hrs : rm.slots = ms)
    (hd : y.cls = C ∧ y.cls ≠ "java/lang/invoke/MethodHandle" ∧ y.cls ≠ "java/lang/invoke/VarHandle" ∧ (parseMethodDescriptor y.desc).map (fun d => d.parameters.length) = some n) (hR : rm.frames + 1 ≤ R.frames ∧ 8 + (maxL + 11) + rm.locals ≤ R.locals) :
    vx_CVW R s args own C index y bytes maxL ret hh ws rm mc ms n := by
  obtain ⟨hC, hd⟩ := hd
  subst hC
  have ok : ∀ w ∈ wsV own index y.cls y ws, w.before args s = true := fun w h => ht w (hT w h).1
  have hG : GoodIn Ts ws := fun w h => hT w (by unfold wsV; exact List.mem_append_right _ h)
  have hc : Cond.codeWith y bytes maxL ret hh ∈ ws := by rw [hw]; exact List.mem_cons_self
  refine ⟨⟨hrc, hrs, hR.1, hR.2, pay_in ht hG, hc⟩, ht _ (hG _ hc).1, ok _ (by simp [wsV]), ⟨hd.1, hd.2.1⟩, fun sig h => ?_, ok _ (by simp [wsV]), ok _ (by simp [wsV]), ok _ (by simp [wsV])⟩
  have h2 := hd.2.2
  rw [h] at h2
  exact (Option.some.inj h2).symm
theorem vx_runVW {y : MethodName} {bytes cc : ByteArray} {maxL nL mc ms n index : Nat} {ret : Option FieldType} {hh : List (Nat × Nat × Nat × Nat)} {ws : List Cond} {rm : Room} {Pc : Array Value → State → Prop} {Qc : Array Value → State → Outcome → State → Prop} {free : Addr → Prop} {Ts : List Cond} {own C : String} {b : Addr} {As rest : List Value} {g : JFrame}
    (S : CallFix p m c cc nL s args Ts own) (hM : Met l y ws rm Pc Qc mc ms free) (cw : vx_CVW R s args own C index y bytes maxL ret hh ws rm mc ms n) (hp : PreV s H C b Pc As)
    (hg : g.method = m) (hn : As.length = n) (hsize : g.locals.size = nL) (hstack : g.stack = As.reverse ++ .ref b :: rest) (hW : 2 * g.monitorRoom + (rest.map fun v => v.category).sum ≤ 8) (hdg : decode cc g.pc = .ok (.invokevirtual index, 3)) (hf : cells + mc ≤ R.cells ∧ slots + ms ≤ R.slots) :
    va_Run p l e R s m args below meth c H locs cells slots mc ms g rest (Qc (Value.ref b :: As).toArray) free := by
  obtain ⟨⟨hrc, hrs, hfr, hlo, hws, hcw⟩, hcode, hini, hy, hlen, hl, hin, hse⟩ := cw
  have hK : Back l R p e below s args y 3 8 (PreOf R mc ms Pc) (PostOf Qc mc ms free) := va_backW (hh := hh) (bytes := bytes) (maxL := maxL) (ret := ret) hM hp.1 hrc hrs hfr hlo hws hcw (fun a' U hW => word_at hW (Or.inl (by first | rfl | simp [Cond.onTables, Cond.keeps, Cond.steady])) hini)
  obtain ⟨hx, hb, hml, ho, -⟩ := S
  obtain ⟨-, ⟨cellB, hcB, hoB, hclB⟩, hPc⟩ := hp
  intro T hT X
  obtain ⟨v, vm₁, ⟨U', l2, c2, s2⟩, hW₁, X', ⟨g', mk, t, L, e1, e2, hq, h1, hL, h2, h3⟩, st⟩ := vx_callVW X hx (C := C) (hh := hh) (bytes := bytes) (maxL := maxL) (ret := ret) ho hl hin hse hcode hy hK (by rw [hT]; exact hcB) hoB hclB hg (hsize.trans hml.symm) (argsL := As) (rest := rest) (fun sig h => hn.trans (hlen sig h)) hstack hW (by rw [hb]; exact hdg)
    (fun vm₁ hW₁ => ⟨hf.1, hf.2, hPc (T.setVm vm₁) hT hW₁⟩)
  dsimp only [Pt.U, Pt.locs, Pt.cells, Pt.slots] at X' e1 e2 h1 h2 h3 st
  subst h1; subst h2; subst h3
  exact ⟨v, (T.setVm vm₁).calling g' mk (Value.ref b :: As).toArray, t, U', L, hT, X', hL, e1, e2, hq, st⟩
section
variable {y : MethodName} {bytes cc : ByteArray} {maxL nL mc ms n index : Nat} {ret : Option FieldType} {ws : List Cond} {rm : Room} {Pc : Array Value → State → Prop} {Qc : Array Value → State → Outcome → State → Prop} {XC : String → State → State → Prop} {free : Addr → Prop} {Ts : List Cond} {own C : String} {b : Addr} {As rest : List Value} {g : JFrame}
theorem vx_runVX {hh : List (Nat × Nat × Nat × Nat)} (S : CallFix p m c cc nL s args Ts own) (hM : vx_Met l y ws rm Pc Qc XC mc ms free) (cw : vx_CVW R s args own C index y bytes maxL ret hh ws rm mc ms n) (hp : PreV s H C b Pc As)
    (hg : g.method = m) (hn : As.length = n) (hsize : g.locals.size = nL) (hstack : g.stack = As.reverse ++ .ref b :: rest) (hW : 2 * g.monitorRoom + (rest.map fun v => v.category).sum ≤ 8) (hdg : decode cc g.pc = .ok (.invokevirtual index, 3)) (hf : cells + mc ≤ R.cells ∧ slots + ms ≤ R.slots) :
    vx_Run p l e R s m args below meth c H locs cells slots mc ms g rest (Qc (Value.ref b :: As).toArray) XC free := by
  obtain ⟨⟨hrc, hrs, hfr, hlo, hws, hcw⟩, hcode, hini, hy, hlen, hl, hin, hse⟩ := cw
  have hK : vx_Back l R p e below s args y 3 8 (PreOf R mc ms Pc) (PostOf Qc mc ms free) (vx_Post XC mc ms free) := vx_backW (hh := hh) (bytes := bytes) (maxL := maxL) (ret := ret) hM hp.1 hrc hrs hfr hlo hws hcw (fun a' U hW => word_at hW (Or.inl (by first | rfl | simp [Cond.onTables, Cond.keeps, Cond.steady])) hini)
  obtain ⟨hx, hb, hml, ho, -⟩ := S
  obtain ⟨-, ⟨cellB, hcB, hoB, hclB⟩, hPc⟩ := hp
  intro T hT X
  rcases vx_callVX X hx (C := C) (hh := hh) (bytes := bytes) (maxL := maxL) (ret := ret) ho hl hin hse hcode hy hK (by rw [hT]; exact hcB) hoB hclB hg (hsize.trans hml.symm) (argsL := As) (rest := rest) (fun sig h => hn.trans (hlen sig h)) hstack hW (by rw [hb]; exact hdg)
    (fun vm₁ hW₁ => ⟨hf.1, hf.2, hPc (T.setVm vm₁) hT hW₁⟩) with ⟨v, vm₁, ⟨U', l2, c2, s2⟩, hW₁, X', ⟨g', mk, t, L, e1, e2, hq, h1, hL, h2, h3⟩, st⟩ | ⟨q, vm₁, ⟨U', l2, c2, s2⟩, hW₁, X', ⟨g', mk, t, L, E, ce, e1, e2, hq, hce, hcv, hcl, h1, hL, h2, h3⟩, st⟩
  · dsimp only [Pt.U, Pt.locs, Pt.cells, Pt.slots] at X' e1 e2 h1 h2 h3 st
    subst h1; subst h2; subst h3
    exact Or.inl ⟨v, (T.setVm vm₁).calling g' mk (Value.ref b :: As).toArray, t, U', L, hT, X', hL, e1, e2, hq, st⟩
  · dsimp only [Pt.U, Pt.locs, Pt.cells, Pt.slots] at X' e1 e2 h1 h2 h3 st hcl
    subst h1; subst h2; subst h3
    exact Or.inr ⟨q, (T.setVm vm₁).calling g' mk (Value.ref b :: As).toArray, t, U', L, E, ce, hT, X', hL, e1, e2, hq, hce, hcv, vx_cls hW₁ hcl, st⟩
theorem vx_runSX {hh : List (Nat × Nat × Nat × Nat)} (S : CallFix p m c cc nL s args Ts own) (hM : vx_Met l y ws rm Pc Qc XC mc ms free) (cw : vx_CSW R s args own index y bytes maxL ret hh ws rm mc ms n) (hp : PreS s H Pc As)
    (hg : g.method = m) (hn : As.length = n) (hsize : g.locals.size = nL) (hstack : g.stack = As.reverse ++ rest) (hW : 2 * g.monitorRoom + (rest.map fun v => v.category).sum ≤ 8) (hdg : decode cc g.pc = .ok (.invokestatic index, 3)) (hf : cells + mc ≤ R.cells ∧ slots + ms ≤ R.slots) :
    vx_Run p l e R s m args below meth c H locs cells slots mc ms g rest (Qc As.toArray) XC free := by
  obtain ⟨⟨hrc, hrs, hfr, hlo, hws, hcw⟩, hcode, hini, hy, hlen, hl, hstt⟩ := cw
  have hK : vx_Back l R p e below s args y 3 8 (PreOf R mc ms Pc) (PostOf Qc mc ms free) (vx_Post XC mc ms free) := vx_backW (hh := hh) (bytes := bytes) (maxL := maxL) (ret := ret) hM hp.1 hrc hrs hfr hlo hws hcw (fun a' U hW => word_at hW (Or.inl (by first | rfl | simp [Cond.onTables, Cond.keeps, Cond.steady])) hini)
  obtain ⟨hx, hb, hml, ho, -⟩ := S
  intro T hT X
  rcases vx_callSX X hx (hh := hh) (bytes := bytes) (maxL := maxL) (ret := ret) ho hl hstt hini hcode hy hK hg (hsize.trans hml.symm) (argsL := As) (rest := rest) (fun sig h => hn.trans (hlen sig h)) hstack hW (by rw [hb]; exact hdg)
    (fun vm₁ hW₁ => ⟨hf.1, hf.2, hp.2 (T.setVm vm₁) hT hW₁⟩) with ⟨v, vm₁, ⟨U', l2, c2, s2⟩, hW₁, X', ⟨g', mk, t, L, e1, e2, hq, h1, hL, h2, h3⟩, st⟩ | ⟨q, vm₁, ⟨U', l2, c2, s2⟩, hW₁, X', ⟨g', mk, t, L, E, ce, e1, e2, hq, hce, hcv, hcl, h1, hL, h2, h3⟩, st⟩
  · dsimp only [Pt.U, Pt.locs, Pt.cells, Pt.slots] at X' e1 e2 h1 h2 h3 st
    subst h1; subst h2; subst h3
    exact Or.inl ⟨v, (T.setVm vm₁).calling g' mk As.toArray, t, U', L, hT, X', hL, e1, e2, hq, st⟩
  · dsimp only [Pt.U, Pt.locs, Pt.cells, Pt.slots] at X' e1 e2 h1 h2 h3 st hcl
    subst h1; subst h2; subst h3
    exact Or.inr ⟨q, (T.setVm vm₁).calling g' mk As.toArray, t, U', L, E, ce, hT, X', hL, e1, e2, hq, hce, hcv, vx_cls hW₁ hcl, st⟩
end
end VXH
theorem vx_ofWH {l : Launch} {y : MethodName} {ws ws' : List Cond} {rm : Room} {Pc : Array Value → State → Prop} {Qc : Array Value → State → Outcome → State → Prop} {XC : String → State → State → Prop} {mc ms : Nat} {free : Addr → Prop} {cc : ByteArray} {maxL : Nat} {ret : Option FieldType} {hh : List (Nat × Nat × Nat × Nat)}
    (hy : plainName y.cls = true) (hw : ws = Cond.codeWith y cc maxL ret hh :: ws')
    (body : ∀ p e s m args below meth c s₁, BodyLoose p l y (headSpec ws rm) cc maxL ret e s m args below meth c s₁ → c.maxLocals = maxL → Pc args s →
      W p l e (headSpec ws rm).room s m args below meth c s.heap [] 0 0 (vx_MQ below Qc XC args s mc ms free) (entryFrame m args maxL)) : vx_Met l y ws rm Pc Qc XC mc ms free := by
  refine MetFree.of_bodyS (code := cc) (maxLocals := maxL) (ret := ret) hy ?_ ?_
  · intro args s m h hn
    obtain ⟨m9, meth, c, hn9, h1, h2, h3, h4, -, h5, h6, -⟩ := Cond.codeWith_spec (atoms_spec (ws := ws) h _ (by rw [hw]; exact List.mem_cons_self))
    cases hn.symm.trans hn9
    exact ⟨meth, c, h1, h2, h3, h4, h5, h6⟩
  · intro p e s m args below meth c s₁ B hml hP _
    have hh0 : s₁.heap = s.heap := by rw [B.state]; rfl
    obtain ⟨t, a1, o, b1, b2, b3⟩ := body p e s m args below meth c s₁ B hml hP s₁ hh0 (Stand.of_body B)
    exact ⟨t, o, a1, b1, b2, b3⟩
/-! ===== END ===== -/
end
section
/-! ===== BEGIN printed: names, fields, word lists, decode rows ===== -/
def RX0 : String := "GuessMarks$Entries"
def TX0 : u_T := fun k => match k with
  | 0 => ("GuessMarks$Entries", "game", "LGuessMarks$Game;", true)
  | 1 => ("GuessMarks$Entries", "count", "I", false)
  | 2 => ("GuessMarks$Entries", "guesses", "[I", true)
  | 3 => ("GuessMarks$Entries", "marks", "[I", true)
  | _ => ("GuessMarks$Entries", "lieBits", "[I", true)
def tyX0 : Nat → FieldType := fun k => match k with
  | 0 => .object "GuessMarks$Game"
  | 1 => .int
  | 2 => .array .int
  | 3 => .array .int
  | _ => .array .int
abbrev wsX00 : List Cond := u_ws RX0 TX0 5
theorem nmX0 : ∀ a, a < 5 → ∀ b, b < 5 → a ≠ b → (TX0 a).2.1 ≠ (TX0 b).2.1 := by decide +kernel
theorem tyX0_ok : ∀ k, k < 5 → parseFieldDescriptor (TX0 k).2.2.1 = some (tyX0 k) := by decide +kernel
abbrev cX0_init : ByteArray := prog_2_method_1_code
def yX0_init : MethodName := ⟨RX0, "<init>", "(LGuessMarks$Game;)V"⟩
abbrev cX0_forgetAll : ByteArray := prog_2_method_2_code
def yX0_forgetAll : MethodName := ⟨RX0, "forgetAll", "()V"⟩
abbrev cX0_isFull : ByteArray := prog_2_method_3_code
def yX0_isFull : MethodName := ⟨RX0, "isFull", "()Z"⟩
abbrev cX0_has : ByteArray := prog_2_method_4_code
def yX0_has : MethodName := ⟨RX0, "has", "(I)Z"⟩
abbrev cX0_guessAt : ByteArray := prog_2_method_5_code
def yX0_guessAt : MethodName := ⟨RX0, "guessAt", "(I)I"⟩
abbrev cX0_markAt : ByteArray := prog_2_method_6_code
def yX0_markAt : MethodName := ⟨RX0, "markAt", "(I)I"⟩
abbrev cX0_add : ByteArray := prog_2_method_7_code
def yX0_add : MethodName := ⟨RX0, "add", "(II)V"⟩
abbrev cX0_dropLatest : ByteArray := prog_2_method_8_code
def yX0_dropLatest : MethodName := ⟨RX0, "dropLatest", "()V"⟩
abbrev cX0_allBits : ByteArray := prog_2_method_9_code
def yX0_allBits : MethodName := ⟨RX0, "allBits", "()I"⟩
abbrev cX0_bitOf : ByteArray := prog_2_method_10_code
def yX0_bitOf : MethodName := ⟨RX0, "bitOf", "(I)I"⟩
abbrev cX0_countLies : ByteArray := prog_2_method_11_code
def yX0_countLies : MethodName := ⟨RX0, "countLies", "(I)I"⟩
abbrev cX0_countLiesIn : ByteArray := prog_2_method_12_code
def yX0_countLiesIn : MethodName := ⟨RX0, "countLiesIn", "(II)I"⟩
abbrev cX0_countLiesAnew : ByteArray := prog_2_method_13_code
def yX0_countLiesAnew : MethodName := ⟨RX0, "countLiesAnew", "(I)I"⟩
def RX1 : String := "GuessMarks$Game"
def TX1 : u_T := fun k => match k with
  | 0 => ("GuessMarks$Game", "places", "I", false)
  | 1 => ("GuessMarks$Game", "colours", "I", false)
  | 2 => ("GuessMarks$Game", "rows", "I", false)
  | 3 => ("GuessMarks$Game", "colourBits", "[I", true)
  | _ => ("GuessMarks$Game", "pinBits", "[J", true)
def tyX1 : Nat → FieldType := fun k => match k with
  | 0 => .int
  | 1 => .int
  | 2 => .int
  | 3 => .array .int
  | _ => .array .long
abbrev wsX10 : List Cond := u_ws RX1 TX1 5
theorem nmX1 : ∀ a, a < 5 → ∀ b, b < 5 → a ≠ b → (TX1 a).2.1 ≠ (TX1 b).2.1 := by decide +kernel
theorem tyX1_ok : ∀ k, k < 5 → parseFieldDescriptor (TX1 k).2.2.1 = some (tyX1 k) := by decide +kernel
abbrev cX1_init : ByteArray := prog_3_method_1_code
def yX1_init : MethodName := ⟨RX1, "<init>", "()V"⟩
abbrev cX1_lay : ByteArray := prog_3_method_2_code
def yX1_lay : MethodName := ⟨RX1, "lay", "(II)Z"⟩
abbrev cX1_layRow : ByteArray := prog_3_method_3_code
def yX1_layRow : MethodName := ⟨RX1, "layRow", "(I)V"⟩
abbrev cX1_withPin : ByteArray := prog_3_method_4_code
def yX1_withPin : MethodName := ⟨RX1, "withPin", "(JI)J"⟩
abbrev cX1_has : ByteArray := prog_3_method_5_code
def yX1_has : MethodName := ⟨RX1, "has", "(I)Z"⟩
abbrev cX1_colourOf : ByteArray := prog_3_method_6_code
def yX1_colourOf : MethodName := ⟨RX1, "colourOf", "(II)I"⟩
abbrev cX1_allBlack : ByteArray := prog_3_method_7_code
def yX1_allBlack : MethodName := ⟨RX1, "allBlack", "()I"⟩
abbrev cX1_allows : ByteArray := prog_3_method_8_code
def yX1_allows : MethodName := ⟨RX1, "allows", "(I)Z"⟩
abbrev cX1_compare : ByteArray := prog_3_method_9_code
def yX1_compare : MethodName := ⟨RX1, "compare", "(II)I"⟩
def RX2 : String := "GuessMarks$Parting"
def TX2 : u_T := fun k => match k with
  | 0 => ("GuessMarks$Parting", "count", "I", false)
  | 1 => ("GuessMarks$Parting", "greatest", "I", false)
  | 2 => ("GuessMarks$Parting", "squares", "I", false)
  | 3 => ("GuessMarks$Parting", "marks", "[I", true)
  | _ => ("GuessMarks$Parting", "sizes", "[I", true)
def tyX2 : Nat → FieldType := fun k => match k with
  | 0 => .int
  | 1 => .int
  | 2 => .int
  | 3 => .array .int
  | _ => .array .int
abbrev wsX20 : List Cond := u_ws RX2 TX2 5
theorem nmX2 : ∀ a, a < 5 → ∀ b, b < 5 → a ≠ b → (TX2 a).2.1 ≠ (TX2 b).2.1 := by decide +kernel
theorem tyX2_ok : ∀ k, k < 5 → parseFieldDescriptor (TX2 k).2.2.1 = some (tyX2 k) := by decide +kernel
abbrev cX2_init : ByteArray := prog_4_method_1_code
def yX2_init : MethodName := ⟨RX2, "<init>", "()V"⟩
abbrev cX2_clear : ByteArray := prog_4_method_2_code
def yX2_clear : MethodName := ⟨RX2, "clear", "()V"⟩
abbrev cX2_add : ByteArray := prog_4_method_3_code
def yX2_add : MethodName := ⟨RX2, "add", "(I)V"⟩
abbrev cX2_has : ByteArray := prog_4_method_4_code
def yX2_has : MethodName := ⟨RX2, "has", "(I)Z"⟩
abbrev cX2_markAt : ByteArray := prog_4_method_5_code
def yX2_markAt : MethodName := ⟨RX2, "markAt", "(I)I"⟩
abbrev cX2_sizeWith : ByteArray := prog_4_method_6_code
def yX2_sizeWith : MethodName := ⟨RX2, "sizeWith", "(I)I"⟩
abbrev cX2_score : ByteArray := prog_4_method_7_code
def yX2_score : MethodName := ⟨RX2, "score", "(I)I"⟩
def RX3 : String := "GuessMarks"
def TX3 : u_T := fun k => match k with
  | 0 => ("GuessMarks", "game", "LGuessMarks$Game;", true)
  | 1 => ("GuessMarks", "told", "LGuessMarks$Entries;", true)
  | 2 => ("GuessMarks", "parting", "LGuessMarks$Parting;", true)
  | 3 => ("GuessMarks", "rowsLeft", "[I", true)
  | 4 => ("GuessMarks", "search", "[I", true)
  | 5 => ("GuessMarks", "leftCount", "I", false)
  | 6 => ("GuessMarks", "liesAllowed", "I", false)
  | _ => ("GuessMarks", "hiddenRow", "I", false)
def tyX3 : Nat → FieldType := fun k => match k with
  | 0 => .object "GuessMarks$Game"
  | 1 => .object "GuessMarks$Entries"
  | 2 => .object "GuessMarks$Parting"
  | 3 => .array .int
  | 4 => .array .int
  | 5 => .int
  | 6 => .int
  | _ => .int
abbrev wsX30 : List Cond := u_ws RX3 TX3 8
theorem nmX3 : ∀ a, a < 8 → ∀ b, b < 8 → a ≠ b → (TX3 a).2.1 ≠ (TX3 b).2.1 := by decide +kernel
theorem tyX3_ok : ∀ k, k < 8 → parseFieldDescriptor (TX3 k).2.2.1 = some (tyX3 k) := by decide +kernel
abbrev cX3_init : ByteArray := prog_1_method_1_code
def yX3_init : MethodName := ⟨RX3, "<init>", "()V"⟩
abbrev cX3_begin : ByteArray := prog_1_method_2_code
def yX3_begin : MethodName := ⟨RX3, "begin", "(II)I"⟩
abbrev cX3_rows : ByteArray := prog_1_method_3_code
def yX3_rows : MethodName := ⟨RX3, "rows", "()I"⟩
abbrev cX3_colourAt : ByteArray := prog_1_method_4_code
def yX3_colourAt : MethodName := ⟨RX3, "colourAt", "(II)I"⟩
abbrev cX3_mark : ByteArray := prog_1_method_5_code
def yX3_mark : MethodName := ⟨RX3, "mark", "(II)I"⟩
abbrev cX3_allowLies : ByteArray := prog_1_method_6_code
def yX3_allowLies : MethodName := ⟨RX3, "allowLies", "(I)I"⟩
abbrev cX3_tellNothing : ByteArray := prog_1_method_7_code
def yX3_tellNothing : MethodName := ⟨RX3, "tellNothing", "()V"⟩
abbrev cX3_requireRow : ByteArray := prog_1_method_8_code
def yX3_requireRow : MethodName := ⟨RX3, "requireRow", "(I)V"⟩
abbrev cX3_requirePossible : ByteArray := prog_1_method_9_code
def yX3_requirePossible : MethodName := ⟨RX3, "requirePossible", "(I)V"⟩
abbrev cX3_hide : ByteArray := prog_1_method_10_code
def yX3_hide : MethodName := ⟨RX3, "hide", "(I)Z"⟩
abbrev cX3_guess : ByteArray := prog_1_method_11_code
def yX3_guess : MethodName := ⟨RX3, "guess", "(I)I"⟩
abbrev cX3_tell : ByteArray := prog_1_method_12_code
def yX3_tell : MethodName := ⟨RX3, "tell", "(II)I"⟩
abbrev cX3_takeBack : ByteArray := prog_1_method_13_code
def yX3_takeBack : MethodName := ⟨RX3, "takeBack", "()I"⟩
abbrev cX3_entries : ByteArray := prog_1_method_14_code
def yX3_entries : MethodName := ⟨RX3, "entries", "()I"⟩
abbrev cX3_guessOf : ByteArray := prog_1_method_15_code
def yX3_guessOf : MethodName := ⟨RX3, "guessOf", "(I)I"⟩
abbrev cX3_markOf : ByteArray := prog_1_method_16_code
def yX3_markOf : MethodName := ⟨RX3, "markOf", "(I)I"⟩
abbrev cX3_liesAbout : ByteArray := prog_1_method_17_code
def yX3_liesAbout : MethodName := ⟨RX3, "liesAbout", "(I)I"⟩
abbrev cX3_requireEntry : ByteArray := prog_1_method_18_code
def yX3_requireEntry : MethodName := ⟨RX3, "requireEntry", "(I)V"⟩
abbrev cX3_wouldLoseHidden : ByteArray := prog_1_method_19_code
def yX3_wouldLoseHidden : MethodName := ⟨RX3, "wouldLoseHidden", "(II)Z"⟩
abbrev cX3_addEntry : ByteArray := prog_1_method_20_code
def yX3_addEntry : MethodName := ⟨RX3, "addEntry", "(II)V"⟩
abbrev cX3_left : ByteArray := prog_1_method_21_code
def yX3_left : MethodName := ⟨RX3, "left", "()I"⟩
abbrev cX3_leftByAll : ByteArray := prog_1_method_22_code
def yX3_leftByAll : MethodName := ⟨RX3, "leftByAll", "()I"⟩
abbrev cX3_isLeft : ByteArray := prog_1_method_23_code
def yX3_isLeft : MethodName := ⟨RX3, "isLeft", "(I)Z"⟩
abbrev cX3_leftAt : ByteArray := prog_1_method_24_code
def yX3_leftAt : MethodName := ⟨RX3, "leftAt", "(I)I"⟩
abbrev cX3_remains : ByteArray := prog_1_method_25_code
def yX3_remains : MethodName := ⟨RX3, "remains", "(I)Z"⟩
abbrev cX3_listRowsLeft : ByteArray := prog_1_method_26_code
def yX3_listRowsLeft : MethodName := ⟨RX3, "listRowsLeft", "()V"⟩
abbrev cX3_parts : ByteArray := prog_1_method_27_code
def yX3_parts : MethodName := ⟨RX3, "parts", "(I)I"⟩
abbrev cX3_partMark : ByteArray := prog_1_method_28_code
def yX3_partMark : MethodName := ⟨RX3, "partMark", "(II)I"⟩
abbrev cX3_partSize : ByteArray := prog_1_method_29_code
def yX3_partSize : MethodName := ⟨RX3, "partSize", "(II)I"⟩
abbrev cX3_worstCase : ByteArray := prog_1_method_30_code
def yX3_worstCase : MethodName := ⟨RX3, "worstCase", "(I)I"⟩
abbrev cX3_weight : ByteArray := prog_1_method_31_code
def yX3_weight : MethodName := ⟨RX3, "weight", "(I)I"⟩
abbrev cX3_bestGuess : ByteArray := prog_1_method_32_code
def yX3_bestGuess : MethodName := ⟨RX3, "bestGuess", "(I)I"⟩
abbrev cX3_guessesNeeded : ByteArray := prog_1_method_33_code
def yX3_guessesNeeded : MethodName := ⟨RX3, "guessesNeeded", "()I"⟩
abbrev cX3_partLeft : ByteArray := prog_1_method_34_code
def yX3_partLeft : MethodName := ⟨RX3, "partLeft", "(I)V"⟩
abbrev cX3_partRows : ByteArray := prog_1_method_35_code
def yX3_partRows : MethodName := ⟨RX3, "partRows", "(I[III)V"⟩
abbrev cX3_bestFor : ByteArray := prog_1_method_36_code
def yX3_bestFor : MethodName := ⟨RX3, "bestFor", "(I[III)I"⟩
abbrev cX3_guessesFor : ByteArray := prog_1_method_37_code
def yX3_guessesFor : MethodName := ⟨RX3, "guessesFor", "(III)I"⟩
abbrev cX3_guessesForPart : ByteArray := prog_1_method_38_code
def yX3_guessesForPart : MethodName := ⟨RX3, "guessesForPart", "(IIIII)I"⟩
abbrev cX3_opensPart : ByteArray := prog_1_method_39_code
def yX3_opensPart : MethodName := ⟨RX3, "opensPart", "(III)Z"⟩
abbrev cX3_proofSize : ByteArray := prog_1_method_40_code
def yX3_proofSize : MethodName := ⟨RX3, "proofSize", "()I"⟩
abbrev cX3_isInProof : ByteArray := prog_1_method_41_code
def yX3_isInProof : MethodName := ⟨RX3, "isInProof", "(I)Z"⟩
abbrev cX3_shortestProof : ByteArray := prog_1_method_42_code
def yX3_shortestProof : MethodName := ⟨RX3, "shortestProof", "()I"⟩
abbrev cX3_leavesOne : ByteArray := prog_1_method_43_code
def yX3_leavesOne : MethodName := ⟨RX3, "leavesOne", "(I)Z"⟩
def RX4 : String := "GuessMarksModel"
def TX4 : u_T := fun k => match k with
  | 0 => ("GuessMarksModel", "thrown", "I", false)
  | 1 => ("GuessMarksModel", "places", "I", false)
  | 2 => ("GuessMarksModel", "colours", "I", false)
  | 3 => ("GuessMarksModel", "rows", "I", false)
  | 4 => ("GuessMarksModel", "allowed", "I", false)
  | 5 => ("GuessMarksModel", "hidden", "I", false)
  | 6 => ("GuessMarksModel", "entries", "I", false)
  | 7 => ("GuessMarksModel", "guess", "[I", true)
  | 8 => ("GuessMarksModel", "told", "[I", true)
  | 9 => ("GuessMarksModel", "has", "[I", true)
  | 10 => ("GuessMarksModel", "size", "[I", true)
  | 11 => ("GuessMarksModel", "set", "[I", true)
  | 12 => ("GuessMarksModel", "from", "[I", true)
  | 13 => ("GuessMarksModel", "many", "[I", true)
  | 14 => ("GuessMarksModel", "depth", "[I", true)
  | _ => ("GuessMarksModel", "lieSets", "[I", true)
def tyX4 : Nat → FieldType := fun k => match k with
  | 0 => .int
  | 1 => .int
  | 2 => .int
  | 3 => .int
  | 4 => .int
  | 5 => .int
  | 6 => .int
  | 7 => .array .int
  | 8 => .array .int
  | 9 => .array .int
  | 10 => .array .int
  | 11 => .array .int
  | 12 => .array .int
  | 13 => .array .int
  | 14 => .array .int
  | _ => .array .int
abbrev wsX40 : List Cond := u_ws RX4 TX4 16
theorem nmX4 : ∀ a, a < 16 → ∀ b, b < 16 → a ≠ b → (TX4 a).2.1 ≠ (TX4 b).2.1 := by decide +kernel
theorem tyX4_ok : ∀ k, k < 16 → parseFieldDescriptor (TX4 k).2.2.1 = some (tyX4 k) := by decide +kernel
abbrev cX4_init : ByteArray := prog_6_method_1_code
def yX4_init : MethodName := ⟨RX4, "<init>", "()V"⟩
abbrev cX4_thrown : ByteArray := prog_6_method_2_code
def yX4_thrown : MethodName := ⟨RX4, "thrown", "()I"⟩
abbrev cX4_in : ByteArray := prog_6_method_3_code
def yX4_in : MethodName := ⟨RX4, "in", "(III)Z"⟩
abbrev cX4_isRow : ByteArray := prog_6_method_4_code
def yX4_isRow : MethodName := ⟨RX4, "isRow", "(I)Z"⟩
abbrev cX4_power : ByteArray := prog_6_method_5_code
def yX4_power : MethodName := ⟨RX4, "power", "(II)I"⟩
abbrev cX4_begin : ByteArray := prog_6_method_6_code
def yX4_begin : MethodName := ⟨RX4, "begin", "(II)I"⟩
abbrev cX4_rows : ByteArray := prog_6_method_7_code
def yX4_rows : MethodName := ⟨RX4, "rows", "()I"⟩
abbrev cX4_colour : ByteArray := prog_6_method_8_code
def yX4_colour : MethodName := ⟨RX4, "colour", "(II)I"⟩
abbrev cX4_colourAt : ByteArray := prog_6_method_9_code
def yX4_colourAt : MethodName := ⟨RX4, "colourAt", "(II)I"⟩
abbrev cX4_markOfRows : ByteArray := prog_6_method_10_code
def yX4_markOfRows : MethodName := ⟨RX4, "markOfRows", "(II)I"⟩
abbrev cX4_mark : ByteArray := prog_6_method_11_code
def yX4_mark : MethodName := ⟨RX4, "mark", "(II)I"⟩
abbrev cX4_isPossible : ByteArray := prog_6_method_12_code
def yX4_isPossible : MethodName := ⟨RX4, "isPossible", "(I)Z"⟩
abbrev cX4_lies : ByteArray := prog_6_method_13_code
def yX4_lies : MethodName := ⟨RX4, "lies", "(I)I"⟩
abbrev cX4_isStill : ByteArray := prog_6_method_14_code
def yX4_isStill : MethodName := ⟨RX4, "isStill", "(I)Z"⟩
abbrev cX4_allowLies : ByteArray := prog_6_method_15_code
def yX4_allowLies : MethodName := ⟨RX4, "allowLies", "(I)I"⟩
abbrev cX4_hide : ByteArray := prog_6_method_16_code
def yX4_hide : MethodName := ⟨RX4, "hide", "(I)Z"⟩
abbrev cX4_adds : ByteArray := prog_6_method_17_code
def yX4_adds : MethodName := ⟨RX4, "adds", "(II)V"⟩
abbrev cX4_guess : ByteArray := prog_6_method_18_code
def yX4_guess : MethodName := ⟨RX4, "guess", "(I)I"⟩
abbrev cX4_manyLeft : ByteArray := prog_6_method_19_code
def yX4_manyLeft : MethodName := ⟨RX4, "manyLeft", "()I"⟩
abbrev cX4_tell : ByteArray := prog_6_method_20_code
def yX4_tell : MethodName := ⟨RX4, "tell", "(II)I"⟩
abbrev cX4_takeBack : ByteArray := prog_6_method_21_code
def yX4_takeBack : MethodName := ⟨RX4, "takeBack", "()I"⟩
abbrev cX4_entries : ByteArray := prog_6_method_22_code
def yX4_entries : MethodName := ⟨RX4, "entries", "()I"⟩
abbrev cX4_isEntry : ByteArray := prog_6_method_23_code
def yX4_isEntry : MethodName := ⟨RX4, "isEntry", "(I)Z"⟩
abbrev cX4_guessOf : ByteArray := prog_6_method_24_code
def yX4_guessOf : MethodName := ⟨RX4, "guessOf", "(I)I"⟩
abbrev cX4_markOf : ByteArray := prog_6_method_25_code
def yX4_markOf : MethodName := ⟨RX4, "markOf", "(I)I"⟩
abbrev cX4_liesAbout : ByteArray := prog_6_method_26_code
def yX4_liesAbout : MethodName := ⟨RX4, "liesAbout", "(I)I"⟩
abbrev cX4_left : ByteArray := prog_6_method_27_code
def yX4_left : MethodName := ⟨RX4, "left", "()I"⟩
abbrev cX4_leftByAll : ByteArray := prog_6_method_28_code
def yX4_leftByAll : MethodName := ⟨RX4, "leftByAll", "()I"⟩
abbrev cX4_isLeft : ByteArray := prog_6_method_29_code
def yX4_isLeft : MethodName := ⟨RX4, "isLeft", "(I)Z"⟩
abbrev cX4_laysLeft : ByteArray := prog_6_method_30_code
def yX4_laysLeft : MethodName := ⟨RX4, "laysLeft", "()I"⟩
abbrev cX4_leftAt : ByteArray := prog_6_method_31_code
def yX4_leftAt : MethodName := ⟨RX4, "leftAt", "(I)I"⟩
abbrev cX4_laysParts : ByteArray := prog_6_method_32_code
def yX4_laysParts : MethodName := ⟨RX4, "laysParts", "(III)V"⟩
abbrev cX4_worst : ByteArray := prog_6_method_33_code
def yX4_worst : MethodName := ⟨RX4, "worst", "()I"⟩
abbrev cX4_squares : ByteArray := prog_6_method_34_code
def yX4_squares : MethodName := ⟨RX4, "squares", "()I"⟩
abbrev cX4_manyParts : ByteArray := prog_6_method_35_code
def yX4_manyParts : MethodName := ⟨RX4, "manyParts", "()I"⟩
abbrev cX4_asks : ByteArray := prog_6_method_36_code
def yX4_asks : MethodName := ⟨RX4, "asks", "(I)Z"⟩
abbrev cX4_parts : ByteArray := prog_6_method_37_code
def yX4_parts : MethodName := ⟨RX4, "parts", "(I)I"⟩
abbrev cX4_partMark : ByteArray := prog_6_method_38_code
def yX4_partMark : MethodName := ⟨RX4, "partMark", "(II)I"⟩
abbrev cX4_partSize : ByteArray := prog_6_method_39_code
def yX4_partSize : MethodName := ⟨RX4, "partSize", "(II)I"⟩
abbrev cX4_worstCase : ByteArray := prog_6_method_40_code
def yX4_worstCase : MethodName := ⟨RX4, "worstCase", "(I)I"⟩
abbrev cX4_weight : ByteArray := prog_6_method_41_code
def yX4_weight : MethodName := ⟨RX4, "weight", "(I)I"⟩
abbrev cX4_isAmong : ByteArray := prog_6_method_42_code
def yX4_isAmong : MethodName := ⟨RX4, "isAmong", "(III)Z"⟩
abbrev cX4_best : ByteArray := prog_6_method_43_code
def yX4_best : MethodName := ⟨RX4, "best", "(III)I"⟩
abbrev cX4_bestGuess : ByteArray := prog_6_method_44_code
def yX4_bestGuess : MethodName := ⟨RX4, "bestGuess", "(I)I"⟩
abbrev cX4_guessesNeeded : ByteArray := prog_6_method_45_code
def yX4_guessesNeeded : MethodName := ⟨RX4, "guessesNeeded", "()I"⟩
abbrev cX4_laysLies : ByteArray := prog_6_method_46_code
def yX4_laysLies : MethodName := ⟨RX4, "laysLies", "()V"⟩
abbrev cX4_isProof : ByteArray := prog_6_method_47_code
def yX4_isProof : MethodName := ⟨RX4, "isProof", "(I)Z"⟩
abbrev cX4_bits : ByteArray := prog_6_method_48_code
def yX4_bits : MethodName := ⟨RX4, "bits", "(I)I"⟩
abbrev cX4_isAhead : ByteArray := prog_6_method_49_code
def yX4_isAhead : MethodName := ⟨RX4, "isAhead", "(II)Z"⟩
abbrev cX4_proof : ByteArray := prog_6_method_50_code
def yX4_proof : MethodName := ⟨RX4, "proof", "()I"⟩
abbrev cX4_proofSize : ByteArray := prog_6_method_51_code
def yX4_proofSize : MethodName := ⟨RX4, "proofSize", "()I"⟩
abbrev cX4_isInProof : ByteArray := prog_6_method_52_code
def yX4_isInProof : MethodName := ⟨RX4, "isInProof", "(I)Z"⟩
def RJx145de : String := "java/io/Serializable"
def TJx145de : u_T := fun k => match k with
  | _ => ("", "", "", false)
def tyJx145de : Nat → FieldType := fun k => match k with
  | _ => .int
abbrev wsJx145de0 : List Cond := u_ws RJx145de TJx145de 0
theorem nmJx145de : ∀ a, a < 0 → ∀ b, b < 0 → a ≠ b → (TJx145de a).2.1 ≠ (TJx145de b).2.1 := by decide +kernel
theorem tyJx145de_ok : ∀ k, k < 0 → parseFieldDescriptor (TJx145de k).2.2.1 = some (tyJx145de k) := by decide +kernel
def RJ6 : String := "java/lang/Integer"
def TJ6 : u_T := fun k => match k with
  | _ => ("", "", "", false)
def tyJ6 : Nat → FieldType := fun k => match k with
  | _ => .int
abbrev wsJ60 : List Cond := u_ws RJ6 TJ6 0
theorem nmJ6 : ∀ a, a < 0 → ∀ b, b < 0 → a ≠ b → (TJ6 a).2.1 ≠ (TJ6 b).2.1 := by decide +kernel
theorem tyJ6_ok : ∀ k, k < 0 → parseFieldDescriptor (TJ6 k).2.2.1 = some (tyJ6 k) := by decide +kernel
abbrev cJ6_bitCount_0f7a4 : ByteArray := prog_11_method_49_code
def yJ6_bitCount_0f7a4 : MethodName := ⟨RJ6, "bitCount", "(I)I"⟩
def RJ13 : String := "java/lang/Long"
def TJ13 : u_T := fun k => match k with
  | _ => ("", "", "", false)
def tyJ13 : Nat → FieldType := fun k => match k with
  | _ => .int
abbrev wsJ130 : List Cond := u_ws RJ13 TJ13 0
theorem nmJ13 : ∀ a, a < 0 → ∀ b, b < 0 → a ≠ b → (TJ13 a).2.1 ≠ (TJ13 b).2.1 := by decide +kernel
theorem tyJ13_ok : ∀ k, k < 0 → parseFieldDescriptor (TJ13 k).2.2.1 = some (tyJ13 k) := by decide +kernel
abbrev cJ13_bitCount_95d88 : ByteArray := prog_12_method_50_code
def yJ13_bitCount_95d88 : MethodName := ⟨RJ13, "bitCount", "(J)I"⟩
def RJ9 : String := "java/lang/Math"
def TJ9 : u_T := fun k => match k with
  | _ => ("", "", "", false)
def tyJ9 : Nat → FieldType := fun k => match k with
  | _ => .int
abbrev wsJ90 : List Cond := u_ws RJ9 TJ9 0
theorem nmJ9 : ∀ a, a < 0 → ∀ b, b < 0 → a ≠ b → (TJ9 a).2.1 ≠ (TJ9 b).2.1 := by decide +kernel
theorem tyJ9_ok : ∀ k, k < 0 → parseFieldDescriptor (TJ9 k).2.2.1 = some (tyJ9 k) := by decide +kernel
abbrev cJ9_max_7cf53 : ByteArray := prog_13_method_65_code
def yJ9_max_7cf53 : MethodName := ⟨RJ9, "max", "(II)I"⟩
def RJ0 : String := "java/lang/String"
def TJ0 : u_T := fun k => match k with
  | _ => ("", "", "", false)
def tyJ0 : Nat → FieldType := fun k => match k with
  | _ => .int
abbrev wsJ00 : List Cond := u_ws RJ0 TJ0 0
theorem nmJ0 : ∀ a, a < 0 → ∀ b, b < 0 → a ≠ b → (TJ0 a).2.1 ≠ (TJ0 b).2.1 := by decide +kernel
theorem tyJ0_ok : ∀ k, k < 0 → parseFieldDescriptor (TJ0 k).2.2.1 = some (tyJ0 k) := by decide +kernel
def RJ10 : String := "java/lang/System"
def TJ10 : u_T := fun k => match k with
  | _ => ("", "", "", false)
def tyJ10 : Nat → FieldType := fun k => match k with
  | _ => .int
abbrev wsJ100 : List Cond := u_ws RJ10 TJ10 0
theorem nmJ10 : ∀ a, a < 0 → ∀ b, b < 0 → a ≠ b → (TJ10 a).2.1 ≠ (TJ10 b).2.1 := by decide +kernel
theorem tyJ10_ok : ∀ k, k < 0 → parseFieldDescriptor (TJ10 k).2.2.1 = some (tyJ10 k) := by decide +kernel
def RJ7 : String := "java/util/Arrays"
def TJ7 : u_T := fun k => match k with
  | _ => ("", "", "", false)
def tyJ7 : Nat → FieldType := fun k => match k with
  | _ => .int
abbrev wsJ70 : List Cond := u_ws RJ7 TJ7 0
theorem nmJ7 : ∀ a, a < 0 → ∀ b, b < 0 → a ≠ b → (TJ7 a).2.1 ≠ (TJ7 b).2.1 := by decide +kernel
theorem tyJ7_ok : ∀ k, k < 0 → parseFieldDescriptor (TJ7 k).2.2.1 = some (tyJ7 k) := by decide +kernel
abbrev cJ7_fill_53178 : ByteArray := prog_18_method_103_code
def yJ7_fill_53178 : MethodName := ⟨RJ7, "fill", "([II)V"⟩
def RL : String := "GuessMarksLaw"
abbrev cL_begin : ByteArray := method_3_code
def yL_begin : MethodName := ⟨RL, "begin", "(LGuessMarks;II[J)I"⟩
abbrev cL_colourAt : ByteArray := method_4_code
def yL_colourAt : MethodName := ⟨RL, "colourAt", "(LGuessMarks;II[J)I"⟩
abbrev cL_mark : ByteArray := method_5_code
def yL_mark : MethodName := ⟨RL, "mark", "(LGuessMarks;II[J)I"⟩
abbrev cL_allowLies : ByteArray := method_6_code
def yL_allowLies : MethodName := ⟨RL, "allowLies", "(LGuessMarks;I[J)I"⟩
abbrev cL_hide : ByteArray := method_7_code
def yL_hide : MethodName := ⟨RL, "hide", "(LGuessMarks;I[J)I"⟩
abbrev cL_guess : ByteArray := method_8_code
def yL_guess : MethodName := ⟨RL, "guess", "(LGuessMarks;I[J)I"⟩
abbrev cL_tell : ByteArray := method_9_code
def yL_tell : MethodName := ⟨RL, "tell", "(LGuessMarks;II[J)I"⟩
abbrev cL_takeBack : ByteArray := method_10_code
def yL_takeBack : MethodName := ⟨RL, "takeBack", "(LGuessMarks;[J)I"⟩
abbrev cL_guessOf : ByteArray := method_11_code
def yL_guessOf : MethodName := ⟨RL, "guessOf", "(LGuessMarks;I[J)I"⟩
abbrev cL_markOf : ByteArray := method_12_code
def yL_markOf : MethodName := ⟨RL, "markOf", "(LGuessMarks;I[J)I"⟩
abbrev cL_liesAbout : ByteArray := method_13_code
def yL_liesAbout : MethodName := ⟨RL, "liesAbout", "(LGuessMarks;I[J)I"⟩
abbrev cL_isLeft : ByteArray := method_14_code
def yL_isLeft : MethodName := ⟨RL, "isLeft", "(LGuessMarks;I[J)I"⟩
abbrev cL_leftAt : ByteArray := method_15_code
def yL_leftAt : MethodName := ⟨RL, "leftAt", "(LGuessMarks;I[J)I"⟩
abbrev cL_parts : ByteArray := method_16_code
def yL_parts : MethodName := ⟨RL, "parts", "(LGuessMarks;I[J)I"⟩
abbrev cL_partMark : ByteArray := method_17_code
def yL_partMark : MethodName := ⟨RL, "partMark", "(LGuessMarks;II[J)I"⟩
abbrev cL_partSize : ByteArray := method_18_code
def yL_partSize : MethodName := ⟨RL, "partSize", "(LGuessMarks;II[J)I"⟩
abbrev cL_worstCase : ByteArray := method_19_code
def yL_worstCase : MethodName := ⟨RL, "worstCase", "(LGuessMarks;I[J)I"⟩
abbrev cL_weight : ByteArray := method_20_code
def yL_weight : MethodName := ⟨RL, "weight", "(LGuessMarks;I[J)I"⟩
abbrev cL_bestGuess : ByteArray := method_21_code
def yL_bestGuess : MethodName := ⟨RL, "bestGuess", "(LGuessMarks;I[J)I"⟩
abbrev cL_guessesNeeded : ByteArray := method_22_code
def yL_guessesNeeded : MethodName := ⟨RL, "guessesNeeded", "(LGuessMarks;[J)I"⟩
abbrev cL_isInProof : ByteArray := method_23_code
def yL_isInProof : MethodName := ⟨RL, "isInProof", "(LGuessMarks;I[J)I"⟩
abbrev cL_law : ByteArray := code
def yL_law : MethodName := ⟨RL, "law", "([I)Z"⟩
def wsX0_init : List Cond := .code yX0_init cX0_init 2 none :: ([.methodLink RX0 3 objectInit, .instanceMethod objectInit, .code objectInit ⟨#[0xb1]⟩ 1 none, .arrayClass .int, .fieldLink RX0 9 "GuessMarks$Entries" "guesses" "[I", .fieldLink RX0 15 "GuessMarks$Entries" "marks" "[I", .fieldLink RX0 18 "GuessMarks$Entries" "lieBits" "[I", .fieldLink RX0 21 "GuessMarks$Entries" "game" "LGuessMarks$Game;"] ++ wsX00)
def wsJ7_fill_53178 : List Cond := .code yJ7_fill_53178 cJ7_fill_53178 4 none :: ([])
def wsX0_forgetAll : List Cond := .code yX0_forgetAll cX0_forgetAll 1 none :: ([.fieldLink RX0 25 "GuessMarks$Entries" "count" "I", .fieldLink RX0 18 "GuessMarks$Entries" "lieBits" "[I", .methodLink RX0 29 yJ7_fill_53178, .static yJ7_fill_53178, .initialized RJ7, .code yJ7_fill_53178 cJ7_fill_53178 4 none] ++ wsX00)
def wsX0_isFull : List Cond := .code yX0_isFull cX0_isFull 1 (some .boolean) :: ([.fieldLink RX0 25 "GuessMarks$Entries" "count" "I"] ++ wsX00)
def wsX0_has : List Cond := .code yX0_has cX0_has 2 (some .boolean) :: ([.fieldLink RX0 25 "GuessMarks$Entries" "count" "I"] ++ wsX00)
def wsX0_guessAt : List Cond := .code yX0_guessAt cX0_guessAt 2 (some .int) :: ([.fieldLink RX0 9 "GuessMarks$Entries" "guesses" "[I", .methodLink RX0 35 yX0_has, .instanceMethod yX0_has, .selects RX0 yX0_has yX0_has, .initialized RX0, .code yX0_has cX0_has 2 (some .boolean), .fieldLink RX0 25 "GuessMarks$Entries" "count" "I"] ++ wsX00)
def wsX0_markAt : List Cond := .code yX0_markAt cX0_markAt 2 (some .int) :: ([.fieldLink RX0 15 "GuessMarks$Entries" "marks" "[I", .methodLink RX0 35 yX0_has, .instanceMethod yX0_has, .selects RX0 yX0_has yX0_has, .initialized RX0, .code yX0_has cX0_has 2 (some .boolean), .fieldLink RX0 25 "GuessMarks$Entries" "count" "I"] ++ wsX00)
def wsX1_has : List Cond := .code yX1_has cX1_has 2 (some .boolean) :: ([.fieldLink RX1 26 "GuessMarks$Game" "rows" "I"] ++ wsX10)
def wsJ6_bitCount_0f7a4 : List Cond := .code yJ6_bitCount_0f7a4 cJ6_bitCount_0f7a4 1 (some .int) :: ([.constant RJ6 265 (1431655765), .constant RJ6 266 (858993459), .constant RJ6 267 (252645135)])
def wsJ13_bitCount_95d88 : List Cond := .code yJ13_bitCount_95d88 cJ13_bitCount_95d88 2 (some .int) :: ([.constantLong RJ13 314 (6148914691236517205), .constantLong RJ13 316 (3689348814741910323), .constantLong RJ13 318 (1085102592571150095)])
def wsX1_compare : List Cond := .code yX1_compare cX1_compare 7 (some .int) :: ([.fieldLink RX1 9 "GuessMarks$Game" "colourBits" "[I", .constant RX1 43 (2396745), .fieldLink RX1 19 "GuessMarks$Game" "places" "I", .fieldLink RX1 15 "GuessMarks$Game" "pinBits" "[J", .methodLink RX1 37 yX1_has, .instanceMethod yX1_has, .selects RX1 yX1_has yX1_has, .initialized RX1, .code yX1_has cX1_has 2 (some .boolean), .fieldLink RX1 26 "GuessMarks$Game" "rows" "I", .methodLink RX1 44 yJ6_bitCount_0f7a4, .static yJ6_bitCount_0f7a4, .initialized RJ6, .code yJ6_bitCount_0f7a4 cJ6_bitCount_0f7a4 1 (some .int), .constant RJ6 265 (1431655765), .constant RJ6 266 (858993459), .constant RJ6 267 (252645135), .methodLink RX1 50 yJ13_bitCount_95d88, .static yJ13_bitCount_95d88, .initialized RJ13, .code yJ13_bitCount_95d88 cJ13_bitCount_95d88 2 (some .int), .constantLong RJ13 314 (6148914691236517205), .constantLong RJ13 316 (3689348814741910323), .constantLong RJ13 318 (1085102592571150095)] ++ wsX10)
def wsX0_add_r1 : List Cond := [Cond.fieldLink RX0 25 "GuessMarks$Entries" "count" "I", Cond.fieldLink RX0 9 "GuessMarks$Entries" "guesses" "[I", Cond.fieldLink RX0 15 "GuessMarks$Entries" "marks" "[I", Cond.fieldLink RX0 21 "GuessMarks$Entries" "game" "LGuessMarks$Game;", Cond.fieldLink RX0 43 "GuessMarks$Game" "rows" "I", Cond.fieldLink RX0 18 "GuessMarks$Entries" "lieBits" "[I", Cond.methodLink RX0 39 yX0_isFull, Cond.instanceMethod yX0_isFull, Cond.selects RX0 yX0_isFull yX0_isFull, Cond.initialized RX0, Cond.code yX0_isFull cX0_isFull 1 (some .boolean), Cond.methodLink RX0 48 yX1_compare, Cond.instanceMethod yX1_compare, Cond.selects RX1 yX1_compare yX1_compare, Cond.initialized RX1, Cond.code yX1_compare cX1_compare 7 (some .int), Cond.fieldLink RX1 9 "GuessMarks$Game" "colourBits" "[I", Cond.constant RX1 43 (2396745), Cond.fieldLink RX1 19 "GuessMarks$Game" "places" "I", Cond.fieldLink RX1 15 "GuessMarks$Game" "pinBits" "[J", Cond.methodLink RX1 37 yX1_has, Cond.instanceMethod yX1_has, Cond.selects RX1 yX1_has yX1_has, Cond.code yX1_has cX1_has 2 (some .boolean)]
def wsX0_add_r2 : List Cond := [Cond.fieldLink RX1 26 "GuessMarks$Game" "rows" "I", Cond.methodLink RX1 44 yJ6_bitCount_0f7a4, Cond.static yJ6_bitCount_0f7a4, Cond.initialized RJ6, Cond.code yJ6_bitCount_0f7a4 cJ6_bitCount_0f7a4 1 (some .int), Cond.constant RJ6 265 (1431655765), Cond.constant RJ6 266 (858993459), Cond.constant RJ6 267 (252645135), Cond.methodLink RX1 50 yJ13_bitCount_95d88, Cond.static yJ13_bitCount_95d88, Cond.initialized RJ13, Cond.code yJ13_bitCount_95d88 cJ13_bitCount_95d88 2 (some .int), Cond.constantLong RJ13 314 (6148914691236517205), Cond.constantLong RJ13 316 (3689348814741910323), Cond.constantLong RJ13 318 (1085102592571150095)]
def wsX0_add : List Cond := .code yX0_add cX0_add 5 none :: ((wsX0_add_r1 ++ wsX0_add_r2) ++ wsX00 ++ wsX10)
def wsX0_dropLatest : List Cond := .code yX0_dropLatest cX0_dropLatest 2 none :: ([.fieldLink RX0 25 "GuessMarks$Entries" "count" "I", .fieldLink RX0 21 "GuessMarks$Entries" "game" "LGuessMarks$Game;", .fieldLink RX0 43 "GuessMarks$Game" "rows" "I", .fieldLink RX0 18 "GuessMarks$Entries" "lieBits" "[I"] ++ wsX00 ++ wsX10)
def wsX0_allBits : List Cond := .code yX0_allBits cX0_allBits 1 (some .int) :: ([.fieldLink RX0 25 "GuessMarks$Entries" "count" "I"] ++ wsX00)
def wsX0_bitOf : List Cond := .code yX0_bitOf cX0_bitOf 2 (some .int) :: ([.fieldLink RX0 25 "GuessMarks$Entries" "count" "I", .methodLink RX0 35 yX0_has, .instanceMethod yX0_has, .selects RX0 yX0_has yX0_has, .initialized RX0, .code yX0_has cX0_has 2 (some .boolean)] ++ wsX00)
def wsX0_countLiesIn : List Cond := .code yX0_countLiesIn cX0_countLiesIn 3 (some .int) :: ([.fieldLink RX0 21 "GuessMarks$Entries" "game" "LGuessMarks$Game;", .fieldLink RX0 18 "GuessMarks$Entries" "lieBits" "[I", .methodLink RX0 59 yX1_has, .instanceMethod yX1_has, .selects RX1 yX1_has yX1_has, .initialized RX1, .code yX1_has cX1_has 2 (some .boolean), .fieldLink RX1 26 "GuessMarks$Game" "rows" "I", .methodLink RX0 60 yJ6_bitCount_0f7a4, .static yJ6_bitCount_0f7a4, .initialized RJ6, .code yJ6_bitCount_0f7a4 cJ6_bitCount_0f7a4 1 (some .int), .constant RJ6 265 (1431655765), .constant RJ6 266 (858993459), .constant RJ6 267 (252645135)] ++ wsX00 ++ wsX10)
def wsX0_countLies_r1 : List Cond := [Cond.methodLink RX0 52 yX0_allBits, Cond.instanceMethod yX0_allBits, Cond.selects RX0 yX0_allBits yX0_allBits, Cond.initialized RX0, Cond.code yX0_allBits cX0_allBits 1 (some .int), Cond.fieldLink RX0 25 "GuessMarks$Entries" "count" "I", Cond.methodLink RX0 56 yX0_countLiesIn, Cond.instanceMethod yX0_countLiesIn, Cond.selects RX0 yX0_countLiesIn yX0_countLiesIn, Cond.code yX0_countLiesIn cX0_countLiesIn 3 (some .int), Cond.fieldLink RX0 21 "GuessMarks$Entries" "game" "LGuessMarks$Game;", Cond.fieldLink RX0 18 "GuessMarks$Entries" "lieBits" "[I", Cond.methodLink RX0 59 yX1_has, Cond.instanceMethod yX1_has, Cond.selects RX1 yX1_has yX1_has, Cond.initialized RX1, Cond.code yX1_has cX1_has 2 (some .boolean), Cond.fieldLink RX1 26 "GuessMarks$Game" "rows" "I", Cond.methodLink RX0 60 yJ6_bitCount_0f7a4, Cond.static yJ6_bitCount_0f7a4, Cond.initialized RJ6, Cond.code yJ6_bitCount_0f7a4 cJ6_bitCount_0f7a4 1 (some .int), Cond.constant RJ6 265 (1431655765), Cond.constant RJ6 266 (858993459)]
def wsX0_countLies_r2 : List Cond := [Cond.constant RJ6 267 (252645135)]
def wsX0_countLies : List Cond := .code yX0_countLies cX0_countLies 2 (some .int) :: ((wsX0_countLies_r1 ++ wsX0_countLies_r2) ++ wsX00 ++ wsX10)
def wsX0_countLiesAnew_r1 : List Cond := [Cond.fieldLink RX0 25 "GuessMarks$Entries" "count" "I", Cond.fieldLink RX0 21 "GuessMarks$Entries" "game" "LGuessMarks$Game;", Cond.fieldLink RX0 9 "GuessMarks$Entries" "guesses" "[I", Cond.fieldLink RX0 15 "GuessMarks$Entries" "marks" "[I", Cond.methodLink RX0 48 yX1_compare, Cond.instanceMethod yX1_compare, Cond.selects RX1 yX1_compare yX1_compare, Cond.initialized RX1, Cond.code yX1_compare cX1_compare 7 (some .int), Cond.fieldLink RX1 9 "GuessMarks$Game" "colourBits" "[I", Cond.constant RX1 43 (2396745), Cond.fieldLink RX1 19 "GuessMarks$Game" "places" "I", Cond.fieldLink RX1 15 "GuessMarks$Game" "pinBits" "[J", Cond.methodLink RX1 37 yX1_has, Cond.instanceMethod yX1_has, Cond.selects RX1 yX1_has yX1_has, Cond.code yX1_has cX1_has 2 (some .boolean), Cond.fieldLink RX1 26 "GuessMarks$Game" "rows" "I", Cond.methodLink RX1 44 yJ6_bitCount_0f7a4, Cond.static yJ6_bitCount_0f7a4, Cond.initialized RJ6, Cond.code yJ6_bitCount_0f7a4 cJ6_bitCount_0f7a4 1 (some .int), Cond.constant RJ6 265 (1431655765), Cond.constant RJ6 266 (858993459)]
def wsX0_countLiesAnew_r2 : List Cond := [Cond.constant RJ6 267 (252645135), Cond.methodLink RX1 50 yJ13_bitCount_95d88, Cond.static yJ13_bitCount_95d88, Cond.initialized RJ13, Cond.code yJ13_bitCount_95d88 cJ13_bitCount_95d88 2 (some .int), Cond.constantLong RJ13 314 (6148914691236517205), Cond.constantLong RJ13 316 (3689348814741910323), Cond.constantLong RJ13 318 (1085102592571150095)]
def wsX0_countLiesAnew : List Cond := .code yX0_countLiesAnew cX0_countLiesAnew 4 (some .int) :: ((wsX0_countLiesAnew_r1 ++ wsX0_countLiesAnew_r2) ++ wsX00 ++ wsX10)
def wsX1_init : List Cond := .code yX1_init cX1_init 1 none :: ([.methodLink RX1 3 objectInit, .instanceMethod objectInit, .code objectInit ⟨#[0xb1]⟩ 1 none, .arrayClass .int, .fieldLink RX1 9 "GuessMarks$Game" "colourBits" "[I", .arrayClass .long, .fieldLink RX1 15 "GuessMarks$Game" "pinBits" "[J"] ++ wsX10)
def wsX1_withPin : List Cond := .code yX1_withPin cX1_withPin 6 (some .long) :: ([.constantLong RX1 41 (255)])
def wsX1_layRow : List Cond := .code yX1_layRow cX1_layRow 8 none :: ([.fieldLink RX1 19 "GuessMarks$Game" "places" "I", .fieldLink RX1 23 "GuessMarks$Game" "colours" "I", .fieldLink RX1 9 "GuessMarks$Game" "colourBits" "[I", .fieldLink RX1 15 "GuessMarks$Game" "pinBits" "[J", .methodLink RX1 33 yX1_withPin, .static yX1_withPin, .initialized RX1, .code yX1_withPin cX1_withPin 6 (some .long), .constantLong RX1 41 (255), .methodLink RX1 37 yX1_has, .instanceMethod yX1_has, .selects RX1 yX1_has yX1_has, .code yX1_has cX1_has 2 (some .boolean), .fieldLink RX1 26 "GuessMarks$Game" "rows" "I"] ++ wsX10)
def wsX1_lay : List Cond := .code yX1_lay cX1_lay 5 (some .boolean) :: ([.fieldLink RX1 19 "GuessMarks$Game" "places" "I", .fieldLink RX1 23 "GuessMarks$Game" "colours" "I", .fieldLink RX1 26 "GuessMarks$Game" "rows" "I", .methodLink RX1 29 yX1_layRow, .instanceMethod yX1_layRow, .selects RX1 yX1_layRow yX1_layRow, .initialized RX1, .code yX1_layRow cX1_layRow 8 none, .fieldLink RX1 9 "GuessMarks$Game" "colourBits" "[I", .fieldLink RX1 15 "GuessMarks$Game" "pinBits" "[J", .methodLink RX1 33 yX1_withPin, .static yX1_withPin, .code yX1_withPin cX1_withPin 6 (some .long), .constantLong RX1 41 (255), .methodLink RX1 37 yX1_has, .instanceMethod yX1_has, .selects RX1 yX1_has yX1_has, .code yX1_has cX1_has 2 (some .boolean)] ++ wsX10)
def wsX1_colourOf : List Cond := .code yX1_colourOf cX1_colourOf 3 (some .int) :: ([.fieldLink RX1 9 "GuessMarks$Game" "colourBits" "[I", .fieldLink RX1 19 "GuessMarks$Game" "places" "I", .methodLink RX1 37 yX1_has, .instanceMethod yX1_has, .selects RX1 yX1_has yX1_has, .initialized RX1, .code yX1_has cX1_has 2 (some .boolean), .fieldLink RX1 26 "GuessMarks$Game" "rows" "I"] ++ wsX10)
def wsX1_allBlack : List Cond := .code yX1_allBlack cX1_allBlack 1 (some .int) :: ([.fieldLink RX1 19 "GuessMarks$Game" "places" "I"] ++ wsX10)
def wsX1_allows : List Cond := .code yX1_allows cX1_allows 5 (some .boolean) :: ([.fieldLink RX1 19 "GuessMarks$Game" "places" "I"] ++ wsX10)
def wsX2_init : List Cond := .code yX2_init cX2_init 1 none :: ([.methodLink RX2 3 objectInit, .instanceMethod objectInit, .code objectInit ⟨#[0xb1]⟩ 1 none, .arrayClass .int, .fieldLink RX2 9 "GuessMarks$Parting" "marks" "[I", .fieldLink RX2 15 "GuessMarks$Parting" "sizes" "[I"] ++ wsX20)
def wsX2_clear : List Cond := .code yX2_clear cX2_clear 1 none :: ([.fieldLink RX2 18 "GuessMarks$Parting" "count" "I", .fieldLink RX2 22 "GuessMarks$Parting" "greatest" "I", .fieldLink RX2 25 "GuessMarks$Parting" "squares" "I", .fieldLink RX2 15 "GuessMarks$Parting" "sizes" "[I", .methodLink RX2 28 yJ7_fill_53178, .static yJ7_fill_53178, .initialized RJ7, .code yJ7_fill_53178 cJ7_fill_53178 4 none] ++ wsX20)
def wsX2_add : List Cond := .code yX2_add cX2_add 3 none :: ([.fieldLink RX2 15 "GuessMarks$Parting" "sizes" "[I", .fieldLink RX2 18 "GuessMarks$Parting" "count" "I", .fieldLink RX2 9 "GuessMarks$Parting" "marks" "[I", .fieldLink RX2 22 "GuessMarks$Parting" "greatest" "I", .methodLink RX2 34 Lib.Math.max.name, .static Lib.Math.max.name, .initialized "java/lang/Math", .code Lib.Math.max.name Lib.Math.max.code 2 (some .int), .fieldLink RX2 25 "GuessMarks$Parting" "squares" "I"] ++ wsX20)
def wsX2_has : List Cond := .code yX2_has cX2_has 2 (some .boolean) :: ([.fieldLink RX2 18 "GuessMarks$Parting" "count" "I", .fieldLink RX2 9 "GuessMarks$Parting" "marks" "[I"] ++ wsX20)
def wsX2_markAt : List Cond := .code yX2_markAt cX2_markAt 2 (some .int) :: ([.fieldLink RX2 9 "GuessMarks$Parting" "marks" "[I", .methodLink RX2 40 yX2_has, .instanceMethod yX2_has, .selects RX2 yX2_has yX2_has, .initialized RX2, .code yX2_has cX2_has 2 (some .boolean), .fieldLink RX2 18 "GuessMarks$Parting" "count" "I"] ++ wsX20)
def wsX2_sizeWith : List Cond := .code yX2_sizeWith cX2_sizeWith 2 (some .int) :: ([.fieldLink RX2 15 "GuessMarks$Parting" "sizes" "[I"] ++ wsX20)
def wsX2_score : List Cond := .code yX2_score cX2_score 2 (some .int) :: ([.fieldLink RX2 22 "GuessMarks$Parting" "greatest" "I", .fieldLink RX2 25 "GuessMarks$Parting" "squares" "I", .fieldLink RX2 18 "GuessMarks$Parting" "count" "I"] ++ wsX20)
def wsX3_remains_r1 : List Cond := [Cond.fieldLink RX3 21 "GuessMarks" "told" "LGuessMarks$Entries;", Cond.fieldLink RX3 92 "GuessMarks" "liesAllowed" "I", Cond.methodLink RX3 83 yX0_countLies, Cond.instanceMethod yX0_countLies, Cond.selects RX0 yX0_countLies yX0_countLies, Cond.initialized RX0, Cond.code yX0_countLies cX0_countLies 2 (some .int), Cond.methodLink RX0 52 yX0_allBits, Cond.instanceMethod yX0_allBits, Cond.selects RX0 yX0_allBits yX0_allBits, Cond.code yX0_allBits cX0_allBits 1 (some .int), Cond.fieldLink RX0 25 "GuessMarks$Entries" "count" "I", Cond.methodLink RX0 56 yX0_countLiesIn, Cond.instanceMethod yX0_countLiesIn, Cond.selects RX0 yX0_countLiesIn yX0_countLiesIn, Cond.code yX0_countLiesIn cX0_countLiesIn 3 (some .int), Cond.fieldLink RX0 21 "GuessMarks$Entries" "game" "LGuessMarks$Game;", Cond.fieldLink RX0 18 "GuessMarks$Entries" "lieBits" "[I", Cond.methodLink RX0 59 yX1_has, Cond.instanceMethod yX1_has, Cond.selects RX1 yX1_has yX1_has, Cond.initialized RX1, Cond.code yX1_has cX1_has 2 (some .boolean), Cond.fieldLink RX1 26 "GuessMarks$Game" "rows" "I"]
def wsX3_remains_r2 : List Cond := [Cond.methodLink RX0 60 yJ6_bitCount_0f7a4, Cond.static yJ6_bitCount_0f7a4, Cond.initialized RJ6, Cond.code yJ6_bitCount_0f7a4 cJ6_bitCount_0f7a4 1 (some .int), Cond.constant RJ6 265 (1431655765), Cond.constant RJ6 266 (858993459), Cond.constant RJ6 267 (252645135)]
def wsX3_remains : List Cond := .code yX3_remains cX3_remains 2 (some .boolean) :: ((wsX3_remains_r1 ++ wsX3_remains_r2) ++ wsX30 ++ wsX00 ++ wsX10)
def wsX3_listRowsLeft_r1 : List Cond := [Cond.fieldLink RX3 133 "GuessMarks" "leftCount" "I", Cond.fieldLink RX3 12 "GuessMarks" "game" "LGuessMarks$Game;", Cond.fieldLink RX3 53 "GuessMarks$Game" "rows" "I", Cond.fieldLink RX3 32 "GuessMarks" "rowsLeft" "[I", Cond.methodLink RX3 110 yX3_remains, Cond.instanceMethod yX3_remains, Cond.selects RX3 yX3_remains yX3_remains, Cond.initialized RX3, Cond.code yX3_remains cX3_remains 2 (some .boolean), Cond.fieldLink RX3 21 "GuessMarks" "told" "LGuessMarks$Entries;", Cond.fieldLink RX3 92 "GuessMarks" "liesAllowed" "I", Cond.methodLink RX3 83 yX0_countLies, Cond.instanceMethod yX0_countLies, Cond.selects RX0 yX0_countLies yX0_countLies, Cond.initialized RX0, Cond.code yX0_countLies cX0_countLies 2 (some .int), Cond.methodLink RX0 52 yX0_allBits, Cond.instanceMethod yX0_allBits, Cond.selects RX0 yX0_allBits yX0_allBits, Cond.code yX0_allBits cX0_allBits 1 (some .int), Cond.fieldLink RX0 25 "GuessMarks$Entries" "count" "I", Cond.methodLink RX0 56 yX0_countLiesIn, Cond.instanceMethod yX0_countLiesIn, Cond.selects RX0 yX0_countLiesIn yX0_countLiesIn]
def wsX3_listRowsLeft_r2 : List Cond := [Cond.code yX0_countLiesIn cX0_countLiesIn 3 (some .int), Cond.fieldLink RX0 21 "GuessMarks$Entries" "game" "LGuessMarks$Game;", Cond.fieldLink RX0 18 "GuessMarks$Entries" "lieBits" "[I", Cond.methodLink RX0 59 yX1_has, Cond.instanceMethod yX1_has, Cond.selects RX1 yX1_has yX1_has, Cond.initialized RX1, Cond.code yX1_has cX1_has 2 (some .boolean), Cond.fieldLink RX1 26 "GuessMarks$Game" "rows" "I", Cond.methodLink RX0 60 yJ6_bitCount_0f7a4, Cond.static yJ6_bitCount_0f7a4, Cond.initialized RJ6, Cond.code yJ6_bitCount_0f7a4 cJ6_bitCount_0f7a4 1 (some .int), Cond.constant RJ6 265 (1431655765), Cond.constant RJ6 266 (858993459), Cond.constant RJ6 267 (252645135)]
def wsX3_listRowsLeft : List Cond := .code yX3_listRowsLeft cX3_listRowsLeft 2 none :: ((wsX3_listRowsLeft_r1 ++ wsX3_listRowsLeft_r2) ++ wsX30 ++ wsX10 ++ wsX00)
def wsX3_tellNothing_r1 : List Cond := [Cond.fieldLink RX3 21 "GuessMarks" "told" "LGuessMarks$Entries;", Cond.fieldLink RX3 92 "GuessMarks" "liesAllowed" "I", Cond.fieldLink RX3 80 "GuessMarks" "hiddenRow" "I", Cond.methodLink RX3 98 yX0_forgetAll, Cond.instanceMethod yX0_forgetAll, Cond.selects RX0 yX0_forgetAll yX0_forgetAll, Cond.initialized RX0, Cond.code yX0_forgetAll cX0_forgetAll 1 none, Cond.fieldLink RX0 25 "GuessMarks$Entries" "count" "I", Cond.fieldLink RX0 18 "GuessMarks$Entries" "lieBits" "[I", Cond.methodLink RX0 29 yJ7_fill_53178, Cond.static yJ7_fill_53178, Cond.initialized RJ7, Cond.code yJ7_fill_53178 cJ7_fill_53178 4 none, Cond.methodLink RX3 95 yX3_listRowsLeft, Cond.instanceMethod yX3_listRowsLeft, Cond.selects RX3 yX3_listRowsLeft yX3_listRowsLeft, Cond.initialized RX3, Cond.code yX3_listRowsLeft cX3_listRowsLeft 2 none, Cond.fieldLink RX3 133 "GuessMarks" "leftCount" "I", Cond.fieldLink RX3 12 "GuessMarks" "game" "LGuessMarks$Game;", Cond.fieldLink RX3 53 "GuessMarks$Game" "rows" "I", Cond.fieldLink RX3 32 "GuessMarks" "rowsLeft" "[I", Cond.methodLink RX3 110 yX3_remains]
def wsX3_tellNothing_r2 : List Cond := [Cond.instanceMethod yX3_remains, Cond.selects RX3 yX3_remains yX3_remains, Cond.code yX3_remains cX3_remains 2 (some .boolean), Cond.methodLink RX3 83 yX0_countLies, Cond.instanceMethod yX0_countLies, Cond.selects RX0 yX0_countLies yX0_countLies, Cond.code yX0_countLies cX0_countLies 2 (some .int), Cond.methodLink RX0 52 yX0_allBits, Cond.instanceMethod yX0_allBits, Cond.selects RX0 yX0_allBits yX0_allBits, Cond.code yX0_allBits cX0_allBits 1 (some .int), Cond.methodLink RX0 56 yX0_countLiesIn, Cond.instanceMethod yX0_countLiesIn, Cond.selects RX0 yX0_countLiesIn yX0_countLiesIn, Cond.code yX0_countLiesIn cX0_countLiesIn 3 (some .int), Cond.fieldLink RX0 21 "GuessMarks$Entries" "game" "LGuessMarks$Game;", Cond.methodLink RX0 59 yX1_has, Cond.instanceMethod yX1_has, Cond.selects RX1 yX1_has yX1_has, Cond.initialized RX1, Cond.code yX1_has cX1_has 2 (some .boolean), Cond.fieldLink RX1 26 "GuessMarks$Game" "rows" "I", Cond.methodLink RX0 60 yJ6_bitCount_0f7a4, Cond.static yJ6_bitCount_0f7a4]
def wsX3_tellNothing_r3 : List Cond := [Cond.initialized RJ6, Cond.code yJ6_bitCount_0f7a4 cJ6_bitCount_0f7a4 1 (some .int), Cond.constant RJ6 265 (1431655765), Cond.constant RJ6 266 (858993459), Cond.constant RJ6 267 (252645135)]
def wsX3_tellNothing : List Cond := .code yX3_tellNothing cX3_tellNothing 1 none :: ((wsX3_tellNothing_r1 ++ (wsX3_tellNothing_r2 ++ wsX3_tellNothing_r3)) ++ wsX30 ++ wsX00 ++ wsX10)
def wsX3_init_r1 : List Cond := [Cond.methodLink RX3 3 objectInit, Cond.instanceMethod objectInit, Cond.code objectInit ⟨#[0xb1]⟩ 1 none, Cond.classLink RX3 9 RX1, Cond.instantiable RX1 5, Cond.initialized RX1, Cond.fieldLink RX3 12 "GuessMarks" "game" "LGuessMarks$Game;", Cond.classLink RX3 16 RX0, Cond.instantiable RX0 5, Cond.initialized RX0, Cond.fieldLink RX3 21 "GuessMarks" "told" "LGuessMarks$Entries;", Cond.classLink RX3 25 RX2, Cond.instantiable RX2 5, Cond.initialized RX2, Cond.fieldLink RX3 28 "GuessMarks" "parting" "LGuessMarks$Parting;", Cond.arrayClass .int, Cond.fieldLink RX3 32 "GuessMarks" "rowsLeft" "[I", Cond.fieldLink RX3 36 "GuessMarks" "search" "[I", Cond.instanceMethod yX1_init, Cond.code yX1_init cX1_init 1 none, Cond.methodLink RX1 3 objectInit, Cond.fieldLink RX1 9 "GuessMarks$Game" "colourBits" "[I", Cond.arrayClass .long, Cond.fieldLink RX1 15 "GuessMarks$Game" "pinBits" "[J"]
def wsX3_init_r2 : List Cond := [Cond.methodLink RX3 18 yX0_init, Cond.instanceMethod yX0_init, Cond.code yX0_init cX0_init 2 none, Cond.methodLink RX0 3 objectInit, Cond.fieldLink RX0 9 "GuessMarks$Entries" "guesses" "[I", Cond.fieldLink RX0 15 "GuessMarks$Entries" "marks" "[I", Cond.fieldLink RX0 18 "GuessMarks$Entries" "lieBits" "[I", Cond.fieldLink RX0 21 "GuessMarks$Entries" "game" "LGuessMarks$Game;", Cond.instanceMethod yX2_init, Cond.code yX2_init cX2_init 1 none, Cond.methodLink RX2 3 objectInit, Cond.fieldLink RX2 9 "GuessMarks$Parting" "marks" "[I", Cond.fieldLink RX2 15 "GuessMarks$Parting" "sizes" "[I", Cond.methodLink RX3 39 yX1_lay, Cond.instanceMethod yX1_lay, Cond.selects RX1 yX1_lay yX1_lay, Cond.code yX1_lay cX1_lay 5 (some .boolean), Cond.fieldLink RX1 19 "GuessMarks$Game" "places" "I", Cond.fieldLink RX1 23 "GuessMarks$Game" "colours" "I", Cond.fieldLink RX1 26 "GuessMarks$Game" "rows" "I", Cond.methodLink RX1 29 yX1_layRow, Cond.instanceMethod yX1_layRow, Cond.selects RX1 yX1_layRow yX1_layRow, Cond.code yX1_layRow cX1_layRow 8 none]
def wsX3_init_r3 : List Cond := [Cond.methodLink RX1 33 yX1_withPin, Cond.static yX1_withPin, Cond.code yX1_withPin cX1_withPin 6 (some .long), Cond.constantLong RX1 41 (255), Cond.methodLink RX1 37 yX1_has, Cond.instanceMethod yX1_has, Cond.selects RX1 yX1_has yX1_has, Cond.code yX1_has cX1_has 2 (some .boolean), Cond.methodLink RX3 43 yX3_tellNothing, Cond.instanceMethod yX3_tellNothing, Cond.selects RX3 yX3_tellNothing yX3_tellNothing, Cond.initialized RX3, Cond.code yX3_tellNothing cX3_tellNothing 1 none, Cond.fieldLink RX3 92 "GuessMarks" "liesAllowed" "I", Cond.fieldLink RX3 80 "GuessMarks" "hiddenRow" "I", Cond.methodLink RX3 98 yX0_forgetAll, Cond.instanceMethod yX0_forgetAll, Cond.selects RX0 yX0_forgetAll yX0_forgetAll, Cond.code yX0_forgetAll cX0_forgetAll 1 none, Cond.fieldLink RX0 25 "GuessMarks$Entries" "count" "I", Cond.methodLink RX0 29 yJ7_fill_53178, Cond.static yJ7_fill_53178, Cond.initialized RJ7, Cond.code yJ7_fill_53178 cJ7_fill_53178 4 none]
def wsX3_init_r4 : List Cond := [Cond.methodLink RX3 95 yX3_listRowsLeft, Cond.instanceMethod yX3_listRowsLeft, Cond.selects RX3 yX3_listRowsLeft yX3_listRowsLeft, Cond.code yX3_listRowsLeft cX3_listRowsLeft 2 none, Cond.fieldLink RX3 133 "GuessMarks" "leftCount" "I", Cond.fieldLink RX3 53 "GuessMarks$Game" "rows" "I", Cond.methodLink RX3 110 yX3_remains, Cond.instanceMethod yX3_remains, Cond.selects RX3 yX3_remains yX3_remains, Cond.code yX3_remains cX3_remains 2 (some .boolean), Cond.methodLink RX3 83 yX0_countLies, Cond.instanceMethod yX0_countLies, Cond.selects RX0 yX0_countLies yX0_countLies, Cond.code yX0_countLies cX0_countLies 2 (some .int), Cond.methodLink RX0 52 yX0_allBits, Cond.instanceMethod yX0_allBits, Cond.selects RX0 yX0_allBits yX0_allBits, Cond.code yX0_allBits cX0_allBits 1 (some .int), Cond.methodLink RX0 56 yX0_countLiesIn, Cond.instanceMethod yX0_countLiesIn, Cond.selects RX0 yX0_countLiesIn yX0_countLiesIn, Cond.code yX0_countLiesIn cX0_countLiesIn 3 (some .int), Cond.methodLink RX0 59 yX1_has, Cond.methodLink RX0 60 yJ6_bitCount_0f7a4]
def wsX3_init_r5 : List Cond := [Cond.static yJ6_bitCount_0f7a4, Cond.initialized RJ6, Cond.code yJ6_bitCount_0f7a4 cJ6_bitCount_0f7a4 1 (some .int), Cond.constant RJ6 265 (1431655765), Cond.constant RJ6 266 (858993459), Cond.constant RJ6 267 (252645135)]
def wsX3_init : List Cond := .code yX3_init cX3_init 1 none :: ((wsX3_init_r1 ++ (wsX3_init_r2 ++ (wsX3_init_r3 ++ (wsX3_init_r4 ++ wsX3_init_r5)))) ++ wsX10 ++ wsX30 ++ wsX00 ++ wsX20)
def wsX3_begin_r1 : List Cond := [Cond.classLink RX3 46 "java/lang/IllegalArgumentException", Cond.initialized "java/lang/IllegalArgumentException", Cond.fieldLink RX3 12 "GuessMarks" "game" "LGuessMarks$Game;", Cond.fieldLink RX3 53 "GuessMarks$Game" "rows" "I", Cond.methodLink RX3 39 yX1_lay, Cond.instanceMethod yX1_lay, Cond.selects RX1 yX1_lay yX1_lay, Cond.initialized RX1, Cond.code yX1_lay cX1_lay 5 (some .boolean), Cond.fieldLink RX1 19 "GuessMarks$Game" "places" "I", Cond.fieldLink RX1 23 "GuessMarks$Game" "colours" "I", Cond.fieldLink RX1 26 "GuessMarks$Game" "rows" "I", Cond.methodLink RX1 29 yX1_layRow, Cond.instanceMethod yX1_layRow, Cond.selects RX1 yX1_layRow yX1_layRow, Cond.code yX1_layRow cX1_layRow 8 none, Cond.fieldLink RX1 9 "GuessMarks$Game" "colourBits" "[I", Cond.fieldLink RX1 15 "GuessMarks$Game" "pinBits" "[J", Cond.methodLink RX1 33 yX1_withPin, Cond.static yX1_withPin, Cond.code yX1_withPin cX1_withPin 6 (some .long), Cond.constantLong RX1 41 (255), Cond.methodLink RX1 37 yX1_has, Cond.instanceMethod yX1_has]
def wsX3_begin_r2 : List Cond := [Cond.selects RX1 yX1_has yX1_has, Cond.code yX1_has cX1_has 2 (some .boolean), Cond.methodLink RX3 43 yX3_tellNothing, Cond.instanceMethod yX3_tellNothing, Cond.selects RX3 yX3_tellNothing yX3_tellNothing, Cond.initialized RX3, Cond.code yX3_tellNothing cX3_tellNothing 1 none, Cond.fieldLink RX3 21 "GuessMarks" "told" "LGuessMarks$Entries;", Cond.fieldLink RX3 92 "GuessMarks" "liesAllowed" "I", Cond.fieldLink RX3 80 "GuessMarks" "hiddenRow" "I", Cond.methodLink RX3 98 yX0_forgetAll, Cond.instanceMethod yX0_forgetAll, Cond.selects RX0 yX0_forgetAll yX0_forgetAll, Cond.initialized RX0, Cond.code yX0_forgetAll cX0_forgetAll 1 none, Cond.fieldLink RX0 25 "GuessMarks$Entries" "count" "I", Cond.fieldLink RX0 18 "GuessMarks$Entries" "lieBits" "[I", Cond.methodLink RX0 29 yJ7_fill_53178, Cond.static yJ7_fill_53178, Cond.initialized RJ7, Cond.code yJ7_fill_53178 cJ7_fill_53178 4 none, Cond.methodLink RX3 95 yX3_listRowsLeft, Cond.instanceMethod yX3_listRowsLeft, Cond.selects RX3 yX3_listRowsLeft yX3_listRowsLeft]
def wsX3_begin_r3 : List Cond := [Cond.code yX3_listRowsLeft cX3_listRowsLeft 2 none, Cond.fieldLink RX3 133 "GuessMarks" "leftCount" "I", Cond.fieldLink RX3 32 "GuessMarks" "rowsLeft" "[I", Cond.methodLink RX3 110 yX3_remains, Cond.instanceMethod yX3_remains, Cond.selects RX3 yX3_remains yX3_remains, Cond.code yX3_remains cX3_remains 2 (some .boolean), Cond.methodLink RX3 83 yX0_countLies, Cond.instanceMethod yX0_countLies, Cond.selects RX0 yX0_countLies yX0_countLies, Cond.code yX0_countLies cX0_countLies 2 (some .int), Cond.methodLink RX0 52 yX0_allBits, Cond.instanceMethod yX0_allBits, Cond.selects RX0 yX0_allBits yX0_allBits, Cond.code yX0_allBits cX0_allBits 1 (some .int), Cond.methodLink RX0 56 yX0_countLiesIn, Cond.instanceMethod yX0_countLiesIn, Cond.selects RX0 yX0_countLiesIn yX0_countLiesIn, Cond.code yX0_countLiesIn cX0_countLiesIn 3 (some .int), Cond.fieldLink RX0 21 "GuessMarks$Entries" "game" "LGuessMarks$Game;", Cond.methodLink RX0 59 yX1_has, Cond.methodLink RX0 60 yJ6_bitCount_0f7a4, Cond.static yJ6_bitCount_0f7a4, Cond.initialized RJ6]
def wsX3_begin_r4 : List Cond := [Cond.code yJ6_bitCount_0f7a4 cJ6_bitCount_0f7a4 1 (some .int), Cond.constant RJ6 265 (1431655765), Cond.constant RJ6 266 (858993459), Cond.constant RJ6 267 (252645135)]
def wsX3_begin : List Cond := .code yX3_begin cX3_begin 3 (some .int) :: ((wsX3_begin_r1 ++ (wsX3_begin_r2 ++ (wsX3_begin_r3 ++ wsX3_begin_r4))) ++ wsX30 ++ wsX10 ++ wsX00 ++ (vx_atS RX3 50 "java/lang/IllegalArgumentException" ["java/lang/RuntimeException", "java/lang/Exception"]).filter goodWord)
def wsX3_rows : List Cond := .code yX3_rows cX3_rows 1 (some .int) :: ([.fieldLink RX3 12 "GuessMarks" "game" "LGuessMarks$Game;", .fieldLink RX3 53 "GuessMarks$Game" "rows" "I"] ++ wsX30 ++ wsX10)
def wsX3_colourAt : List Cond := .code yX3_colourAt cX3_colourAt 3 (some .int) :: ([.classLink RX3 64 "java/lang/IndexOutOfBoundsException", .initialized "java/lang/IndexOutOfBoundsException", .fieldLink RX3 12 "GuessMarks" "game" "LGuessMarks$Game;", .fieldLink RX3 61 "GuessMarks$Game" "places" "I", .methodLink RX3 57 yX1_has, .instanceMethod yX1_has, .selects RX1 yX1_has yX1_has, .initialized RX1, .code yX1_has cX1_has 2 (some .boolean), .fieldLink RX1 26 "GuessMarks$Game" "rows" "I", .methodLink RX3 69 yX1_colourOf, .instanceMethod yX1_colourOf, .selects RX1 yX1_colourOf yX1_colourOf, .code yX1_colourOf cX1_colourOf 3 (some .int), .fieldLink RX1 9 "GuessMarks$Game" "colourBits" "[I", .fieldLink RX1 19 "GuessMarks$Game" "places" "I", .methodLink RX1 37 yX1_has] ++ wsX30 ++ wsX10 ++ (vx_atS RX3 68 "java/lang/IndexOutOfBoundsException" ["java/lang/RuntimeException", "java/lang/Exception"]).filter goodWord)
def wsX3_mark_r1 : List Cond := [Cond.classLink RX3 64 "java/lang/IndexOutOfBoundsException", Cond.initialized "java/lang/IndexOutOfBoundsException", Cond.fieldLink RX3 12 "GuessMarks" "game" "LGuessMarks$Game;", Cond.methodLink RX3 57 yX1_has, Cond.instanceMethod yX1_has, Cond.selects RX1 yX1_has yX1_has, Cond.initialized RX1, Cond.code yX1_has cX1_has 2 (some .boolean), Cond.fieldLink RX1 26 "GuessMarks$Game" "rows" "I", Cond.methodLink RX3 75 yX1_compare, Cond.instanceMethod yX1_compare, Cond.selects RX1 yX1_compare yX1_compare, Cond.code yX1_compare cX1_compare 7 (some .int), Cond.fieldLink RX1 9 "GuessMarks$Game" "colourBits" "[I", Cond.constant RX1 43 (2396745), Cond.fieldLink RX1 19 "GuessMarks$Game" "places" "I", Cond.fieldLink RX1 15 "GuessMarks$Game" "pinBits" "[J", Cond.methodLink RX1 37 yX1_has, Cond.methodLink RX1 44 yJ6_bitCount_0f7a4, Cond.static yJ6_bitCount_0f7a4, Cond.initialized RJ6, Cond.code yJ6_bitCount_0f7a4 cJ6_bitCount_0f7a4 1 (some .int), Cond.constant RJ6 265 (1431655765), Cond.constant RJ6 266 (858993459)]
def wsX3_mark_r2 : List Cond := [Cond.constant RJ6 267 (252645135), Cond.methodLink RX1 50 yJ13_bitCount_95d88, Cond.static yJ13_bitCount_95d88, Cond.initialized RJ13, Cond.code yJ13_bitCount_95d88 cJ13_bitCount_95d88 2 (some .int), Cond.constantLong RJ13 314 (6148914691236517205), Cond.constantLong RJ13 316 (3689348814741910323), Cond.constantLong RJ13 318 (1085102592571150095)]
def wsX3_mark : List Cond := .code yX3_mark cX3_mark 3 (some .int) :: ((wsX3_mark_r1 ++ wsX3_mark_r2) ++ wsX30 ++ wsX10 ++ (vx_atS RX3 68 "java/lang/IndexOutOfBoundsException" ["java/lang/RuntimeException", "java/lang/Exception"]).filter goodWord)
def wsX3_allowLies_r1 : List Cond := [Cond.classLink RX3 46 "java/lang/IllegalArgumentException", Cond.initialized "java/lang/IllegalArgumentException", Cond.classLink RX3 87 "java/lang/IllegalStateException", Cond.initialized "java/lang/IllegalStateException", Cond.fieldLink RX3 80 "GuessMarks" "hiddenRow" "I", Cond.fieldLink RX3 21 "GuessMarks" "told" "LGuessMarks$Entries;", Cond.fieldLink RX3 92 "GuessMarks" "liesAllowed" "I", Cond.methodLink RX3 83 yX0_countLies, Cond.instanceMethod yX0_countLies, Cond.selects RX0 yX0_countLies yX0_countLies, Cond.initialized RX0, Cond.code yX0_countLies cX0_countLies 2 (some .int), Cond.methodLink RX0 52 yX0_allBits, Cond.instanceMethod yX0_allBits, Cond.selects RX0 yX0_allBits yX0_allBits, Cond.code yX0_allBits cX0_allBits 1 (some .int), Cond.fieldLink RX0 25 "GuessMarks$Entries" "count" "I", Cond.methodLink RX0 56 yX0_countLiesIn, Cond.instanceMethod yX0_countLiesIn, Cond.selects RX0 yX0_countLiesIn yX0_countLiesIn, Cond.code yX0_countLiesIn cX0_countLiesIn 3 (some .int), Cond.fieldLink RX0 21 "GuessMarks$Entries" "game" "LGuessMarks$Game;", Cond.fieldLink RX0 18 "GuessMarks$Entries" "lieBits" "[I", Cond.methodLink RX0 59 yX1_has]
def wsX3_allowLies_r2 : List Cond := [Cond.instanceMethod yX1_has, Cond.selects RX1 yX1_has yX1_has, Cond.initialized RX1, Cond.code yX1_has cX1_has 2 (some .boolean), Cond.fieldLink RX1 26 "GuessMarks$Game" "rows" "I", Cond.methodLink RX0 60 yJ6_bitCount_0f7a4, Cond.static yJ6_bitCount_0f7a4, Cond.initialized RJ6, Cond.code yJ6_bitCount_0f7a4 cJ6_bitCount_0f7a4 1 (some .int), Cond.constant RJ6 265 (1431655765), Cond.constant RJ6 266 (858993459), Cond.constant RJ6 267 (252645135), Cond.methodLink RX3 95 yX3_listRowsLeft, Cond.instanceMethod yX3_listRowsLeft, Cond.selects RX3 yX3_listRowsLeft yX3_listRowsLeft, Cond.initialized RX3, Cond.code yX3_listRowsLeft cX3_listRowsLeft 2 none, Cond.fieldLink RX3 133 "GuessMarks" "leftCount" "I", Cond.fieldLink RX3 12 "GuessMarks" "game" "LGuessMarks$Game;", Cond.fieldLink RX3 53 "GuessMarks$Game" "rows" "I", Cond.fieldLink RX3 32 "GuessMarks" "rowsLeft" "[I", Cond.methodLink RX3 110 yX3_remains, Cond.instanceMethod yX3_remains, Cond.selects RX3 yX3_remains yX3_remains]
def wsX3_allowLies_r3 : List Cond := [Cond.code yX3_remains cX3_remains 2 (some .boolean)]
def wsX3_allowLies : List Cond := .code yX3_allowLies cX3_allowLies 3 (some .int) :: ((wsX3_allowLies_r1 ++ (wsX3_allowLies_r2 ++ wsX3_allowLies_r3)) ++ wsX30 ++ wsX00 ++ wsX10 ++ (vx_atS RX3 50 "java/lang/IllegalArgumentException" ["java/lang/RuntimeException", "java/lang/Exception"]).filter goodWord ++ (vx_atS RX3 91 "java/lang/IllegalStateException" ["java/lang/RuntimeException", "java/lang/Exception"]).filter goodWord)
def wsX3_requireRow : List Cond := .code yX3_requireRow cX3_requireRow 2 none :: ([.classLink RX3 64 "java/lang/IndexOutOfBoundsException", .initialized "java/lang/IndexOutOfBoundsException", .fieldLink RX3 12 "GuessMarks" "game" "LGuessMarks$Game;", .methodLink RX3 57 yX1_has, .instanceMethod yX1_has, .selects RX1 yX1_has yX1_has, .initialized RX1, .code yX1_has cX1_has 2 (some .boolean), .fieldLink RX1 26 "GuessMarks$Game" "rows" "I"] ++ wsX30 ++ wsX10 ++ (vx_atS RX3 68 "java/lang/IndexOutOfBoundsException" ["java/lang/RuntimeException", "java/lang/Exception"]).filter goodWord)
def wsX3_requirePossible : List Cond := .code yX3_requirePossible cX3_requirePossible 2 none :: ([.classLink RX3 46 "java/lang/IllegalArgumentException", .initialized "java/lang/IllegalArgumentException", .fieldLink RX3 12 "GuessMarks" "game" "LGuessMarks$Game;", .methodLink RX3 101 yX1_allows, .instanceMethod yX1_allows, .selects RX1 yX1_allows yX1_allows, .initialized RX1, .code yX1_allows cX1_allows 5 (some .boolean), .fieldLink RX1 19 "GuessMarks$Game" "places" "I"] ++ wsX30 ++ wsX10 ++ (vx_atS RX3 50 "java/lang/IllegalArgumentException" ["java/lang/RuntimeException", "java/lang/Exception"]).filter goodWord)
def wsX3_hide_r1 : List Cond := [Cond.classLink RX3 87 "java/lang/IllegalStateException", Cond.initialized "java/lang/IllegalStateException", Cond.fieldLink RX3 80 "GuessMarks" "hiddenRow" "I", Cond.methodLink RX3 106 yX3_requireRow, Cond.instanceMethod yX3_requireRow, Cond.selects RX3 yX3_requireRow yX3_requireRow, Cond.initialized RX3, Cond.code yX3_requireRow cX3_requireRow 2 none, Cond.classLink RX3 64 "java/lang/IndexOutOfBoundsException", Cond.initialized "java/lang/IndexOutOfBoundsException", Cond.fieldLink RX3 12 "GuessMarks" "game" "LGuessMarks$Game;", Cond.methodLink RX3 57 yX1_has, Cond.instanceMethod yX1_has, Cond.selects RX1 yX1_has yX1_has, Cond.initialized RX1, Cond.code yX1_has cX1_has 2 (some .boolean), Cond.fieldLink RX1 26 "GuessMarks$Game" "rows" "I", Cond.methodLink RX3 110 yX3_remains, Cond.instanceMethod yX3_remains, Cond.selects RX3 yX3_remains yX3_remains, Cond.code yX3_remains cX3_remains 2 (some .boolean), Cond.fieldLink RX3 21 "GuessMarks" "told" "LGuessMarks$Entries;", Cond.fieldLink RX3 92 "GuessMarks" "liesAllowed" "I", Cond.methodLink RX3 83 yX0_countLies]
def wsX3_hide_r2 : List Cond := [Cond.instanceMethod yX0_countLies, Cond.selects RX0 yX0_countLies yX0_countLies, Cond.initialized RX0, Cond.code yX0_countLies cX0_countLies 2 (some .int), Cond.methodLink RX0 52 yX0_allBits, Cond.instanceMethod yX0_allBits, Cond.selects RX0 yX0_allBits yX0_allBits, Cond.code yX0_allBits cX0_allBits 1 (some .int), Cond.fieldLink RX0 25 "GuessMarks$Entries" "count" "I", Cond.methodLink RX0 56 yX0_countLiesIn, Cond.instanceMethod yX0_countLiesIn, Cond.selects RX0 yX0_countLiesIn yX0_countLiesIn, Cond.code yX0_countLiesIn cX0_countLiesIn 3 (some .int), Cond.fieldLink RX0 21 "GuessMarks$Entries" "game" "LGuessMarks$Game;", Cond.fieldLink RX0 18 "GuessMarks$Entries" "lieBits" "[I", Cond.methodLink RX0 59 yX1_has, Cond.methodLink RX0 60 yJ6_bitCount_0f7a4, Cond.static yJ6_bitCount_0f7a4, Cond.initialized RJ6, Cond.code yJ6_bitCount_0f7a4 cJ6_bitCount_0f7a4 1 (some .int), Cond.constant RJ6 265 (1431655765), Cond.constant RJ6 266 (858993459), Cond.constant RJ6 267 (252645135)]
def wsX3_hide : List Cond := .code yX3_hide cX3_hide 3 (some .boolean) :: ((wsX3_hide_r1 ++ wsX3_hide_r2) ++ wsX30 ++ wsX10 ++ wsX00 ++ (vx_atS RX3 91 "java/lang/IllegalStateException" ["java/lang/RuntimeException", "java/lang/Exception"]).filter goodWord ++ (vx_atS RX3 68 "java/lang/IndexOutOfBoundsException" ["java/lang/RuntimeException", "java/lang/Exception"]).filter goodWord)
def wsX3_addEntry_r1 : List Cond := [Cond.fieldLink RX3 21 "GuessMarks" "told" "LGuessMarks$Entries;", Cond.methodLink RX3 156 yX0_add, Cond.instanceMethod yX0_add, Cond.selects RX0 yX0_add yX0_add, Cond.initialized RX0, Cond.code yX0_add cX0_add 5 none, Cond.fieldLink RX0 25 "GuessMarks$Entries" "count" "I", Cond.fieldLink RX0 9 "GuessMarks$Entries" "guesses" "[I", Cond.fieldLink RX0 15 "GuessMarks$Entries" "marks" "[I", Cond.fieldLink RX0 21 "GuessMarks$Entries" "game" "LGuessMarks$Game;", Cond.fieldLink RX0 43 "GuessMarks$Game" "rows" "I", Cond.fieldLink RX0 18 "GuessMarks$Entries" "lieBits" "[I", Cond.methodLink RX0 39 yX0_isFull, Cond.instanceMethod yX0_isFull, Cond.selects RX0 yX0_isFull yX0_isFull, Cond.code yX0_isFull cX0_isFull 1 (some .boolean), Cond.methodLink RX0 48 yX1_compare, Cond.instanceMethod yX1_compare, Cond.selects RX1 yX1_compare yX1_compare, Cond.initialized RX1, Cond.code yX1_compare cX1_compare 7 (some .int), Cond.fieldLink RX1 9 "GuessMarks$Game" "colourBits" "[I", Cond.constant RX1 43 (2396745), Cond.fieldLink RX1 19 "GuessMarks$Game" "places" "I"]
def wsX3_addEntry_r2 : List Cond := [Cond.fieldLink RX1 15 "GuessMarks$Game" "pinBits" "[J", Cond.methodLink RX1 37 yX1_has, Cond.instanceMethod yX1_has, Cond.selects RX1 yX1_has yX1_has, Cond.code yX1_has cX1_has 2 (some .boolean), Cond.fieldLink RX1 26 "GuessMarks$Game" "rows" "I", Cond.methodLink RX1 44 yJ6_bitCount_0f7a4, Cond.static yJ6_bitCount_0f7a4, Cond.initialized RJ6, Cond.code yJ6_bitCount_0f7a4 cJ6_bitCount_0f7a4 1 (some .int), Cond.constant RJ6 265 (1431655765), Cond.constant RJ6 266 (858993459), Cond.constant RJ6 267 (252645135), Cond.methodLink RX1 50 yJ13_bitCount_95d88, Cond.static yJ13_bitCount_95d88, Cond.initialized RJ13, Cond.code yJ13_bitCount_95d88 cJ13_bitCount_95d88 2 (some .int), Cond.constantLong RJ13 314 (6148914691236517205), Cond.constantLong RJ13 316 (3689348814741910323), Cond.constantLong RJ13 318 (1085102592571150095), Cond.methodLink RX3 95 yX3_listRowsLeft, Cond.instanceMethod yX3_listRowsLeft, Cond.selects RX3 yX3_listRowsLeft yX3_listRowsLeft, Cond.initialized RX3]
def wsX3_addEntry_r3 : List Cond := [Cond.code yX3_listRowsLeft cX3_listRowsLeft 2 none, Cond.fieldLink RX3 133 "GuessMarks" "leftCount" "I", Cond.fieldLink RX3 12 "GuessMarks" "game" "LGuessMarks$Game;", Cond.fieldLink RX3 53 "GuessMarks$Game" "rows" "I", Cond.fieldLink RX3 32 "GuessMarks" "rowsLeft" "[I", Cond.methodLink RX3 110 yX3_remains, Cond.instanceMethod yX3_remains, Cond.selects RX3 yX3_remains yX3_remains, Cond.code yX3_remains cX3_remains 2 (some .boolean), Cond.fieldLink RX3 92 "GuessMarks" "liesAllowed" "I", Cond.methodLink RX3 83 yX0_countLies, Cond.instanceMethod yX0_countLies, Cond.selects RX0 yX0_countLies yX0_countLies, Cond.code yX0_countLies cX0_countLies 2 (some .int), Cond.methodLink RX0 52 yX0_allBits, Cond.instanceMethod yX0_allBits, Cond.selects RX0 yX0_allBits yX0_allBits, Cond.code yX0_allBits cX0_allBits 1 (some .int), Cond.methodLink RX0 56 yX0_countLiesIn, Cond.instanceMethod yX0_countLiesIn, Cond.selects RX0 yX0_countLiesIn yX0_countLiesIn, Cond.code yX0_countLiesIn cX0_countLiesIn 3 (some .int), Cond.methodLink RX0 59 yX1_has, Cond.methodLink RX0 60 yJ6_bitCount_0f7a4]
def wsX3_addEntry : List Cond := .code yX3_addEntry cX3_addEntry 3 none :: ((wsX3_addEntry_r1 ++ (wsX3_addEntry_r2 ++ wsX3_addEntry_r3)) ++ wsX30 ++ wsX00 ++ wsX10)
def wsX3_guess_r1 : List Cond := [Cond.classLink RX3 87 "java/lang/IllegalStateException", Cond.initialized "java/lang/IllegalStateException", Cond.fieldLink RX3 80 "GuessMarks" "hiddenRow" "I", Cond.fieldLink RX3 21 "GuessMarks" "told" "LGuessMarks$Entries;", Cond.fieldLink RX3 12 "GuessMarks" "game" "LGuessMarks$Game;", Cond.methodLink RX3 106 yX3_requireRow, Cond.instanceMethod yX3_requireRow, Cond.selects RX3 yX3_requireRow yX3_requireRow, Cond.initialized RX3, Cond.code yX3_requireRow cX3_requireRow 2 none, Cond.classLink RX3 64 "java/lang/IndexOutOfBoundsException", Cond.initialized "java/lang/IndexOutOfBoundsException", Cond.methodLink RX3 57 yX1_has, Cond.instanceMethod yX1_has, Cond.selects RX1 yX1_has yX1_has, Cond.initialized RX1, Cond.code yX1_has cX1_has 2 (some .boolean), Cond.fieldLink RX1 26 "GuessMarks$Game" "rows" "I", Cond.methodLink RX3 115 yX0_isFull, Cond.instanceMethod yX0_isFull, Cond.selects RX0 yX0_isFull yX0_isFull, Cond.initialized RX0, Cond.code yX0_isFull cX0_isFull 1 (some .boolean), Cond.fieldLink RX0 25 "GuessMarks$Entries" "count" "I"]
def wsX3_guess_r2 : List Cond := [Cond.methodLink RX3 75 yX1_compare, Cond.instanceMethod yX1_compare, Cond.selects RX1 yX1_compare yX1_compare, Cond.code yX1_compare cX1_compare 7 (some .int), Cond.fieldLink RX1 9 "GuessMarks$Game" "colourBits" "[I", Cond.constant RX1 43 (2396745), Cond.fieldLink RX1 19 "GuessMarks$Game" "places" "I", Cond.fieldLink RX1 15 "GuessMarks$Game" "pinBits" "[J", Cond.methodLink RX1 37 yX1_has, Cond.methodLink RX1 44 yJ6_bitCount_0f7a4, Cond.static yJ6_bitCount_0f7a4, Cond.initialized RJ6, Cond.code yJ6_bitCount_0f7a4 cJ6_bitCount_0f7a4 1 (some .int), Cond.constant RJ6 265 (1431655765), Cond.constant RJ6 266 (858993459), Cond.constant RJ6 267 (252645135), Cond.methodLink RX1 50 yJ13_bitCount_95d88, Cond.static yJ13_bitCount_95d88, Cond.initialized RJ13, Cond.code yJ13_bitCount_95d88 cJ13_bitCount_95d88 2 (some .int), Cond.constantLong RJ13 314 (6148914691236517205), Cond.constantLong RJ13 316 (3689348814741910323), Cond.constantLong RJ13 318 (1085102592571150095), Cond.methodLink RX3 121 yX3_addEntry]
def wsX3_guess_r3 : List Cond := [Cond.instanceMethod yX3_addEntry, Cond.selects RX3 yX3_addEntry yX3_addEntry, Cond.code yX3_addEntry cX3_addEntry 3 none, Cond.methodLink RX3 156 yX0_add, Cond.instanceMethod yX0_add, Cond.selects RX0 yX0_add yX0_add, Cond.code yX0_add cX0_add 5 none, Cond.fieldLink RX0 9 "GuessMarks$Entries" "guesses" "[I", Cond.fieldLink RX0 15 "GuessMarks$Entries" "marks" "[I", Cond.fieldLink RX0 21 "GuessMarks$Entries" "game" "LGuessMarks$Game;", Cond.fieldLink RX0 43 "GuessMarks$Game" "rows" "I", Cond.fieldLink RX0 18 "GuessMarks$Entries" "lieBits" "[I", Cond.methodLink RX0 39 yX0_isFull, Cond.methodLink RX0 48 yX1_compare, Cond.methodLink RX3 95 yX3_listRowsLeft, Cond.instanceMethod yX3_listRowsLeft, Cond.selects RX3 yX3_listRowsLeft yX3_listRowsLeft, Cond.code yX3_listRowsLeft cX3_listRowsLeft 2 none, Cond.fieldLink RX3 133 "GuessMarks" "leftCount" "I", Cond.fieldLink RX3 53 "GuessMarks$Game" "rows" "I", Cond.fieldLink RX3 32 "GuessMarks" "rowsLeft" "[I", Cond.methodLink RX3 110 yX3_remains, Cond.instanceMethod yX3_remains, Cond.selects RX3 yX3_remains yX3_remains]
def wsX3_guess_r4 : List Cond := [Cond.code yX3_remains cX3_remains 2 (some .boolean), Cond.fieldLink RX3 92 "GuessMarks" "liesAllowed" "I", Cond.methodLink RX3 83 yX0_countLies, Cond.instanceMethod yX0_countLies, Cond.selects RX0 yX0_countLies yX0_countLies, Cond.code yX0_countLies cX0_countLies 2 (some .int), Cond.methodLink RX0 52 yX0_allBits, Cond.instanceMethod yX0_allBits, Cond.selects RX0 yX0_allBits yX0_allBits, Cond.code yX0_allBits cX0_allBits 1 (some .int), Cond.methodLink RX0 56 yX0_countLiesIn, Cond.instanceMethod yX0_countLiesIn, Cond.selects RX0 yX0_countLiesIn yX0_countLiesIn, Cond.code yX0_countLiesIn cX0_countLiesIn 3 (some .int), Cond.methodLink RX0 59 yX1_has, Cond.methodLink RX0 60 yJ6_bitCount_0f7a4]
def wsX3_guess : List Cond := .code yX3_guess cX3_guess 3 (some .int) :: ((wsX3_guess_r1 ++ (wsX3_guess_r2 ++ (wsX3_guess_r3 ++ wsX3_guess_r4))) ++ wsX30 ++ wsX10 ++ wsX00 ++ (vx_atS RX3 91 "java/lang/IllegalStateException" ["java/lang/RuntimeException", "java/lang/Exception"]).filter goodWord ++ (vx_atS RX3 68 "java/lang/IndexOutOfBoundsException" ["java/lang/RuntimeException", "java/lang/Exception"]).filter goodWord)
def wsX3_wouldLoseHidden_r1 : List Cond := [Cond.fieldLink RX3 80 "GuessMarks" "hiddenRow" "I", Cond.fieldLink RX3 12 "GuessMarks" "game" "LGuessMarks$Game;", Cond.fieldLink RX3 21 "GuessMarks" "told" "LGuessMarks$Entries;", Cond.fieldLink RX3 92 "GuessMarks" "liesAllowed" "I", Cond.methodLink RX3 75 yX1_compare, Cond.instanceMethod yX1_compare, Cond.selects RX1 yX1_compare yX1_compare, Cond.initialized RX1, Cond.code yX1_compare cX1_compare 7 (some .int), Cond.fieldLink RX1 9 "GuessMarks$Game" "colourBits" "[I", Cond.constant RX1 43 (2396745), Cond.fieldLink RX1 19 "GuessMarks$Game" "places" "I", Cond.fieldLink RX1 15 "GuessMarks$Game" "pinBits" "[J", Cond.methodLink RX1 37 yX1_has, Cond.instanceMethod yX1_has, Cond.selects RX1 yX1_has yX1_has, Cond.code yX1_has cX1_has 2 (some .boolean), Cond.fieldLink RX1 26 "GuessMarks$Game" "rows" "I", Cond.methodLink RX1 44 yJ6_bitCount_0f7a4, Cond.static yJ6_bitCount_0f7a4, Cond.initialized RJ6, Cond.code yJ6_bitCount_0f7a4 cJ6_bitCount_0f7a4 1 (some .int), Cond.constant RJ6 265 (1431655765), Cond.constant RJ6 266 (858993459)]
def wsX3_wouldLoseHidden_r2 : List Cond := [Cond.constant RJ6 267 (252645135), Cond.methodLink RX1 50 yJ13_bitCount_95d88, Cond.static yJ13_bitCount_95d88, Cond.initialized RJ13, Cond.code yJ13_bitCount_95d88 cJ13_bitCount_95d88 2 (some .int), Cond.constantLong RJ13 314 (6148914691236517205), Cond.constantLong RJ13 316 (3689348814741910323), Cond.constantLong RJ13 318 (1085102592571150095), Cond.methodLink RX3 83 yX0_countLies, Cond.instanceMethod yX0_countLies, Cond.selects RX0 yX0_countLies yX0_countLies, Cond.initialized RX0, Cond.code yX0_countLies cX0_countLies 2 (some .int), Cond.methodLink RX0 52 yX0_allBits, Cond.instanceMethod yX0_allBits, Cond.selects RX0 yX0_allBits yX0_allBits, Cond.code yX0_allBits cX0_allBits 1 (some .int), Cond.fieldLink RX0 25 "GuessMarks$Entries" "count" "I", Cond.methodLink RX0 56 yX0_countLiesIn, Cond.instanceMethod yX0_countLiesIn, Cond.selects RX0 yX0_countLiesIn yX0_countLiesIn, Cond.code yX0_countLiesIn cX0_countLiesIn 3 (some .int), Cond.fieldLink RX0 21 "GuessMarks$Entries" "game" "LGuessMarks$Game;", Cond.fieldLink RX0 18 "GuessMarks$Entries" "lieBits" "[I"]
def wsX3_wouldLoseHidden_r3 : List Cond := [Cond.methodLink RX0 59 yX1_has, Cond.methodLink RX0 60 yJ6_bitCount_0f7a4]
def wsX3_wouldLoseHidden : List Cond := .code yX3_wouldLoseHidden cX3_wouldLoseHidden 3 (some .boolean) :: ((wsX3_wouldLoseHidden_r1 ++ (wsX3_wouldLoseHidden_r2 ++ wsX3_wouldLoseHidden_r3)) ++ wsX30 ++ wsX10 ++ wsX00)
def wsX3_tell_r1 : List Cond := [Cond.classLink RX3 87 "java/lang/IllegalStateException", Cond.initialized "java/lang/IllegalStateException", Cond.fieldLink RX3 21 "GuessMarks" "told" "LGuessMarks$Entries;", Cond.fieldLink RX3 133 "GuessMarks" "leftCount" "I", Cond.methodLink RX3 106 yX3_requireRow, Cond.instanceMethod yX3_requireRow, Cond.selects RX3 yX3_requireRow yX3_requireRow, Cond.initialized RX3, Cond.code yX3_requireRow cX3_requireRow 2 none, Cond.classLink RX3 64 "java/lang/IndexOutOfBoundsException", Cond.initialized "java/lang/IndexOutOfBoundsException", Cond.fieldLink RX3 12 "GuessMarks" "game" "LGuessMarks$Game;", Cond.methodLink RX3 57 yX1_has, Cond.instanceMethod yX1_has, Cond.selects RX1 yX1_has yX1_has, Cond.initialized RX1, Cond.code yX1_has cX1_has 2 (some .boolean), Cond.fieldLink RX1 26 "GuessMarks$Game" "rows" "I", Cond.methodLink RX3 125 yX3_requirePossible, Cond.instanceMethod yX3_requirePossible, Cond.selects RX3 yX3_requirePossible yX3_requirePossible, Cond.code yX3_requirePossible cX3_requirePossible 2 none, Cond.classLink RX3 46 "java/lang/IllegalArgumentException", Cond.initialized "java/lang/IllegalArgumentException"]
def wsX3_tell_r2 : List Cond := [Cond.methodLink RX3 101 yX1_allows, Cond.instanceMethod yX1_allows, Cond.selects RX1 yX1_allows yX1_allows, Cond.code yX1_allows cX1_allows 5 (some .boolean), Cond.fieldLink RX1 19 "GuessMarks$Game" "places" "I", Cond.methodLink RX3 115 yX0_isFull, Cond.instanceMethod yX0_isFull, Cond.selects RX0 yX0_isFull yX0_isFull, Cond.initialized RX0, Cond.code yX0_isFull cX0_isFull 1 (some .boolean), Cond.fieldLink RX0 25 "GuessMarks$Entries" "count" "I", Cond.methodLink RX3 128 yX3_wouldLoseHidden, Cond.instanceMethod yX3_wouldLoseHidden, Cond.selects RX3 yX3_wouldLoseHidden yX3_wouldLoseHidden, Cond.code yX3_wouldLoseHidden cX3_wouldLoseHidden 3 (some .boolean), Cond.fieldLink RX3 80 "GuessMarks" "hiddenRow" "I", Cond.fieldLink RX3 92 "GuessMarks" "liesAllowed" "I", Cond.methodLink RX3 75 yX1_compare, Cond.instanceMethod yX1_compare, Cond.selects RX1 yX1_compare yX1_compare, Cond.code yX1_compare cX1_compare 7 (some .int), Cond.fieldLink RX1 9 "GuessMarks$Game" "colourBits" "[I", Cond.constant RX1 43 (2396745), Cond.fieldLink RX1 15 "GuessMarks$Game" "pinBits" "[J"]
def wsX3_tell_r3 : List Cond := [Cond.methodLink RX1 37 yX1_has, Cond.methodLink RX1 44 yJ6_bitCount_0f7a4, Cond.static yJ6_bitCount_0f7a4, Cond.initialized RJ6, Cond.code yJ6_bitCount_0f7a4 cJ6_bitCount_0f7a4 1 (some .int), Cond.constant RJ6 265 (1431655765), Cond.constant RJ6 266 (858993459), Cond.constant RJ6 267 (252645135), Cond.methodLink RX1 50 yJ13_bitCount_95d88, Cond.static yJ13_bitCount_95d88, Cond.initialized RJ13, Cond.code yJ13_bitCount_95d88 cJ13_bitCount_95d88 2 (some .int), Cond.constantLong RJ13 314 (6148914691236517205), Cond.constantLong RJ13 316 (3689348814741910323), Cond.constantLong RJ13 318 (1085102592571150095), Cond.methodLink RX3 83 yX0_countLies, Cond.instanceMethod yX0_countLies, Cond.selects RX0 yX0_countLies yX0_countLies, Cond.code yX0_countLies cX0_countLies 2 (some .int), Cond.methodLink RX0 52 yX0_allBits, Cond.instanceMethod yX0_allBits, Cond.selects RX0 yX0_allBits yX0_allBits, Cond.code yX0_allBits cX0_allBits 1 (some .int), Cond.methodLink RX0 56 yX0_countLiesIn]
def wsX3_tell_r4 : List Cond := [Cond.instanceMethod yX0_countLiesIn, Cond.selects RX0 yX0_countLiesIn yX0_countLiesIn, Cond.code yX0_countLiesIn cX0_countLiesIn 3 (some .int), Cond.fieldLink RX0 21 "GuessMarks$Entries" "game" "LGuessMarks$Game;", Cond.fieldLink RX0 18 "GuessMarks$Entries" "lieBits" "[I", Cond.methodLink RX0 59 yX1_has, Cond.methodLink RX0 60 yJ6_bitCount_0f7a4, Cond.methodLink RX3 121 yX3_addEntry, Cond.instanceMethod yX3_addEntry, Cond.selects RX3 yX3_addEntry yX3_addEntry, Cond.code yX3_addEntry cX3_addEntry 3 none, Cond.methodLink RX3 156 yX0_add, Cond.instanceMethod yX0_add, Cond.selects RX0 yX0_add yX0_add, Cond.code yX0_add cX0_add 5 none, Cond.fieldLink RX0 9 "GuessMarks$Entries" "guesses" "[I", Cond.fieldLink RX0 15 "GuessMarks$Entries" "marks" "[I", Cond.fieldLink RX0 43 "GuessMarks$Game" "rows" "I", Cond.methodLink RX0 39 yX0_isFull, Cond.methodLink RX0 48 yX1_compare, Cond.methodLink RX3 95 yX3_listRowsLeft, Cond.instanceMethod yX3_listRowsLeft, Cond.selects RX3 yX3_listRowsLeft yX3_listRowsLeft, Cond.code yX3_listRowsLeft cX3_listRowsLeft 2 none]
def wsX3_tell_r5 : List Cond := [Cond.fieldLink RX3 53 "GuessMarks$Game" "rows" "I", Cond.fieldLink RX3 32 "GuessMarks" "rowsLeft" "[I", Cond.methodLink RX3 110 yX3_remains, Cond.instanceMethod yX3_remains, Cond.selects RX3 yX3_remains yX3_remains, Cond.code yX3_remains cX3_remains 2 (some .boolean)]
def wsX3_tell : List Cond := .code yX3_tell cX3_tell 3 (some .int) :: ((wsX3_tell_r1 ++ (wsX3_tell_r2 ++ (wsX3_tell_r3 ++ (wsX3_tell_r4 ++ wsX3_tell_r5)))) ++ wsX30 ++ wsX10 ++ wsX00 ++ (vx_atS RX3 91 "java/lang/IllegalStateException" ["java/lang/RuntimeException", "java/lang/Exception"]).filter goodWord ++ (vx_atS RX3 68 "java/lang/IndexOutOfBoundsException" ["java/lang/RuntimeException", "java/lang/Exception"]).filter goodWord ++ (vx_atS RX3 50 "java/lang/IllegalArgumentException" ["java/lang/RuntimeException", "java/lang/Exception"]).filter goodWord)
def wsX3_takeBack_r1 : List Cond := [Cond.classLink RX3 87 "java/lang/IllegalStateException", Cond.initialized "java/lang/IllegalStateException", Cond.fieldLink RX3 21 "GuessMarks" "told" "LGuessMarks$Entries;", Cond.fieldLink RX3 136 "GuessMarks$Entries" "count" "I", Cond.fieldLink RX3 133 "GuessMarks" "leftCount" "I", Cond.methodLink RX3 141 yX0_dropLatest, Cond.instanceMethod yX0_dropLatest, Cond.selects RX0 yX0_dropLatest yX0_dropLatest, Cond.initialized RX0, Cond.code yX0_dropLatest cX0_dropLatest 2 none, Cond.fieldLink RX0 25 "GuessMarks$Entries" "count" "I", Cond.fieldLink RX0 21 "GuessMarks$Entries" "game" "LGuessMarks$Game;", Cond.fieldLink RX0 43 "GuessMarks$Game" "rows" "I", Cond.fieldLink RX0 18 "GuessMarks$Entries" "lieBits" "[I", Cond.methodLink RX3 95 yX3_listRowsLeft, Cond.instanceMethod yX3_listRowsLeft, Cond.selects RX3 yX3_listRowsLeft yX3_listRowsLeft, Cond.initialized RX3, Cond.code yX3_listRowsLeft cX3_listRowsLeft 2 none, Cond.fieldLink RX3 12 "GuessMarks" "game" "LGuessMarks$Game;", Cond.fieldLink RX3 53 "GuessMarks$Game" "rows" "I", Cond.fieldLink RX3 32 "GuessMarks" "rowsLeft" "[I", Cond.methodLink RX3 110 yX3_remains, Cond.instanceMethod yX3_remains]
def wsX3_takeBack_r2 : List Cond := [Cond.selects RX3 yX3_remains yX3_remains, Cond.code yX3_remains cX3_remains 2 (some .boolean), Cond.fieldLink RX3 92 "GuessMarks" "liesAllowed" "I", Cond.methodLink RX3 83 yX0_countLies, Cond.instanceMethod yX0_countLies, Cond.selects RX0 yX0_countLies yX0_countLies, Cond.code yX0_countLies cX0_countLies 2 (some .int), Cond.methodLink RX0 52 yX0_allBits, Cond.instanceMethod yX0_allBits, Cond.selects RX0 yX0_allBits yX0_allBits, Cond.code yX0_allBits cX0_allBits 1 (some .int), Cond.methodLink RX0 56 yX0_countLiesIn, Cond.instanceMethod yX0_countLiesIn, Cond.selects RX0 yX0_countLiesIn yX0_countLiesIn, Cond.code yX0_countLiesIn cX0_countLiesIn 3 (some .int), Cond.methodLink RX0 59 yX1_has, Cond.instanceMethod yX1_has, Cond.selects RX1 yX1_has yX1_has, Cond.initialized RX1, Cond.code yX1_has cX1_has 2 (some .boolean), Cond.fieldLink RX1 26 "GuessMarks$Game" "rows" "I", Cond.methodLink RX0 60 yJ6_bitCount_0f7a4, Cond.static yJ6_bitCount_0f7a4, Cond.initialized RJ6]
def wsX3_takeBack_r3 : List Cond := [Cond.code yJ6_bitCount_0f7a4 cJ6_bitCount_0f7a4 1 (some .int), Cond.constant RJ6 265 (1431655765), Cond.constant RJ6 266 (858993459), Cond.constant RJ6 267 (252645135)]
def wsX3_takeBack : List Cond := .code yX3_takeBack cX3_takeBack 1 (some .int) :: ((wsX3_takeBack_r1 ++ (wsX3_takeBack_r2 ++ wsX3_takeBack_r3)) ++ wsX30 ++ wsX00 ++ wsX10 ++ (vx_atS RX3 91 "java/lang/IllegalStateException" ["java/lang/RuntimeException", "java/lang/Exception"]).filter goodWord)
def wsX3_entries : List Cond := .code yX3_entries cX3_entries 1 (some .int) :: ([.fieldLink RX3 21 "GuessMarks" "told" "LGuessMarks$Entries;", .fieldLink RX3 136 "GuessMarks$Entries" "count" "I"] ++ wsX30 ++ wsX00)
def wsX3_requireEntry : List Cond := .code yX3_requireEntry cX3_requireEntry 2 none :: ([.classLink RX3 64 "java/lang/IndexOutOfBoundsException", .initialized "java/lang/IndexOutOfBoundsException", .fieldLink RX3 21 "GuessMarks" "told" "LGuessMarks$Entries;", .methodLink RX3 153 yX0_has, .instanceMethod yX0_has, .selects RX0 yX0_has yX0_has, .initialized RX0, .code yX0_has cX0_has 2 (some .boolean), .fieldLink RX0 25 "GuessMarks$Entries" "count" "I"] ++ wsX30 ++ wsX00 ++ (vx_atS RX3 68 "java/lang/IndexOutOfBoundsException" ["java/lang/RuntimeException", "java/lang/Exception"]).filter goodWord)
def wsX3_guessOf : List Cond := .code yX3_guessOf cX3_guessOf 2 (some .int) :: ([.fieldLink RX3 21 "GuessMarks" "told" "LGuessMarks$Entries;", .methodLink RX3 144 yX3_requireEntry, .instanceMethod yX3_requireEntry, .selects RX3 yX3_requireEntry yX3_requireEntry, .initialized RX3, .code yX3_requireEntry cX3_requireEntry 2 none, .classLink RX3 64 "java/lang/IndexOutOfBoundsException", .initialized "java/lang/IndexOutOfBoundsException", .methodLink RX3 153 yX0_has, .instanceMethod yX0_has, .selects RX0 yX0_has yX0_has, .initialized RX0, .code yX0_has cX0_has 2 (some .boolean), .fieldLink RX0 25 "GuessMarks$Entries" "count" "I", .methodLink RX3 147 yX0_guessAt, .instanceMethod yX0_guessAt, .selects RX0 yX0_guessAt yX0_guessAt, .code yX0_guessAt cX0_guessAt 2 (some .int), .fieldLink RX0 9 "GuessMarks$Entries" "guesses" "[I", .methodLink RX0 35 yX0_has] ++ wsX30 ++ wsX00 ++ (vx_atS RX3 68 "java/lang/IndexOutOfBoundsException" ["java/lang/RuntimeException", "java/lang/Exception"]).filter goodWord)
def wsX3_markOf : List Cond := .code yX3_markOf cX3_markOf 2 (some .int) :: ([.fieldLink RX3 21 "GuessMarks" "told" "LGuessMarks$Entries;", .methodLink RX3 144 yX3_requireEntry, .instanceMethod yX3_requireEntry, .selects RX3 yX3_requireEntry yX3_requireEntry, .initialized RX3, .code yX3_requireEntry cX3_requireEntry 2 none, .classLink RX3 64 "java/lang/IndexOutOfBoundsException", .initialized "java/lang/IndexOutOfBoundsException", .methodLink RX3 153 yX0_has, .instanceMethod yX0_has, .selects RX0 yX0_has yX0_has, .initialized RX0, .code yX0_has cX0_has 2 (some .boolean), .fieldLink RX0 25 "GuessMarks$Entries" "count" "I", .methodLink RX3 150 yX0_markAt, .instanceMethod yX0_markAt, .selects RX0 yX0_markAt yX0_markAt, .code yX0_markAt cX0_markAt 2 (some .int), .fieldLink RX0 15 "GuessMarks$Entries" "marks" "[I", .methodLink RX0 35 yX0_has] ++ wsX30 ++ wsX00 ++ (vx_atS RX3 68 "java/lang/IndexOutOfBoundsException" ["java/lang/RuntimeException", "java/lang/Exception"]).filter goodWord)
def wsX3_liesAbout_r1 : List Cond := [Cond.fieldLink RX3 21 "GuessMarks" "told" "LGuessMarks$Entries;", Cond.methodLink RX3 106 yX3_requireRow, Cond.instanceMethod yX3_requireRow, Cond.selects RX3 yX3_requireRow yX3_requireRow, Cond.initialized RX3, Cond.code yX3_requireRow cX3_requireRow 2 none, Cond.classLink RX3 64 "java/lang/IndexOutOfBoundsException", Cond.initialized "java/lang/IndexOutOfBoundsException", Cond.fieldLink RX3 12 "GuessMarks" "game" "LGuessMarks$Game;", Cond.methodLink RX3 57 yX1_has, Cond.instanceMethod yX1_has, Cond.selects RX1 yX1_has yX1_has, Cond.initialized RX1, Cond.code yX1_has cX1_has 2 (some .boolean), Cond.fieldLink RX1 26 "GuessMarks$Game" "rows" "I", Cond.methodLink RX3 83 yX0_countLies, Cond.instanceMethod yX0_countLies, Cond.selects RX0 yX0_countLies yX0_countLies, Cond.initialized RX0, Cond.code yX0_countLies cX0_countLies 2 (some .int), Cond.methodLink RX0 52 yX0_allBits, Cond.instanceMethod yX0_allBits, Cond.selects RX0 yX0_allBits yX0_allBits, Cond.code yX0_allBits cX0_allBits 1 (some .int)]
def wsX3_liesAbout_r2 : List Cond := [Cond.fieldLink RX0 25 "GuessMarks$Entries" "count" "I", Cond.methodLink RX0 56 yX0_countLiesIn, Cond.instanceMethod yX0_countLiesIn, Cond.selects RX0 yX0_countLiesIn yX0_countLiesIn, Cond.code yX0_countLiesIn cX0_countLiesIn 3 (some .int), Cond.fieldLink RX0 21 "GuessMarks$Entries" "game" "LGuessMarks$Game;", Cond.fieldLink RX0 18 "GuessMarks$Entries" "lieBits" "[I", Cond.methodLink RX0 59 yX1_has, Cond.methodLink RX0 60 yJ6_bitCount_0f7a4, Cond.static yJ6_bitCount_0f7a4, Cond.initialized RJ6, Cond.code yJ6_bitCount_0f7a4 cJ6_bitCount_0f7a4 1 (some .int), Cond.constant RJ6 265 (1431655765), Cond.constant RJ6 266 (858993459), Cond.constant RJ6 267 (252645135)]
def wsX3_liesAbout : List Cond := .code yX3_liesAbout cX3_liesAbout 2 (some .int) :: ((wsX3_liesAbout_r1 ++ wsX3_liesAbout_r2) ++ wsX30 ++ wsX10 ++ wsX00 ++ (vx_atS RX3 68 "java/lang/IndexOutOfBoundsException" ["java/lang/RuntimeException", "java/lang/Exception"]).filter goodWord)
def wsX3_left : List Cond := .code yX3_left cX3_left 1 (some .int) :: ([.fieldLink RX3 133 "GuessMarks" "leftCount" "I"] ++ wsX30)
def wsX3_leftByAll_r1 : List Cond := [Cond.fieldLink RX3 12 "GuessMarks" "game" "LGuessMarks$Game;", Cond.fieldLink RX3 53 "GuessMarks$Game" "rows" "I", Cond.fieldLink RX3 21 "GuessMarks" "told" "LGuessMarks$Entries;", Cond.fieldLink RX3 92 "GuessMarks" "liesAllowed" "I", Cond.methodLink RX3 159 yX0_countLiesAnew, Cond.instanceMethod yX0_countLiesAnew, Cond.selects RX0 yX0_countLiesAnew yX0_countLiesAnew, Cond.initialized RX0, Cond.code yX0_countLiesAnew cX0_countLiesAnew 4 (some .int), Cond.fieldLink RX0 25 "GuessMarks$Entries" "count" "I", Cond.fieldLink RX0 21 "GuessMarks$Entries" "game" "LGuessMarks$Game;", Cond.fieldLink RX0 9 "GuessMarks$Entries" "guesses" "[I", Cond.fieldLink RX0 15 "GuessMarks$Entries" "marks" "[I", Cond.methodLink RX0 48 yX1_compare, Cond.instanceMethod yX1_compare, Cond.selects RX1 yX1_compare yX1_compare, Cond.initialized RX1, Cond.code yX1_compare cX1_compare 7 (some .int), Cond.fieldLink RX1 9 "GuessMarks$Game" "colourBits" "[I", Cond.constant RX1 43 (2396745), Cond.fieldLink RX1 19 "GuessMarks$Game" "places" "I", Cond.fieldLink RX1 15 "GuessMarks$Game" "pinBits" "[J", Cond.methodLink RX1 37 yX1_has, Cond.instanceMethod yX1_has]
def wsX3_leftByAll_r2 : List Cond := [Cond.selects RX1 yX1_has yX1_has, Cond.code yX1_has cX1_has 2 (some .boolean), Cond.fieldLink RX1 26 "GuessMarks$Game" "rows" "I", Cond.methodLink RX1 44 yJ6_bitCount_0f7a4, Cond.static yJ6_bitCount_0f7a4, Cond.initialized RJ6, Cond.code yJ6_bitCount_0f7a4 cJ6_bitCount_0f7a4 1 (some .int), Cond.constant RJ6 265 (1431655765), Cond.constant RJ6 266 (858993459), Cond.constant RJ6 267 (252645135), Cond.methodLink RX1 50 yJ13_bitCount_95d88, Cond.static yJ13_bitCount_95d88, Cond.initialized RJ13, Cond.code yJ13_bitCount_95d88 cJ13_bitCount_95d88 2 (some .int), Cond.constantLong RJ13 314 (6148914691236517205), Cond.constantLong RJ13 316 (3689348814741910323), Cond.constantLong RJ13 318 (1085102592571150095)]
def wsX3_leftByAll : List Cond := .code yX3_leftByAll cX3_leftByAll 3 (some .int) :: ((wsX3_leftByAll_r1 ++ wsX3_leftByAll_r2) ++ wsX30 ++ wsX10 ++ wsX00)
def wsX3_isLeft_r1 : List Cond := [Cond.methodLink RX3 106 yX3_requireRow, Cond.instanceMethod yX3_requireRow, Cond.selects RX3 yX3_requireRow yX3_requireRow, Cond.initialized RX3, Cond.code yX3_requireRow cX3_requireRow 2 none, Cond.classLink RX3 64 "java/lang/IndexOutOfBoundsException", Cond.initialized "java/lang/IndexOutOfBoundsException", Cond.fieldLink RX3 12 "GuessMarks" "game" "LGuessMarks$Game;", Cond.methodLink RX3 57 yX1_has, Cond.instanceMethod yX1_has, Cond.selects RX1 yX1_has yX1_has, Cond.initialized RX1, Cond.code yX1_has cX1_has 2 (some .boolean), Cond.fieldLink RX1 26 "GuessMarks$Game" "rows" "I", Cond.methodLink RX3 110 yX3_remains, Cond.instanceMethod yX3_remains, Cond.selects RX3 yX3_remains yX3_remains, Cond.code yX3_remains cX3_remains 2 (some .boolean), Cond.fieldLink RX3 21 "GuessMarks" "told" "LGuessMarks$Entries;", Cond.fieldLink RX3 92 "GuessMarks" "liesAllowed" "I", Cond.methodLink RX3 83 yX0_countLies, Cond.instanceMethod yX0_countLies, Cond.selects RX0 yX0_countLies yX0_countLies, Cond.initialized RX0]
def wsX3_isLeft_r2 : List Cond := [Cond.code yX0_countLies cX0_countLies 2 (some .int), Cond.methodLink RX0 52 yX0_allBits, Cond.instanceMethod yX0_allBits, Cond.selects RX0 yX0_allBits yX0_allBits, Cond.code yX0_allBits cX0_allBits 1 (some .int), Cond.fieldLink RX0 25 "GuessMarks$Entries" "count" "I", Cond.methodLink RX0 56 yX0_countLiesIn, Cond.instanceMethod yX0_countLiesIn, Cond.selects RX0 yX0_countLiesIn yX0_countLiesIn, Cond.code yX0_countLiesIn cX0_countLiesIn 3 (some .int), Cond.fieldLink RX0 21 "GuessMarks$Entries" "game" "LGuessMarks$Game;", Cond.fieldLink RX0 18 "GuessMarks$Entries" "lieBits" "[I", Cond.methodLink RX0 59 yX1_has, Cond.methodLink RX0 60 yJ6_bitCount_0f7a4, Cond.static yJ6_bitCount_0f7a4, Cond.initialized RJ6, Cond.code yJ6_bitCount_0f7a4 cJ6_bitCount_0f7a4 1 (some .int), Cond.constant RJ6 265 (1431655765), Cond.constant RJ6 266 (858993459), Cond.constant RJ6 267 (252645135)]
def wsX3_isLeft : List Cond := .code yX3_isLeft cX3_isLeft 2 (some .boolean) :: ((wsX3_isLeft_r1 ++ wsX3_isLeft_r2) ++ wsX30 ++ wsX10 ++ wsX00 ++ (vx_atS RX3 68 "java/lang/IndexOutOfBoundsException" ["java/lang/RuntimeException", "java/lang/Exception"]).filter goodWord)
def wsX3_leftAt : List Cond := .code yX3_leftAt cX3_leftAt 2 (some .int) :: ([.classLink RX3 64 "java/lang/IndexOutOfBoundsException", .initialized "java/lang/IndexOutOfBoundsException", .fieldLink RX3 133 "GuessMarks" "leftCount" "I", .fieldLink RX3 32 "GuessMarks" "rowsLeft" "[I"] ++ wsX30 ++ (vx_atS RX3 68 "java/lang/IndexOutOfBoundsException" ["java/lang/RuntimeException", "java/lang/Exception"]).filter goodWord)
def wsX3_partRows_r1 : List Cond := [Cond.fieldLink RX3 28 "GuessMarks" "parting" "LGuessMarks$Parting;", Cond.fieldLink RX3 12 "GuessMarks" "game" "LGuessMarks$Game;", Cond.methodLink RX3 205 yX2_clear, Cond.instanceMethod yX2_clear, Cond.selects RX2 yX2_clear yX2_clear, Cond.initialized RX2, Cond.code yX2_clear cX2_clear 1 none, Cond.fieldLink RX2 18 "GuessMarks$Parting" "count" "I", Cond.fieldLink RX2 22 "GuessMarks$Parting" "greatest" "I", Cond.fieldLink RX2 25 "GuessMarks$Parting" "squares" "I", Cond.fieldLink RX2 15 "GuessMarks$Parting" "sizes" "[I", Cond.methodLink RX2 28 yJ7_fill_53178, Cond.static yJ7_fill_53178, Cond.initialized RJ7, Cond.code yJ7_fill_53178 cJ7_fill_53178 4 none, Cond.methodLink RX3 75 yX1_compare, Cond.instanceMethod yX1_compare, Cond.selects RX1 yX1_compare yX1_compare, Cond.initialized RX1, Cond.code yX1_compare cX1_compare 7 (some .int), Cond.fieldLink RX1 9 "GuessMarks$Game" "colourBits" "[I", Cond.constant RX1 43 (2396745), Cond.fieldLink RX1 19 "GuessMarks$Game" "places" "I", Cond.fieldLink RX1 15 "GuessMarks$Game" "pinBits" "[J"]
def wsX3_partRows_r2 : List Cond := [Cond.methodLink RX1 37 yX1_has, Cond.instanceMethod yX1_has, Cond.selects RX1 yX1_has yX1_has, Cond.code yX1_has cX1_has 2 (some .boolean), Cond.fieldLink RX1 26 "GuessMarks$Game" "rows" "I", Cond.methodLink RX1 44 yJ6_bitCount_0f7a4, Cond.static yJ6_bitCount_0f7a4, Cond.initialized RJ6, Cond.code yJ6_bitCount_0f7a4 cJ6_bitCount_0f7a4 1 (some .int), Cond.constant RJ6 265 (1431655765), Cond.constant RJ6 266 (858993459), Cond.constant RJ6 267 (252645135), Cond.methodLink RX1 50 yJ13_bitCount_95d88, Cond.static yJ13_bitCount_95d88, Cond.initialized RJ13, Cond.code yJ13_bitCount_95d88 cJ13_bitCount_95d88 2 (some .int), Cond.constantLong RJ13 314 (6148914691236517205), Cond.constantLong RJ13 316 (3689348814741910323), Cond.constantLong RJ13 318 (1085102592571150095), Cond.methodLink RX3 208 yX2_add, Cond.instanceMethod yX2_add, Cond.selects RX2 yX2_add yX2_add, Cond.code yX2_add cX2_add 3 none, Cond.fieldLink RX2 9 "GuessMarks$Parting" "marks" "[I"]
def wsX3_partRows_r3 : List Cond := [Cond.methodLink RX2 34 Lib.Math.max.name, Cond.static Lib.Math.max.name, Cond.initialized "java/lang/Math", Cond.code Lib.Math.max.name Lib.Math.max.code 2 (some .int)]
def wsX3_partRows : List Cond := .code yX3_partRows cX3_partRows 6 none :: ((wsX3_partRows_r1 ++ (wsX3_partRows_r2 ++ wsX3_partRows_r3)) ++ wsX30 ++ wsX20 ++ wsX10)
def wsX3_partLeft_r1 : List Cond := [Cond.fieldLink RX3 32 "GuessMarks" "rowsLeft" "[I", Cond.fieldLink RX3 133 "GuessMarks" "leftCount" "I", Cond.methodLink RX3 201 yX3_partRows, Cond.instanceMethod yX3_partRows, Cond.selects RX3 yX3_partRows yX3_partRows, Cond.initialized RX3, Cond.code yX3_partRows cX3_partRows 6 none, Cond.fieldLink RX3 28 "GuessMarks" "parting" "LGuessMarks$Parting;", Cond.fieldLink RX3 12 "GuessMarks" "game" "LGuessMarks$Game;", Cond.methodLink RX3 205 yX2_clear, Cond.instanceMethod yX2_clear, Cond.selects RX2 yX2_clear yX2_clear, Cond.initialized RX2, Cond.code yX2_clear cX2_clear 1 none, Cond.fieldLink RX2 18 "GuessMarks$Parting" "count" "I", Cond.fieldLink RX2 22 "GuessMarks$Parting" "greatest" "I", Cond.fieldLink RX2 25 "GuessMarks$Parting" "squares" "I", Cond.fieldLink RX2 15 "GuessMarks$Parting" "sizes" "[I", Cond.methodLink RX2 28 yJ7_fill_53178, Cond.static yJ7_fill_53178, Cond.initialized RJ7, Cond.code yJ7_fill_53178 cJ7_fill_53178 4 none, Cond.methodLink RX3 75 yX1_compare, Cond.instanceMethod yX1_compare]
def wsX3_partLeft_r2 : List Cond := [Cond.selects RX1 yX1_compare yX1_compare, Cond.initialized RX1, Cond.code yX1_compare cX1_compare 7 (some .int), Cond.fieldLink RX1 9 "GuessMarks$Game" "colourBits" "[I", Cond.constant RX1 43 (2396745), Cond.fieldLink RX1 19 "GuessMarks$Game" "places" "I", Cond.fieldLink RX1 15 "GuessMarks$Game" "pinBits" "[J", Cond.methodLink RX1 37 yX1_has, Cond.instanceMethod yX1_has, Cond.selects RX1 yX1_has yX1_has, Cond.code yX1_has cX1_has 2 (some .boolean), Cond.fieldLink RX1 26 "GuessMarks$Game" "rows" "I", Cond.methodLink RX1 44 yJ6_bitCount_0f7a4, Cond.static yJ6_bitCount_0f7a4, Cond.initialized RJ6, Cond.code yJ6_bitCount_0f7a4 cJ6_bitCount_0f7a4 1 (some .int), Cond.constant RJ6 265 (1431655765), Cond.constant RJ6 266 (858993459), Cond.constant RJ6 267 (252645135), Cond.methodLink RX1 50 yJ13_bitCount_95d88, Cond.static yJ13_bitCount_95d88, Cond.initialized RJ13, Cond.code yJ13_bitCount_95d88 cJ13_bitCount_95d88 2 (some .int), Cond.constantLong RJ13 314 (6148914691236517205)]
def wsX3_partLeft_r3 : List Cond := [Cond.constantLong RJ13 316 (3689348814741910323), Cond.constantLong RJ13 318 (1085102592571150095), Cond.methodLink RX3 208 yX2_add, Cond.instanceMethod yX2_add, Cond.selects RX2 yX2_add yX2_add, Cond.code yX2_add cX2_add 3 none, Cond.fieldLink RX2 9 "GuessMarks$Parting" "marks" "[I", Cond.methodLink RX2 34 Lib.Math.max.name, Cond.static Lib.Math.max.name, Cond.initialized "java/lang/Math", Cond.code Lib.Math.max.name Lib.Math.max.code 2 (some .int)]
def wsX3_partLeft : List Cond := .code yX3_partLeft cX3_partLeft 2 none :: ((wsX3_partLeft_r1 ++ (wsX3_partLeft_r2 ++ wsX3_partLeft_r3)) ++ wsX30 ++ wsX20 ++ wsX10)
def wsX3_parts_r1 : List Cond := [Cond.fieldLink RX3 28 "GuessMarks" "parting" "LGuessMarks$Parting;", Cond.fieldLink RX3 167 "GuessMarks$Parting" "count" "I", Cond.methodLink RX3 106 yX3_requireRow, Cond.instanceMethod yX3_requireRow, Cond.selects RX3 yX3_requireRow yX3_requireRow, Cond.initialized RX3, Cond.code yX3_requireRow cX3_requireRow 2 none, Cond.classLink RX3 64 "java/lang/IndexOutOfBoundsException", Cond.initialized "java/lang/IndexOutOfBoundsException", Cond.fieldLink RX3 12 "GuessMarks" "game" "LGuessMarks$Game;", Cond.methodLink RX3 57 yX1_has, Cond.instanceMethod yX1_has, Cond.selects RX1 yX1_has yX1_has, Cond.initialized RX1, Cond.code yX1_has cX1_has 2 (some .boolean), Cond.fieldLink RX1 26 "GuessMarks$Game" "rows" "I", Cond.methodLink RX3 164 yX3_partLeft, Cond.instanceMethod yX3_partLeft, Cond.selects RX3 yX3_partLeft yX3_partLeft, Cond.code yX3_partLeft cX3_partLeft 2 none, Cond.fieldLink RX3 32 "GuessMarks" "rowsLeft" "[I", Cond.fieldLink RX3 133 "GuessMarks" "leftCount" "I", Cond.methodLink RX3 201 yX3_partRows, Cond.instanceMethod yX3_partRows]
def wsX3_parts_r2 : List Cond := [Cond.selects RX3 yX3_partRows yX3_partRows, Cond.code yX3_partRows cX3_partRows 6 none, Cond.methodLink RX3 205 yX2_clear, Cond.instanceMethod yX2_clear, Cond.selects RX2 yX2_clear yX2_clear, Cond.initialized RX2, Cond.code yX2_clear cX2_clear 1 none, Cond.fieldLink RX2 18 "GuessMarks$Parting" "count" "I", Cond.fieldLink RX2 22 "GuessMarks$Parting" "greatest" "I", Cond.fieldLink RX2 25 "GuessMarks$Parting" "squares" "I", Cond.fieldLink RX2 15 "GuessMarks$Parting" "sizes" "[I", Cond.methodLink RX2 28 yJ7_fill_53178, Cond.static yJ7_fill_53178, Cond.initialized RJ7, Cond.code yJ7_fill_53178 cJ7_fill_53178 4 none, Cond.methodLink RX3 75 yX1_compare, Cond.instanceMethod yX1_compare, Cond.selects RX1 yX1_compare yX1_compare, Cond.code yX1_compare cX1_compare 7 (some .int), Cond.fieldLink RX1 9 "GuessMarks$Game" "colourBits" "[I", Cond.constant RX1 43 (2396745), Cond.fieldLink RX1 19 "GuessMarks$Game" "places" "I", Cond.fieldLink RX1 15 "GuessMarks$Game" "pinBits" "[J", Cond.methodLink RX1 37 yX1_has]
def wsX3_parts_r3 : List Cond := [Cond.methodLink RX1 44 yJ6_bitCount_0f7a4, Cond.static yJ6_bitCount_0f7a4, Cond.initialized RJ6, Cond.code yJ6_bitCount_0f7a4 cJ6_bitCount_0f7a4 1 (some .int), Cond.constant RJ6 265 (1431655765), Cond.constant RJ6 266 (858993459), Cond.constant RJ6 267 (252645135), Cond.methodLink RX1 50 yJ13_bitCount_95d88, Cond.static yJ13_bitCount_95d88, Cond.initialized RJ13, Cond.code yJ13_bitCount_95d88 cJ13_bitCount_95d88 2 (some .int), Cond.constantLong RJ13 314 (6148914691236517205), Cond.constantLong RJ13 316 (3689348814741910323), Cond.constantLong RJ13 318 (1085102592571150095), Cond.methodLink RX3 208 yX2_add, Cond.instanceMethod yX2_add, Cond.selects RX2 yX2_add yX2_add, Cond.code yX2_add cX2_add 3 none, Cond.fieldLink RX2 9 "GuessMarks$Parting" "marks" "[I", Cond.methodLink RX2 34 Lib.Math.max.name, Cond.static Lib.Math.max.name, Cond.initialized "java/lang/Math", Cond.code Lib.Math.max.name Lib.Math.max.code 2 (some .int)]
def wsX3_parts : List Cond := .code yX3_parts cX3_parts 2 (some .int) :: ((wsX3_parts_r1 ++ (wsX3_parts_r2 ++ wsX3_parts_r3)) ++ wsX30 ++ wsX20 ++ wsX10 ++ (vx_atS RX3 68 "java/lang/IndexOutOfBoundsException" ["java/lang/RuntimeException", "java/lang/Exception"]).filter goodWord)
def wsX3_partMark_r1 : List Cond := [Cond.classLink RX3 64 "java/lang/IndexOutOfBoundsException", Cond.initialized "java/lang/IndexOutOfBoundsException", Cond.fieldLink RX3 28 "GuessMarks" "parting" "LGuessMarks$Parting;", Cond.methodLink RX3 106 yX3_requireRow, Cond.instanceMethod yX3_requireRow, Cond.selects RX3 yX3_requireRow yX3_requireRow, Cond.initialized RX3, Cond.code yX3_requireRow cX3_requireRow 2 none, Cond.fieldLink RX3 12 "GuessMarks" "game" "LGuessMarks$Game;", Cond.methodLink RX3 57 yX1_has, Cond.instanceMethod yX1_has, Cond.selects RX1 yX1_has yX1_has, Cond.initialized RX1, Cond.code yX1_has cX1_has 2 (some .boolean), Cond.fieldLink RX1 26 "GuessMarks$Game" "rows" "I", Cond.methodLink RX3 164 yX3_partLeft, Cond.instanceMethod yX3_partLeft, Cond.selects RX3 yX3_partLeft yX3_partLeft, Cond.code yX3_partLeft cX3_partLeft 2 none, Cond.fieldLink RX3 32 "GuessMarks" "rowsLeft" "[I", Cond.fieldLink RX3 133 "GuessMarks" "leftCount" "I", Cond.methodLink RX3 201 yX3_partRows, Cond.instanceMethod yX3_partRows, Cond.selects RX3 yX3_partRows yX3_partRows]
def wsX3_partMark_r2 : List Cond := [Cond.code yX3_partRows cX3_partRows 6 none, Cond.methodLink RX3 205 yX2_clear, Cond.instanceMethod yX2_clear, Cond.selects RX2 yX2_clear yX2_clear, Cond.initialized RX2, Cond.code yX2_clear cX2_clear 1 none, Cond.fieldLink RX2 18 "GuessMarks$Parting" "count" "I", Cond.fieldLink RX2 22 "GuessMarks$Parting" "greatest" "I", Cond.fieldLink RX2 25 "GuessMarks$Parting" "squares" "I", Cond.fieldLink RX2 15 "GuessMarks$Parting" "sizes" "[I", Cond.methodLink RX2 28 yJ7_fill_53178, Cond.static yJ7_fill_53178, Cond.initialized RJ7, Cond.code yJ7_fill_53178 cJ7_fill_53178 4 none, Cond.methodLink RX3 75 yX1_compare, Cond.instanceMethod yX1_compare, Cond.selects RX1 yX1_compare yX1_compare, Cond.code yX1_compare cX1_compare 7 (some .int), Cond.fieldLink RX1 9 "GuessMarks$Game" "colourBits" "[I", Cond.constant RX1 43 (2396745), Cond.fieldLink RX1 19 "GuessMarks$Game" "places" "I", Cond.fieldLink RX1 15 "GuessMarks$Game" "pinBits" "[J", Cond.methodLink RX1 37 yX1_has, Cond.methodLink RX1 44 yJ6_bitCount_0f7a4]
def wsX3_partMark_r3 : List Cond := [Cond.static yJ6_bitCount_0f7a4, Cond.initialized RJ6, Cond.code yJ6_bitCount_0f7a4 cJ6_bitCount_0f7a4 1 (some .int), Cond.constant RJ6 265 (1431655765), Cond.constant RJ6 266 (858993459), Cond.constant RJ6 267 (252645135), Cond.methodLink RX1 50 yJ13_bitCount_95d88, Cond.static yJ13_bitCount_95d88, Cond.initialized RJ13, Cond.code yJ13_bitCount_95d88 cJ13_bitCount_95d88 2 (some .int), Cond.constantLong RJ13 314 (6148914691236517205), Cond.constantLong RJ13 316 (3689348814741910323), Cond.constantLong RJ13 318 (1085102592571150095), Cond.methodLink RX3 208 yX2_add, Cond.instanceMethod yX2_add, Cond.selects RX2 yX2_add yX2_add, Cond.code yX2_add cX2_add 3 none, Cond.fieldLink RX2 9 "GuessMarks$Parting" "marks" "[I", Cond.methodLink RX2 34 Lib.Math.max.name, Cond.static Lib.Math.max.name, Cond.initialized "java/lang/Math", Cond.code Lib.Math.max.name Lib.Math.max.code 2 (some .int), Cond.methodLink RX3 168 yX2_has, Cond.instanceMethod yX2_has]
def wsX3_partMark_r4 : List Cond := [Cond.selects RX2 yX2_has yX2_has, Cond.code yX2_has cX2_has 2 (some .boolean), Cond.methodLink RX3 171 yX2_markAt, Cond.instanceMethod yX2_markAt, Cond.selects RX2 yX2_markAt yX2_markAt, Cond.code yX2_markAt cX2_markAt 2 (some .int), Cond.methodLink RX2 40 yX2_has]
def wsX3_partMark : List Cond := .code yX3_partMark cX3_partMark 3 (some .int) :: ((wsX3_partMark_r1 ++ (wsX3_partMark_r2 ++ (wsX3_partMark_r3 ++ wsX3_partMark_r4))) ++ wsX30 ++ wsX10 ++ wsX20 ++ (vx_atS RX3 68 "java/lang/IndexOutOfBoundsException" ["java/lang/RuntimeException", "java/lang/Exception"]).filter goodWord)
def wsX3_partSize_r1 : List Cond := [Cond.fieldLink RX3 28 "GuessMarks" "parting" "LGuessMarks$Parting;", Cond.methodLink RX3 106 yX3_requireRow, Cond.instanceMethod yX3_requireRow, Cond.selects RX3 yX3_requireRow yX3_requireRow, Cond.initialized RX3, Cond.code yX3_requireRow cX3_requireRow 2 none, Cond.classLink RX3 64 "java/lang/IndexOutOfBoundsException", Cond.initialized "java/lang/IndexOutOfBoundsException", Cond.fieldLink RX3 12 "GuessMarks" "game" "LGuessMarks$Game;", Cond.methodLink RX3 57 yX1_has, Cond.instanceMethod yX1_has, Cond.selects RX1 yX1_has yX1_has, Cond.initialized RX1, Cond.code yX1_has cX1_has 2 (some .boolean), Cond.fieldLink RX1 26 "GuessMarks$Game" "rows" "I", Cond.methodLink RX3 125 yX3_requirePossible, Cond.instanceMethod yX3_requirePossible, Cond.selects RX3 yX3_requirePossible yX3_requirePossible, Cond.code yX3_requirePossible cX3_requirePossible 2 none, Cond.classLink RX3 46 "java/lang/IllegalArgumentException", Cond.initialized "java/lang/IllegalArgumentException", Cond.methodLink RX3 101 yX1_allows, Cond.instanceMethod yX1_allows, Cond.selects RX1 yX1_allows yX1_allows]
def wsX3_partSize_r2 : List Cond := [Cond.code yX1_allows cX1_allows 5 (some .boolean), Cond.fieldLink RX1 19 "GuessMarks$Game" "places" "I", Cond.methodLink RX3 164 yX3_partLeft, Cond.instanceMethod yX3_partLeft, Cond.selects RX3 yX3_partLeft yX3_partLeft, Cond.code yX3_partLeft cX3_partLeft 2 none, Cond.fieldLink RX3 32 "GuessMarks" "rowsLeft" "[I", Cond.fieldLink RX3 133 "GuessMarks" "leftCount" "I", Cond.methodLink RX3 201 yX3_partRows, Cond.instanceMethod yX3_partRows, Cond.selects RX3 yX3_partRows yX3_partRows, Cond.code yX3_partRows cX3_partRows 6 none, Cond.methodLink RX3 205 yX2_clear, Cond.instanceMethod yX2_clear, Cond.selects RX2 yX2_clear yX2_clear, Cond.initialized RX2, Cond.code yX2_clear cX2_clear 1 none, Cond.fieldLink RX2 18 "GuessMarks$Parting" "count" "I", Cond.fieldLink RX2 22 "GuessMarks$Parting" "greatest" "I", Cond.fieldLink RX2 25 "GuessMarks$Parting" "squares" "I", Cond.fieldLink RX2 15 "GuessMarks$Parting" "sizes" "[I", Cond.methodLink RX2 28 yJ7_fill_53178, Cond.static yJ7_fill_53178, Cond.initialized RJ7]
def wsX3_partSize_r3 : List Cond := [Cond.code yJ7_fill_53178 cJ7_fill_53178 4 none, Cond.methodLink RX3 75 yX1_compare, Cond.instanceMethod yX1_compare, Cond.selects RX1 yX1_compare yX1_compare, Cond.code yX1_compare cX1_compare 7 (some .int), Cond.fieldLink RX1 9 "GuessMarks$Game" "colourBits" "[I", Cond.constant RX1 43 (2396745), Cond.fieldLink RX1 15 "GuessMarks$Game" "pinBits" "[J", Cond.methodLink RX1 37 yX1_has, Cond.methodLink RX1 44 yJ6_bitCount_0f7a4, Cond.static yJ6_bitCount_0f7a4, Cond.initialized RJ6, Cond.code yJ6_bitCount_0f7a4 cJ6_bitCount_0f7a4 1 (some .int), Cond.constant RJ6 265 (1431655765), Cond.constant RJ6 266 (858993459), Cond.constant RJ6 267 (252645135), Cond.methodLink RX1 50 yJ13_bitCount_95d88, Cond.static yJ13_bitCount_95d88, Cond.initialized RJ13, Cond.code yJ13_bitCount_95d88 cJ13_bitCount_95d88 2 (some .int), Cond.constantLong RJ13 314 (6148914691236517205), Cond.constantLong RJ13 316 (3689348814741910323), Cond.constantLong RJ13 318 (1085102592571150095), Cond.methodLink RX3 208 yX2_add]
def wsX3_partSize_r4 : List Cond := [Cond.instanceMethod yX2_add, Cond.selects RX2 yX2_add yX2_add, Cond.code yX2_add cX2_add 3 none, Cond.fieldLink RX2 9 "GuessMarks$Parting" "marks" "[I", Cond.methodLink RX2 34 Lib.Math.max.name, Cond.static Lib.Math.max.name, Cond.initialized "java/lang/Math", Cond.code Lib.Math.max.name Lib.Math.max.code 2 (some .int), Cond.methodLink RX3 172 yX2_sizeWith, Cond.instanceMethod yX2_sizeWith, Cond.selects RX2 yX2_sizeWith yX2_sizeWith, Cond.code yX2_sizeWith cX2_sizeWith 2 (some .int)]
def wsX3_partSize : List Cond := .code yX3_partSize cX3_partSize 3 (some .int) :: ((wsX3_partSize_r1 ++ (wsX3_partSize_r2 ++ (wsX3_partSize_r3 ++ wsX3_partSize_r4))) ++ wsX30 ++ wsX10 ++ wsX20 ++ (vx_atS RX3 68 "java/lang/IndexOutOfBoundsException" ["java/lang/RuntimeException", "java/lang/Exception"]).filter goodWord ++ (vx_atS RX3 50 "java/lang/IllegalArgumentException" ["java/lang/RuntimeException", "java/lang/Exception"]).filter goodWord)
def wsX3_worstCase_r1 : List Cond := [Cond.fieldLink RX3 28 "GuessMarks" "parting" "LGuessMarks$Parting;", Cond.fieldLink RX3 175 "GuessMarks$Parting" "greatest" "I", Cond.methodLink RX3 106 yX3_requireRow, Cond.instanceMethod yX3_requireRow, Cond.selects RX3 yX3_requireRow yX3_requireRow, Cond.initialized RX3, Cond.code yX3_requireRow cX3_requireRow 2 none, Cond.classLink RX3 64 "java/lang/IndexOutOfBoundsException", Cond.initialized "java/lang/IndexOutOfBoundsException", Cond.fieldLink RX3 12 "GuessMarks" "game" "LGuessMarks$Game;", Cond.methodLink RX3 57 yX1_has, Cond.instanceMethod yX1_has, Cond.selects RX1 yX1_has yX1_has, Cond.initialized RX1, Cond.code yX1_has cX1_has 2 (some .boolean), Cond.fieldLink RX1 26 "GuessMarks$Game" "rows" "I", Cond.methodLink RX3 164 yX3_partLeft, Cond.instanceMethod yX3_partLeft, Cond.selects RX3 yX3_partLeft yX3_partLeft, Cond.code yX3_partLeft cX3_partLeft 2 none, Cond.fieldLink RX3 32 "GuessMarks" "rowsLeft" "[I", Cond.fieldLink RX3 133 "GuessMarks" "leftCount" "I", Cond.methodLink RX3 201 yX3_partRows, Cond.instanceMethod yX3_partRows]
def wsX3_worstCase_r2 : List Cond := [Cond.selects RX3 yX3_partRows yX3_partRows, Cond.code yX3_partRows cX3_partRows 6 none, Cond.methodLink RX3 205 yX2_clear, Cond.instanceMethod yX2_clear, Cond.selects RX2 yX2_clear yX2_clear, Cond.initialized RX2, Cond.code yX2_clear cX2_clear 1 none, Cond.fieldLink RX2 18 "GuessMarks$Parting" "count" "I", Cond.fieldLink RX2 22 "GuessMarks$Parting" "greatest" "I", Cond.fieldLink RX2 25 "GuessMarks$Parting" "squares" "I", Cond.fieldLink RX2 15 "GuessMarks$Parting" "sizes" "[I", Cond.methodLink RX2 28 yJ7_fill_53178, Cond.static yJ7_fill_53178, Cond.initialized RJ7, Cond.code yJ7_fill_53178 cJ7_fill_53178 4 none, Cond.methodLink RX3 75 yX1_compare, Cond.instanceMethod yX1_compare, Cond.selects RX1 yX1_compare yX1_compare, Cond.code yX1_compare cX1_compare 7 (some .int), Cond.fieldLink RX1 9 "GuessMarks$Game" "colourBits" "[I", Cond.constant RX1 43 (2396745), Cond.fieldLink RX1 19 "GuessMarks$Game" "places" "I", Cond.fieldLink RX1 15 "GuessMarks$Game" "pinBits" "[J", Cond.methodLink RX1 37 yX1_has]
def wsX3_worstCase_r3 : List Cond := [Cond.methodLink RX1 44 yJ6_bitCount_0f7a4, Cond.static yJ6_bitCount_0f7a4, Cond.initialized RJ6, Cond.code yJ6_bitCount_0f7a4 cJ6_bitCount_0f7a4 1 (some .int), Cond.constant RJ6 265 (1431655765), Cond.constant RJ6 266 (858993459), Cond.constant RJ6 267 (252645135), Cond.methodLink RX1 50 yJ13_bitCount_95d88, Cond.static yJ13_bitCount_95d88, Cond.initialized RJ13, Cond.code yJ13_bitCount_95d88 cJ13_bitCount_95d88 2 (some .int), Cond.constantLong RJ13 314 (6148914691236517205), Cond.constantLong RJ13 316 (3689348814741910323), Cond.constantLong RJ13 318 (1085102592571150095), Cond.methodLink RX3 208 yX2_add, Cond.instanceMethod yX2_add, Cond.selects RX2 yX2_add yX2_add, Cond.code yX2_add cX2_add 3 none, Cond.fieldLink RX2 9 "GuessMarks$Parting" "marks" "[I", Cond.methodLink RX2 34 Lib.Math.max.name, Cond.static Lib.Math.max.name, Cond.initialized "java/lang/Math", Cond.code Lib.Math.max.name Lib.Math.max.code 2 (some .int)]
def wsX3_worstCase : List Cond := .code yX3_worstCase cX3_worstCase 2 (some .int) :: ((wsX3_worstCase_r1 ++ (wsX3_worstCase_r2 ++ wsX3_worstCase_r3)) ++ wsX30 ++ wsX20 ++ wsX10 ++ (vx_atS RX3 68 "java/lang/IndexOutOfBoundsException" ["java/lang/RuntimeException", "java/lang/Exception"]).filter goodWord)
def wsX3_weight_r1 : List Cond := [Cond.fieldLink RX3 28 "GuessMarks" "parting" "LGuessMarks$Parting;", Cond.fieldLink RX3 178 "GuessMarks$Parting" "squares" "I", Cond.methodLink RX3 106 yX3_requireRow, Cond.instanceMethod yX3_requireRow, Cond.selects RX3 yX3_requireRow yX3_requireRow, Cond.initialized RX3, Cond.code yX3_requireRow cX3_requireRow 2 none, Cond.classLink RX3 64 "java/lang/IndexOutOfBoundsException", Cond.initialized "java/lang/IndexOutOfBoundsException", Cond.fieldLink RX3 12 "GuessMarks" "game" "LGuessMarks$Game;", Cond.methodLink RX3 57 yX1_has, Cond.instanceMethod yX1_has, Cond.selects RX1 yX1_has yX1_has, Cond.initialized RX1, Cond.code yX1_has cX1_has 2 (some .boolean), Cond.fieldLink RX1 26 "GuessMarks$Game" "rows" "I", Cond.methodLink RX3 164 yX3_partLeft, Cond.instanceMethod yX3_partLeft, Cond.selects RX3 yX3_partLeft yX3_partLeft, Cond.code yX3_partLeft cX3_partLeft 2 none, Cond.fieldLink RX3 32 "GuessMarks" "rowsLeft" "[I", Cond.fieldLink RX3 133 "GuessMarks" "leftCount" "I", Cond.methodLink RX3 201 yX3_partRows, Cond.instanceMethod yX3_partRows]
def wsX3_weight_r2 : List Cond := [Cond.selects RX3 yX3_partRows yX3_partRows, Cond.code yX3_partRows cX3_partRows 6 none, Cond.methodLink RX3 205 yX2_clear, Cond.instanceMethod yX2_clear, Cond.selects RX2 yX2_clear yX2_clear, Cond.initialized RX2, Cond.code yX2_clear cX2_clear 1 none, Cond.fieldLink RX2 18 "GuessMarks$Parting" "count" "I", Cond.fieldLink RX2 22 "GuessMarks$Parting" "greatest" "I", Cond.fieldLink RX2 25 "GuessMarks$Parting" "squares" "I", Cond.fieldLink RX2 15 "GuessMarks$Parting" "sizes" "[I", Cond.methodLink RX2 28 yJ7_fill_53178, Cond.static yJ7_fill_53178, Cond.initialized RJ7, Cond.code yJ7_fill_53178 cJ7_fill_53178 4 none, Cond.methodLink RX3 75 yX1_compare, Cond.instanceMethod yX1_compare, Cond.selects RX1 yX1_compare yX1_compare, Cond.code yX1_compare cX1_compare 7 (some .int), Cond.fieldLink RX1 9 "GuessMarks$Game" "colourBits" "[I", Cond.constant RX1 43 (2396745), Cond.fieldLink RX1 19 "GuessMarks$Game" "places" "I", Cond.fieldLink RX1 15 "GuessMarks$Game" "pinBits" "[J", Cond.methodLink RX1 37 yX1_has]
def wsX3_weight_r3 : List Cond := [Cond.methodLink RX1 44 yJ6_bitCount_0f7a4, Cond.static yJ6_bitCount_0f7a4, Cond.initialized RJ6, Cond.code yJ6_bitCount_0f7a4 cJ6_bitCount_0f7a4 1 (some .int), Cond.constant RJ6 265 (1431655765), Cond.constant RJ6 266 (858993459), Cond.constant RJ6 267 (252645135), Cond.methodLink RX1 50 yJ13_bitCount_95d88, Cond.static yJ13_bitCount_95d88, Cond.initialized RJ13, Cond.code yJ13_bitCount_95d88 cJ13_bitCount_95d88 2 (some .int), Cond.constantLong RJ13 314 (6148914691236517205), Cond.constantLong RJ13 316 (3689348814741910323), Cond.constantLong RJ13 318 (1085102592571150095), Cond.methodLink RX3 208 yX2_add, Cond.instanceMethod yX2_add, Cond.selects RX2 yX2_add yX2_add, Cond.code yX2_add cX2_add 3 none, Cond.fieldLink RX2 9 "GuessMarks$Parting" "marks" "[I", Cond.methodLink RX2 34 Lib.Math.max.name, Cond.static Lib.Math.max.name, Cond.initialized "java/lang/Math", Cond.code Lib.Math.max.name Lib.Math.max.code 2 (some .int)]
def wsX3_weight : List Cond := .code yX3_weight cX3_weight 2 (some .int) :: ((wsX3_weight_r1 ++ (wsX3_weight_r2 ++ wsX3_weight_r3)) ++ wsX30 ++ wsX20 ++ wsX10 ++ (vx_atS RX3 68 "java/lang/IndexOutOfBoundsException" ["java/lang/RuntimeException", "java/lang/Exception"]).filter goodWord)
def wsX3_bestFor_r1 : List Cond := [Cond.fieldLink RX3 12 "GuessMarks" "game" "LGuessMarks$Game;", Cond.fieldLink RX3 53 "GuessMarks$Game" "rows" "I", Cond.fieldLink RX3 28 "GuessMarks" "parting" "LGuessMarks$Parting;", Cond.methodLink RX3 201 yX3_partRows, Cond.instanceMethod yX3_partRows, Cond.selects RX3 yX3_partRows yX3_partRows, Cond.initialized RX3, Cond.code yX3_partRows cX3_partRows 6 none, Cond.methodLink RX3 205 yX2_clear, Cond.instanceMethod yX2_clear, Cond.selects RX2 yX2_clear yX2_clear, Cond.initialized RX2, Cond.code yX2_clear cX2_clear 1 none, Cond.fieldLink RX2 18 "GuessMarks$Parting" "count" "I", Cond.fieldLink RX2 22 "GuessMarks$Parting" "greatest" "I", Cond.fieldLink RX2 25 "GuessMarks$Parting" "squares" "I", Cond.fieldLink RX2 15 "GuessMarks$Parting" "sizes" "[I", Cond.methodLink RX2 28 yJ7_fill_53178, Cond.static yJ7_fill_53178, Cond.initialized RJ7, Cond.code yJ7_fill_53178 cJ7_fill_53178 4 none, Cond.methodLink RX3 75 yX1_compare, Cond.instanceMethod yX1_compare, Cond.selects RX1 yX1_compare yX1_compare]
def wsX3_bestFor_r2 : List Cond := [Cond.initialized RX1, Cond.code yX1_compare cX1_compare 7 (some .int), Cond.fieldLink RX1 9 "GuessMarks$Game" "colourBits" "[I", Cond.constant RX1 43 (2396745), Cond.fieldLink RX1 19 "GuessMarks$Game" "places" "I", Cond.fieldLink RX1 15 "GuessMarks$Game" "pinBits" "[J", Cond.methodLink RX1 37 yX1_has, Cond.instanceMethod yX1_has, Cond.selects RX1 yX1_has yX1_has, Cond.code yX1_has cX1_has 2 (some .boolean), Cond.fieldLink RX1 26 "GuessMarks$Game" "rows" "I", Cond.methodLink RX1 44 yJ6_bitCount_0f7a4, Cond.static yJ6_bitCount_0f7a4, Cond.initialized RJ6, Cond.code yJ6_bitCount_0f7a4 cJ6_bitCount_0f7a4 1 (some .int), Cond.constant RJ6 265 (1431655765), Cond.constant RJ6 266 (858993459), Cond.constant RJ6 267 (252645135), Cond.methodLink RX1 50 yJ13_bitCount_95d88, Cond.static yJ13_bitCount_95d88, Cond.initialized RJ13, Cond.code yJ13_bitCount_95d88 cJ13_bitCount_95d88 2 (some .int), Cond.constantLong RJ13 314 (6148914691236517205), Cond.constantLong RJ13 316 (3689348814741910323)]
def wsX3_bestFor_r3 : List Cond := [Cond.constantLong RJ13 318 (1085102592571150095), Cond.methodLink RX3 208 yX2_add, Cond.instanceMethod yX2_add, Cond.selects RX2 yX2_add yX2_add, Cond.code yX2_add cX2_add 3 none, Cond.fieldLink RX2 9 "GuessMarks$Parting" "marks" "[I", Cond.methodLink RX2 34 Lib.Math.max.name, Cond.static Lib.Math.max.name, Cond.initialized "java/lang/Math", Cond.code Lib.Math.max.name Lib.Math.max.code 2 (some .int), Cond.methodLink RX3 210 yX2_score, Cond.instanceMethod yX2_score, Cond.selects RX2 yX2_score yX2_score, Cond.code yX2_score cX2_score 2 (some .int), Cond.methodLink RX3 213 yX1_allBlack, Cond.instanceMethod yX1_allBlack, Cond.selects RX1 yX1_allBlack yX1_allBlack, Cond.code yX1_allBlack cX1_allBlack 1 (some .int), Cond.methodLink RX3 172 yX2_sizeWith, Cond.instanceMethod yX2_sizeWith, Cond.selects RX2 yX2_sizeWith yX2_sizeWith, Cond.code yX2_sizeWith cX2_sizeWith 2 (some .int)]
def wsX3_bestFor : List Cond := .code yX3_bestFor cX3_bestFor 12 (some .int) :: ((wsX3_bestFor_r1 ++ (wsX3_bestFor_r2 ++ wsX3_bestFor_r3)) ++ wsX30 ++ wsX10 ++ wsX20)
def wsX3_bestGuess_r1 : List Cond := [Cond.classLink RX3 46 "java/lang/IllegalArgumentException", Cond.initialized "java/lang/IllegalArgumentException", Cond.classLink RX3 87 "java/lang/IllegalStateException", Cond.initialized "java/lang/IllegalStateException", Cond.fieldLink RX3 133 "GuessMarks" "leftCount" "I", Cond.fieldLink RX3 32 "GuessMarks" "rowsLeft" "[I", Cond.methodLink RX3 185 yX3_bestFor, Cond.instanceMethod yX3_bestFor, Cond.selects RX3 yX3_bestFor yX3_bestFor, Cond.initialized RX3, Cond.code yX3_bestFor cX3_bestFor 12 (some .int), Cond.fieldLink RX3 12 "GuessMarks" "game" "LGuessMarks$Game;", Cond.fieldLink RX3 53 "GuessMarks$Game" "rows" "I", Cond.fieldLink RX3 28 "GuessMarks" "parting" "LGuessMarks$Parting;", Cond.methodLink RX3 201 yX3_partRows, Cond.instanceMethod yX3_partRows, Cond.selects RX3 yX3_partRows yX3_partRows, Cond.code yX3_partRows cX3_partRows 6 none, Cond.methodLink RX3 205 yX2_clear, Cond.instanceMethod yX2_clear, Cond.selects RX2 yX2_clear yX2_clear, Cond.initialized RX2, Cond.code yX2_clear cX2_clear 1 none, Cond.fieldLink RX2 18 "GuessMarks$Parting" "count" "I"]
def wsX3_bestGuess_r2 : List Cond := [Cond.fieldLink RX2 22 "GuessMarks$Parting" "greatest" "I", Cond.fieldLink RX2 25 "GuessMarks$Parting" "squares" "I", Cond.fieldLink RX2 15 "GuessMarks$Parting" "sizes" "[I", Cond.methodLink RX2 28 yJ7_fill_53178, Cond.static yJ7_fill_53178, Cond.initialized RJ7, Cond.code yJ7_fill_53178 cJ7_fill_53178 4 none, Cond.methodLink RX3 75 yX1_compare, Cond.instanceMethod yX1_compare, Cond.selects RX1 yX1_compare yX1_compare, Cond.initialized RX1, Cond.code yX1_compare cX1_compare 7 (some .int), Cond.fieldLink RX1 9 "GuessMarks$Game" "colourBits" "[I", Cond.constant RX1 43 (2396745), Cond.fieldLink RX1 19 "GuessMarks$Game" "places" "I", Cond.fieldLink RX1 15 "GuessMarks$Game" "pinBits" "[J", Cond.methodLink RX1 37 yX1_has, Cond.instanceMethod yX1_has, Cond.selects RX1 yX1_has yX1_has, Cond.code yX1_has cX1_has 2 (some .boolean), Cond.fieldLink RX1 26 "GuessMarks$Game" "rows" "I", Cond.methodLink RX1 44 yJ6_bitCount_0f7a4, Cond.static yJ6_bitCount_0f7a4, Cond.initialized RJ6]
def wsX3_bestGuess_r3 : List Cond := [Cond.code yJ6_bitCount_0f7a4 cJ6_bitCount_0f7a4 1 (some .int), Cond.constant RJ6 265 (1431655765), Cond.constant RJ6 266 (858993459), Cond.constant RJ6 267 (252645135), Cond.methodLink RX1 50 yJ13_bitCount_95d88, Cond.static yJ13_bitCount_95d88, Cond.initialized RJ13, Cond.code yJ13_bitCount_95d88 cJ13_bitCount_95d88 2 (some .int), Cond.constantLong RJ13 314 (6148914691236517205), Cond.constantLong RJ13 316 (3689348814741910323), Cond.constantLong RJ13 318 (1085102592571150095), Cond.methodLink RX3 208 yX2_add, Cond.instanceMethod yX2_add, Cond.selects RX2 yX2_add yX2_add, Cond.code yX2_add cX2_add 3 none, Cond.fieldLink RX2 9 "GuessMarks$Parting" "marks" "[I", Cond.methodLink RX2 34 Lib.Math.max.name, Cond.static Lib.Math.max.name, Cond.initialized "java/lang/Math", Cond.code Lib.Math.max.name Lib.Math.max.code 2 (some .int), Cond.methodLink RX3 210 yX2_score, Cond.instanceMethod yX2_score, Cond.selects RX2 yX2_score yX2_score, Cond.code yX2_score cX2_score 2 (some .int)]
def wsX3_bestGuess_r4 : List Cond := [Cond.methodLink RX3 213 yX1_allBlack, Cond.instanceMethod yX1_allBlack, Cond.selects RX1 yX1_allBlack yX1_allBlack, Cond.code yX1_allBlack cX1_allBlack 1 (some .int), Cond.methodLink RX3 172 yX2_sizeWith, Cond.instanceMethod yX2_sizeWith, Cond.selects RX2 yX2_sizeWith yX2_sizeWith, Cond.code yX2_sizeWith cX2_sizeWith 2 (some .int)]
def wsX3_bestGuess : List Cond := .code yX3_bestGuess cX3_bestGuess 2 (some .int) :: ((wsX3_bestGuess_r1 ++ (wsX3_bestGuess_r2 ++ (wsX3_bestGuess_r3 ++ wsX3_bestGuess_r4))) ++ wsX30 ++ wsX10 ++ wsX20 ++ (vx_atS RX3 50 "java/lang/IllegalArgumentException" ["java/lang/RuntimeException", "java/lang/Exception"]).filter goodWord ++ (vx_atS RX3 91 "java/lang/IllegalStateException" ["java/lang/RuntimeException", "java/lang/Exception"]).filter goodWord)
def wsX3_opensPart_r1 : List Cond := [Cond.fieldLink RX3 12 "GuessMarks" "game" "LGuessMarks$Game;", Cond.fieldLink RX3 36 "GuessMarks" "search" "[I", Cond.methodLink RX3 75 yX1_compare, Cond.instanceMethod yX1_compare, Cond.selects RX1 yX1_compare yX1_compare, Cond.initialized RX1, Cond.code yX1_compare cX1_compare 7 (some .int), Cond.fieldLink RX1 9 "GuessMarks$Game" "colourBits" "[I", Cond.constant RX1 43 (2396745), Cond.fieldLink RX1 19 "GuessMarks$Game" "places" "I", Cond.fieldLink RX1 15 "GuessMarks$Game" "pinBits" "[J", Cond.methodLink RX1 37 yX1_has, Cond.instanceMethod yX1_has, Cond.selects RX1 yX1_has yX1_has, Cond.code yX1_has cX1_has 2 (some .boolean), Cond.fieldLink RX1 26 "GuessMarks$Game" "rows" "I", Cond.methodLink RX1 44 yJ6_bitCount_0f7a4, Cond.static yJ6_bitCount_0f7a4, Cond.initialized RJ6, Cond.code yJ6_bitCount_0f7a4 cJ6_bitCount_0f7a4 1 (some .int), Cond.constant RJ6 265 (1431655765), Cond.constant RJ6 266 (858993459), Cond.constant RJ6 267 (252645135), Cond.methodLink RX1 50 yJ13_bitCount_95d88]
def wsX3_opensPart_r2 : List Cond := [Cond.static yJ13_bitCount_95d88, Cond.initialized RJ13, Cond.code yJ13_bitCount_95d88 cJ13_bitCount_95d88 2 (some .int), Cond.constantLong RJ13 314 (6148914691236517205), Cond.constantLong RJ13 316 (3689348814741910323), Cond.constantLong RJ13 318 (1085102592571150095)]
def wsX3_opensPart : List Cond := .code yX3_opensPart cX3_opensPart 6 (some .boolean) :: ((wsX3_opensPart_r1 ++ wsX3_opensPart_r2) ++ wsX30 ++ wsX10)
def wsX3_guessesFor_r1 : List Cond := [Cond.fieldLink RX3 36 "GuessMarks" "search" "[I", Cond.fieldLink RX3 12 "GuessMarks" "game" "LGuessMarks$Game;", Cond.methodLink RX3 225 Lib.Math.max.name, Cond.static Lib.Math.max.name, Cond.initialized "java/lang/Math", Cond.code Lib.Math.max.name Lib.Math.max.code 2 (some .int), Cond.methodLink RX3 185 yX3_bestFor, Cond.instanceMethod yX3_bestFor, Cond.selects RX3 yX3_bestFor yX3_bestFor, Cond.initialized RX3, Cond.code yX3_bestFor cX3_bestFor 12 (some .int), Cond.fieldLink RX3 53 "GuessMarks$Game" "rows" "I", Cond.fieldLink RX3 28 "GuessMarks" "parting" "LGuessMarks$Parting;", Cond.methodLink RX3 201 yX3_partRows, Cond.instanceMethod yX3_partRows, Cond.selects RX3 yX3_partRows yX3_partRows, Cond.code yX3_partRows cX3_partRows 6 none, Cond.methodLink RX3 205 yX2_clear, Cond.instanceMethod yX2_clear, Cond.selects RX2 yX2_clear yX2_clear, Cond.initialized RX2, Cond.code yX2_clear cX2_clear 1 none, Cond.fieldLink RX2 18 "GuessMarks$Parting" "count" "I", Cond.fieldLink RX2 22 "GuessMarks$Parting" "greatest" "I"]
def wsX3_guessesFor_r2 : List Cond := [Cond.fieldLink RX2 25 "GuessMarks$Parting" "squares" "I", Cond.fieldLink RX2 15 "GuessMarks$Parting" "sizes" "[I", Cond.methodLink RX2 28 yJ7_fill_53178, Cond.static yJ7_fill_53178, Cond.initialized RJ7, Cond.code yJ7_fill_53178 cJ7_fill_53178 4 none, Cond.methodLink RX3 75 yX1_compare, Cond.instanceMethod yX1_compare, Cond.selects RX1 yX1_compare yX1_compare, Cond.initialized RX1, Cond.code yX1_compare cX1_compare 7 (some .int), Cond.fieldLink RX1 9 "GuessMarks$Game" "colourBits" "[I", Cond.constant RX1 43 (2396745), Cond.fieldLink RX1 19 "GuessMarks$Game" "places" "I", Cond.fieldLink RX1 15 "GuessMarks$Game" "pinBits" "[J", Cond.methodLink RX1 37 yX1_has, Cond.instanceMethod yX1_has, Cond.selects RX1 yX1_has yX1_has, Cond.code yX1_has cX1_has 2 (some .boolean), Cond.fieldLink RX1 26 "GuessMarks$Game" "rows" "I", Cond.methodLink RX1 44 yJ6_bitCount_0f7a4, Cond.static yJ6_bitCount_0f7a4, Cond.initialized RJ6, Cond.code yJ6_bitCount_0f7a4 cJ6_bitCount_0f7a4 1 (some .int)]
def wsX3_guessesFor_r3 : List Cond := [Cond.constant RJ6 265 (1431655765), Cond.constant RJ6 266 (858993459), Cond.constant RJ6 267 (252645135), Cond.methodLink RX1 50 yJ13_bitCount_95d88, Cond.static yJ13_bitCount_95d88, Cond.initialized RJ13, Cond.code yJ13_bitCount_95d88 cJ13_bitCount_95d88 2 (some .int), Cond.constantLong RJ13 314 (6148914691236517205), Cond.constantLong RJ13 316 (3689348814741910323), Cond.constantLong RJ13 318 (1085102592571150095), Cond.methodLink RX3 208 yX2_add, Cond.instanceMethod yX2_add, Cond.selects RX2 yX2_add yX2_add, Cond.code yX2_add cX2_add 3 none, Cond.fieldLink RX2 9 "GuessMarks$Parting" "marks" "[I", Cond.methodLink RX2 34 Lib.Math.max.name, Cond.methodLink RX3 210 yX2_score, Cond.instanceMethod yX2_score, Cond.selects RX2 yX2_score yX2_score, Cond.code yX2_score cX2_score 2 (some .int), Cond.methodLink RX3 213 yX1_allBlack, Cond.instanceMethod yX1_allBlack, Cond.selects RX1 yX1_allBlack yX1_allBlack, Cond.code yX1_allBlack cX1_allBlack 1 (some .int)]
def wsX3_guessesFor_r4 : List Cond := [Cond.methodLink RX3 172 yX2_sizeWith, Cond.instanceMethod yX2_sizeWith, Cond.selects RX2 yX2_sizeWith yX2_sizeWith, Cond.code yX2_sizeWith cX2_sizeWith 2 (some .int), Cond.methodLink RX3 217 yX3_opensPart, Cond.instanceMethod yX3_opensPart, Cond.selects RX3 yX3_opensPart yX3_opensPart, Cond.code yX3_opensPart cX3_opensPart 6 (some .boolean), Cond.methodLink RX3 221 yX3_guessesForPart, Cond.instanceMethod yX3_guessesForPart, Cond.selects RX3 yX3_guessesForPart yX3_guessesForPart, Cond.code yX3_guessesForPart cX3_guessesForPart 9 (some .int), Cond.methodLink RX3 197 yX3_guessesFor, Cond.instanceMethod yX3_guessesFor, Cond.selects RX3 yX3_guessesFor yX3_guessesFor]
def wsX3_guessesFor : List Cond := .code yX3_guessesFor cX3_guessesFor 8 (some .int) :: ((wsX3_guessesFor_r1 ++ (wsX3_guessesFor_r2 ++ (wsX3_guessesFor_r3 ++ wsX3_guessesFor_r4))) ++ wsX30 ++ wsX10 ++ wsX20)
def wsX3_guessesForPart_r1 : List Cond := [Cond.fieldLink RX3 36 "GuessMarks" "search" "[I", Cond.fieldLink RX3 12 "GuessMarks" "game" "LGuessMarks$Game;", Cond.methodLink RX3 75 yX1_compare, Cond.instanceMethod yX1_compare, Cond.selects RX1 yX1_compare yX1_compare, Cond.initialized RX1, Cond.code yX1_compare cX1_compare 7 (some .int), Cond.fieldLink RX1 9 "GuessMarks$Game" "colourBits" "[I", Cond.constant RX1 43 (2396745), Cond.fieldLink RX1 19 "GuessMarks$Game" "places" "I", Cond.fieldLink RX1 15 "GuessMarks$Game" "pinBits" "[J", Cond.methodLink RX1 37 yX1_has, Cond.instanceMethod yX1_has, Cond.selects RX1 yX1_has yX1_has, Cond.code yX1_has cX1_has 2 (some .boolean), Cond.fieldLink RX1 26 "GuessMarks$Game" "rows" "I", Cond.methodLink RX1 44 yJ6_bitCount_0f7a4, Cond.static yJ6_bitCount_0f7a4, Cond.initialized RJ6, Cond.code yJ6_bitCount_0f7a4 cJ6_bitCount_0f7a4 1 (some .int), Cond.constant RJ6 265 (1431655765), Cond.constant RJ6 266 (858993459), Cond.constant RJ6 267 (252645135), Cond.methodLink RX1 50 yJ13_bitCount_95d88]
def wsX3_guessesForPart_r2 : List Cond := [Cond.static yJ13_bitCount_95d88, Cond.initialized RJ13, Cond.code yJ13_bitCount_95d88 cJ13_bitCount_95d88 2 (some .int), Cond.constantLong RJ13 314 (6148914691236517205), Cond.constantLong RJ13 316 (3689348814741910323), Cond.constantLong RJ13 318 (1085102592571150095), Cond.methodLink RX3 197 yX3_guessesFor, Cond.instanceMethod yX3_guessesFor, Cond.selects RX3 yX3_guessesFor yX3_guessesFor, Cond.initialized RX3, Cond.code yX3_guessesFor cX3_guessesFor 8 (some .int), Cond.methodLink RX3 225 Lib.Math.max.name, Cond.static Lib.Math.max.name, Cond.initialized "java/lang/Math", Cond.code Lib.Math.max.name Lib.Math.max.code 2 (some .int), Cond.methodLink RX3 185 yX3_bestFor, Cond.instanceMethod yX3_bestFor, Cond.selects RX3 yX3_bestFor yX3_bestFor, Cond.code yX3_bestFor cX3_bestFor 12 (some .int), Cond.fieldLink RX3 53 "GuessMarks$Game" "rows" "I", Cond.fieldLink RX3 28 "GuessMarks" "parting" "LGuessMarks$Parting;", Cond.methodLink RX3 201 yX3_partRows, Cond.instanceMethod yX3_partRows, Cond.selects RX3 yX3_partRows yX3_partRows]
def wsX3_guessesForPart_r3 : List Cond := [Cond.code yX3_partRows cX3_partRows 6 none, Cond.methodLink RX3 205 yX2_clear, Cond.instanceMethod yX2_clear, Cond.selects RX2 yX2_clear yX2_clear, Cond.initialized RX2, Cond.code yX2_clear cX2_clear 1 none, Cond.fieldLink RX2 18 "GuessMarks$Parting" "count" "I", Cond.fieldLink RX2 22 "GuessMarks$Parting" "greatest" "I", Cond.fieldLink RX2 25 "GuessMarks$Parting" "squares" "I", Cond.fieldLink RX2 15 "GuessMarks$Parting" "sizes" "[I", Cond.methodLink RX2 28 yJ7_fill_53178, Cond.static yJ7_fill_53178, Cond.initialized RJ7, Cond.code yJ7_fill_53178 cJ7_fill_53178 4 none, Cond.methodLink RX3 208 yX2_add, Cond.instanceMethod yX2_add, Cond.selects RX2 yX2_add yX2_add, Cond.code yX2_add cX2_add 3 none, Cond.fieldLink RX2 9 "GuessMarks$Parting" "marks" "[I", Cond.methodLink RX2 34 Lib.Math.max.name, Cond.methodLink RX3 210 yX2_score, Cond.instanceMethod yX2_score, Cond.selects RX2 yX2_score yX2_score, Cond.code yX2_score cX2_score 2 (some .int)]
def wsX3_guessesForPart_r4 : List Cond := [Cond.methodLink RX3 213 yX1_allBlack, Cond.instanceMethod yX1_allBlack, Cond.selects RX1 yX1_allBlack yX1_allBlack, Cond.code yX1_allBlack cX1_allBlack 1 (some .int), Cond.methodLink RX3 172 yX2_sizeWith, Cond.instanceMethod yX2_sizeWith, Cond.selects RX2 yX2_sizeWith yX2_sizeWith, Cond.code yX2_sizeWith cX2_sizeWith 2 (some .int), Cond.methodLink RX3 217 yX3_opensPart, Cond.instanceMethod yX3_opensPart, Cond.selects RX3 yX3_opensPart yX3_opensPart, Cond.code yX3_opensPart cX3_opensPart 6 (some .boolean), Cond.methodLink RX3 221 yX3_guessesForPart, Cond.instanceMethod yX3_guessesForPart, Cond.selects RX3 yX3_guessesForPart yX3_guessesForPart]
def wsX3_guessesForPart : List Cond := .code yX3_guessesForPart cX3_guessesForPart 9 (some .int) :: ((wsX3_guessesForPart_r1 ++ (wsX3_guessesForPart_r2 ++ (wsX3_guessesForPart_r3 ++ wsX3_guessesForPart_r4))) ++ wsX30 ++ wsX10 ++ wsX20)
def wsX3_guessesNeeded_r1 : List Cond := [Cond.classLink RX3 87 "java/lang/IllegalStateException", Cond.initialized "java/lang/IllegalStateException", Cond.fieldLink RX3 133 "GuessMarks" "leftCount" "I", Cond.fieldLink RX3 32 "GuessMarks" "rowsLeft" "[I", Cond.fieldLink RX3 36 "GuessMarks" "search" "[I", Cond.methodLink RX3 191 arraycopyName, Cond.native arraycopyName, Cond.static arraycopyName, Cond.initialized "java/lang/System", Cond.methodLink RX3 197 yX3_guessesFor, Cond.instanceMethod yX3_guessesFor, Cond.selects RX3 yX3_guessesFor yX3_guessesFor, Cond.initialized RX3, Cond.code yX3_guessesFor cX3_guessesFor 8 (some .int), Cond.fieldLink RX3 12 "GuessMarks" "game" "LGuessMarks$Game;", Cond.methodLink RX3 225 Lib.Math.max.name, Cond.static Lib.Math.max.name, Cond.initialized "java/lang/Math", Cond.code Lib.Math.max.name Lib.Math.max.code 2 (some .int), Cond.methodLink RX3 185 yX3_bestFor, Cond.instanceMethod yX3_bestFor, Cond.selects RX3 yX3_bestFor yX3_bestFor, Cond.code yX3_bestFor cX3_bestFor 12 (some .int), Cond.fieldLink RX3 53 "GuessMarks$Game" "rows" "I"]
def wsX3_guessesNeeded_r2 : List Cond := [Cond.fieldLink RX3 28 "GuessMarks" "parting" "LGuessMarks$Parting;", Cond.methodLink RX3 201 yX3_partRows, Cond.instanceMethod yX3_partRows, Cond.selects RX3 yX3_partRows yX3_partRows, Cond.code yX3_partRows cX3_partRows 6 none, Cond.methodLink RX3 205 yX2_clear, Cond.instanceMethod yX2_clear, Cond.selects RX2 yX2_clear yX2_clear, Cond.initialized RX2, Cond.code yX2_clear cX2_clear 1 none, Cond.fieldLink RX2 18 "GuessMarks$Parting" "count" "I", Cond.fieldLink RX2 22 "GuessMarks$Parting" "greatest" "I", Cond.fieldLink RX2 25 "GuessMarks$Parting" "squares" "I", Cond.fieldLink RX2 15 "GuessMarks$Parting" "sizes" "[I", Cond.methodLink RX2 28 yJ7_fill_53178, Cond.static yJ7_fill_53178, Cond.initialized RJ7, Cond.code yJ7_fill_53178 cJ7_fill_53178 4 none, Cond.methodLink RX3 75 yX1_compare, Cond.instanceMethod yX1_compare, Cond.selects RX1 yX1_compare yX1_compare, Cond.initialized RX1, Cond.code yX1_compare cX1_compare 7 (some .int), Cond.fieldLink RX1 9 "GuessMarks$Game" "colourBits" "[I"]
def wsX3_guessesNeeded_r3 : List Cond := [Cond.constant RX1 43 (2396745), Cond.fieldLink RX1 19 "GuessMarks$Game" "places" "I", Cond.fieldLink RX1 15 "GuessMarks$Game" "pinBits" "[J", Cond.methodLink RX1 37 yX1_has, Cond.instanceMethod yX1_has, Cond.selects RX1 yX1_has yX1_has, Cond.code yX1_has cX1_has 2 (some .boolean), Cond.fieldLink RX1 26 "GuessMarks$Game" "rows" "I", Cond.methodLink RX1 44 yJ6_bitCount_0f7a4, Cond.static yJ6_bitCount_0f7a4, Cond.initialized RJ6, Cond.code yJ6_bitCount_0f7a4 cJ6_bitCount_0f7a4 1 (some .int), Cond.constant RJ6 265 (1431655765), Cond.constant RJ6 266 (858993459), Cond.constant RJ6 267 (252645135), Cond.methodLink RX1 50 yJ13_bitCount_95d88, Cond.static yJ13_bitCount_95d88, Cond.initialized RJ13, Cond.code yJ13_bitCount_95d88 cJ13_bitCount_95d88 2 (some .int), Cond.constantLong RJ13 314 (6148914691236517205), Cond.constantLong RJ13 316 (3689348814741910323), Cond.constantLong RJ13 318 (1085102592571150095), Cond.methodLink RX3 208 yX2_add, Cond.instanceMethod yX2_add]
def wsX3_guessesNeeded_r4 : List Cond := [Cond.selects RX2 yX2_add yX2_add, Cond.code yX2_add cX2_add 3 none, Cond.fieldLink RX2 9 "GuessMarks$Parting" "marks" "[I", Cond.methodLink RX2 34 Lib.Math.max.name, Cond.methodLink RX3 210 yX2_score, Cond.instanceMethod yX2_score, Cond.selects RX2 yX2_score yX2_score, Cond.code yX2_score cX2_score 2 (some .int), Cond.methodLink RX3 213 yX1_allBlack, Cond.instanceMethod yX1_allBlack, Cond.selects RX1 yX1_allBlack yX1_allBlack, Cond.code yX1_allBlack cX1_allBlack 1 (some .int), Cond.methodLink RX3 172 yX2_sizeWith, Cond.instanceMethod yX2_sizeWith, Cond.selects RX2 yX2_sizeWith yX2_sizeWith, Cond.code yX2_sizeWith cX2_sizeWith 2 (some .int), Cond.methodLink RX3 217 yX3_opensPart, Cond.instanceMethod yX3_opensPart, Cond.selects RX3 yX3_opensPart yX3_opensPart, Cond.code yX3_opensPart cX3_opensPart 6 (some .boolean), Cond.methodLink RX3 221 yX3_guessesForPart, Cond.instanceMethod yX3_guessesForPart, Cond.selects RX3 yX3_guessesForPart yX3_guessesForPart, Cond.code yX3_guessesForPart cX3_guessesForPart 9 (some .int)]
def wsX3_guessesNeeded : List Cond := .code yX3_guessesNeeded cX3_guessesNeeded 1 (some .int) :: ((wsX3_guessesNeeded_r1 ++ (wsX3_guessesNeeded_r2 ++ (wsX3_guessesNeeded_r3 ++ wsX3_guessesNeeded_r4))) ++ wsX30 ++ wsX10 ++ wsX20 ++ (vx_atS RX3 91 "java/lang/IllegalStateException" ["java/lang/RuntimeException", "java/lang/Exception"]).filter goodWord)
def wsX3_leavesOne : List Cond := .code yX3_leavesOne cX3_leavesOne 4 (some .boolean) :: ([.fieldLink RX3 12 "GuessMarks" "game" "LGuessMarks$Game;", .fieldLink RX3 53 "GuessMarks$Game" "rows" "I", .fieldLink RX3 21 "GuessMarks" "told" "LGuessMarks$Entries;", .fieldLink RX3 92 "GuessMarks" "liesAllowed" "I", .methodLink RX3 249 yX0_countLiesIn, .instanceMethod yX0_countLiesIn, .selects RX0 yX0_countLiesIn yX0_countLiesIn, .initialized RX0, .code yX0_countLiesIn cX0_countLiesIn 3 (some .int), .fieldLink RX0 21 "GuessMarks$Entries" "game" "LGuessMarks$Game;", .fieldLink RX0 18 "GuessMarks$Entries" "lieBits" "[I", .methodLink RX0 59 yX1_has, .instanceMethod yX1_has, .selects RX1 yX1_has yX1_has, .initialized RX1, .code yX1_has cX1_has 2 (some .boolean), .fieldLink RX1 26 "GuessMarks$Game" "rows" "I", .methodLink RX0 60 yJ6_bitCount_0f7a4, .static yJ6_bitCount_0f7a4, .initialized RJ6, .code yJ6_bitCount_0f7a4 cJ6_bitCount_0f7a4 1 (some .int), .constant RJ6 265 (1431655765), .constant RJ6 266 (858993459), .constant RJ6 267 (252645135)] ++ wsX30 ++ wsX10 ++ wsX00)
def wsX3_shortestProof_r1 : List Cond := [Cond.fieldLink RX3 21 "GuessMarks" "told" "LGuessMarks$Entries;", Cond.methodLink RX3 243 yX0_allBits, Cond.instanceMethod yX0_allBits, Cond.selects RX0 yX0_allBits yX0_allBits, Cond.initialized RX0, Cond.code yX0_allBits cX0_allBits 1 (some .int), Cond.fieldLink RX0 25 "GuessMarks$Entries" "count" "I", Cond.methodLink RX3 233 yJ6_bitCount_0f7a4, Cond.static yJ6_bitCount_0f7a4, Cond.initialized RJ6, Cond.code yJ6_bitCount_0f7a4 cJ6_bitCount_0f7a4 1 (some .int), Cond.constant RJ6 265 (1431655765), Cond.constant RJ6 266 (858993459), Cond.constant RJ6 267 (252645135), Cond.methodLink RX3 246 yX3_leavesOne, Cond.instanceMethod yX3_leavesOne, Cond.selects RX3 yX3_leavesOne yX3_leavesOne, Cond.initialized RX3, Cond.code yX3_leavesOne cX3_leavesOne 4 (some .boolean), Cond.fieldLink RX3 12 "GuessMarks" "game" "LGuessMarks$Game;", Cond.fieldLink RX3 53 "GuessMarks$Game" "rows" "I", Cond.fieldLink RX3 92 "GuessMarks" "liesAllowed" "I", Cond.methodLink RX3 249 yX0_countLiesIn, Cond.instanceMethod yX0_countLiesIn]
def wsX3_shortestProof_r2 : List Cond := [Cond.selects RX0 yX0_countLiesIn yX0_countLiesIn, Cond.code yX0_countLiesIn cX0_countLiesIn 3 (some .int), Cond.fieldLink RX0 21 "GuessMarks$Entries" "game" "LGuessMarks$Game;", Cond.fieldLink RX0 18 "GuessMarks$Entries" "lieBits" "[I", Cond.methodLink RX0 59 yX1_has, Cond.instanceMethod yX1_has, Cond.selects RX1 yX1_has yX1_has, Cond.initialized RX1, Cond.code yX1_has cX1_has 2 (some .boolean), Cond.fieldLink RX1 26 "GuessMarks$Game" "rows" "I", Cond.methodLink RX0 60 yJ6_bitCount_0f7a4]
def wsX3_shortestProof : List Cond := .code yX3_shortestProof cX3_shortestProof 3 (some .int) :: ((wsX3_shortestProof_r1 ++ wsX3_shortestProof_r2) ++ wsX30 ++ wsX00 ++ wsX10)
def wsX3_proofSize_r1 : List Cond := [Cond.fieldLink RX3 133 "GuessMarks" "leftCount" "I", Cond.methodLink RX3 230 yX3_shortestProof, Cond.instanceMethod yX3_shortestProof, Cond.selects RX3 yX3_shortestProof yX3_shortestProof, Cond.initialized RX3, Cond.code yX3_shortestProof cX3_shortestProof 3 (some .int), Cond.fieldLink RX3 21 "GuessMarks" "told" "LGuessMarks$Entries;", Cond.methodLink RX3 243 yX0_allBits, Cond.instanceMethod yX0_allBits, Cond.selects RX0 yX0_allBits yX0_allBits, Cond.initialized RX0, Cond.code yX0_allBits cX0_allBits 1 (some .int), Cond.fieldLink RX0 25 "GuessMarks$Entries" "count" "I", Cond.methodLink RX3 233 yJ6_bitCount_0f7a4, Cond.static yJ6_bitCount_0f7a4, Cond.initialized RJ6, Cond.code yJ6_bitCount_0f7a4 cJ6_bitCount_0f7a4 1 (some .int), Cond.constant RJ6 265 (1431655765), Cond.constant RJ6 266 (858993459), Cond.constant RJ6 267 (252645135), Cond.methodLink RX3 246 yX3_leavesOne, Cond.instanceMethod yX3_leavesOne, Cond.selects RX3 yX3_leavesOne yX3_leavesOne, Cond.code yX3_leavesOne cX3_leavesOne 4 (some .boolean)]
def wsX3_proofSize_r2 : List Cond := [Cond.fieldLink RX3 12 "GuessMarks" "game" "LGuessMarks$Game;", Cond.fieldLink RX3 53 "GuessMarks$Game" "rows" "I", Cond.fieldLink RX3 92 "GuessMarks" "liesAllowed" "I", Cond.methodLink RX3 249 yX0_countLiesIn, Cond.instanceMethod yX0_countLiesIn, Cond.selects RX0 yX0_countLiesIn yX0_countLiesIn, Cond.code yX0_countLiesIn cX0_countLiesIn 3 (some .int), Cond.fieldLink RX0 21 "GuessMarks$Entries" "game" "LGuessMarks$Game;", Cond.fieldLink RX0 18 "GuessMarks$Entries" "lieBits" "[I", Cond.methodLink RX0 59 yX1_has, Cond.instanceMethod yX1_has, Cond.selects RX1 yX1_has yX1_has, Cond.initialized RX1, Cond.code yX1_has cX1_has 2 (some .boolean), Cond.fieldLink RX1 26 "GuessMarks$Game" "rows" "I", Cond.methodLink RX0 60 yJ6_bitCount_0f7a4]
def wsX3_proofSize : List Cond := .code yX3_proofSize cX3_proofSize 1 (some .int) :: ((wsX3_proofSize_r1 ++ wsX3_proofSize_r2) ++ wsX30 ++ wsX00 ++ wsX10)
def wsX3_isInProof_r1 : List Cond := [Cond.classLink RX3 87 "java/lang/IllegalStateException", Cond.initialized "java/lang/IllegalStateException", Cond.fieldLink RX3 133 "GuessMarks" "leftCount" "I", Cond.fieldLink RX3 21 "GuessMarks" "told" "LGuessMarks$Entries;", Cond.methodLink RX3 144 yX3_requireEntry, Cond.instanceMethod yX3_requireEntry, Cond.selects RX3 yX3_requireEntry yX3_requireEntry, Cond.initialized RX3, Cond.code yX3_requireEntry cX3_requireEntry 2 none, Cond.classLink RX3 64 "java/lang/IndexOutOfBoundsException", Cond.initialized "java/lang/IndexOutOfBoundsException", Cond.methodLink RX3 153 yX0_has, Cond.instanceMethod yX0_has, Cond.selects RX0 yX0_has yX0_has, Cond.initialized RX0, Cond.code yX0_has cX0_has 2 (some .boolean), Cond.fieldLink RX0 25 "GuessMarks$Entries" "count" "I", Cond.methodLink RX3 230 yX3_shortestProof, Cond.instanceMethod yX3_shortestProof, Cond.selects RX3 yX3_shortestProof yX3_shortestProof, Cond.code yX3_shortestProof cX3_shortestProof 3 (some .int), Cond.methodLink RX3 243 yX0_allBits, Cond.instanceMethod yX0_allBits, Cond.selects RX0 yX0_allBits yX0_allBits]
def wsX3_isInProof_r2 : List Cond := [Cond.code yX0_allBits cX0_allBits 1 (some .int), Cond.methodLink RX3 233 yJ6_bitCount_0f7a4, Cond.static yJ6_bitCount_0f7a4, Cond.initialized RJ6, Cond.code yJ6_bitCount_0f7a4 cJ6_bitCount_0f7a4 1 (some .int), Cond.constant RJ6 265 (1431655765), Cond.constant RJ6 266 (858993459), Cond.constant RJ6 267 (252645135), Cond.methodLink RX3 246 yX3_leavesOne, Cond.instanceMethod yX3_leavesOne, Cond.selects RX3 yX3_leavesOne yX3_leavesOne, Cond.code yX3_leavesOne cX3_leavesOne 4 (some .boolean), Cond.fieldLink RX3 12 "GuessMarks" "game" "LGuessMarks$Game;", Cond.fieldLink RX3 53 "GuessMarks$Game" "rows" "I", Cond.fieldLink RX3 92 "GuessMarks" "liesAllowed" "I", Cond.methodLink RX3 249 yX0_countLiesIn, Cond.instanceMethod yX0_countLiesIn, Cond.selects RX0 yX0_countLiesIn yX0_countLiesIn, Cond.code yX0_countLiesIn cX0_countLiesIn 3 (some .int), Cond.fieldLink RX0 21 "GuessMarks$Entries" "game" "LGuessMarks$Game;", Cond.fieldLink RX0 18 "GuessMarks$Entries" "lieBits" "[I", Cond.methodLink RX0 59 yX1_has, Cond.instanceMethod yX1_has, Cond.selects RX1 yX1_has yX1_has]
def wsX3_isInProof_r3 : List Cond := [Cond.initialized RX1, Cond.code yX1_has cX1_has 2 (some .boolean), Cond.fieldLink RX1 26 "GuessMarks$Game" "rows" "I", Cond.methodLink RX0 60 yJ6_bitCount_0f7a4, Cond.methodLink RX3 240 yX0_bitOf, Cond.instanceMethod yX0_bitOf, Cond.selects RX0 yX0_bitOf yX0_bitOf, Cond.code yX0_bitOf cX0_bitOf 2 (some .int), Cond.methodLink RX0 35 yX0_has]
def wsX3_isInProof : List Cond := .code yX3_isInProof cX3_isInProof 2 (some .boolean) :: ((wsX3_isInProof_r1 ++ (wsX3_isInProof_r2 ++ wsX3_isInProof_r3)) ++ wsX30 ++ wsX00 ++ wsX10 ++ (vx_atS RX3 91 "java/lang/IllegalStateException" ["java/lang/RuntimeException", "java/lang/Exception"]).filter goodWord ++ (vx_atS RX3 68 "java/lang/IndexOutOfBoundsException" ["java/lang/RuntimeException", "java/lang/Exception"]).filter goodWord)
def wsX4_init : List Cond := .code yX4_init cX4_init 1 none :: ([.methodLink RX4 1 objectInit, .instanceMethod objectInit, .code objectInit ⟨#[0xb1]⟩ 1 none, .fieldLink RX4 7 "GuessMarksModel" "places" "I", .fieldLink RX4 13 "GuessMarksModel" "colours" "I", .fieldLink RX4 16 "GuessMarksModel" "rows" "I", .fieldLink RX4 19 "GuessMarksModel" "hidden" "I", .arrayClass .int, .fieldLink RX4 22 "GuessMarksModel" "guess" "[I", .fieldLink RX4 26 "GuessMarksModel" "told" "[I", .fieldLink RX4 29 "GuessMarksModel" "has" "[I", .fieldLink RX4 32 "GuessMarksModel" "size" "[I", .fieldLink RX4 35 "GuessMarksModel" "set" "[I", .fieldLink RX4 38 "GuessMarksModel" "from" "[I", .fieldLink RX4 41 "GuessMarksModel" "many" "[I", .fieldLink RX4 44 "GuessMarksModel" "depth" "[I", .fieldLink RX4 47 "GuessMarksModel" "lieSets" "[I"] ++ wsX40)
def wsX4_thrown : List Cond := .code yX4_thrown cX4_thrown 1 (some .int) :: ([.fieldLink RX4 50 "GuessMarksModel" "thrown" "I"] ++ wsX40)
def wsX4_in : List Cond := .code yX4_in cX4_in 3 (some .boolean) :: ([])
def wsX4_isRow : List Cond := .code yX4_isRow cX4_isRow 2 (some .boolean) :: ([.fieldLink RX4 16 "GuessMarksModel" "rows" "I", .methodLink RX4 53 yX4_in, .static yX4_in, .initialized RX4, .code yX4_in cX4_in 3 (some .boolean)] ++ wsX40)
def wsX4_power : List Cond := .code yX4_power cX4_power 4 (some .int) :: ([])
def wsX4_begin : List Cond := .code yX4_begin cX4_begin 3 (some .int) :: ([.fieldLink RX4 50 "GuessMarksModel" "thrown" "I", .fieldLink RX4 7 "GuessMarksModel" "places" "I", .fieldLink RX4 13 "GuessMarksModel" "colours" "I", .fieldLink RX4 16 "GuessMarksModel" "rows" "I", .fieldLink RX4 61 "GuessMarksModel" "allowed" "I", .fieldLink RX4 19 "GuessMarksModel" "hidden" "I", .fieldLink RX4 64 "GuessMarksModel" "entries" "I", .methodLink RX4 53 yX4_in, .static yX4_in, .initialized RX4, .code yX4_in cX4_in 3 (some .boolean), .methodLink RX4 57 yX4_power, .static yX4_power, .code yX4_power cX4_power 4 (some .int)] ++ wsX40)
def wsX4_rows : List Cond := .code yX4_rows cX4_rows 1 (some .int) :: ([.fieldLink RX4 50 "GuessMarksModel" "thrown" "I", .fieldLink RX4 16 "GuessMarksModel" "rows" "I"] ++ wsX40)
def wsX4_colour : List Cond := .code yX4_colour cX4_colour 3 (some .int) :: ([.fieldLink RX4 13 "GuessMarksModel" "colours" "I", .fieldLink RX4 7 "GuessMarksModel" "places" "I", .methodLink RX4 57 yX4_power, .static yX4_power, .initialized RX4, .code yX4_power cX4_power 4 (some .int)] ++ wsX40)
def wsX4_colourAt : List Cond := .code yX4_colourAt cX4_colourAt 3 (some .int) :: ([.fieldLink RX4 7 "GuessMarksModel" "places" "I", .fieldLink RX4 50 "GuessMarksModel" "thrown" "I", .methodLink RX4 67 yX4_isRow, .instanceMethod yX4_isRow, .selects RX4 yX4_isRow yX4_isRow, .initialized RX4, .code yX4_isRow cX4_isRow 2 (some .boolean), .fieldLink RX4 16 "GuessMarksModel" "rows" "I", .methodLink RX4 53 yX4_in, .static yX4_in, .code yX4_in cX4_in 3 (some .boolean), .methodLink RX4 71 yX4_colour, .instanceMethod yX4_colour, .selects RX4 yX4_colour yX4_colour, .code yX4_colour cX4_colour 3 (some .int), .fieldLink RX4 13 "GuessMarksModel" "colours" "I", .methodLink RX4 57 yX4_power, .static yX4_power, .code yX4_power cX4_power 4 (some .int)] ++ wsX40)
def wsX4_markOfRows : List Cond := .code yX4_markOfRows cX4_markOfRows 8 (some .int) :: ([.fieldLink RX4 13 "GuessMarksModel" "colours" "I", .fieldLink RX4 29 "GuessMarksModel" "has" "[I", .fieldLink RX4 7 "GuessMarksModel" "places" "I"] ++ wsX40)
def wsX4_mark : List Cond := .code yX4_mark cX4_mark 3 (some .int) :: ([.fieldLink RX4 50 "GuessMarksModel" "thrown" "I", .methodLink RX4 67 yX4_isRow, .instanceMethod yX4_isRow, .selects RX4 yX4_isRow yX4_isRow, .initialized RX4, .code yX4_isRow cX4_isRow 2 (some .boolean), .fieldLink RX4 16 "GuessMarksModel" "rows" "I", .methodLink RX4 53 yX4_in, .static yX4_in, .code yX4_in cX4_in 3 (some .boolean), .methodLink RX4 74 yX4_markOfRows, .instanceMethod yX4_markOfRows, .selects RX4 yX4_markOfRows yX4_markOfRows, .code yX4_markOfRows cX4_markOfRows 8 (some .int), .fieldLink RX4 13 "GuessMarksModel" "colours" "I", .fieldLink RX4 29 "GuessMarksModel" "has" "[I", .fieldLink RX4 7 "GuessMarksModel" "places" "I"] ++ wsX40)
def wsX4_isPossible : List Cond := .code yX4_isPossible cX4_isPossible 4 (some .boolean) :: ([.fieldLink RX4 7 "GuessMarksModel" "places" "I"] ++ wsX40)
def wsX4_lies : List Cond := .code yX4_lies cX4_lies 4 (some .int) :: ([.fieldLink RX4 64 "GuessMarksModel" "entries" "I", .fieldLink RX4 22 "GuessMarksModel" "guess" "[I", .fieldLink RX4 26 "GuessMarksModel" "told" "[I", .methodLink RX4 74 yX4_markOfRows, .instanceMethod yX4_markOfRows, .selects RX4 yX4_markOfRows yX4_markOfRows, .initialized RX4, .code yX4_markOfRows cX4_markOfRows 8 (some .int), .fieldLink RX4 13 "GuessMarksModel" "colours" "I", .fieldLink RX4 29 "GuessMarksModel" "has" "[I", .fieldLink RX4 7 "GuessMarksModel" "places" "I"] ++ wsX40)
def wsX4_isStill : List Cond := .code yX4_isStill cX4_isStill 2 (some .boolean) :: ([.fieldLink RX4 61 "GuessMarksModel" "allowed" "I", .methodLink RX4 77 yX4_lies, .instanceMethod yX4_lies, .selects RX4 yX4_lies yX4_lies, .initialized RX4, .code yX4_lies cX4_lies 4 (some .int), .fieldLink RX4 64 "GuessMarksModel" "entries" "I", .fieldLink RX4 22 "GuessMarksModel" "guess" "[I", .fieldLink RX4 26 "GuessMarksModel" "told" "[I", .methodLink RX4 74 yX4_markOfRows, .instanceMethod yX4_markOfRows, .selects RX4 yX4_markOfRows yX4_markOfRows, .code yX4_markOfRows cX4_markOfRows 8 (some .int), .fieldLink RX4 13 "GuessMarksModel" "colours" "I", .fieldLink RX4 29 "GuessMarksModel" "has" "[I", .fieldLink RX4 7 "GuessMarksModel" "places" "I"] ++ wsX40)
def wsX4_allowLies : List Cond := .code yX4_allowLies cX4_allowLies 3 (some .int) :: ([.fieldLink RX4 19 "GuessMarksModel" "hidden" "I", .fieldLink RX4 50 "GuessMarksModel" "thrown" "I", .fieldLink RX4 61 "GuessMarksModel" "allowed" "I", .methodLink RX4 53 yX4_in, .static yX4_in, .initialized RX4, .code yX4_in cX4_in 3 (some .boolean), .methodLink RX4 77 yX4_lies, .instanceMethod yX4_lies, .selects RX4 yX4_lies yX4_lies, .code yX4_lies cX4_lies 4 (some .int), .fieldLink RX4 64 "GuessMarksModel" "entries" "I", .fieldLink RX4 22 "GuessMarksModel" "guess" "[I", .fieldLink RX4 26 "GuessMarksModel" "told" "[I", .methodLink RX4 74 yX4_markOfRows, .instanceMethod yX4_markOfRows, .selects RX4 yX4_markOfRows yX4_markOfRows, .code yX4_markOfRows cX4_markOfRows 8 (some .int), .fieldLink RX4 13 "GuessMarksModel" "colours" "I", .fieldLink RX4 29 "GuessMarksModel" "has" "[I", .fieldLink RX4 7 "GuessMarksModel" "places" "I"] ++ wsX40)
def wsX4_hide_r1 : List Cond := [Cond.fieldLink RX4 50 "GuessMarksModel" "thrown" "I", Cond.fieldLink RX4 19 "GuessMarksModel" "hidden" "I", Cond.methodLink RX4 67 yX4_isRow, Cond.instanceMethod yX4_isRow, Cond.selects RX4 yX4_isRow yX4_isRow, Cond.initialized RX4, Cond.code yX4_isRow cX4_isRow 2 (some .boolean), Cond.fieldLink RX4 16 "GuessMarksModel" "rows" "I", Cond.methodLink RX4 53 yX4_in, Cond.static yX4_in, Cond.code yX4_in cX4_in 3 (some .boolean), Cond.methodLink RX4 81 yX4_isStill, Cond.instanceMethod yX4_isStill, Cond.selects RX4 yX4_isStill yX4_isStill, Cond.code yX4_isStill cX4_isStill 2 (some .boolean), Cond.fieldLink RX4 61 "GuessMarksModel" "allowed" "I", Cond.methodLink RX4 77 yX4_lies, Cond.instanceMethod yX4_lies, Cond.selects RX4 yX4_lies yX4_lies, Cond.code yX4_lies cX4_lies 4 (some .int), Cond.fieldLink RX4 64 "GuessMarksModel" "entries" "I", Cond.fieldLink RX4 22 "GuessMarksModel" "guess" "[I", Cond.fieldLink RX4 26 "GuessMarksModel" "told" "[I", Cond.methodLink RX4 74 yX4_markOfRows]
def wsX4_hide_r2 : List Cond := [Cond.instanceMethod yX4_markOfRows, Cond.selects RX4 yX4_markOfRows yX4_markOfRows, Cond.code yX4_markOfRows cX4_markOfRows 8 (some .int), Cond.fieldLink RX4 13 "GuessMarksModel" "colours" "I", Cond.fieldLink RX4 29 "GuessMarksModel" "has" "[I", Cond.fieldLink RX4 7 "GuessMarksModel" "places" "I"]
def wsX4_hide : List Cond := .code yX4_hide cX4_hide 3 (some .boolean) :: ((wsX4_hide_r1 ++ wsX4_hide_r2) ++ wsX40)
def wsX4_adds : List Cond := .code yX4_adds cX4_adds 3 none :: ([.fieldLink RX4 22 "GuessMarksModel" "guess" "[I", .fieldLink RX4 64 "GuessMarksModel" "entries" "I", .fieldLink RX4 26 "GuessMarksModel" "told" "[I"] ++ wsX40)
def wsX4_guess_r1 : List Cond := [Cond.fieldLink RX4 19 "GuessMarksModel" "hidden" "I", Cond.fieldLink RX4 64 "GuessMarksModel" "entries" "I", Cond.fieldLink RX4 50 "GuessMarksModel" "thrown" "I", Cond.methodLink RX4 67 yX4_isRow, Cond.instanceMethod yX4_isRow, Cond.selects RX4 yX4_isRow yX4_isRow, Cond.initialized RX4, Cond.code yX4_isRow cX4_isRow 2 (some .boolean), Cond.fieldLink RX4 16 "GuessMarksModel" "rows" "I", Cond.methodLink RX4 53 yX4_in, Cond.static yX4_in, Cond.code yX4_in cX4_in 3 (some .boolean), Cond.methodLink RX4 74 yX4_markOfRows, Cond.instanceMethod yX4_markOfRows, Cond.selects RX4 yX4_markOfRows yX4_markOfRows, Cond.code yX4_markOfRows cX4_markOfRows 8 (some .int), Cond.fieldLink RX4 13 "GuessMarksModel" "colours" "I", Cond.fieldLink RX4 29 "GuessMarksModel" "has" "[I", Cond.fieldLink RX4 7 "GuessMarksModel" "places" "I", Cond.methodLink RX4 84 yX4_adds, Cond.instanceMethod yX4_adds, Cond.selects RX4 yX4_adds yX4_adds, Cond.code yX4_adds cX4_adds 3 none, Cond.fieldLink RX4 22 "GuessMarksModel" "guess" "[I"]
def wsX4_guess_r2 : List Cond := [Cond.fieldLink RX4 26 "GuessMarksModel" "told" "[I"]
def wsX4_guess : List Cond := .code yX4_guess cX4_guess 3 (some .int) :: ((wsX4_guess_r1 ++ wsX4_guess_r2) ++ wsX40)
def wsX4_manyLeft : List Cond := .code yX4_manyLeft cX4_manyLeft 3 (some .int) :: ([.fieldLink RX4 16 "GuessMarksModel" "rows" "I", .methodLink RX4 81 yX4_isStill, .instanceMethod yX4_isStill, .selects RX4 yX4_isStill yX4_isStill, .initialized RX4, .code yX4_isStill cX4_isStill 2 (some .boolean), .fieldLink RX4 61 "GuessMarksModel" "allowed" "I", .methodLink RX4 77 yX4_lies, .instanceMethod yX4_lies, .selects RX4 yX4_lies yX4_lies, .code yX4_lies cX4_lies 4 (some .int), .fieldLink RX4 64 "GuessMarksModel" "entries" "I", .fieldLink RX4 22 "GuessMarksModel" "guess" "[I", .fieldLink RX4 26 "GuessMarksModel" "told" "[I", .methodLink RX4 74 yX4_markOfRows, .instanceMethod yX4_markOfRows, .selects RX4 yX4_markOfRows yX4_markOfRows, .code yX4_markOfRows cX4_markOfRows 8 (some .int), .fieldLink RX4 13 "GuessMarksModel" "colours" "I", .fieldLink RX4 29 "GuessMarksModel" "has" "[I", .fieldLink RX4 7 "GuessMarksModel" "places" "I"] ++ wsX40)
def wsX4_tell_r1 : List Cond := [Cond.fieldLink RX4 64 "GuessMarksModel" "entries" "I", Cond.fieldLink RX4 50 "GuessMarksModel" "thrown" "I", Cond.fieldLink RX4 19 "GuessMarksModel" "hidden" "I", Cond.fieldLink RX4 61 "GuessMarksModel" "allowed" "I", Cond.methodLink RX4 67 yX4_isRow, Cond.instanceMethod yX4_isRow, Cond.selects RX4 yX4_isRow yX4_isRow, Cond.initialized RX4, Cond.code yX4_isRow cX4_isRow 2 (some .boolean), Cond.fieldLink RX4 16 "GuessMarksModel" "rows" "I", Cond.methodLink RX4 53 yX4_in, Cond.static yX4_in, Cond.code yX4_in cX4_in 3 (some .boolean), Cond.methodLink RX4 88 yX4_isPossible, Cond.instanceMethod yX4_isPossible, Cond.selects RX4 yX4_isPossible yX4_isPossible, Cond.code yX4_isPossible cX4_isPossible 4 (some .boolean), Cond.fieldLink RX4 7 "GuessMarksModel" "places" "I", Cond.methodLink RX4 77 yX4_lies, Cond.instanceMethod yX4_lies, Cond.selects RX4 yX4_lies yX4_lies, Cond.code yX4_lies cX4_lies 4 (some .int), Cond.fieldLink RX4 22 "GuessMarksModel" "guess" "[I", Cond.fieldLink RX4 26 "GuessMarksModel" "told" "[I"]
def wsX4_tell_r2 : List Cond := [Cond.methodLink RX4 74 yX4_markOfRows, Cond.instanceMethod yX4_markOfRows, Cond.selects RX4 yX4_markOfRows yX4_markOfRows, Cond.code yX4_markOfRows cX4_markOfRows 8 (some .int), Cond.fieldLink RX4 13 "GuessMarksModel" "colours" "I", Cond.fieldLink RX4 29 "GuessMarksModel" "has" "[I", Cond.methodLink RX4 84 yX4_adds, Cond.instanceMethod yX4_adds, Cond.selects RX4 yX4_adds yX4_adds, Cond.code yX4_adds cX4_adds 3 none, Cond.methodLink RX4 91 yX4_manyLeft, Cond.instanceMethod yX4_manyLeft, Cond.selects RX4 yX4_manyLeft yX4_manyLeft, Cond.code yX4_manyLeft cX4_manyLeft 3 (some .int), Cond.methodLink RX4 81 yX4_isStill, Cond.instanceMethod yX4_isStill, Cond.selects RX4 yX4_isStill yX4_isStill, Cond.code yX4_isStill cX4_isStill 2 (some .boolean)]
def wsX4_tell : List Cond := .code yX4_tell cX4_tell 3 (some .int) :: ((wsX4_tell_r1 ++ wsX4_tell_r2) ++ wsX40)
def wsX4_takeBack_r1 : List Cond := [Cond.fieldLink RX4 64 "GuessMarksModel" "entries" "I", Cond.fieldLink RX4 50 "GuessMarksModel" "thrown" "I", Cond.methodLink RX4 91 yX4_manyLeft, Cond.instanceMethod yX4_manyLeft, Cond.selects RX4 yX4_manyLeft yX4_manyLeft, Cond.initialized RX4, Cond.code yX4_manyLeft cX4_manyLeft 3 (some .int), Cond.fieldLink RX4 16 "GuessMarksModel" "rows" "I", Cond.methodLink RX4 81 yX4_isStill, Cond.instanceMethod yX4_isStill, Cond.selects RX4 yX4_isStill yX4_isStill, Cond.code yX4_isStill cX4_isStill 2 (some .boolean), Cond.fieldLink RX4 61 "GuessMarksModel" "allowed" "I", Cond.methodLink RX4 77 yX4_lies, Cond.instanceMethod yX4_lies, Cond.selects RX4 yX4_lies yX4_lies, Cond.code yX4_lies cX4_lies 4 (some .int), Cond.fieldLink RX4 22 "GuessMarksModel" "guess" "[I", Cond.fieldLink RX4 26 "GuessMarksModel" "told" "[I", Cond.methodLink RX4 74 yX4_markOfRows, Cond.instanceMethod yX4_markOfRows, Cond.selects RX4 yX4_markOfRows yX4_markOfRows, Cond.code yX4_markOfRows cX4_markOfRows 8 (some .int), Cond.fieldLink RX4 13 "GuessMarksModel" "colours" "I"]
def wsX4_takeBack_r2 : List Cond := [Cond.fieldLink RX4 29 "GuessMarksModel" "has" "[I", Cond.fieldLink RX4 7 "GuessMarksModel" "places" "I"]
def wsX4_takeBack : List Cond := .code yX4_takeBack cX4_takeBack 1 (some .int) :: ((wsX4_takeBack_r1 ++ wsX4_takeBack_r2) ++ wsX40)
def wsX4_entries : List Cond := .code yX4_entries cX4_entries 1 (some .int) :: ([.fieldLink RX4 50 "GuessMarksModel" "thrown" "I", .fieldLink RX4 64 "GuessMarksModel" "entries" "I"] ++ wsX40)
def wsX4_isEntry : List Cond := .code yX4_isEntry cX4_isEntry 2 (some .boolean) :: ([.fieldLink RX4 64 "GuessMarksModel" "entries" "I", .methodLink RX4 53 yX4_in, .static yX4_in, .initialized RX4, .code yX4_in cX4_in 3 (some .boolean)] ++ wsX40)
def wsX4_guessOf : List Cond := .code yX4_guessOf cX4_guessOf 2 (some .int) :: ([.fieldLink RX4 50 "GuessMarksModel" "thrown" "I", .fieldLink RX4 22 "GuessMarksModel" "guess" "[I", .methodLink RX4 95 yX4_isEntry, .instanceMethod yX4_isEntry, .selects RX4 yX4_isEntry yX4_isEntry, .initialized RX4, .code yX4_isEntry cX4_isEntry 2 (some .boolean), .fieldLink RX4 64 "GuessMarksModel" "entries" "I", .methodLink RX4 53 yX4_in, .static yX4_in, .code yX4_in cX4_in 3 (some .boolean)] ++ wsX40)
def wsX4_markOf : List Cond := .code yX4_markOf cX4_markOf 2 (some .int) :: ([.fieldLink RX4 50 "GuessMarksModel" "thrown" "I", .fieldLink RX4 26 "GuessMarksModel" "told" "[I", .methodLink RX4 95 yX4_isEntry, .instanceMethod yX4_isEntry, .selects RX4 yX4_isEntry yX4_isEntry, .initialized RX4, .code yX4_isEntry cX4_isEntry 2 (some .boolean), .fieldLink RX4 64 "GuessMarksModel" "entries" "I", .methodLink RX4 53 yX4_in, .static yX4_in, .code yX4_in cX4_in 3 (some .boolean)] ++ wsX40)
def wsX4_liesAbout : List Cond := .code yX4_liesAbout cX4_liesAbout 2 (some .int) :: ([.fieldLink RX4 50 "GuessMarksModel" "thrown" "I", .methodLink RX4 67 yX4_isRow, .instanceMethod yX4_isRow, .selects RX4 yX4_isRow yX4_isRow, .initialized RX4, .code yX4_isRow cX4_isRow 2 (some .boolean), .fieldLink RX4 16 "GuessMarksModel" "rows" "I", .methodLink RX4 53 yX4_in, .static yX4_in, .code yX4_in cX4_in 3 (some .boolean), .methodLink RX4 77 yX4_lies, .instanceMethod yX4_lies, .selects RX4 yX4_lies yX4_lies, .code yX4_lies cX4_lies 4 (some .int), .fieldLink RX4 64 "GuessMarksModel" "entries" "I", .fieldLink RX4 22 "GuessMarksModel" "guess" "[I", .fieldLink RX4 26 "GuessMarksModel" "told" "[I", .methodLink RX4 74 yX4_markOfRows, .instanceMethod yX4_markOfRows, .selects RX4 yX4_markOfRows yX4_markOfRows, .code yX4_markOfRows cX4_markOfRows 8 (some .int), .fieldLink RX4 13 "GuessMarksModel" "colours" "I", .fieldLink RX4 29 "GuessMarksModel" "has" "[I", .fieldLink RX4 7 "GuessMarksModel" "places" "I"] ++ wsX40)
def wsX4_left_r1 : List Cond := [Cond.fieldLink RX4 50 "GuessMarksModel" "thrown" "I", Cond.methodLink RX4 91 yX4_manyLeft, Cond.instanceMethod yX4_manyLeft, Cond.selects RX4 yX4_manyLeft yX4_manyLeft, Cond.initialized RX4, Cond.code yX4_manyLeft cX4_manyLeft 3 (some .int), Cond.fieldLink RX4 16 "GuessMarksModel" "rows" "I", Cond.methodLink RX4 81 yX4_isStill, Cond.instanceMethod yX4_isStill, Cond.selects RX4 yX4_isStill yX4_isStill, Cond.code yX4_isStill cX4_isStill 2 (some .boolean), Cond.fieldLink RX4 61 "GuessMarksModel" "allowed" "I", Cond.methodLink RX4 77 yX4_lies, Cond.instanceMethod yX4_lies, Cond.selects RX4 yX4_lies yX4_lies, Cond.code yX4_lies cX4_lies 4 (some .int), Cond.fieldLink RX4 64 "GuessMarksModel" "entries" "I", Cond.fieldLink RX4 22 "GuessMarksModel" "guess" "[I", Cond.fieldLink RX4 26 "GuessMarksModel" "told" "[I", Cond.methodLink RX4 74 yX4_markOfRows, Cond.instanceMethod yX4_markOfRows, Cond.selects RX4 yX4_markOfRows yX4_markOfRows, Cond.code yX4_markOfRows cX4_markOfRows 8 (some .int), Cond.fieldLink RX4 13 "GuessMarksModel" "colours" "I"]
def wsX4_left_r2 : List Cond := [Cond.fieldLink RX4 29 "GuessMarksModel" "has" "[I", Cond.fieldLink RX4 7 "GuessMarksModel" "places" "I"]
def wsX4_left : List Cond := .code yX4_left cX4_left 1 (some .int) :: ((wsX4_left_r1 ++ wsX4_left_r2) ++ wsX40)
def wsX4_leftByAll_r1 : List Cond := [Cond.fieldLink RX4 50 "GuessMarksModel" "thrown" "I", Cond.methodLink RX4 91 yX4_manyLeft, Cond.instanceMethod yX4_manyLeft, Cond.selects RX4 yX4_manyLeft yX4_manyLeft, Cond.initialized RX4, Cond.code yX4_manyLeft cX4_manyLeft 3 (some .int), Cond.fieldLink RX4 16 "GuessMarksModel" "rows" "I", Cond.methodLink RX4 81 yX4_isStill, Cond.instanceMethod yX4_isStill, Cond.selects RX4 yX4_isStill yX4_isStill, Cond.code yX4_isStill cX4_isStill 2 (some .boolean), Cond.fieldLink RX4 61 "GuessMarksModel" "allowed" "I", Cond.methodLink RX4 77 yX4_lies, Cond.instanceMethod yX4_lies, Cond.selects RX4 yX4_lies yX4_lies, Cond.code yX4_lies cX4_lies 4 (some .int), Cond.fieldLink RX4 64 "GuessMarksModel" "entries" "I", Cond.fieldLink RX4 22 "GuessMarksModel" "guess" "[I", Cond.fieldLink RX4 26 "GuessMarksModel" "told" "[I", Cond.methodLink RX4 74 yX4_markOfRows, Cond.instanceMethod yX4_markOfRows, Cond.selects RX4 yX4_markOfRows yX4_markOfRows, Cond.code yX4_markOfRows cX4_markOfRows 8 (some .int), Cond.fieldLink RX4 13 "GuessMarksModel" "colours" "I"]
def wsX4_leftByAll_r2 : List Cond := [Cond.fieldLink RX4 29 "GuessMarksModel" "has" "[I", Cond.fieldLink RX4 7 "GuessMarksModel" "places" "I"]
def wsX4_leftByAll : List Cond := .code yX4_leftByAll cX4_leftByAll 1 (some .int) :: ((wsX4_leftByAll_r1 ++ wsX4_leftByAll_r2) ++ wsX40)
def wsX4_isLeft_r1 : List Cond := [Cond.fieldLink RX4 50 "GuessMarksModel" "thrown" "I", Cond.methodLink RX4 67 yX4_isRow, Cond.instanceMethod yX4_isRow, Cond.selects RX4 yX4_isRow yX4_isRow, Cond.initialized RX4, Cond.code yX4_isRow cX4_isRow 2 (some .boolean), Cond.fieldLink RX4 16 "GuessMarksModel" "rows" "I", Cond.methodLink RX4 53 yX4_in, Cond.static yX4_in, Cond.code yX4_in cX4_in 3 (some .boolean), Cond.methodLink RX4 81 yX4_isStill, Cond.instanceMethod yX4_isStill, Cond.selects RX4 yX4_isStill yX4_isStill, Cond.code yX4_isStill cX4_isStill 2 (some .boolean), Cond.fieldLink RX4 61 "GuessMarksModel" "allowed" "I", Cond.methodLink RX4 77 yX4_lies, Cond.instanceMethod yX4_lies, Cond.selects RX4 yX4_lies yX4_lies, Cond.code yX4_lies cX4_lies 4 (some .int), Cond.fieldLink RX4 64 "GuessMarksModel" "entries" "I", Cond.fieldLink RX4 22 "GuessMarksModel" "guess" "[I", Cond.fieldLink RX4 26 "GuessMarksModel" "told" "[I", Cond.methodLink RX4 74 yX4_markOfRows, Cond.instanceMethod yX4_markOfRows]
def wsX4_isLeft_r2 : List Cond := [Cond.selects RX4 yX4_markOfRows yX4_markOfRows, Cond.code yX4_markOfRows cX4_markOfRows 8 (some .int), Cond.fieldLink RX4 13 "GuessMarksModel" "colours" "I", Cond.fieldLink RX4 29 "GuessMarksModel" "has" "[I", Cond.fieldLink RX4 7 "GuessMarksModel" "places" "I"]
def wsX4_isLeft : List Cond := .code yX4_isLeft cX4_isLeft 2 (some .boolean) :: ((wsX4_isLeft_r1 ++ wsX4_isLeft_r2) ++ wsX40)
def wsX4_laysLeft : List Cond := .code yX4_laysLeft cX4_laysLeft 3 (some .int) :: ([.fieldLink RX4 16 "GuessMarksModel" "rows" "I", .fieldLink RX4 35 "GuessMarksModel" "set" "[I", .methodLink RX4 81 yX4_isStill, .instanceMethod yX4_isStill, .selects RX4 yX4_isStill yX4_isStill, .initialized RX4, .code yX4_isStill cX4_isStill 2 (some .boolean), .fieldLink RX4 61 "GuessMarksModel" "allowed" "I", .methodLink RX4 77 yX4_lies, .instanceMethod yX4_lies, .selects RX4 yX4_lies yX4_lies, .code yX4_lies cX4_lies 4 (some .int), .fieldLink RX4 64 "GuessMarksModel" "entries" "I", .fieldLink RX4 22 "GuessMarksModel" "guess" "[I", .fieldLink RX4 26 "GuessMarksModel" "told" "[I", .methodLink RX4 74 yX4_markOfRows, .instanceMethod yX4_markOfRows, .selects RX4 yX4_markOfRows yX4_markOfRows, .code yX4_markOfRows cX4_markOfRows 8 (some .int), .fieldLink RX4 13 "GuessMarksModel" "colours" "I", .fieldLink RX4 29 "GuessMarksModel" "has" "[I", .fieldLink RX4 7 "GuessMarksModel" "places" "I"] ++ wsX40)
def wsX4_leftAt_r1 : List Cond := [Cond.fieldLink RX4 50 "GuessMarksModel" "thrown" "I", Cond.fieldLink RX4 35 "GuessMarksModel" "set" "[I", Cond.methodLink RX4 98 yX4_laysLeft, Cond.instanceMethod yX4_laysLeft, Cond.selects RX4 yX4_laysLeft yX4_laysLeft, Cond.initialized RX4, Cond.code yX4_laysLeft cX4_laysLeft 3 (some .int), Cond.fieldLink RX4 16 "GuessMarksModel" "rows" "I", Cond.methodLink RX4 81 yX4_isStill, Cond.instanceMethod yX4_isStill, Cond.selects RX4 yX4_isStill yX4_isStill, Cond.code yX4_isStill cX4_isStill 2 (some .boolean), Cond.fieldLink RX4 61 "GuessMarksModel" "allowed" "I", Cond.methodLink RX4 77 yX4_lies, Cond.instanceMethod yX4_lies, Cond.selects RX4 yX4_lies yX4_lies, Cond.code yX4_lies cX4_lies 4 (some .int), Cond.fieldLink RX4 64 "GuessMarksModel" "entries" "I", Cond.fieldLink RX4 22 "GuessMarksModel" "guess" "[I", Cond.fieldLink RX4 26 "GuessMarksModel" "told" "[I", Cond.methodLink RX4 74 yX4_markOfRows, Cond.instanceMethod yX4_markOfRows, Cond.selects RX4 yX4_markOfRows yX4_markOfRows, Cond.code yX4_markOfRows cX4_markOfRows 8 (some .int)]
def wsX4_leftAt_r2 : List Cond := [Cond.fieldLink RX4 13 "GuessMarksModel" "colours" "I", Cond.fieldLink RX4 29 "GuessMarksModel" "has" "[I", Cond.fieldLink RX4 7 "GuessMarksModel" "places" "I", Cond.methodLink RX4 53 yX4_in, Cond.static yX4_in, Cond.code yX4_in cX4_in 3 (some .boolean)]
def wsX4_leftAt : List Cond := .code yX4_leftAt cX4_leftAt 3 (some .int) :: ((wsX4_leftAt_r1 ++ wsX4_leftAt_r2) ++ wsX40)
def wsX4_laysParts : List Cond := .code yX4_laysParts cX4_laysParts 5 none :: ([.fieldLink RX4 32 "GuessMarksModel" "size" "[I", .fieldLink RX4 35 "GuessMarksModel" "set" "[I", .methodLink RX4 74 yX4_markOfRows, .instanceMethod yX4_markOfRows, .selects RX4 yX4_markOfRows yX4_markOfRows, .initialized RX4, .code yX4_markOfRows cX4_markOfRows 8 (some .int), .fieldLink RX4 13 "GuessMarksModel" "colours" "I", .fieldLink RX4 29 "GuessMarksModel" "has" "[I", .fieldLink RX4 7 "GuessMarksModel" "places" "I"] ++ wsX40)
def wsX4_worst : List Cond := .code yX4_worst cX4_worst 3 (some .int) :: ([.fieldLink RX4 32 "GuessMarksModel" "size" "[I"] ++ wsX40)
def wsX4_squares : List Cond := .code yX4_squares cX4_squares 3 (some .int) :: ([.fieldLink RX4 32 "GuessMarksModel" "size" "[I"] ++ wsX40)
def wsX4_manyParts : List Cond := .code yX4_manyParts cX4_manyParts 3 (some .int) :: ([.fieldLink RX4 32 "GuessMarksModel" "size" "[I"] ++ wsX40)
def wsX4_asks_r1 : List Cond := [Cond.fieldLink RX4 50 "GuessMarksModel" "thrown" "I", Cond.methodLink RX4 67 yX4_isRow, Cond.instanceMethod yX4_isRow, Cond.selects RX4 yX4_isRow yX4_isRow, Cond.initialized RX4, Cond.code yX4_isRow cX4_isRow 2 (some .boolean), Cond.fieldLink RX4 16 "GuessMarksModel" "rows" "I", Cond.methodLink RX4 53 yX4_in, Cond.static yX4_in, Cond.code yX4_in cX4_in 3 (some .boolean), Cond.methodLink RX4 98 yX4_laysLeft, Cond.instanceMethod yX4_laysLeft, Cond.selects RX4 yX4_laysLeft yX4_laysLeft, Cond.code yX4_laysLeft cX4_laysLeft 3 (some .int), Cond.fieldLink RX4 35 "GuessMarksModel" "set" "[I", Cond.methodLink RX4 81 yX4_isStill, Cond.instanceMethod yX4_isStill, Cond.selects RX4 yX4_isStill yX4_isStill, Cond.code yX4_isStill cX4_isStill 2 (some .boolean), Cond.fieldLink RX4 61 "GuessMarksModel" "allowed" "I", Cond.methodLink RX4 77 yX4_lies, Cond.instanceMethod yX4_lies, Cond.selects RX4 yX4_lies yX4_lies, Cond.code yX4_lies cX4_lies 4 (some .int)]
def wsX4_asks_r2 : List Cond := [Cond.fieldLink RX4 64 "GuessMarksModel" "entries" "I", Cond.fieldLink RX4 22 "GuessMarksModel" "guess" "[I", Cond.fieldLink RX4 26 "GuessMarksModel" "told" "[I", Cond.methodLink RX4 74 yX4_markOfRows, Cond.instanceMethod yX4_markOfRows, Cond.selects RX4 yX4_markOfRows yX4_markOfRows, Cond.code yX4_markOfRows cX4_markOfRows 8 (some .int), Cond.fieldLink RX4 13 "GuessMarksModel" "colours" "I", Cond.fieldLink RX4 29 "GuessMarksModel" "has" "[I", Cond.fieldLink RX4 7 "GuessMarksModel" "places" "I", Cond.methodLink RX4 101 yX4_laysParts, Cond.instanceMethod yX4_laysParts, Cond.selects RX4 yX4_laysParts yX4_laysParts, Cond.code yX4_laysParts cX4_laysParts 5 none, Cond.fieldLink RX4 32 "GuessMarksModel" "size" "[I"]
def wsX4_asks : List Cond := .code yX4_asks cX4_asks 3 (some .boolean) :: ((wsX4_asks_r1 ++ wsX4_asks_r2) ++ wsX40)
def wsX4_parts_r1 : List Cond := [Cond.methodLink RX4 105 yX4_asks, Cond.instanceMethod yX4_asks, Cond.selects RX4 yX4_asks yX4_asks, Cond.initialized RX4, Cond.code yX4_asks cX4_asks 3 (some .boolean), Cond.fieldLink RX4 50 "GuessMarksModel" "thrown" "I", Cond.methodLink RX4 67 yX4_isRow, Cond.instanceMethod yX4_isRow, Cond.selects RX4 yX4_isRow yX4_isRow, Cond.code yX4_isRow cX4_isRow 2 (some .boolean), Cond.fieldLink RX4 16 "GuessMarksModel" "rows" "I", Cond.methodLink RX4 53 yX4_in, Cond.static yX4_in, Cond.code yX4_in cX4_in 3 (some .boolean), Cond.methodLink RX4 98 yX4_laysLeft, Cond.instanceMethod yX4_laysLeft, Cond.selects RX4 yX4_laysLeft yX4_laysLeft, Cond.code yX4_laysLeft cX4_laysLeft 3 (some .int), Cond.fieldLink RX4 35 "GuessMarksModel" "set" "[I", Cond.methodLink RX4 81 yX4_isStill, Cond.instanceMethod yX4_isStill, Cond.selects RX4 yX4_isStill yX4_isStill, Cond.code yX4_isStill cX4_isStill 2 (some .boolean), Cond.fieldLink RX4 61 "GuessMarksModel" "allowed" "I"]
def wsX4_parts_r2 : List Cond := [Cond.methodLink RX4 77 yX4_lies, Cond.instanceMethod yX4_lies, Cond.selects RX4 yX4_lies yX4_lies, Cond.code yX4_lies cX4_lies 4 (some .int), Cond.fieldLink RX4 64 "GuessMarksModel" "entries" "I", Cond.fieldLink RX4 22 "GuessMarksModel" "guess" "[I", Cond.fieldLink RX4 26 "GuessMarksModel" "told" "[I", Cond.methodLink RX4 74 yX4_markOfRows, Cond.instanceMethod yX4_markOfRows, Cond.selects RX4 yX4_markOfRows yX4_markOfRows, Cond.code yX4_markOfRows cX4_markOfRows 8 (some .int), Cond.fieldLink RX4 13 "GuessMarksModel" "colours" "I", Cond.fieldLink RX4 29 "GuessMarksModel" "has" "[I", Cond.fieldLink RX4 7 "GuessMarksModel" "places" "I", Cond.methodLink RX4 101 yX4_laysParts, Cond.instanceMethod yX4_laysParts, Cond.selects RX4 yX4_laysParts yX4_laysParts, Cond.code yX4_laysParts cX4_laysParts 5 none, Cond.fieldLink RX4 32 "GuessMarksModel" "size" "[I", Cond.methodLink RX4 108 yX4_manyParts, Cond.instanceMethod yX4_manyParts, Cond.selects RX4 yX4_manyParts yX4_manyParts, Cond.code yX4_manyParts cX4_manyParts 3 (some .int)]
def wsX4_parts : List Cond := .code yX4_parts cX4_parts 2 (some .int) :: ((wsX4_parts_r1 ++ wsX4_parts_r2) ++ wsX40)
def wsX4_partMark_r1 : List Cond := [Cond.fieldLink RX4 35 "GuessMarksModel" "set" "[I", Cond.fieldLink RX4 32 "GuessMarksModel" "size" "[I", Cond.fieldLink RX4 50 "GuessMarksModel" "thrown" "I", Cond.methodLink RX4 105 yX4_asks, Cond.instanceMethod yX4_asks, Cond.selects RX4 yX4_asks yX4_asks, Cond.initialized RX4, Cond.code yX4_asks cX4_asks 3 (some .boolean), Cond.methodLink RX4 67 yX4_isRow, Cond.instanceMethod yX4_isRow, Cond.selects RX4 yX4_isRow yX4_isRow, Cond.code yX4_isRow cX4_isRow 2 (some .boolean), Cond.fieldLink RX4 16 "GuessMarksModel" "rows" "I", Cond.methodLink RX4 53 yX4_in, Cond.static yX4_in, Cond.code yX4_in cX4_in 3 (some .boolean), Cond.methodLink RX4 98 yX4_laysLeft, Cond.instanceMethod yX4_laysLeft, Cond.selects RX4 yX4_laysLeft yX4_laysLeft, Cond.code yX4_laysLeft cX4_laysLeft 3 (some .int), Cond.methodLink RX4 81 yX4_isStill, Cond.instanceMethod yX4_isStill, Cond.selects RX4 yX4_isStill yX4_isStill, Cond.code yX4_isStill cX4_isStill 2 (some .boolean)]
def wsX4_partMark_r2 : List Cond := [Cond.fieldLink RX4 61 "GuessMarksModel" "allowed" "I", Cond.methodLink RX4 77 yX4_lies, Cond.instanceMethod yX4_lies, Cond.selects RX4 yX4_lies yX4_lies, Cond.code yX4_lies cX4_lies 4 (some .int), Cond.fieldLink RX4 64 "GuessMarksModel" "entries" "I", Cond.fieldLink RX4 22 "GuessMarksModel" "guess" "[I", Cond.fieldLink RX4 26 "GuessMarksModel" "told" "[I", Cond.methodLink RX4 74 yX4_markOfRows, Cond.instanceMethod yX4_markOfRows, Cond.selects RX4 yX4_markOfRows yX4_markOfRows, Cond.code yX4_markOfRows cX4_markOfRows 8 (some .int), Cond.fieldLink RX4 13 "GuessMarksModel" "colours" "I", Cond.fieldLink RX4 29 "GuessMarksModel" "has" "[I", Cond.fieldLink RX4 7 "GuessMarksModel" "places" "I", Cond.methodLink RX4 101 yX4_laysParts, Cond.instanceMethod yX4_laysParts, Cond.selects RX4 yX4_laysParts yX4_laysParts, Cond.code yX4_laysParts cX4_laysParts 5 none]
def wsX4_partMark : List Cond := .code yX4_partMark cX4_partMark 9 (some .int) :: ((wsX4_partMark_r1 ++ wsX4_partMark_r2) ++ wsX40)
def wsX4_partSize_r1 : List Cond := [Cond.fieldLink RX4 50 "GuessMarksModel" "thrown" "I", Cond.fieldLink RX4 32 "GuessMarksModel" "size" "[I", Cond.methodLink RX4 67 yX4_isRow, Cond.instanceMethod yX4_isRow, Cond.selects RX4 yX4_isRow yX4_isRow, Cond.initialized RX4, Cond.code yX4_isRow cX4_isRow 2 (some .boolean), Cond.fieldLink RX4 16 "GuessMarksModel" "rows" "I", Cond.methodLink RX4 53 yX4_in, Cond.static yX4_in, Cond.code yX4_in cX4_in 3 (some .boolean), Cond.methodLink RX4 88 yX4_isPossible, Cond.instanceMethod yX4_isPossible, Cond.selects RX4 yX4_isPossible yX4_isPossible, Cond.code yX4_isPossible cX4_isPossible 4 (some .boolean), Cond.fieldLink RX4 7 "GuessMarksModel" "places" "I", Cond.methodLink RX4 105 yX4_asks, Cond.instanceMethod yX4_asks, Cond.selects RX4 yX4_asks yX4_asks, Cond.code yX4_asks cX4_asks 3 (some .boolean), Cond.methodLink RX4 98 yX4_laysLeft, Cond.instanceMethod yX4_laysLeft, Cond.selects RX4 yX4_laysLeft yX4_laysLeft, Cond.code yX4_laysLeft cX4_laysLeft 3 (some .int)]
def wsX4_partSize_r2 : List Cond := [Cond.fieldLink RX4 35 "GuessMarksModel" "set" "[I", Cond.methodLink RX4 81 yX4_isStill, Cond.instanceMethod yX4_isStill, Cond.selects RX4 yX4_isStill yX4_isStill, Cond.code yX4_isStill cX4_isStill 2 (some .boolean), Cond.fieldLink RX4 61 "GuessMarksModel" "allowed" "I", Cond.methodLink RX4 77 yX4_lies, Cond.instanceMethod yX4_lies, Cond.selects RX4 yX4_lies yX4_lies, Cond.code yX4_lies cX4_lies 4 (some .int), Cond.fieldLink RX4 64 "GuessMarksModel" "entries" "I", Cond.fieldLink RX4 22 "GuessMarksModel" "guess" "[I", Cond.fieldLink RX4 26 "GuessMarksModel" "told" "[I", Cond.methodLink RX4 74 yX4_markOfRows, Cond.instanceMethod yX4_markOfRows, Cond.selects RX4 yX4_markOfRows yX4_markOfRows, Cond.code yX4_markOfRows cX4_markOfRows 8 (some .int), Cond.fieldLink RX4 13 "GuessMarksModel" "colours" "I", Cond.fieldLink RX4 29 "GuessMarksModel" "has" "[I", Cond.methodLink RX4 101 yX4_laysParts, Cond.instanceMethod yX4_laysParts, Cond.selects RX4 yX4_laysParts yX4_laysParts, Cond.code yX4_laysParts cX4_laysParts 5 none]
def wsX4_partSize : List Cond := .code yX4_partSize cX4_partSize 3 (some .int) :: ((wsX4_partSize_r1 ++ wsX4_partSize_r2) ++ wsX40)
def wsX4_worstCase_r1 : List Cond := [Cond.methodLink RX4 105 yX4_asks, Cond.instanceMethod yX4_asks, Cond.selects RX4 yX4_asks yX4_asks, Cond.initialized RX4, Cond.code yX4_asks cX4_asks 3 (some .boolean), Cond.fieldLink RX4 50 "GuessMarksModel" "thrown" "I", Cond.methodLink RX4 67 yX4_isRow, Cond.instanceMethod yX4_isRow, Cond.selects RX4 yX4_isRow yX4_isRow, Cond.code yX4_isRow cX4_isRow 2 (some .boolean), Cond.fieldLink RX4 16 "GuessMarksModel" "rows" "I", Cond.methodLink RX4 53 yX4_in, Cond.static yX4_in, Cond.code yX4_in cX4_in 3 (some .boolean), Cond.methodLink RX4 98 yX4_laysLeft, Cond.instanceMethod yX4_laysLeft, Cond.selects RX4 yX4_laysLeft yX4_laysLeft, Cond.code yX4_laysLeft cX4_laysLeft 3 (some .int), Cond.fieldLink RX4 35 "GuessMarksModel" "set" "[I", Cond.methodLink RX4 81 yX4_isStill, Cond.instanceMethod yX4_isStill, Cond.selects RX4 yX4_isStill yX4_isStill, Cond.code yX4_isStill cX4_isStill 2 (some .boolean), Cond.fieldLink RX4 61 "GuessMarksModel" "allowed" "I"]
def wsX4_worstCase_r2 : List Cond := [Cond.methodLink RX4 77 yX4_lies, Cond.instanceMethod yX4_lies, Cond.selects RX4 yX4_lies yX4_lies, Cond.code yX4_lies cX4_lies 4 (some .int), Cond.fieldLink RX4 64 "GuessMarksModel" "entries" "I", Cond.fieldLink RX4 22 "GuessMarksModel" "guess" "[I", Cond.fieldLink RX4 26 "GuessMarksModel" "told" "[I", Cond.methodLink RX4 74 yX4_markOfRows, Cond.instanceMethod yX4_markOfRows, Cond.selects RX4 yX4_markOfRows yX4_markOfRows, Cond.code yX4_markOfRows cX4_markOfRows 8 (some .int), Cond.fieldLink RX4 13 "GuessMarksModel" "colours" "I", Cond.fieldLink RX4 29 "GuessMarksModel" "has" "[I", Cond.fieldLink RX4 7 "GuessMarksModel" "places" "I", Cond.methodLink RX4 101 yX4_laysParts, Cond.instanceMethod yX4_laysParts, Cond.selects RX4 yX4_laysParts yX4_laysParts, Cond.code yX4_laysParts cX4_laysParts 5 none, Cond.fieldLink RX4 32 "GuessMarksModel" "size" "[I", Cond.methodLink RX4 111 yX4_worst, Cond.instanceMethod yX4_worst, Cond.selects RX4 yX4_worst yX4_worst, Cond.code yX4_worst cX4_worst 3 (some .int)]
def wsX4_worstCase : List Cond := .code yX4_worstCase cX4_worstCase 2 (some .int) :: ((wsX4_worstCase_r1 ++ wsX4_worstCase_r2) ++ wsX40)
def wsX4_weight_r1 : List Cond := [Cond.methodLink RX4 105 yX4_asks, Cond.instanceMethod yX4_asks, Cond.selects RX4 yX4_asks yX4_asks, Cond.initialized RX4, Cond.code yX4_asks cX4_asks 3 (some .boolean), Cond.fieldLink RX4 50 "GuessMarksModel" "thrown" "I", Cond.methodLink RX4 67 yX4_isRow, Cond.instanceMethod yX4_isRow, Cond.selects RX4 yX4_isRow yX4_isRow, Cond.code yX4_isRow cX4_isRow 2 (some .boolean), Cond.fieldLink RX4 16 "GuessMarksModel" "rows" "I", Cond.methodLink RX4 53 yX4_in, Cond.static yX4_in, Cond.code yX4_in cX4_in 3 (some .boolean), Cond.methodLink RX4 98 yX4_laysLeft, Cond.instanceMethod yX4_laysLeft, Cond.selects RX4 yX4_laysLeft yX4_laysLeft, Cond.code yX4_laysLeft cX4_laysLeft 3 (some .int), Cond.fieldLink RX4 35 "GuessMarksModel" "set" "[I", Cond.methodLink RX4 81 yX4_isStill, Cond.instanceMethod yX4_isStill, Cond.selects RX4 yX4_isStill yX4_isStill, Cond.code yX4_isStill cX4_isStill 2 (some .boolean), Cond.fieldLink RX4 61 "GuessMarksModel" "allowed" "I"]
def wsX4_weight_r2 : List Cond := [Cond.methodLink RX4 77 yX4_lies, Cond.instanceMethod yX4_lies, Cond.selects RX4 yX4_lies yX4_lies, Cond.code yX4_lies cX4_lies 4 (some .int), Cond.fieldLink RX4 64 "GuessMarksModel" "entries" "I", Cond.fieldLink RX4 22 "GuessMarksModel" "guess" "[I", Cond.fieldLink RX4 26 "GuessMarksModel" "told" "[I", Cond.methodLink RX4 74 yX4_markOfRows, Cond.instanceMethod yX4_markOfRows, Cond.selects RX4 yX4_markOfRows yX4_markOfRows, Cond.code yX4_markOfRows cX4_markOfRows 8 (some .int), Cond.fieldLink RX4 13 "GuessMarksModel" "colours" "I", Cond.fieldLink RX4 29 "GuessMarksModel" "has" "[I", Cond.fieldLink RX4 7 "GuessMarksModel" "places" "I", Cond.methodLink RX4 101 yX4_laysParts, Cond.instanceMethod yX4_laysParts, Cond.selects RX4 yX4_laysParts yX4_laysParts, Cond.code yX4_laysParts cX4_laysParts 5 none, Cond.fieldLink RX4 32 "GuessMarksModel" "size" "[I", Cond.methodLink RX4 114 yX4_squares, Cond.instanceMethod yX4_squares, Cond.selects RX4 yX4_squares yX4_squares, Cond.code yX4_squares cX4_squares 3 (some .int)]
def wsX4_weight : List Cond := .code yX4_weight cX4_weight 2 (some .int) :: ((wsX4_weight_r1 ++ wsX4_weight_r2) ++ wsX40)
def wsX4_isAmong : List Cond := .code yX4_isAmong cX4_isAmong 6 (some .boolean) :: ([.fieldLink RX4 35 "GuessMarksModel" "set" "[I"] ++ wsX40)
def wsX4_best_r1 : List Cond := [Cond.fieldLink RX4 16 "GuessMarksModel" "rows" "I", Cond.methodLink RX4 101 yX4_laysParts, Cond.instanceMethod yX4_laysParts, Cond.selects RX4 yX4_laysParts yX4_laysParts, Cond.initialized RX4, Cond.code yX4_laysParts cX4_laysParts 5 none, Cond.fieldLink RX4 32 "GuessMarksModel" "size" "[I", Cond.fieldLink RX4 35 "GuessMarksModel" "set" "[I", Cond.methodLink RX4 74 yX4_markOfRows, Cond.instanceMethod yX4_markOfRows, Cond.selects RX4 yX4_markOfRows yX4_markOfRows, Cond.code yX4_markOfRows cX4_markOfRows 8 (some .int), Cond.fieldLink RX4 13 "GuessMarksModel" "colours" "I", Cond.fieldLink RX4 29 "GuessMarksModel" "has" "[I", Cond.fieldLink RX4 7 "GuessMarksModel" "places" "I", Cond.methodLink RX4 111 yX4_worst, Cond.instanceMethod yX4_worst, Cond.selects RX4 yX4_worst yX4_worst, Cond.code yX4_worst cX4_worst 3 (some .int), Cond.methodLink RX4 114 yX4_squares, Cond.instanceMethod yX4_squares, Cond.selects RX4 yX4_squares yX4_squares, Cond.code yX4_squares cX4_squares 3 (some .int), Cond.methodLink RX4 108 yX4_manyParts]
def wsX4_best_r2 : List Cond := [Cond.instanceMethod yX4_manyParts, Cond.selects RX4 yX4_manyParts yX4_manyParts, Cond.code yX4_manyParts cX4_manyParts 3 (some .int), Cond.methodLink RX4 117 yX4_isAmong, Cond.instanceMethod yX4_isAmong, Cond.selects RX4 yX4_isAmong yX4_isAmong, Cond.code yX4_isAmong cX4_isAmong 6 (some .boolean)]
def wsX4_best : List Cond := .code yX4_best cX4_best 9 (some .int) :: ((wsX4_best_r1 ++ wsX4_best_r2) ++ wsX40)
def wsX4_bestGuess_r1 : List Cond := [Cond.fieldLink RX4 50 "GuessMarksModel" "thrown" "I", Cond.methodLink RX4 98 yX4_laysLeft, Cond.instanceMethod yX4_laysLeft, Cond.selects RX4 yX4_laysLeft yX4_laysLeft, Cond.initialized RX4, Cond.code yX4_laysLeft cX4_laysLeft 3 (some .int), Cond.fieldLink RX4 16 "GuessMarksModel" "rows" "I", Cond.fieldLink RX4 35 "GuessMarksModel" "set" "[I", Cond.methodLink RX4 81 yX4_isStill, Cond.instanceMethod yX4_isStill, Cond.selects RX4 yX4_isStill yX4_isStill, Cond.code yX4_isStill cX4_isStill 2 (some .boolean), Cond.fieldLink RX4 61 "GuessMarksModel" "allowed" "I", Cond.methodLink RX4 77 yX4_lies, Cond.instanceMethod yX4_lies, Cond.selects RX4 yX4_lies yX4_lies, Cond.code yX4_lies cX4_lies 4 (some .int), Cond.fieldLink RX4 64 "GuessMarksModel" "entries" "I", Cond.fieldLink RX4 22 "GuessMarksModel" "guess" "[I", Cond.fieldLink RX4 26 "GuessMarksModel" "told" "[I", Cond.methodLink RX4 74 yX4_markOfRows, Cond.instanceMethod yX4_markOfRows, Cond.selects RX4 yX4_markOfRows yX4_markOfRows, Cond.code yX4_markOfRows cX4_markOfRows 8 (some .int)]
def wsX4_bestGuess_r2 : List Cond := [Cond.fieldLink RX4 13 "GuessMarksModel" "colours" "I", Cond.fieldLink RX4 29 "GuessMarksModel" "has" "[I", Cond.fieldLink RX4 7 "GuessMarksModel" "places" "I", Cond.methodLink RX4 53 yX4_in, Cond.static yX4_in, Cond.code yX4_in cX4_in 3 (some .boolean), Cond.methodLink RX4 120 yX4_best, Cond.instanceMethod yX4_best, Cond.selects RX4 yX4_best yX4_best, Cond.code yX4_best cX4_best 9 (some .int), Cond.methodLink RX4 101 yX4_laysParts, Cond.instanceMethod yX4_laysParts, Cond.selects RX4 yX4_laysParts yX4_laysParts, Cond.code yX4_laysParts cX4_laysParts 5 none, Cond.fieldLink RX4 32 "GuessMarksModel" "size" "[I", Cond.methodLink RX4 111 yX4_worst, Cond.instanceMethod yX4_worst, Cond.selects RX4 yX4_worst yX4_worst, Cond.code yX4_worst cX4_worst 3 (some .int), Cond.methodLink RX4 114 yX4_squares, Cond.instanceMethod yX4_squares, Cond.selects RX4 yX4_squares yX4_squares, Cond.code yX4_squares cX4_squares 3 (some .int), Cond.methodLink RX4 108 yX4_manyParts]
def wsX4_bestGuess_r3 : List Cond := [Cond.instanceMethod yX4_manyParts, Cond.selects RX4 yX4_manyParts yX4_manyParts, Cond.code yX4_manyParts cX4_manyParts 3 (some .int), Cond.methodLink RX4 117 yX4_isAmong, Cond.instanceMethod yX4_isAmong, Cond.selects RX4 yX4_isAmong yX4_isAmong, Cond.code yX4_isAmong cX4_isAmong 6 (some .boolean)]
def wsX4_bestGuess : List Cond := .code yX4_bestGuess cX4_bestGuess 3 (some .int) :: ((wsX4_bestGuess_r1 ++ (wsX4_bestGuess_r2 ++ wsX4_bestGuess_r3)) ++ wsX40)
def wsX4_guessesNeeded_r1 : List Cond := [Cond.fieldLink RX4 50 "GuessMarksModel" "thrown" "I", Cond.fieldLink RX4 38 "GuessMarksModel" "from" "[I", Cond.fieldLink RX4 41 "GuessMarksModel" "many" "[I", Cond.fieldLink RX4 44 "GuessMarksModel" "depth" "[I", Cond.fieldLink RX4 7 "GuessMarksModel" "places" "I", Cond.fieldLink RX4 35 "GuessMarksModel" "set" "[I", Cond.methodLink RX4 98 yX4_laysLeft, Cond.instanceMethod yX4_laysLeft, Cond.selects RX4 yX4_laysLeft yX4_laysLeft, Cond.initialized RX4, Cond.code yX4_laysLeft cX4_laysLeft 3 (some .int), Cond.fieldLink RX4 16 "GuessMarksModel" "rows" "I", Cond.methodLink RX4 81 yX4_isStill, Cond.instanceMethod yX4_isStill, Cond.selects RX4 yX4_isStill yX4_isStill, Cond.code yX4_isStill cX4_isStill 2 (some .boolean), Cond.fieldLink RX4 61 "GuessMarksModel" "allowed" "I", Cond.methodLink RX4 77 yX4_lies, Cond.instanceMethod yX4_lies, Cond.selects RX4 yX4_lies yX4_lies, Cond.code yX4_lies cX4_lies 4 (some .int), Cond.fieldLink RX4 64 "GuessMarksModel" "entries" "I", Cond.fieldLink RX4 22 "GuessMarksModel" "guess" "[I", Cond.fieldLink RX4 26 "GuessMarksModel" "told" "[I"]
def wsX4_guessesNeeded_r2 : List Cond := [Cond.methodLink RX4 74 yX4_markOfRows, Cond.instanceMethod yX4_markOfRows, Cond.selects RX4 yX4_markOfRows yX4_markOfRows, Cond.code yX4_markOfRows cX4_markOfRows 8 (some .int), Cond.fieldLink RX4 13 "GuessMarksModel" "colours" "I", Cond.fieldLink RX4 29 "GuessMarksModel" "has" "[I", Cond.methodLink RX4 120 yX4_best, Cond.instanceMethod yX4_best, Cond.selects RX4 yX4_best yX4_best, Cond.code yX4_best cX4_best 9 (some .int), Cond.methodLink RX4 101 yX4_laysParts, Cond.instanceMethod yX4_laysParts, Cond.selects RX4 yX4_laysParts yX4_laysParts, Cond.code yX4_laysParts cX4_laysParts 5 none, Cond.fieldLink RX4 32 "GuessMarksModel" "size" "[I", Cond.methodLink RX4 111 yX4_worst, Cond.instanceMethod yX4_worst, Cond.selects RX4 yX4_worst yX4_worst, Cond.code yX4_worst cX4_worst 3 (some .int), Cond.methodLink RX4 114 yX4_squares, Cond.instanceMethod yX4_squares, Cond.selects RX4 yX4_squares yX4_squares, Cond.code yX4_squares cX4_squares 3 (some .int), Cond.methodLink RX4 108 yX4_manyParts]
def wsX4_guessesNeeded_r3 : List Cond := [Cond.instanceMethod yX4_manyParts, Cond.selects RX4 yX4_manyParts yX4_manyParts, Cond.code yX4_manyParts cX4_manyParts 3 (some .int), Cond.methodLink RX4 117 yX4_isAmong, Cond.instanceMethod yX4_isAmong, Cond.selects RX4 yX4_isAmong yX4_isAmong, Cond.code yX4_isAmong cX4_isAmong 6 (some .boolean)]
def wsX4_guessesNeeded : List Cond := .code yX4_guessesNeeded cX4_guessesNeeded 10 (some .int) :: ((wsX4_guessesNeeded_r1 ++ (wsX4_guessesNeeded_r2 ++ wsX4_guessesNeeded_r3)) ++ wsX40)
def wsX4_laysLies : List Cond := .code yX4_laysLies cX4_laysLies 3 none :: ([.fieldLink RX4 16 "GuessMarksModel" "rows" "I", .fieldLink RX4 47 "GuessMarksModel" "lieSets" "[I", .fieldLink RX4 64 "GuessMarksModel" "entries" "I", .fieldLink RX4 22 "GuessMarksModel" "guess" "[I", .fieldLink RX4 26 "GuessMarksModel" "told" "[I", .methodLink RX4 74 yX4_markOfRows, .instanceMethod yX4_markOfRows, .selects RX4 yX4_markOfRows yX4_markOfRows, .initialized RX4, .code yX4_markOfRows cX4_markOfRows 8 (some .int), .fieldLink RX4 13 "GuessMarksModel" "colours" "I", .fieldLink RX4 29 "GuessMarksModel" "has" "[I", .fieldLink RX4 7 "GuessMarksModel" "places" "I"] ++ wsX40)
def wsX4_bits : List Cond := .code yX4_bits cX4_bits 3 (some .int) :: ([])
def wsX4_isProof : List Cond := .code yX4_isProof cX4_isProof 4 (some .boolean) :: ([.fieldLink RX4 16 "GuessMarksModel" "rows" "I", .fieldLink RX4 47 "GuessMarksModel" "lieSets" "[I", .fieldLink RX4 61 "GuessMarksModel" "allowed" "I", .methodLink RX4 124 yX4_bits, .static yX4_bits, .initialized RX4, .code yX4_bits cX4_bits 3 (some .int)] ++ wsX40)
def wsX4_isAhead : List Cond := .code yX4_isAhead cX4_isAhead 4 (some .boolean) :: ([.methodLink RX4 124 yX4_bits, .static yX4_bits, .initialized RX4, .code yX4_bits cX4_bits 3 (some .int)])
def wsX4_proof_r1 : List Cond := [Cond.fieldLink RX4 64 "GuessMarksModel" "entries" "I", Cond.methodLink RX4 127 yX4_laysLies, Cond.instanceMethod yX4_laysLies, Cond.selects RX4 yX4_laysLies yX4_laysLies, Cond.initialized RX4, Cond.code yX4_laysLies cX4_laysLies 3 none, Cond.fieldLink RX4 16 "GuessMarksModel" "rows" "I", Cond.fieldLink RX4 47 "GuessMarksModel" "lieSets" "[I", Cond.fieldLink RX4 22 "GuessMarksModel" "guess" "[I", Cond.fieldLink RX4 26 "GuessMarksModel" "told" "[I", Cond.methodLink RX4 74 yX4_markOfRows, Cond.instanceMethod yX4_markOfRows, Cond.selects RX4 yX4_markOfRows yX4_markOfRows, Cond.code yX4_markOfRows cX4_markOfRows 8 (some .int), Cond.fieldLink RX4 13 "GuessMarksModel" "colours" "I", Cond.fieldLink RX4 29 "GuessMarksModel" "has" "[I", Cond.fieldLink RX4 7 "GuessMarksModel" "places" "I", Cond.methodLink RX4 130 yX4_isAhead, Cond.static yX4_isAhead, Cond.code yX4_isAhead cX4_isAhead 4 (some .boolean), Cond.methodLink RX4 124 yX4_bits, Cond.static yX4_bits, Cond.code yX4_bits cX4_bits 3 (some .int), Cond.methodLink RX4 134 yX4_isProof]
def wsX4_proof_r2 : List Cond := [Cond.instanceMethod yX4_isProof, Cond.selects RX4 yX4_isProof yX4_isProof, Cond.code yX4_isProof cX4_isProof 4 (some .boolean), Cond.fieldLink RX4 61 "GuessMarksModel" "allowed" "I"]
def wsX4_proof : List Cond := .code yX4_proof cX4_proof 3 (some .int) :: ((wsX4_proof_r1 ++ wsX4_proof_r2) ++ wsX40)
def wsX4_proofSize_r1 : List Cond := [Cond.fieldLink RX4 50 "GuessMarksModel" "thrown" "I", Cond.methodLink RX4 91 yX4_manyLeft, Cond.instanceMethod yX4_manyLeft, Cond.selects RX4 yX4_manyLeft yX4_manyLeft, Cond.initialized RX4, Cond.code yX4_manyLeft cX4_manyLeft 3 (some .int), Cond.fieldLink RX4 16 "GuessMarksModel" "rows" "I", Cond.methodLink RX4 81 yX4_isStill, Cond.instanceMethod yX4_isStill, Cond.selects RX4 yX4_isStill yX4_isStill, Cond.code yX4_isStill cX4_isStill 2 (some .boolean), Cond.fieldLink RX4 61 "GuessMarksModel" "allowed" "I", Cond.methodLink RX4 77 yX4_lies, Cond.instanceMethod yX4_lies, Cond.selects RX4 yX4_lies yX4_lies, Cond.code yX4_lies cX4_lies 4 (some .int), Cond.fieldLink RX4 64 "GuessMarksModel" "entries" "I", Cond.fieldLink RX4 22 "GuessMarksModel" "guess" "[I", Cond.fieldLink RX4 26 "GuessMarksModel" "told" "[I", Cond.methodLink RX4 74 yX4_markOfRows, Cond.instanceMethod yX4_markOfRows, Cond.selects RX4 yX4_markOfRows yX4_markOfRows, Cond.code yX4_markOfRows cX4_markOfRows 8 (some .int), Cond.fieldLink RX4 13 "GuessMarksModel" "colours" "I"]
def wsX4_proofSize_r2 : List Cond := [Cond.fieldLink RX4 29 "GuessMarksModel" "has" "[I", Cond.fieldLink RX4 7 "GuessMarksModel" "places" "I", Cond.methodLink RX4 137 yX4_proof, Cond.instanceMethod yX4_proof, Cond.selects RX4 yX4_proof yX4_proof, Cond.code yX4_proof cX4_proof 3 (some .int), Cond.methodLink RX4 127 yX4_laysLies, Cond.instanceMethod yX4_laysLies, Cond.selects RX4 yX4_laysLies yX4_laysLies, Cond.code yX4_laysLies cX4_laysLies 3 none, Cond.fieldLink RX4 47 "GuessMarksModel" "lieSets" "[I", Cond.methodLink RX4 130 yX4_isAhead, Cond.static yX4_isAhead, Cond.code yX4_isAhead cX4_isAhead 4 (some .boolean), Cond.methodLink RX4 124 yX4_bits, Cond.static yX4_bits, Cond.code yX4_bits cX4_bits 3 (some .int), Cond.methodLink RX4 134 yX4_isProof, Cond.instanceMethod yX4_isProof, Cond.selects RX4 yX4_isProof yX4_isProof, Cond.code yX4_isProof cX4_isProof 4 (some .boolean)]
def wsX4_proofSize : List Cond := .code yX4_proofSize cX4_proofSize 1 (some .int) :: ((wsX4_proofSize_r1 ++ wsX4_proofSize_r2) ++ wsX40)
def wsX4_isInProof_r1 : List Cond := [Cond.fieldLink RX4 50 "GuessMarksModel" "thrown" "I", Cond.methodLink RX4 95 yX4_isEntry, Cond.instanceMethod yX4_isEntry, Cond.selects RX4 yX4_isEntry yX4_isEntry, Cond.initialized RX4, Cond.code yX4_isEntry cX4_isEntry 2 (some .boolean), Cond.fieldLink RX4 64 "GuessMarksModel" "entries" "I", Cond.methodLink RX4 53 yX4_in, Cond.static yX4_in, Cond.code yX4_in cX4_in 3 (some .boolean), Cond.methodLink RX4 91 yX4_manyLeft, Cond.instanceMethod yX4_manyLeft, Cond.selects RX4 yX4_manyLeft yX4_manyLeft, Cond.code yX4_manyLeft cX4_manyLeft 3 (some .int), Cond.fieldLink RX4 16 "GuessMarksModel" "rows" "I", Cond.methodLink RX4 81 yX4_isStill, Cond.instanceMethod yX4_isStill, Cond.selects RX4 yX4_isStill yX4_isStill, Cond.code yX4_isStill cX4_isStill 2 (some .boolean), Cond.fieldLink RX4 61 "GuessMarksModel" "allowed" "I", Cond.methodLink RX4 77 yX4_lies, Cond.instanceMethod yX4_lies, Cond.selects RX4 yX4_lies yX4_lies, Cond.code yX4_lies cX4_lies 4 (some .int)]
def wsX4_isInProof_r2 : List Cond := [Cond.fieldLink RX4 22 "GuessMarksModel" "guess" "[I", Cond.fieldLink RX4 26 "GuessMarksModel" "told" "[I", Cond.methodLink RX4 74 yX4_markOfRows, Cond.instanceMethod yX4_markOfRows, Cond.selects RX4 yX4_markOfRows yX4_markOfRows, Cond.code yX4_markOfRows cX4_markOfRows 8 (some .int), Cond.fieldLink RX4 13 "GuessMarksModel" "colours" "I", Cond.fieldLink RX4 29 "GuessMarksModel" "has" "[I", Cond.fieldLink RX4 7 "GuessMarksModel" "places" "I", Cond.methodLink RX4 137 yX4_proof, Cond.instanceMethod yX4_proof, Cond.selects RX4 yX4_proof yX4_proof, Cond.code yX4_proof cX4_proof 3 (some .int), Cond.methodLink RX4 127 yX4_laysLies, Cond.instanceMethod yX4_laysLies, Cond.selects RX4 yX4_laysLies yX4_laysLies, Cond.code yX4_laysLies cX4_laysLies 3 none, Cond.fieldLink RX4 47 "GuessMarksModel" "lieSets" "[I", Cond.methodLink RX4 130 yX4_isAhead, Cond.static yX4_isAhead, Cond.code yX4_isAhead cX4_isAhead 4 (some .boolean), Cond.methodLink RX4 124 yX4_bits, Cond.static yX4_bits, Cond.code yX4_bits cX4_bits 3 (some .int)]
def wsX4_isInProof_r3 : List Cond := [Cond.methodLink RX4 134 yX4_isProof, Cond.instanceMethod yX4_isProof, Cond.selects RX4 yX4_isProof yX4_isProof, Cond.code yX4_isProof cX4_isProof 4 (some .boolean)]
def wsX4_isInProof : List Cond := .code yX4_isInProof cX4_isInProof 2 (some .boolean) :: ((wsX4_isInProof_r1 ++ (wsX4_isInProof_r2 ++ wsX4_isInProof_r3)) ++ wsX40)
def wsJ9_max_7cf53 : List Cond := .code yJ9_max_7cf53 cJ9_max_7cf53 2 (some .int) :: ([])
def wsL_begin_r1 : List Cond := [Cond.classLink RL 13 "java/lang/IllegalArgumentException", Cond.methodLink RL 7 yX3_begin, Cond.instanceMethod yX3_begin, Cond.selects RX3 yX3_begin yX3_begin, Cond.initialized RX3, Cond.code yX3_begin cX3_begin 3 (some .int), Cond.classLink RX3 46 "java/lang/IllegalArgumentException", Cond.initialized "java/lang/IllegalArgumentException", Cond.fieldLink RX3 12 "GuessMarks" "game" "LGuessMarks$Game;", Cond.fieldLink RX3 53 "GuessMarks$Game" "rows" "I", Cond.methodLink RX3 39 yX1_lay, Cond.instanceMethod yX1_lay, Cond.selects RX1 yX1_lay yX1_lay, Cond.initialized RX1, Cond.code yX1_lay cX1_lay 5 (some .boolean), Cond.fieldLink RX1 19 "GuessMarks$Game" "places" "I", Cond.fieldLink RX1 23 "GuessMarks$Game" "colours" "I", Cond.fieldLink RX1 26 "GuessMarks$Game" "rows" "I", Cond.methodLink RX1 29 yX1_layRow, Cond.instanceMethod yX1_layRow, Cond.selects RX1 yX1_layRow yX1_layRow, Cond.code yX1_layRow cX1_layRow 8 none, Cond.fieldLink RX1 9 "GuessMarks$Game" "colourBits" "[I", Cond.fieldLink RX1 15 "GuessMarks$Game" "pinBits" "[J"]
def wsL_begin_r2 : List Cond := [Cond.methodLink RX1 33 yX1_withPin, Cond.static yX1_withPin, Cond.code yX1_withPin cX1_withPin 6 (some .long), Cond.constantLong RX1 41 (255), Cond.methodLink RX1 37 yX1_has, Cond.instanceMethod yX1_has, Cond.selects RX1 yX1_has yX1_has, Cond.code yX1_has cX1_has 2 (some .boolean), Cond.methodLink RX3 43 yX3_tellNothing, Cond.instanceMethod yX3_tellNothing, Cond.selects RX3 yX3_tellNothing yX3_tellNothing, Cond.code yX3_tellNothing cX3_tellNothing 1 none, Cond.fieldLink RX3 21 "GuessMarks" "told" "LGuessMarks$Entries;", Cond.fieldLink RX3 92 "GuessMarks" "liesAllowed" "I", Cond.fieldLink RX3 80 "GuessMarks" "hiddenRow" "I", Cond.methodLink RX3 98 yX0_forgetAll, Cond.instanceMethod yX0_forgetAll, Cond.selects RX0 yX0_forgetAll yX0_forgetAll, Cond.initialized RX0, Cond.code yX0_forgetAll cX0_forgetAll 1 none, Cond.fieldLink RX0 25 "GuessMarks$Entries" "count" "I", Cond.fieldLink RX0 18 "GuessMarks$Entries" "lieBits" "[I", Cond.methodLink RX0 29 yJ7_fill_53178, Cond.static yJ7_fill_53178]
def wsL_begin_r3 : List Cond := [Cond.initialized RJ7, Cond.code yJ7_fill_53178 cJ7_fill_53178 4 none, Cond.methodLink RX3 95 yX3_listRowsLeft, Cond.instanceMethod yX3_listRowsLeft, Cond.selects RX3 yX3_listRowsLeft yX3_listRowsLeft, Cond.code yX3_listRowsLeft cX3_listRowsLeft 2 none, Cond.fieldLink RX3 133 "GuessMarks" "leftCount" "I", Cond.fieldLink RX3 32 "GuessMarks" "rowsLeft" "[I", Cond.methodLink RX3 110 yX3_remains, Cond.instanceMethod yX3_remains, Cond.selects RX3 yX3_remains yX3_remains, Cond.code yX3_remains cX3_remains 2 (some .boolean), Cond.methodLink RX3 83 yX0_countLies, Cond.instanceMethod yX0_countLies, Cond.selects RX0 yX0_countLies yX0_countLies, Cond.code yX0_countLies cX0_countLies 2 (some .int), Cond.methodLink RX0 52 yX0_allBits, Cond.instanceMethod yX0_allBits, Cond.selects RX0 yX0_allBits yX0_allBits, Cond.code yX0_allBits cX0_allBits 1 (some .int), Cond.methodLink RX0 56 yX0_countLiesIn, Cond.instanceMethod yX0_countLiesIn, Cond.selects RX0 yX0_countLiesIn yX0_countLiesIn, Cond.code yX0_countLiesIn cX0_countLiesIn 3 (some .int)]
def wsL_begin_r4 : List Cond := [Cond.fieldLink RX0 21 "GuessMarks$Entries" "game" "LGuessMarks$Game;", Cond.methodLink RX0 59 yX1_has, Cond.methodLink RX0 60 yJ6_bitCount_0f7a4, Cond.static yJ6_bitCount_0f7a4, Cond.initialized RJ6, Cond.code yJ6_bitCount_0f7a4 cJ6_bitCount_0f7a4 1 (some .int), Cond.constant RJ6 265 (1431655765), Cond.constant RJ6 266 (858993459), Cond.constant RJ6 267 (252645135)]
def wsL_begin : List Cond := .codeWith yL_begin cL_begin 5 (some .int) [(0, 10, 13, 13)] :: ((wsL_begin_r1 ++ (wsL_begin_r2 ++ (wsL_begin_r3 ++ wsL_begin_r4))) ++ wsX30 ++ wsX10 ++ wsX00 ++ (vx_atS RX3 50 "java/lang/IllegalArgumentException" ["java/lang/RuntimeException", "java/lang/Exception"]).filter goodWord)
def wsL_colourAt : List Cond := .codeWith yL_colourAt cL_colourAt 5 (some .int) [(0, 10, 13, 18)] :: ([.classLink RL 18 "java/lang/IndexOutOfBoundsException", .methodLink RL 15 yX3_colourAt, .instanceMethod yX3_colourAt, .selects RX3 yX3_colourAt yX3_colourAt, .initialized RX3, .code yX3_colourAt cX3_colourAt 3 (some .int), .classLink RX3 64 "java/lang/IndexOutOfBoundsException", .initialized "java/lang/IndexOutOfBoundsException", .fieldLink RX3 12 "GuessMarks" "game" "LGuessMarks$Game;", .fieldLink RX3 61 "GuessMarks$Game" "places" "I", .methodLink RX3 57 yX1_has, .instanceMethod yX1_has, .selects RX1 yX1_has yX1_has, .initialized RX1, .code yX1_has cX1_has 2 (some .boolean), .fieldLink RX1 26 "GuessMarks$Game" "rows" "I", .methodLink RX3 69 yX1_colourOf, .instanceMethod yX1_colourOf, .selects RX1 yX1_colourOf yX1_colourOf, .code yX1_colourOf cX1_colourOf 3 (some .int), .fieldLink RX1 9 "GuessMarks$Game" "colourBits" "[I", .fieldLink RX1 19 "GuessMarks$Game" "places" "I", .methodLink RX1 37 yX1_has] ++ wsX30 ++ wsX10 ++ (vx_atS RX3 68 "java/lang/IndexOutOfBoundsException" ["java/lang/RuntimeException", "java/lang/Exception"]).filter goodWord)
def wsL_mark_r1 : List Cond := [Cond.classLink RL 18 "java/lang/IndexOutOfBoundsException", Cond.methodLink RL 20 yX3_mark, Cond.instanceMethod yX3_mark, Cond.selects RX3 yX3_mark yX3_mark, Cond.initialized RX3, Cond.code yX3_mark cX3_mark 3 (some .int), Cond.classLink RX3 64 "java/lang/IndexOutOfBoundsException", Cond.initialized "java/lang/IndexOutOfBoundsException", Cond.fieldLink RX3 12 "GuessMarks" "game" "LGuessMarks$Game;", Cond.methodLink RX3 57 yX1_has, Cond.instanceMethod yX1_has, Cond.selects RX1 yX1_has yX1_has, Cond.initialized RX1, Cond.code yX1_has cX1_has 2 (some .boolean), Cond.fieldLink RX1 26 "GuessMarks$Game" "rows" "I", Cond.methodLink RX3 75 yX1_compare, Cond.instanceMethod yX1_compare, Cond.selects RX1 yX1_compare yX1_compare, Cond.code yX1_compare cX1_compare 7 (some .int), Cond.fieldLink RX1 9 "GuessMarks$Game" "colourBits" "[I", Cond.constant RX1 43 (2396745), Cond.fieldLink RX1 19 "GuessMarks$Game" "places" "I", Cond.fieldLink RX1 15 "GuessMarks$Game" "pinBits" "[J", Cond.methodLink RX1 37 yX1_has]
def wsL_mark_r2 : List Cond := [Cond.methodLink RX1 44 yJ6_bitCount_0f7a4, Cond.static yJ6_bitCount_0f7a4, Cond.initialized RJ6, Cond.code yJ6_bitCount_0f7a4 cJ6_bitCount_0f7a4 1 (some .int), Cond.constant RJ6 265 (1431655765), Cond.constant RJ6 266 (858993459), Cond.constant RJ6 267 (252645135), Cond.methodLink RX1 50 yJ13_bitCount_95d88, Cond.static yJ13_bitCount_95d88, Cond.initialized RJ13, Cond.code yJ13_bitCount_95d88 cJ13_bitCount_95d88 2 (some .int), Cond.constantLong RJ13 314 (6148914691236517205), Cond.constantLong RJ13 316 (3689348814741910323), Cond.constantLong RJ13 318 (1085102592571150095)]
def wsL_mark : List Cond := .codeWith yL_mark cL_mark 5 (some .int) [(0, 10, 13, 18)] :: ((wsL_mark_r1 ++ wsL_mark_r2) ++ wsX30 ++ wsX10 ++ (vx_atS RX3 68 "java/lang/IndexOutOfBoundsException" ["java/lang/RuntimeException", "java/lang/Exception"]).filter goodWord)
def wsL_allowLies_r1 : List Cond := [Cond.classLink RL 13 "java/lang/IllegalArgumentException", Cond.classLink RL 27 "java/lang/IllegalStateException", Cond.methodLink RL 23 yX3_allowLies, Cond.instanceMethod yX3_allowLies, Cond.selects RX3 yX3_allowLies yX3_allowLies, Cond.initialized RX3, Cond.code yX3_allowLies cX3_allowLies 3 (some .int), Cond.classLink RX3 46 "java/lang/IllegalArgumentException", Cond.initialized "java/lang/IllegalArgumentException", Cond.classLink RX3 87 "java/lang/IllegalStateException", Cond.initialized "java/lang/IllegalStateException", Cond.fieldLink RX3 80 "GuessMarks" "hiddenRow" "I", Cond.fieldLink RX3 21 "GuessMarks" "told" "LGuessMarks$Entries;", Cond.fieldLink RX3 92 "GuessMarks" "liesAllowed" "I", Cond.methodLink RX3 83 yX0_countLies, Cond.instanceMethod yX0_countLies, Cond.selects RX0 yX0_countLies yX0_countLies, Cond.initialized RX0, Cond.code yX0_countLies cX0_countLies 2 (some .int), Cond.methodLink RX0 52 yX0_allBits, Cond.instanceMethod yX0_allBits, Cond.selects RX0 yX0_allBits yX0_allBits, Cond.code yX0_allBits cX0_allBits 1 (some .int), Cond.fieldLink RX0 25 "GuessMarks$Entries" "count" "I"]
def wsL_allowLies_r2 : List Cond := [Cond.methodLink RX0 56 yX0_countLiesIn, Cond.instanceMethod yX0_countLiesIn, Cond.selects RX0 yX0_countLiesIn yX0_countLiesIn, Cond.code yX0_countLiesIn cX0_countLiesIn 3 (some .int), Cond.fieldLink RX0 21 "GuessMarks$Entries" "game" "LGuessMarks$Game;", Cond.fieldLink RX0 18 "GuessMarks$Entries" "lieBits" "[I", Cond.methodLink RX0 59 yX1_has, Cond.instanceMethod yX1_has, Cond.selects RX1 yX1_has yX1_has, Cond.initialized RX1, Cond.code yX1_has cX1_has 2 (some .boolean), Cond.fieldLink RX1 26 "GuessMarks$Game" "rows" "I", Cond.methodLink RX0 60 yJ6_bitCount_0f7a4, Cond.static yJ6_bitCount_0f7a4, Cond.initialized RJ6, Cond.code yJ6_bitCount_0f7a4 cJ6_bitCount_0f7a4 1 (some .int), Cond.constant RJ6 265 (1431655765), Cond.constant RJ6 266 (858993459), Cond.constant RJ6 267 (252645135), Cond.methodLink RX3 95 yX3_listRowsLeft, Cond.instanceMethod yX3_listRowsLeft, Cond.selects RX3 yX3_listRowsLeft yX3_listRowsLeft, Cond.code yX3_listRowsLeft cX3_listRowsLeft 2 none, Cond.fieldLink RX3 133 "GuessMarks" "leftCount" "I"]
def wsL_allowLies_r3 : List Cond := [Cond.fieldLink RX3 12 "GuessMarks" "game" "LGuessMarks$Game;", Cond.fieldLink RX3 53 "GuessMarks$Game" "rows" "I", Cond.fieldLink RX3 32 "GuessMarks" "rowsLeft" "[I", Cond.methodLink RX3 110 yX3_remains, Cond.instanceMethod yX3_remains, Cond.selects RX3 yX3_remains yX3_remains, Cond.code yX3_remains cX3_remains 2 (some .boolean)]
def wsL_allowLies : List Cond := .codeWith yL_allowLies cL_allowLies 4 (some .int) [(0, 9, 12, 13), (0, 9, 15, 27)] :: ((wsL_allowLies_r1 ++ (wsL_allowLies_r2 ++ wsL_allowLies_r3)) ++ wsX30 ++ wsX00 ++ wsX10 ++ (vx_atS RX3 50 "java/lang/IllegalArgumentException" ["java/lang/RuntimeException", "java/lang/Exception"]).filter goodWord ++ (vx_atS RX3 91 "java/lang/IllegalStateException" ["java/lang/RuntimeException", "java/lang/Exception"]).filter goodWord)
def wsL_hide_r1 : List Cond := [Cond.classLink RL 18 "java/lang/IndexOutOfBoundsException", Cond.classLink RL 27 "java/lang/IllegalStateException", Cond.methodLink RL 29 yX3_hide, Cond.instanceMethod yX3_hide, Cond.selects RX3 yX3_hide yX3_hide, Cond.initialized RX3, Cond.code yX3_hide cX3_hide 3 (some .boolean), Cond.classLink RX3 87 "java/lang/IllegalStateException", Cond.initialized "java/lang/IllegalStateException", Cond.fieldLink RX3 80 "GuessMarks" "hiddenRow" "I", Cond.methodLink RX3 106 yX3_requireRow, Cond.instanceMethod yX3_requireRow, Cond.selects RX3 yX3_requireRow yX3_requireRow, Cond.code yX3_requireRow cX3_requireRow 2 none, Cond.classLink RX3 64 "java/lang/IndexOutOfBoundsException", Cond.initialized "java/lang/IndexOutOfBoundsException", Cond.fieldLink RX3 12 "GuessMarks" "game" "LGuessMarks$Game;", Cond.methodLink RX3 57 yX1_has, Cond.instanceMethod yX1_has, Cond.selects RX1 yX1_has yX1_has, Cond.initialized RX1, Cond.code yX1_has cX1_has 2 (some .boolean), Cond.fieldLink RX1 26 "GuessMarks$Game" "rows" "I", Cond.methodLink RX3 110 yX3_remains]
def wsL_hide_r2 : List Cond := [Cond.instanceMethod yX3_remains, Cond.selects RX3 yX3_remains yX3_remains, Cond.code yX3_remains cX3_remains 2 (some .boolean), Cond.fieldLink RX3 21 "GuessMarks" "told" "LGuessMarks$Entries;", Cond.fieldLink RX3 92 "GuessMarks" "liesAllowed" "I", Cond.methodLink RX3 83 yX0_countLies, Cond.instanceMethod yX0_countLies, Cond.selects RX0 yX0_countLies yX0_countLies, Cond.initialized RX0, Cond.code yX0_countLies cX0_countLies 2 (some .int), Cond.methodLink RX0 52 yX0_allBits, Cond.instanceMethod yX0_allBits, Cond.selects RX0 yX0_allBits yX0_allBits, Cond.code yX0_allBits cX0_allBits 1 (some .int), Cond.fieldLink RX0 25 "GuessMarks$Entries" "count" "I", Cond.methodLink RX0 56 yX0_countLiesIn, Cond.instanceMethod yX0_countLiesIn, Cond.selects RX0 yX0_countLiesIn yX0_countLiesIn, Cond.code yX0_countLiesIn cX0_countLiesIn 3 (some .int), Cond.fieldLink RX0 21 "GuessMarks$Entries" "game" "LGuessMarks$Game;", Cond.fieldLink RX0 18 "GuessMarks$Entries" "lieBits" "[I", Cond.methodLink RX0 59 yX1_has, Cond.methodLink RX0 60 yJ6_bitCount_0f7a4, Cond.static yJ6_bitCount_0f7a4]
def wsL_hide_r3 : List Cond := [Cond.initialized RJ6, Cond.code yJ6_bitCount_0f7a4 cJ6_bitCount_0f7a4 1 (some .int), Cond.constant RJ6 265 (1431655765), Cond.constant RJ6 266 (858993459), Cond.constant RJ6 267 (252645135)]
def wsL_hide : List Cond := .codeWith yL_hide cL_hide 4 (some .int) [(0, 16, 19, 18), (0, 16, 22, 27)] :: ((wsL_hide_r1 ++ (wsL_hide_r2 ++ wsL_hide_r3)) ++ wsX30 ++ wsX10 ++ wsX00 ++ (vx_atS RX3 91 "java/lang/IllegalStateException" ["java/lang/RuntimeException", "java/lang/Exception"]).filter goodWord ++ (vx_atS RX3 68 "java/lang/IndexOutOfBoundsException" ["java/lang/RuntimeException", "java/lang/Exception"]).filter goodWord)
def wsL_guess_r1 : List Cond := [Cond.classLink RL 18 "java/lang/IndexOutOfBoundsException", Cond.classLink RL 27 "java/lang/IllegalStateException", Cond.methodLink RL 33 yX3_guess, Cond.instanceMethod yX3_guess, Cond.selects RX3 yX3_guess yX3_guess, Cond.initialized RX3, Cond.code yX3_guess cX3_guess 3 (some .int), Cond.classLink RX3 87 "java/lang/IllegalStateException", Cond.initialized "java/lang/IllegalStateException", Cond.fieldLink RX3 80 "GuessMarks" "hiddenRow" "I", Cond.fieldLink RX3 21 "GuessMarks" "told" "LGuessMarks$Entries;", Cond.fieldLink RX3 12 "GuessMarks" "game" "LGuessMarks$Game;", Cond.methodLink RX3 106 yX3_requireRow, Cond.instanceMethod yX3_requireRow, Cond.selects RX3 yX3_requireRow yX3_requireRow, Cond.code yX3_requireRow cX3_requireRow 2 none, Cond.classLink RX3 64 "java/lang/IndexOutOfBoundsException", Cond.initialized "java/lang/IndexOutOfBoundsException", Cond.methodLink RX3 57 yX1_has, Cond.instanceMethod yX1_has, Cond.selects RX1 yX1_has yX1_has, Cond.initialized RX1, Cond.code yX1_has cX1_has 2 (some .boolean), Cond.fieldLink RX1 26 "GuessMarks$Game" "rows" "I"]
def wsL_guess_r2 : List Cond := [Cond.methodLink RX3 115 yX0_isFull, Cond.instanceMethod yX0_isFull, Cond.selects RX0 yX0_isFull yX0_isFull, Cond.initialized RX0, Cond.code yX0_isFull cX0_isFull 1 (some .boolean), Cond.fieldLink RX0 25 "GuessMarks$Entries" "count" "I", Cond.methodLink RX3 75 yX1_compare, Cond.instanceMethod yX1_compare, Cond.selects RX1 yX1_compare yX1_compare, Cond.code yX1_compare cX1_compare 7 (some .int), Cond.fieldLink RX1 9 "GuessMarks$Game" "colourBits" "[I", Cond.constant RX1 43 (2396745), Cond.fieldLink RX1 19 "GuessMarks$Game" "places" "I", Cond.fieldLink RX1 15 "GuessMarks$Game" "pinBits" "[J", Cond.methodLink RX1 37 yX1_has, Cond.methodLink RX1 44 yJ6_bitCount_0f7a4, Cond.static yJ6_bitCount_0f7a4, Cond.initialized RJ6, Cond.code yJ6_bitCount_0f7a4 cJ6_bitCount_0f7a4 1 (some .int), Cond.constant RJ6 265 (1431655765), Cond.constant RJ6 266 (858993459), Cond.constant RJ6 267 (252645135), Cond.methodLink RX1 50 yJ13_bitCount_95d88, Cond.static yJ13_bitCount_95d88]
def wsL_guess_r3 : List Cond := [Cond.initialized RJ13, Cond.code yJ13_bitCount_95d88 cJ13_bitCount_95d88 2 (some .int), Cond.constantLong RJ13 314 (6148914691236517205), Cond.constantLong RJ13 316 (3689348814741910323), Cond.constantLong RJ13 318 (1085102592571150095), Cond.methodLink RX3 121 yX3_addEntry, Cond.instanceMethod yX3_addEntry, Cond.selects RX3 yX3_addEntry yX3_addEntry, Cond.code yX3_addEntry cX3_addEntry 3 none, Cond.methodLink RX3 156 yX0_add, Cond.instanceMethod yX0_add, Cond.selects RX0 yX0_add yX0_add, Cond.code yX0_add cX0_add 5 none, Cond.fieldLink RX0 9 "GuessMarks$Entries" "guesses" "[I", Cond.fieldLink RX0 15 "GuessMarks$Entries" "marks" "[I", Cond.fieldLink RX0 21 "GuessMarks$Entries" "game" "LGuessMarks$Game;", Cond.fieldLink RX0 43 "GuessMarks$Game" "rows" "I", Cond.fieldLink RX0 18 "GuessMarks$Entries" "lieBits" "[I", Cond.methodLink RX0 39 yX0_isFull, Cond.methodLink RX0 48 yX1_compare, Cond.methodLink RX3 95 yX3_listRowsLeft, Cond.instanceMethod yX3_listRowsLeft, Cond.selects RX3 yX3_listRowsLeft yX3_listRowsLeft, Cond.code yX3_listRowsLeft cX3_listRowsLeft 2 none]
def wsL_guess_r4 : List Cond := [Cond.fieldLink RX3 133 "GuessMarks" "leftCount" "I", Cond.fieldLink RX3 53 "GuessMarks$Game" "rows" "I", Cond.fieldLink RX3 32 "GuessMarks" "rowsLeft" "[I", Cond.methodLink RX3 110 yX3_remains, Cond.instanceMethod yX3_remains, Cond.selects RX3 yX3_remains yX3_remains, Cond.code yX3_remains cX3_remains 2 (some .boolean), Cond.fieldLink RX3 92 "GuessMarks" "liesAllowed" "I", Cond.methodLink RX3 83 yX0_countLies, Cond.instanceMethod yX0_countLies, Cond.selects RX0 yX0_countLies yX0_countLies, Cond.code yX0_countLies cX0_countLies 2 (some .int), Cond.methodLink RX0 52 yX0_allBits, Cond.instanceMethod yX0_allBits, Cond.selects RX0 yX0_allBits yX0_allBits, Cond.code yX0_allBits cX0_allBits 1 (some .int), Cond.methodLink RX0 56 yX0_countLiesIn, Cond.instanceMethod yX0_countLiesIn, Cond.selects RX0 yX0_countLiesIn yX0_countLiesIn, Cond.code yX0_countLiesIn cX0_countLiesIn 3 (some .int), Cond.methodLink RX0 59 yX1_has, Cond.methodLink RX0 60 yJ6_bitCount_0f7a4]
def wsL_guess : List Cond := .codeWith yL_guess cL_guess 4 (some .int) [(0, 9, 12, 18), (0, 9, 15, 27)] :: ((wsL_guess_r1 ++ (wsL_guess_r2 ++ (wsL_guess_r3 ++ wsL_guess_r4))) ++ wsX30 ++ wsX10 ++ wsX00 ++ (vx_atS RX3 91 "java/lang/IllegalStateException" ["java/lang/RuntimeException", "java/lang/Exception"]).filter goodWord ++ (vx_atS RX3 68 "java/lang/IndexOutOfBoundsException" ["java/lang/RuntimeException", "java/lang/Exception"]).filter goodWord)
def wsL_tell_r1 : List Cond := [Cond.classLink RL 18 "java/lang/IndexOutOfBoundsException", Cond.classLink RL 13 "java/lang/IllegalArgumentException", Cond.classLink RL 27 "java/lang/IllegalStateException", Cond.methodLink RL 36 yX3_tell, Cond.instanceMethod yX3_tell, Cond.selects RX3 yX3_tell yX3_tell, Cond.initialized RX3, Cond.code yX3_tell cX3_tell 3 (some .int), Cond.classLink RX3 87 "java/lang/IllegalStateException", Cond.initialized "java/lang/IllegalStateException", Cond.fieldLink RX3 21 "GuessMarks" "told" "LGuessMarks$Entries;", Cond.fieldLink RX3 133 "GuessMarks" "leftCount" "I", Cond.methodLink RX3 106 yX3_requireRow, Cond.instanceMethod yX3_requireRow, Cond.selects RX3 yX3_requireRow yX3_requireRow, Cond.code yX3_requireRow cX3_requireRow 2 none, Cond.classLink RX3 64 "java/lang/IndexOutOfBoundsException", Cond.initialized "java/lang/IndexOutOfBoundsException", Cond.fieldLink RX3 12 "GuessMarks" "game" "LGuessMarks$Game;", Cond.methodLink RX3 57 yX1_has, Cond.instanceMethod yX1_has, Cond.selects RX1 yX1_has yX1_has, Cond.initialized RX1, Cond.code yX1_has cX1_has 2 (some .boolean)]
def wsL_tell_r2 : List Cond := [Cond.fieldLink RX1 26 "GuessMarks$Game" "rows" "I", Cond.methodLink RX3 125 yX3_requirePossible, Cond.instanceMethod yX3_requirePossible, Cond.selects RX3 yX3_requirePossible yX3_requirePossible, Cond.code yX3_requirePossible cX3_requirePossible 2 none, Cond.classLink RX3 46 "java/lang/IllegalArgumentException", Cond.initialized "java/lang/IllegalArgumentException", Cond.methodLink RX3 101 yX1_allows, Cond.instanceMethod yX1_allows, Cond.selects RX1 yX1_allows yX1_allows, Cond.code yX1_allows cX1_allows 5 (some .boolean), Cond.fieldLink RX1 19 "GuessMarks$Game" "places" "I", Cond.methodLink RX3 115 yX0_isFull, Cond.instanceMethod yX0_isFull, Cond.selects RX0 yX0_isFull yX0_isFull, Cond.initialized RX0, Cond.code yX0_isFull cX0_isFull 1 (some .boolean), Cond.fieldLink RX0 25 "GuessMarks$Entries" "count" "I", Cond.methodLink RX3 128 yX3_wouldLoseHidden, Cond.instanceMethod yX3_wouldLoseHidden, Cond.selects RX3 yX3_wouldLoseHidden yX3_wouldLoseHidden, Cond.code yX3_wouldLoseHidden cX3_wouldLoseHidden 3 (some .boolean), Cond.fieldLink RX3 80 "GuessMarks" "hiddenRow" "I", Cond.fieldLink RX3 92 "GuessMarks" "liesAllowed" "I"]
def wsL_tell_r3 : List Cond := [Cond.methodLink RX3 75 yX1_compare, Cond.instanceMethod yX1_compare, Cond.selects RX1 yX1_compare yX1_compare, Cond.code yX1_compare cX1_compare 7 (some .int), Cond.fieldLink RX1 9 "GuessMarks$Game" "colourBits" "[I", Cond.constant RX1 43 (2396745), Cond.fieldLink RX1 15 "GuessMarks$Game" "pinBits" "[J", Cond.methodLink RX1 37 yX1_has, Cond.methodLink RX1 44 yJ6_bitCount_0f7a4, Cond.static yJ6_bitCount_0f7a4, Cond.initialized RJ6, Cond.code yJ6_bitCount_0f7a4 cJ6_bitCount_0f7a4 1 (some .int), Cond.constant RJ6 265 (1431655765), Cond.constant RJ6 266 (858993459), Cond.constant RJ6 267 (252645135), Cond.methodLink RX1 50 yJ13_bitCount_95d88, Cond.static yJ13_bitCount_95d88, Cond.initialized RJ13, Cond.code yJ13_bitCount_95d88 cJ13_bitCount_95d88 2 (some .int), Cond.constantLong RJ13 314 (6148914691236517205), Cond.constantLong RJ13 316 (3689348814741910323), Cond.constantLong RJ13 318 (1085102592571150095), Cond.methodLink RX3 83 yX0_countLies, Cond.instanceMethod yX0_countLies]
def wsL_tell_r4 : List Cond := [Cond.selects RX0 yX0_countLies yX0_countLies, Cond.code yX0_countLies cX0_countLies 2 (some .int), Cond.methodLink RX0 52 yX0_allBits, Cond.instanceMethod yX0_allBits, Cond.selects RX0 yX0_allBits yX0_allBits, Cond.code yX0_allBits cX0_allBits 1 (some .int), Cond.methodLink RX0 56 yX0_countLiesIn, Cond.instanceMethod yX0_countLiesIn, Cond.selects RX0 yX0_countLiesIn yX0_countLiesIn, Cond.code yX0_countLiesIn cX0_countLiesIn 3 (some .int), Cond.fieldLink RX0 21 "GuessMarks$Entries" "game" "LGuessMarks$Game;", Cond.fieldLink RX0 18 "GuessMarks$Entries" "lieBits" "[I", Cond.methodLink RX0 59 yX1_has, Cond.methodLink RX0 60 yJ6_bitCount_0f7a4, Cond.methodLink RX3 121 yX3_addEntry, Cond.instanceMethod yX3_addEntry, Cond.selects RX3 yX3_addEntry yX3_addEntry, Cond.code yX3_addEntry cX3_addEntry 3 none, Cond.methodLink RX3 156 yX0_add, Cond.instanceMethod yX0_add, Cond.selects RX0 yX0_add yX0_add, Cond.code yX0_add cX0_add 5 none, Cond.fieldLink RX0 9 "GuessMarks$Entries" "guesses" "[I", Cond.fieldLink RX0 15 "GuessMarks$Entries" "marks" "[I"]
def wsL_tell_r5 : List Cond := [Cond.fieldLink RX0 43 "GuessMarks$Game" "rows" "I", Cond.methodLink RX0 39 yX0_isFull, Cond.methodLink RX0 48 yX1_compare, Cond.methodLink RX3 95 yX3_listRowsLeft, Cond.instanceMethod yX3_listRowsLeft, Cond.selects RX3 yX3_listRowsLeft yX3_listRowsLeft, Cond.code yX3_listRowsLeft cX3_listRowsLeft 2 none, Cond.fieldLink RX3 53 "GuessMarks$Game" "rows" "I", Cond.fieldLink RX3 32 "GuessMarks" "rowsLeft" "[I", Cond.methodLink RX3 110 yX3_remains, Cond.instanceMethod yX3_remains, Cond.selects RX3 yX3_remains yX3_remains, Cond.code yX3_remains cX3_remains 2 (some .boolean)]
def wsL_tell : List Cond := .codeWith yL_tell cL_tell 5 (some .int) [(0, 10, 13, 18), (0, 10, 17, 13), (0, 10, 21, 27)] :: ((wsL_tell_r1 ++ (wsL_tell_r2 ++ (wsL_tell_r3 ++ (wsL_tell_r4 ++ wsL_tell_r5)))) ++ wsX30 ++ wsX10 ++ wsX00 ++ (vx_atS RX3 91 "java/lang/IllegalStateException" ["java/lang/RuntimeException", "java/lang/Exception"]).filter goodWord ++ (vx_atS RX3 68 "java/lang/IndexOutOfBoundsException" ["java/lang/RuntimeException", "java/lang/Exception"]).filter goodWord ++ (vx_atS RX3 50 "java/lang/IllegalArgumentException" ["java/lang/RuntimeException", "java/lang/Exception"]).filter goodWord)
def wsL_takeBack_r1 : List Cond := [Cond.classLink RL 27 "java/lang/IllegalStateException", Cond.methodLink RL 39 yX3_takeBack, Cond.instanceMethod yX3_takeBack, Cond.selects RX3 yX3_takeBack yX3_takeBack, Cond.initialized RX3, Cond.code yX3_takeBack cX3_takeBack 1 (some .int), Cond.classLink RX3 87 "java/lang/IllegalStateException", Cond.initialized "java/lang/IllegalStateException", Cond.fieldLink RX3 21 "GuessMarks" "told" "LGuessMarks$Entries;", Cond.fieldLink RX3 136 "GuessMarks$Entries" "count" "I", Cond.fieldLink RX3 133 "GuessMarks" "leftCount" "I", Cond.methodLink RX3 141 yX0_dropLatest, Cond.instanceMethod yX0_dropLatest, Cond.selects RX0 yX0_dropLatest yX0_dropLatest, Cond.initialized RX0, Cond.code yX0_dropLatest cX0_dropLatest 2 none, Cond.fieldLink RX0 25 "GuessMarks$Entries" "count" "I", Cond.fieldLink RX0 21 "GuessMarks$Entries" "game" "LGuessMarks$Game;", Cond.fieldLink RX0 43 "GuessMarks$Game" "rows" "I", Cond.fieldLink RX0 18 "GuessMarks$Entries" "lieBits" "[I", Cond.methodLink RX3 95 yX3_listRowsLeft, Cond.instanceMethod yX3_listRowsLeft, Cond.selects RX3 yX3_listRowsLeft yX3_listRowsLeft, Cond.code yX3_listRowsLeft cX3_listRowsLeft 2 none]
def wsL_takeBack_r2 : List Cond := [Cond.fieldLink RX3 12 "GuessMarks" "game" "LGuessMarks$Game;", Cond.fieldLink RX3 53 "GuessMarks$Game" "rows" "I", Cond.fieldLink RX3 32 "GuessMarks" "rowsLeft" "[I", Cond.methodLink RX3 110 yX3_remains, Cond.instanceMethod yX3_remains, Cond.selects RX3 yX3_remains yX3_remains, Cond.code yX3_remains cX3_remains 2 (some .boolean), Cond.fieldLink RX3 92 "GuessMarks" "liesAllowed" "I", Cond.methodLink RX3 83 yX0_countLies, Cond.instanceMethod yX0_countLies, Cond.selects RX0 yX0_countLies yX0_countLies, Cond.code yX0_countLies cX0_countLies 2 (some .int), Cond.methodLink RX0 52 yX0_allBits, Cond.instanceMethod yX0_allBits, Cond.selects RX0 yX0_allBits yX0_allBits, Cond.code yX0_allBits cX0_allBits 1 (some .int), Cond.methodLink RX0 56 yX0_countLiesIn, Cond.instanceMethod yX0_countLiesIn, Cond.selects RX0 yX0_countLiesIn yX0_countLiesIn, Cond.code yX0_countLiesIn cX0_countLiesIn 3 (some .int), Cond.methodLink RX0 59 yX1_has, Cond.instanceMethod yX1_has, Cond.selects RX1 yX1_has yX1_has, Cond.initialized RX1]
def wsL_takeBack_r3 : List Cond := [Cond.code yX1_has cX1_has 2 (some .boolean), Cond.fieldLink RX1 26 "GuessMarks$Game" "rows" "I", Cond.methodLink RX0 60 yJ6_bitCount_0f7a4, Cond.static yJ6_bitCount_0f7a4, Cond.initialized RJ6, Cond.code yJ6_bitCount_0f7a4 cJ6_bitCount_0f7a4 1 (some .int), Cond.constant RJ6 265 (1431655765), Cond.constant RJ6 266 (858993459), Cond.constant RJ6 267 (252645135)]
def wsL_takeBack : List Cond := .codeWith yL_takeBack cL_takeBack 3 (some .int) [(0, 8, 11, 27)] :: ((wsL_takeBack_r1 ++ (wsL_takeBack_r2 ++ wsL_takeBack_r3)) ++ wsX30 ++ wsX00 ++ wsX10 ++ (vx_atS RX3 91 "java/lang/IllegalStateException" ["java/lang/RuntimeException", "java/lang/Exception"]).filter goodWord)
def wsL_guessOf_r1 : List Cond := [Cond.classLink RL 18 "java/lang/IndexOutOfBoundsException", Cond.methodLink RL 43 yX3_guessOf, Cond.instanceMethod yX3_guessOf, Cond.selects RX3 yX3_guessOf yX3_guessOf, Cond.initialized RX3, Cond.code yX3_guessOf cX3_guessOf 2 (some .int), Cond.fieldLink RX3 21 "GuessMarks" "told" "LGuessMarks$Entries;", Cond.methodLink RX3 144 yX3_requireEntry, Cond.instanceMethod yX3_requireEntry, Cond.selects RX3 yX3_requireEntry yX3_requireEntry, Cond.code yX3_requireEntry cX3_requireEntry 2 none, Cond.classLink RX3 64 "java/lang/IndexOutOfBoundsException", Cond.initialized "java/lang/IndexOutOfBoundsException", Cond.methodLink RX3 153 yX0_has, Cond.instanceMethod yX0_has, Cond.selects RX0 yX0_has yX0_has, Cond.initialized RX0, Cond.code yX0_has cX0_has 2 (some .boolean), Cond.fieldLink RX0 25 "GuessMarks$Entries" "count" "I", Cond.methodLink RX3 147 yX0_guessAt, Cond.instanceMethod yX0_guessAt, Cond.selects RX0 yX0_guessAt yX0_guessAt, Cond.code yX0_guessAt cX0_guessAt 2 (some .int), Cond.fieldLink RX0 9 "GuessMarks$Entries" "guesses" "[I"]
def wsL_guessOf_r2 : List Cond := [Cond.methodLink RX0 35 yX0_has]
def wsL_guessOf : List Cond := .codeWith yL_guessOf cL_guessOf 4 (some .int) [(0, 9, 12, 18)] :: ((wsL_guessOf_r1 ++ wsL_guessOf_r2) ++ wsX30 ++ wsX00 ++ (vx_atS RX3 68 "java/lang/IndexOutOfBoundsException" ["java/lang/RuntimeException", "java/lang/Exception"]).filter goodWord)
def wsL_markOf_r1 : List Cond := [Cond.classLink RL 18 "java/lang/IndexOutOfBoundsException", Cond.methodLink RL 46 yX3_markOf, Cond.instanceMethod yX3_markOf, Cond.selects RX3 yX3_markOf yX3_markOf, Cond.initialized RX3, Cond.code yX3_markOf cX3_markOf 2 (some .int), Cond.fieldLink RX3 21 "GuessMarks" "told" "LGuessMarks$Entries;", Cond.methodLink RX3 144 yX3_requireEntry, Cond.instanceMethod yX3_requireEntry, Cond.selects RX3 yX3_requireEntry yX3_requireEntry, Cond.code yX3_requireEntry cX3_requireEntry 2 none, Cond.classLink RX3 64 "java/lang/IndexOutOfBoundsException", Cond.initialized "java/lang/IndexOutOfBoundsException", Cond.methodLink RX3 153 yX0_has, Cond.instanceMethod yX0_has, Cond.selects RX0 yX0_has yX0_has, Cond.initialized RX0, Cond.code yX0_has cX0_has 2 (some .boolean), Cond.fieldLink RX0 25 "GuessMarks$Entries" "count" "I", Cond.methodLink RX3 150 yX0_markAt, Cond.instanceMethod yX0_markAt, Cond.selects RX0 yX0_markAt yX0_markAt, Cond.code yX0_markAt cX0_markAt 2 (some .int), Cond.fieldLink RX0 15 "GuessMarks$Entries" "marks" "[I"]
def wsL_markOf_r2 : List Cond := [Cond.methodLink RX0 35 yX0_has]
def wsL_markOf : List Cond := .codeWith yL_markOf cL_markOf 4 (some .int) [(0, 9, 12, 18)] :: ((wsL_markOf_r1 ++ wsL_markOf_r2) ++ wsX30 ++ wsX00 ++ (vx_atS RX3 68 "java/lang/IndexOutOfBoundsException" ["java/lang/RuntimeException", "java/lang/Exception"]).filter goodWord)
def wsL_liesAbout_r1 : List Cond := [Cond.classLink RL 18 "java/lang/IndexOutOfBoundsException", Cond.methodLink RL 49 yX3_liesAbout, Cond.instanceMethod yX3_liesAbout, Cond.selects RX3 yX3_liesAbout yX3_liesAbout, Cond.initialized RX3, Cond.code yX3_liesAbout cX3_liesAbout 2 (some .int), Cond.fieldLink RX3 21 "GuessMarks" "told" "LGuessMarks$Entries;", Cond.methodLink RX3 106 yX3_requireRow, Cond.instanceMethod yX3_requireRow, Cond.selects RX3 yX3_requireRow yX3_requireRow, Cond.code yX3_requireRow cX3_requireRow 2 none, Cond.classLink RX3 64 "java/lang/IndexOutOfBoundsException", Cond.initialized "java/lang/IndexOutOfBoundsException", Cond.fieldLink RX3 12 "GuessMarks" "game" "LGuessMarks$Game;", Cond.methodLink RX3 57 yX1_has, Cond.instanceMethod yX1_has, Cond.selects RX1 yX1_has yX1_has, Cond.initialized RX1, Cond.code yX1_has cX1_has 2 (some .boolean), Cond.fieldLink RX1 26 "GuessMarks$Game" "rows" "I", Cond.methodLink RX3 83 yX0_countLies, Cond.instanceMethod yX0_countLies, Cond.selects RX0 yX0_countLies yX0_countLies, Cond.initialized RX0]
def wsL_liesAbout_r2 : List Cond := [Cond.code yX0_countLies cX0_countLies 2 (some .int), Cond.methodLink RX0 52 yX0_allBits, Cond.instanceMethod yX0_allBits, Cond.selects RX0 yX0_allBits yX0_allBits, Cond.code yX0_allBits cX0_allBits 1 (some .int), Cond.fieldLink RX0 25 "GuessMarks$Entries" "count" "I", Cond.methodLink RX0 56 yX0_countLiesIn, Cond.instanceMethod yX0_countLiesIn, Cond.selects RX0 yX0_countLiesIn yX0_countLiesIn, Cond.code yX0_countLiesIn cX0_countLiesIn 3 (some .int), Cond.fieldLink RX0 21 "GuessMarks$Entries" "game" "LGuessMarks$Game;", Cond.fieldLink RX0 18 "GuessMarks$Entries" "lieBits" "[I", Cond.methodLink RX0 59 yX1_has, Cond.methodLink RX0 60 yJ6_bitCount_0f7a4, Cond.static yJ6_bitCount_0f7a4, Cond.initialized RJ6, Cond.code yJ6_bitCount_0f7a4 cJ6_bitCount_0f7a4 1 (some .int), Cond.constant RJ6 265 (1431655765), Cond.constant RJ6 266 (858993459), Cond.constant RJ6 267 (252645135)]
def wsL_liesAbout : List Cond := .codeWith yL_liesAbout cL_liesAbout 4 (some .int) [(0, 9, 12, 18)] :: ((wsL_liesAbout_r1 ++ wsL_liesAbout_r2) ++ wsX30 ++ wsX10 ++ wsX00 ++ (vx_atS RX3 68 "java/lang/IndexOutOfBoundsException" ["java/lang/RuntimeException", "java/lang/Exception"]).filter goodWord)
def wsL_isLeft_r1 : List Cond := [Cond.classLink RL 18 "java/lang/IndexOutOfBoundsException", Cond.methodLink RL 52 yX3_isLeft, Cond.instanceMethod yX3_isLeft, Cond.selects RX3 yX3_isLeft yX3_isLeft, Cond.initialized RX3, Cond.code yX3_isLeft cX3_isLeft 2 (some .boolean), Cond.methodLink RX3 106 yX3_requireRow, Cond.instanceMethod yX3_requireRow, Cond.selects RX3 yX3_requireRow yX3_requireRow, Cond.code yX3_requireRow cX3_requireRow 2 none, Cond.classLink RX3 64 "java/lang/IndexOutOfBoundsException", Cond.initialized "java/lang/IndexOutOfBoundsException", Cond.fieldLink RX3 12 "GuessMarks" "game" "LGuessMarks$Game;", Cond.methodLink RX3 57 yX1_has, Cond.instanceMethod yX1_has, Cond.selects RX1 yX1_has yX1_has, Cond.initialized RX1, Cond.code yX1_has cX1_has 2 (some .boolean), Cond.fieldLink RX1 26 "GuessMarks$Game" "rows" "I", Cond.methodLink RX3 110 yX3_remains, Cond.instanceMethod yX3_remains, Cond.selects RX3 yX3_remains yX3_remains, Cond.code yX3_remains cX3_remains 2 (some .boolean), Cond.fieldLink RX3 21 "GuessMarks" "told" "LGuessMarks$Entries;"]
def wsL_isLeft_r2 : List Cond := [Cond.fieldLink RX3 92 "GuessMarks" "liesAllowed" "I", Cond.methodLink RX3 83 yX0_countLies, Cond.instanceMethod yX0_countLies, Cond.selects RX0 yX0_countLies yX0_countLies, Cond.initialized RX0, Cond.code yX0_countLies cX0_countLies 2 (some .int), Cond.methodLink RX0 52 yX0_allBits, Cond.instanceMethod yX0_allBits, Cond.selects RX0 yX0_allBits yX0_allBits, Cond.code yX0_allBits cX0_allBits 1 (some .int), Cond.fieldLink RX0 25 "GuessMarks$Entries" "count" "I", Cond.methodLink RX0 56 yX0_countLiesIn, Cond.instanceMethod yX0_countLiesIn, Cond.selects RX0 yX0_countLiesIn yX0_countLiesIn, Cond.code yX0_countLiesIn cX0_countLiesIn 3 (some .int), Cond.fieldLink RX0 21 "GuessMarks$Entries" "game" "LGuessMarks$Game;", Cond.fieldLink RX0 18 "GuessMarks$Entries" "lieBits" "[I", Cond.methodLink RX0 59 yX1_has, Cond.methodLink RX0 60 yJ6_bitCount_0f7a4, Cond.static yJ6_bitCount_0f7a4, Cond.initialized RJ6, Cond.code yJ6_bitCount_0f7a4 cJ6_bitCount_0f7a4 1 (some .int), Cond.constant RJ6 265 (1431655765), Cond.constant RJ6 266 (858993459)]
def wsL_isLeft_r3 : List Cond := [Cond.constant RJ6 267 (252645135)]
def wsL_isLeft : List Cond := .codeWith yL_isLeft cL_isLeft 4 (some .int) [(0, 16, 19, 18)] :: ((wsL_isLeft_r1 ++ (wsL_isLeft_r2 ++ wsL_isLeft_r3)) ++ wsX30 ++ wsX10 ++ wsX00 ++ (vx_atS RX3 68 "java/lang/IndexOutOfBoundsException" ["java/lang/RuntimeException", "java/lang/Exception"]).filter goodWord)
def wsL_leftAt : List Cond := .codeWith yL_leftAt cL_leftAt 4 (some .int) [(0, 9, 12, 18)] :: ([.classLink RL 18 "java/lang/IndexOutOfBoundsException", .methodLink RL 55 yX3_leftAt, .instanceMethod yX3_leftAt, .selects RX3 yX3_leftAt yX3_leftAt, .initialized RX3, .code yX3_leftAt cX3_leftAt 2 (some .int), .classLink RX3 64 "java/lang/IndexOutOfBoundsException", .initialized "java/lang/IndexOutOfBoundsException", .fieldLink RX3 133 "GuessMarks" "leftCount" "I", .fieldLink RX3 32 "GuessMarks" "rowsLeft" "[I"] ++ wsX30 ++ (vx_atS RX3 68 "java/lang/IndexOutOfBoundsException" ["java/lang/RuntimeException", "java/lang/Exception"]).filter goodWord)
def wsL_parts_r1 : List Cond := [Cond.classLink RL 18 "java/lang/IndexOutOfBoundsException", Cond.methodLink RL 58 yX3_parts, Cond.instanceMethod yX3_parts, Cond.selects RX3 yX3_parts yX3_parts, Cond.initialized RX3, Cond.code yX3_parts cX3_parts 2 (some .int), Cond.fieldLink RX3 28 "GuessMarks" "parting" "LGuessMarks$Parting;", Cond.fieldLink RX3 167 "GuessMarks$Parting" "count" "I", Cond.methodLink RX3 106 yX3_requireRow, Cond.instanceMethod yX3_requireRow, Cond.selects RX3 yX3_requireRow yX3_requireRow, Cond.code yX3_requireRow cX3_requireRow 2 none, Cond.classLink RX3 64 "java/lang/IndexOutOfBoundsException", Cond.initialized "java/lang/IndexOutOfBoundsException", Cond.fieldLink RX3 12 "GuessMarks" "game" "LGuessMarks$Game;", Cond.methodLink RX3 57 yX1_has, Cond.instanceMethod yX1_has, Cond.selects RX1 yX1_has yX1_has, Cond.initialized RX1, Cond.code yX1_has cX1_has 2 (some .boolean), Cond.fieldLink RX1 26 "GuessMarks$Game" "rows" "I", Cond.methodLink RX3 164 yX3_partLeft, Cond.instanceMethod yX3_partLeft, Cond.selects RX3 yX3_partLeft yX3_partLeft]
def wsL_parts_r2 : List Cond := [Cond.code yX3_partLeft cX3_partLeft 2 none, Cond.fieldLink RX3 32 "GuessMarks" "rowsLeft" "[I", Cond.fieldLink RX3 133 "GuessMarks" "leftCount" "I", Cond.methodLink RX3 201 yX3_partRows, Cond.instanceMethod yX3_partRows, Cond.selects RX3 yX3_partRows yX3_partRows, Cond.code yX3_partRows cX3_partRows 6 none, Cond.methodLink RX3 205 yX2_clear, Cond.instanceMethod yX2_clear, Cond.selects RX2 yX2_clear yX2_clear, Cond.initialized RX2, Cond.code yX2_clear cX2_clear 1 none, Cond.fieldLink RX2 18 "GuessMarks$Parting" "count" "I", Cond.fieldLink RX2 22 "GuessMarks$Parting" "greatest" "I", Cond.fieldLink RX2 25 "GuessMarks$Parting" "squares" "I", Cond.fieldLink RX2 15 "GuessMarks$Parting" "sizes" "[I", Cond.methodLink RX2 28 yJ7_fill_53178, Cond.static yJ7_fill_53178, Cond.initialized RJ7, Cond.code yJ7_fill_53178 cJ7_fill_53178 4 none, Cond.methodLink RX3 75 yX1_compare, Cond.instanceMethod yX1_compare, Cond.selects RX1 yX1_compare yX1_compare, Cond.code yX1_compare cX1_compare 7 (some .int)]
def wsL_parts_r3 : List Cond := [Cond.fieldLink RX1 9 "GuessMarks$Game" "colourBits" "[I", Cond.constant RX1 43 (2396745), Cond.fieldLink RX1 19 "GuessMarks$Game" "places" "I", Cond.fieldLink RX1 15 "GuessMarks$Game" "pinBits" "[J", Cond.methodLink RX1 37 yX1_has, Cond.methodLink RX1 44 yJ6_bitCount_0f7a4, Cond.static yJ6_bitCount_0f7a4, Cond.initialized RJ6, Cond.code yJ6_bitCount_0f7a4 cJ6_bitCount_0f7a4 1 (some .int), Cond.constant RJ6 265 (1431655765), Cond.constant RJ6 266 (858993459), Cond.constant RJ6 267 (252645135), Cond.methodLink RX1 50 yJ13_bitCount_95d88, Cond.static yJ13_bitCount_95d88, Cond.initialized RJ13, Cond.code yJ13_bitCount_95d88 cJ13_bitCount_95d88 2 (some .int), Cond.constantLong RJ13 314 (6148914691236517205), Cond.constantLong RJ13 316 (3689348814741910323), Cond.constantLong RJ13 318 (1085102592571150095), Cond.methodLink RX3 208 yX2_add, Cond.instanceMethod yX2_add, Cond.selects RX2 yX2_add yX2_add, Cond.code yX2_add cX2_add 3 none, Cond.fieldLink RX2 9 "GuessMarks$Parting" "marks" "[I"]
def wsL_parts_r4 : List Cond := [Cond.methodLink RX2 34 Lib.Math.max.name, Cond.static Lib.Math.max.name, Cond.initialized "java/lang/Math", Cond.code Lib.Math.max.name Lib.Math.max.code 2 (some .int)]
def wsL_parts : List Cond := .codeWith yL_parts cL_parts 4 (some .int) [(0, 9, 12, 18)] :: ((wsL_parts_r1 ++ (wsL_parts_r2 ++ (wsL_parts_r3 ++ wsL_parts_r4))) ++ wsX30 ++ wsX20 ++ wsX10 ++ (vx_atS RX3 68 "java/lang/IndexOutOfBoundsException" ["java/lang/RuntimeException", "java/lang/Exception"]).filter goodWord)
def wsL_partMark_r1 : List Cond := [Cond.classLink RL 18 "java/lang/IndexOutOfBoundsException", Cond.methodLink RL 61 yX3_partMark, Cond.instanceMethod yX3_partMark, Cond.selects RX3 yX3_partMark yX3_partMark, Cond.initialized RX3, Cond.code yX3_partMark cX3_partMark 3 (some .int), Cond.classLink RX3 64 "java/lang/IndexOutOfBoundsException", Cond.initialized "java/lang/IndexOutOfBoundsException", Cond.fieldLink RX3 28 "GuessMarks" "parting" "LGuessMarks$Parting;", Cond.methodLink RX3 106 yX3_requireRow, Cond.instanceMethod yX3_requireRow, Cond.selects RX3 yX3_requireRow yX3_requireRow, Cond.code yX3_requireRow cX3_requireRow 2 none, Cond.fieldLink RX3 12 "GuessMarks" "game" "LGuessMarks$Game;", Cond.methodLink RX3 57 yX1_has, Cond.instanceMethod yX1_has, Cond.selects RX1 yX1_has yX1_has, Cond.initialized RX1, Cond.code yX1_has cX1_has 2 (some .boolean), Cond.fieldLink RX1 26 "GuessMarks$Game" "rows" "I", Cond.methodLink RX3 164 yX3_partLeft, Cond.instanceMethod yX3_partLeft, Cond.selects RX3 yX3_partLeft yX3_partLeft, Cond.code yX3_partLeft cX3_partLeft 2 none]
def wsL_partMark_r2 : List Cond := [Cond.fieldLink RX3 32 "GuessMarks" "rowsLeft" "[I", Cond.fieldLink RX3 133 "GuessMarks" "leftCount" "I", Cond.methodLink RX3 201 yX3_partRows, Cond.instanceMethod yX3_partRows, Cond.selects RX3 yX3_partRows yX3_partRows, Cond.code yX3_partRows cX3_partRows 6 none, Cond.methodLink RX3 205 yX2_clear, Cond.instanceMethod yX2_clear, Cond.selects RX2 yX2_clear yX2_clear, Cond.initialized RX2, Cond.code yX2_clear cX2_clear 1 none, Cond.fieldLink RX2 18 "GuessMarks$Parting" "count" "I", Cond.fieldLink RX2 22 "GuessMarks$Parting" "greatest" "I", Cond.fieldLink RX2 25 "GuessMarks$Parting" "squares" "I", Cond.fieldLink RX2 15 "GuessMarks$Parting" "sizes" "[I", Cond.methodLink RX2 28 yJ7_fill_53178, Cond.static yJ7_fill_53178, Cond.initialized RJ7, Cond.code yJ7_fill_53178 cJ7_fill_53178 4 none, Cond.methodLink RX3 75 yX1_compare, Cond.instanceMethod yX1_compare, Cond.selects RX1 yX1_compare yX1_compare, Cond.code yX1_compare cX1_compare 7 (some .int), Cond.fieldLink RX1 9 "GuessMarks$Game" "colourBits" "[I"]
def wsL_partMark_r3 : List Cond := [Cond.constant RX1 43 (2396745), Cond.fieldLink RX1 19 "GuessMarks$Game" "places" "I", Cond.fieldLink RX1 15 "GuessMarks$Game" "pinBits" "[J", Cond.methodLink RX1 37 yX1_has, Cond.methodLink RX1 44 yJ6_bitCount_0f7a4, Cond.static yJ6_bitCount_0f7a4, Cond.initialized RJ6, Cond.code yJ6_bitCount_0f7a4 cJ6_bitCount_0f7a4 1 (some .int), Cond.constant RJ6 265 (1431655765), Cond.constant RJ6 266 (858993459), Cond.constant RJ6 267 (252645135), Cond.methodLink RX1 50 yJ13_bitCount_95d88, Cond.static yJ13_bitCount_95d88, Cond.initialized RJ13, Cond.code yJ13_bitCount_95d88 cJ13_bitCount_95d88 2 (some .int), Cond.constantLong RJ13 314 (6148914691236517205), Cond.constantLong RJ13 316 (3689348814741910323), Cond.constantLong RJ13 318 (1085102592571150095), Cond.methodLink RX3 208 yX2_add, Cond.instanceMethod yX2_add, Cond.selects RX2 yX2_add yX2_add, Cond.code yX2_add cX2_add 3 none, Cond.fieldLink RX2 9 "GuessMarks$Parting" "marks" "[I", Cond.methodLink RX2 34 Lib.Math.max.name]
def wsL_partMark_r4 : List Cond := [Cond.static Lib.Math.max.name, Cond.initialized "java/lang/Math", Cond.code Lib.Math.max.name Lib.Math.max.code 2 (some .int), Cond.methodLink RX3 168 yX2_has, Cond.instanceMethod yX2_has, Cond.selects RX2 yX2_has yX2_has, Cond.code yX2_has cX2_has 2 (some .boolean), Cond.methodLink RX3 171 yX2_markAt, Cond.instanceMethod yX2_markAt, Cond.selects RX2 yX2_markAt yX2_markAt, Cond.code yX2_markAt cX2_markAt 2 (some .int), Cond.methodLink RX2 40 yX2_has]
def wsL_partMark : List Cond := .codeWith yL_partMark cL_partMark 5 (some .int) [(0, 10, 13, 18)] :: ((wsL_partMark_r1 ++ (wsL_partMark_r2 ++ (wsL_partMark_r3 ++ wsL_partMark_r4))) ++ wsX30 ++ wsX10 ++ wsX20 ++ (vx_atS RX3 68 "java/lang/IndexOutOfBoundsException" ["java/lang/RuntimeException", "java/lang/Exception"]).filter goodWord)
def wsL_partSize_r1 : List Cond := [Cond.classLink RL 18 "java/lang/IndexOutOfBoundsException", Cond.classLink RL 13 "java/lang/IllegalArgumentException", Cond.methodLink RL 64 yX3_partSize, Cond.instanceMethod yX3_partSize, Cond.selects RX3 yX3_partSize yX3_partSize, Cond.initialized RX3, Cond.code yX3_partSize cX3_partSize 3 (some .int), Cond.fieldLink RX3 28 "GuessMarks" "parting" "LGuessMarks$Parting;", Cond.methodLink RX3 106 yX3_requireRow, Cond.instanceMethod yX3_requireRow, Cond.selects RX3 yX3_requireRow yX3_requireRow, Cond.code yX3_requireRow cX3_requireRow 2 none, Cond.classLink RX3 64 "java/lang/IndexOutOfBoundsException", Cond.initialized "java/lang/IndexOutOfBoundsException", Cond.fieldLink RX3 12 "GuessMarks" "game" "LGuessMarks$Game;", Cond.methodLink RX3 57 yX1_has, Cond.instanceMethod yX1_has, Cond.selects RX1 yX1_has yX1_has, Cond.initialized RX1, Cond.code yX1_has cX1_has 2 (some .boolean), Cond.fieldLink RX1 26 "GuessMarks$Game" "rows" "I", Cond.methodLink RX3 125 yX3_requirePossible, Cond.instanceMethod yX3_requirePossible, Cond.selects RX3 yX3_requirePossible yX3_requirePossible]
def wsL_partSize_r2 : List Cond := [Cond.code yX3_requirePossible cX3_requirePossible 2 none, Cond.classLink RX3 46 "java/lang/IllegalArgumentException", Cond.initialized "java/lang/IllegalArgumentException", Cond.methodLink RX3 101 yX1_allows, Cond.instanceMethod yX1_allows, Cond.selects RX1 yX1_allows yX1_allows, Cond.code yX1_allows cX1_allows 5 (some .boolean), Cond.fieldLink RX1 19 "GuessMarks$Game" "places" "I", Cond.methodLink RX3 164 yX3_partLeft, Cond.instanceMethod yX3_partLeft, Cond.selects RX3 yX3_partLeft yX3_partLeft, Cond.code yX3_partLeft cX3_partLeft 2 none, Cond.fieldLink RX3 32 "GuessMarks" "rowsLeft" "[I", Cond.fieldLink RX3 133 "GuessMarks" "leftCount" "I", Cond.methodLink RX3 201 yX3_partRows, Cond.instanceMethod yX3_partRows, Cond.selects RX3 yX3_partRows yX3_partRows, Cond.code yX3_partRows cX3_partRows 6 none, Cond.methodLink RX3 205 yX2_clear, Cond.instanceMethod yX2_clear, Cond.selects RX2 yX2_clear yX2_clear, Cond.initialized RX2, Cond.code yX2_clear cX2_clear 1 none, Cond.fieldLink RX2 18 "GuessMarks$Parting" "count" "I"]
def wsL_partSize_r3 : List Cond := [Cond.fieldLink RX2 22 "GuessMarks$Parting" "greatest" "I", Cond.fieldLink RX2 25 "GuessMarks$Parting" "squares" "I", Cond.fieldLink RX2 15 "GuessMarks$Parting" "sizes" "[I", Cond.methodLink RX2 28 yJ7_fill_53178, Cond.static yJ7_fill_53178, Cond.initialized RJ7, Cond.code yJ7_fill_53178 cJ7_fill_53178 4 none, Cond.methodLink RX3 75 yX1_compare, Cond.instanceMethod yX1_compare, Cond.selects RX1 yX1_compare yX1_compare, Cond.code yX1_compare cX1_compare 7 (some .int), Cond.fieldLink RX1 9 "GuessMarks$Game" "colourBits" "[I", Cond.constant RX1 43 (2396745), Cond.fieldLink RX1 15 "GuessMarks$Game" "pinBits" "[J", Cond.methodLink RX1 37 yX1_has, Cond.methodLink RX1 44 yJ6_bitCount_0f7a4, Cond.static yJ6_bitCount_0f7a4, Cond.initialized RJ6, Cond.code yJ6_bitCount_0f7a4 cJ6_bitCount_0f7a4 1 (some .int), Cond.constant RJ6 265 (1431655765), Cond.constant RJ6 266 (858993459), Cond.constant RJ6 267 (252645135), Cond.methodLink RX1 50 yJ13_bitCount_95d88, Cond.static yJ13_bitCount_95d88]
def wsL_partSize_r4 : List Cond := [Cond.initialized RJ13, Cond.code yJ13_bitCount_95d88 cJ13_bitCount_95d88 2 (some .int), Cond.constantLong RJ13 314 (6148914691236517205), Cond.constantLong RJ13 316 (3689348814741910323), Cond.constantLong RJ13 318 (1085102592571150095), Cond.methodLink RX3 208 yX2_add, Cond.instanceMethod yX2_add, Cond.selects RX2 yX2_add yX2_add, Cond.code yX2_add cX2_add 3 none, Cond.fieldLink RX2 9 "GuessMarks$Parting" "marks" "[I", Cond.methodLink RX2 34 Lib.Math.max.name, Cond.static Lib.Math.max.name, Cond.initialized "java/lang/Math", Cond.code Lib.Math.max.name Lib.Math.max.code 2 (some .int), Cond.methodLink RX3 172 yX2_sizeWith, Cond.instanceMethod yX2_sizeWith, Cond.selects RX2 yX2_sizeWith yX2_sizeWith, Cond.code yX2_sizeWith cX2_sizeWith 2 (some .int)]
def wsL_partSize : List Cond := .codeWith yL_partSize cL_partSize 5 (some .int) [(0, 10, 13, 18), (0, 10, 17, 13)] :: ((wsL_partSize_r1 ++ (wsL_partSize_r2 ++ (wsL_partSize_r3 ++ wsL_partSize_r4))) ++ wsX30 ++ wsX10 ++ wsX20 ++ (vx_atS RX3 68 "java/lang/IndexOutOfBoundsException" ["java/lang/RuntimeException", "java/lang/Exception"]).filter goodWord ++ (vx_atS RX3 50 "java/lang/IllegalArgumentException" ["java/lang/RuntimeException", "java/lang/Exception"]).filter goodWord)
def wsL_worstCase_r1 : List Cond := [Cond.classLink RL 18 "java/lang/IndexOutOfBoundsException", Cond.methodLink RL 67 yX3_worstCase, Cond.instanceMethod yX3_worstCase, Cond.selects RX3 yX3_worstCase yX3_worstCase, Cond.initialized RX3, Cond.code yX3_worstCase cX3_worstCase 2 (some .int), Cond.fieldLink RX3 28 "GuessMarks" "parting" "LGuessMarks$Parting;", Cond.fieldLink RX3 175 "GuessMarks$Parting" "greatest" "I", Cond.methodLink RX3 106 yX3_requireRow, Cond.instanceMethod yX3_requireRow, Cond.selects RX3 yX3_requireRow yX3_requireRow, Cond.code yX3_requireRow cX3_requireRow 2 none, Cond.classLink RX3 64 "java/lang/IndexOutOfBoundsException", Cond.initialized "java/lang/IndexOutOfBoundsException", Cond.fieldLink RX3 12 "GuessMarks" "game" "LGuessMarks$Game;", Cond.methodLink RX3 57 yX1_has, Cond.instanceMethod yX1_has, Cond.selects RX1 yX1_has yX1_has, Cond.initialized RX1, Cond.code yX1_has cX1_has 2 (some .boolean), Cond.fieldLink RX1 26 "GuessMarks$Game" "rows" "I", Cond.methodLink RX3 164 yX3_partLeft, Cond.instanceMethod yX3_partLeft, Cond.selects RX3 yX3_partLeft yX3_partLeft]
def wsL_worstCase_r2 : List Cond := [Cond.code yX3_partLeft cX3_partLeft 2 none, Cond.fieldLink RX3 32 "GuessMarks" "rowsLeft" "[I", Cond.fieldLink RX3 133 "GuessMarks" "leftCount" "I", Cond.methodLink RX3 201 yX3_partRows, Cond.instanceMethod yX3_partRows, Cond.selects RX3 yX3_partRows yX3_partRows, Cond.code yX3_partRows cX3_partRows 6 none, Cond.methodLink RX3 205 yX2_clear, Cond.instanceMethod yX2_clear, Cond.selects RX2 yX2_clear yX2_clear, Cond.initialized RX2, Cond.code yX2_clear cX2_clear 1 none, Cond.fieldLink RX2 18 "GuessMarks$Parting" "count" "I", Cond.fieldLink RX2 22 "GuessMarks$Parting" "greatest" "I", Cond.fieldLink RX2 25 "GuessMarks$Parting" "squares" "I", Cond.fieldLink RX2 15 "GuessMarks$Parting" "sizes" "[I", Cond.methodLink RX2 28 yJ7_fill_53178, Cond.static yJ7_fill_53178, Cond.initialized RJ7, Cond.code yJ7_fill_53178 cJ7_fill_53178 4 none, Cond.methodLink RX3 75 yX1_compare, Cond.instanceMethod yX1_compare, Cond.selects RX1 yX1_compare yX1_compare, Cond.code yX1_compare cX1_compare 7 (some .int)]
def wsL_worstCase_r3 : List Cond := [Cond.fieldLink RX1 9 "GuessMarks$Game" "colourBits" "[I", Cond.constant RX1 43 (2396745), Cond.fieldLink RX1 19 "GuessMarks$Game" "places" "I", Cond.fieldLink RX1 15 "GuessMarks$Game" "pinBits" "[J", Cond.methodLink RX1 37 yX1_has, Cond.methodLink RX1 44 yJ6_bitCount_0f7a4, Cond.static yJ6_bitCount_0f7a4, Cond.initialized RJ6, Cond.code yJ6_bitCount_0f7a4 cJ6_bitCount_0f7a4 1 (some .int), Cond.constant RJ6 265 (1431655765), Cond.constant RJ6 266 (858993459), Cond.constant RJ6 267 (252645135), Cond.methodLink RX1 50 yJ13_bitCount_95d88, Cond.static yJ13_bitCount_95d88, Cond.initialized RJ13, Cond.code yJ13_bitCount_95d88 cJ13_bitCount_95d88 2 (some .int), Cond.constantLong RJ13 314 (6148914691236517205), Cond.constantLong RJ13 316 (3689348814741910323), Cond.constantLong RJ13 318 (1085102592571150095), Cond.methodLink RX3 208 yX2_add, Cond.instanceMethod yX2_add, Cond.selects RX2 yX2_add yX2_add, Cond.code yX2_add cX2_add 3 none, Cond.fieldLink RX2 9 "GuessMarks$Parting" "marks" "[I"]
def wsL_worstCase_r4 : List Cond := [Cond.methodLink RX2 34 Lib.Math.max.name, Cond.static Lib.Math.max.name, Cond.initialized "java/lang/Math", Cond.code Lib.Math.max.name Lib.Math.max.code 2 (some .int)]
def wsL_worstCase : List Cond := .codeWith yL_worstCase cL_worstCase 4 (some .int) [(0, 9, 12, 18)] :: ((wsL_worstCase_r1 ++ (wsL_worstCase_r2 ++ (wsL_worstCase_r3 ++ wsL_worstCase_r4))) ++ wsX30 ++ wsX20 ++ wsX10 ++ (vx_atS RX3 68 "java/lang/IndexOutOfBoundsException" ["java/lang/RuntimeException", "java/lang/Exception"]).filter goodWord)
def wsL_weight_r1 : List Cond := [Cond.classLink RL 18 "java/lang/IndexOutOfBoundsException", Cond.methodLink RL 70 yX3_weight, Cond.instanceMethod yX3_weight, Cond.selects RX3 yX3_weight yX3_weight, Cond.initialized RX3, Cond.code yX3_weight cX3_weight 2 (some .int), Cond.fieldLink RX3 28 "GuessMarks" "parting" "LGuessMarks$Parting;", Cond.fieldLink RX3 178 "GuessMarks$Parting" "squares" "I", Cond.methodLink RX3 106 yX3_requireRow, Cond.instanceMethod yX3_requireRow, Cond.selects RX3 yX3_requireRow yX3_requireRow, Cond.code yX3_requireRow cX3_requireRow 2 none, Cond.classLink RX3 64 "java/lang/IndexOutOfBoundsException", Cond.initialized "java/lang/IndexOutOfBoundsException", Cond.fieldLink RX3 12 "GuessMarks" "game" "LGuessMarks$Game;", Cond.methodLink RX3 57 yX1_has, Cond.instanceMethod yX1_has, Cond.selects RX1 yX1_has yX1_has, Cond.initialized RX1, Cond.code yX1_has cX1_has 2 (some .boolean), Cond.fieldLink RX1 26 "GuessMarks$Game" "rows" "I", Cond.methodLink RX3 164 yX3_partLeft, Cond.instanceMethod yX3_partLeft, Cond.selects RX3 yX3_partLeft yX3_partLeft]
def wsL_weight_r2 : List Cond := [Cond.code yX3_partLeft cX3_partLeft 2 none, Cond.fieldLink RX3 32 "GuessMarks" "rowsLeft" "[I", Cond.fieldLink RX3 133 "GuessMarks" "leftCount" "I", Cond.methodLink RX3 201 yX3_partRows, Cond.instanceMethod yX3_partRows, Cond.selects RX3 yX3_partRows yX3_partRows, Cond.code yX3_partRows cX3_partRows 6 none, Cond.methodLink RX3 205 yX2_clear, Cond.instanceMethod yX2_clear, Cond.selects RX2 yX2_clear yX2_clear, Cond.initialized RX2, Cond.code yX2_clear cX2_clear 1 none, Cond.fieldLink RX2 18 "GuessMarks$Parting" "count" "I", Cond.fieldLink RX2 22 "GuessMarks$Parting" "greatest" "I", Cond.fieldLink RX2 25 "GuessMarks$Parting" "squares" "I", Cond.fieldLink RX2 15 "GuessMarks$Parting" "sizes" "[I", Cond.methodLink RX2 28 yJ7_fill_53178, Cond.static yJ7_fill_53178, Cond.initialized RJ7, Cond.code yJ7_fill_53178 cJ7_fill_53178 4 none, Cond.methodLink RX3 75 yX1_compare, Cond.instanceMethod yX1_compare, Cond.selects RX1 yX1_compare yX1_compare, Cond.code yX1_compare cX1_compare 7 (some .int)]
def wsL_weight_r3 : List Cond := [Cond.fieldLink RX1 9 "GuessMarks$Game" "colourBits" "[I", Cond.constant RX1 43 (2396745), Cond.fieldLink RX1 19 "GuessMarks$Game" "places" "I", Cond.fieldLink RX1 15 "GuessMarks$Game" "pinBits" "[J", Cond.methodLink RX1 37 yX1_has, Cond.methodLink RX1 44 yJ6_bitCount_0f7a4, Cond.static yJ6_bitCount_0f7a4, Cond.initialized RJ6, Cond.code yJ6_bitCount_0f7a4 cJ6_bitCount_0f7a4 1 (some .int), Cond.constant RJ6 265 (1431655765), Cond.constant RJ6 266 (858993459), Cond.constant RJ6 267 (252645135), Cond.methodLink RX1 50 yJ13_bitCount_95d88, Cond.static yJ13_bitCount_95d88, Cond.initialized RJ13, Cond.code yJ13_bitCount_95d88 cJ13_bitCount_95d88 2 (some .int), Cond.constantLong RJ13 314 (6148914691236517205), Cond.constantLong RJ13 316 (3689348814741910323), Cond.constantLong RJ13 318 (1085102592571150095), Cond.methodLink RX3 208 yX2_add, Cond.instanceMethod yX2_add, Cond.selects RX2 yX2_add yX2_add, Cond.code yX2_add cX2_add 3 none, Cond.fieldLink RX2 9 "GuessMarks$Parting" "marks" "[I"]
def wsL_weight_r4 : List Cond := [Cond.methodLink RX2 34 Lib.Math.max.name, Cond.static Lib.Math.max.name, Cond.initialized "java/lang/Math", Cond.code Lib.Math.max.name Lib.Math.max.code 2 (some .int)]
def wsL_weight : List Cond := .codeWith yL_weight cL_weight 4 (some .int) [(0, 9, 12, 18)] :: ((wsL_weight_r1 ++ (wsL_weight_r2 ++ (wsL_weight_r3 ++ wsL_weight_r4))) ++ wsX30 ++ wsX20 ++ wsX10 ++ (vx_atS RX3 68 "java/lang/IndexOutOfBoundsException" ["java/lang/RuntimeException", "java/lang/Exception"]).filter goodWord)
def wsL_bestGuess_r1 : List Cond := [Cond.classLink RL 13 "java/lang/IllegalArgumentException", Cond.classLink RL 27 "java/lang/IllegalStateException", Cond.methodLink RL 73 yX3_bestGuess, Cond.instanceMethod yX3_bestGuess, Cond.selects RX3 yX3_bestGuess yX3_bestGuess, Cond.initialized RX3, Cond.code yX3_bestGuess cX3_bestGuess 2 (some .int), Cond.classLink RX3 46 "java/lang/IllegalArgumentException", Cond.initialized "java/lang/IllegalArgumentException", Cond.classLink RX3 87 "java/lang/IllegalStateException", Cond.initialized "java/lang/IllegalStateException", Cond.fieldLink RX3 133 "GuessMarks" "leftCount" "I", Cond.fieldLink RX3 32 "GuessMarks" "rowsLeft" "[I", Cond.methodLink RX3 185 yX3_bestFor, Cond.instanceMethod yX3_bestFor, Cond.selects RX3 yX3_bestFor yX3_bestFor, Cond.code yX3_bestFor cX3_bestFor 12 (some .int), Cond.fieldLink RX3 12 "GuessMarks" "game" "LGuessMarks$Game;", Cond.fieldLink RX3 53 "GuessMarks$Game" "rows" "I", Cond.fieldLink RX3 28 "GuessMarks" "parting" "LGuessMarks$Parting;", Cond.methodLink RX3 201 yX3_partRows, Cond.instanceMethod yX3_partRows, Cond.selects RX3 yX3_partRows yX3_partRows, Cond.code yX3_partRows cX3_partRows 6 none]
def wsL_bestGuess_r2 : List Cond := [Cond.methodLink RX3 205 yX2_clear, Cond.instanceMethod yX2_clear, Cond.selects RX2 yX2_clear yX2_clear, Cond.initialized RX2, Cond.code yX2_clear cX2_clear 1 none, Cond.fieldLink RX2 18 "GuessMarks$Parting" "count" "I", Cond.fieldLink RX2 22 "GuessMarks$Parting" "greatest" "I", Cond.fieldLink RX2 25 "GuessMarks$Parting" "squares" "I", Cond.fieldLink RX2 15 "GuessMarks$Parting" "sizes" "[I", Cond.methodLink RX2 28 yJ7_fill_53178, Cond.static yJ7_fill_53178, Cond.initialized RJ7, Cond.code yJ7_fill_53178 cJ7_fill_53178 4 none, Cond.methodLink RX3 75 yX1_compare, Cond.instanceMethod yX1_compare, Cond.selects RX1 yX1_compare yX1_compare, Cond.initialized RX1, Cond.code yX1_compare cX1_compare 7 (some .int), Cond.fieldLink RX1 9 "GuessMarks$Game" "colourBits" "[I", Cond.constant RX1 43 (2396745), Cond.fieldLink RX1 19 "GuessMarks$Game" "places" "I", Cond.fieldLink RX1 15 "GuessMarks$Game" "pinBits" "[J", Cond.methodLink RX1 37 yX1_has, Cond.instanceMethod yX1_has]
def wsL_bestGuess_r3 : List Cond := [Cond.selects RX1 yX1_has yX1_has, Cond.code yX1_has cX1_has 2 (some .boolean), Cond.fieldLink RX1 26 "GuessMarks$Game" "rows" "I", Cond.methodLink RX1 44 yJ6_bitCount_0f7a4, Cond.static yJ6_bitCount_0f7a4, Cond.initialized RJ6, Cond.code yJ6_bitCount_0f7a4 cJ6_bitCount_0f7a4 1 (some .int), Cond.constant RJ6 265 (1431655765), Cond.constant RJ6 266 (858993459), Cond.constant RJ6 267 (252645135), Cond.methodLink RX1 50 yJ13_bitCount_95d88, Cond.static yJ13_bitCount_95d88, Cond.initialized RJ13, Cond.code yJ13_bitCount_95d88 cJ13_bitCount_95d88 2 (some .int), Cond.constantLong RJ13 314 (6148914691236517205), Cond.constantLong RJ13 316 (3689348814741910323), Cond.constantLong RJ13 318 (1085102592571150095), Cond.methodLink RX3 208 yX2_add, Cond.instanceMethod yX2_add, Cond.selects RX2 yX2_add yX2_add, Cond.code yX2_add cX2_add 3 none, Cond.fieldLink RX2 9 "GuessMarks$Parting" "marks" "[I", Cond.methodLink RX2 34 Lib.Math.max.name, Cond.static Lib.Math.max.name]
def wsL_bestGuess_r4 : List Cond := [Cond.initialized "java/lang/Math", Cond.code Lib.Math.max.name Lib.Math.max.code 2 (some .int), Cond.methodLink RX3 210 yX2_score, Cond.instanceMethod yX2_score, Cond.selects RX2 yX2_score yX2_score, Cond.code yX2_score cX2_score 2 (some .int), Cond.methodLink RX3 213 yX1_allBlack, Cond.instanceMethod yX1_allBlack, Cond.selects RX1 yX1_allBlack yX1_allBlack, Cond.code yX1_allBlack cX1_allBlack 1 (some .int), Cond.methodLink RX3 172 yX2_sizeWith, Cond.instanceMethod yX2_sizeWith, Cond.selects RX2 yX2_sizeWith yX2_sizeWith, Cond.code yX2_sizeWith cX2_sizeWith 2 (some .int)]
def wsL_bestGuess : List Cond := .codeWith yL_bestGuess cL_bestGuess 4 (some .int) [(0, 9, 12, 13), (0, 9, 15, 27)] :: ((wsL_bestGuess_r1 ++ (wsL_bestGuess_r2 ++ (wsL_bestGuess_r3 ++ wsL_bestGuess_r4))) ++ wsX30 ++ wsX10 ++ wsX20 ++ (vx_atS RX3 50 "java/lang/IllegalArgumentException" ["java/lang/RuntimeException", "java/lang/Exception"]).filter goodWord ++ (vx_atS RX3 91 "java/lang/IllegalStateException" ["java/lang/RuntimeException", "java/lang/Exception"]).filter goodWord)
def wsL_guessesNeeded_r1 : List Cond := [Cond.classLink RL 27 "java/lang/IllegalStateException", Cond.methodLink RL 76 yX3_guessesNeeded, Cond.instanceMethod yX3_guessesNeeded, Cond.selects RX3 yX3_guessesNeeded yX3_guessesNeeded, Cond.initialized RX3, Cond.code yX3_guessesNeeded cX3_guessesNeeded 1 (some .int), Cond.classLink RX3 87 "java/lang/IllegalStateException", Cond.initialized "java/lang/IllegalStateException", Cond.fieldLink RX3 133 "GuessMarks" "leftCount" "I", Cond.fieldLink RX3 32 "GuessMarks" "rowsLeft" "[I", Cond.fieldLink RX3 36 "GuessMarks" "search" "[I", Cond.methodLink RX3 191 arraycopyName, Cond.native arraycopyName, Cond.static arraycopyName, Cond.initialized "java/lang/System", Cond.methodLink RX3 197 yX3_guessesFor, Cond.instanceMethod yX3_guessesFor, Cond.selects RX3 yX3_guessesFor yX3_guessesFor, Cond.code yX3_guessesFor cX3_guessesFor 8 (some .int), Cond.fieldLink RX3 12 "GuessMarks" "game" "LGuessMarks$Game;", Cond.methodLink RX3 225 Lib.Math.max.name, Cond.static Lib.Math.max.name, Cond.initialized "java/lang/Math", Cond.code Lib.Math.max.name Lib.Math.max.code 2 (some .int)]
def wsL_guessesNeeded_r2 : List Cond := [Cond.methodLink RX3 185 yX3_bestFor, Cond.instanceMethod yX3_bestFor, Cond.selects RX3 yX3_bestFor yX3_bestFor, Cond.code yX3_bestFor cX3_bestFor 12 (some .int), Cond.fieldLink RX3 53 "GuessMarks$Game" "rows" "I", Cond.fieldLink RX3 28 "GuessMarks" "parting" "LGuessMarks$Parting;", Cond.methodLink RX3 201 yX3_partRows, Cond.instanceMethod yX3_partRows, Cond.selects RX3 yX3_partRows yX3_partRows, Cond.code yX3_partRows cX3_partRows 6 none, Cond.methodLink RX3 205 yX2_clear, Cond.instanceMethod yX2_clear, Cond.selects RX2 yX2_clear yX2_clear, Cond.initialized RX2, Cond.code yX2_clear cX2_clear 1 none, Cond.fieldLink RX2 18 "GuessMarks$Parting" "count" "I", Cond.fieldLink RX2 22 "GuessMarks$Parting" "greatest" "I", Cond.fieldLink RX2 25 "GuessMarks$Parting" "squares" "I", Cond.fieldLink RX2 15 "GuessMarks$Parting" "sizes" "[I", Cond.methodLink RX2 28 yJ7_fill_53178, Cond.static yJ7_fill_53178, Cond.initialized RJ7, Cond.code yJ7_fill_53178 cJ7_fill_53178 4 none, Cond.methodLink RX3 75 yX1_compare]
def wsL_guessesNeeded_r3 : List Cond := [Cond.instanceMethod yX1_compare, Cond.selects RX1 yX1_compare yX1_compare, Cond.initialized RX1, Cond.code yX1_compare cX1_compare 7 (some .int), Cond.fieldLink RX1 9 "GuessMarks$Game" "colourBits" "[I", Cond.constant RX1 43 (2396745), Cond.fieldLink RX1 19 "GuessMarks$Game" "places" "I", Cond.fieldLink RX1 15 "GuessMarks$Game" "pinBits" "[J", Cond.methodLink RX1 37 yX1_has, Cond.instanceMethod yX1_has, Cond.selects RX1 yX1_has yX1_has, Cond.code yX1_has cX1_has 2 (some .boolean), Cond.fieldLink RX1 26 "GuessMarks$Game" "rows" "I", Cond.methodLink RX1 44 yJ6_bitCount_0f7a4, Cond.static yJ6_bitCount_0f7a4, Cond.initialized RJ6, Cond.code yJ6_bitCount_0f7a4 cJ6_bitCount_0f7a4 1 (some .int), Cond.constant RJ6 265 (1431655765), Cond.constant RJ6 266 (858993459), Cond.constant RJ6 267 (252645135), Cond.methodLink RX1 50 yJ13_bitCount_95d88, Cond.static yJ13_bitCount_95d88, Cond.initialized RJ13, Cond.code yJ13_bitCount_95d88 cJ13_bitCount_95d88 2 (some .int)]
def wsL_guessesNeeded_r4 : List Cond := [Cond.constantLong RJ13 314 (6148914691236517205), Cond.constantLong RJ13 316 (3689348814741910323), Cond.constantLong RJ13 318 (1085102592571150095), Cond.methodLink RX3 208 yX2_add, Cond.instanceMethod yX2_add, Cond.selects RX2 yX2_add yX2_add, Cond.code yX2_add cX2_add 3 none, Cond.fieldLink RX2 9 "GuessMarks$Parting" "marks" "[I", Cond.methodLink RX2 34 Lib.Math.max.name, Cond.methodLink RX3 210 yX2_score, Cond.instanceMethod yX2_score, Cond.selects RX2 yX2_score yX2_score, Cond.code yX2_score cX2_score 2 (some .int), Cond.methodLink RX3 213 yX1_allBlack, Cond.instanceMethod yX1_allBlack, Cond.selects RX1 yX1_allBlack yX1_allBlack, Cond.code yX1_allBlack cX1_allBlack 1 (some .int), Cond.methodLink RX3 172 yX2_sizeWith, Cond.instanceMethod yX2_sizeWith, Cond.selects RX2 yX2_sizeWith yX2_sizeWith, Cond.code yX2_sizeWith cX2_sizeWith 2 (some .int), Cond.methodLink RX3 217 yX3_opensPart, Cond.instanceMethod yX3_opensPart, Cond.selects RX3 yX3_opensPart yX3_opensPart]
def wsL_guessesNeeded_r5 : List Cond := [Cond.code yX3_opensPart cX3_opensPart 6 (some .boolean), Cond.methodLink RX3 221 yX3_guessesForPart, Cond.instanceMethod yX3_guessesForPart, Cond.selects RX3 yX3_guessesForPart yX3_guessesForPart, Cond.code yX3_guessesForPart cX3_guessesForPart 9 (some .int)]
def wsL_guessesNeeded : List Cond := .codeWith yL_guessesNeeded cL_guessesNeeded 3 (some .int) [(0, 8, 11, 27)] :: ((wsL_guessesNeeded_r1 ++ (wsL_guessesNeeded_r2 ++ (wsL_guessesNeeded_r3 ++ (wsL_guessesNeeded_r4 ++ wsL_guessesNeeded_r5)))) ++ wsX30 ++ wsX10 ++ wsX20 ++ (vx_atS RX3 91 "java/lang/IllegalStateException" ["java/lang/RuntimeException", "java/lang/Exception"]).filter goodWord)
def wsL_isInProof_r1 : List Cond := [Cond.classLink RL 18 "java/lang/IndexOutOfBoundsException", Cond.classLink RL 27 "java/lang/IllegalStateException", Cond.methodLink RL 79 yX3_isInProof, Cond.instanceMethod yX3_isInProof, Cond.selects RX3 yX3_isInProof yX3_isInProof, Cond.initialized RX3, Cond.code yX3_isInProof cX3_isInProof 2 (some .boolean), Cond.classLink RX3 87 "java/lang/IllegalStateException", Cond.initialized "java/lang/IllegalStateException", Cond.fieldLink RX3 133 "GuessMarks" "leftCount" "I", Cond.fieldLink RX3 21 "GuessMarks" "told" "LGuessMarks$Entries;", Cond.methodLink RX3 144 yX3_requireEntry, Cond.instanceMethod yX3_requireEntry, Cond.selects RX3 yX3_requireEntry yX3_requireEntry, Cond.code yX3_requireEntry cX3_requireEntry 2 none, Cond.classLink RX3 64 "java/lang/IndexOutOfBoundsException", Cond.initialized "java/lang/IndexOutOfBoundsException", Cond.methodLink RX3 153 yX0_has, Cond.instanceMethod yX0_has, Cond.selects RX0 yX0_has yX0_has, Cond.initialized RX0, Cond.code yX0_has cX0_has 2 (some .boolean), Cond.fieldLink RX0 25 "GuessMarks$Entries" "count" "I", Cond.methodLink RX3 230 yX3_shortestProof]
def wsL_isInProof_r2 : List Cond := [Cond.instanceMethod yX3_shortestProof, Cond.selects RX3 yX3_shortestProof yX3_shortestProof, Cond.code yX3_shortestProof cX3_shortestProof 3 (some .int), Cond.methodLink RX3 243 yX0_allBits, Cond.instanceMethod yX0_allBits, Cond.selects RX0 yX0_allBits yX0_allBits, Cond.code yX0_allBits cX0_allBits 1 (some .int), Cond.methodLink RX3 233 yJ6_bitCount_0f7a4, Cond.static yJ6_bitCount_0f7a4, Cond.initialized RJ6, Cond.code yJ6_bitCount_0f7a4 cJ6_bitCount_0f7a4 1 (some .int), Cond.constant RJ6 265 (1431655765), Cond.constant RJ6 266 (858993459), Cond.constant RJ6 267 (252645135), Cond.methodLink RX3 246 yX3_leavesOne, Cond.instanceMethod yX3_leavesOne, Cond.selects RX3 yX3_leavesOne yX3_leavesOne, Cond.code yX3_leavesOne cX3_leavesOne 4 (some .boolean), Cond.fieldLink RX3 12 "GuessMarks" "game" "LGuessMarks$Game;", Cond.fieldLink RX3 53 "GuessMarks$Game" "rows" "I", Cond.fieldLink RX3 92 "GuessMarks" "liesAllowed" "I", Cond.methodLink RX3 249 yX0_countLiesIn, Cond.instanceMethod yX0_countLiesIn, Cond.selects RX0 yX0_countLiesIn yX0_countLiesIn]
def wsL_isInProof_r3 : List Cond := [Cond.code yX0_countLiesIn cX0_countLiesIn 3 (some .int), Cond.fieldLink RX0 21 "GuessMarks$Entries" "game" "LGuessMarks$Game;", Cond.fieldLink RX0 18 "GuessMarks$Entries" "lieBits" "[I", Cond.methodLink RX0 59 yX1_has, Cond.instanceMethod yX1_has, Cond.selects RX1 yX1_has yX1_has, Cond.initialized RX1, Cond.code yX1_has cX1_has 2 (some .boolean), Cond.fieldLink RX1 26 "GuessMarks$Game" "rows" "I", Cond.methodLink RX0 60 yJ6_bitCount_0f7a4, Cond.methodLink RX3 240 yX0_bitOf, Cond.instanceMethod yX0_bitOf, Cond.selects RX0 yX0_bitOf yX0_bitOf, Cond.code yX0_bitOf cX0_bitOf 2 (some .int), Cond.methodLink RX0 35 yX0_has]
def wsL_isInProof : List Cond := .codeWith yL_isInProof cL_isInProof 4 (some .int) [(0, 16, 19, 18), (0, 16, 22, 27)] :: ((wsL_isInProof_r1 ++ (wsL_isInProof_r2 ++ wsL_isInProof_r3)) ++ wsX30 ++ wsX00 ++ wsX10 ++ (vx_atS RX3 91 "java/lang/IllegalStateException" ["java/lang/RuntimeException", "java/lang/Exception"]).filter goodWord ++ (vx_atS RX3 68 "java/lang/IndexOutOfBoundsException" ["java/lang/RuntimeException", "java/lang/Exception"]).filter goodWord)
def wsL_law0_r1 : List Cond := [Cond.classLink RL 8 RX3, Cond.instantiable RX3 8, Cond.initialized RX3, Cond.classLink RL 83 RX4, Cond.instantiable RX4 16, Cond.initialized RX4, Cond.arrayClass .long, Cond.methodLink RL 82 yX3_init, Cond.instanceMethod yX3_init, Cond.code yX3_init cX3_init 1 none, Cond.methodLink RX3 3 objectInit, Cond.instanceMethod objectInit, Cond.code objectInit ⟨#[0xb1]⟩ 1 none, Cond.classLink RX3 9 RX1, Cond.instantiable RX1 5, Cond.initialized RX1, Cond.fieldLink RX3 12 "GuessMarks" "game" "LGuessMarks$Game;", Cond.classLink RX3 16 RX0, Cond.instantiable RX0 5, Cond.initialized RX0, Cond.fieldLink RX3 21 "GuessMarks" "told" "LGuessMarks$Entries;", Cond.classLink RX3 25 RX2, Cond.instantiable RX2 5, Cond.initialized RX2]
def wsL_law0_r2 : List Cond := [Cond.fieldLink RX3 28 "GuessMarks" "parting" "LGuessMarks$Parting;", Cond.arrayClass .int, Cond.fieldLink RX3 32 "GuessMarks" "rowsLeft" "[I", Cond.fieldLink RX3 36 "GuessMarks" "search" "[I", Cond.instanceMethod yX1_init, Cond.code yX1_init cX1_init 1 none, Cond.methodLink RX1 3 objectInit, Cond.fieldLink RX1 9 "GuessMarks$Game" "colourBits" "[I", Cond.fieldLink RX1 15 "GuessMarks$Game" "pinBits" "[J", Cond.methodLink RX3 18 yX0_init, Cond.instanceMethod yX0_init, Cond.code yX0_init cX0_init 2 none, Cond.methodLink RX0 3 objectInit, Cond.fieldLink RX0 9 "GuessMarks$Entries" "guesses" "[I", Cond.fieldLink RX0 15 "GuessMarks$Entries" "marks" "[I", Cond.fieldLink RX0 18 "GuessMarks$Entries" "lieBits" "[I", Cond.fieldLink RX0 21 "GuessMarks$Entries" "game" "LGuessMarks$Game;", Cond.instanceMethod yX2_init, Cond.code yX2_init cX2_init 1 none, Cond.methodLink RX2 3 objectInit, Cond.fieldLink RX2 9 "GuessMarks$Parting" "marks" "[I", Cond.fieldLink RX2 15 "GuessMarks$Parting" "sizes" "[I", Cond.methodLink RX3 39 yX1_lay, Cond.instanceMethod yX1_lay]
def wsL_law0_r3 : List Cond := [Cond.selects RX1 yX1_lay yX1_lay, Cond.code yX1_lay cX1_lay 5 (some .boolean), Cond.fieldLink RX1 19 "GuessMarks$Game" "places" "I", Cond.fieldLink RX1 23 "GuessMarks$Game" "colours" "I", Cond.fieldLink RX1 26 "GuessMarks$Game" "rows" "I", Cond.methodLink RX1 29 yX1_layRow, Cond.instanceMethod yX1_layRow, Cond.selects RX1 yX1_layRow yX1_layRow, Cond.code yX1_layRow cX1_layRow 8 none, Cond.methodLink RX1 33 yX1_withPin, Cond.static yX1_withPin, Cond.code yX1_withPin cX1_withPin 6 (some .long), Cond.constantLong RX1 41 (255), Cond.methodLink RX1 37 yX1_has, Cond.instanceMethod yX1_has, Cond.selects RX1 yX1_has yX1_has, Cond.code yX1_has cX1_has 2 (some .boolean), Cond.methodLink RX3 43 yX3_tellNothing, Cond.instanceMethod yX3_tellNothing, Cond.selects RX3 yX3_tellNothing yX3_tellNothing, Cond.code yX3_tellNothing cX3_tellNothing 1 none, Cond.fieldLink RX3 92 "GuessMarks" "liesAllowed" "I", Cond.fieldLink RX3 80 "GuessMarks" "hiddenRow" "I", Cond.methodLink RX3 98 yX0_forgetAll]
def wsL_law0_r4 : List Cond := [Cond.instanceMethod yX0_forgetAll, Cond.selects RX0 yX0_forgetAll yX0_forgetAll, Cond.code yX0_forgetAll cX0_forgetAll 1 none, Cond.fieldLink RX0 25 "GuessMarks$Entries" "count" "I", Cond.methodLink RX0 29 yJ7_fill_53178, Cond.static yJ7_fill_53178, Cond.initialized RJ7, Cond.code yJ7_fill_53178 cJ7_fill_53178 4 none, Cond.methodLink RX3 95 yX3_listRowsLeft, Cond.instanceMethod yX3_listRowsLeft, Cond.selects RX3 yX3_listRowsLeft yX3_listRowsLeft, Cond.code yX3_listRowsLeft cX3_listRowsLeft 2 none, Cond.fieldLink RX3 133 "GuessMarks" "leftCount" "I", Cond.fieldLink RX3 53 "GuessMarks$Game" "rows" "I", Cond.methodLink RX3 110 yX3_remains, Cond.instanceMethod yX3_remains, Cond.selects RX3 yX3_remains yX3_remains, Cond.code yX3_remains cX3_remains 2 (some .boolean), Cond.methodLink RX3 83 yX0_countLies, Cond.instanceMethod yX0_countLies, Cond.selects RX0 yX0_countLies yX0_countLies, Cond.code yX0_countLies cX0_countLies 2 (some .int), Cond.methodLink RX0 52 yX0_allBits, Cond.instanceMethod yX0_allBits]
def wsL_law0_r5 : List Cond := [Cond.selects RX0 yX0_allBits yX0_allBits, Cond.code yX0_allBits cX0_allBits 1 (some .int), Cond.methodLink RX0 56 yX0_countLiesIn, Cond.instanceMethod yX0_countLiesIn, Cond.selects RX0 yX0_countLiesIn yX0_countLiesIn, Cond.code yX0_countLiesIn cX0_countLiesIn 3 (some .int), Cond.methodLink RX0 59 yX1_has, Cond.methodLink RX0 60 yJ6_bitCount_0f7a4, Cond.static yJ6_bitCount_0f7a4, Cond.initialized RJ6, Cond.code yJ6_bitCount_0f7a4 cJ6_bitCount_0f7a4 1 (some .int), Cond.constant RJ6 265 (1431655765), Cond.constant RJ6 266 (858993459), Cond.constant RJ6 267 (252645135), Cond.methodLink RL 85 yX4_init, Cond.instanceMethod yX4_init, Cond.code yX4_init cX4_init 1 none, Cond.methodLink RX4 1 objectInit, Cond.fieldLink RX4 7 "GuessMarksModel" "places" "I", Cond.fieldLink RX4 13 "GuessMarksModel" "colours" "I", Cond.fieldLink RX4 16 "GuessMarksModel" "rows" "I", Cond.fieldLink RX4 19 "GuessMarksModel" "hidden" "I", Cond.fieldLink RX4 22 "GuessMarksModel" "guess" "[I", Cond.fieldLink RX4 26 "GuessMarksModel" "told" "[I"]
def wsL_law0_r6 : List Cond := [Cond.fieldLink RX4 29 "GuessMarksModel" "has" "[I", Cond.fieldLink RX4 32 "GuessMarksModel" "size" "[I", Cond.fieldLink RX4 35 "GuessMarksModel" "set" "[I", Cond.fieldLink RX4 38 "GuessMarksModel" "from" "[I", Cond.fieldLink RX4 41 "GuessMarksModel" "many" "[I", Cond.fieldLink RX4 44 "GuessMarksModel" "depth" "[I", Cond.fieldLink RX4 47 "GuessMarksModel" "lieSets" "[I", Cond.methodLink RL 86 yL_begin, Cond.static yL_begin, Cond.initialized RL, Cond.codeWith yL_begin cL_begin 5 (some .int) [(0, 10, 13, 13)], Cond.classLink RL 13 "java/lang/IllegalArgumentException", Cond.methodLink RL 7 yX3_begin, Cond.instanceMethod yX3_begin, Cond.selects RX3 yX3_begin yX3_begin, Cond.code yX3_begin cX3_begin 3 (some .int), Cond.classLink RX3 46 "java/lang/IllegalArgumentException", Cond.initialized "java/lang/IllegalArgumentException", Cond.methodLink RL 91 yX4_begin, Cond.instanceMethod yX4_begin, Cond.selects RX4 yX4_begin yX4_begin, Cond.code yX4_begin cX4_begin 3 (some .int), Cond.fieldLink RX4 50 "GuessMarksModel" "thrown" "I", Cond.fieldLink RX4 61 "GuessMarksModel" "allowed" "I"]
def wsL_law0_r7 : List Cond := [Cond.fieldLink RX4 64 "GuessMarksModel" "entries" "I", Cond.methodLink RX4 53 yX4_in, Cond.static yX4_in, Cond.code yX4_in cX4_in 3 (some .boolean), Cond.methodLink RX4 57 yX4_power, Cond.static yX4_power, Cond.code yX4_power cX4_power 4 (some .int), Cond.methodLink RL 92 yX4_thrown, Cond.instanceMethod yX4_thrown, Cond.selects RX4 yX4_thrown yX4_thrown, Cond.code yX4_thrown cX4_thrown 1 (some .int), Cond.methodLink RL 95 yX3_rows, Cond.instanceMethod yX3_rows, Cond.selects RX3 yX3_rows yX3_rows, Cond.code yX3_rows cX3_rows 1 (some .int), Cond.methodLink RL 98 yX4_rows, Cond.instanceMethod yX4_rows, Cond.selects RX4 yX4_rows yX4_rows, Cond.code yX4_rows cX4_rows 1 (some .int), Cond.methodLink RL 99 yL_colourAt, Cond.static yL_colourAt, Cond.codeWith yL_colourAt cL_colourAt 5 (some .int) [(0, 10, 13, 18)], Cond.classLink RL 18 "java/lang/IndexOutOfBoundsException", Cond.methodLink RL 15 yX3_colourAt]
def wsL_law0_r8 : List Cond := [Cond.instanceMethod yX3_colourAt, Cond.selects RX3 yX3_colourAt yX3_colourAt, Cond.code yX3_colourAt cX3_colourAt 3 (some .int), Cond.classLink RX3 64 "java/lang/IndexOutOfBoundsException", Cond.initialized "java/lang/IndexOutOfBoundsException", Cond.fieldLink RX3 61 "GuessMarks$Game" "places" "I", Cond.methodLink RX3 57 yX1_has, Cond.methodLink RX3 69 yX1_colourOf, Cond.instanceMethod yX1_colourOf, Cond.selects RX1 yX1_colourOf yX1_colourOf, Cond.code yX1_colourOf cX1_colourOf 3 (some .int), Cond.methodLink RL 101 yX4_colourAt, Cond.instanceMethod yX4_colourAt, Cond.selects RX4 yX4_colourAt yX4_colourAt, Cond.code yX4_colourAt cX4_colourAt 3 (some .int), Cond.methodLink RX4 67 yX4_isRow, Cond.instanceMethod yX4_isRow, Cond.selects RX4 yX4_isRow yX4_isRow, Cond.code yX4_isRow cX4_isRow 2 (some .boolean), Cond.methodLink RX4 71 yX4_colour, Cond.instanceMethod yX4_colour, Cond.selects RX4 yX4_colour yX4_colour, Cond.code yX4_colour cX4_colour 3 (some .int), Cond.methodLink RL 102 yL_mark]
def wsL_law0_r9 : List Cond := [Cond.static yL_mark, Cond.codeWith yL_mark cL_mark 5 (some .int) [(0, 10, 13, 18)], Cond.methodLink RL 20 yX3_mark, Cond.instanceMethod yX3_mark, Cond.selects RX3 yX3_mark yX3_mark, Cond.code yX3_mark cX3_mark 3 (some .int), Cond.methodLink RX3 75 yX1_compare, Cond.instanceMethod yX1_compare, Cond.selects RX1 yX1_compare yX1_compare, Cond.code yX1_compare cX1_compare 7 (some .int), Cond.constant RX1 43 (2396745), Cond.methodLink RX1 44 yJ6_bitCount_0f7a4, Cond.methodLink RX1 50 yJ13_bitCount_95d88, Cond.static yJ13_bitCount_95d88, Cond.initialized RJ13, Cond.code yJ13_bitCount_95d88 cJ13_bitCount_95d88 2 (some .int), Cond.constantLong RJ13 314 (6148914691236517205), Cond.constantLong RJ13 316 (3689348814741910323), Cond.constantLong RJ13 318 (1085102592571150095), Cond.methodLink RL 104 yX4_mark, Cond.instanceMethod yX4_mark, Cond.selects RX4 yX4_mark yX4_mark, Cond.code yX4_mark cX4_mark 3 (some .int), Cond.methodLink RX4 74 yX4_markOfRows]
def wsL_law0_r10 : List Cond := [Cond.instanceMethod yX4_markOfRows, Cond.selects RX4 yX4_markOfRows yX4_markOfRows, Cond.code yX4_markOfRows cX4_markOfRows 8 (some .int), Cond.methodLink RL 105 yL_allowLies, Cond.static yL_allowLies, Cond.codeWith yL_allowLies cL_allowLies 4 (some .int) [(0, 9, 12, 13), (0, 9, 15, 27)], Cond.classLink RL 27 "java/lang/IllegalStateException", Cond.methodLink RL 23 yX3_allowLies, Cond.instanceMethod yX3_allowLies, Cond.selects RX3 yX3_allowLies yX3_allowLies, Cond.code yX3_allowLies cX3_allowLies 3 (some .int), Cond.classLink RX3 87 "java/lang/IllegalStateException", Cond.initialized "java/lang/IllegalStateException", Cond.methodLink RL 108 yX4_allowLies, Cond.instanceMethod yX4_allowLies, Cond.selects RX4 yX4_allowLies yX4_allowLies, Cond.code yX4_allowLies cX4_allowLies 3 (some .int), Cond.methodLink RX4 77 yX4_lies, Cond.instanceMethod yX4_lies, Cond.selects RX4 yX4_lies yX4_lies, Cond.code yX4_lies cX4_lies 4 (some .int), Cond.methodLink RL 109 yL_hide, Cond.static yL_hide, Cond.codeWith yL_hide cL_hide 4 (some .int) [(0, 16, 19, 18), (0, 16, 22, 27)]]
def wsL_law0_r11 : List Cond := [Cond.methodLink RL 29 yX3_hide, Cond.instanceMethod yX3_hide, Cond.selects RX3 yX3_hide yX3_hide, Cond.code yX3_hide cX3_hide 3 (some .boolean), Cond.methodLink RX3 106 yX3_requireRow, Cond.instanceMethod yX3_requireRow, Cond.selects RX3 yX3_requireRow yX3_requireRow, Cond.code yX3_requireRow cX3_requireRow 2 none, Cond.methodLink RL 111 yX4_hide, Cond.instanceMethod yX4_hide, Cond.selects RX4 yX4_hide yX4_hide, Cond.code yX4_hide cX4_hide 3 (some .boolean), Cond.methodLink RX4 81 yX4_isStill, Cond.instanceMethod yX4_isStill, Cond.selects RX4 yX4_isStill yX4_isStill, Cond.code yX4_isStill cX4_isStill 2 (some .boolean), Cond.methodLink RL 112 yL_guess, Cond.static yL_guess, Cond.codeWith yL_guess cL_guess 4 (some .int) [(0, 9, 12, 18), (0, 9, 15, 27)], Cond.methodLink RL 33 yX3_guess, Cond.instanceMethod yX3_guess, Cond.selects RX3 yX3_guess yX3_guess, Cond.code yX3_guess cX3_guess 3 (some .int), Cond.methodLink RX3 115 yX0_isFull]
def wsL_law0_r12 : List Cond := [Cond.instanceMethod yX0_isFull, Cond.selects RX0 yX0_isFull yX0_isFull, Cond.code yX0_isFull cX0_isFull 1 (some .boolean), Cond.methodLink RX3 121 yX3_addEntry, Cond.instanceMethod yX3_addEntry, Cond.selects RX3 yX3_addEntry yX3_addEntry, Cond.code yX3_addEntry cX3_addEntry 3 none, Cond.methodLink RX3 156 yX0_add, Cond.instanceMethod yX0_add, Cond.selects RX0 yX0_add yX0_add, Cond.code yX0_add cX0_add 5 none, Cond.fieldLink RX0 43 "GuessMarks$Game" "rows" "I", Cond.methodLink RX0 39 yX0_isFull, Cond.methodLink RX0 48 yX1_compare, Cond.methodLink RL 114 yX4_guess, Cond.instanceMethod yX4_guess, Cond.selects RX4 yX4_guess yX4_guess, Cond.code yX4_guess cX4_guess 3 (some .int), Cond.methodLink RX4 84 yX4_adds, Cond.instanceMethod yX4_adds, Cond.selects RX4 yX4_adds yX4_adds, Cond.code yX4_adds cX4_adds 3 none, Cond.methodLink RL 115 yL_tell, Cond.static yL_tell]
def wsL_law0_r13 : List Cond := [Cond.codeWith yL_tell cL_tell 5 (some .int) [(0, 10, 13, 18), (0, 10, 17, 13), (0, 10, 21, 27)], Cond.methodLink RL 36 yX3_tell, Cond.instanceMethod yX3_tell, Cond.selects RX3 yX3_tell yX3_tell, Cond.code yX3_tell cX3_tell 3 (some .int), Cond.methodLink RX3 125 yX3_requirePossible, Cond.instanceMethod yX3_requirePossible, Cond.selects RX3 yX3_requirePossible yX3_requirePossible, Cond.code yX3_requirePossible cX3_requirePossible 2 none, Cond.methodLink RX3 101 yX1_allows, Cond.instanceMethod yX1_allows, Cond.selects RX1 yX1_allows yX1_allows, Cond.code yX1_allows cX1_allows 5 (some .boolean), Cond.methodLink RX3 128 yX3_wouldLoseHidden, Cond.instanceMethod yX3_wouldLoseHidden, Cond.selects RX3 yX3_wouldLoseHidden yX3_wouldLoseHidden, Cond.code yX3_wouldLoseHidden cX3_wouldLoseHidden 3 (some .boolean), Cond.methodLink RL 117 yX4_tell, Cond.instanceMethod yX4_tell, Cond.selects RX4 yX4_tell yX4_tell, Cond.code yX4_tell cX4_tell 3 (some .int), Cond.methodLink RX4 88 yX4_isPossible, Cond.instanceMethod yX4_isPossible, Cond.selects RX4 yX4_isPossible yX4_isPossible]
def wsL_law0_r14 : List Cond := [Cond.code yX4_isPossible cX4_isPossible 4 (some .boolean), Cond.methodLink RX4 91 yX4_manyLeft, Cond.instanceMethod yX4_manyLeft, Cond.selects RX4 yX4_manyLeft yX4_manyLeft, Cond.code yX4_manyLeft cX4_manyLeft 3 (some .int), Cond.methodLink RL 118 yL_takeBack, Cond.static yL_takeBack, Cond.codeWith yL_takeBack cL_takeBack 3 (some .int) [(0, 8, 11, 27)], Cond.methodLink RL 39 yX3_takeBack, Cond.instanceMethod yX3_takeBack, Cond.selects RX3 yX3_takeBack yX3_takeBack, Cond.code yX3_takeBack cX3_takeBack 1 (some .int), Cond.fieldLink RX3 136 "GuessMarks$Entries" "count" "I", Cond.methodLink RX3 141 yX0_dropLatest, Cond.instanceMethod yX0_dropLatest, Cond.selects RX0 yX0_dropLatest yX0_dropLatest, Cond.code yX0_dropLatest cX0_dropLatest 2 none, Cond.methodLink RL 121 yX4_takeBack, Cond.instanceMethod yX4_takeBack, Cond.selects RX4 yX4_takeBack yX4_takeBack, Cond.code yX4_takeBack cX4_takeBack 1 (some .int), Cond.methodLink RL 122 yX3_entries, Cond.instanceMethod yX3_entries, Cond.selects RX3 yX3_entries yX3_entries]
def wsL_law0_r15 : List Cond := [Cond.code yX3_entries cX3_entries 1 (some .int), Cond.methodLink RL 125 yX4_entries, Cond.instanceMethod yX4_entries, Cond.selects RX4 yX4_entries yX4_entries, Cond.code yX4_entries cX4_entries 1 (some .int), Cond.methodLink RL 126 yL_guessOf, Cond.static yL_guessOf, Cond.codeWith yL_guessOf cL_guessOf 4 (some .int) [(0, 9, 12, 18)], Cond.methodLink RL 43 yX3_guessOf, Cond.instanceMethod yX3_guessOf, Cond.selects RX3 yX3_guessOf yX3_guessOf, Cond.code yX3_guessOf cX3_guessOf 2 (some .int), Cond.methodLink RX3 144 yX3_requireEntry, Cond.instanceMethod yX3_requireEntry, Cond.selects RX3 yX3_requireEntry yX3_requireEntry, Cond.code yX3_requireEntry cX3_requireEntry 2 none, Cond.methodLink RX3 153 yX0_has, Cond.instanceMethod yX0_has, Cond.selects RX0 yX0_has yX0_has, Cond.code yX0_has cX0_has 2 (some .boolean), Cond.methodLink RX3 147 yX0_guessAt, Cond.instanceMethod yX0_guessAt, Cond.selects RX0 yX0_guessAt yX0_guessAt, Cond.code yX0_guessAt cX0_guessAt 2 (some .int)]
def wsL_law0_r16 : List Cond := [Cond.methodLink RX0 35 yX0_has, Cond.methodLink RL 128 yX4_guessOf, Cond.instanceMethod yX4_guessOf, Cond.selects RX4 yX4_guessOf yX4_guessOf, Cond.code yX4_guessOf cX4_guessOf 2 (some .int), Cond.methodLink RX4 95 yX4_isEntry, Cond.instanceMethod yX4_isEntry, Cond.selects RX4 yX4_isEntry yX4_isEntry, Cond.code yX4_isEntry cX4_isEntry 2 (some .boolean), Cond.methodLink RL 129 yL_markOf, Cond.static yL_markOf, Cond.codeWith yL_markOf cL_markOf 4 (some .int) [(0, 9, 12, 18)], Cond.methodLink RL 46 yX3_markOf, Cond.instanceMethod yX3_markOf, Cond.selects RX3 yX3_markOf yX3_markOf, Cond.code yX3_markOf cX3_markOf 2 (some .int), Cond.methodLink RX3 150 yX0_markAt, Cond.instanceMethod yX0_markAt, Cond.selects RX0 yX0_markAt yX0_markAt, Cond.code yX0_markAt cX0_markAt 2 (some .int), Cond.methodLink RL 131 yX4_markOf, Cond.instanceMethod yX4_markOf, Cond.selects RX4 yX4_markOf yX4_markOf, Cond.code yX4_markOf cX4_markOf 2 (some .int)]
def wsL_law0_r17 : List Cond := [Cond.methodLink RL 132 yL_liesAbout, Cond.static yL_liesAbout, Cond.codeWith yL_liesAbout cL_liesAbout 4 (some .int) [(0, 9, 12, 18)], Cond.methodLink RL 49 yX3_liesAbout, Cond.instanceMethod yX3_liesAbout, Cond.selects RX3 yX3_liesAbout yX3_liesAbout, Cond.code yX3_liesAbout cX3_liesAbout 2 (some .int), Cond.methodLink RL 134 yX4_liesAbout, Cond.instanceMethod yX4_liesAbout, Cond.selects RX4 yX4_liesAbout yX4_liesAbout, Cond.code yX4_liesAbout cX4_liesAbout 2 (some .int), Cond.methodLink RL 135 yX3_left, Cond.instanceMethod yX3_left, Cond.selects RX3 yX3_left yX3_left, Cond.code yX3_left cX3_left 1 (some .int), Cond.methodLink RL 138 yX4_left, Cond.instanceMethod yX4_left, Cond.selects RX4 yX4_left yX4_left, Cond.code yX4_left cX4_left 1 (some .int), Cond.methodLink RL 139 yX3_leftByAll, Cond.instanceMethod yX3_leftByAll, Cond.selects RX3 yX3_leftByAll yX3_leftByAll, Cond.code yX3_leftByAll cX3_leftByAll 3 (some .int), Cond.methodLink RX3 159 yX0_countLiesAnew]
def wsL_law0_r18 : List Cond := [Cond.instanceMethod yX0_countLiesAnew, Cond.selects RX0 yX0_countLiesAnew yX0_countLiesAnew, Cond.code yX0_countLiesAnew cX0_countLiesAnew 4 (some .int), Cond.methodLink RL 142 yX4_leftByAll, Cond.instanceMethod yX4_leftByAll, Cond.selects RX4 yX4_leftByAll yX4_leftByAll, Cond.code yX4_leftByAll cX4_leftByAll 1 (some .int), Cond.methodLink RL 143 yL_isLeft, Cond.static yL_isLeft, Cond.codeWith yL_isLeft cL_isLeft 4 (some .int) [(0, 16, 19, 18)], Cond.methodLink RL 52 yX3_isLeft, Cond.instanceMethod yX3_isLeft, Cond.selects RX3 yX3_isLeft yX3_isLeft, Cond.code yX3_isLeft cX3_isLeft 2 (some .boolean), Cond.methodLink RL 145 yX4_isLeft, Cond.instanceMethod yX4_isLeft, Cond.selects RX4 yX4_isLeft yX4_isLeft, Cond.code yX4_isLeft cX4_isLeft 2 (some .boolean), Cond.methodLink RL 146 yL_leftAt, Cond.static yL_leftAt, Cond.codeWith yL_leftAt cL_leftAt 4 (some .int) [(0, 9, 12, 18)], Cond.methodLink RL 55 yX3_leftAt, Cond.instanceMethod yX3_leftAt, Cond.selects RX3 yX3_leftAt yX3_leftAt]
def wsL_law0_r19 : List Cond := [Cond.code yX3_leftAt cX3_leftAt 2 (some .int), Cond.methodLink RL 148 yX4_leftAt, Cond.instanceMethod yX4_leftAt, Cond.selects RX4 yX4_leftAt yX4_leftAt, Cond.code yX4_leftAt cX4_leftAt 3 (some .int), Cond.methodLink RX4 98 yX4_laysLeft, Cond.instanceMethod yX4_laysLeft, Cond.selects RX4 yX4_laysLeft yX4_laysLeft, Cond.code yX4_laysLeft cX4_laysLeft 3 (some .int), Cond.methodLink RL 149 yL_parts, Cond.static yL_parts, Cond.codeWith yL_parts cL_parts 4 (some .int) [(0, 9, 12, 18)], Cond.methodLink RL 58 yX3_parts, Cond.instanceMethod yX3_parts, Cond.selects RX3 yX3_parts yX3_parts, Cond.code yX3_parts cX3_parts 2 (some .int), Cond.fieldLink RX3 167 "GuessMarks$Parting" "count" "I", Cond.methodLink RX3 164 yX3_partLeft, Cond.instanceMethod yX3_partLeft, Cond.selects RX3 yX3_partLeft yX3_partLeft, Cond.code yX3_partLeft cX3_partLeft 2 none, Cond.methodLink RX3 201 yX3_partRows, Cond.instanceMethod yX3_partRows, Cond.selects RX3 yX3_partRows yX3_partRows]
def wsL_law0_r20 : List Cond := [Cond.code yX3_partRows cX3_partRows 6 none, Cond.methodLink RX3 205 yX2_clear, Cond.instanceMethod yX2_clear, Cond.selects RX2 yX2_clear yX2_clear, Cond.code yX2_clear cX2_clear 1 none, Cond.fieldLink RX2 18 "GuessMarks$Parting" "count" "I", Cond.fieldLink RX2 22 "GuessMarks$Parting" "greatest" "I", Cond.fieldLink RX2 25 "GuessMarks$Parting" "squares" "I", Cond.methodLink RX2 28 yJ7_fill_53178, Cond.methodLink RX3 208 yX2_add, Cond.instanceMethod yX2_add, Cond.selects RX2 yX2_add yX2_add, Cond.code yX2_add cX2_add 3 none, Cond.methodLink RX2 34 Lib.Math.max.name, Cond.static Lib.Math.max.name, Cond.initialized "java/lang/Math", Cond.code Lib.Math.max.name Lib.Math.max.code 2 (some .int), Cond.methodLink RL 151 yX4_parts, Cond.instanceMethod yX4_parts, Cond.selects RX4 yX4_parts yX4_parts, Cond.code yX4_parts cX4_parts 2 (some .int), Cond.methodLink RX4 105 yX4_asks, Cond.instanceMethod yX4_asks, Cond.selects RX4 yX4_asks yX4_asks]
def wsL_law0_r21 : List Cond := [Cond.code yX4_asks cX4_asks 3 (some .boolean), Cond.methodLink RX4 101 yX4_laysParts, Cond.instanceMethod yX4_laysParts, Cond.selects RX4 yX4_laysParts yX4_laysParts, Cond.code yX4_laysParts cX4_laysParts 5 none, Cond.methodLink RX4 108 yX4_manyParts, Cond.instanceMethod yX4_manyParts, Cond.selects RX4 yX4_manyParts yX4_manyParts, Cond.code yX4_manyParts cX4_manyParts 3 (some .int), Cond.methodLink RL 152 yL_partMark, Cond.static yL_partMark, Cond.codeWith yL_partMark cL_partMark 5 (some .int) [(0, 10, 13, 18)], Cond.methodLink RL 61 yX3_partMark, Cond.instanceMethod yX3_partMark, Cond.selects RX3 yX3_partMark yX3_partMark, Cond.code yX3_partMark cX3_partMark 3 (some .int), Cond.methodLink RX3 168 yX2_has, Cond.instanceMethod yX2_has, Cond.selects RX2 yX2_has yX2_has, Cond.code yX2_has cX2_has 2 (some .boolean), Cond.methodLink RX3 171 yX2_markAt, Cond.instanceMethod yX2_markAt, Cond.selects RX2 yX2_markAt yX2_markAt, Cond.code yX2_markAt cX2_markAt 2 (some .int)]
def wsL_law0_r22 : List Cond := [Cond.methodLink RX2 40 yX2_has, Cond.methodLink RL 154 yX4_partMark, Cond.instanceMethod yX4_partMark, Cond.selects RX4 yX4_partMark yX4_partMark, Cond.code yX4_partMark cX4_partMark 9 (some .int), Cond.methodLink RL 155 yL_partSize, Cond.static yL_partSize, Cond.codeWith yL_partSize cL_partSize 5 (some .int) [(0, 10, 13, 18), (0, 10, 17, 13)], Cond.methodLink RL 64 yX3_partSize, Cond.instanceMethod yX3_partSize, Cond.selects RX3 yX3_partSize yX3_partSize, Cond.code yX3_partSize cX3_partSize 3 (some .int), Cond.methodLink RX3 172 yX2_sizeWith, Cond.instanceMethod yX2_sizeWith, Cond.selects RX2 yX2_sizeWith yX2_sizeWith, Cond.code yX2_sizeWith cX2_sizeWith 2 (some .int), Cond.methodLink RL 157 yX4_partSize, Cond.instanceMethod yX4_partSize, Cond.selects RX4 yX4_partSize yX4_partSize, Cond.code yX4_partSize cX4_partSize 3 (some .int), Cond.methodLink RL 158 yL_worstCase, Cond.static yL_worstCase, Cond.codeWith yL_worstCase cL_worstCase 4 (some .int) [(0, 9, 12, 18)], Cond.methodLink RL 67 yX3_worstCase]
def wsL_law0_r23 : List Cond := [Cond.instanceMethod yX3_worstCase, Cond.selects RX3 yX3_worstCase yX3_worstCase, Cond.code yX3_worstCase cX3_worstCase 2 (some .int), Cond.fieldLink RX3 175 "GuessMarks$Parting" "greatest" "I", Cond.methodLink RL 160 yX4_worstCase, Cond.instanceMethod yX4_worstCase, Cond.selects RX4 yX4_worstCase yX4_worstCase, Cond.code yX4_worstCase cX4_worstCase 2 (some .int), Cond.methodLink RX4 111 yX4_worst, Cond.instanceMethod yX4_worst, Cond.selects RX4 yX4_worst yX4_worst, Cond.code yX4_worst cX4_worst 3 (some .int), Cond.methodLink RL 161 yL_weight, Cond.static yL_weight, Cond.codeWith yL_weight cL_weight 4 (some .int) [(0, 9, 12, 18)], Cond.methodLink RL 70 yX3_weight, Cond.instanceMethod yX3_weight, Cond.selects RX3 yX3_weight yX3_weight, Cond.code yX3_weight cX3_weight 2 (some .int), Cond.fieldLink RX3 178 "GuessMarks$Parting" "squares" "I", Cond.methodLink RL 163 yX4_weight, Cond.instanceMethod yX4_weight, Cond.selects RX4 yX4_weight yX4_weight, Cond.code yX4_weight cX4_weight 2 (some .int)]
def wsL_law0_r24 : List Cond := [Cond.methodLink RX4 114 yX4_squares, Cond.instanceMethod yX4_squares, Cond.selects RX4 yX4_squares yX4_squares, Cond.code yX4_squares cX4_squares 3 (some .int), Cond.methodLink RL 164 yL_bestGuess, Cond.static yL_bestGuess, Cond.codeWith yL_bestGuess cL_bestGuess 4 (some .int) [(0, 9, 12, 13), (0, 9, 15, 27)], Cond.methodLink RL 73 yX3_bestGuess, Cond.instanceMethod yX3_bestGuess, Cond.selects RX3 yX3_bestGuess yX3_bestGuess, Cond.code yX3_bestGuess cX3_bestGuess 2 (some .int), Cond.methodLink RX3 185 yX3_bestFor, Cond.instanceMethod yX3_bestFor, Cond.selects RX3 yX3_bestFor yX3_bestFor, Cond.code yX3_bestFor cX3_bestFor 12 (some .int), Cond.methodLink RX3 210 yX2_score, Cond.instanceMethod yX2_score, Cond.selects RX2 yX2_score yX2_score, Cond.code yX2_score cX2_score 2 (some .int), Cond.methodLink RX3 213 yX1_allBlack, Cond.instanceMethod yX1_allBlack, Cond.selects RX1 yX1_allBlack yX1_allBlack, Cond.code yX1_allBlack cX1_allBlack 1 (some .int), Cond.methodLink RL 166 yX4_bestGuess]
def wsL_law0_r25 : List Cond := [Cond.instanceMethod yX4_bestGuess, Cond.selects RX4 yX4_bestGuess yX4_bestGuess, Cond.code yX4_bestGuess cX4_bestGuess 3 (some .int), Cond.methodLink RX4 120 yX4_best, Cond.instanceMethod yX4_best, Cond.selects RX4 yX4_best yX4_best, Cond.code yX4_best cX4_best 9 (some .int), Cond.methodLink RX4 117 yX4_isAmong, Cond.instanceMethod yX4_isAmong, Cond.selects RX4 yX4_isAmong yX4_isAmong, Cond.code yX4_isAmong cX4_isAmong 6 (some .boolean), Cond.methodLink RL 167 yL_guessesNeeded, Cond.static yL_guessesNeeded, Cond.codeWith yL_guessesNeeded cL_guessesNeeded 3 (some .int) [(0, 8, 11, 27)], Cond.methodLink RL 76 yX3_guessesNeeded, Cond.instanceMethod yX3_guessesNeeded, Cond.selects RX3 yX3_guessesNeeded yX3_guessesNeeded, Cond.code yX3_guessesNeeded cX3_guessesNeeded 1 (some .int), Cond.methodLink RX3 191 arraycopyName, Cond.native arraycopyName, Cond.static arraycopyName, Cond.initialized "java/lang/System", Cond.methodLink RX3 197 yX3_guessesFor, Cond.instanceMethod yX3_guessesFor]
def wsL_law0_r26 : List Cond := [Cond.selects RX3 yX3_guessesFor yX3_guessesFor, Cond.code yX3_guessesFor cX3_guessesFor 8 (some .int), Cond.methodLink RX3 225 Lib.Math.max.name, Cond.methodLink RX3 217 yX3_opensPart, Cond.instanceMethod yX3_opensPart, Cond.selects RX3 yX3_opensPart yX3_opensPart, Cond.code yX3_opensPart cX3_opensPart 6 (some .boolean), Cond.methodLink RX3 221 yX3_guessesForPart, Cond.instanceMethod yX3_guessesForPart, Cond.selects RX3 yX3_guessesForPart yX3_guessesForPart, Cond.code yX3_guessesForPart cX3_guessesForPart 9 (some .int), Cond.methodLink RL 169 yX4_guessesNeeded, Cond.instanceMethod yX4_guessesNeeded, Cond.selects RX4 yX4_guessesNeeded yX4_guessesNeeded, Cond.code yX4_guessesNeeded cX4_guessesNeeded 10 (some .int), Cond.methodLink RL 170 yX3_proofSize, Cond.instanceMethod yX3_proofSize, Cond.selects RX3 yX3_proofSize yX3_proofSize, Cond.code yX3_proofSize cX3_proofSize 1 (some .int), Cond.methodLink RX3 230 yX3_shortestProof, Cond.instanceMethod yX3_shortestProof, Cond.selects RX3 yX3_shortestProof yX3_shortestProof, Cond.code yX3_shortestProof cX3_shortestProof 3 (some .int), Cond.methodLink RX3 243 yX0_allBits]
def wsL_law0_r27 : List Cond := [Cond.methodLink RX3 233 yJ6_bitCount_0f7a4, Cond.methodLink RX3 246 yX3_leavesOne, Cond.instanceMethod yX3_leavesOne, Cond.selects RX3 yX3_leavesOne yX3_leavesOne, Cond.code yX3_leavesOne cX3_leavesOne 4 (some .boolean), Cond.methodLink RX3 249 yX0_countLiesIn, Cond.methodLink RL 173 yX4_proofSize, Cond.instanceMethod yX4_proofSize, Cond.selects RX4 yX4_proofSize yX4_proofSize, Cond.code yX4_proofSize cX4_proofSize 1 (some .int), Cond.methodLink RX4 137 yX4_proof, Cond.instanceMethod yX4_proof, Cond.selects RX4 yX4_proof yX4_proof, Cond.code yX4_proof cX4_proof 3 (some .int), Cond.methodLink RX4 127 yX4_laysLies, Cond.instanceMethod yX4_laysLies, Cond.selects RX4 yX4_laysLies yX4_laysLies, Cond.code yX4_laysLies cX4_laysLies 3 none, Cond.methodLink RX4 130 yX4_isAhead, Cond.static yX4_isAhead, Cond.code yX4_isAhead cX4_isAhead 4 (some .boolean), Cond.methodLink RX4 124 yX4_bits, Cond.static yX4_bits, Cond.code yX4_bits cX4_bits 3 (some .int)]
def wsL_law0_r28 : List Cond := [Cond.methodLink RX4 134 yX4_isProof, Cond.instanceMethod yX4_isProof, Cond.selects RX4 yX4_isProof yX4_isProof, Cond.code yX4_isProof cX4_isProof 4 (some .boolean), Cond.methodLink RL 174 yL_isInProof, Cond.static yL_isInProof, Cond.codeWith yL_isInProof cL_isInProof 4 (some .int) [(0, 16, 19, 18), (0, 16, 22, 27)], Cond.methodLink RL 79 yX3_isInProof, Cond.instanceMethod yX3_isInProof, Cond.selects RX3 yX3_isInProof yX3_isInProof, Cond.code yX3_isInProof cX3_isInProof 2 (some .boolean), Cond.methodLink RX3 240 yX0_bitOf, Cond.instanceMethod yX0_bitOf, Cond.selects RX0 yX0_bitOf yX0_bitOf, Cond.code yX0_bitOf cX0_bitOf 2 (some .int), Cond.methodLink RL 176 yX4_isInProof, Cond.instanceMethod yX4_isInProof, Cond.selects RX4 yX4_isInProof yX4_isInProof, Cond.code yX4_isInProof cX4_isInProof 2 (some .boolean)]
def wsL_law0 : List Cond := (wsL_law0_r1 ++ (wsL_law0_r2 ++ (wsL_law0_r3 ++ (wsL_law0_r4 ++ (wsL_law0_r5 ++ (wsL_law0_r6 ++ (wsL_law0_r7 ++ (wsL_law0_r8 ++ (wsL_law0_r9 ++ (wsL_law0_r10 ++ (wsL_law0_r11 ++ (wsL_law0_r12 ++ (wsL_law0_r13 ++ (wsL_law0_r14 ++ (wsL_law0_r15 ++ (wsL_law0_r16 ++ (wsL_law0_r17 ++ (wsL_law0_r18 ++ (wsL_law0_r19 ++ (wsL_law0_r20 ++ (wsL_law0_r21 ++ (wsL_law0_r22 ++ (wsL_law0_r23 ++ (wsL_law0_r24 ++ (wsL_law0_r25 ++ (wsL_law0_r26 ++ (wsL_law0_r27 ++ wsL_law0_r28))))))))))))))))))))))))))) ++ wsX30 ++ wsX40 ++ wsX10 ++ wsX00 ++ wsX20 ++ ([] : List Cond)
def wsL_law : List Cond := wsL_law0 ++ (vx_atS RX3 50 "java/lang/IllegalArgumentException" ["java/lang/RuntimeException", "java/lang/Exception"]).filter goodWord ++ (vx_atS RX3 68 "java/lang/IndexOutOfBoundsException" ["java/lang/RuntimeException", "java/lang/Exception"]).filter goodWord ++ (vx_atS RX3 91 "java/lang/IllegalStateException" ["java/lang/RuntimeException", "java/lang/Exception"]).filter goodWord
abbrev vwCl : List vw_C := [(RX0, TX0, 5), (RX1, TX1, 5), (RX2, TX2, 5), (RX3, TX3, 8), (RX4, TX4, 16)]
end
section
theorem dX0_init_0 : decode cX0_init 0 = .ok (.aload_n 0, 1) := by decide +kernel
theorem dX0_init_1 : decode cX0_init 1 = .ok (.invokespecial 3, 3) := by decide +kernel
theorem dX0_init_4 : decode cX0_init 4 = .ok (.aload_n 0, 1) := by decide +kernel
theorem dX0_init_5 : decode cX0_init 5 = .ok (.bipush 10, 2) := by decide +kernel
theorem dX0_init_7 : decode cX0_init 7 = .ok (.newarray .int, 2) := by decide +kernel
theorem dX0_init_9 : decode cX0_init 9 = .ok (.putfield 9, 3) := by decide +kernel
theorem dX0_init_12 : decode cX0_init 12 = .ok (.aload_n 0, 1) := by decide +kernel
theorem dX0_init_13 : decode cX0_init 13 = .ok (.bipush 10, 2) := by decide +kernel
theorem dX0_init_15 : decode cX0_init 15 = .ok (.newarray .int, 2) := by decide +kernel
theorem dX0_init_17 : decode cX0_init 17 = .ok (.putfield 15, 3) := by decide +kernel
theorem dX0_init_20 : decode cX0_init 20 = .ok (.aload_n 0, 1) := by decide +kernel
theorem dX0_init_21 : decode cX0_init 21 = .ok (.sipush 256, 3) := by decide +kernel
theorem dX0_init_24 : decode cX0_init 24 = .ok (.newarray .int, 2) := by decide +kernel
theorem dX0_init_26 : decode cX0_init 26 = .ok (.putfield 18, 3) := by decide +kernel
theorem dX0_init_29 : decode cX0_init 29 = .ok (.aload_n 0, 1) := by decide +kernel
theorem dX0_init_30 : decode cX0_init 30 = .ok (.aload_n 1, 1) := by decide +kernel
theorem dX0_init_31 : decode cX0_init 31 = .ok (.putfield 21, 3) := by decide +kernel
theorem dX0_init_34 : decode cX0_init 34 = .ok (.return_, 1) := by decide +kernel
set_option maxRecDepth 20000 in
theorem ggX0_forgetAll_J7_fill_53178 : GoodIn wsX0_forgetAll wsJ7_fill_53178 := goodIn_r _ [6] (by decide +kernel) (by decide +kernel)
set_option maxRecDepth 20000 in
theorem gX0_forgetAll_J7_fill_53178 : GoodIn wsX0_forgetAll (va_wsS RX0 29 yJ7_fill_53178 wsJ7_fill_53178) := goodIn_app (goodIn_of _ (by decide +kernel)) ggX0_forgetAll_J7_fill_53178
theorem dX0_forgetAll_0 : decode cX0_forgetAll 0 = .ok (.aload_n 0, 1) := by decide +kernel
theorem dX0_forgetAll_1 : decode cX0_forgetAll 1 = .ok (.iconst 0, 1) := by decide +kernel
theorem dX0_forgetAll_2 : decode cX0_forgetAll 2 = .ok (.putfield 25, 3) := by decide +kernel
theorem dX0_forgetAll_5 : decode cX0_forgetAll 5 = .ok (.aload_n 0, 1) := by decide +kernel
theorem dX0_forgetAll_6 : decode cX0_forgetAll 6 = .ok (.getfield 18, 3) := by decide +kernel
theorem dX0_forgetAll_9 : decode cX0_forgetAll 9 = .ok (.iconst 0, 1) := by decide +kernel
theorem dX0_forgetAll_10 : decode cX0_forgetAll 10 = .ok (.invokestatic 29, 3) := by decide +kernel
theorem dX0_forgetAll_13 : decode cX0_forgetAll 13 = .ok (.return_, 1) := by decide +kernel
theorem dX0_isFull_0 : decode cX0_isFull 0 = .ok (.aload_n 0, 1) := by decide +kernel
theorem dX0_isFull_1 : decode cX0_isFull 1 = .ok (.getfield 25, 3) := by decide +kernel
theorem dX0_isFull_4 : decode cX0_isFull 4 = .ok (.bipush 10, 2) := by decide +kernel
theorem dX0_isFull_6 : decode cX0_isFull 6 = .ok (.if_icmp .lt 7, 3) := by decide +kernel
theorem dX0_isFull_9 : decode cX0_isFull 9 = .ok (.iconst 1, 1) := by decide +kernel
theorem dX0_isFull_10 : decode cX0_isFull 10 = .ok (.goto 4, 3) := by decide +kernel
theorem dX0_isFull_13 : decode cX0_isFull 13 = .ok (.iconst 0, 1) := by decide +kernel
theorem dX0_isFull_14 : decode cX0_isFull 14 = .ok (.ireturn, 1) := by decide +kernel
theorem dX0_has_0 : decode cX0_has 0 = .ok (.iload_n 1, 1) := by decide +kernel
theorem dX0_has_1 : decode cX0_has 1 = .ok (.ifCond .lt 21, 3) := by decide +kernel
theorem dX0_has_4 : decode cX0_has 4 = .ok (.iload_n 1, 1) := by decide +kernel
theorem dX0_has_5 : decode cX0_has 5 = .ok (.aload_n 0, 1) := by decide +kernel
theorem dX0_has_6 : decode cX0_has 6 = .ok (.getfield 25, 3) := by decide +kernel
theorem dX0_has_9 : decode cX0_has 9 = .ok (.if_icmp .ge 13, 3) := by decide +kernel
theorem dX0_has_12 : decode cX0_has 12 = .ok (.iload_n 1, 1) := by decide +kernel
theorem dX0_has_13 : decode cX0_has 13 = .ok (.bipush 10, 2) := by decide +kernel
theorem dX0_has_15 : decode cX0_has 15 = .ok (.if_icmp .ge 7, 3) := by decide +kernel
theorem dX0_has_18 : decode cX0_has 18 = .ok (.iconst 1, 1) := by decide +kernel
theorem dX0_has_19 : decode cX0_has 19 = .ok (.goto 4, 3) := by decide +kernel
theorem dX0_has_22 : decode cX0_has 22 = .ok (.iconst 0, 1) := by decide +kernel
theorem dX0_has_23 : decode cX0_has 23 = .ok (.ireturn, 1) := by decide +kernel
set_option maxRecDepth 20000 in
theorem ggX0_guessAt_X0_has : GoodIn wsX0_guessAt wsX0_has := goodIn_r _ [6, 7, 8, 9, 10, 11, 12] (by decide +kernel) (by decide +kernel)
set_option maxRecDepth 20000 in
theorem gX0_guessAt_X0_has : GoodIn wsX0_guessAt (wsV RX0 35 RX0 yX0_has wsX0_has) := goodIn_app (goodIn_of _ (by decide +kernel)) ggX0_guessAt_X0_has
theorem dX0_guessAt_0 : decode cX0_guessAt 0 = .ok (.aload_n 0, 1) := by decide +kernel
theorem dX0_guessAt_1 : decode cX0_guessAt 1 = .ok (.iload_n 1, 1) := by decide +kernel
theorem dX0_guessAt_2 : decode cX0_guessAt 2 = .ok (.invokevirtual 35, 3) := by decide +kernel
theorem dX0_guessAt_5 : decode cX0_guessAt 5 = .ok (.ifCond .eq 12, 3) := by decide +kernel
theorem dX0_guessAt_8 : decode cX0_guessAt 8 = .ok (.aload_n 0, 1) := by decide +kernel
theorem dX0_guessAt_9 : decode cX0_guessAt 9 = .ok (.getfield 9, 3) := by decide +kernel
theorem dX0_guessAt_12 : decode cX0_guessAt 12 = .ok (.iload_n 1, 1) := by decide +kernel
theorem dX0_guessAt_13 : decode cX0_guessAt 13 = .ok (.iaload, 1) := by decide +kernel
theorem dX0_guessAt_14 : decode cX0_guessAt 14 = .ok (.goto 4, 3) := by decide +kernel
theorem dX0_guessAt_17 : decode cX0_guessAt 17 = .ok (.iconst 0, 1) := by decide +kernel
theorem dX0_guessAt_18 : decode cX0_guessAt 18 = .ok (.ireturn, 1) := by decide +kernel
set_option maxRecDepth 20000 in
theorem ggX0_markAt_X0_has : GoodIn wsX0_markAt wsX0_has := goodIn_r _ [6, 7, 8, 9, 10, 11, 12] (by decide +kernel) (by decide +kernel)
set_option maxRecDepth 20000 in
theorem gX0_markAt_X0_has : GoodIn wsX0_markAt (wsV RX0 35 RX0 yX0_has wsX0_has) := goodIn_app (goodIn_of _ (by decide +kernel)) ggX0_markAt_X0_has
theorem dX0_markAt_0 : decode cX0_markAt 0 = .ok (.aload_n 0, 1) := by decide +kernel
theorem dX0_markAt_1 : decode cX0_markAt 1 = .ok (.iload_n 1, 1) := by decide +kernel
theorem dX0_markAt_2 : decode cX0_markAt 2 = .ok (.invokevirtual 35, 3) := by decide +kernel
theorem dX0_markAt_5 : decode cX0_markAt 5 = .ok (.ifCond .eq 12, 3) := by decide +kernel
theorem dX0_markAt_8 : decode cX0_markAt 8 = .ok (.aload_n 0, 1) := by decide +kernel
theorem dX0_markAt_9 : decode cX0_markAt 9 = .ok (.getfield 15, 3) := by decide +kernel
theorem dX0_markAt_12 : decode cX0_markAt 12 = .ok (.iload_n 1, 1) := by decide +kernel
theorem dX0_markAt_13 : decode cX0_markAt 13 = .ok (.iaload, 1) := by decide +kernel
theorem dX0_markAt_14 : decode cX0_markAt 14 = .ok (.goto 4, 3) := by decide +kernel
theorem dX0_markAt_17 : decode cX0_markAt 17 = .ok (.iconst 0, 1) := by decide +kernel
theorem dX0_markAt_18 : decode cX0_markAt 18 = .ok (.ireturn, 1) := by decide +kernel
set_option maxRecDepth 20000 in
theorem ggX0_add_X0_isFull : GoodIn wsX0_add wsX0_isFull := goodIn_r _ [11, 1, 40, 41, 42, 43, 44] (by decide +kernel) (by decide +kernel)
set_option maxRecDepth 20000 in
theorem gX0_add_X0_isFull : GoodIn wsX0_add (wsV RX0 39 RX0 yX0_isFull wsX0_isFull) := goodIn_app (goodIn_of _ (by decide +kernel)) ggX0_add_X0_isFull
set_option maxRecDepth 20000 in
theorem ggX0_add_X1_compare : GoodIn wsX0_add wsX1_compare := goodIn_r _ [16, 17, 18, 19, 20, 21, 22, 23, 15, 24, 25, 26, 27, 28, 29, 30, 31, 32, 33, 34, 35, 36, 37, 38, 39, 45, 46, 47, 48, 49] (by decide +kernel) (by decide +kernel)
set_option maxRecDepth 20000 in
theorem gX0_add_X1_compare : GoodIn wsX0_add (wsV RX0 48 RX1 yX1_compare wsX1_compare) := goodIn_app (goodIn_of _ (by decide +kernel)) ggX0_add_X1_compare
theorem dX0_add_0 : decode cX0_add 0 = .ok (.aload_n 0, 1) := by decide +kernel
theorem dX0_add_1 : decode cX0_add 1 = .ok (.getfield 25, 3) := by decide +kernel
theorem dX0_add_4 : decode cX0_add 4 = .ok (.ifCond .lt 10, 3) := by decide +kernel
theorem dX0_add_7 : decode cX0_add 7 = .ok (.aload_n 0, 1) := by decide +kernel
theorem dX0_add_8 : decode cX0_add 8 = .ok (.invokevirtual 39, 3) := by decide +kernel
theorem dX0_add_11 : decode cX0_add 11 = .ok (.ifCond .eq 4, 3) := by decide +kernel
theorem dX0_add_14 : decode cX0_add 14 = .ok (.return_, 1) := by decide +kernel
theorem dX0_add_15 : decode cX0_add 15 = .ok (.aload_n 0, 1) := by decide +kernel
theorem dX0_add_16 : decode cX0_add 16 = .ok (.getfield 9, 3) := by decide +kernel
theorem dX0_add_19 : decode cX0_add 19 = .ok (.aload_n 0, 1) := by decide +kernel
theorem dX0_add_20 : decode cX0_add 20 = .ok (.getfield 25, 3) := by decide +kernel
theorem dX0_add_23 : decode cX0_add 23 = .ok (.iload_n 1, 1) := by decide +kernel
theorem dX0_add_24 : decode cX0_add 24 = .ok (.iastore, 1) := by decide +kernel
theorem dX0_add_25 : decode cX0_add 25 = .ok (.aload_n 0, 1) := by decide +kernel
theorem dX0_add_26 : decode cX0_add 26 = .ok (.getfield 15, 3) := by decide +kernel
theorem dX0_add_29 : decode cX0_add 29 = .ok (.aload_n 0, 1) := by decide +kernel
theorem dX0_add_30 : decode cX0_add 30 = .ok (.getfield 25, 3) := by decide +kernel
theorem dX0_add_33 : decode cX0_add 33 = .ok (.iload_n 2, 1) := by decide +kernel
theorem dX0_add_34 : decode cX0_add 34 = .ok (.iastore, 1) := by decide +kernel
theorem dX0_add_35 : decode cX0_add 35 = .ok (.aload_n 0, 1) := by decide +kernel
theorem dX0_add_36 : decode cX0_add 36 = .ok (.dup, 1) := by decide +kernel
theorem dX0_add_37 : decode cX0_add 37 = .ok (.getfield 25, 3) := by decide +kernel
theorem dX0_add_40 : decode cX0_add 40 = .ok (.iconst 1, 1) := by decide +kernel
theorem dX0_add_41 : decode cX0_add 41 = .ok (.iadd, 1) := by decide +kernel
theorem dX0_add_42 : decode cX0_add 42 = .ok (.putfield 25, 3) := by decide +kernel
theorem dX0_add_45 : decode cX0_add 45 = .ok (.iconst 0, 1) := by decide +kernel
theorem dX0_add_46 : decode cX0_add 46 = .ok (.istore_n 3, 1) := by decide +kernel
theorem dX0_add_47 : decode cX0_add 47 = .ok (.iload_n 3, 1) := by decide +kernel
theorem dX0_add_48 : decode cX0_add 48 = .ok (.aload_n 0, 1) := by decide +kernel
theorem dX0_add_49 : decode cX0_add 49 = .ok (.getfield 21, 3) := by decide +kernel
theorem dX0_add_52 : decode cX0_add 52 = .ok (.getfield 43, 3) := by decide +kernel
theorem dX0_add_55 : decode cX0_add 55 = .ok (.if_icmp .ge 53, 3) := by decide +kernel
theorem dX0_add_58 : decode cX0_add 58 = .ok (.iload_n 3, 1) := by decide +kernel
theorem dX0_add_59 : decode cX0_add 59 = .ok (.sipush 256, 3) := by decide +kernel
theorem dX0_add_62 : decode cX0_add 62 = .ok (.if_icmp .ge 46, 3) := by decide +kernel
theorem dX0_add_65 : decode cX0_add 65 = .ok (.aload_n 0, 1) := by decide +kernel
theorem dX0_add_66 : decode cX0_add 66 = .ok (.getfield 21, 3) := by decide +kernel
theorem dX0_add_69 : decode cX0_add 69 = .ok (.iload_n 1, 1) := by decide +kernel
theorem dX0_add_70 : decode cX0_add 70 = .ok (.iload_n 3, 1) := by decide +kernel
theorem dX0_add_71 : decode cX0_add 71 = .ok (.invokevirtual 48, 3) := by decide +kernel
theorem dX0_add_74 : decode cX0_add 74 = .ok (.iload_n 2, 1) := by decide +kernel
theorem dX0_add_75 : decode cX0_add 75 = .ok (.if_icmp .ne 7, 3) := by decide +kernel
theorem dX0_add_78 : decode cX0_add 78 = .ok (.iconst 0, 1) := by decide +kernel
theorem dX0_add_79 : decode cX0_add 79 = .ok (.goto 4, 3) := by decide +kernel
theorem dX0_add_82 : decode cX0_add 82 = .ok (.iconst 1, 1) := by decide +kernel
theorem dX0_add_83 : decode cX0_add 83 = .ok (.istore 4, 2) := by decide +kernel
theorem dX0_add_85 : decode cX0_add 85 = .ok (.aload_n 0, 1) := by decide +kernel
theorem dX0_add_86 : decode cX0_add 86 = .ok (.getfield 18, 3) := by decide +kernel
theorem dX0_add_89 : decode cX0_add 89 = .ok (.iload_n 3, 1) := by decide +kernel
theorem dX0_add_90 : decode cX0_add 90 = .ok (.aload_n 0, 1) := by decide +kernel
theorem dX0_add_91 : decode cX0_add 91 = .ok (.getfield 18, 3) := by decide +kernel
theorem dX0_add_94 : decode cX0_add 94 = .ok (.iload_n 3, 1) := by decide +kernel
theorem dX0_add_95 : decode cX0_add 95 = .ok (.iaload, 1) := by decide +kernel
theorem dX0_add_96 : decode cX0_add 96 = .ok (.iconst 1, 1) := by decide +kernel
theorem dX0_add_97 : decode cX0_add 97 = .ok (.ishl, 1) := by decide +kernel
theorem dX0_add_98 : decode cX0_add 98 = .ok (.iload 4, 2) := by decide +kernel
theorem dX0_add_100 : decode cX0_add 100 = .ok (.ior, 1) := by decide +kernel
theorem dX0_add_101 : decode cX0_add 101 = .ok (.iastore, 1) := by decide +kernel
theorem dX0_add_102 : decode cX0_add 102 = .ok (.iinc 3 1, 3) := by decide +kernel
theorem dX0_add_105 : decode cX0_add 105 = .ok (.goto (-58), 3) := by decide +kernel
theorem dX0_add_108 : decode cX0_add 108 = .ok (.return_, 1) := by decide +kernel
theorem dX0_dropLatest_0 : decode cX0_dropLatest 0 = .ok (.aload_n 0, 1) := by decide +kernel
theorem dX0_dropLatest_1 : decode cX0_dropLatest 1 = .ok (.dup, 1) := by decide +kernel
theorem dX0_dropLatest_2 : decode cX0_dropLatest 2 = .ok (.getfield 25, 3) := by decide +kernel
theorem dX0_dropLatest_5 : decode cX0_dropLatest 5 = .ok (.iconst 1, 1) := by decide +kernel
theorem dX0_dropLatest_6 : decode cX0_dropLatest 6 = .ok (.isub, 1) := by decide +kernel
theorem dX0_dropLatest_7 : decode cX0_dropLatest 7 = .ok (.putfield 25, 3) := by decide +kernel
theorem dX0_dropLatest_10 : decode cX0_dropLatest 10 = .ok (.iconst 0, 1) := by decide +kernel
theorem dX0_dropLatest_11 : decode cX0_dropLatest 11 = .ok (.istore_n 1, 1) := by decide +kernel
theorem dX0_dropLatest_12 : decode cX0_dropLatest 12 = .ok (.iload_n 1, 1) := by decide +kernel
theorem dX0_dropLatest_13 : decode cX0_dropLatest 13 = .ok (.aload_n 0, 1) := by decide +kernel
theorem dX0_dropLatest_14 : decode cX0_dropLatest 14 = .ok (.getfield 21, 3) := by decide +kernel
theorem dX0_dropLatest_17 : decode cX0_dropLatest 17 = .ok (.getfield 43, 3) := by decide +kernel
theorem dX0_dropLatest_20 : decode cX0_dropLatest 20 = .ok (.if_icmp .ge 26, 3) := by decide +kernel
theorem dX0_dropLatest_23 : decode cX0_dropLatest 23 = .ok (.iload_n 1, 1) := by decide +kernel
theorem dX0_dropLatest_24 : decode cX0_dropLatest 24 = .ok (.sipush 256, 3) := by decide +kernel
theorem dX0_dropLatest_27 : decode cX0_dropLatest 27 = .ok (.if_icmp .ge 19, 3) := by decide +kernel
theorem dX0_dropLatest_30 : decode cX0_dropLatest 30 = .ok (.aload_n 0, 1) := by decide +kernel
theorem dX0_dropLatest_31 : decode cX0_dropLatest 31 = .ok (.getfield 18, 3) := by decide +kernel
theorem dX0_dropLatest_34 : decode cX0_dropLatest 34 = .ok (.iload_n 1, 1) := by decide +kernel
theorem dX0_dropLatest_35 : decode cX0_dropLatest 35 = .ok (.dup2, 1) := by decide +kernel
theorem dX0_dropLatest_36 : decode cX0_dropLatest 36 = .ok (.iaload, 1) := by decide +kernel
theorem dX0_dropLatest_37 : decode cX0_dropLatest 37 = .ok (.iconst 1, 1) := by decide +kernel
theorem dX0_dropLatest_38 : decode cX0_dropLatest 38 = .ok (.ishr, 1) := by decide +kernel
theorem dX0_dropLatest_39 : decode cX0_dropLatest 39 = .ok (.iastore, 1) := by decide +kernel
theorem dX0_dropLatest_40 : decode cX0_dropLatest 40 = .ok (.iinc 1 1, 3) := by decide +kernel
theorem dX0_dropLatest_43 : decode cX0_dropLatest 43 = .ok (.goto (-31), 3) := by decide +kernel
theorem dX0_dropLatest_46 : decode cX0_dropLatest 46 = .ok (.return_, 1) := by decide +kernel
theorem dX0_allBits_0 : decode cX0_allBits 0 = .ok (.iconst 1, 1) := by decide +kernel
theorem dX0_allBits_1 : decode cX0_allBits 1 = .ok (.aload_n 0, 1) := by decide +kernel
theorem dX0_allBits_2 : decode cX0_allBits 2 = .ok (.getfield 25, 3) := by decide +kernel
theorem dX0_allBits_5 : decode cX0_allBits 5 = .ok (.ishl, 1) := by decide +kernel
theorem dX0_allBits_6 : decode cX0_allBits 6 = .ok (.iconst 1, 1) := by decide +kernel
theorem dX0_allBits_7 : decode cX0_allBits 7 = .ok (.isub, 1) := by decide +kernel
theorem dX0_allBits_8 : decode cX0_allBits 8 = .ok (.ireturn, 1) := by decide +kernel
set_option maxRecDepth 20000 in
theorem ggX0_bitOf_X0_has : GoodIn wsX0_bitOf wsX0_has := goodIn_r _ [6, 1, 7, 8, 9, 10, 11] (by decide +kernel) (by decide +kernel)
set_option maxRecDepth 20000 in
theorem gX0_bitOf_X0_has : GoodIn wsX0_bitOf (wsV RX0 35 RX0 yX0_has wsX0_has) := goodIn_app (goodIn_of _ (by decide +kernel)) ggX0_bitOf_X0_has
theorem dX0_bitOf_0 : decode cX0_bitOf 0 = .ok (.aload_n 0, 1) := by decide +kernel
theorem dX0_bitOf_1 : decode cX0_bitOf 1 = .ok (.iload_n 1, 1) := by decide +kernel
theorem dX0_bitOf_2 : decode cX0_bitOf 2 = .ok (.invokevirtual 35, 3) := by decide +kernel
theorem dX0_bitOf_5 : decode cX0_bitOf 5 = .ok (.ifCond .eq 16, 3) := by decide +kernel
theorem dX0_bitOf_8 : decode cX0_bitOf 8 = .ok (.iconst 1, 1) := by decide +kernel
theorem dX0_bitOf_9 : decode cX0_bitOf 9 = .ok (.aload_n 0, 1) := by decide +kernel
theorem dX0_bitOf_10 : decode cX0_bitOf 10 = .ok (.getfield 25, 3) := by decide +kernel
theorem dX0_bitOf_13 : decode cX0_bitOf 13 = .ok (.iconst 1, 1) := by decide +kernel
theorem dX0_bitOf_14 : decode cX0_bitOf 14 = .ok (.isub, 1) := by decide +kernel
theorem dX0_bitOf_15 : decode cX0_bitOf 15 = .ok (.iload_n 1, 1) := by decide +kernel
theorem dX0_bitOf_16 : decode cX0_bitOf 16 = .ok (.isub, 1) := by decide +kernel
theorem dX0_bitOf_17 : decode cX0_bitOf 17 = .ok (.ishl, 1) := by decide +kernel
theorem dX0_bitOf_18 : decode cX0_bitOf 18 = .ok (.goto 4, 3) := by decide +kernel
theorem dX0_bitOf_21 : decode cX0_bitOf 21 = .ok (.iconst 0, 1) := by decide +kernel
theorem dX0_bitOf_22 : decode cX0_bitOf 22 = .ok (.ireturn, 1) := by decide +kernel
set_option maxRecDepth 20000 in
theorem ggX0_countLies_X0_allBits : GoodIn wsX0_countLies wsX0_allBits := goodIn_r _ [5, 6, 26, 27, 28, 29, 30] (by decide +kernel) (by decide +kernel)
set_option maxRecDepth 20000 in
theorem gX0_countLies_X0_allBits : GoodIn wsX0_countLies (wsV RX0 52 RX0 yX0_allBits wsX0_allBits) := goodIn_app (goodIn_of _ (by decide +kernel)) ggX0_countLies_X0_allBits
set_option maxRecDepth 20000 in
theorem ggX0_countLies_X0_countLiesIn : GoodIn wsX0_countLies wsX0_countLiesIn := goodIn_r _ [10, 11, 12, 13, 14, 15, 16, 17, 18, 19, 20, 21, 22, 23, 24, 25, 26, 27, 28, 29, 30, 31, 32, 33, 34, 35] (by decide +kernel) (by decide +kernel)
set_option maxRecDepth 20000 in
theorem gX0_countLies_X0_countLiesIn : GoodIn wsX0_countLies (wsV RX0 56 RX0 yX0_countLiesIn wsX0_countLiesIn) := goodIn_app (goodIn_of _ (by decide +kernel)) ggX0_countLies_X0_countLiesIn
theorem dX0_countLies_0 : decode cX0_countLies 0 = .ok (.aload_n 0, 1) := by decide +kernel
theorem dX0_countLies_1 : decode cX0_countLies 1 = .ok (.aload_n 0, 1) := by decide +kernel
theorem dX0_countLies_2 : decode cX0_countLies 2 = .ok (.invokevirtual 52, 3) := by decide +kernel
theorem dX0_countLies_5 : decode cX0_countLies 5 = .ok (.iload_n 1, 1) := by decide +kernel
theorem dX0_countLies_6 : decode cX0_countLies 6 = .ok (.invokevirtual 56, 3) := by decide +kernel
theorem dX0_countLies_9 : decode cX0_countLies 9 = .ok (.ireturn, 1) := by decide +kernel
set_option maxRecDepth 20000 in
theorem ggX0_countLiesIn_X1_has : GoodIn wsX0_countLiesIn wsX1_has := goodIn_r _ [7, 8, 21, 22, 23, 24, 25] (by decide +kernel) (by decide +kernel)
set_option maxRecDepth 20000 in
theorem gX0_countLiesIn_X1_has : GoodIn wsX0_countLiesIn (wsV RX0 59 RX1 yX1_has wsX1_has) := goodIn_app (goodIn_of _ (by decide +kernel)) ggX0_countLiesIn_X1_has
set_option maxRecDepth 20000 in
theorem ggX0_countLiesIn_J6_bitCount_0f7a4 : GoodIn wsX0_countLiesIn wsJ6_bitCount_0f7a4 := goodIn_r _ [12, 13, 14, 15] (by decide +kernel) (by decide +kernel)
set_option maxRecDepth 20000 in
theorem gX0_countLiesIn_J6_bitCount_0f7a4 : GoodIn wsX0_countLiesIn (va_wsS RX0 60 yJ6_bitCount_0f7a4 wsJ6_bitCount_0f7a4) := goodIn_app (goodIn_of _ (by decide +kernel)) ggX0_countLiesIn_J6_bitCount_0f7a4
theorem dX0_countLiesIn_0 : decode cX0_countLiesIn 0 = .ok (.aload_n 0, 1) := by decide +kernel
theorem dX0_countLiesIn_1 : decode cX0_countLiesIn 1 = .ok (.getfield 21, 3) := by decide +kernel
theorem dX0_countLiesIn_4 : decode cX0_countLiesIn 4 = .ok (.iload_n 2, 1) := by decide +kernel
theorem dX0_countLiesIn_5 : decode cX0_countLiesIn 5 = .ok (.invokevirtual 59, 3) := by decide +kernel
theorem dX0_countLiesIn_8 : decode cX0_countLiesIn 8 = .ok (.ifCond .eq 17, 3) := by decide +kernel
theorem dX0_countLiesIn_11 : decode cX0_countLiesIn 11 = .ok (.aload_n 0, 1) := by decide +kernel
theorem dX0_countLiesIn_12 : decode cX0_countLiesIn 12 = .ok (.getfield 18, 3) := by decide +kernel
theorem dX0_countLiesIn_15 : decode cX0_countLiesIn 15 = .ok (.iload_n 2, 1) := by decide +kernel
theorem dX0_countLiesIn_16 : decode cX0_countLiesIn 16 = .ok (.iaload, 1) := by decide +kernel
theorem dX0_countLiesIn_17 : decode cX0_countLiesIn 17 = .ok (.iload_n 1, 1) := by decide +kernel
theorem dX0_countLiesIn_18 : decode cX0_countLiesIn 18 = .ok (.iand, 1) := by decide +kernel
theorem dX0_countLiesIn_19 : decode cX0_countLiesIn 19 = .ok (.invokestatic 60, 3) := by decide +kernel
theorem dX0_countLiesIn_22 : decode cX0_countLiesIn 22 = .ok (.goto 4, 3) := by decide +kernel
theorem dX0_countLiesIn_25 : decode cX0_countLiesIn 25 = .ok (.iconst 0, 1) := by decide +kernel
theorem dX0_countLiesIn_26 : decode cX0_countLiesIn 26 = .ok (.ireturn, 1) := by decide +kernel
set_option maxRecDepth 20000 in
theorem ggX0_countLiesAnew_X1_compare : GoodIn wsX0_countLiesAnew wsX1_compare := goodIn_r _ [9, 10, 11, 12, 13, 14, 15, 16, 8, 17, 18, 19, 20, 21, 22, 23, 24, 25, 26, 27, 28, 29, 30, 31, 32, 38, 39, 40, 41, 42] (by decide +kernel) (by decide +kernel)
set_option maxRecDepth 20000 in
theorem gX0_countLiesAnew_X1_compare : GoodIn wsX0_countLiesAnew (wsV RX0 48 RX1 yX1_compare wsX1_compare) := goodIn_app (goodIn_of _ (by decide +kernel)) ggX0_countLiesAnew_X1_compare
theorem dX0_countLiesAnew_0 : decode cX0_countLiesAnew 0 = .ok (.iconst 0, 1) := by decide +kernel
theorem dX0_countLiesAnew_1 : decode cX0_countLiesAnew 1 = .ok (.istore_n 2, 1) := by decide +kernel
theorem dX0_countLiesAnew_2 : decode cX0_countLiesAnew 2 = .ok (.iconst 0, 1) := by decide +kernel
theorem dX0_countLiesAnew_3 : decode cX0_countLiesAnew 3 = .ok (.istore_n 3, 1) := by decide +kernel
theorem dX0_countLiesAnew_4 : decode cX0_countLiesAnew 4 = .ok (.iload_n 3, 1) := by decide +kernel
theorem dX0_countLiesAnew_5 : decode cX0_countLiesAnew 5 = .ok (.aload_n 0, 1) := by decide +kernel
theorem dX0_countLiesAnew_6 : decode cX0_countLiesAnew 6 = .ok (.getfield 25, 3) := by decide +kernel
theorem dX0_countLiesAnew_9 : decode cX0_countLiesAnew 9 = .ok (.if_icmp .ge 41, 3) := by decide +kernel
theorem dX0_countLiesAnew_12 : decode cX0_countLiesAnew 12 = .ok (.iload_n 3, 1) := by decide +kernel
theorem dX0_countLiesAnew_13 : decode cX0_countLiesAnew 13 = .ok (.bipush 10, 2) := by decide +kernel
theorem dX0_countLiesAnew_15 : decode cX0_countLiesAnew 15 = .ok (.if_icmp .ge 35, 3) := by decide +kernel
theorem dX0_countLiesAnew_18 : decode cX0_countLiesAnew 18 = .ok (.aload_n 0, 1) := by decide +kernel
theorem dX0_countLiesAnew_19 : decode cX0_countLiesAnew 19 = .ok (.getfield 21, 3) := by decide +kernel
theorem dX0_countLiesAnew_22 : decode cX0_countLiesAnew 22 = .ok (.aload_n 0, 1) := by decide +kernel
theorem dX0_countLiesAnew_23 : decode cX0_countLiesAnew 23 = .ok (.getfield 9, 3) := by decide +kernel
theorem dX0_countLiesAnew_26 : decode cX0_countLiesAnew 26 = .ok (.iload_n 3, 1) := by decide +kernel
theorem dX0_countLiesAnew_27 : decode cX0_countLiesAnew 27 = .ok (.iaload, 1) := by decide +kernel
theorem dX0_countLiesAnew_28 : decode cX0_countLiesAnew 28 = .ok (.iload_n 1, 1) := by decide +kernel
theorem dX0_countLiesAnew_29 : decode cX0_countLiesAnew 29 = .ok (.invokevirtual 48, 3) := by decide +kernel
theorem dX0_countLiesAnew_32 : decode cX0_countLiesAnew 32 = .ok (.aload_n 0, 1) := by decide +kernel
theorem dX0_countLiesAnew_33 : decode cX0_countLiesAnew 33 = .ok (.getfield 15, 3) := by decide +kernel
theorem dX0_countLiesAnew_36 : decode cX0_countLiesAnew 36 = .ok (.iload_n 3, 1) := by decide +kernel
theorem dX0_countLiesAnew_37 : decode cX0_countLiesAnew 37 = .ok (.iaload, 1) := by decide +kernel
theorem dX0_countLiesAnew_38 : decode cX0_countLiesAnew 38 = .ok (.if_icmp .eq 6, 3) := by decide +kernel
theorem dX0_countLiesAnew_41 : decode cX0_countLiesAnew 41 = .ok (.iinc 2 1, 3) := by decide +kernel
theorem dX0_countLiesAnew_44 : decode cX0_countLiesAnew 44 = .ok (.iinc 3 1, 3) := by decide +kernel
theorem dX0_countLiesAnew_47 : decode cX0_countLiesAnew 47 = .ok (.goto (-43), 3) := by decide +kernel
theorem dX0_countLiesAnew_50 : decode cX0_countLiesAnew 50 = .ok (.iload_n 2, 1) := by decide +kernel
theorem dX0_countLiesAnew_51 : decode cX0_countLiesAnew 51 = .ok (.ireturn, 1) := by decide +kernel
theorem dX1_init_0 : decode cX1_init 0 = .ok (.aload_n 0, 1) := by decide +kernel
theorem dX1_init_1 : decode cX1_init 1 = .ok (.invokespecial 3, 3) := by decide +kernel
theorem dX1_init_4 : decode cX1_init 4 = .ok (.aload_n 0, 1) := by decide +kernel
theorem dX1_init_5 : decode cX1_init 5 = .ok (.sipush 256, 3) := by decide +kernel
theorem dX1_init_8 : decode cX1_init 8 = .ok (.newarray .int, 2) := by decide +kernel
theorem dX1_init_10 : decode cX1_init 10 = .ok (.putfield 9, 3) := by decide +kernel
theorem dX1_init_13 : decode cX1_init 13 = .ok (.aload_n 0, 1) := by decide +kernel
theorem dX1_init_14 : decode cX1_init 14 = .ok (.sipush 256, 3) := by decide +kernel
theorem dX1_init_17 : decode cX1_init 17 = .ok (.newarray .long, 2) := by decide +kernel
theorem dX1_init_19 : decode cX1_init 19 = .ok (.putfield 15, 3) := by decide +kernel
theorem dX1_init_22 : decode cX1_init 22 = .ok (.return_, 1) := by decide +kernel
set_option maxRecDepth 20000 in
theorem ggX1_lay_X1_layRow : GoodIn wsX1_lay wsX1_layRow := goodIn_r _ [8, 1, 2, 9, 10, 11, 12, 7, 13, 14, 15, 16, 17, 18, 3, 19, 20, 21, 22, 23] (by decide +kernel) (by decide +kernel)
set_option maxRecDepth 20000 in
theorem gX1_lay_X1_layRow : GoodIn wsX1_lay (wsV RX1 29 RX1 yX1_layRow wsX1_layRow) := goodIn_app (goodIn_of _ (by decide +kernel)) ggX1_lay_X1_layRow
theorem dX1_lay_0 : decode cX1_lay 0 = .ok (.iload_n 1, 1) := by decide +kernel
theorem dX1_lay_1 : decode cX1_lay 1 = .ok (.iconst 1, 1) := by decide +kernel
theorem dX1_lay_2 : decode cX1_lay 2 = .ok (.if_icmp .lt 20, 3) := by decide +kernel
theorem dX1_lay_5 : decode cX1_lay 5 = .ok (.iload_n 1, 1) := by decide +kernel
theorem dX1_lay_6 : decode cX1_lay 6 = .ok (.bipush 8, 2) := by decide +kernel
theorem dX1_lay_8 : decode cX1_lay 8 = .ok (.if_icmp .gt 14, 3) := by decide +kernel
theorem dX1_lay_11 : decode cX1_lay 11 = .ok (.iload_n 2, 1) := by decide +kernel
theorem dX1_lay_12 : decode cX1_lay 12 = .ok (.iconst 2, 1) := by decide +kernel
theorem dX1_lay_13 : decode cX1_lay 13 = .ok (.if_icmp .lt 9, 3) := by decide +kernel
theorem dX1_lay_16 : decode cX1_lay 16 = .ok (.iload_n 2, 1) := by decide +kernel
theorem dX1_lay_17 : decode cX1_lay 17 = .ok (.bipush 6, 2) := by decide +kernel
theorem dX1_lay_19 : decode cX1_lay 19 = .ok (.if_icmp .le 5, 3) := by decide +kernel
theorem dX1_lay_22 : decode cX1_lay 22 = .ok (.iconst 0, 1) := by decide +kernel
theorem dX1_lay_23 : decode cX1_lay 23 = .ok (.ireturn, 1) := by decide +kernel
theorem dX1_lay_24 : decode cX1_lay 24 = .ok (.iconst 1, 1) := by decide +kernel
theorem dX1_lay_25 : decode cX1_lay 25 = .ok (.istore_n 3, 1) := by decide +kernel
theorem dX1_lay_26 : decode cX1_lay 26 = .ok (.iconst 0, 1) := by decide +kernel
theorem dX1_lay_27 : decode cX1_lay 27 = .ok (.istore 4, 2) := by decide +kernel
theorem dX1_lay_29 : decode cX1_lay 29 = .ok (.iload 4, 2) := by decide +kernel
theorem dX1_lay_31 : decode cX1_lay 31 = .ok (.iload_n 1, 1) := by decide +kernel
theorem dX1_lay_32 : decode cX1_lay 32 = .ok (.if_icmp .ge 13, 3) := by decide +kernel
theorem dX1_lay_35 : decode cX1_lay 35 = .ok (.iload_n 3, 1) := by decide +kernel
theorem dX1_lay_36 : decode cX1_lay 36 = .ok (.iload_n 2, 1) := by decide +kernel
theorem dX1_lay_37 : decode cX1_lay 37 = .ok (.imul, 1) := by decide +kernel
theorem dX1_lay_38 : decode cX1_lay 38 = .ok (.istore_n 3, 1) := by decide +kernel
theorem dX1_lay_39 : decode cX1_lay 39 = .ok (.iinc 4 1, 3) := by decide +kernel
theorem dX1_lay_42 : decode cX1_lay 42 = .ok (.goto (-13), 3) := by decide +kernel
theorem dX1_lay_45 : decode cX1_lay 45 = .ok (.iload_n 3, 1) := by decide +kernel
theorem dX1_lay_46 : decode cX1_lay 46 = .ok (.sipush 256, 3) := by decide +kernel
theorem dX1_lay_49 : decode cX1_lay 49 = .ok (.if_icmp .le 5, 3) := by decide +kernel
theorem dX1_lay_52 : decode cX1_lay 52 = .ok (.iconst 0, 1) := by decide +kernel
theorem dX1_lay_53 : decode cX1_lay 53 = .ok (.ireturn, 1) := by decide +kernel
theorem dX1_lay_54 : decode cX1_lay 54 = .ok (.aload_n 0, 1) := by decide +kernel
theorem dX1_lay_55 : decode cX1_lay 55 = .ok (.iload_n 1, 1) := by decide +kernel
theorem dX1_lay_56 : decode cX1_lay 56 = .ok (.putfield 19, 3) := by decide +kernel
theorem dX1_lay_59 : decode cX1_lay 59 = .ok (.aload_n 0, 1) := by decide +kernel
theorem dX1_lay_60 : decode cX1_lay 60 = .ok (.iload_n 2, 1) := by decide +kernel
theorem dX1_lay_61 : decode cX1_lay 61 = .ok (.putfield 23, 3) := by decide +kernel
theorem dX1_lay_64 : decode cX1_lay 64 = .ok (.aload_n 0, 1) := by decide +kernel
theorem dX1_lay_65 : decode cX1_lay 65 = .ok (.iload_n 3, 1) := by decide +kernel
theorem dX1_lay_66 : decode cX1_lay 66 = .ok (.putfield 26, 3) := by decide +kernel
theorem dX1_lay_69 : decode cX1_lay 69 = .ok (.iconst 0, 1) := by decide +kernel
theorem dX1_lay_70 : decode cX1_lay 70 = .ok (.istore 4, 2) := by decide +kernel
theorem dX1_lay_72 : decode cX1_lay 72 = .ok (.iload 4, 2) := by decide +kernel
theorem dX1_lay_74 : decode cX1_lay 74 = .ok (.iload_n 3, 1) := by decide +kernel
theorem dX1_lay_75 : decode cX1_lay 75 = .ok (.if_icmp .ge 15, 3) := by decide +kernel
theorem dX1_lay_78 : decode cX1_lay 78 = .ok (.aload_n 0, 1) := by decide +kernel
theorem dX1_lay_79 : decode cX1_lay 79 = .ok (.iload 4, 2) := by decide +kernel
theorem dX1_lay_81 : decode cX1_lay 81 = .ok (.invokevirtual 29, 3) := by decide +kernel
theorem dX1_lay_84 : decode cX1_lay 84 = .ok (.iinc 4 1, 3) := by decide +kernel
theorem dX1_lay_87 : decode cX1_lay 87 = .ok (.goto (-15), 3) := by decide +kernel
theorem dX1_lay_90 : decode cX1_lay 90 = .ok (.iconst 1, 1) := by decide +kernel
theorem dX1_lay_91 : decode cX1_lay 91 = .ok (.ireturn, 1) := by decide +kernel
set_option maxRecDepth 20000 in
theorem ggX1_layRow_X1_withPin : GoodIn wsX1_layRow wsX1_withPin := goodIn_r _ [8, 9] (by decide +kernel) (by decide +kernel)
set_option maxRecDepth 20000 in
theorem gX1_layRow_X1_withPin : GoodIn wsX1_layRow (va_wsS RX1 33 yX1_withPin wsX1_withPin) := goodIn_app (goodIn_of _ (by decide +kernel)) ggX1_layRow_X1_withPin
set_option maxRecDepth 20000 in
theorem ggX1_layRow_X1_has : GoodIn wsX1_layRow wsX1_has := goodIn_r _ [13, 14, 15, 16, 17, 18, 19] (by decide +kernel) (by decide +kernel)
set_option maxRecDepth 20000 in
theorem gX1_layRow_X1_has : GoodIn wsX1_layRow (wsV RX1 37 RX1 yX1_has wsX1_has) := goodIn_app (goodIn_of _ (by decide +kernel)) ggX1_layRow_X1_has
theorem dX1_layRow_0 : decode cX1_layRow 0 = .ok (.iconst 0, 1) := by decide +kernel
theorem dX1_layRow_1 : decode cX1_layRow 1 = .ok (.istore_n 2, 1) := by decide +kernel
theorem dX1_layRow_2 : decode cX1_layRow 2 = .ok (.lconst 0, 1) := by decide +kernel
theorem dX1_layRow_3 : decode cX1_layRow 3 = .ok (.lstore_n 3, 1) := by decide +kernel
theorem dX1_layRow_4 : decode cX1_layRow 4 = .ok (.iload_n 1, 1) := by decide +kernel
theorem dX1_layRow_5 : decode cX1_layRow 5 = .ok (.istore 5, 2) := by decide +kernel
theorem dX1_layRow_7 : decode cX1_layRow 7 = .ok (.iconst 0, 1) := by decide +kernel
theorem dX1_layRow_8 : decode cX1_layRow 8 = .ok (.istore 6, 2) := by decide +kernel
theorem dX1_layRow_10 : decode cX1_layRow 10 = .ok (.iload 6, 2) := by decide +kernel
theorem dX1_layRow_12 : decode cX1_layRow 12 = .ok (.aload_n 0, 1) := by decide +kernel
theorem dX1_layRow_13 : decode cX1_layRow 13 = .ok (.getfield 19, 3) := by decide +kernel
theorem dX1_layRow_16 : decode cX1_layRow 16 = .ok (.if_icmp .ge 51, 3) := by decide +kernel
theorem dX1_layRow_19 : decode cX1_layRow 19 = .ok (.aload_n 0, 1) := by decide +kernel
theorem dX1_layRow_20 : decode cX1_layRow 20 = .ok (.getfield 23, 3) := by decide +kernel
theorem dX1_layRow_23 : decode cX1_layRow 23 = .ok (.ifCond .le 44, 3) := by decide +kernel
theorem dX1_layRow_26 : decode cX1_layRow 26 = .ok (.iload 5, 2) := by decide +kernel
theorem dX1_layRow_28 : decode cX1_layRow 28 = .ok (.aload_n 0, 1) := by decide +kernel
theorem dX1_layRow_29 : decode cX1_layRow 29 = .ok (.getfield 23, 3) := by decide +kernel
theorem dX1_layRow_32 : decode cX1_layRow 32 = .ok (.irem, 1) := by decide +kernel
theorem dX1_layRow_33 : decode cX1_layRow 33 = .ok (.istore 7, 2) := by decide +kernel
theorem dX1_layRow_35 : decode cX1_layRow 35 = .ok (.iload 5, 2) := by decide +kernel
theorem dX1_layRow_37 : decode cX1_layRow 37 = .ok (.aload_n 0, 1) := by decide +kernel
theorem dX1_layRow_38 : decode cX1_layRow 38 = .ok (.getfield 23, 3) := by decide +kernel
theorem dX1_layRow_41 : decode cX1_layRow 41 = .ok (.idiv, 1) := by decide +kernel
theorem dX1_layRow_42 : decode cX1_layRow 42 = .ok (.istore 5, 2) := by decide +kernel
theorem dX1_layRow_44 : decode cX1_layRow 44 = .ok (.iload_n 2, 1) := by decide +kernel
theorem dX1_layRow_45 : decode cX1_layRow 45 = .ok (.iload 7, 2) := by decide +kernel
theorem dX1_layRow_47 : decode cX1_layRow 47 = .ok (.iconst 3, 1) := by decide +kernel
theorem dX1_layRow_48 : decode cX1_layRow 48 = .ok (.iload 6, 2) := by decide +kernel
theorem dX1_layRow_50 : decode cX1_layRow 50 = .ok (.imul, 1) := by decide +kernel
theorem dX1_layRow_51 : decode cX1_layRow 51 = .ok (.ishl, 1) := by decide +kernel
theorem dX1_layRow_52 : decode cX1_layRow 52 = .ok (.ior, 1) := by decide +kernel
theorem dX1_layRow_53 : decode cX1_layRow 53 = .ok (.istore_n 2, 1) := by decide +kernel
theorem dX1_layRow_54 : decode cX1_layRow 54 = .ok (.lload_n 3, 1) := by decide +kernel
theorem dX1_layRow_55 : decode cX1_layRow 55 = .ok (.iload 7, 2) := by decide +kernel
theorem dX1_layRow_57 : decode cX1_layRow 57 = .ok (.invokestatic 33, 3) := by decide +kernel
theorem dX1_layRow_60 : decode cX1_layRow 60 = .ok (.lstore_n 3, 1) := by decide +kernel
theorem dX1_layRow_61 : decode cX1_layRow 61 = .ok (.iinc 6 1, 3) := by decide +kernel
theorem dX1_layRow_64 : decode cX1_layRow 64 = .ok (.goto (-54), 3) := by decide +kernel
theorem dX1_layRow_67 : decode cX1_layRow 67 = .ok (.aload_n 0, 1) := by decide +kernel
theorem dX1_layRow_68 : decode cX1_layRow 68 = .ok (.iload_n 1, 1) := by decide +kernel
theorem dX1_layRow_69 : decode cX1_layRow 69 = .ok (.invokevirtual 37, 3) := by decide +kernel
theorem dX1_layRow_72 : decode cX1_layRow 72 = .ok (.ifCond .eq 17, 3) := by decide +kernel
theorem dX1_layRow_75 : decode cX1_layRow 75 = .ok (.aload_n 0, 1) := by decide +kernel
theorem dX1_layRow_76 : decode cX1_layRow 76 = .ok (.getfield 9, 3) := by decide +kernel
theorem dX1_layRow_79 : decode cX1_layRow 79 = .ok (.iload_n 1, 1) := by decide +kernel
theorem dX1_layRow_80 : decode cX1_layRow 80 = .ok (.iload_n 2, 1) := by decide +kernel
theorem dX1_layRow_81 : decode cX1_layRow 81 = .ok (.iastore, 1) := by decide +kernel
theorem dX1_layRow_82 : decode cX1_layRow 82 = .ok (.aload_n 0, 1) := by decide +kernel
theorem dX1_layRow_83 : decode cX1_layRow 83 = .ok (.getfield 15, 3) := by decide +kernel
theorem dX1_layRow_86 : decode cX1_layRow 86 = .ok (.iload_n 1, 1) := by decide +kernel
theorem dX1_layRow_87 : decode cX1_layRow 87 = .ok (.lload_n 3, 1) := by decide +kernel
theorem dX1_layRow_88 : decode cX1_layRow 88 = .ok (.lastore, 1) := by decide +kernel
theorem dX1_layRow_89 : decode cX1_layRow 89 = .ok (.return_, 1) := by decide +kernel
theorem dX1_withPin_0 : decode cX1_withPin 0 = .ok (.bipush 8, 2) := by decide +kernel
theorem dX1_withPin_2 : decode cX1_withPin 2 = .ok (.iload_n 2, 1) := by decide +kernel
theorem dX1_withPin_3 : decode cX1_withPin 3 = .ok (.imul, 1) := by decide +kernel
theorem dX1_withPin_4 : decode cX1_withPin 4 = .ok (.istore_n 3, 1) := by decide +kernel
theorem dX1_withPin_5 : decode cX1_withPin 5 = .ok (.lload_n 0, 1) := by decide +kernel
theorem dX1_withPin_6 : decode cX1_withPin 6 = .ok (.iload_n 3, 1) := by decide +kernel
theorem dX1_withPin_7 : decode cX1_withPin 7 = .ok (.lshr, 1) := by decide +kernel
theorem dX1_withPin_8 : decode cX1_withPin 8 = .ok (.ldc2_w 41, 3) := by decide +kernel
theorem dX1_withPin_11 : decode cX1_withPin 11 = .ok (.land, 1) := by decide +kernel
theorem dX1_withPin_12 : decode cX1_withPin 12 = .ok (.lstore 4, 2) := by decide +kernel
theorem dX1_withPin_14 : decode cX1_withPin 14 = .ok (.lload_n 0, 1) := by decide +kernel
theorem dX1_withPin_15 : decode cX1_withPin 15 = .ok (.lload 4, 2) := by decide +kernel
theorem dX1_withPin_17 : decode cX1_withPin 17 = .ok (.iconst 1, 1) := by decide +kernel
theorem dX1_withPin_18 : decode cX1_withPin 18 = .ok (.lshl, 1) := by decide +kernel
theorem dX1_withPin_19 : decode cX1_withPin 19 = .ok (.lconst 1, 1) := by decide +kernel
theorem dX1_withPin_20 : decode cX1_withPin 20 = .ok (.lor, 1) := by decide +kernel
theorem dX1_withPin_21 : decode cX1_withPin 21 = .ok (.iload_n 3, 1) := by decide +kernel
theorem dX1_withPin_22 : decode cX1_withPin 22 = .ok (.lshl, 1) := by decide +kernel
theorem dX1_withPin_23 : decode cX1_withPin 23 = .ok (.lor, 1) := by decide +kernel
theorem dX1_withPin_24 : decode cX1_withPin 24 = .ok (.lreturn, 1) := by decide +kernel
theorem dX1_has_0 : decode cX1_has 0 = .ok (.iload_n 1, 1) := by decide +kernel
theorem dX1_has_1 : decode cX1_has 1 = .ok (.ifCond .lt 22, 3) := by decide +kernel
theorem dX1_has_4 : decode cX1_has 4 = .ok (.iload_n 1, 1) := by decide +kernel
theorem dX1_has_5 : decode cX1_has 5 = .ok (.aload_n 0, 1) := by decide +kernel
theorem dX1_has_6 : decode cX1_has 6 = .ok (.getfield 26, 3) := by decide +kernel
theorem dX1_has_9 : decode cX1_has 9 = .ok (.if_icmp .ge 14, 3) := by decide +kernel
theorem dX1_has_12 : decode cX1_has 12 = .ok (.iload_n 1, 1) := by decide +kernel
theorem dX1_has_13 : decode cX1_has 13 = .ok (.sipush 256, 3) := by decide +kernel
theorem dX1_has_16 : decode cX1_has 16 = .ok (.if_icmp .ge 7, 3) := by decide +kernel
theorem dX1_has_19 : decode cX1_has 19 = .ok (.iconst 1, 1) := by decide +kernel
theorem dX1_has_20 : decode cX1_has 20 = .ok (.goto 4, 3) := by decide +kernel
theorem dX1_has_23 : decode cX1_has 23 = .ok (.iconst 0, 1) := by decide +kernel
theorem dX1_has_24 : decode cX1_has 24 = .ok (.ireturn, 1) := by decide +kernel
set_option maxRecDepth 20000 in
theorem ggX1_colourOf_X1_has : GoodIn wsX1_colourOf wsX1_has := goodIn_r _ [7, 8, 9, 10, 11, 12, 13] (by decide +kernel) (by decide +kernel)
set_option maxRecDepth 20000 in
theorem gX1_colourOf_X1_has : GoodIn wsX1_colourOf (wsV RX1 37 RX1 yX1_has wsX1_has) := goodIn_app (goodIn_of _ (by decide +kernel)) ggX1_colourOf_X1_has
theorem dX1_colourOf_0 : decode cX1_colourOf 0 = .ok (.aload_n 0, 1) := by decide +kernel
theorem dX1_colourOf_1 : decode cX1_colourOf 1 = .ok (.iload_n 1, 1) := by decide +kernel
theorem dX1_colourOf_2 : decode cX1_colourOf 2 = .ok (.invokevirtual 37, 3) := by decide +kernel
theorem dX1_colourOf_5 : decode cX1_colourOf 5 = .ok (.ifCond .ne 5, 3) := by decide +kernel
theorem dX1_colourOf_8 : decode cX1_colourOf 8 = .ok (.iconst 0, 1) := by decide +kernel
theorem dX1_colourOf_9 : decode cX1_colourOf 9 = .ok (.ireturn, 1) := by decide +kernel
theorem dX1_colourOf_10 : decode cX1_colourOf 10 = .ok (.aload_n 0, 1) := by decide +kernel
theorem dX1_colourOf_11 : decode cX1_colourOf 11 = .ok (.getfield 9, 3) := by decide +kernel
theorem dX1_colourOf_14 : decode cX1_colourOf 14 = .ok (.iload_n 1, 1) := by decide +kernel
theorem dX1_colourOf_15 : decode cX1_colourOf 15 = .ok (.iaload, 1) := by decide +kernel
theorem dX1_colourOf_16 : decode cX1_colourOf 16 = .ok (.iconst 3, 1) := by decide +kernel
theorem dX1_colourOf_17 : decode cX1_colourOf 17 = .ok (.aload_n 0, 1) := by decide +kernel
theorem dX1_colourOf_18 : decode cX1_colourOf 18 = .ok (.getfield 19, 3) := by decide +kernel
theorem dX1_colourOf_21 : decode cX1_colourOf 21 = .ok (.iconst 1, 1) := by decide +kernel
theorem dX1_colourOf_22 : decode cX1_colourOf 22 = .ok (.isub, 1) := by decide +kernel
theorem dX1_colourOf_23 : decode cX1_colourOf 23 = .ok (.iload_n 2, 1) := by decide +kernel
theorem dX1_colourOf_24 : decode cX1_colourOf 24 = .ok (.isub, 1) := by decide +kernel
theorem dX1_colourOf_25 : decode cX1_colourOf 25 = .ok (.imul, 1) := by decide +kernel
theorem dX1_colourOf_26 : decode cX1_colourOf 26 = .ok (.ishr, 1) := by decide +kernel
theorem dX1_colourOf_27 : decode cX1_colourOf 27 = .ok (.bipush 7, 2) := by decide +kernel
theorem dX1_colourOf_29 : decode cX1_colourOf 29 = .ok (.iand, 1) := by decide +kernel
theorem dX1_colourOf_30 : decode cX1_colourOf 30 = .ok (.ireturn, 1) := by decide +kernel
theorem dX1_allBlack_0 : decode cX1_allBlack 0 = .ok (.bipush 10, 2) := by decide +kernel
theorem dX1_allBlack_2 : decode cX1_allBlack 2 = .ok (.aload_n 0, 1) := by decide +kernel
theorem dX1_allBlack_3 : decode cX1_allBlack 3 = .ok (.getfield 19, 3) := by decide +kernel
theorem dX1_allBlack_6 : decode cX1_allBlack 6 = .ok (.imul, 1) := by decide +kernel
theorem dX1_allBlack_7 : decode cX1_allBlack 7 = .ok (.ireturn, 1) := by decide +kernel
theorem dX1_allows_0 : decode cX1_allows 0 = .ok (.iload_n 1, 1) := by decide +kernel
theorem dX1_allows_1 : decode cX1_allows 1 = .ok (.ifCond .ge 5, 3) := by decide +kernel
theorem dX1_allows_4 : decode cX1_allows 4 = .ok (.iconst 0, 1) := by decide +kernel
theorem dX1_allows_5 : decode cX1_allows 5 = .ok (.ireturn, 1) := by decide +kernel
theorem dX1_allows_6 : decode cX1_allows 6 = .ok (.iload_n 1, 1) := by decide +kernel
theorem dX1_allows_7 : decode cX1_allows 7 = .ok (.bipush 10, 2) := by decide +kernel
theorem dX1_allows_9 : decode cX1_allows 9 = .ok (.idiv, 1) := by decide +kernel
theorem dX1_allows_10 : decode cX1_allows 10 = .ok (.istore_n 2, 1) := by decide +kernel
theorem dX1_allows_11 : decode cX1_allows 11 = .ok (.iload_n 1, 1) := by decide +kernel
theorem dX1_allows_12 : decode cX1_allows 12 = .ok (.bipush 10, 2) := by decide +kernel
theorem dX1_allows_14 : decode cX1_allows 14 = .ok (.irem, 1) := by decide +kernel
theorem dX1_allows_15 : decode cX1_allows 15 = .ok (.istore_n 3, 1) := by decide +kernel
theorem dX1_allows_16 : decode cX1_allows 16 = .ok (.iload_n 3, 1) := by decide +kernel
theorem dX1_allows_17 : decode cX1_allows 17 = .ok (.iconst 1, 1) := by decide +kernel
theorem dX1_allows_18 : decode cX1_allows 18 = .ok (.if_icmp .ne 17, 3) := by decide +kernel
theorem dX1_allows_21 : decode cX1_allows 21 = .ok (.iload_n 2, 1) := by decide +kernel
theorem dX1_allows_22 : decode cX1_allows 22 = .ok (.aload_n 0, 1) := by decide +kernel
theorem dX1_allows_23 : decode cX1_allows 23 = .ok (.getfield 19, 3) := by decide +kernel
theorem dX1_allows_26 : decode cX1_allows 26 = .ok (.iconst 1, 1) := by decide +kernel
theorem dX1_allows_27 : decode cX1_allows 27 = .ok (.isub, 1) := by decide +kernel
theorem dX1_allows_28 : decode cX1_allows 28 = .ok (.if_icmp .ne 7, 3) := by decide +kernel
theorem dX1_allows_31 : decode cX1_allows 31 = .ok (.iconst 1, 1) := by decide +kernel
theorem dX1_allows_32 : decode cX1_allows 32 = .ok (.goto 4, 3) := by decide +kernel
theorem dX1_allows_35 : decode cX1_allows 35 = .ok (.iconst 0, 1) := by decide +kernel
theorem dX1_allows_36 : decode cX1_allows 36 = .ok (.istore 4, 2) := by decide +kernel
theorem dX1_allows_38 : decode cX1_allows 38 = .ok (.iload_n 2, 1) := by decide +kernel
theorem dX1_allows_39 : decode cX1_allows 39 = .ok (.iload_n 3, 1) := by decide +kernel
theorem dX1_allows_40 : decode cX1_allows 40 = .ok (.iadd, 1) := by decide +kernel
theorem dX1_allows_41 : decode cX1_allows 41 = .ok (.aload_n 0, 1) := by decide +kernel
theorem dX1_allows_42 : decode cX1_allows 42 = .ok (.getfield 19, 3) := by decide +kernel
theorem dX1_allows_45 : decode cX1_allows 45 = .ok (.if_icmp .gt 12, 3) := by decide +kernel
theorem dX1_allows_48 : decode cX1_allows 48 = .ok (.iload 4, 2) := by decide +kernel
theorem dX1_allows_50 : decode cX1_allows 50 = .ok (.ifCond .ne 7, 3) := by decide +kernel
theorem dX1_allows_53 : decode cX1_allows 53 = .ok (.iconst 1, 1) := by decide +kernel
theorem dX1_allows_54 : decode cX1_allows 54 = .ok (.goto 4, 3) := by decide +kernel
theorem dX1_allows_57 : decode cX1_allows 57 = .ok (.iconst 0, 1) := by decide +kernel
theorem dX1_allows_58 : decode cX1_allows 58 = .ok (.ireturn, 1) := by decide +kernel
set_option maxRecDepth 20000 in
theorem ggX1_compare_X1_has : GoodIn wsX1_compare wsX1_has := goodIn_r _ [9, 10, 25, 26, 27, 28, 29] (by decide +kernel) (by decide +kernel)
set_option maxRecDepth 20000 in
theorem gX1_compare_X1_has : GoodIn wsX1_compare (wsV RX1 37 RX1 yX1_has wsX1_has) := goodIn_app (goodIn_of _ (by decide +kernel)) ggX1_compare_X1_has
set_option maxRecDepth 20000 in
theorem ggX1_compare_J6_bitCount_0f7a4 : GoodIn wsX1_compare wsJ6_bitCount_0f7a4 := goodIn_r _ [14, 15, 16, 17] (by decide +kernel) (by decide +kernel)
set_option maxRecDepth 20000 in
theorem gX1_compare_J6_bitCount_0f7a4 : GoodIn wsX1_compare (va_wsS RX1 44 yJ6_bitCount_0f7a4 wsJ6_bitCount_0f7a4) := goodIn_app (goodIn_of _ (by decide +kernel)) ggX1_compare_J6_bitCount_0f7a4
set_option maxRecDepth 20000 in
theorem ggX1_compare_J13_bitCount_95d88 : GoodIn wsX1_compare wsJ13_bitCount_95d88 := goodIn_r _ [21, 22, 23, 24] (by decide +kernel) (by decide +kernel)
set_option maxRecDepth 20000 in
theorem gX1_compare_J13_bitCount_95d88 : GoodIn wsX1_compare (va_wsS RX1 50 yJ13_bitCount_95d88 wsJ13_bitCount_95d88) := goodIn_app (goodIn_of _ (by decide +kernel)) ggX1_compare_J13_bitCount_95d88
theorem dX1_compare_0 : decode cX1_compare 0 = .ok (.aload_n 0, 1) := by decide +kernel
theorem dX1_compare_1 : decode cX1_compare 1 = .ok (.iload_n 1, 1) := by decide +kernel
theorem dX1_compare_2 : decode cX1_compare 2 = .ok (.invokevirtual 37, 3) := by decide +kernel
theorem dX1_compare_5 : decode cX1_compare 5 = .ok (.ifCond .eq 11, 3) := by decide +kernel
theorem dX1_compare_8 : decode cX1_compare 8 = .ok (.aload_n 0, 1) := by decide +kernel
theorem dX1_compare_9 : decode cX1_compare 9 = .ok (.iload_n 2, 1) := by decide +kernel
theorem dX1_compare_10 : decode cX1_compare 10 = .ok (.invokevirtual 37, 3) := by decide +kernel
theorem dX1_compare_13 : decode cX1_compare 13 = .ok (.ifCond .ne 5, 3) := by decide +kernel
theorem dX1_compare_16 : decode cX1_compare 16 = .ok (.iconst 0, 1) := by decide +kernel
theorem dX1_compare_17 : decode cX1_compare 17 = .ok (.ireturn, 1) := by decide +kernel
theorem dX1_compare_18 : decode cX1_compare 18 = .ok (.aload_n 0, 1) := by decide +kernel
theorem dX1_compare_19 : decode cX1_compare 19 = .ok (.getfield 9, 3) := by decide +kernel
theorem dX1_compare_22 : decode cX1_compare 22 = .ok (.iload_n 1, 1) := by decide +kernel
theorem dX1_compare_23 : decode cX1_compare 23 = .ok (.iaload, 1) := by decide +kernel
theorem dX1_compare_24 : decode cX1_compare 24 = .ok (.aload_n 0, 1) := by decide +kernel
theorem dX1_compare_25 : decode cX1_compare 25 = .ok (.getfield 9, 3) := by decide +kernel
theorem dX1_compare_28 : decode cX1_compare 28 = .ok (.iload_n 2, 1) := by decide +kernel
theorem dX1_compare_29 : decode cX1_compare 29 = .ok (.iaload, 1) := by decide +kernel
theorem dX1_compare_30 : decode cX1_compare 30 = .ok (.ixor, 1) := by decide +kernel
theorem dX1_compare_31 : decode cX1_compare 31 = .ok (.istore_n 3, 1) := by decide +kernel
theorem dX1_compare_32 : decode cX1_compare 32 = .ok (.iload_n 3, 1) := by decide +kernel
theorem dX1_compare_33 : decode cX1_compare 33 = .ok (.iload_n 3, 1) := by decide +kernel
theorem dX1_compare_34 : decode cX1_compare 34 = .ok (.iconst 1, 1) := by decide +kernel
theorem dX1_compare_35 : decode cX1_compare 35 = .ok (.ishr, 1) := by decide +kernel
theorem dX1_compare_36 : decode cX1_compare 36 = .ok (.ior, 1) := by decide +kernel
theorem dX1_compare_37 : decode cX1_compare 37 = .ok (.iload_n 3, 1) := by decide +kernel
theorem dX1_compare_38 : decode cX1_compare 38 = .ok (.iconst 2, 1) := by decide +kernel
theorem dX1_compare_39 : decode cX1_compare 39 = .ok (.ishr, 1) := by decide +kernel
theorem dX1_compare_40 : decode cX1_compare 40 = .ok (.ior, 1) := by decide +kernel
theorem dX1_compare_41 : decode cX1_compare 41 = .ok (.ldc 43, 2) := by decide +kernel
theorem dX1_compare_43 : decode cX1_compare 43 = .ok (.iand, 1) := by decide +kernel
theorem dX1_compare_44 : decode cX1_compare 44 = .ok (.istore 4, 2) := by decide +kernel
theorem dX1_compare_46 : decode cX1_compare 46 = .ok (.aload_n 0, 1) := by decide +kernel
theorem dX1_compare_47 : decode cX1_compare 47 = .ok (.getfield 19, 3) := by decide +kernel
theorem dX1_compare_50 : decode cX1_compare 50 = .ok (.iload 4, 2) := by decide +kernel
theorem dX1_compare_52 : decode cX1_compare 52 = .ok (.invokestatic 44, 3) := by decide +kernel
theorem dX1_compare_55 : decode cX1_compare 55 = .ok (.isub, 1) := by decide +kernel
theorem dX1_compare_56 : decode cX1_compare 56 = .ok (.istore 5, 2) := by decide +kernel
theorem dX1_compare_58 : decode cX1_compare 58 = .ok (.aload_n 0, 1) := by decide +kernel
theorem dX1_compare_59 : decode cX1_compare 59 = .ok (.getfield 15, 3) := by decide +kernel
theorem dX1_compare_62 : decode cX1_compare 62 = .ok (.iload_n 1, 1) := by decide +kernel
theorem dX1_compare_63 : decode cX1_compare 63 = .ok (.laload, 1) := by decide +kernel
theorem dX1_compare_64 : decode cX1_compare 64 = .ok (.aload_n 0, 1) := by decide +kernel
theorem dX1_compare_65 : decode cX1_compare 65 = .ok (.getfield 15, 3) := by decide +kernel
theorem dX1_compare_68 : decode cX1_compare 68 = .ok (.iload_n 2, 1) := by decide +kernel
theorem dX1_compare_69 : decode cX1_compare 69 = .ok (.laload, 1) := by decide +kernel
theorem dX1_compare_70 : decode cX1_compare 70 = .ok (.land, 1) := by decide +kernel
theorem dX1_compare_71 : decode cX1_compare 71 = .ok (.invokestatic 50, 3) := by decide +kernel
theorem dX1_compare_74 : decode cX1_compare 74 = .ok (.istore 6, 2) := by decide +kernel
theorem dX1_compare_76 : decode cX1_compare 76 = .ok (.bipush 10, 2) := by decide +kernel
theorem dX1_compare_78 : decode cX1_compare 78 = .ok (.iload 5, 2) := by decide +kernel
theorem dX1_compare_80 : decode cX1_compare 80 = .ok (.imul, 1) := by decide +kernel
theorem dX1_compare_81 : decode cX1_compare 81 = .ok (.iload 6, 2) := by decide +kernel
theorem dX1_compare_83 : decode cX1_compare 83 = .ok (.iload 5, 2) := by decide +kernel
theorem dX1_compare_85 : decode cX1_compare 85 = .ok (.isub, 1) := by decide +kernel
theorem dX1_compare_86 : decode cX1_compare 86 = .ok (.iadd, 1) := by decide +kernel
theorem dX1_compare_87 : decode cX1_compare 87 = .ok (.ireturn, 1) := by decide +kernel
theorem dX2_init_0 : decode cX2_init 0 = .ok (.aload_n 0, 1) := by decide +kernel
theorem dX2_init_1 : decode cX2_init 1 = .ok (.invokespecial 3, 3) := by decide +kernel
theorem dX2_init_4 : decode cX2_init 4 = .ok (.aload_n 0, 1) := by decide +kernel
theorem dX2_init_5 : decode cX2_init 5 = .ok (.bipush 81, 2) := by decide +kernel
theorem dX2_init_7 : decode cX2_init 7 = .ok (.newarray .int, 2) := by decide +kernel
theorem dX2_init_9 : decode cX2_init 9 = .ok (.putfield 9, 3) := by decide +kernel
theorem dX2_init_12 : decode cX2_init 12 = .ok (.aload_n 0, 1) := by decide +kernel
theorem dX2_init_13 : decode cX2_init 13 = .ok (.bipush 81, 2) := by decide +kernel
theorem dX2_init_15 : decode cX2_init 15 = .ok (.newarray .int, 2) := by decide +kernel
theorem dX2_init_17 : decode cX2_init 17 = .ok (.putfield 15, 3) := by decide +kernel
theorem dX2_init_20 : decode cX2_init 20 = .ok (.return_, 1) := by decide +kernel
set_option maxRecDepth 20000 in
theorem ggX2_clear_J7_fill_53178 : GoodIn wsX2_clear wsJ7_fill_53178 := goodIn_r _ [8] (by decide +kernel) (by decide +kernel)
set_option maxRecDepth 20000 in
theorem gX2_clear_J7_fill_53178 : GoodIn wsX2_clear (va_wsS RX2 28 yJ7_fill_53178 wsJ7_fill_53178) := goodIn_app (goodIn_of _ (by decide +kernel)) ggX2_clear_J7_fill_53178
theorem dX2_clear_0 : decode cX2_clear 0 = .ok (.aload_n 0, 1) := by decide +kernel
theorem dX2_clear_1 : decode cX2_clear 1 = .ok (.iconst 0, 1) := by decide +kernel
theorem dX2_clear_2 : decode cX2_clear 2 = .ok (.putfield 18, 3) := by decide +kernel
theorem dX2_clear_5 : decode cX2_clear 5 = .ok (.aload_n 0, 1) := by decide +kernel
theorem dX2_clear_6 : decode cX2_clear 6 = .ok (.iconst 0, 1) := by decide +kernel
theorem dX2_clear_7 : decode cX2_clear 7 = .ok (.putfield 22, 3) := by decide +kernel
theorem dX2_clear_10 : decode cX2_clear 10 = .ok (.aload_n 0, 1) := by decide +kernel
theorem dX2_clear_11 : decode cX2_clear 11 = .ok (.iconst 0, 1) := by decide +kernel
theorem dX2_clear_12 : decode cX2_clear 12 = .ok (.putfield 25, 3) := by decide +kernel
theorem dX2_clear_15 : decode cX2_clear 15 = .ok (.aload_n 0, 1) := by decide +kernel
theorem dX2_clear_16 : decode cX2_clear 16 = .ok (.getfield 15, 3) := by decide +kernel
theorem dX2_clear_19 : decode cX2_clear 19 = .ok (.iconst 0, 1) := by decide +kernel
theorem dX2_clear_20 : decode cX2_clear 20 = .ok (.invokestatic 28, 3) := by decide +kernel
theorem dX2_clear_23 : decode cX2_clear 23 = .ok (.return_, 1) := by decide +kernel
theorem dX2_add_0 : decode cX2_add 0 = .ok (.iload_n 1, 1) := by decide +kernel
theorem dX2_add_1 : decode cX2_add 1 = .ok (.ifCond .lt 9, 3) := by decide +kernel
theorem dX2_add_4 : decode cX2_add 4 = .ok (.iload_n 1, 1) := by decide +kernel
theorem dX2_add_5 : decode cX2_add 5 = .ok (.bipush 80, 2) := by decide +kernel
theorem dX2_add_7 : decode cX2_add 7 = .ok (.if_icmp .le 4, 3) := by decide +kernel
theorem dX2_add_10 : decode cX2_add 10 = .ok (.return_, 1) := by decide +kernel
theorem dX2_add_11 : decode cX2_add 11 = .ok (.aload_n 0, 1) := by decide +kernel
theorem dX2_add_12 : decode cX2_add 12 = .ok (.getfield 15, 3) := by decide +kernel
theorem dX2_add_15 : decode cX2_add 15 = .ok (.iload_n 1, 1) := by decide +kernel
theorem dX2_add_16 : decode cX2_add 16 = .ok (.iaload, 1) := by decide +kernel
theorem dX2_add_17 : decode cX2_add 17 = .ok (.ifCond .ne 42, 3) := by decide +kernel
theorem dX2_add_20 : decode cX2_add 20 = .ok (.aload_n 0, 1) := by decide +kernel
theorem dX2_add_21 : decode cX2_add 21 = .ok (.getfield 18, 3) := by decide +kernel
theorem dX2_add_24 : decode cX2_add 24 = .ok (.ifCond .lt 35, 3) := by decide +kernel
theorem dX2_add_27 : decode cX2_add 27 = .ok (.aload_n 0, 1) := by decide +kernel
theorem dX2_add_28 : decode cX2_add 28 = .ok (.getfield 18, 3) := by decide +kernel
theorem dX2_add_31 : decode cX2_add 31 = .ok (.aload_n 0, 1) := by decide +kernel
theorem dX2_add_32 : decode cX2_add 32 = .ok (.getfield 9, 3) := by decide +kernel
theorem dX2_add_35 : decode cX2_add 35 = .ok (.arraylength, 1) := by decide +kernel
theorem dX2_add_36 : decode cX2_add 36 = .ok (.if_icmp .ge 23, 3) := by decide +kernel
theorem dX2_add_39 : decode cX2_add 39 = .ok (.aload_n 0, 1) := by decide +kernel
theorem dX2_add_40 : decode cX2_add 40 = .ok (.getfield 9, 3) := by decide +kernel
theorem dX2_add_43 : decode cX2_add 43 = .ok (.aload_n 0, 1) := by decide +kernel
theorem dX2_add_44 : decode cX2_add 44 = .ok (.getfield 18, 3) := by decide +kernel
theorem dX2_add_47 : decode cX2_add 47 = .ok (.iload_n 1, 1) := by decide +kernel
theorem dX2_add_48 : decode cX2_add 48 = .ok (.iastore, 1) := by decide +kernel
theorem dX2_add_49 : decode cX2_add 49 = .ok (.aload_n 0, 1) := by decide +kernel
theorem dX2_add_50 : decode cX2_add 50 = .ok (.dup, 1) := by decide +kernel
theorem dX2_add_51 : decode cX2_add 51 = .ok (.getfield 18, 3) := by decide +kernel
theorem dX2_add_54 : decode cX2_add 54 = .ok (.iconst 1, 1) := by decide +kernel
theorem dX2_add_55 : decode cX2_add 55 = .ok (.iadd, 1) := by decide +kernel
theorem dX2_add_56 : decode cX2_add 56 = .ok (.putfield 18, 3) := by decide +kernel
theorem dX2_add_59 : decode cX2_add 59 = .ok (.aload_n 0, 1) := by decide +kernel
theorem dX2_add_60 : decode cX2_add 60 = .ok (.getfield 15, 3) := by decide +kernel
theorem dX2_add_63 : decode cX2_add 63 = .ok (.iload_n 1, 1) := by decide +kernel
theorem dX2_add_64 : decode cX2_add 64 = .ok (.iaload, 1) := by decide +kernel
theorem dX2_add_65 : decode cX2_add 65 = .ok (.iconst 1, 1) := by decide +kernel
theorem dX2_add_66 : decode cX2_add 66 = .ok (.iadd, 1) := by decide +kernel
theorem dX2_add_67 : decode cX2_add 67 = .ok (.istore_n 2, 1) := by decide +kernel
theorem dX2_add_68 : decode cX2_add 68 = .ok (.aload_n 0, 1) := by decide +kernel
theorem dX2_add_69 : decode cX2_add 69 = .ok (.getfield 15, 3) := by decide +kernel
theorem dX2_add_72 : decode cX2_add 72 = .ok (.iload_n 1, 1) := by decide +kernel
theorem dX2_add_73 : decode cX2_add 73 = .ok (.iload_n 2, 1) := by decide +kernel
theorem dX2_add_74 : decode cX2_add 74 = .ok (.iastore, 1) := by decide +kernel
theorem dX2_add_75 : decode cX2_add 75 = .ok (.aload_n 0, 1) := by decide +kernel
theorem dX2_add_76 : decode cX2_add 76 = .ok (.aload_n 0, 1) := by decide +kernel
theorem dX2_add_77 : decode cX2_add 77 = .ok (.getfield 22, 3) := by decide +kernel
theorem dX2_add_80 : decode cX2_add 80 = .ok (.iload_n 2, 1) := by decide +kernel
theorem dX2_add_81 : decode cX2_add 81 = .ok (.invokestatic 34, 3) := by decide +kernel
theorem dX2_add_84 : decode cX2_add 84 = .ok (.putfield 22, 3) := by decide +kernel
theorem dX2_add_87 : decode cX2_add 87 = .ok (.aload_n 0, 1) := by decide +kernel
theorem dX2_add_88 : decode cX2_add 88 = .ok (.dup, 1) := by decide +kernel
theorem dX2_add_89 : decode cX2_add 89 = .ok (.getfield 25, 3) := by decide +kernel
theorem dX2_add_92 : decode cX2_add 92 = .ok (.iconst 2, 1) := by decide +kernel
theorem dX2_add_93 : decode cX2_add 93 = .ok (.iload_n 2, 1) := by decide +kernel
theorem dX2_add_94 : decode cX2_add 94 = .ok (.imul, 1) := by decide +kernel
theorem dX2_add_95 : decode cX2_add 95 = .ok (.iconst 1, 1) := by decide +kernel
theorem dX2_add_96 : decode cX2_add 96 = .ok (.isub, 1) := by decide +kernel
theorem dX2_add_97 : decode cX2_add 97 = .ok (.iadd, 1) := by decide +kernel
theorem dX2_add_98 : decode cX2_add 98 = .ok (.putfield 25, 3) := by decide +kernel
theorem dX2_add_101 : decode cX2_add 101 = .ok (.return_, 1) := by decide +kernel
theorem dX2_has_0 : decode cX2_has 0 = .ok (.iload_n 1, 1) := by decide +kernel
theorem dX2_has_1 : decode cX2_has 1 = .ok (.ifCond .lt 24, 3) := by decide +kernel
theorem dX2_has_4 : decode cX2_has 4 = .ok (.iload_n 1, 1) := by decide +kernel
theorem dX2_has_5 : decode cX2_has 5 = .ok (.aload_n 0, 1) := by decide +kernel
theorem dX2_has_6 : decode cX2_has 6 = .ok (.getfield 18, 3) := by decide +kernel
theorem dX2_has_9 : decode cX2_has 9 = .ok (.if_icmp .ge 16, 3) := by decide +kernel
theorem dX2_has_12 : decode cX2_has 12 = .ok (.iload_n 1, 1) := by decide +kernel
theorem dX2_has_13 : decode cX2_has 13 = .ok (.aload_n 0, 1) := by decide +kernel
theorem dX2_has_14 : decode cX2_has 14 = .ok (.getfield 9, 3) := by decide +kernel
theorem dX2_has_17 : decode cX2_has 17 = .ok (.arraylength, 1) := by decide +kernel
theorem dX2_has_18 : decode cX2_has 18 = .ok (.if_icmp .ge 7, 3) := by decide +kernel
theorem dX2_has_21 : decode cX2_has 21 = .ok (.iconst 1, 1) := by decide +kernel
theorem dX2_has_22 : decode cX2_has 22 = .ok (.goto 4, 3) := by decide +kernel
theorem dX2_has_25 : decode cX2_has 25 = .ok (.iconst 0, 1) := by decide +kernel
theorem dX2_has_26 : decode cX2_has 26 = .ok (.ireturn, 1) := by decide +kernel
set_option maxRecDepth 20000 in
theorem ggX2_markAt_X2_has : GoodIn wsX2_markAt wsX2_has := goodIn_r _ [6, 7, 1, 8, 9, 10, 11, 12] (by decide +kernel) (by decide +kernel)
set_option maxRecDepth 20000 in
theorem gX2_markAt_X2_has : GoodIn wsX2_markAt (wsV RX2 40 RX2 yX2_has wsX2_has) := goodIn_app (goodIn_of _ (by decide +kernel)) ggX2_markAt_X2_has
theorem dX2_markAt_0 : decode cX2_markAt 0 = .ok (.aload_n 0, 1) := by decide +kernel
theorem dX2_markAt_1 : decode cX2_markAt 1 = .ok (.iload_n 1, 1) := by decide +kernel
theorem dX2_markAt_2 : decode cX2_markAt 2 = .ok (.invokevirtual 40, 3) := by decide +kernel
theorem dX2_markAt_5 : decode cX2_markAt 5 = .ok (.ifCond .eq 12, 3) := by decide +kernel
theorem dX2_markAt_8 : decode cX2_markAt 8 = .ok (.aload_n 0, 1) := by decide +kernel
theorem dX2_markAt_9 : decode cX2_markAt 9 = .ok (.getfield 9, 3) := by decide +kernel
theorem dX2_markAt_12 : decode cX2_markAt 12 = .ok (.iload_n 1, 1) := by decide +kernel
theorem dX2_markAt_13 : decode cX2_markAt 13 = .ok (.iaload, 1) := by decide +kernel
theorem dX2_markAt_14 : decode cX2_markAt 14 = .ok (.goto 4, 3) := by decide +kernel
theorem dX2_markAt_17 : decode cX2_markAt 17 = .ok (.iconst 0, 1) := by decide +kernel
theorem dX2_markAt_18 : decode cX2_markAt 18 = .ok (.ireturn, 1) := by decide +kernel
theorem dX2_sizeWith_0 : decode cX2_sizeWith 0 = .ok (.iload_n 1, 1) := by decide +kernel
theorem dX2_sizeWith_1 : decode cX2_sizeWith 1 = .ok (.ifCond .lt 18, 3) := by decide +kernel
theorem dX2_sizeWith_4 : decode cX2_sizeWith 4 = .ok (.iload_n 1, 1) := by decide +kernel
theorem dX2_sizeWith_5 : decode cX2_sizeWith 5 = .ok (.bipush 80, 2) := by decide +kernel
theorem dX2_sizeWith_7 : decode cX2_sizeWith 7 = .ok (.if_icmp .gt 12, 3) := by decide +kernel
theorem dX2_sizeWith_10 : decode cX2_sizeWith 10 = .ok (.aload_n 0, 1) := by decide +kernel
theorem dX2_sizeWith_11 : decode cX2_sizeWith 11 = .ok (.getfield 15, 3) := by decide +kernel
theorem dX2_sizeWith_14 : decode cX2_sizeWith 14 = .ok (.iload_n 1, 1) := by decide +kernel
theorem dX2_sizeWith_15 : decode cX2_sizeWith 15 = .ok (.iaload, 1) := by decide +kernel
theorem dX2_sizeWith_16 : decode cX2_sizeWith 16 = .ok (.goto 4, 3) := by decide +kernel
theorem dX2_sizeWith_19 : decode cX2_sizeWith 19 = .ok (.iconst 0, 1) := by decide +kernel
theorem dX2_sizeWith_20 : decode cX2_sizeWith 20 = .ok (.ireturn, 1) := by decide +kernel
theorem dX2_score_0 : decode cX2_score 0 = .ok (.iload_n 1, 1) := by decide +kernel
theorem dX2_score_1 : decode cX2_score 1 = .ok (.ifCond .ne 8, 3) := by decide +kernel
theorem dX2_score_4 : decode cX2_score 4 = .ok (.aload_n 0, 1) := by decide +kernel
theorem dX2_score_5 : decode cX2_score 5 = .ok (.getfield 22, 3) := by decide +kernel
theorem dX2_score_8 : decode cX2_score 8 = .ok (.ireturn, 1) := by decide +kernel
theorem dX2_score_9 : decode cX2_score 9 = .ok (.iload_n 1, 1) := by decide +kernel
theorem dX2_score_10 : decode cX2_score 10 = .ok (.iconst 1, 1) := by decide +kernel
theorem dX2_score_11 : decode cX2_score 11 = .ok (.if_icmp .ne 10, 3) := by decide +kernel
theorem dX2_score_14 : decode cX2_score 14 = .ok (.aload_n 0, 1) := by decide +kernel
theorem dX2_score_15 : decode cX2_score 15 = .ok (.getfield 25, 3) := by decide +kernel
theorem dX2_score_18 : decode cX2_score 18 = .ok (.goto 8, 3) := by decide +kernel
theorem dX2_score_21 : decode cX2_score 21 = .ok (.aload_n 0, 1) := by decide +kernel
theorem dX2_score_22 : decode cX2_score 22 = .ok (.getfield 18, 3) := by decide +kernel
theorem dX2_score_25 : decode cX2_score 25 = .ok (.ineg, 1) := by decide +kernel
theorem dX2_score_26 : decode cX2_score 26 = .ok (.ireturn, 1) := by decide +kernel
set_option maxRecDepth 20000 in
theorem ggX3_init_X1_init : GoodIn wsX3_init wsX1_init := goodIn_r _ [20, 21, 2, 3, 16, 22, 23, 24, 103, 104, 105, 106, 107] (by decide +kernel) (by decide +kernel)
set_option maxRecDepth 20000 in
theorem gX3_init_X1_init_n11 : GoodIn wsX3_init (wsX1_init) := ggX3_init_X1_init
set_option maxRecDepth 20000 in
theorem ggX3_init_X0_init : GoodIn wsX3_init wsX0_init := goodIn_r _ [27, 28, 2, 3, 16, 29, 30, 31, 32, 116, 117, 118, 119, 120] (by decide +kernel) (by decide +kernel)
set_option maxRecDepth 20000 in
theorem gX3_init_X0_init : GoodIn wsX3_init (wsX0_init) := ggX3_init_X0_init
set_option maxRecDepth 20000 in
theorem ggX3_init_X2_init : GoodIn wsX3_init wsX2_init := goodIn_r _ [34, 35, 2, 3, 16, 36, 37, 121, 122, 123, 124, 125] (by decide +kernel) (by decide +kernel)
set_option maxRecDepth 20000 in
theorem gX3_init_X2_init_n27 : GoodIn wsX3_init (wsX2_init) := ggX3_init_X2_init
set_option maxRecDepth 20000 in
theorem ggX3_init_X1_lay : GoodIn wsX3_init wsX1_lay := goodIn_r _ [41, 42, 43, 44, 45, 46, 47, 6, 48, 22, 24, 49, 50, 51, 52, 53, 54, 55, 56, 103, 104, 105, 106, 107] (by decide +kernel) (by decide +kernel)
set_option maxRecDepth 20000 in
theorem gX3_init_X1_lay : GoodIn wsX3_init (wsV RX3 39 RX1 yX1_lay wsX1_lay) := goodIn_app (goodIn_of _ (by decide +kernel)) ggX3_init_X1_lay
set_option maxRecDepth 20000 in
theorem ggX3_init_X3_tellNothing : GoodIn wsX3_init wsX3_tellNothing := goodIn_r _ [61, 11, 62, 63, 64, 65, 66, 10, 67, 68, 31, 69, 70, 71, 72, 73, 74, 75, 60, 76, 77, 7, 78, 17, 79, 80, 81, 82, 83, 84, 85, 86, 87, 88, 89, 90, 91, 92, 93, 94, 32, 95, 54, 55, 6, 56, 44, 96, 97, 98, 99, 100, 101, 102, 108, 109, 110, 111, 112, 113, 114, 115, 116, 117, 118, 119, 120, 103, 104, 105, 106, 107] (by decide +kernel) (by decide +kernel)
set_option maxRecDepth 20000 in
theorem gX3_init_X3_tellNothing : GoodIn wsX3_init (wsV RX3 43 RX3 yX3_tellNothing wsX3_tellNothing) := goodIn_app (goodIn_of _ (by decide +kernel)) ggX3_init_X3_tellNothing
end
section
theorem dX3_init_0 : decode cX3_init 0 = .ok (.aload_n 0, 1) := by decide +kernel
theorem dX3_init_1 : decode cX3_init 1 = .ok (.invokespecial 3, 3) := by decide +kernel
theorem dX3_init_4 : decode cX3_init 4 = .ok (.aload_n 0, 1) := by decide +kernel
theorem dX3_init_5 : decode cX3_init 5 = .ok (.new 9, 3) := by decide +kernel
theorem dX3_init_8 : decode cX3_init 8 = .ok (.dup, 1) := by decide +kernel
theorem dX3_init_9 : decode cX3_init 9 = .ok (.invokespecial 11, 3) := by decide +kernel
theorem dX3_init_12 : decode cX3_init 12 = .ok (.putfield 12, 3) := by decide +kernel
theorem dX3_init_15 : decode cX3_init 15 = .ok (.aload_n 0, 1) := by decide +kernel
theorem dX3_init_16 : decode cX3_init 16 = .ok (.new 16, 3) := by decide +kernel
theorem dX3_init_19 : decode cX3_init 19 = .ok (.dup, 1) := by decide +kernel
theorem dX3_init_20 : decode cX3_init 20 = .ok (.aload_n 0, 1) := by decide +kernel
theorem dX3_init_21 : decode cX3_init 21 = .ok (.getfield 12, 3) := by decide +kernel
theorem dX3_init_24 : decode cX3_init 24 = .ok (.invokespecial 18, 3) := by decide +kernel
theorem dX3_init_27 : decode cX3_init 27 = .ok (.putfield 21, 3) := by decide +kernel
theorem dX3_init_30 : decode cX3_init 30 = .ok (.aload_n 0, 1) := by decide +kernel
theorem dX3_init_31 : decode cX3_init 31 = .ok (.new 25, 3) := by decide +kernel
theorem dX3_init_34 : decode cX3_init 34 = .ok (.dup, 1) := by decide +kernel
theorem dX3_init_35 : decode cX3_init 35 = .ok (.invokespecial 27, 3) := by decide +kernel
theorem dX3_init_38 : decode cX3_init 38 = .ok (.putfield 28, 3) := by decide +kernel
theorem dX3_init_41 : decode cX3_init 41 = .ok (.aload_n 0, 1) := by decide +kernel
theorem dX3_init_42 : decode cX3_init 42 = .ok (.sipush 256, 3) := by decide +kernel
theorem dX3_init_45 : decode cX3_init 45 = .ok (.newarray .int, 2) := by decide +kernel
theorem dX3_init_47 : decode cX3_init 47 = .ok (.putfield 32, 3) := by decide +kernel
theorem dX3_init_50 : decode cX3_init 50 = .ok (.aload_n 0, 1) := by decide +kernel
theorem dX3_init_51 : decode cX3_init 51 = .ok (.sipush 300, 3) := by decide +kernel
theorem dX3_init_54 : decode cX3_init 54 = .ok (.newarray .int, 2) := by decide +kernel
theorem dX3_init_56 : decode cX3_init 56 = .ok (.putfield 36, 3) := by decide +kernel
theorem dX3_init_59 : decode cX3_init 59 = .ok (.aload_n 0, 1) := by decide +kernel
theorem dX3_init_60 : decode cX3_init 60 = .ok (.getfield 12, 3) := by decide +kernel
theorem dX3_init_63 : decode cX3_init 63 = .ok (.iconst 3, 1) := by decide +kernel
theorem dX3_init_64 : decode cX3_init 64 = .ok (.iconst 4, 1) := by decide +kernel
theorem dX3_init_65 : decode cX3_init 65 = .ok (.invokevirtual 39, 3) := by decide +kernel
theorem dX3_init_68 : decode cX3_init 68 = .ok (.pop, 1) := by decide +kernel
theorem dX3_init_69 : decode cX3_init 69 = .ok (.aload_n 0, 1) := by decide +kernel
theorem dX3_init_70 : decode cX3_init 70 = .ok (.invokevirtual 43, 3) := by decide +kernel
theorem dX3_init_73 : decode cX3_init 73 = .ok (.return_, 1) := by decide +kernel
set_option maxRecDepth 20000 in
theorem ggX3_begin_X1_lay : GoodIn wsX3_begin wsX1_lay := goodIn_r _ [9, 10, 11, 12, 13, 14, 15, 8, 16, 17, 18, 19, 20, 21, 22, 23, 24, 25, 26, 85, 86, 87, 88, 89] (by decide +kernel) (by decide +kernel)
set_option maxRecDepth 20000 in
theorem gX3_begin_X1_lay : GoodIn wsX3_begin (wsV RX3 39 RX1 yX1_lay wsX1_lay) := goodIn_app (goodIn_of _ (by decide +kernel)) ggX3_begin_X1_lay
set_option maxRecDepth 20000 in
theorem ggX3_begin_X3_tellNothing : GoodIn wsX3_begin wsX3_tellNothing := goodIn_r _ [31, 32, 33, 34, 35, 36, 37, 38, 39, 40, 41, 42, 43, 44, 45, 46, 47, 48, 30, 49, 50, 3, 4, 51, 52, 53, 54, 55, 56, 57, 58, 59, 60, 61, 62, 63, 64, 65, 66, 67, 68, 69, 24, 25, 8, 26, 12, 70, 71, 72, 73, 74, 75, 76, 77, 78, 79, 80, 81, 82, 83, 84, 90, 91, 92, 93, 94, 85, 86, 87, 88, 89] (by decide +kernel) (by decide +kernel)
set_option maxRecDepth 20000 in
theorem gX3_begin_X3_tellNothing : GoodIn wsX3_begin (wsV RX3 43 RX3 yX3_tellNothing wsX3_tellNothing) := goodIn_app (goodIn_of _ (by decide +kernel)) ggX3_begin_X3_tellNothing
theorem dX3_begin_0 : decode cX3_begin 0 = .ok (.aload_n 0, 1) := by decide +kernel
theorem dX3_begin_1 : decode cX3_begin 1 = .ok (.getfield 12, 3) := by decide +kernel
theorem dX3_begin_4 : decode cX3_begin 4 = .ok (.iload_n 1, 1) := by decide +kernel
theorem dX3_begin_5 : decode cX3_begin 5 = .ok (.iload_n 2, 1) := by decide +kernel
theorem dX3_begin_6 : decode cX3_begin 6 = .ok (.invokevirtual 39, 3) := by decide +kernel
theorem dX3_begin_9 : decode cX3_begin 9 = .ok (.ifCond .ne 13, 3) := by decide +kernel
theorem dX3_begin_12 : decode cX3_begin 12 = .ok (.new 46, 3) := by decide +kernel
theorem dX3_begin_15 : decode cX3_begin 15 = .ok (.dup, 1) := by decide +kernel
theorem dX3_begin_16 : decode cX3_begin 16 = .ok (.ldc 48, 2) := by decide +kernel
theorem dX3_begin_18 : decode cX3_begin 18 = .ok (.invokespecial 50, 3) := by decide +kernel
theorem dX3_begin_21 : decode cX3_begin 21 = .ok (.athrow, 1) := by decide +kernel
theorem dX3_begin_22 : decode cX3_begin 22 = .ok (.aload_n 0, 1) := by decide +kernel
theorem dX3_begin_23 : decode cX3_begin 23 = .ok (.invokevirtual 43, 3) := by decide +kernel
theorem dX3_begin_26 : decode cX3_begin 26 = .ok (.aload_n 0, 1) := by decide +kernel
theorem dX3_begin_27 : decode cX3_begin 27 = .ok (.getfield 12, 3) := by decide +kernel
theorem dX3_begin_30 : decode cX3_begin 30 = .ok (.getfield 53, 3) := by decide +kernel
theorem dX3_begin_33 : decode cX3_begin 33 = .ok (.ireturn, 1) := by decide +kernel
theorem dX3_rows_0 : decode cX3_rows 0 = .ok (.aload_n 0, 1) := by decide +kernel
theorem dX3_rows_1 : decode cX3_rows 1 = .ok (.getfield 12, 3) := by decide +kernel
theorem dX3_rows_4 : decode cX3_rows 4 = .ok (.getfield 53, 3) := by decide +kernel
theorem dX3_rows_7 : decode cX3_rows 7 = .ok (.ireturn, 1) := by decide +kernel
set_option maxRecDepth 20000 in
theorem ggX3_colourAt_X1_has : GoodIn wsX3_colourAt wsX1_has := goodIn_r _ [9, 10, 26, 27, 28, 29, 30] (by decide +kernel) (by decide +kernel)
set_option maxRecDepth 20000 in
theorem gX3_colourAt_X1_has : GoodIn wsX3_colourAt (wsV RX3 57 RX1 yX1_has wsX1_has) := goodIn_app (goodIn_of _ (by decide +kernel)) ggX3_colourAt_X1_has
set_option maxRecDepth 20000 in
theorem ggX3_colourAt_X1_colourOf : GoodIn wsX3_colourAt wsX1_colourOf := goodIn_r _ [14, 15, 16, 17, 6, 7, 8, 9, 10, 26, 27, 28, 29, 30] (by decide +kernel) (by decide +kernel)
set_option maxRecDepth 20000 in
theorem gX3_colourAt_X1_colourOf : GoodIn wsX3_colourAt (wsV RX3 69 RX1 yX1_colourOf wsX1_colourOf) := goodIn_app (goodIn_of _ (by decide +kernel)) ggX3_colourAt_X1_colourOf
theorem dX3_colourAt_0 : decode cX3_colourAt 0 = .ok (.aload_n 0, 1) := by decide +kernel
theorem dX3_colourAt_1 : decode cX3_colourAt 1 = .ok (.getfield 12, 3) := by decide +kernel
theorem dX3_colourAt_4 : decode cX3_colourAt 4 = .ok (.iload_n 1, 1) := by decide +kernel
theorem dX3_colourAt_5 : decode cX3_colourAt 5 = .ok (.invokevirtual 57, 3) := by decide +kernel
theorem dX3_colourAt_8 : decode cX3_colourAt 8 = .ok (.ifCond .eq 18, 3) := by decide +kernel
theorem dX3_colourAt_11 : decode cX3_colourAt 11 = .ok (.iload_n 2, 1) := by decide +kernel
theorem dX3_colourAt_12 : decode cX3_colourAt 12 = .ok (.ifCond .lt 14, 3) := by decide +kernel
theorem dX3_colourAt_15 : decode cX3_colourAt 15 = .ok (.iload_n 2, 1) := by decide +kernel
theorem dX3_colourAt_16 : decode cX3_colourAt 16 = .ok (.aload_n 0, 1) := by decide +kernel
theorem dX3_colourAt_17 : decode cX3_colourAt 17 = .ok (.getfield 12, 3) := by decide +kernel
theorem dX3_colourAt_20 : decode cX3_colourAt 20 = .ok (.getfield 61, 3) := by decide +kernel
theorem dX3_colourAt_23 : decode cX3_colourAt 23 = .ok (.if_icmp .lt 13, 3) := by decide +kernel
theorem dX3_colourAt_26 : decode cX3_colourAt 26 = .ok (.new 64, 3) := by decide +kernel
theorem dX3_colourAt_29 : decode cX3_colourAt 29 = .ok (.dup, 1) := by decide +kernel
theorem dX3_colourAt_30 : decode cX3_colourAt 30 = .ok (.ldc 66, 2) := by decide +kernel
theorem dX3_colourAt_32 : decode cX3_colourAt 32 = .ok (.invokespecial 68, 3) := by decide +kernel
theorem dX3_colourAt_35 : decode cX3_colourAt 35 = .ok (.athrow, 1) := by decide +kernel
theorem dX3_colourAt_36 : decode cX3_colourAt 36 = .ok (.aload_n 0, 1) := by decide +kernel
theorem dX3_colourAt_37 : decode cX3_colourAt 37 = .ok (.getfield 12, 3) := by decide +kernel
theorem dX3_colourAt_40 : decode cX3_colourAt 40 = .ok (.iload_n 1, 1) := by decide +kernel
theorem dX3_colourAt_41 : decode cX3_colourAt 41 = .ok (.iload_n 2, 1) := by decide +kernel
theorem dX3_colourAt_42 : decode cX3_colourAt 42 = .ok (.invokevirtual 69, 3) := by decide +kernel
theorem dX3_colourAt_45 : decode cX3_colourAt 45 = .ok (.ireturn, 1) := by decide +kernel
set_option maxRecDepth 20000 in
theorem ggX3_mark_X1_has : GoodIn wsX3_mark wsX1_has := goodIn_r _ [8, 9, 41, 42, 43, 44, 45] (by decide +kernel) (by decide +kernel)
set_option maxRecDepth 20000 in
theorem gX3_mark_X1_has : GoodIn wsX3_mark (wsV RX3 57 RX1 yX1_has wsX1_has) := goodIn_app (goodIn_of _ (by decide +kernel)) ggX3_mark_X1_has
set_option maxRecDepth 20000 in
theorem ggX3_mark_X1_compare : GoodIn wsX3_mark wsX1_compare := goodIn_r _ [13, 14, 15, 16, 17, 18, 5, 6, 7, 8, 9, 19, 20, 21, 22, 23, 24, 25, 26, 27, 28, 29, 30, 31, 32, 41, 42, 43, 44, 45] (by decide +kernel) (by decide +kernel)
set_option maxRecDepth 20000 in
theorem gX3_mark_X1_compare : GoodIn wsX3_mark (wsV RX3 75 RX1 yX1_compare wsX1_compare) := goodIn_app (goodIn_of _ (by decide +kernel)) ggX3_mark_X1_compare
theorem dX3_mark_0 : decode cX3_mark 0 = .ok (.aload_n 0, 1) := by decide +kernel
theorem dX3_mark_1 : decode cX3_mark 1 = .ok (.getfield 12, 3) := by decide +kernel
theorem dX3_mark_4 : decode cX3_mark 4 = .ok (.iload_n 1, 1) := by decide +kernel
theorem dX3_mark_5 : decode cX3_mark 5 = .ok (.invokevirtual 57, 3) := by decide +kernel
theorem dX3_mark_8 : decode cX3_mark 8 = .ok (.ifCond .eq 14, 3) := by decide +kernel
theorem dX3_mark_11 : decode cX3_mark 11 = .ok (.aload_n 0, 1) := by decide +kernel
theorem dX3_mark_12 : decode cX3_mark 12 = .ok (.getfield 12, 3) := by decide +kernel
theorem dX3_mark_15 : decode cX3_mark 15 = .ok (.iload_n 2, 1) := by decide +kernel
theorem dX3_mark_16 : decode cX3_mark 16 = .ok (.invokevirtual 57, 3) := by decide +kernel
theorem dX3_mark_19 : decode cX3_mark 19 = .ok (.ifCond .ne 13, 3) := by decide +kernel
theorem dX3_mark_22 : decode cX3_mark 22 = .ok (.new 64, 3) := by decide +kernel
theorem dX3_mark_25 : decode cX3_mark 25 = .ok (.dup, 1) := by decide +kernel
theorem dX3_mark_26 : decode cX3_mark 26 = .ok (.ldc 73, 2) := by decide +kernel
theorem dX3_mark_28 : decode cX3_mark 28 = .ok (.invokespecial 68, 3) := by decide +kernel
theorem dX3_mark_31 : decode cX3_mark 31 = .ok (.athrow, 1) := by decide +kernel
theorem dX3_mark_32 : decode cX3_mark 32 = .ok (.aload_n 0, 1) := by decide +kernel
theorem dX3_mark_33 : decode cX3_mark 33 = .ok (.getfield 12, 3) := by decide +kernel
theorem dX3_mark_36 : decode cX3_mark 36 = .ok (.iload_n 1, 1) := by decide +kernel
theorem dX3_mark_37 : decode cX3_mark 37 = .ok (.iload_n 2, 1) := by decide +kernel
theorem dX3_mark_38 : decode cX3_mark 38 = .ok (.invokevirtual 75, 3) := by decide +kernel
theorem dX3_mark_41 : decode cX3_mark 41 = .ok (.ireturn, 1) := by decide +kernel
set_option maxRecDepth 20000 in
theorem ggX3_allowLies_X0_countLies : GoodIn wsX3_allowLies wsX0_countLies := goodIn_r _ [12, 13, 14, 15, 11, 16, 17, 18, 19, 20, 21, 22, 23, 24, 25, 26, 27, 28, 29, 30, 31, 32, 33, 34, 35, 36, 58, 59, 60, 61, 62, 63, 64, 65, 66, 67] (by decide +kernel) (by decide +kernel)
set_option maxRecDepth 20000 in
theorem gX3_allowLies_X0_countLies : GoodIn wsX3_allowLies (wsV RX3 83 RX0 yX0_countLies wsX0_countLies) := goodIn_app (goodIn_of _ (by decide +kernel)) ggX3_allowLies_X0_countLies
set_option maxRecDepth 20000 in
theorem ggX3_allowLies_X3_listRowsLeft : GoodIn wsX3_allowLies wsX3_listRowsLeft := goodIn_r _ [41, 42, 43, 44, 45, 46, 47, 48, 40, 49, 6, 7, 8, 9, 10, 11, 12, 13, 14, 15, 16, 17, 18, 19, 20, 21, 22, 23, 24, 25, 26, 27, 28, 29, 30, 31, 32, 33, 34, 35, 36, 50, 51, 52, 53, 54, 55, 56, 57, 63, 64, 65, 66, 67, 58, 59, 60, 61, 62] (by decide +kernel) (by decide +kernel)
set_option maxRecDepth 20000 in
theorem gX3_allowLies_X3_listRowsLeft : GoodIn wsX3_allowLies (wsV RX3 95 RX3 yX3_listRowsLeft wsX3_listRowsLeft) := goodIn_app (goodIn_of _ (by decide +kernel)) ggX3_allowLies_X3_listRowsLeft
theorem dX3_allowLies_0 : decode cX3_allowLies 0 = .ok (.iload_n 1, 1) := by decide +kernel
theorem dX3_allowLies_1 : decode cX3_allowLies 1 = .ok (.ifCond .lt 8, 3) := by decide +kernel
theorem dX3_allowLies_4 : decode cX3_allowLies 4 = .ok (.iload_n 1, 1) := by decide +kernel
theorem dX3_allowLies_5 : decode cX3_allowLies 5 = .ok (.iconst 3, 1) := by decide +kernel
theorem dX3_allowLies_6 : decode cX3_allowLies 6 = .ok (.if_icmp .le 13, 3) := by decide +kernel
theorem dX3_allowLies_9 : decode cX3_allowLies 9 = .ok (.new 46, 3) := by decide +kernel
theorem dX3_allowLies_12 : decode cX3_allowLies 12 = .ok (.dup, 1) := by decide +kernel
theorem dX3_allowLies_13 : decode cX3_allowLies 13 = .ok (.ldc 78, 2) := by decide +kernel
theorem dX3_allowLies_15 : decode cX3_allowLies 15 = .ok (.invokespecial 50, 3) := by decide +kernel
theorem dX3_allowLies_18 : decode cX3_allowLies 18 = .ok (.athrow, 1) := by decide +kernel
theorem dX3_allowLies_19 : decode cX3_allowLies 19 = .ok (.aload_n 0, 1) := by decide +kernel
theorem dX3_allowLies_20 : decode cX3_allowLies 20 = .ok (.getfield 80, 3) := by decide +kernel
theorem dX3_allowLies_23 : decode cX3_allowLies 23 = .ok (.iconst (-1), 1) := by decide +kernel
theorem dX3_allowLies_24 : decode cX3_allowLies 24 = .ok (.if_icmp .eq 28, 3) := by decide +kernel
theorem dX3_allowLies_27 : decode cX3_allowLies 27 = .ok (.aload_n 0, 1) := by decide +kernel
theorem dX3_allowLies_28 : decode cX3_allowLies 28 = .ok (.getfield 21, 3) := by decide +kernel
theorem dX3_allowLies_31 : decode cX3_allowLies 31 = .ok (.aload_n 0, 1) := by decide +kernel
theorem dX3_allowLies_32 : decode cX3_allowLies 32 = .ok (.getfield 80, 3) := by decide +kernel
theorem dX3_allowLies_35 : decode cX3_allowLies 35 = .ok (.invokevirtual 83, 3) := by decide +kernel
theorem dX3_allowLies_38 : decode cX3_allowLies 38 = .ok (.iload_n 1, 1) := by decide +kernel
theorem dX3_allowLies_39 : decode cX3_allowLies 39 = .ok (.if_icmp .le 13, 3) := by decide +kernel
theorem dX3_allowLies_42 : decode cX3_allowLies 42 = .ok (.new 87, 3) := by decide +kernel
theorem dX3_allowLies_45 : decode cX3_allowLies 45 = .ok (.dup, 1) := by decide +kernel
theorem dX3_allowLies_46 : decode cX3_allowLies 46 = .ok (.ldc 89, 2) := by decide +kernel
theorem dX3_allowLies_48 : decode cX3_allowLies 48 = .ok (.invokespecial 91, 3) := by decide +kernel
theorem dX3_allowLies_51 : decode cX3_allowLies 51 = .ok (.athrow, 1) := by decide +kernel
theorem dX3_allowLies_52 : decode cX3_allowLies 52 = .ok (.aload_n 0, 1) := by decide +kernel
theorem dX3_allowLies_53 : decode cX3_allowLies 53 = .ok (.getfield 92, 3) := by decide +kernel
theorem dX3_allowLies_56 : decode cX3_allowLies 56 = .ok (.istore_n 2, 1) := by decide +kernel
theorem dX3_allowLies_57 : decode cX3_allowLies 57 = .ok (.aload_n 0, 1) := by decide +kernel
theorem dX3_allowLies_58 : decode cX3_allowLies 58 = .ok (.iload_n 1, 1) := by decide +kernel
theorem dX3_allowLies_59 : decode cX3_allowLies 59 = .ok (.putfield 92, 3) := by decide +kernel
theorem dX3_allowLies_62 : decode cX3_allowLies 62 = .ok (.aload_n 0, 1) := by decide +kernel
theorem dX3_allowLies_63 : decode cX3_allowLies 63 = .ok (.invokevirtual 95, 3) := by decide +kernel
theorem dX3_allowLies_66 : decode cX3_allowLies 66 = .ok (.iload_n 2, 1) := by decide +kernel
theorem dX3_allowLies_67 : decode cX3_allowLies 67 = .ok (.ireturn, 1) := by decide +kernel
set_option maxRecDepth 20000 in
theorem ggX3_tellNothing_X0_forgetAll : GoodIn wsX3_tellNothing wsX0_forgetAll := goodIn_r _ [8, 9, 10, 11, 12, 13, 14, 62, 63, 64, 65, 66] (by decide +kernel) (by decide +kernel)
set_option maxRecDepth 20000 in
theorem gX3_tellNothing_X0_forgetAll : GoodIn wsX3_tellNothing (wsV RX3 98 RX0 yX0_forgetAll wsX0_forgetAll) := goodIn_app (goodIn_of _ (by decide +kernel)) ggX3_tellNothing_X0_forgetAll
set_option maxRecDepth 20000 in
theorem ggX3_tellNothing_X3_listRowsLeft : GoodIn wsX3_tellNothing wsX3_listRowsLeft := goodIn_r _ [19, 20, 21, 22, 23, 24, 25, 26, 18, 27, 1, 2, 28, 29, 30, 7, 31, 32, 33, 34, 35, 9, 36, 37, 38, 39, 40, 10, 41, 42, 43, 44, 45, 46, 47, 48, 49, 50, 51, 52, 53, 54, 55, 56, 57, 58, 59, 60, 61, 67, 68, 69, 70, 71, 62, 63, 64, 65, 66] (by decide +kernel) (by decide +kernel)
set_option maxRecDepth 20000 in
theorem gX3_tellNothing_X3_listRowsLeft : GoodIn wsX3_tellNothing (wsV RX3 95 RX3 yX3_listRowsLeft wsX3_listRowsLeft) := goodIn_app (goodIn_of _ (by decide +kernel)) ggX3_tellNothing_X3_listRowsLeft
theorem dX3_tellNothing_0 : decode cX3_tellNothing 0 = .ok (.aload_n 0, 1) := by decide +kernel
theorem dX3_tellNothing_1 : decode cX3_tellNothing 1 = .ok (.getfield 21, 3) := by decide +kernel
theorem dX3_tellNothing_4 : decode cX3_tellNothing 4 = .ok (.invokevirtual 98, 3) := by decide +kernel
theorem dX3_tellNothing_7 : decode cX3_tellNothing 7 = .ok (.aload_n 0, 1) := by decide +kernel
theorem dX3_tellNothing_8 : decode cX3_tellNothing 8 = .ok (.iconst 0, 1) := by decide +kernel
theorem dX3_tellNothing_9 : decode cX3_tellNothing 9 = .ok (.putfield 92, 3) := by decide +kernel
theorem dX3_tellNothing_12 : decode cX3_tellNothing 12 = .ok (.aload_n 0, 1) := by decide +kernel
theorem dX3_tellNothing_13 : decode cX3_tellNothing 13 = .ok (.iconst (-1), 1) := by decide +kernel
theorem dX3_tellNothing_14 : decode cX3_tellNothing 14 = .ok (.putfield 80, 3) := by decide +kernel
theorem dX3_tellNothing_17 : decode cX3_tellNothing 17 = .ok (.aload_n 0, 1) := by decide +kernel
theorem dX3_tellNothing_18 : decode cX3_tellNothing 18 = .ok (.invokevirtual 95, 3) := by decide +kernel
theorem dX3_tellNothing_21 : decode cX3_tellNothing 21 = .ok (.return_, 1) := by decide +kernel
set_option maxRecDepth 20000 in
theorem ggX3_requireRow_X1_has : GoodIn wsX3_requireRow wsX1_has := goodIn_r _ [8, 9, 18, 19, 20, 21, 22] (by decide +kernel) (by decide +kernel)
set_option maxRecDepth 20000 in
theorem gX3_requireRow_X1_has : GoodIn wsX3_requireRow (wsV RX3 57 RX1 yX1_has wsX1_has) := goodIn_app (goodIn_of _ (by decide +kernel)) ggX3_requireRow_X1_has
theorem dX3_requireRow_0 : decode cX3_requireRow 0 = .ok (.aload_n 0, 1) := by decide +kernel
theorem dX3_requireRow_1 : decode cX3_requireRow 1 = .ok (.getfield 12, 3) := by decide +kernel
theorem dX3_requireRow_4 : decode cX3_requireRow 4 = .ok (.iload_n 1, 1) := by decide +kernel
theorem dX3_requireRow_5 : decode cX3_requireRow 5 = .ok (.invokevirtual 57, 3) := by decide +kernel
theorem dX3_requireRow_8 : decode cX3_requireRow 8 = .ok (.ifCond .ne 13, 3) := by decide +kernel
theorem dX3_requireRow_11 : decode cX3_requireRow 11 = .ok (.new 64, 3) := by decide +kernel
theorem dX3_requireRow_14 : decode cX3_requireRow 14 = .ok (.dup, 1) := by decide +kernel
theorem dX3_requireRow_15 : decode cX3_requireRow 15 = .ok (.ldc 73, 2) := by decide +kernel
theorem dX3_requireRow_17 : decode cX3_requireRow 17 = .ok (.invokespecial 68, 3) := by decide +kernel
theorem dX3_requireRow_20 : decode cX3_requireRow 20 = .ok (.athrow, 1) := by decide +kernel
theorem dX3_requireRow_21 : decode cX3_requireRow 21 = .ok (.return_, 1) := by decide +kernel
set_option maxRecDepth 20000 in
theorem ggX3_requirePossible_X1_allows : GoodIn wsX3_requirePossible wsX1_allows := goodIn_r _ [8, 9, 18, 19, 20, 21, 22] (by decide +kernel) (by decide +kernel)
set_option maxRecDepth 20000 in
theorem gX3_requirePossible_X1_allows : GoodIn wsX3_requirePossible (wsV RX3 101 RX1 yX1_allows wsX1_allows) := goodIn_app (goodIn_of _ (by decide +kernel)) ggX3_requirePossible_X1_allows
theorem dX3_requirePossible_0 : decode cX3_requirePossible 0 = .ok (.aload_n 0, 1) := by decide +kernel
theorem dX3_requirePossible_1 : decode cX3_requirePossible 1 = .ok (.getfield 12, 3) := by decide +kernel
theorem dX3_requirePossible_4 : decode cX3_requirePossible 4 = .ok (.iload_n 1, 1) := by decide +kernel
theorem dX3_requirePossible_5 : decode cX3_requirePossible 5 = .ok (.invokevirtual 101, 3) := by decide +kernel
theorem dX3_requirePossible_8 : decode cX3_requirePossible 8 = .ok (.ifCond .ne 13, 3) := by decide +kernel
theorem dX3_requirePossible_11 : decode cX3_requirePossible 11 = .ok (.new 46, 3) := by decide +kernel
theorem dX3_requirePossible_14 : decode cX3_requirePossible 14 = .ok (.dup, 1) := by decide +kernel
theorem dX3_requirePossible_15 : decode cX3_requirePossible 15 = .ok (.ldc 104, 2) := by decide +kernel
theorem dX3_requirePossible_17 : decode cX3_requirePossible 17 = .ok (.invokespecial 50, 3) := by decide +kernel
theorem dX3_requirePossible_20 : decode cX3_requirePossible 20 = .ok (.athrow, 1) := by decide +kernel
theorem dX3_requirePossible_21 : decode cX3_requirePossible 21 = .ok (.return_, 1) := by decide +kernel
set_option maxRecDepth 20000 in
theorem ggX3_hide_X3_requireRow : GoodIn wsX3_hide wsX3_requireRow := goodIn_ca (goodIn_r _ [8, 9, 10, 11, 12, 13, 14, 15, 16, 17, 48, 49, 50, 51, 52, 53, 54, 55, 56, 57, 58, 59, 60] (by decide +kernel) (by decide +kernel)) (goodIn_sub (fun _ h => List.mem_cons_of_mem _ (List.mem_append_right _ h)) (by decide +kernel))
set_option maxRecDepth 20000 in
theorem gX3_hide_X3_requireRow : GoodIn wsX3_hide (wsV RX3 106 RX3 yX3_requireRow wsX3_requireRow) := goodIn_app (goodIn_of _ (by decide +kernel)) ggX3_hide_X3_requireRow
set_option maxRecDepth 20000 in
theorem ggX3_hide_X3_remains : GoodIn wsX3_hide wsX3_remains := goodIn_r _ [21, 22, 23, 24, 25, 26, 27, 28, 29, 30, 31, 32, 33, 34, 35, 36, 37, 38, 39, 40, 13, 14, 15, 16, 17, 41, 42, 43, 44, 45, 46, 47, 48, 49, 50, 51, 52, 53, 54, 55, 61, 62, 63, 64, 65, 56, 57, 58, 59, 60] (by decide +kernel) (by decide +kernel)
set_option maxRecDepth 20000 in
theorem gX3_hide_X3_remains : GoodIn wsX3_hide (wsV RX3 110 RX3 yX3_remains wsX3_remains) := goodIn_app (goodIn_of _ (by decide +kernel)) ggX3_hide_X3_remains
theorem dX3_hide_0 : decode cX3_hide 0 = .ok (.aload_n 0, 1) := by decide +kernel
theorem dX3_hide_1 : decode cX3_hide 1 = .ok (.iload_n 1, 1) := by decide +kernel
theorem dX3_hide_2 : decode cX3_hide 2 = .ok (.invokevirtual 106, 3) := by decide +kernel
theorem dX3_hide_5 : decode cX3_hide 5 = .ok (.aload_n 0, 1) := by decide +kernel
theorem dX3_hide_6 : decode cX3_hide 6 = .ok (.iload_n 1, 1) := by decide +kernel
theorem dX3_hide_7 : decode cX3_hide 7 = .ok (.invokevirtual 110, 3) := by decide +kernel
theorem dX3_hide_10 : decode cX3_hide 10 = .ok (.ifCond .ne 13, 3) := by decide +kernel
theorem dX3_hide_13 : decode cX3_hide 13 = .ok (.new 87, 3) := by decide +kernel
theorem dX3_hide_16 : decode cX3_hide 16 = .ok (.dup, 1) := by decide +kernel
theorem dX3_hide_17 : decode cX3_hide 17 = .ok (.ldc 113, 2) := by decide +kernel
theorem dX3_hide_19 : decode cX3_hide 19 = .ok (.invokespecial 91, 3) := by decide +kernel
theorem dX3_hide_22 : decode cX3_hide 22 = .ok (.athrow, 1) := by decide +kernel
theorem dX3_hide_23 : decode cX3_hide 23 = .ok (.aload_n 0, 1) := by decide +kernel
theorem dX3_hide_24 : decode cX3_hide 24 = .ok (.getfield 80, 3) := by decide +kernel
theorem dX3_hide_27 : decode cX3_hide 27 = .ok (.iconst (-1), 1) := by decide +kernel
theorem dX3_hide_28 : decode cX3_hide 28 = .ok (.if_icmp .eq 7, 3) := by decide +kernel
theorem dX3_hide_31 : decode cX3_hide 31 = .ok (.iconst 1, 1) := by decide +kernel
theorem dX3_hide_32 : decode cX3_hide 32 = .ok (.goto 4, 3) := by decide +kernel
theorem dX3_hide_35 : decode cX3_hide 35 = .ok (.iconst 0, 1) := by decide +kernel
theorem dX3_hide_36 : decode cX3_hide 36 = .ok (.istore_n 2, 1) := by decide +kernel
theorem dX3_hide_37 : decode cX3_hide 37 = .ok (.aload_n 0, 1) := by decide +kernel
theorem dX3_hide_38 : decode cX3_hide 38 = .ok (.iload_n 1, 1) := by decide +kernel
theorem dX3_hide_39 : decode cX3_hide 39 = .ok (.putfield 80, 3) := by decide +kernel
theorem dX3_hide_42 : decode cX3_hide 42 = .ok (.iload_n 2, 1) := by decide +kernel
theorem dX3_hide_43 : decode cX3_hide 43 = .ok (.ireturn, 1) := by decide +kernel
set_option maxRecDepth 20000 in
theorem ggX3_guess_X3_requireRow : GoodIn wsX3_guess wsX3_requireRow := goodIn_ca (goodIn_r _ [10, 11, 12, 5, 13, 14, 15, 16, 17, 18, 89, 90, 91, 92, 93, 94, 95, 96, 97, 98, 99, 100, 101] (by decide +kernel) (by decide +kernel)) (goodIn_sub (fun _ h => List.mem_cons_of_mem _ (List.mem_append_right _ h)) (by decide +kernel))
set_option maxRecDepth 20000 in
theorem gX3_guess_X3_requireRow : GoodIn wsX3_guess (wsV RX3 106 RX3 yX3_requireRow wsX3_requireRow) := goodIn_app (goodIn_of _ (by decide +kernel)) ggX3_guess_X3_requireRow
set_option maxRecDepth 20000 in
theorem ggX3_guess_X0_isFull : GoodIn wsX3_guess wsX0_isFull := goodIn_r _ [23, 24, 102, 103, 104, 105, 106] (by decide +kernel) (by decide +kernel)
set_option maxRecDepth 20000 in
theorem gX3_guess_X0_isFull : GoodIn wsX3_guess (wsV RX3 115 RX0 yX0_isFull wsX0_isFull) := goodIn_app (goodIn_of _ (by decide +kernel)) ggX3_guess_X0_isFull
set_option maxRecDepth 20000 in
theorem ggX3_guess_X1_compare : GoodIn wsX3_guess wsX1_compare := goodIn_r _ [28, 29, 30, 31, 32, 33, 14, 15, 16, 17, 18, 34, 35, 36, 37, 38, 39, 40, 41, 42, 43, 44, 45, 46, 47, 97, 98, 99, 100, 101] (by decide +kernel) (by decide +kernel)
set_option maxRecDepth 20000 in
theorem gX3_guess_X1_compare : GoodIn wsX3_guess (wsV RX3 75 RX1 yX1_compare wsX1_compare) := goodIn_app (goodIn_of _ (by decide +kernel)) ggX3_guess_X1_compare
set_option maxRecDepth 20000 in
theorem ggX3_guess_X3_addEntry : GoodIn wsX3_guess wsX3_addEntry := goodIn_r _ [51, 4, 52, 53, 54, 22, 55, 24, 56, 57, 58, 59, 60, 61, 20, 21, 23, 62, 26, 27, 16, 28, 29, 30, 31, 32, 33, 14, 15, 17, 18, 34, 35, 36, 37, 38, 39, 40, 41, 42, 43, 44, 45, 46, 47, 63, 64, 65, 9, 66, 67, 5, 68, 69, 70, 71, 72, 73, 74, 75, 76, 77, 78, 79, 80, 81, 82, 83, 84, 85, 86, 87, 88, 89, 90, 91, 92, 93, 94, 95, 96, 102, 103, 104, 105, 106, 97, 98, 99, 100, 101] (by decide +kernel) (by decide +kernel)
set_option maxRecDepth 20000 in
theorem gX3_guess_X3_addEntry : GoodIn wsX3_guess (wsV RX3 121 RX3 yX3_addEntry wsX3_addEntry) := goodIn_app (goodIn_of _ (by decide +kernel)) ggX3_guess_X3_addEntry
theorem dX3_guess_0 : decode cX3_guess 0 = .ok (.aload_n 0, 1) := by decide +kernel
theorem dX3_guess_1 : decode cX3_guess 1 = .ok (.iload_n 1, 1) := by decide +kernel
theorem dX3_guess_2 : decode cX3_guess 2 = .ok (.invokevirtual 106, 3) := by decide +kernel
theorem dX3_guess_5 : decode cX3_guess 5 = .ok (.aload_n 0, 1) := by decide +kernel
theorem dX3_guess_6 : decode cX3_guess 6 = .ok (.getfield 80, 3) := by decide +kernel
theorem dX3_guess_9 : decode cX3_guess 9 = .ok (.iconst (-1), 1) := by decide +kernel
theorem dX3_guess_10 : decode cX3_guess 10 = .ok (.if_icmp .eq 13, 3) := by decide +kernel
theorem dX3_guess_13 : decode cX3_guess 13 = .ok (.aload_n 0, 1) := by decide +kernel
theorem dX3_guess_14 : decode cX3_guess 14 = .ok (.getfield 21, 3) := by decide +kernel
theorem dX3_guess_17 : decode cX3_guess 17 = .ok (.invokevirtual 115, 3) := by decide +kernel
theorem dX3_guess_20 : decode cX3_guess 20 = .ok (.ifCond .eq 13, 3) := by decide +kernel
theorem dX3_guess_23 : decode cX3_guess 23 = .ok (.new 87, 3) := by decide +kernel
theorem dX3_guess_26 : decode cX3_guess 26 = .ok (.dup, 1) := by decide +kernel
theorem dX3_guess_27 : decode cX3_guess 27 = .ok (.ldc 119, 2) := by decide +kernel
theorem dX3_guess_29 : decode cX3_guess 29 = .ok (.invokespecial 91, 3) := by decide +kernel
theorem dX3_guess_32 : decode cX3_guess 32 = .ok (.athrow, 1) := by decide +kernel
theorem dX3_guess_33 : decode cX3_guess 33 = .ok (.aload_n 0, 1) := by decide +kernel
theorem dX3_guess_34 : decode cX3_guess 34 = .ok (.getfield 12, 3) := by decide +kernel
theorem dX3_guess_37 : decode cX3_guess 37 = .ok (.iload_n 1, 1) := by decide +kernel
theorem dX3_guess_38 : decode cX3_guess 38 = .ok (.aload_n 0, 1) := by decide +kernel
theorem dX3_guess_39 : decode cX3_guess 39 = .ok (.getfield 80, 3) := by decide +kernel
theorem dX3_guess_42 : decode cX3_guess 42 = .ok (.invokevirtual 75, 3) := by decide +kernel
theorem dX3_guess_45 : decode cX3_guess 45 = .ok (.istore_n 2, 1) := by decide +kernel
theorem dX3_guess_46 : decode cX3_guess 46 = .ok (.aload_n 0, 1) := by decide +kernel
theorem dX3_guess_47 : decode cX3_guess 47 = .ok (.iload_n 1, 1) := by decide +kernel
theorem dX3_guess_48 : decode cX3_guess 48 = .ok (.iload_n 2, 1) := by decide +kernel
theorem dX3_guess_49 : decode cX3_guess 49 = .ok (.invokevirtual 121, 3) := by decide +kernel
theorem dX3_guess_52 : decode cX3_guess 52 = .ok (.iload_n 2, 1) := by decide +kernel
theorem dX3_guess_53 : decode cX3_guess 53 = .ok (.ireturn, 1) := by decide +kernel
set_option maxRecDepth 20000 in
theorem ggX3_tell_X3_requireRow : GoodIn wsX3_tell wsX3_requireRow := goodIn_ca (goodIn_r _ [9, 10, 11, 12, 13, 14, 15, 16, 17, 18, 103, 104, 105, 106, 107, 108, 109, 110, 111, 112, 113, 114, 115] (by decide +kernel) (by decide +kernel)) (goodIn_sub (fun _ h => List.mem_cons_of_mem _ (List.mem_append_left _ (List.mem_append_right _ h))) (by decide +kernel))
set_option maxRecDepth 20000 in
theorem gX3_tell_X3_requireRow : GoodIn wsX3_tell (wsV RX3 106 RX3 yX3_requireRow wsX3_requireRow) := goodIn_app (goodIn_of _ (by decide +kernel)) ggX3_tell_X3_requireRow
set_option maxRecDepth 20000 in
theorem ggX3_tell_X3_requirePossible : GoodIn wsX3_tell wsX3_requirePossible := goodIn_ca (goodIn_r _ [22, 23, 24, 12, 25, 26, 27, 16, 28, 29, 103, 104, 105, 106, 107, 108, 109, 110, 111, 112, 113, 114, 115] (by decide +kernel) (by decide +kernel)) (goodIn_sub (fun _ h => List.mem_cons_of_mem _ (List.mem_append_right _ h)) (by decide +kernel))
set_option maxRecDepth 20000 in
theorem gX3_tell_X3_requirePossible : GoodIn wsX3_tell (wsV RX3 125 RX3 yX3_requirePossible wsX3_requirePossible) := goodIn_app (goodIn_of _ (by decide +kernel)) ggX3_tell_X3_requirePossible
set_option maxRecDepth 20000 in
theorem ggX3_tell_X0_isFull : GoodIn wsX3_tell wsX0_isFull := goodIn_r _ [34, 35, 116, 117, 118, 119, 120] (by decide +kernel) (by decide +kernel)
set_option maxRecDepth 20000 in
theorem gX3_tell_X0_isFull : GoodIn wsX3_tell (wsV RX3 115 RX0 yX0_isFull wsX0_isFull) := goodIn_app (goodIn_of _ (by decide +kernel)) ggX3_tell_X0_isFull
set_option maxRecDepth 20000 in
theorem ggX3_tell_X3_wouldLoseHidden : GoodIn wsX3_tell wsX3_wouldLoseHidden := goodIn_r _ [39, 40, 12, 3, 41, 42, 43, 44, 16, 45, 46, 47, 29, 48, 49, 14, 15, 17, 18, 50, 51, 52, 53, 54, 55, 56, 57, 58, 59, 60, 61, 62, 63, 64, 65, 66, 33, 67, 68, 69, 70, 71, 35, 72, 73, 74, 75, 76, 77, 78, 79, 103, 104, 105, 106, 107, 108, 109, 110, 111, 112, 113, 114, 115, 116, 117, 118, 119, 120] (by decide +kernel) (by decide +kernel)
set_option maxRecDepth 20000 in
theorem gX3_tell_X3_wouldLoseHidden : GoodIn wsX3_tell (wsV RX3 128 RX3 yX3_wouldLoseHidden wsX3_wouldLoseHidden) := goodIn_app (goodIn_of _ (by decide +kernel)) ggX3_tell_X3_wouldLoseHidden
set_option maxRecDepth 20000 in
theorem ggX3_tell_X3_addEntry : GoodIn wsX3_tell wsX3_addEntry := goodIn_r _ [83, 3, 84, 85, 86, 33, 87, 35, 88, 89, 76, 90, 77, 91, 31, 32, 34, 92, 43, 44, 16, 45, 46, 47, 29, 48, 49, 14, 15, 17, 18, 50, 51, 52, 53, 54, 55, 56, 57, 58, 59, 60, 61, 62, 63, 93, 94, 95, 8, 96, 4, 12, 97, 98, 99, 100, 101, 102, 41, 64, 65, 66, 67, 68, 69, 70, 71, 72, 73, 74, 75, 78, 79, 103, 104, 105, 106, 107, 108, 109, 110, 116, 117, 118, 119, 120, 111, 112, 113, 114, 115] (by decide +kernel) (by decide +kernel)
set_option maxRecDepth 20000 in
theorem gX3_tell_X3_addEntry : GoodIn wsX3_tell (wsV RX3 121 RX3 yX3_addEntry wsX3_addEntry) := goodIn_app (goodIn_of _ (by decide +kernel)) ggX3_tell_X3_addEntry
theorem dX3_tell_0 : decode cX3_tell 0 = .ok (.aload_n 0, 1) := by decide +kernel
theorem dX3_tell_1 : decode cX3_tell 1 = .ok (.iload_n 1, 1) := by decide +kernel
theorem dX3_tell_2 : decode cX3_tell 2 = .ok (.invokevirtual 106, 3) := by decide +kernel
theorem dX3_tell_5 : decode cX3_tell 5 = .ok (.aload_n 0, 1) := by decide +kernel
theorem dX3_tell_6 : decode cX3_tell 6 = .ok (.iload_n 2, 1) := by decide +kernel
theorem dX3_tell_7 : decode cX3_tell 7 = .ok (.invokevirtual 125, 3) := by decide +kernel
theorem dX3_tell_10 : decode cX3_tell 10 = .ok (.aload_n 0, 1) := by decide +kernel
theorem dX3_tell_11 : decode cX3_tell 11 = .ok (.getfield 21, 3) := by decide +kernel
theorem dX3_tell_14 : decode cX3_tell 14 = .ok (.invokevirtual 115, 3) := by decide +kernel
theorem dX3_tell_17 : decode cX3_tell 17 = .ok (.ifCond .ne 12, 3) := by decide +kernel
theorem dX3_tell_20 : decode cX3_tell 20 = .ok (.aload_n 0, 1) := by decide +kernel
theorem dX3_tell_21 : decode cX3_tell 21 = .ok (.iload_n 1, 1) := by decide +kernel
theorem dX3_tell_22 : decode cX3_tell 22 = .ok (.iload_n 2, 1) := by decide +kernel
theorem dX3_tell_23 : decode cX3_tell 23 = .ok (.invokevirtual 128, 3) := by decide +kernel
theorem dX3_tell_26 : decode cX3_tell 26 = .ok (.ifCond .eq 13, 3) := by decide +kernel
theorem dX3_tell_29 : decode cX3_tell 29 = .ok (.new 87, 3) := by decide +kernel
theorem dX3_tell_32 : decode cX3_tell 32 = .ok (.dup, 1) := by decide +kernel
theorem dX3_tell_33 : decode cX3_tell 33 = .ok (.ldc 131, 2) := by decide +kernel
theorem dX3_tell_35 : decode cX3_tell 35 = .ok (.invokespecial 91, 3) := by decide +kernel
theorem dX3_tell_38 : decode cX3_tell 38 = .ok (.athrow, 1) := by decide +kernel
theorem dX3_tell_39 : decode cX3_tell 39 = .ok (.aload_n 0, 1) := by decide +kernel
theorem dX3_tell_40 : decode cX3_tell 40 = .ok (.iload_n 1, 1) := by decide +kernel
theorem dX3_tell_41 : decode cX3_tell 41 = .ok (.iload_n 2, 1) := by decide +kernel
theorem dX3_tell_42 : decode cX3_tell 42 = .ok (.invokevirtual 121, 3) := by decide +kernel
theorem dX3_tell_45 : decode cX3_tell 45 = .ok (.aload_n 0, 1) := by decide +kernel
theorem dX3_tell_46 : decode cX3_tell 46 = .ok (.getfield 133, 3) := by decide +kernel
theorem dX3_tell_49 : decode cX3_tell 49 = .ok (.ireturn, 1) := by decide +kernel
set_option maxRecDepth 20000 in
theorem ggX3_takeBack_X0_dropLatest : GoodIn wsX3_takeBack wsX0_dropLatest := goodIn_r _ [10, 11, 12, 13, 14, 61, 62, 63, 64, 65, 66, 67, 68, 69, 70] (by decide +kernel) (by decide +kernel)
set_option maxRecDepth 20000 in
theorem gX3_takeBack_X0_dropLatest : GoodIn wsX3_takeBack (wsV RX3 141 RX0 yX0_dropLatest wsX0_dropLatest) := goodIn_app (goodIn_of _ (by decide +kernel)) ggX3_takeBack_X0_dropLatest
set_option maxRecDepth 20000 in
theorem ggX3_takeBack_X3_listRowsLeft : GoodIn wsX3_takeBack wsX3_listRowsLeft := goodIn_r _ [19, 5, 20, 21, 22, 23, 24, 25, 18, 26, 3, 27, 28, 29, 30, 9, 31, 32, 33, 34, 35, 11, 36, 37, 38, 39, 12, 14, 40, 41, 42, 43, 44, 45, 46, 47, 48, 49, 50, 51, 52, 53, 54, 55, 56, 57, 58, 59, 60, 66, 67, 68, 69, 70, 61, 62, 63, 64, 65] (by decide +kernel) (by decide +kernel)
set_option maxRecDepth 20000 in
theorem gX3_takeBack_X3_listRowsLeft : GoodIn wsX3_takeBack (wsV RX3 95 RX3 yX3_listRowsLeft wsX3_listRowsLeft) := goodIn_app (goodIn_of _ (by decide +kernel)) ggX3_takeBack_X3_listRowsLeft
theorem dX3_takeBack_0 : decode cX3_takeBack 0 = .ok (.aload_n 0, 1) := by decide +kernel
theorem dX3_takeBack_1 : decode cX3_takeBack 1 = .ok (.getfield 21, 3) := by decide +kernel
theorem dX3_takeBack_4 : decode cX3_takeBack 4 = .ok (.getfield 136, 3) := by decide +kernel
theorem dX3_takeBack_7 : decode cX3_takeBack 7 = .ok (.ifCond .ne 13, 3) := by decide +kernel
theorem dX3_takeBack_10 : decode cX3_takeBack 10 = .ok (.new 87, 3) := by decide +kernel
theorem dX3_takeBack_13 : decode cX3_takeBack 13 = .ok (.dup, 1) := by decide +kernel
theorem dX3_takeBack_14 : decode cX3_takeBack 14 = .ok (.ldc 139, 2) := by decide +kernel
theorem dX3_takeBack_16 : decode cX3_takeBack 16 = .ok (.invokespecial 91, 3) := by decide +kernel
theorem dX3_takeBack_19 : decode cX3_takeBack 19 = .ok (.athrow, 1) := by decide +kernel
theorem dX3_takeBack_20 : decode cX3_takeBack 20 = .ok (.aload_n 0, 1) := by decide +kernel
theorem dX3_takeBack_21 : decode cX3_takeBack 21 = .ok (.getfield 21, 3) := by decide +kernel
theorem dX3_takeBack_24 : decode cX3_takeBack 24 = .ok (.invokevirtual 141, 3) := by decide +kernel
theorem dX3_takeBack_27 : decode cX3_takeBack 27 = .ok (.aload_n 0, 1) := by decide +kernel
theorem dX3_takeBack_28 : decode cX3_takeBack 28 = .ok (.invokevirtual 95, 3) := by decide +kernel
theorem dX3_takeBack_31 : decode cX3_takeBack 31 = .ok (.aload_n 0, 1) := by decide +kernel
theorem dX3_takeBack_32 : decode cX3_takeBack 32 = .ok (.getfield 133, 3) := by decide +kernel
theorem dX3_takeBack_35 : decode cX3_takeBack 35 = .ok (.ireturn, 1) := by decide +kernel
theorem dX3_entries_0 : decode cX3_entries 0 = .ok (.aload_n 0, 1) := by decide +kernel
theorem dX3_entries_1 : decode cX3_entries 1 = .ok (.getfield 21, 3) := by decide +kernel
theorem dX3_entries_4 : decode cX3_entries 4 = .ok (.getfield 136, 3) := by decide +kernel
theorem dX3_entries_7 : decode cX3_entries 7 = .ok (.ireturn, 1) := by decide +kernel
set_option maxRecDepth 20000 in
theorem ggX3_guessOf_X3_requireEntry : GoodIn wsX3_guessOf wsX3_requireEntry := goodIn_ca (goodIn_r _ [6, 7, 8, 1, 9, 10, 11, 12, 13, 14, 21, 22, 23, 24, 25, 26, 27, 28, 29, 30, 31, 32, 33] (by decide +kernel) (by decide +kernel)) (goodIn_sub (fun _ h => List.mem_cons_of_mem _ (List.mem_append_right _ h)) (by decide +kernel))
set_option maxRecDepth 20000 in
theorem gX3_guessOf_X3_requireEntry : GoodIn wsX3_guessOf (wsV RX3 144 RX3 yX3_requireEntry wsX3_requireEntry) := goodIn_app (goodIn_of _ (by decide +kernel)) ggX3_guessOf_X3_requireEntry
set_option maxRecDepth 20000 in
theorem ggX3_guessOf_X0_guessAt : GoodIn wsX3_guessOf wsX0_guessAt := goodIn_r _ [18, 19, 20, 10, 11, 12, 13, 14, 29, 30, 31, 32, 33] (by decide +kernel) (by decide +kernel)
set_option maxRecDepth 20000 in
theorem gX3_guessOf_X0_guessAt : GoodIn wsX3_guessOf (wsV RX3 147 RX0 yX0_guessAt wsX0_guessAt) := goodIn_app (goodIn_of _ (by decide +kernel)) ggX3_guessOf_X0_guessAt
theorem dX3_guessOf_0 : decode cX3_guessOf 0 = .ok (.aload_n 0, 1) := by decide +kernel
theorem dX3_guessOf_1 : decode cX3_guessOf 1 = .ok (.iload_n 1, 1) := by decide +kernel
theorem dX3_guessOf_2 : decode cX3_guessOf 2 = .ok (.invokevirtual 144, 3) := by decide +kernel
theorem dX3_guessOf_5 : decode cX3_guessOf 5 = .ok (.aload_n 0, 1) := by decide +kernel
theorem dX3_guessOf_6 : decode cX3_guessOf 6 = .ok (.getfield 21, 3) := by decide +kernel
theorem dX3_guessOf_9 : decode cX3_guessOf 9 = .ok (.iload_n 1, 1) := by decide +kernel
theorem dX3_guessOf_10 : decode cX3_guessOf 10 = .ok (.invokevirtual 147, 3) := by decide +kernel
theorem dX3_guessOf_13 : decode cX3_guessOf 13 = .ok (.ireturn, 1) := by decide +kernel
set_option maxRecDepth 20000 in
theorem ggX3_markOf_X3_requireEntry : GoodIn wsX3_markOf wsX3_requireEntry := goodIn_ca (goodIn_r _ [6, 7, 8, 1, 9, 10, 11, 12, 13, 14, 21, 22, 23, 24, 25, 26, 27, 28, 29, 30, 31, 32, 33] (by decide +kernel) (by decide +kernel)) (goodIn_sub (fun _ h => List.mem_cons_of_mem _ (List.mem_append_right _ h)) (by decide +kernel))
set_option maxRecDepth 20000 in
theorem gX3_markOf_X3_requireEntry : GoodIn wsX3_markOf (wsV RX3 144 RX3 yX3_requireEntry wsX3_requireEntry) := goodIn_app (goodIn_of _ (by decide +kernel)) ggX3_markOf_X3_requireEntry
set_option maxRecDepth 20000 in
theorem ggX3_markOf_X0_markAt : GoodIn wsX3_markOf wsX0_markAt := goodIn_r _ [18, 19, 20, 10, 11, 12, 13, 14, 29, 30, 31, 32, 33] (by decide +kernel) (by decide +kernel)
set_option maxRecDepth 20000 in
theorem gX3_markOf_X0_markAt : GoodIn wsX3_markOf (wsV RX3 150 RX0 yX0_markAt wsX0_markAt) := goodIn_app (goodIn_of _ (by decide +kernel)) ggX3_markOf_X0_markAt
theorem dX3_markOf_0 : decode cX3_markOf 0 = .ok (.aload_n 0, 1) := by decide +kernel
theorem dX3_markOf_1 : decode cX3_markOf 1 = .ok (.iload_n 1, 1) := by decide +kernel
theorem dX3_markOf_2 : decode cX3_markOf 2 = .ok (.invokevirtual 144, 3) := by decide +kernel
theorem dX3_markOf_5 : decode cX3_markOf 5 = .ok (.aload_n 0, 1) := by decide +kernel
theorem dX3_markOf_6 : decode cX3_markOf 6 = .ok (.getfield 21, 3) := by decide +kernel
theorem dX3_markOf_9 : decode cX3_markOf 9 = .ok (.iload_n 1, 1) := by decide +kernel
theorem dX3_markOf_10 : decode cX3_markOf 10 = .ok (.invokevirtual 150, 3) := by decide +kernel
theorem dX3_markOf_13 : decode cX3_markOf 13 = .ok (.ireturn, 1) := by decide +kernel
set_option maxRecDepth 20000 in
theorem ggX3_liesAbout_X3_requireRow : GoodIn wsX3_liesAbout wsX3_requireRow := goodIn_ca (goodIn_r _ [6, 7, 8, 9, 10, 11, 12, 13, 14, 15, 40, 41, 42, 43, 44, 45, 46, 47, 48, 49, 50, 51, 52] (by decide +kernel) (by decide +kernel)) (goodIn_sub (fun _ h => List.mem_cons_of_mem _ (List.mem_append_right _ h)) (by decide +kernel))
set_option maxRecDepth 20000 in
theorem gX3_liesAbout_X3_requireRow : GoodIn wsX3_liesAbout (wsV RX3 106 RX3 yX3_requireRow wsX3_requireRow) := goodIn_app (goodIn_of _ (by decide +kernel)) ggX3_liesAbout_X3_requireRow
set_option maxRecDepth 20000 in
theorem ggX3_liesAbout_X0_countLies : GoodIn wsX3_liesAbout wsX0_countLies := goodIn_r _ [20, 21, 22, 23, 19, 24, 25, 26, 27, 28, 29, 30, 31, 32, 11, 12, 13, 14, 15, 33, 34, 35, 36, 37, 38, 39, 53, 54, 55, 56, 57, 48, 49, 50, 51, 52] (by decide +kernel) (by decide +kernel)
set_option maxRecDepth 20000 in
theorem gX3_liesAbout_X0_countLies : GoodIn wsX3_liesAbout (wsV RX3 83 RX0 yX0_countLies wsX0_countLies) := goodIn_app (goodIn_of _ (by decide +kernel)) ggX3_liesAbout_X0_countLies
theorem dX3_liesAbout_0 : decode cX3_liesAbout 0 = .ok (.aload_n 0, 1) := by decide +kernel
theorem dX3_liesAbout_1 : decode cX3_liesAbout 1 = .ok (.iload_n 1, 1) := by decide +kernel
theorem dX3_liesAbout_2 : decode cX3_liesAbout 2 = .ok (.invokevirtual 106, 3) := by decide +kernel
theorem dX3_liesAbout_5 : decode cX3_liesAbout 5 = .ok (.aload_n 0, 1) := by decide +kernel
theorem dX3_liesAbout_6 : decode cX3_liesAbout 6 = .ok (.getfield 21, 3) := by decide +kernel
theorem dX3_liesAbout_9 : decode cX3_liesAbout 9 = .ok (.iload_n 1, 1) := by decide +kernel
theorem dX3_liesAbout_10 : decode cX3_liesAbout 10 = .ok (.invokevirtual 83, 3) := by decide +kernel
theorem dX3_liesAbout_13 : decode cX3_liesAbout 13 = .ok (.ireturn, 1) := by decide +kernel
set_option maxRecDepth 20000 in
theorem ggX3_requireEntry_X0_has : GoodIn wsX3_requireEntry wsX0_has := goodIn_r _ [8, 9, 18, 19, 20, 21, 22] (by decide +kernel) (by decide +kernel)
set_option maxRecDepth 20000 in
theorem gX3_requireEntry_X0_has : GoodIn wsX3_requireEntry (wsV RX3 153 RX0 yX0_has wsX0_has) := goodIn_app (goodIn_of _ (by decide +kernel)) ggX3_requireEntry_X0_has
theorem dX3_requireEntry_0 : decode cX3_requireEntry 0 = .ok (.aload_n 0, 1) := by decide +kernel
theorem dX3_requireEntry_1 : decode cX3_requireEntry 1 = .ok (.getfield 21, 3) := by decide +kernel
theorem dX3_requireEntry_4 : decode cX3_requireEntry 4 = .ok (.iload_n 1, 1) := by decide +kernel
theorem dX3_requireEntry_5 : decode cX3_requireEntry 5 = .ok (.invokevirtual 153, 3) := by decide +kernel
theorem dX3_requireEntry_8 : decode cX3_requireEntry 8 = .ok (.ifCond .ne 13, 3) := by decide +kernel
theorem dX3_requireEntry_11 : decode cX3_requireEntry 11 = .ok (.new 64, 3) := by decide +kernel
theorem dX3_requireEntry_14 : decode cX3_requireEntry 14 = .ok (.dup, 1) := by decide +kernel
theorem dX3_requireEntry_15 : decode cX3_requireEntry 15 = .ok (.ldc 154, 2) := by decide +kernel
theorem dX3_requireEntry_17 : decode cX3_requireEntry 17 = .ok (.invokespecial 68, 3) := by decide +kernel
theorem dX3_requireEntry_20 : decode cX3_requireEntry 20 = .ok (.athrow, 1) := by decide +kernel
theorem dX3_requireEntry_21 : decode cX3_requireEntry 21 = .ok (.return_, 1) := by decide +kernel
set_option maxRecDepth 20000 in
theorem ggX3_wouldLoseHidden_X1_compare : GoodIn wsX3_wouldLoseHidden wsX1_compare := goodIn_r _ [9, 10, 11, 12, 13, 14, 15, 16, 8, 17, 18, 19, 20, 21, 22, 23, 24, 25, 26, 27, 28, 29, 30, 31, 32, 59, 60, 61, 62, 63] (by decide +kernel) (by decide +kernel)
set_option maxRecDepth 20000 in
theorem gX3_wouldLoseHidden_X1_compare : GoodIn wsX3_wouldLoseHidden (wsV RX3 75 RX1 yX1_compare wsX1_compare) := goodIn_app (goodIn_of _ (by decide +kernel)) ggX3_wouldLoseHidden_X1_compare
set_option maxRecDepth 20000 in
theorem ggX3_wouldLoseHidden_X0_countLies : GoodIn wsX3_wouldLoseHidden wsX0_countLies := goodIn_r _ [37, 38, 39, 40, 36, 41, 42, 43, 44, 45, 46, 47, 48, 49, 15, 16, 8, 17, 18, 50, 20, 21, 22, 23, 24, 25, 64, 65, 66, 67, 68, 59, 60, 61, 62, 63] (by decide +kernel) (by decide +kernel)
set_option maxRecDepth 20000 in
theorem gX3_wouldLoseHidden_X0_countLies : GoodIn wsX3_wouldLoseHidden (wsV RX3 83 RX0 yX0_countLies wsX0_countLies) := goodIn_app (goodIn_of _ (by decide +kernel)) ggX3_wouldLoseHidden_X0_countLies
theorem dX3_wouldLoseHidden_0 : decode cX3_wouldLoseHidden 0 = .ok (.aload_n 0, 1) := by decide +kernel
theorem dX3_wouldLoseHidden_1 : decode cX3_wouldLoseHidden 1 = .ok (.getfield 80, 3) := by decide +kernel
theorem dX3_wouldLoseHidden_4 : decode cX3_wouldLoseHidden 4 = .ok (.iconst (-1), 1) := by decide +kernel
theorem dX3_wouldLoseHidden_5 : decode cX3_wouldLoseHidden 5 = .ok (.if_icmp .eq 41, 3) := by decide +kernel
theorem dX3_wouldLoseHidden_8 : decode cX3_wouldLoseHidden 8 = .ok (.aload_n 0, 1) := by decide +kernel
theorem dX3_wouldLoseHidden_9 : decode cX3_wouldLoseHidden 9 = .ok (.getfield 12, 3) := by decide +kernel
theorem dX3_wouldLoseHidden_12 : decode cX3_wouldLoseHidden 12 = .ok (.iload_n 1, 1) := by decide +kernel
theorem dX3_wouldLoseHidden_13 : decode cX3_wouldLoseHidden 13 = .ok (.aload_n 0, 1) := by decide +kernel
theorem dX3_wouldLoseHidden_14 : decode cX3_wouldLoseHidden 14 = .ok (.getfield 80, 3) := by decide +kernel
theorem dX3_wouldLoseHidden_17 : decode cX3_wouldLoseHidden 17 = .ok (.invokevirtual 75, 3) := by decide +kernel
theorem dX3_wouldLoseHidden_20 : decode cX3_wouldLoseHidden 20 = .ok (.iload_n 2, 1) := by decide +kernel
theorem dX3_wouldLoseHidden_21 : decode cX3_wouldLoseHidden 21 = .ok (.if_icmp .eq 25, 3) := by decide +kernel
theorem dX3_wouldLoseHidden_24 : decode cX3_wouldLoseHidden 24 = .ok (.aload_n 0, 1) := by decide +kernel
theorem dX3_wouldLoseHidden_25 : decode cX3_wouldLoseHidden 25 = .ok (.getfield 21, 3) := by decide +kernel
theorem dX3_wouldLoseHidden_28 : decode cX3_wouldLoseHidden 28 = .ok (.aload_n 0, 1) := by decide +kernel
theorem dX3_wouldLoseHidden_29 : decode cX3_wouldLoseHidden 29 = .ok (.getfield 80, 3) := by decide +kernel
theorem dX3_wouldLoseHidden_32 : decode cX3_wouldLoseHidden 32 = .ok (.invokevirtual 83, 3) := by decide +kernel
theorem dX3_wouldLoseHidden_35 : decode cX3_wouldLoseHidden 35 = .ok (.aload_n 0, 1) := by decide +kernel
theorem dX3_wouldLoseHidden_36 : decode cX3_wouldLoseHidden 36 = .ok (.getfield 92, 3) := by decide +kernel
theorem dX3_wouldLoseHidden_39 : decode cX3_wouldLoseHidden 39 = .ok (.if_icmp .lt 7, 3) := by decide +kernel
theorem dX3_wouldLoseHidden_42 : decode cX3_wouldLoseHidden 42 = .ok (.iconst 1, 1) := by decide +kernel
theorem dX3_wouldLoseHidden_43 : decode cX3_wouldLoseHidden 43 = .ok (.goto 4, 3) := by decide +kernel
theorem dX3_wouldLoseHidden_46 : decode cX3_wouldLoseHidden 46 = .ok (.iconst 0, 1) := by decide +kernel
theorem dX3_wouldLoseHidden_47 : decode cX3_wouldLoseHidden 47 = .ok (.ireturn, 1) := by decide +kernel
set_option maxRecDepth 20000 in
theorem ggX3_addEntry_X0_add : GoodIn wsX3_addEntry wsX0_add := goodIn_r _ [6, 7, 8, 9, 10, 11, 12, 13, 14, 15, 5, 16, 17, 18, 19, 20, 21, 22, 23, 24, 25, 26, 27, 28, 29, 30, 31, 32, 33, 34, 35, 36, 37, 38, 39, 40, 41, 42, 43, 44, 81, 82, 83, 84, 85, 86, 87, 88, 89, 90] (by decide +kernel) (by decide +kernel)
set_option maxRecDepth 20000 in
theorem gX3_addEntry_X0_add : GoodIn wsX3_addEntry (wsV RX3 156 RX0 yX0_add wsX0_add) := goodIn_app (goodIn_of _ (by decide +kernel)) ggX3_addEntry_X0_add
set_option maxRecDepth 20000 in
theorem ggX3_addEntry_X3_listRowsLeft : GoodIn wsX3_addEntry wsX3_listRowsLeft := goodIn_r _ [49, 50, 51, 52, 53, 54, 55, 56, 48, 57, 1, 58, 59, 60, 61, 5, 62, 63, 64, 65, 66, 7, 67, 68, 69, 70, 10, 12, 71, 27, 28, 20, 29, 30, 72, 32, 33, 34, 35, 36, 37, 73, 74, 75, 76, 77, 78, 79, 80, 86, 87, 88, 89, 90, 81, 82, 83, 84, 85] (by decide +kernel) (by decide +kernel)
set_option maxRecDepth 20000 in
theorem gX3_addEntry_X3_listRowsLeft : GoodIn wsX3_addEntry (wsV RX3 95 RX3 yX3_listRowsLeft wsX3_listRowsLeft) := goodIn_app (goodIn_of _ (by decide +kernel)) ggX3_addEntry_X3_listRowsLeft
theorem dX3_addEntry_0 : decode cX3_addEntry 0 = .ok (.aload_n 0, 1) := by decide +kernel
theorem dX3_addEntry_1 : decode cX3_addEntry 1 = .ok (.getfield 21, 3) := by decide +kernel
theorem dX3_addEntry_4 : decode cX3_addEntry 4 = .ok (.iload_n 1, 1) := by decide +kernel
theorem dX3_addEntry_5 : decode cX3_addEntry 5 = .ok (.iload_n 2, 1) := by decide +kernel
theorem dX3_addEntry_6 : decode cX3_addEntry 6 = .ok (.invokevirtual 156, 3) := by decide +kernel
theorem dX3_addEntry_9 : decode cX3_addEntry 9 = .ok (.aload_n 0, 1) := by decide +kernel
theorem dX3_addEntry_10 : decode cX3_addEntry 10 = .ok (.invokevirtual 95, 3) := by decide +kernel
theorem dX3_addEntry_13 : decode cX3_addEntry 13 = .ok (.return_, 1) := by decide +kernel
theorem dX3_left_0 : decode cX3_left 0 = .ok (.aload_n 0, 1) := by decide +kernel
theorem dX3_left_1 : decode cX3_left 1 = .ok (.getfield 133, 3) := by decide +kernel
theorem dX3_left_4 : decode cX3_left 4 = .ok (.ireturn, 1) := by decide +kernel
set_option maxRecDepth 20000 in
theorem ggX3_leftByAll_X0_countLiesAnew : GoodIn wsX3_leftByAll wsX0_countLiesAnew := goodIn_r _ [9, 10, 11, 12, 13, 14, 15, 16, 17, 18, 19, 20, 21, 22, 23, 24, 25, 26, 27, 28, 29, 30, 31, 32, 33, 34, 35, 36, 37, 38, 39, 40, 41, 55, 56, 57, 58, 59, 50, 51, 52, 53, 54] (by decide +kernel) (by decide +kernel)
set_option maxRecDepth 20000 in
theorem gX3_leftByAll_X0_countLiesAnew : GoodIn wsX3_leftByAll (wsV RX3 159 RX0 yX0_countLiesAnew wsX0_countLiesAnew) := goodIn_app (goodIn_of _ (by decide +kernel)) ggX3_leftByAll_X0_countLiesAnew
theorem dX3_leftByAll_0 : decode cX3_leftByAll 0 = .ok (.iconst 0, 1) := by decide +kernel
theorem dX3_leftByAll_1 : decode cX3_leftByAll 1 = .ok (.istore_n 1, 1) := by decide +kernel
theorem dX3_leftByAll_2 : decode cX3_leftByAll 2 = .ok (.iconst 0, 1) := by decide +kernel
theorem dX3_leftByAll_3 : decode cX3_leftByAll 3 = .ok (.istore_n 2, 1) := by decide +kernel
theorem dX3_leftByAll_4 : decode cX3_leftByAll 4 = .ok (.iload_n 2, 1) := by decide +kernel
theorem dX3_leftByAll_5 : decode cX3_leftByAll 5 = .ok (.aload_n 0, 1) := by decide +kernel
theorem dX3_leftByAll_6 : decode cX3_leftByAll 6 = .ok (.getfield 12, 3) := by decide +kernel
theorem dX3_leftByAll_9 : decode cX3_leftByAll 9 = .ok (.getfield 53, 3) := by decide +kernel
theorem dX3_leftByAll_12 : decode cX3_leftByAll 12 = .ok (.if_icmp .ge 27, 3) := by decide +kernel
theorem dX3_leftByAll_15 : decode cX3_leftByAll 15 = .ok (.aload_n 0, 1) := by decide +kernel
theorem dX3_leftByAll_16 : decode cX3_leftByAll 16 = .ok (.getfield 21, 3) := by decide +kernel
theorem dX3_leftByAll_19 : decode cX3_leftByAll 19 = .ok (.iload_n 2, 1) := by decide +kernel
theorem dX3_leftByAll_20 : decode cX3_leftByAll 20 = .ok (.invokevirtual 159, 3) := by decide +kernel
theorem dX3_leftByAll_23 : decode cX3_leftByAll 23 = .ok (.aload_n 0, 1) := by decide +kernel
theorem dX3_leftByAll_24 : decode cX3_leftByAll 24 = .ok (.getfield 92, 3) := by decide +kernel
theorem dX3_leftByAll_27 : decode cX3_leftByAll 27 = .ok (.if_icmp .gt 6, 3) := by decide +kernel
theorem dX3_leftByAll_30 : decode cX3_leftByAll 30 = .ok (.iinc 1 1, 3) := by decide +kernel
theorem dX3_leftByAll_33 : decode cX3_leftByAll 33 = .ok (.iinc 2 1, 3) := by decide +kernel
theorem dX3_leftByAll_36 : decode cX3_leftByAll 36 = .ok (.goto (-32), 3) := by decide +kernel
theorem dX3_leftByAll_39 : decode cX3_leftByAll 39 = .ok (.iload_n 1, 1) := by decide +kernel
theorem dX3_leftByAll_40 : decode cX3_leftByAll 40 = .ok (.ireturn, 1) := by decide +kernel
set_option maxRecDepth 20000 in
theorem ggX3_isLeft_X3_requireRow : GoodIn wsX3_isLeft wsX3_requireRow := goodIn_ca (goodIn_r _ [5, 6, 7, 8, 9, 10, 11, 12, 13, 14, 45, 46, 47, 48, 49, 50, 51, 52, 53, 54, 55, 56, 57] (by decide +kernel) (by decide +kernel)) (goodIn_sub (fun _ h => List.mem_cons_of_mem _ (List.mem_append_right _ h)) (by decide +kernel))
set_option maxRecDepth 20000 in
theorem gX3_isLeft_X3_requireRow : GoodIn wsX3_isLeft (wsV RX3 106 RX3 yX3_requireRow wsX3_requireRow) := goodIn_app (goodIn_of _ (by decide +kernel)) ggX3_isLeft_X3_requireRow
set_option maxRecDepth 20000 in
theorem ggX3_isLeft_X3_remains : GoodIn wsX3_isLeft wsX3_remains := goodIn_r _ [18, 19, 20, 21, 22, 23, 24, 25, 26, 27, 28, 29, 30, 31, 32, 33, 34, 35, 36, 37, 10, 11, 12, 13, 14, 38, 39, 40, 41, 42, 43, 44, 45, 46, 47, 48, 49, 50, 51, 52, 58, 59, 60, 61, 62, 53, 54, 55, 56, 57] (by decide +kernel) (by decide +kernel)
set_option maxRecDepth 20000 in
theorem gX3_isLeft_X3_remains : GoodIn wsX3_isLeft (wsV RX3 110 RX3 yX3_remains wsX3_remains) := goodIn_app (goodIn_of _ (by decide +kernel)) ggX3_isLeft_X3_remains
theorem dX3_isLeft_0 : decode cX3_isLeft 0 = .ok (.aload_n 0, 1) := by decide +kernel
theorem dX3_isLeft_1 : decode cX3_isLeft 1 = .ok (.iload_n 1, 1) := by decide +kernel
theorem dX3_isLeft_2 : decode cX3_isLeft 2 = .ok (.invokevirtual 106, 3) := by decide +kernel
theorem dX3_isLeft_5 : decode cX3_isLeft 5 = .ok (.aload_n 0, 1) := by decide +kernel
theorem dX3_isLeft_6 : decode cX3_isLeft 6 = .ok (.iload_n 1, 1) := by decide +kernel
theorem dX3_isLeft_7 : decode cX3_isLeft 7 = .ok (.invokevirtual 110, 3) := by decide +kernel
theorem dX3_isLeft_10 : decode cX3_isLeft 10 = .ok (.ireturn, 1) := by decide +kernel
theorem dX3_leftAt_0 : decode cX3_leftAt 0 = .ok (.iload_n 1, 1) := by decide +kernel
theorem dX3_leftAt_1 : decode cX3_leftAt 1 = .ok (.ifCond .lt 20, 3) := by decide +kernel
theorem dX3_leftAt_4 : decode cX3_leftAt 4 = .ok (.iload_n 1, 1) := by decide +kernel
theorem dX3_leftAt_5 : decode cX3_leftAt 5 = .ok (.aload_n 0, 1) := by decide +kernel
theorem dX3_leftAt_6 : decode cX3_leftAt 6 = .ok (.getfield 133, 3) := by decide +kernel
theorem dX3_leftAt_9 : decode cX3_leftAt 9 = .ok (.if_icmp .ge 12, 3) := by decide +kernel
theorem dX3_leftAt_12 : decode cX3_leftAt 12 = .ok (.iload_n 1, 1) := by decide +kernel
theorem dX3_leftAt_13 : decode cX3_leftAt 13 = .ok (.aload_n 0, 1) := by decide +kernel
theorem dX3_leftAt_14 : decode cX3_leftAt 14 = .ok (.getfield 32, 3) := by decide +kernel
theorem dX3_leftAt_17 : decode cX3_leftAt 17 = .ok (.arraylength, 1) := by decide +kernel
theorem dX3_leftAt_18 : decode cX3_leftAt 18 = .ok (.if_icmp .lt 13, 3) := by decide +kernel
theorem dX3_leftAt_21 : decode cX3_leftAt 21 = .ok (.new 64, 3) := by decide +kernel
theorem dX3_leftAt_24 : decode cX3_leftAt 24 = .ok (.dup, 1) := by decide +kernel
theorem dX3_leftAt_25 : decode cX3_leftAt 25 = .ok (.ldc 162, 2) := by decide +kernel
theorem dX3_leftAt_27 : decode cX3_leftAt 27 = .ok (.invokespecial 68, 3) := by decide +kernel
theorem dX3_leftAt_30 : decode cX3_leftAt 30 = .ok (.athrow, 1) := by decide +kernel
theorem dX3_leftAt_31 : decode cX3_leftAt 31 = .ok (.aload_n 0, 1) := by decide +kernel
theorem dX3_leftAt_32 : decode cX3_leftAt 32 = .ok (.getfield 32, 3) := by decide +kernel
theorem dX3_leftAt_35 : decode cX3_leftAt 35 = .ok (.iload_n 1, 1) := by decide +kernel
theorem dX3_leftAt_36 : decode cX3_leftAt 36 = .ok (.iaload, 1) := by decide +kernel
theorem dX3_leftAt_37 : decode cX3_leftAt 37 = .ok (.ireturn, 1) := by decide +kernel
set_option maxRecDepth 20000 in
theorem ggX3_remains_X0_countLies : GoodIn wsX3_remains wsX0_countLies := goodIn_r _ [7, 8, 9, 10, 6, 11, 12, 13, 14, 15, 16, 17, 18, 19, 20, 21, 22, 23, 24, 25, 26, 27, 28, 29, 30, 31, 40, 41, 42, 43, 44, 45, 46, 47, 48, 49] (by decide +kernel) (by decide +kernel)
set_option maxRecDepth 20000 in
theorem gX3_remains_X0_countLies : GoodIn wsX3_remains (wsV RX3 83 RX0 yX0_countLies wsX0_countLies) := goodIn_app (goodIn_of _ (by decide +kernel)) ggX3_remains_X0_countLies
theorem dX3_remains_0 : decode cX3_remains 0 = .ok (.aload_n 0, 1) := by decide +kernel
theorem dX3_remains_1 : decode cX3_remains 1 = .ok (.getfield 21, 3) := by decide +kernel
theorem dX3_remains_4 : decode cX3_remains 4 = .ok (.iload_n 1, 1) := by decide +kernel
theorem dX3_remains_5 : decode cX3_remains 5 = .ok (.invokevirtual 83, 3) := by decide +kernel
theorem dX3_remains_8 : decode cX3_remains 8 = .ok (.aload_n 0, 1) := by decide +kernel
theorem dX3_remains_9 : decode cX3_remains 9 = .ok (.getfield 92, 3) := by decide +kernel
theorem dX3_remains_12 : decode cX3_remains 12 = .ok (.if_icmp .gt 7, 3) := by decide +kernel
theorem dX3_remains_15 : decode cX3_remains 15 = .ok (.iconst 1, 1) := by decide +kernel
theorem dX3_remains_16 : decode cX3_remains 16 = .ok (.goto 4, 3) := by decide +kernel
theorem dX3_remains_19 : decode cX3_remains 19 = .ok (.iconst 0, 1) := by decide +kernel
theorem dX3_remains_20 : decode cX3_remains 20 = .ok (.ireturn, 1) := by decide +kernel
set_option maxRecDepth 20000 in
theorem ggX3_listRowsLeft_X3_remains : GoodIn wsX3_listRowsLeft wsX3_remains := goodIn_r _ [9, 10, 11, 12, 13, 14, 15, 16, 17, 18, 19, 20, 21, 22, 23, 24, 25, 26, 27, 28, 29, 30, 31, 32, 33, 34, 35, 36, 37, 38, 39, 40, 41, 42, 43, 44, 45, 46, 47, 48, 54, 55, 56, 57, 58, 49, 50, 51, 52, 53] (by decide +kernel) (by decide +kernel)
set_option maxRecDepth 20000 in
theorem gX3_listRowsLeft_X3_remains : GoodIn wsX3_listRowsLeft (wsV RX3 110 RX3 yX3_remains wsX3_remains) := goodIn_app (goodIn_of _ (by decide +kernel)) ggX3_listRowsLeft_X3_remains
theorem dX3_listRowsLeft_0 : decode cX3_listRowsLeft 0 = .ok (.aload_n 0, 1) := by decide +kernel
theorem dX3_listRowsLeft_1 : decode cX3_listRowsLeft 1 = .ok (.iconst 0, 1) := by decide +kernel
theorem dX3_listRowsLeft_2 : decode cX3_listRowsLeft 2 = .ok (.putfield 133, 3) := by decide +kernel
theorem dX3_listRowsLeft_5 : decode cX3_listRowsLeft 5 = .ok (.iconst 0, 1) := by decide +kernel
theorem dX3_listRowsLeft_6 : decode cX3_listRowsLeft 6 = .ok (.istore_n 1, 1) := by decide +kernel
theorem dX3_listRowsLeft_7 : decode cX3_listRowsLeft 7 = .ok (.iload_n 1, 1) := by decide +kernel
theorem dX3_listRowsLeft_8 : decode cX3_listRowsLeft 8 = .ok (.aload_n 0, 1) := by decide +kernel
theorem dX3_listRowsLeft_9 : decode cX3_listRowsLeft 9 = .ok (.getfield 12, 3) := by decide +kernel
theorem dX3_listRowsLeft_12 : decode cX3_listRowsLeft 12 = .ok (.getfield 53, 3) := by decide +kernel
theorem dX3_listRowsLeft_15 : decode cX3_listRowsLeft 15 = .ok (.if_icmp .ge 49, 3) := by decide +kernel
theorem dX3_listRowsLeft_18 : decode cX3_listRowsLeft 18 = .ok (.aload_n 0, 1) := by decide +kernel
theorem dX3_listRowsLeft_19 : decode cX3_listRowsLeft 19 = .ok (.iload_n 1, 1) := by decide +kernel
theorem dX3_listRowsLeft_20 : decode cX3_listRowsLeft 20 = .ok (.invokevirtual 110, 3) := by decide +kernel
theorem dX3_listRowsLeft_23 : decode cX3_listRowsLeft 23 = .ok (.ifCond .eq 35, 3) := by decide +kernel
theorem dX3_listRowsLeft_26 : decode cX3_listRowsLeft 26 = .ok (.aload_n 0, 1) := by decide +kernel
theorem dX3_listRowsLeft_27 : decode cX3_listRowsLeft 27 = .ok (.getfield 133, 3) := by decide +kernel
theorem dX3_listRowsLeft_30 : decode cX3_listRowsLeft 30 = .ok (.aload_n 0, 1) := by decide +kernel
theorem dX3_listRowsLeft_31 : decode cX3_listRowsLeft 31 = .ok (.getfield 32, 3) := by decide +kernel
theorem dX3_listRowsLeft_34 : decode cX3_listRowsLeft 34 = .ok (.arraylength, 1) := by decide +kernel
theorem dX3_listRowsLeft_35 : decode cX3_listRowsLeft 35 = .ok (.if_icmp .ge 23, 3) := by decide +kernel
theorem dX3_listRowsLeft_38 : decode cX3_listRowsLeft 38 = .ok (.aload_n 0, 1) := by decide +kernel
theorem dX3_listRowsLeft_39 : decode cX3_listRowsLeft 39 = .ok (.getfield 32, 3) := by decide +kernel
theorem dX3_listRowsLeft_42 : decode cX3_listRowsLeft 42 = .ok (.aload_n 0, 1) := by decide +kernel
theorem dX3_listRowsLeft_43 : decode cX3_listRowsLeft 43 = .ok (.getfield 133, 3) := by decide +kernel
theorem dX3_listRowsLeft_46 : decode cX3_listRowsLeft 46 = .ok (.iload_n 1, 1) := by decide +kernel
theorem dX3_listRowsLeft_47 : decode cX3_listRowsLeft 47 = .ok (.iastore, 1) := by decide +kernel
theorem dX3_listRowsLeft_48 : decode cX3_listRowsLeft 48 = .ok (.aload_n 0, 1) := by decide +kernel
theorem dX3_listRowsLeft_49 : decode cX3_listRowsLeft 49 = .ok (.dup, 1) := by decide +kernel
theorem dX3_listRowsLeft_50 : decode cX3_listRowsLeft 50 = .ok (.getfield 133, 3) := by decide +kernel
theorem dX3_listRowsLeft_53 : decode cX3_listRowsLeft 53 = .ok (.iconst 1, 1) := by decide +kernel
theorem dX3_listRowsLeft_54 : decode cX3_listRowsLeft 54 = .ok (.iadd, 1) := by decide +kernel
theorem dX3_listRowsLeft_55 : decode cX3_listRowsLeft 55 = .ok (.putfield 133, 3) := by decide +kernel
theorem dX3_listRowsLeft_58 : decode cX3_listRowsLeft 58 = .ok (.iinc 1 1, 3) := by decide +kernel
theorem dX3_listRowsLeft_61 : decode cX3_listRowsLeft 61 = .ok (.goto (-54), 3) := by decide +kernel
theorem dX3_listRowsLeft_64 : decode cX3_listRowsLeft 64 = .ok (.return_, 1) := by decide +kernel
set_option maxRecDepth 20000 in
theorem ggX3_parts_X3_requireRow : GoodIn wsX3_parts wsX3_requireRow := goodIn_ca (goodIn_r _ [7, 8, 9, 10, 11, 12, 13, 14, 15, 16, 72, 73, 74, 75, 76, 77, 78, 79, 85, 86, 87, 88, 89] (by decide +kernel) (by decide +kernel)) (goodIn_sub (fun _ h => List.mem_cons_of_mem _ (List.mem_append_right _ h)) (by decide +kernel))
set_option maxRecDepth 20000 in
theorem gX3_parts_X3_requireRow : GoodIn wsX3_parts (wsV RX3 106 RX3 yX3_requireRow wsX3_requireRow) := goodIn_app (goodIn_of _ (by decide +kernel)) ggX3_parts_X3_requireRow
set_option maxRecDepth 20000 in
theorem ggX3_parts_X3_partLeft : GoodIn wsX3_parts wsX3_partLeft := goodIn_r _ [20, 21, 22, 23, 24, 25, 6, 26, 1, 10, 27, 28, 29, 30, 31, 32, 33, 34, 35, 36, 37, 38, 39, 40, 41, 42, 14, 43, 44, 45, 46, 47, 48, 12, 13, 15, 16, 49, 50, 51, 52, 53, 54, 55, 56, 57, 58, 59, 60, 61, 62, 63, 64, 65, 66, 67, 68, 69, 70, 71, 72, 73, 74, 75, 76, 77, 78, 79, 80, 81, 82, 83, 84, 85, 86, 87, 88, 89] (by decide +kernel) (by decide +kernel)
set_option maxRecDepth 20000 in
theorem gX3_parts_X3_partLeft : GoodIn wsX3_parts (wsV RX3 164 RX3 yX3_partLeft wsX3_partLeft) := goodIn_app (goodIn_of _ (by decide +kernel)) ggX3_parts_X3_partLeft
theorem dX3_parts_0 : decode cX3_parts 0 = .ok (.aload_n 0, 1) := by decide +kernel
theorem dX3_parts_1 : decode cX3_parts 1 = .ok (.iload_n 1, 1) := by decide +kernel
theorem dX3_parts_2 : decode cX3_parts 2 = .ok (.invokevirtual 106, 3) := by decide +kernel
theorem dX3_parts_5 : decode cX3_parts 5 = .ok (.aload_n 0, 1) := by decide +kernel
theorem dX3_parts_6 : decode cX3_parts 6 = .ok (.iload_n 1, 1) := by decide +kernel
theorem dX3_parts_7 : decode cX3_parts 7 = .ok (.invokevirtual 164, 3) := by decide +kernel
theorem dX3_parts_10 : decode cX3_parts 10 = .ok (.aload_n 0, 1) := by decide +kernel
theorem dX3_parts_11 : decode cX3_parts 11 = .ok (.getfield 28, 3) := by decide +kernel
theorem dX3_parts_14 : decode cX3_parts 14 = .ok (.getfield 167, 3) := by decide +kernel
theorem dX3_parts_17 : decode cX3_parts 17 = .ok (.ireturn, 1) := by decide +kernel
set_option maxRecDepth 20000 in
theorem ggX3_partMark_X3_requireRow : GoodIn wsX3_partMark wsX3_requireRow := goodIn_ca (goodIn_r _ [8, 1, 2, 9, 10, 11, 12, 13, 14, 15, 80, 81, 82, 83, 84, 85, 86, 87, 88, 89, 90, 91, 92] (by decide +kernel) (by decide +kernel)) (goodIn_sub (fun _ h => List.mem_cons_of_mem _ (List.mem_append_right _ h)) (by decide +kernel))
set_option maxRecDepth 20000 in
theorem gX3_partMark_X3_requireRow : GoodIn wsX3_partMark (wsV RX3 106 RX3 yX3_requireRow wsX3_requireRow) := goodIn_app (goodIn_of _ (by decide +kernel)) ggX3_partMark_X3_requireRow
set_option maxRecDepth 20000 in
theorem ggX3_partMark_X3_partLeft : GoodIn wsX3_partMark wsX3_partLeft := goodIn_r _ [19, 20, 21, 22, 23, 24, 7, 25, 3, 9, 26, 27, 28, 29, 30, 31, 32, 33, 34, 35, 36, 37, 38, 39, 40, 41, 13, 42, 43, 44, 45, 46, 47, 11, 12, 14, 15, 48, 49, 50, 51, 52, 53, 54, 55, 56, 57, 58, 59, 60, 61, 62, 63, 64, 65, 66, 67, 68, 69, 70, 80, 81, 82, 83, 84, 85, 86, 87, 93, 94, 95, 96, 97, 88, 89, 90, 91, 92] (by decide +kernel) (by decide +kernel)
set_option maxRecDepth 20000 in
theorem gX3_partMark_X3_partLeft : GoodIn wsX3_partMark (wsV RX3 164 RX3 yX3_partLeft wsX3_partLeft) := goodIn_app (goodIn_of _ (by decide +kernel)) ggX3_partMark_X3_partLeft
set_option maxRecDepth 20000 in
theorem ggX3_partMark_X2_has : GoodIn wsX3_partMark wsX2_has := goodIn_r _ [74, 31, 66, 93, 94, 95, 96, 97] (by decide +kernel) (by decide +kernel)
set_option maxRecDepth 20000 in
theorem gX3_partMark_X2_has : GoodIn wsX3_partMark (wsV RX3 168 RX2 yX2_has wsX2_has) := goodIn_app (goodIn_of _ (by decide +kernel)) ggX3_partMark_X2_has
set_option maxRecDepth 20000 in
theorem ggX3_partMark_X2_markAt : GoodIn wsX3_partMark wsX2_markAt := goodIn_r _ [78, 66, 79, 72, 73, 29, 74, 31, 93, 94, 95, 96, 97] (by decide +kernel) (by decide +kernel)
set_option maxRecDepth 20000 in
theorem gX3_partMark_X2_markAt : GoodIn wsX3_partMark (wsV RX3 171 RX2 yX2_markAt wsX2_markAt) := goodIn_app (goodIn_of _ (by decide +kernel)) ggX3_partMark_X2_markAt
theorem dX3_partMark_0 : decode cX3_partMark 0 = .ok (.aload_n 0, 1) := by decide +kernel
theorem dX3_partMark_1 : decode cX3_partMark 1 = .ok (.iload_n 1, 1) := by decide +kernel
theorem dX3_partMark_2 : decode cX3_partMark 2 = .ok (.invokevirtual 106, 3) := by decide +kernel
theorem dX3_partMark_5 : decode cX3_partMark 5 = .ok (.aload_n 0, 1) := by decide +kernel
theorem dX3_partMark_6 : decode cX3_partMark 6 = .ok (.iload_n 1, 1) := by decide +kernel
theorem dX3_partMark_7 : decode cX3_partMark 7 = .ok (.invokevirtual 164, 3) := by decide +kernel
theorem dX3_partMark_10 : decode cX3_partMark 10 = .ok (.aload_n 0, 1) := by decide +kernel
theorem dX3_partMark_11 : decode cX3_partMark 11 = .ok (.getfield 28, 3) := by decide +kernel
theorem dX3_partMark_14 : decode cX3_partMark 14 = .ok (.iload_n 2, 1) := by decide +kernel
theorem dX3_partMark_15 : decode cX3_partMark 15 = .ok (.invokevirtual 168, 3) := by decide +kernel
theorem dX3_partMark_18 : decode cX3_partMark 18 = .ok (.ifCond .ne 13, 3) := by decide +kernel
theorem dX3_partMark_21 : decode cX3_partMark 21 = .ok (.new 64, 3) := by decide +kernel
theorem dX3_partMark_24 : decode cX3_partMark 24 = .ok (.dup, 1) := by decide +kernel
theorem dX3_partMark_25 : decode cX3_partMark 25 = .ok (.ldc 169, 2) := by decide +kernel
theorem dX3_partMark_27 : decode cX3_partMark 27 = .ok (.invokespecial 68, 3) := by decide +kernel
theorem dX3_partMark_30 : decode cX3_partMark 30 = .ok (.athrow, 1) := by decide +kernel
theorem dX3_partMark_31 : decode cX3_partMark 31 = .ok (.aload_n 0, 1) := by decide +kernel
theorem dX3_partMark_32 : decode cX3_partMark 32 = .ok (.getfield 28, 3) := by decide +kernel
theorem dX3_partMark_35 : decode cX3_partMark 35 = .ok (.iload_n 2, 1) := by decide +kernel
theorem dX3_partMark_36 : decode cX3_partMark 36 = .ok (.invokevirtual 171, 3) := by decide +kernel
theorem dX3_partMark_39 : decode cX3_partMark 39 = .ok (.ireturn, 1) := by decide +kernel
set_option maxRecDepth 20000 in
theorem ggX3_partSize_X3_requireRow : GoodIn wsX3_partSize wsX3_requireRow := goodIn_ca (goodIn_r _ [6, 7, 8, 9, 10, 11, 12, 13, 14, 15, 85, 86, 87, 88, 89, 90, 91, 92, 93, 94, 95, 96, 97] (by decide +kernel) (by decide +kernel)) (goodIn_sub (fun _ h => List.mem_cons_of_mem _ (List.mem_append_left _ (List.mem_append_right _ h))) (by decide +kernel))
set_option maxRecDepth 20000 in
theorem gX3_partSize_X3_requireRow : GoodIn wsX3_partSize (wsV RX3 106 RX3 yX3_requireRow wsX3_requireRow) := goodIn_app (goodIn_of _ (by decide +kernel)) ggX3_partSize_X3_requireRow
set_option maxRecDepth 20000 in
theorem ggX3_partSize_X3_requirePossible : GoodIn wsX3_partSize wsX3_requirePossible := goodIn_ca (goodIn_r _ [19, 20, 21, 9, 22, 23, 24, 13, 25, 26, 85, 86, 87, 88, 89, 90, 91, 92, 93, 94, 95, 96, 97] (by decide +kernel) (by decide +kernel)) (goodIn_sub (fun _ h => List.mem_cons_of_mem _ (List.mem_append_right _ h)) (by decide +kernel))
set_option maxRecDepth 20000 in
theorem gX3_partSize_X3_requirePossible : GoodIn wsX3_partSize (wsV RX3 125 RX3 yX3_requirePossible wsX3_requirePossible) := goodIn_app (goodIn_of _ (by decide +kernel)) ggX3_partSize_X3_requirePossible
set_option maxRecDepth 20000 in
theorem ggX3_partSize_X3_partLeft : GoodIn wsX3_partSize wsX3_partLeft := goodIn_r _ [30, 31, 32, 33, 34, 35, 5, 36, 1, 9, 37, 38, 39, 40, 41, 42, 43, 44, 45, 46, 47, 48, 49, 50, 51, 52, 13, 53, 54, 55, 26, 56, 57, 11, 12, 14, 15, 58, 59, 60, 61, 62, 63, 64, 65, 66, 67, 68, 69, 70, 71, 72, 73, 74, 75, 76, 77, 78, 79, 80, 85, 86, 87, 88, 89, 90, 91, 92, 98, 99, 100, 101, 102, 93, 94, 95, 96, 97] (by decide +kernel) (by decide +kernel)
set_option maxRecDepth 20000 in
theorem gX3_partSize_X3_partLeft : GoodIn wsX3_partSize (wsV RX3 164 RX3 yX3_partLeft wsX3_partLeft) := goodIn_app (goodIn_of _ (by decide +kernel)) ggX3_partSize_X3_partLeft
set_option maxRecDepth 20000 in
theorem ggX3_partSize_X2_sizeWith : GoodIn wsX3_partSize wsX2_sizeWith := goodIn_r _ [84, 45, 98, 99, 100, 101, 102] (by decide +kernel) (by decide +kernel)
set_option maxRecDepth 20000 in
theorem gX3_partSize_X2_sizeWith : GoodIn wsX3_partSize (wsV RX3 172 RX2 yX2_sizeWith wsX2_sizeWith) := goodIn_app (goodIn_of _ (by decide +kernel)) ggX3_partSize_X2_sizeWith
theorem dX3_partSize_0 : decode cX3_partSize 0 = .ok (.aload_n 0, 1) := by decide +kernel
theorem dX3_partSize_1 : decode cX3_partSize 1 = .ok (.iload_n 1, 1) := by decide +kernel
theorem dX3_partSize_2 : decode cX3_partSize 2 = .ok (.invokevirtual 106, 3) := by decide +kernel
theorem dX3_partSize_5 : decode cX3_partSize 5 = .ok (.aload_n 0, 1) := by decide +kernel
theorem dX3_partSize_6 : decode cX3_partSize 6 = .ok (.iload_n 2, 1) := by decide +kernel
theorem dX3_partSize_7 : decode cX3_partSize 7 = .ok (.invokevirtual 125, 3) := by decide +kernel
theorem dX3_partSize_10 : decode cX3_partSize 10 = .ok (.aload_n 0, 1) := by decide +kernel
theorem dX3_partSize_11 : decode cX3_partSize 11 = .ok (.iload_n 1, 1) := by decide +kernel
theorem dX3_partSize_12 : decode cX3_partSize 12 = .ok (.invokevirtual 164, 3) := by decide +kernel
theorem dX3_partSize_15 : decode cX3_partSize 15 = .ok (.aload_n 0, 1) := by decide +kernel
theorem dX3_partSize_16 : decode cX3_partSize 16 = .ok (.getfield 28, 3) := by decide +kernel
theorem dX3_partSize_19 : decode cX3_partSize 19 = .ok (.iload_n 2, 1) := by decide +kernel
theorem dX3_partSize_20 : decode cX3_partSize 20 = .ok (.invokevirtual 172, 3) := by decide +kernel
theorem dX3_partSize_23 : decode cX3_partSize 23 = .ok (.ireturn, 1) := by decide +kernel
set_option maxRecDepth 20000 in
theorem ggX3_worstCase_X3_requireRow : GoodIn wsX3_worstCase wsX3_requireRow := goodIn_ca (goodIn_r _ [7, 8, 9, 10, 11, 12, 13, 14, 15, 16, 72, 73, 74, 75, 76, 77, 78, 79, 85, 86, 87, 88, 89] (by decide +kernel) (by decide +kernel)) (goodIn_sub (fun _ h => List.mem_cons_of_mem _ (List.mem_append_right _ h)) (by decide +kernel))
set_option maxRecDepth 20000 in
theorem gX3_worstCase_X3_requireRow : GoodIn wsX3_worstCase (wsV RX3 106 RX3 yX3_requireRow wsX3_requireRow) := goodIn_app (goodIn_of _ (by decide +kernel)) ggX3_worstCase_X3_requireRow
set_option maxRecDepth 20000 in
theorem ggX3_worstCase_X3_partLeft : GoodIn wsX3_worstCase wsX3_partLeft := goodIn_r _ [20, 21, 22, 23, 24, 25, 6, 26, 1, 10, 27, 28, 29, 30, 31, 32, 33, 34, 35, 36, 37, 38, 39, 40, 41, 42, 14, 43, 44, 45, 46, 47, 48, 12, 13, 15, 16, 49, 50, 51, 52, 53, 54, 55, 56, 57, 58, 59, 60, 61, 62, 63, 64, 65, 66, 67, 68, 69, 70, 71, 72, 73, 74, 75, 76, 77, 78, 79, 80, 81, 82, 83, 84, 85, 86, 87, 88, 89] (by decide +kernel) (by decide +kernel)
set_option maxRecDepth 20000 in
theorem gX3_worstCase_X3_partLeft : GoodIn wsX3_worstCase (wsV RX3 164 RX3 yX3_partLeft wsX3_partLeft) := goodIn_app (goodIn_of _ (by decide +kernel)) ggX3_worstCase_X3_partLeft
theorem dX3_worstCase_0 : decode cX3_worstCase 0 = .ok (.aload_n 0, 1) := by decide +kernel
theorem dX3_worstCase_1 : decode cX3_worstCase 1 = .ok (.iload_n 1, 1) := by decide +kernel
theorem dX3_worstCase_2 : decode cX3_worstCase 2 = .ok (.invokevirtual 106, 3) := by decide +kernel
theorem dX3_worstCase_5 : decode cX3_worstCase 5 = .ok (.aload_n 0, 1) := by decide +kernel
theorem dX3_worstCase_6 : decode cX3_worstCase 6 = .ok (.iload_n 1, 1) := by decide +kernel
theorem dX3_worstCase_7 : decode cX3_worstCase 7 = .ok (.invokevirtual 164, 3) := by decide +kernel
theorem dX3_worstCase_10 : decode cX3_worstCase 10 = .ok (.aload_n 0, 1) := by decide +kernel
theorem dX3_worstCase_11 : decode cX3_worstCase 11 = .ok (.getfield 28, 3) := by decide +kernel
theorem dX3_worstCase_14 : decode cX3_worstCase 14 = .ok (.getfield 175, 3) := by decide +kernel
theorem dX3_worstCase_17 : decode cX3_worstCase 17 = .ok (.ireturn, 1) := by decide +kernel
set_option maxRecDepth 20000 in
theorem ggX3_weight_X3_requireRow : GoodIn wsX3_weight wsX3_requireRow := goodIn_ca (goodIn_r _ [7, 8, 9, 10, 11, 12, 13, 14, 15, 16, 72, 73, 74, 75, 76, 77, 78, 79, 85, 86, 87, 88, 89] (by decide +kernel) (by decide +kernel)) (goodIn_sub (fun _ h => List.mem_cons_of_mem _ (List.mem_append_right _ h)) (by decide +kernel))
set_option maxRecDepth 20000 in
theorem gX3_weight_X3_requireRow : GoodIn wsX3_weight (wsV RX3 106 RX3 yX3_requireRow wsX3_requireRow) := goodIn_app (goodIn_of _ (by decide +kernel)) ggX3_weight_X3_requireRow
set_option maxRecDepth 20000 in
theorem ggX3_weight_X3_partLeft : GoodIn wsX3_weight wsX3_partLeft := goodIn_r _ [20, 21, 22, 23, 24, 25, 6, 26, 1, 10, 27, 28, 29, 30, 31, 32, 33, 34, 35, 36, 37, 38, 39, 40, 41, 42, 14, 43, 44, 45, 46, 47, 48, 12, 13, 15, 16, 49, 50, 51, 52, 53, 54, 55, 56, 57, 58, 59, 60, 61, 62, 63, 64, 65, 66, 67, 68, 69, 70, 71, 72, 73, 74, 75, 76, 77, 78, 79, 80, 81, 82, 83, 84, 85, 86, 87, 88, 89] (by decide +kernel) (by decide +kernel)
set_option maxRecDepth 20000 in
theorem gX3_weight_X3_partLeft : GoodIn wsX3_weight (wsV RX3 164 RX3 yX3_partLeft wsX3_partLeft) := goodIn_app (goodIn_of _ (by decide +kernel)) ggX3_weight_X3_partLeft
theorem dX3_weight_0 : decode cX3_weight 0 = .ok (.aload_n 0, 1) := by decide +kernel
theorem dX3_weight_1 : decode cX3_weight 1 = .ok (.iload_n 1, 1) := by decide +kernel
theorem dX3_weight_2 : decode cX3_weight 2 = .ok (.invokevirtual 106, 3) := by decide +kernel
theorem dX3_weight_5 : decode cX3_weight 5 = .ok (.aload_n 0, 1) := by decide +kernel
theorem dX3_weight_6 : decode cX3_weight 6 = .ok (.iload_n 1, 1) := by decide +kernel
theorem dX3_weight_7 : decode cX3_weight 7 = .ok (.invokevirtual 164, 3) := by decide +kernel
theorem dX3_weight_10 : decode cX3_weight 10 = .ok (.aload_n 0, 1) := by decide +kernel
theorem dX3_weight_11 : decode cX3_weight 11 = .ok (.getfield 28, 3) := by decide +kernel
theorem dX3_weight_14 : decode cX3_weight 14 = .ok (.getfield 178, 3) := by decide +kernel
theorem dX3_weight_17 : decode cX3_weight 17 = .ok (.ireturn, 1) := by decide +kernel
set_option maxRecDepth 20000 in
theorem ggX3_bestGuess_X3_bestFor : GoodIn wsX3_bestGuess wsX3_bestFor := goodIn_r _ [11, 12, 13, 14, 15, 16, 17, 10, 18, 19, 20, 21, 22, 23, 24, 25, 26, 27, 28, 29, 30, 31, 32, 33, 34, 35, 36, 37, 38, 39, 40, 41, 42, 43, 44, 45, 46, 47, 48, 49, 50, 51, 52, 53, 54, 55, 56, 57, 58, 59, 60, 61, 62, 63, 64, 65, 66, 67, 68, 69, 70, 71, 72, 73, 74, 75, 76, 77, 78, 79, 80, 81, 82, 83, 84, 85, 86, 87, 88, 89, 90, 91, 92, 93, 94, 95, 96, 97, 98] (by decide +kernel) (by decide +kernel)
set_option maxRecDepth 20000 in
theorem gX3_bestGuess_X3_bestFor : GoodIn wsX3_bestGuess (wsV RX3 185 RX3 yX3_bestFor wsX3_bestFor) := goodIn_app (goodIn_of _ (by decide +kernel)) ggX3_bestGuess_X3_bestFor
theorem dX3_bestGuess_0 : decode cX3_bestGuess 0 = .ok (.iload_n 1, 1) := by decide +kernel
theorem dX3_bestGuess_1 : decode cX3_bestGuess 1 = .ok (.ifCond .lt 8, 3) := by decide +kernel
theorem dX3_bestGuess_4 : decode cX3_bestGuess 4 = .ok (.iload_n 1, 1) := by decide +kernel
theorem dX3_bestGuess_5 : decode cX3_bestGuess 5 = .ok (.iconst 2, 1) := by decide +kernel
theorem dX3_bestGuess_6 : decode cX3_bestGuess 6 = .ok (.if_icmp .le 13, 3) := by decide +kernel
theorem dX3_bestGuess_9 : decode cX3_bestGuess 9 = .ok (.new 46, 3) := by decide +kernel
theorem dX3_bestGuess_12 : decode cX3_bestGuess 12 = .ok (.dup, 1) := by decide +kernel
theorem dX3_bestGuess_13 : decode cX3_bestGuess 13 = .ok (.ldc 181, 2) := by decide +kernel
theorem dX3_bestGuess_15 : decode cX3_bestGuess 15 = .ok (.invokespecial 50, 3) := by decide +kernel
theorem dX3_bestGuess_18 : decode cX3_bestGuess 18 = .ok (.athrow, 1) := by decide +kernel
theorem dX3_bestGuess_19 : decode cX3_bestGuess 19 = .ok (.aload_n 0, 1) := by decide +kernel
theorem dX3_bestGuess_20 : decode cX3_bestGuess 20 = .ok (.getfield 133, 3) := by decide +kernel
theorem dX3_bestGuess_23 : decode cX3_bestGuess 23 = .ok (.ifCond .ne 13, 3) := by decide +kernel
theorem dX3_bestGuess_26 : decode cX3_bestGuess 26 = .ok (.new 87, 3) := by decide +kernel
theorem dX3_bestGuess_29 : decode cX3_bestGuess 29 = .ok (.dup, 1) := by decide +kernel
theorem dX3_bestGuess_30 : decode cX3_bestGuess 30 = .ok (.ldc 183, 2) := by decide +kernel
theorem dX3_bestGuess_32 : decode cX3_bestGuess 32 = .ok (.invokespecial 91, 3) := by decide +kernel
theorem dX3_bestGuess_35 : decode cX3_bestGuess 35 = .ok (.athrow, 1) := by decide +kernel
theorem dX3_bestGuess_36 : decode cX3_bestGuess 36 = .ok (.aload_n 0, 1) := by decide +kernel
theorem dX3_bestGuess_37 : decode cX3_bestGuess 37 = .ok (.iload_n 1, 1) := by decide +kernel
theorem dX3_bestGuess_38 : decode cX3_bestGuess 38 = .ok (.aload_n 0, 1) := by decide +kernel
theorem dX3_bestGuess_39 : decode cX3_bestGuess 39 = .ok (.getfield 32, 3) := by decide +kernel
theorem dX3_bestGuess_42 : decode cX3_bestGuess 42 = .ok (.iconst 0, 1) := by decide +kernel
theorem dX3_bestGuess_43 : decode cX3_bestGuess 43 = .ok (.aload_n 0, 1) := by decide +kernel
theorem dX3_bestGuess_44 : decode cX3_bestGuess 44 = .ok (.getfield 133, 3) := by decide +kernel
theorem dX3_bestGuess_47 : decode cX3_bestGuess 47 = .ok (.invokevirtual 185, 3) := by decide +kernel
theorem dX3_bestGuess_50 : decode cX3_bestGuess 50 = .ok (.ireturn, 1) := by decide +kernel
set_option maxRecDepth 20000 in
theorem ggX3_guessesNeeded_X3_guessesFor : GoodIn wsX3_guessesNeeded wsX3_guessesFor := goodIn_r _ [14, 5, 15, 16, 17, 18, 19, 20, 21, 22, 13, 23, 24, 25, 26, 27, 28, 29, 30, 31, 32, 33, 34, 35, 36, 37, 38, 39, 40, 41, 42, 43, 44, 45, 46, 47, 48, 49, 50, 51, 52, 53, 54, 55, 56, 57, 58, 59, 60, 61, 62, 63, 64, 65, 66, 67, 68, 69, 70, 71, 72, 73, 74, 75, 76, 77, 78, 79, 80, 81, 82, 83, 84, 85, 86, 87, 88, 89, 90, 91, 92, 93, 94, 95, 96, 10, 11, 12, 97, 98, 99, 100, 101, 102, 103, 104, 105, 106, 107, 108, 109, 110, 111, 112, 113, 114] (by decide +kernel) (by decide +kernel)
set_option maxRecDepth 20000 in
theorem gX3_guessesNeeded_X3_guessesFor : GoodIn wsX3_guessesNeeded (wsV RX3 197 RX3 yX3_guessesFor wsX3_guessesFor) := goodIn_app (goodIn_of _ (by decide +kernel)) ggX3_guessesNeeded_X3_guessesFor
theorem dX3_guessesNeeded_0 : decode cX3_guessesNeeded 0 = .ok (.aload_n 0, 1) := by decide +kernel
theorem dX3_guessesNeeded_1 : decode cX3_guessesNeeded 1 = .ok (.getfield 133, 3) := by decide +kernel
theorem dX3_guessesNeeded_4 : decode cX3_guessesNeeded 4 = .ok (.iconst 1, 1) := by decide +kernel
theorem dX3_guessesNeeded_5 : decode cX3_guessesNeeded 5 = .ok (.if_icmp .lt 12, 3) := by decide +kernel
theorem dX3_guessesNeeded_8 : decode cX3_guessesNeeded 8 = .ok (.aload_n 0, 1) := by decide +kernel
theorem dX3_guessesNeeded_9 : decode cX3_guessesNeeded 9 = .ok (.getfield 133, 3) := by decide +kernel
theorem dX3_guessesNeeded_12 : decode cX3_guessesNeeded 12 = .ok (.bipush 24, 2) := by decide +kernel
theorem dX3_guessesNeeded_14 : decode cX3_guessesNeeded 14 = .ok (.if_icmp .le 13, 3) := by decide +kernel
theorem dX3_guessesNeeded_17 : decode cX3_guessesNeeded 17 = .ok (.new 87, 3) := by decide +kernel
theorem dX3_guessesNeeded_20 : decode cX3_guessesNeeded 20 = .ok (.dup, 1) := by decide +kernel
theorem dX3_guessesNeeded_21 : decode cX3_guessesNeeded 21 = .ok (.ldc 189, 2) := by decide +kernel
theorem dX3_guessesNeeded_23 : decode cX3_guessesNeeded 23 = .ok (.invokespecial 91, 3) := by decide +kernel
theorem dX3_guessesNeeded_26 : decode cX3_guessesNeeded 26 = .ok (.athrow, 1) := by decide +kernel
theorem dX3_guessesNeeded_27 : decode cX3_guessesNeeded 27 = .ok (.aload_n 0, 1) := by decide +kernel
theorem dX3_guessesNeeded_28 : decode cX3_guessesNeeded 28 = .ok (.getfield 32, 3) := by decide +kernel
theorem dX3_guessesNeeded_31 : decode cX3_guessesNeeded 31 = .ok (.iconst 0, 1) := by decide +kernel
theorem dX3_guessesNeeded_32 : decode cX3_guessesNeeded 32 = .ok (.aload_n 0, 1) := by decide +kernel
theorem dX3_guessesNeeded_33 : decode cX3_guessesNeeded 33 = .ok (.getfield 36, 3) := by decide +kernel
theorem dX3_guessesNeeded_36 : decode cX3_guessesNeeded 36 = .ok (.iconst 0, 1) := by decide +kernel
theorem dX3_guessesNeeded_37 : decode cX3_guessesNeeded 37 = .ok (.aload_n 0, 1) := by decide +kernel
theorem dX3_guessesNeeded_38 : decode cX3_guessesNeeded 38 = .ok (.getfield 133, 3) := by decide +kernel
theorem dX3_guessesNeeded_41 : decode cX3_guessesNeeded 41 = .ok (.invokestatic 191, 3) := by decide +kernel
theorem dX3_guessesNeeded_44 : decode cX3_guessesNeeded 44 = .ok (.aload_n 0, 1) := by decide +kernel
theorem dX3_guessesNeeded_45 : decode cX3_guessesNeeded 45 = .ok (.iconst 0, 1) := by decide +kernel
theorem dX3_guessesNeeded_46 : decode cX3_guessesNeeded 46 = .ok (.aload_n 0, 1) := by decide +kernel
theorem dX3_guessesNeeded_47 : decode cX3_guessesNeeded 47 = .ok (.getfield 133, 3) := by decide +kernel
theorem dX3_guessesNeeded_50 : decode cX3_guessesNeeded 50 = .ok (.iconst 1, 1) := by decide +kernel
theorem dX3_guessesNeeded_51 : decode cX3_guessesNeeded 51 = .ok (.invokevirtual 197, 3) := by decide +kernel
theorem dX3_guessesNeeded_54 : decode cX3_guessesNeeded 54 = .ok (.ireturn, 1) := by decide +kernel
set_option maxRecDepth 20000 in
theorem ggX3_partLeft_X3_partRows : GoodIn wsX3_partLeft wsX3_partRows := goodIn_r _ [7, 8, 9, 10, 11, 12, 13, 14, 15, 16, 17, 18, 19, 20, 21, 22, 23, 24, 25, 26, 27, 28, 29, 30, 31, 32, 33, 34, 35, 36, 37, 38, 39, 40, 41, 42, 43, 44, 45, 46, 47, 48, 49, 50, 51, 52, 53, 54, 55, 56, 57, 58, 59, 60, 61, 62, 63, 64, 65, 66, 67, 68, 69, 70, 71, 72, 73, 74, 75, 76, 77] (by decide +kernel) (by decide +kernel)
set_option maxRecDepth 20000 in
theorem gX3_partLeft_X3_partRows : GoodIn wsX3_partLeft (wsV RX3 201 RX3 yX3_partRows wsX3_partRows) := goodIn_app (goodIn_of _ (by decide +kernel)) ggX3_partLeft_X3_partRows
theorem dX3_partLeft_0 : decode cX3_partLeft 0 = .ok (.aload_n 0, 1) := by decide +kernel
theorem dX3_partLeft_1 : decode cX3_partLeft 1 = .ok (.iload_n 1, 1) := by decide +kernel
theorem dX3_partLeft_2 : decode cX3_partLeft 2 = .ok (.aload_n 0, 1) := by decide +kernel
theorem dX3_partLeft_3 : decode cX3_partLeft 3 = .ok (.getfield 32, 3) := by decide +kernel
theorem dX3_partLeft_6 : decode cX3_partLeft 6 = .ok (.iconst 0, 1) := by decide +kernel
theorem dX3_partLeft_7 : decode cX3_partLeft 7 = .ok (.aload_n 0, 1) := by decide +kernel
theorem dX3_partLeft_8 : decode cX3_partLeft 8 = .ok (.getfield 133, 3) := by decide +kernel
theorem dX3_partLeft_11 : decode cX3_partLeft 11 = .ok (.invokevirtual 201, 3) := by decide +kernel
theorem dX3_partLeft_14 : decode cX3_partLeft 14 = .ok (.return_, 1) := by decide +kernel
set_option maxRecDepth 20000 in
theorem ggX3_partRows_X2_clear : GoodIn wsX3_partRows wsX2_clear := goodIn_r _ [7, 8, 9, 10, 11, 12, 13, 14, 15, 61, 62, 63, 64, 65] (by decide +kernel) (by decide +kernel)
set_option maxRecDepth 20000 in
theorem gX3_partRows_X2_clear : GoodIn wsX3_partRows (wsV RX3 205 RX2 yX2_clear wsX2_clear) := goodIn_app (goodIn_of _ (by decide +kernel)) ggX3_partRows_X2_clear
set_option maxRecDepth 20000 in
theorem ggX3_partRows_X1_compare : GoodIn wsX3_partRows wsX1_compare := goodIn_r _ [20, 21, 22, 23, 24, 25, 26, 27, 19, 28, 29, 30, 31, 32, 33, 34, 35, 36, 37, 38, 39, 40, 41, 42, 43, 66, 67, 68, 69, 70] (by decide +kernel) (by decide +kernel)
set_option maxRecDepth 20000 in
theorem gX3_partRows_X1_compare : GoodIn wsX3_partRows (wsV RX3 75 RX1 yX1_compare wsX1_compare) := goodIn_app (goodIn_of _ (by decide +kernel)) ggX3_partRows_X1_compare
set_option maxRecDepth 20000 in
theorem ggX3_partRows_X2_add : GoodIn wsX3_partRows wsX2_add := goodIn_r _ [47, 11, 8, 48, 9, 49, 50, 51, 52, 10, 61, 62, 63, 64, 65] (by decide +kernel) (by decide +kernel)
set_option maxRecDepth 20000 in
theorem gX3_partRows_X2_add : GoodIn wsX3_partRows (wsV RX3 208 RX2 yX2_add wsX2_add) := goodIn_app (goodIn_of _ (by decide +kernel)) ggX3_partRows_X2_add
theorem dX3_partRows_0 : decode cX3_partRows 0 = .ok (.aload_n 0, 1) := by decide +kernel
theorem dX3_partRows_1 : decode cX3_partRows 1 = .ok (.getfield 28, 3) := by decide +kernel
theorem dX3_partRows_4 : decode cX3_partRows 4 = .ok (.invokevirtual 205, 3) := by decide +kernel
theorem dX3_partRows_7 : decode cX3_partRows 7 = .ok (.iload_n 3, 1) := by decide +kernel
theorem dX3_partRows_8 : decode cX3_partRows 8 = .ok (.istore 5, 2) := by decide +kernel
theorem dX3_partRows_10 : decode cX3_partRows 10 = .ok (.iload 5, 2) := by decide +kernel
theorem dX3_partRows_12 : decode cX3_partRows 12 = .ok (.iload_n 3, 1) := by decide +kernel
theorem dX3_partRows_13 : decode cX3_partRows 13 = .ok (.iload 4, 2) := by decide +kernel
theorem dX3_partRows_15 : decode cX3_partRows 15 = .ok (.iadd, 1) := by decide +kernel
theorem dX3_partRows_16 : decode cX3_partRows 16 = .ok (.if_icmp .ge 35, 3) := by decide +kernel
theorem dX3_partRows_19 : decode cX3_partRows 19 = .ok (.iload 5, 2) := by decide +kernel
theorem dX3_partRows_21 : decode cX3_partRows 21 = .ok (.aload_n 2, 1) := by decide +kernel
theorem dX3_partRows_22 : decode cX3_partRows 22 = .ok (.arraylength, 1) := by decide +kernel
theorem dX3_partRows_23 : decode cX3_partRows 23 = .ok (.if_icmp .ge 28, 3) := by decide +kernel
theorem dX3_partRows_26 : decode cX3_partRows 26 = .ok (.aload_n 0, 1) := by decide +kernel
theorem dX3_partRows_27 : decode cX3_partRows 27 = .ok (.getfield 28, 3) := by decide +kernel
theorem dX3_partRows_30 : decode cX3_partRows 30 = .ok (.aload_n 0, 1) := by decide +kernel
theorem dX3_partRows_31 : decode cX3_partRows 31 = .ok (.getfield 12, 3) := by decide +kernel
theorem dX3_partRows_34 : decode cX3_partRows 34 = .ok (.iload_n 1, 1) := by decide +kernel
theorem dX3_partRows_35 : decode cX3_partRows 35 = .ok (.aload_n 2, 1) := by decide +kernel
theorem dX3_partRows_36 : decode cX3_partRows 36 = .ok (.iload 5, 2) := by decide +kernel
theorem dX3_partRows_38 : decode cX3_partRows 38 = .ok (.iaload, 1) := by decide +kernel
theorem dX3_partRows_39 : decode cX3_partRows 39 = .ok (.invokevirtual 75, 3) := by decide +kernel
theorem dX3_partRows_42 : decode cX3_partRows 42 = .ok (.invokevirtual 208, 3) := by decide +kernel
theorem dX3_partRows_45 : decode cX3_partRows 45 = .ok (.iinc 5 1, 3) := by decide +kernel
theorem dX3_partRows_48 : decode cX3_partRows 48 = .ok (.goto (-38), 3) := by decide +kernel
theorem dX3_partRows_51 : decode cX3_partRows 51 = .ok (.return_, 1) := by decide +kernel
set_option maxRecDepth 20000 in
theorem ggX3_bestFor_X3_partRows : GoodIn wsX3_bestFor wsX3_partRows := goodIn_r _ [8, 3, 1, 9, 10, 11, 12, 13, 14, 15, 16, 17, 18, 19, 20, 21, 22, 23, 24, 25, 26, 27, 28, 29, 30, 31, 32, 33, 34, 35, 36, 37, 38, 39, 40, 41, 42, 43, 44, 45, 46, 47, 48, 49, 50, 51, 52, 53, 54, 55, 56, 57, 58, 71, 72, 73, 74, 75, 76, 77, 78, 84, 85, 86, 87, 88, 79, 80, 81, 82, 83] (by decide +kernel) (by decide +kernel)
set_option maxRecDepth 20000 in
theorem gX3_bestFor_X3_partRows : GoodIn wsX3_bestFor (wsV RX3 201 RX3 yX3_partRows wsX3_partRows) := goodIn_app (goodIn_of _ (by decide +kernel)) ggX3_bestFor_X3_partRows
set_option maxRecDepth 20000 in
theorem ggX3_bestFor_X2_score : GoodIn wsX3_bestFor wsX2_score := goodIn_r _ [62, 15, 16, 14, 84, 85, 86, 87, 88] (by decide +kernel) (by decide +kernel)
set_option maxRecDepth 20000 in
theorem gX3_bestFor_X2_score : GoodIn wsX3_bestFor (wsV RX3 210 RX2 yX2_score wsX2_score) := goodIn_app (goodIn_of _ (by decide +kernel)) ggX3_bestFor_X2_score
set_option maxRecDepth 20000 in
theorem ggX3_bestFor_X1_allBlack : GoodIn wsX3_bestFor wsX1_allBlack := goodIn_r _ [66, 29, 79, 80, 81, 82, 83] (by decide +kernel) (by decide +kernel)
set_option maxRecDepth 20000 in
theorem gX3_bestFor_X1_allBlack : GoodIn wsX3_bestFor (wsV RX3 213 RX1 yX1_allBlack wsX1_allBlack) := goodIn_app (goodIn_of _ (by decide +kernel)) ggX3_bestFor_X1_allBlack
set_option maxRecDepth 20000 in
theorem ggX3_bestFor_X2_sizeWith : GoodIn wsX3_bestFor wsX2_sizeWith := goodIn_r _ [70, 17, 84, 85, 86, 87, 88] (by decide +kernel) (by decide +kernel)
set_option maxRecDepth 20000 in
theorem gX3_bestFor_X2_sizeWith : GoodIn wsX3_bestFor (wsV RX3 172 RX2 yX2_sizeWith wsX2_sizeWith) := goodIn_app (goodIn_of _ (by decide +kernel)) ggX3_bestFor_X2_sizeWith
theorem dX3_bestFor_0 : decode cX3_bestFor 0 = .ok (.iconst (-1), 1) := by decide +kernel
theorem dX3_bestFor_1 : decode cX3_bestFor 1 = .ok (.istore 5, 2) := by decide +kernel
theorem dX3_bestFor_3 : decode cX3_bestFor 3 = .ok (.iconst 0, 1) := by decide +kernel
theorem dX3_bestFor_4 : decode cX3_bestFor 4 = .ok (.istore 6, 2) := by decide +kernel
theorem dX3_bestFor_6 : decode cX3_bestFor 6 = .ok (.iconst 0, 1) := by decide +kernel
theorem dX3_bestFor_7 : decode cX3_bestFor 7 = .ok (.istore 7, 2) := by decide +kernel
theorem dX3_bestFor_9 : decode cX3_bestFor 9 = .ok (.iconst 0, 1) := by decide +kernel
theorem dX3_bestFor_10 : decode cX3_bestFor 10 = .ok (.istore 8, 2) := by decide +kernel
theorem dX3_bestFor_12 : decode cX3_bestFor 12 = .ok (.iload 8, 2) := by decide +kernel
theorem dX3_bestFor_14 : decode cX3_bestFor 14 = .ok (.aload_n 0, 1) := by decide +kernel
theorem dX3_bestFor_15 : decode cX3_bestFor 15 = .ok (.getfield 12, 3) := by decide +kernel
theorem dX3_bestFor_18 : decode cX3_bestFor 18 = .ok (.getfield 53, 3) := by decide +kernel
theorem dX3_bestFor_21 : decode cX3_bestFor 21 = .ok (.if_icmp .ge 107, 3) := by decide +kernel
theorem dX3_bestFor_24 : decode cX3_bestFor 24 = .ok (.aload_n 0, 1) := by decide +kernel
theorem dX3_bestFor_25 : decode cX3_bestFor 25 = .ok (.iload 8, 2) := by decide +kernel
theorem dX3_bestFor_27 : decode cX3_bestFor 27 = .ok (.aload_n 2, 1) := by decide +kernel
theorem dX3_bestFor_28 : decode cX3_bestFor 28 = .ok (.iload_n 3, 1) := by decide +kernel
theorem dX3_bestFor_29 : decode cX3_bestFor 29 = .ok (.iload 4, 2) := by decide +kernel
theorem dX3_bestFor_31 : decode cX3_bestFor 31 = .ok (.invokevirtual 201, 3) := by decide +kernel
theorem dX3_bestFor_34 : decode cX3_bestFor 34 = .ok (.aload_n 0, 1) := by decide +kernel
theorem dX3_bestFor_35 : decode cX3_bestFor 35 = .ok (.getfield 28, 3) := by decide +kernel
theorem dX3_bestFor_38 : decode cX3_bestFor 38 = .ok (.iload_n 1, 1) := by decide +kernel
theorem dX3_bestFor_39 : decode cX3_bestFor 39 = .ok (.invokevirtual 210, 3) := by decide +kernel
theorem dX3_bestFor_42 : decode cX3_bestFor 42 = .ok (.istore 9, 2) := by decide +kernel
theorem dX3_bestFor_44 : decode cX3_bestFor 44 = .ok (.aload_n 0, 1) := by decide +kernel
theorem dX3_bestFor_45 : decode cX3_bestFor 45 = .ok (.getfield 28, 3) := by decide +kernel
theorem dX3_bestFor_48 : decode cX3_bestFor 48 = .ok (.aload_n 0, 1) := by decide +kernel
theorem dX3_bestFor_49 : decode cX3_bestFor 49 = .ok (.getfield 12, 3) := by decide +kernel
theorem dX3_bestFor_52 : decode cX3_bestFor 52 = .ok (.invokevirtual 213, 3) := by decide +kernel
theorem dX3_bestFor_55 : decode cX3_bestFor 55 = .ok (.invokevirtual 172, 3) := by decide +kernel
theorem dX3_bestFor_58 : decode cX3_bestFor 58 = .ok (.ifCond .le 7, 3) := by decide +kernel
theorem dX3_bestFor_61 : decode cX3_bestFor 61 = .ok (.iconst 1, 1) := by decide +kernel
theorem dX3_bestFor_62 : decode cX3_bestFor 62 = .ok (.goto 4, 3) := by decide +kernel
theorem dX3_bestFor_65 : decode cX3_bestFor 65 = .ok (.iconst 0, 1) := by decide +kernel
theorem dX3_bestFor_66 : decode cX3_bestFor 66 = .ok (.istore 10, 2) := by decide +kernel
theorem dX3_bestFor_68 : decode cX3_bestFor 68 = .ok (.iload 9, 2) := by decide +kernel
theorem dX3_bestFor_70 : decode cX3_bestFor 70 = .ok (.iload 6, 2) := by decide +kernel
theorem dX3_bestFor_72 : decode cX3_bestFor 72 = .ok (.if_icmp .ne 17, 3) := by decide +kernel
theorem dX3_bestFor_75 : decode cX3_bestFor 75 = .ok (.iload 10, 2) := by decide +kernel
theorem dX3_bestFor_77 : decode cX3_bestFor 77 = .ok (.ifCond .eq 12, 3) := by decide +kernel
theorem dX3_bestFor_80 : decode cX3_bestFor 80 = .ok (.iload 7, 2) := by decide +kernel
theorem dX3_bestFor_82 : decode cX3_bestFor 82 = .ok (.ifCond .ne 7, 3) := by decide +kernel
theorem dX3_bestFor_85 : decode cX3_bestFor 85 = .ok (.iconst 1, 1) := by decide +kernel
theorem dX3_bestFor_86 : decode cX3_bestFor 86 = .ok (.goto 4, 3) := by decide +kernel
theorem dX3_bestFor_89 : decode cX3_bestFor 89 = .ok (.iconst 0, 1) := by decide +kernel
theorem dX3_bestFor_90 : decode cX3_bestFor 90 = .ok (.istore 11, 2) := by decide +kernel
theorem dX3_bestFor_92 : decode cX3_bestFor 92 = .ok (.iload 5, 2) := by decide +kernel
theorem dX3_bestFor_94 : decode cX3_bestFor 94 = .ok (.iconst (-1), 1) := by decide +kernel
theorem dX3_bestFor_95 : decode cX3_bestFor 95 = .ok (.if_icmp .eq 15, 3) := by decide +kernel
theorem dX3_bestFor_98 : decode cX3_bestFor 98 = .ok (.iload 9, 2) := by decide +kernel
theorem dX3_bestFor_100 : decode cX3_bestFor 100 = .ok (.iload 6, 2) := by decide +kernel
theorem dX3_bestFor_102 : decode cX3_bestFor 102 = .ok (.if_icmp .lt 8, 3) := by decide +kernel
theorem dX3_bestFor_105 : decode cX3_bestFor 105 = .ok (.iload 11, 2) := by decide +kernel
theorem dX3_bestFor_107 : decode cX3_bestFor 107 = .ok (.ifCond .eq 15, 3) := by decide +kernel
theorem dX3_bestFor_110 : decode cX3_bestFor 110 = .ok (.iload 8, 2) := by decide +kernel
theorem dX3_bestFor_112 : decode cX3_bestFor 112 = .ok (.istore 5, 2) := by decide +kernel
theorem dX3_bestFor_114 : decode cX3_bestFor 114 = .ok (.iload 9, 2) := by decide +kernel
theorem dX3_bestFor_116 : decode cX3_bestFor 116 = .ok (.istore 6, 2) := by decide +kernel
theorem dX3_bestFor_118 : decode cX3_bestFor 118 = .ok (.iload 10, 2) := by decide +kernel
theorem dX3_bestFor_120 : decode cX3_bestFor 120 = .ok (.istore 7, 2) := by decide +kernel
theorem dX3_bestFor_122 : decode cX3_bestFor 122 = .ok (.iinc 8 1, 3) := by decide +kernel
theorem dX3_bestFor_125 : decode cX3_bestFor 125 = .ok (.goto (-113), 3) := by decide +kernel
theorem dX3_bestFor_128 : decode cX3_bestFor 128 = .ok (.iload 5, 2) := by decide +kernel
theorem dX3_bestFor_130 : decode cX3_bestFor 130 = .ok (.ireturn, 1) := by decide +kernel
set_option maxRecDepth 20000 in
theorem ggX3_guessesFor_X3_bestFor : GoodIn wsX3_guessesFor wsX3_bestFor := goodIn_r _ [11, 2, 12, 13, 14, 15, 16, 10, 17, 18, 19, 20, 21, 22, 23, 24, 25, 26, 27, 28, 29, 30, 31, 32, 33, 34, 35, 36, 37, 38, 39, 40, 41, 42, 43, 44, 45, 46, 47, 48, 49, 50, 51, 52, 53, 54, 55, 56, 57, 58, 59, 60, 61, 62, 63, 64, 4, 5, 6, 65, 66, 67, 68, 69, 70, 71, 72, 73, 74, 75, 76, 88, 89, 90, 91, 92, 93, 94, 95, 96, 97, 98, 99, 100, 101, 102, 103, 104, 105] (by decide +kernel) (by decide +kernel)
set_option maxRecDepth 20000 in
theorem gX3_guessesFor_X3_bestFor : GoodIn wsX3_guessesFor (wsV RX3 185 RX3 yX3_bestFor wsX3_bestFor) := goodIn_app (goodIn_of _ (by decide +kernel)) ggX3_guessesFor_X3_bestFor
set_option maxRecDepth 20000 in
theorem ggX3_guessesFor_X3_opensPart : GoodIn wsX3_guessesFor wsX3_opensPart := goodIn_r _ [80, 2, 1, 31, 32, 33, 34, 35, 36, 37, 38, 39, 40, 41, 42, 43, 44, 45, 46, 47, 48, 49, 50, 51, 52, 53, 54, 55, 56, 57, 58, 88, 89, 90, 91, 92, 93, 94, 95, 96, 97, 98, 99, 100] (by decide +kernel) (by decide +kernel)
set_option maxRecDepth 20000 in
theorem gX3_guessesFor_X3_opensPart : GoodIn wsX3_guessesFor (wsV RX3 217 RX3 yX3_opensPart wsX3_opensPart) := goodIn_app (goodIn_of _ (by decide +kernel)) ggX3_guessesFor_X3_opensPart
set_option maxRecDepth 20000 in
theorem ggX3_guessesFor_X1_compare : GoodIn wsX3_guessesFor wsX1_compare := goodIn_r _ [35, 36, 37, 38, 39, 40, 41, 42, 34, 43, 44, 45, 46, 47, 48, 49, 50, 51, 52, 53, 54, 55, 56, 57, 58, 96, 97, 98, 99, 100] (by decide +kernel) (by decide +kernel)
set_option maxRecDepth 20000 in
theorem gX3_guessesFor_X1_compare : GoodIn wsX3_guessesFor (wsV RX3 75 RX1 yX1_compare wsX1_compare) := goodIn_app (goodIn_of _ (by decide +kernel)) ggX3_guessesFor_X1_compare
set_option maxRecDepth 20000 in
theorem ggX3_guessesFor_X3_guessesForPart : GoodIn wsX3_guessesFor wsX3_guessesForPart := goodIn_r _ [84, 1, 2, 31, 32, 33, 34, 35, 36, 37, 38, 39, 40, 41, 42, 43, 44, 45, 46, 47, 48, 49, 50, 51, 52, 53, 54, 55, 56, 57, 58, 85, 86, 87, 10, 0, 3, 4, 5, 6, 7, 8, 9, 11, 12, 13, 14, 15, 16, 17, 18, 19, 20, 21, 22, 23, 24, 25, 26, 27, 28, 29, 30, 59, 60, 61, 62, 63, 64, 65, 66, 67, 68, 69, 70, 71, 72, 73, 74, 75, 76, 77, 78, 79, 80, 81, 82, 83, 88, 89, 90, 91, 92, 93, 94, 95, 96, 97, 98, 99, 100, 101, 102, 103, 104, 105] (by decide +kernel) (by decide +kernel)
set_option maxRecDepth 20000 in
theorem gX3_guessesFor_X3_guessesForPart : GoodIn wsX3_guessesFor (wsV RX3 221 RX3 yX3_guessesForPart wsX3_guessesForPart) := goodIn_app (goodIn_of _ (by decide +kernel)) ggX3_guessesFor_X3_guessesForPart
theorem dX3_guessesFor_0 : decode cX3_guessesFor 0 = .ok (.iload_n 2, 1) := by decide +kernel
theorem dX3_guessesFor_1 : decode cX3_guessesFor 1 = .ok (.iconst 1, 1) := by decide +kernel
theorem dX3_guessesFor_2 : decode cX3_guessesFor 2 = .ok (.if_icmp .le 9, 3) := by decide +kernel
theorem dX3_guessesFor_5 : decode cX3_guessesFor 5 = .ok (.iload_n 3, 1) := by decide +kernel
theorem dX3_guessesFor_6 : decode cX3_guessesFor 6 = .ok (.bipush 24, 2) := by decide +kernel
theorem dX3_guessesFor_8 : decode cX3_guessesFor 8 = .ok (.if_icmp .lt 5, 3) := by decide +kernel
theorem dX3_guessesFor_11 : decode cX3_guessesFor 11 = .ok (.iconst 1, 1) := by decide +kernel
theorem dX3_guessesFor_12 : decode cX3_guessesFor 12 = .ok (.ireturn, 1) := by decide +kernel
theorem dX3_guessesFor_13 : decode cX3_guessesFor 13 = .ok (.aload_n 0, 1) := by decide +kernel
theorem dX3_guessesFor_14 : decode cX3_guessesFor 14 = .ok (.iconst 0, 1) := by decide +kernel
theorem dX3_guessesFor_15 : decode cX3_guessesFor 15 = .ok (.aload_n 0, 1) := by decide +kernel
theorem dX3_guessesFor_16 : decode cX3_guessesFor 16 = .ok (.getfield 36, 3) := by decide +kernel
theorem dX3_guessesFor_19 : decode cX3_guessesFor 19 = .ok (.iload_n 1, 1) := by decide +kernel
theorem dX3_guessesFor_20 : decode cX3_guessesFor 20 = .ok (.iload_n 2, 1) := by decide +kernel
theorem dX3_guessesFor_21 : decode cX3_guessesFor 21 = .ok (.invokevirtual 185, 3) := by decide +kernel
theorem dX3_guessesFor_24 : decode cX3_guessesFor 24 = .ok (.istore 4, 2) := by decide +kernel
theorem dX3_guessesFor_26 : decode cX3_guessesFor 26 = .ok (.iconst 0, 1) := by decide +kernel
theorem dX3_guessesFor_27 : decode cX3_guessesFor 27 = .ok (.istore 5, 2) := by decide +kernel
theorem dX3_guessesFor_29 : decode cX3_guessesFor 29 = .ok (.iload_n 1, 1) := by decide +kernel
theorem dX3_guessesFor_30 : decode cX3_guessesFor 30 = .ok (.istore 6, 2) := by decide +kernel
theorem dX3_guessesFor_32 : decode cX3_guessesFor 32 = .ok (.iload 6, 2) := by decide +kernel
theorem dX3_guessesFor_34 : decode cX3_guessesFor 34 = .ok (.iload_n 1, 1) := by decide +kernel
theorem dX3_guessesFor_35 : decode cX3_guessesFor 35 = .ok (.iload_n 2, 1) := by decide +kernel
theorem dX3_guessesFor_36 : decode cX3_guessesFor 36 = .ok (.iadd, 1) := by decide +kernel
theorem dX3_guessesFor_37 : decode cX3_guessesFor 37 = .ok (.if_icmp .ge 79, 3) := by decide +kernel
theorem dX3_guessesFor_40 : decode cX3_guessesFor 40 = .ok (.iload 6, 2) := by decide +kernel
theorem dX3_guessesFor_42 : decode cX3_guessesFor 42 = .ok (.aload_n 0, 1) := by decide +kernel
theorem dX3_guessesFor_43 : decode cX3_guessesFor 43 = .ok (.getfield 36, 3) := by decide +kernel
theorem dX3_guessesFor_46 : decode cX3_guessesFor 46 = .ok (.arraylength, 1) := by decide +kernel
theorem dX3_guessesFor_47 : decode cX3_guessesFor 47 = .ok (.if_icmp .ge 69, 3) := by decide +kernel
theorem dX3_guessesFor_50 : decode cX3_guessesFor 50 = .ok (.aload_n 0, 1) := by decide +kernel
theorem dX3_guessesFor_51 : decode cX3_guessesFor 51 = .ok (.getfield 36, 3) := by decide +kernel
theorem dX3_guessesFor_54 : decode cX3_guessesFor 54 = .ok (.iload 6, 2) := by decide +kernel
theorem dX3_guessesFor_56 : decode cX3_guessesFor 56 = .ok (.iaload, 1) := by decide +kernel
theorem dX3_guessesFor_57 : decode cX3_guessesFor 57 = .ok (.iload 4, 2) := by decide +kernel
theorem dX3_guessesFor_59 : decode cX3_guessesFor 59 = .ok (.if_icmp .eq 51, 3) := by decide +kernel
theorem dX3_guessesFor_62 : decode cX3_guessesFor 62 = .ok (.aload_n 0, 1) := by decide +kernel
theorem dX3_guessesFor_63 : decode cX3_guessesFor 63 = .ok (.iload 4, 2) := by decide +kernel
theorem dX3_guessesFor_65 : decode cX3_guessesFor 65 = .ok (.iload_n 1, 1) := by decide +kernel
theorem dX3_guessesFor_66 : decode cX3_guessesFor 66 = .ok (.iload 6, 2) := by decide +kernel
theorem dX3_guessesFor_68 : decode cX3_guessesFor 68 = .ok (.invokevirtual 217, 3) := by decide +kernel
theorem dX3_guessesFor_71 : decode cX3_guessesFor 71 = .ok (.ifCond .eq 39, 3) := by decide +kernel
theorem dX3_guessesFor_74 : decode cX3_guessesFor 74 = .ok (.aload_n 0, 1) := by decide +kernel
theorem dX3_guessesFor_75 : decode cX3_guessesFor 75 = .ok (.getfield 12, 3) := by decide +kernel
theorem dX3_guessesFor_78 : decode cX3_guessesFor 78 = .ok (.iload 4, 2) := by decide +kernel
theorem dX3_guessesFor_80 : decode cX3_guessesFor 80 = .ok (.aload_n 0, 1) := by decide +kernel
theorem dX3_guessesFor_81 : decode cX3_guessesFor 81 = .ok (.getfield 36, 3) := by decide +kernel
theorem dX3_guessesFor_84 : decode cX3_guessesFor 84 = .ok (.iload 6, 2) := by decide +kernel
theorem dX3_guessesFor_86 : decode cX3_guessesFor 86 = .ok (.iaload, 1) := by decide +kernel
theorem dX3_guessesFor_87 : decode cX3_guessesFor 87 = .ok (.invokevirtual 75, 3) := by decide +kernel
theorem dX3_guessesFor_90 : decode cX3_guessesFor 90 = .ok (.istore 7, 2) := by decide +kernel
theorem dX3_guessesFor_92 : decode cX3_guessesFor 92 = .ok (.iload 5, 2) := by decide +kernel
theorem dX3_guessesFor_94 : decode cX3_guessesFor 94 = .ok (.aload_n 0, 1) := by decide +kernel
theorem dX3_guessesFor_95 : decode cX3_guessesFor 95 = .ok (.iload 4, 2) := by decide +kernel
theorem dX3_guessesFor_97 : decode cX3_guessesFor 97 = .ok (.iload 7, 2) := by decide +kernel
theorem dX3_guessesFor_99 : decode cX3_guessesFor 99 = .ok (.iload_n 1, 1) := by decide +kernel
theorem dX3_guessesFor_100 : decode cX3_guessesFor 100 = .ok (.iload_n 2, 1) := by decide +kernel
theorem dX3_guessesFor_101 : decode cX3_guessesFor 101 = .ok (.iload_n 3, 1) := by decide +kernel
theorem dX3_guessesFor_102 : decode cX3_guessesFor 102 = .ok (.invokevirtual 221, 3) := by decide +kernel
theorem dX3_guessesFor_105 : decode cX3_guessesFor 105 = .ok (.invokestatic 225, 3) := by decide +kernel
theorem dX3_guessesFor_108 : decode cX3_guessesFor 108 = .ok (.istore 5, 2) := by decide +kernel
theorem dX3_guessesFor_110 : decode cX3_guessesFor 110 = .ok (.iinc 6 1, 3) := by decide +kernel
theorem dX3_guessesFor_113 : decode cX3_guessesFor 113 = .ok (.goto (-81), 3) := by decide +kernel
theorem dX3_guessesFor_116 : decode cX3_guessesFor 116 = .ok (.iconst 1, 1) := by decide +kernel
theorem dX3_guessesFor_117 : decode cX3_guessesFor 117 = .ok (.iload 5, 2) := by decide +kernel
theorem dX3_guessesFor_119 : decode cX3_guessesFor 119 = .ok (.iadd, 1) := by decide +kernel
theorem dX3_guessesFor_120 : decode cX3_guessesFor 120 = .ok (.ireturn, 1) := by decide +kernel
set_option maxRecDepth 20000 in
theorem ggX3_guessesForPart_X1_compare : GoodIn wsX3_guessesForPart wsX1_compare := goodIn_r _ [7, 8, 9, 10, 11, 12, 13, 14, 6, 15, 16, 17, 18, 19, 20, 21, 22, 23, 24, 25, 26, 27, 28, 29, 30, 96, 97, 98, 99, 100] (by decide +kernel) (by decide +kernel)
set_option maxRecDepth 20000 in
theorem gX3_guessesForPart_X1_compare : GoodIn wsX3_guessesForPart (wsV RX3 75 RX1 yX1_compare wsX1_compare) := goodIn_app (goodIn_of _ (by decide +kernel)) ggX3_guessesForPart_X1_compare
set_option maxRecDepth 20000 in
theorem ggX3_guessesForPart_X3_guessesFor : GoodIn wsX3_guessesForPart wsX3_guessesFor := goodIn_r _ [35, 1, 2, 36, 37, 38, 39, 40, 41, 42, 34, 43, 44, 45, 46, 47, 48, 49, 50, 51, 52, 53, 54, 55, 56, 57, 58, 59, 60, 61, 62, 3, 4, 5, 6, 7, 8, 9, 10, 11, 12, 13, 14, 15, 16, 17, 18, 19, 20, 21, 22, 23, 24, 25, 26, 27, 28, 29, 30, 63, 64, 65, 66, 67, 68, 69, 70, 71, 72, 73, 74, 75, 76, 77, 78, 79, 80, 81, 82, 83, 84, 85, 86, 87, 0, 31, 32, 33, 88, 89, 90, 91, 92, 93, 94, 95, 96, 97, 98, 99, 100, 101, 102, 103, 104, 105] (by decide +kernel) (by decide +kernel)
set_option maxRecDepth 20000 in
theorem gX3_guessesForPart_X3_guessesFor : GoodIn wsX3_guessesForPart (wsV RX3 197 RX3 yX3_guessesFor wsX3_guessesFor) := goodIn_app (goodIn_of _ (by decide +kernel)) ggX3_guessesForPart_X3_guessesFor
theorem dX3_guessesForPart_0 : decode cX3_guessesForPart 0 = .ok (.iload_n 3, 1) := by decide +kernel
theorem dX3_guessesForPart_1 : decode cX3_guessesForPart 1 = .ok (.iload 4, 2) := by decide +kernel
theorem dX3_guessesForPart_3 : decode cX3_guessesForPart 3 = .ok (.iadd, 1) := by decide +kernel
theorem dX3_guessesForPart_4 : decode cX3_guessesForPart 4 = .ok (.istore 6, 2) := by decide +kernel
theorem dX3_guessesForPart_6 : decode cX3_guessesForPart 6 = .ok (.iload 6, 2) := by decide +kernel
theorem dX3_guessesForPart_8 : decode cX3_guessesForPart 8 = .ok (.istore 7, 2) := by decide +kernel
theorem dX3_guessesForPart_10 : decode cX3_guessesForPart 10 = .ok (.iload_n 3, 1) := by decide +kernel
theorem dX3_guessesForPart_11 : decode cX3_guessesForPart 11 = .ok (.istore 8, 2) := by decide +kernel
theorem dX3_guessesForPart_13 : decode cX3_guessesForPart 13 = .ok (.iload 8, 2) := by decide +kernel
theorem dX3_guessesForPart_15 : decode cX3_guessesForPart 15 = .ok (.iload 6, 2) := by decide +kernel
theorem dX3_guessesForPart_17 : decode cX3_guessesForPart 17 = .ok (.if_icmp .ge 55, 3) := by decide +kernel
theorem dX3_guessesForPart_20 : decode cX3_guessesForPart 20 = .ok (.iload 7, 2) := by decide +kernel
theorem dX3_guessesForPart_22 : decode cX3_guessesForPart 22 = .ok (.aload_n 0, 1) := by decide +kernel
theorem dX3_guessesForPart_23 : decode cX3_guessesForPart 23 = .ok (.getfield 36, 3) := by decide +kernel
theorem dX3_guessesForPart_26 : decode cX3_guessesForPart 26 = .ok (.arraylength, 1) := by decide +kernel
theorem dX3_guessesForPart_27 : decode cX3_guessesForPart 27 = .ok (.if_icmp .ge 45, 3) := by decide +kernel
theorem dX3_guessesForPart_30 : decode cX3_guessesForPart 30 = .ok (.aload_n 0, 1) := by decide +kernel
theorem dX3_guessesForPart_31 : decode cX3_guessesForPart 31 = .ok (.getfield 12, 3) := by decide +kernel
theorem dX3_guessesForPart_34 : decode cX3_guessesForPart 34 = .ok (.iload_n 1, 1) := by decide +kernel
theorem dX3_guessesForPart_35 : decode cX3_guessesForPart 35 = .ok (.aload_n 0, 1) := by decide +kernel
theorem dX3_guessesForPart_36 : decode cX3_guessesForPart 36 = .ok (.getfield 36, 3) := by decide +kernel
theorem dX3_guessesForPart_39 : decode cX3_guessesForPart 39 = .ok (.iload 8, 2) := by decide +kernel
theorem dX3_guessesForPart_41 : decode cX3_guessesForPart 41 = .ok (.iaload, 1) := by decide +kernel
theorem dX3_guessesForPart_42 : decode cX3_guessesForPart 42 = .ok (.invokevirtual 75, 3) := by decide +kernel
theorem dX3_guessesForPart_45 : decode cX3_guessesForPart 45 = .ok (.iload_n 2, 1) := by decide +kernel
theorem dX3_guessesForPart_46 : decode cX3_guessesForPart 46 = .ok (.if_icmp .ne 20, 3) := by decide +kernel
theorem dX3_guessesForPart_49 : decode cX3_guessesForPart 49 = .ok (.aload_n 0, 1) := by decide +kernel
theorem dX3_guessesForPart_50 : decode cX3_guessesForPart 50 = .ok (.getfield 36, 3) := by decide +kernel
theorem dX3_guessesForPart_53 : decode cX3_guessesForPart 53 = .ok (.iload 7, 2) := by decide +kernel
theorem dX3_guessesForPart_55 : decode cX3_guessesForPart 55 = .ok (.aload_n 0, 1) := by decide +kernel
theorem dX3_guessesForPart_56 : decode cX3_guessesForPart 56 = .ok (.getfield 36, 3) := by decide +kernel
theorem dX3_guessesForPart_59 : decode cX3_guessesForPart 59 = .ok (.iload 8, 2) := by decide +kernel
theorem dX3_guessesForPart_61 : decode cX3_guessesForPart 61 = .ok (.iaload, 1) := by decide +kernel
theorem dX3_guessesForPart_62 : decode cX3_guessesForPart 62 = .ok (.iastore, 1) := by decide +kernel
theorem dX3_guessesForPart_63 : decode cX3_guessesForPart 63 = .ok (.iinc 7 1, 3) := by decide +kernel
theorem dX3_guessesForPart_66 : decode cX3_guessesForPart 66 = .ok (.iinc 8 1, 3) := by decide +kernel
theorem dX3_guessesForPart_69 : decode cX3_guessesForPart 69 = .ok (.goto (-56), 3) := by decide +kernel
theorem dX3_guessesForPart_72 : decode cX3_guessesForPart 72 = .ok (.aload_n 0, 1) := by decide +kernel
theorem dX3_guessesForPart_73 : decode cX3_guessesForPart 73 = .ok (.iload 6, 2) := by decide +kernel
theorem dX3_guessesForPart_75 : decode cX3_guessesForPart 75 = .ok (.iload 7, 2) := by decide +kernel
theorem dX3_guessesForPart_77 : decode cX3_guessesForPart 77 = .ok (.iload 6, 2) := by decide +kernel
theorem dX3_guessesForPart_79 : decode cX3_guessesForPart 79 = .ok (.isub, 1) := by decide +kernel
theorem dX3_guessesForPart_80 : decode cX3_guessesForPart 80 = .ok (.iload 5, 2) := by decide +kernel
theorem dX3_guessesForPart_82 : decode cX3_guessesForPart 82 = .ok (.iconst 1, 1) := by decide +kernel
theorem dX3_guessesForPart_83 : decode cX3_guessesForPart 83 = .ok (.iadd, 1) := by decide +kernel
theorem dX3_guessesForPart_84 : decode cX3_guessesForPart 84 = .ok (.invokevirtual 197, 3) := by decide +kernel
theorem dX3_guessesForPart_87 : decode cX3_guessesForPart 87 = .ok (.ireturn, 1) := by decide +kernel
set_option maxRecDepth 20000 in
theorem ggX3_opensPart_X1_compare : GoodIn wsX3_opensPart wsX1_compare := goodIn_r _ [7, 8, 9, 10, 11, 12, 13, 14, 6, 15, 16, 17, 18, 19, 20, 21, 22, 23, 24, 25, 26, 27, 28, 29, 30, 39, 40, 41, 42, 43] (by decide +kernel) (by decide +kernel)
set_option maxRecDepth 20000 in
theorem gX3_opensPart_X1_compare : GoodIn wsX3_opensPart (wsV RX3 75 RX1 yX1_compare wsX1_compare) := goodIn_app (goodIn_of _ (by decide +kernel)) ggX3_opensPart_X1_compare
theorem dX3_opensPart_0 : decode cX3_opensPart 0 = .ok (.aload_n 0, 1) := by decide +kernel
theorem dX3_opensPart_1 : decode cX3_opensPart 1 = .ok (.getfield 12, 3) := by decide +kernel
theorem dX3_opensPart_4 : decode cX3_opensPart 4 = .ok (.iload_n 1, 1) := by decide +kernel
theorem dX3_opensPart_5 : decode cX3_opensPart 5 = .ok (.aload_n 0, 1) := by decide +kernel
theorem dX3_opensPart_6 : decode cX3_opensPart 6 = .ok (.getfield 36, 3) := by decide +kernel
theorem dX3_opensPart_9 : decode cX3_opensPart 9 = .ok (.iload_n 3, 1) := by decide +kernel
theorem dX3_opensPart_10 : decode cX3_opensPart 10 = .ok (.iaload, 1) := by decide +kernel
theorem dX3_opensPart_11 : decode cX3_opensPart 11 = .ok (.invokevirtual 75, 3) := by decide +kernel
theorem dX3_opensPart_14 : decode cX3_opensPart 14 = .ok (.istore 4, 2) := by decide +kernel
theorem dX3_opensPart_16 : decode cX3_opensPart 16 = .ok (.iload_n 2, 1) := by decide +kernel
theorem dX3_opensPart_17 : decode cX3_opensPart 17 = .ok (.istore 5, 2) := by decide +kernel
theorem dX3_opensPart_19 : decode cX3_opensPart 19 = .ok (.iload 5, 2) := by decide +kernel
theorem dX3_opensPart_21 : decode cX3_opensPart 21 = .ok (.iload_n 3, 1) := by decide +kernel
theorem dX3_opensPart_22 : decode cX3_opensPart 22 = .ok (.if_icmp .ge 31, 3) := by decide +kernel
theorem dX3_opensPart_25 : decode cX3_opensPart 25 = .ok (.aload_n 0, 1) := by decide +kernel
theorem dX3_opensPart_26 : decode cX3_opensPart 26 = .ok (.getfield 12, 3) := by decide +kernel
theorem dX3_opensPart_29 : decode cX3_opensPart 29 = .ok (.iload_n 1, 1) := by decide +kernel
theorem dX3_opensPart_30 : decode cX3_opensPart 30 = .ok (.aload_n 0, 1) := by decide +kernel
theorem dX3_opensPart_31 : decode cX3_opensPart 31 = .ok (.getfield 36, 3) := by decide +kernel
theorem dX3_opensPart_34 : decode cX3_opensPart 34 = .ok (.iload 5, 2) := by decide +kernel
theorem dX3_opensPart_36 : decode cX3_opensPart 36 = .ok (.iaload, 1) := by decide +kernel
theorem dX3_opensPart_37 : decode cX3_opensPart 37 = .ok (.invokevirtual 75, 3) := by decide +kernel
theorem dX3_opensPart_40 : decode cX3_opensPart 40 = .ok (.iload 4, 2) := by decide +kernel
theorem dX3_opensPart_42 : decode cX3_opensPart 42 = .ok (.if_icmp .ne 5, 3) := by decide +kernel
theorem dX3_opensPart_45 : decode cX3_opensPart 45 = .ok (.iconst 0, 1) := by decide +kernel
theorem dX3_opensPart_46 : decode cX3_opensPart 46 = .ok (.ireturn, 1) := by decide +kernel
theorem dX3_opensPart_47 : decode cX3_opensPart 47 = .ok (.iinc 5 1, 3) := by decide +kernel
theorem dX3_opensPart_50 : decode cX3_opensPart 50 = .ok (.goto (-31), 3) := by decide +kernel
theorem dX3_opensPart_53 : decode cX3_opensPart 53 = .ok (.iconst 1, 1) := by decide +kernel
theorem dX3_opensPart_54 : decode cX3_opensPart 54 = .ok (.ireturn, 1) := by decide +kernel
set_option maxRecDepth 20000 in
theorem ggX3_proofSize_X3_shortestProof : GoodIn wsX3_proofSize wsX3_shortestProof := goodIn_r _ [6, 7, 8, 9, 10, 11, 12, 13, 14, 15, 16, 17, 18, 19, 20, 21, 22, 23, 5, 24, 25, 26, 27, 28, 29, 30, 31, 32, 33, 34, 35, 36, 37, 38, 39, 40, 41, 42, 43, 44, 45, 46, 47, 48, 49, 50, 51, 52, 53, 54, 55, 56, 57, 58] (by decide +kernel) (by decide +kernel)
set_option maxRecDepth 20000 in
theorem gX3_proofSize_X3_shortestProof : GoodIn wsX3_proofSize (wsV RX3 230 RX3 yX3_shortestProof wsX3_shortestProof) := goodIn_app (goodIn_of _ (by decide +kernel)) ggX3_proofSize_X3_shortestProof
set_option maxRecDepth 20000 in
theorem ggX3_proofSize_J6_bitCount_0f7a4 : GoodIn wsX3_proofSize wsJ6_bitCount_0f7a4 := goodIn_r _ [17, 18, 19, 20] (by decide +kernel) (by decide +kernel)
set_option maxRecDepth 20000 in
theorem gX3_proofSize_J6_bitCount_0f7a4 : GoodIn wsX3_proofSize (va_wsS RX3 233 yJ6_bitCount_0f7a4 wsJ6_bitCount_0f7a4) := goodIn_app (goodIn_of _ (by decide +kernel)) ggX3_proofSize_J6_bitCount_0f7a4
theorem dX3_proofSize_0 : decode cX3_proofSize 0 = .ok (.aload_n 0, 1) := by decide +kernel
theorem dX3_proofSize_1 : decode cX3_proofSize 1 = .ok (.getfield 133, 3) := by decide +kernel
theorem dX3_proofSize_4 : decode cX3_proofSize 4 = .ok (.iconst 1, 1) := by decide +kernel
theorem dX3_proofSize_5 : decode cX3_proofSize 5 = .ok (.if_icmp .ne 13, 3) := by decide +kernel
theorem dX3_proofSize_8 : decode cX3_proofSize 8 = .ok (.aload_n 0, 1) := by decide +kernel
theorem dX3_proofSize_9 : decode cX3_proofSize 9 = .ok (.invokevirtual 230, 3) := by decide +kernel
theorem dX3_proofSize_12 : decode cX3_proofSize 12 = .ok (.invokestatic 233, 3) := by decide +kernel
theorem dX3_proofSize_15 : decode cX3_proofSize 15 = .ok (.goto 4, 3) := by decide +kernel
theorem dX3_proofSize_18 : decode cX3_proofSize 18 = .ok (.iconst (-1), 1) := by decide +kernel
theorem dX3_proofSize_19 : decode cX3_proofSize 19 = .ok (.ireturn, 1) := by decide +kernel
set_option maxRecDepth 20000 in
theorem ggX3_isInProof_X3_requireEntry : GoodIn wsX3_isInProof wsX3_requireEntry := goodIn_ca (goodIn_r _ [9, 10, 11, 4, 12, 13, 14, 15, 16, 17, 58, 59, 60, 61, 62, 63, 64, 65, 66, 67, 68, 69, 70] (by decide +kernel) (by decide +kernel)) (goodIn_sub (fun _ h => List.mem_cons_of_mem _ (List.mem_append_right _ h)) (by decide +kernel))
set_option maxRecDepth 20000 in
theorem gX3_isInProof_X3_requireEntry : GoodIn wsX3_isInProof (wsV RX3 144 RX3 yX3_requireEntry wsX3_requireEntry) := goodIn_app (goodIn_of _ (by decide +kernel)) ggX3_isInProof_X3_requireEntry
set_option maxRecDepth 20000 in
theorem ggX3_isInProof_X3_shortestProof : GoodIn wsX3_isInProof wsX3_shortestProof := goodIn_r _ [21, 4, 22, 23, 24, 15, 25, 17, 26, 27, 28, 29, 30, 31, 32, 33, 34, 35, 8, 36, 37, 38, 39, 40, 41, 42, 43, 44, 45, 46, 47, 48, 49, 50, 51, 52, 58, 59, 60, 61, 62, 63, 64, 65, 66, 67, 68, 69, 70, 71, 72, 73, 74, 75] (by decide +kernel) (by decide +kernel)
set_option maxRecDepth 20000 in
theorem gX3_isInProof_X3_shortestProof : GoodIn wsX3_isInProof (wsV RX3 230 RX3 yX3_shortestProof wsX3_shortestProof) := goodIn_app (goodIn_of _ (by decide +kernel)) ggX3_isInProof_X3_shortestProof
set_option maxRecDepth 20000 in
theorem ggX3_isInProof_X0_bitOf : GoodIn wsX3_isInProof wsX0_bitOf := goodIn_r _ [56, 17, 57, 13, 14, 15, 16, 66, 67, 68, 69, 70] (by decide +kernel) (by decide +kernel)
set_option maxRecDepth 20000 in
theorem gX3_isInProof_X0_bitOf : GoodIn wsX3_isInProof (wsV RX3 240 RX0 yX0_bitOf wsX0_bitOf) := goodIn_app (goodIn_of _ (by decide +kernel)) ggX3_isInProof_X0_bitOf
theorem dX3_isInProof_0 : decode cX3_isInProof 0 = .ok (.aload_n 0, 1) := by decide +kernel
theorem dX3_isInProof_1 : decode cX3_isInProof 1 = .ok (.iload_n 1, 1) := by decide +kernel
theorem dX3_isInProof_2 : decode cX3_isInProof 2 = .ok (.invokevirtual 144, 3) := by decide +kernel
theorem dX3_isInProof_5 : decode cX3_isInProof 5 = .ok (.aload_n 0, 1) := by decide +kernel
theorem dX3_isInProof_6 : decode cX3_isInProof 6 = .ok (.getfield 133, 3) := by decide +kernel
theorem dX3_isInProof_9 : decode cX3_isInProof 9 = .ok (.iconst 1, 1) := by decide +kernel
theorem dX3_isInProof_10 : decode cX3_isInProof 10 = .ok (.if_icmp .eq 13, 3) := by decide +kernel
theorem dX3_isInProof_13 : decode cX3_isInProof 13 = .ok (.new 87, 3) := by decide +kernel
theorem dX3_isInProof_16 : decode cX3_isInProof 16 = .ok (.dup, 1) := by decide +kernel
theorem dX3_isInProof_17 : decode cX3_isInProof 17 = .ok (.ldc 238, 2) := by decide +kernel
theorem dX3_isInProof_19 : decode cX3_isInProof 19 = .ok (.invokespecial 91, 3) := by decide +kernel
theorem dX3_isInProof_22 : decode cX3_isInProof 22 = .ok (.athrow, 1) := by decide +kernel
theorem dX3_isInProof_23 : decode cX3_isInProof 23 = .ok (.aload_n 0, 1) := by decide +kernel
theorem dX3_isInProof_24 : decode cX3_isInProof 24 = .ok (.invokevirtual 230, 3) := by decide +kernel
theorem dX3_isInProof_27 : decode cX3_isInProof 27 = .ok (.aload_n 0, 1) := by decide +kernel
theorem dX3_isInProof_28 : decode cX3_isInProof 28 = .ok (.getfield 21, 3) := by decide +kernel
theorem dX3_isInProof_31 : decode cX3_isInProof 31 = .ok (.iload_n 1, 1) := by decide +kernel
theorem dX3_isInProof_32 : decode cX3_isInProof 32 = .ok (.invokevirtual 240, 3) := by decide +kernel
theorem dX3_isInProof_35 : decode cX3_isInProof 35 = .ok (.iand, 1) := by decide +kernel
theorem dX3_isInProof_36 : decode cX3_isInProof 36 = .ok (.ifCond .eq 7, 3) := by decide +kernel
theorem dX3_isInProof_39 : decode cX3_isInProof 39 = .ok (.iconst 1, 1) := by decide +kernel
theorem dX3_isInProof_40 : decode cX3_isInProof 40 = .ok (.goto 4, 3) := by decide +kernel
theorem dX3_isInProof_43 : decode cX3_isInProof 43 = .ok (.iconst 0, 1) := by decide +kernel
theorem dX3_isInProof_44 : decode cX3_isInProof 44 = .ok (.ireturn, 1) := by decide +kernel
set_option maxRecDepth 20000 in
theorem ggX3_shortestProof_X0_allBits : GoodIn wsX3_shortestProof wsX0_allBits := goodIn_r _ [6, 7, 44, 45, 46, 47, 48] (by decide +kernel) (by decide +kernel)
set_option maxRecDepth 20000 in
theorem gX3_shortestProof_X0_allBits : GoodIn wsX3_shortestProof (wsV RX3 243 RX0 yX0_allBits wsX0_allBits) := goodIn_app (goodIn_of _ (by decide +kernel)) ggX3_shortestProof_X0_allBits
set_option maxRecDepth 20000 in
theorem ggX3_shortestProof_J6_bitCount_0f7a4 : GoodIn wsX3_shortestProof wsJ6_bitCount_0f7a4 := goodIn_r _ [11, 12, 13, 14] (by decide +kernel) (by decide +kernel)
set_option maxRecDepth 20000 in
theorem gX3_shortestProof_J6_bitCount_0f7a4 : GoodIn wsX3_shortestProof (va_wsS RX3 233 yJ6_bitCount_0f7a4 wsJ6_bitCount_0f7a4) := goodIn_app (goodIn_of _ (by decide +kernel)) ggX3_shortestProof_J6_bitCount_0f7a4
set_option maxRecDepth 20000 in
theorem ggX3_shortestProof_X3_leavesOne : GoodIn wsX3_shortestProof wsX3_leavesOne := goodIn_r _ [19, 20, 21, 1, 22, 23, 24, 25, 5, 26, 27, 28, 29, 30, 31, 32, 33, 34, 35, 9, 10, 11, 12, 13, 14, 36, 37, 38, 39, 40, 41, 42, 43, 49, 50, 51, 52, 53, 44, 45, 46, 47, 48] (by decide +kernel) (by decide +kernel)
set_option maxRecDepth 20000 in
theorem gX3_shortestProof_X3_leavesOne : GoodIn wsX3_shortestProof (wsV RX3 246 RX3 yX3_leavesOne wsX3_leavesOne) := goodIn_app (goodIn_of _ (by decide +kernel)) ggX3_shortestProof_X3_leavesOne
theorem dX3_shortestProof_0 : decode cX3_shortestProof 0 = .ok (.aload_n 0, 1) := by decide +kernel
theorem dX3_shortestProof_1 : decode cX3_shortestProof 1 = .ok (.getfield 21, 3) := by decide +kernel
theorem dX3_shortestProof_4 : decode cX3_shortestProof 4 = .ok (.invokevirtual 243, 3) := by decide +kernel
theorem dX3_shortestProof_7 : decode cX3_shortestProof 7 = .ok (.istore_n 1, 1) := by decide +kernel
theorem dX3_shortestProof_8 : decode cX3_shortestProof 8 = .ok (.aload_n 0, 1) := by decide +kernel
theorem dX3_shortestProof_9 : decode cX3_shortestProof 9 = .ok (.getfield 21, 3) := by decide +kernel
theorem dX3_shortestProof_12 : decode cX3_shortestProof 12 = .ok (.invokevirtual 243, 3) := by decide +kernel
theorem dX3_shortestProof_15 : decode cX3_shortestProof 15 = .ok (.iconst 1, 1) := by decide +kernel
theorem dX3_shortestProof_16 : decode cX3_shortestProof 16 = .ok (.isub, 1) := by decide +kernel
theorem dX3_shortestProof_17 : decode cX3_shortestProof 17 = .ok (.istore_n 2, 1) := by decide +kernel
theorem dX3_shortestProof_18 : decode cX3_shortestProof 18 = .ok (.iload_n 2, 1) := by decide +kernel
theorem dX3_shortestProof_19 : decode cX3_shortestProof 19 = .ok (.ifCond .le 30, 3) := by decide +kernel
theorem dX3_shortestProof_22 : decode cX3_shortestProof 22 = .ok (.iload_n 2, 1) := by decide +kernel
theorem dX3_shortestProof_23 : decode cX3_shortestProof 23 = .ok (.invokestatic 233, 3) := by decide +kernel
theorem dX3_shortestProof_26 : decode cX3_shortestProof 26 = .ok (.iload_n 1, 1) := by decide +kernel
theorem dX3_shortestProof_27 : decode cX3_shortestProof 27 = .ok (.invokestatic 233, 3) := by decide +kernel
theorem dX3_shortestProof_30 : decode cX3_shortestProof 30 = .ok (.if_icmp .ge 13, 3) := by decide +kernel
theorem dX3_shortestProof_33 : decode cX3_shortestProof 33 = .ok (.aload_n 0, 1) := by decide +kernel
theorem dX3_shortestProof_34 : decode cX3_shortestProof 34 = .ok (.iload_n 2, 1) := by decide +kernel
theorem dX3_shortestProof_35 : decode cX3_shortestProof 35 = .ok (.invokevirtual 246, 3) := by decide +kernel
theorem dX3_shortestProof_38 : decode cX3_shortestProof 38 = .ok (.ifCond .eq 5, 3) := by decide +kernel
theorem dX3_shortestProof_41 : decode cX3_shortestProof 41 = .ok (.iload_n 2, 1) := by decide +kernel
theorem dX3_shortestProof_42 : decode cX3_shortestProof 42 = .ok (.istore_n 1, 1) := by decide +kernel
theorem dX3_shortestProof_43 : decode cX3_shortestProof 43 = .ok (.iinc 2 (-1), 3) := by decide +kernel
theorem dX3_shortestProof_46 : decode cX3_shortestProof 46 = .ok (.goto (-28), 3) := by decide +kernel
theorem dX3_shortestProof_49 : decode cX3_shortestProof 49 = .ok (.iload_n 1, 1) := by decide +kernel
theorem dX3_shortestProof_50 : decode cX3_shortestProof 50 = .ok (.ireturn, 1) := by decide +kernel
set_option maxRecDepth 20000 in
theorem ggX3_leavesOne_X0_countLiesIn : GoodIn wsX3_leavesOne wsX0_countLiesIn := goodIn_r _ [9, 10, 11, 12, 13, 14, 15, 16, 17, 18, 19, 20, 21, 22, 23, 24, 38, 39, 40, 41, 42, 33, 34, 35, 36, 37] (by decide +kernel) (by decide +kernel)
set_option maxRecDepth 20000 in
theorem gX3_leavesOne_X0_countLiesIn : GoodIn wsX3_leavesOne (wsV RX3 249 RX0 yX0_countLiesIn wsX0_countLiesIn) := goodIn_app (goodIn_of _ (by decide +kernel)) ggX3_leavesOne_X0_countLiesIn
theorem dX3_leavesOne_0 : decode cX3_leavesOne 0 = .ok (.iconst 0, 1) := by decide +kernel
theorem dX3_leavesOne_1 : decode cX3_leavesOne 1 = .ok (.istore_n 2, 1) := by decide +kernel
theorem dX3_leavesOne_2 : decode cX3_leavesOne 2 = .ok (.iconst 0, 1) := by decide +kernel
theorem dX3_leavesOne_3 : decode cX3_leavesOne 3 = .ok (.istore_n 3, 1) := by decide +kernel
theorem dX3_leavesOne_4 : decode cX3_leavesOne 4 = .ok (.iload_n 3, 1) := by decide +kernel
theorem dX3_leavesOne_5 : decode cX3_leavesOne 5 = .ok (.aload_n 0, 1) := by decide +kernel
theorem dX3_leavesOne_6 : decode cX3_leavesOne 6 = .ok (.getfield 12, 3) := by decide +kernel
theorem dX3_leavesOne_9 : decode cX3_leavesOne 9 = .ok (.getfield 53, 3) := by decide +kernel
theorem dX3_leavesOne_12 : decode cX3_leavesOne 12 = .ok (.if_icmp .ge 33, 3) := by decide +kernel
theorem dX3_leavesOne_15 : decode cX3_leavesOne 15 = .ok (.iload_n 2, 1) := by decide +kernel
theorem dX3_leavesOne_16 : decode cX3_leavesOne 16 = .ok (.iconst 2, 1) := by decide +kernel
theorem dX3_leavesOne_17 : decode cX3_leavesOne 17 = .ok (.if_icmp .ge 28, 3) := by decide +kernel
theorem dX3_leavesOne_20 : decode cX3_leavesOne 20 = .ok (.aload_n 0, 1) := by decide +kernel
theorem dX3_leavesOne_21 : decode cX3_leavesOne 21 = .ok (.getfield 21, 3) := by decide +kernel
theorem dX3_leavesOne_24 : decode cX3_leavesOne 24 = .ok (.iload_n 1, 1) := by decide +kernel
theorem dX3_leavesOne_25 : decode cX3_leavesOne 25 = .ok (.iload_n 3, 1) := by decide +kernel
theorem dX3_leavesOne_26 : decode cX3_leavesOne 26 = .ok (.invokevirtual 249, 3) := by decide +kernel
theorem dX3_leavesOne_29 : decode cX3_leavesOne 29 = .ok (.aload_n 0, 1) := by decide +kernel
theorem dX3_leavesOne_30 : decode cX3_leavesOne 30 = .ok (.getfield 92, 3) := by decide +kernel
theorem dX3_leavesOne_33 : decode cX3_leavesOne 33 = .ok (.if_icmp .gt 6, 3) := by decide +kernel
theorem dX3_leavesOne_36 : decode cX3_leavesOne 36 = .ok (.iinc 2 1, 3) := by decide +kernel
theorem dX3_leavesOne_39 : decode cX3_leavesOne 39 = .ok (.iinc 3 1, 3) := by decide +kernel
theorem dX3_leavesOne_42 : decode cX3_leavesOne 42 = .ok (.goto (-38), 3) := by decide +kernel
theorem dX3_leavesOne_45 : decode cX3_leavesOne 45 = .ok (.iload_n 2, 1) := by decide +kernel
theorem dX3_leavesOne_46 : decode cX3_leavesOne 46 = .ok (.iconst 1, 1) := by decide +kernel
theorem dX3_leavesOne_47 : decode cX3_leavesOne 47 = .ok (.if_icmp .ne 7, 3) := by decide +kernel
theorem dX3_leavesOne_50 : decode cX3_leavesOne 50 = .ok (.iconst 1, 1) := by decide +kernel
theorem dX3_leavesOne_51 : decode cX3_leavesOne 51 = .ok (.goto 4, 3) := by decide +kernel
theorem dX3_leavesOne_54 : decode cX3_leavesOne 54 = .ok (.iconst 0, 1) := by decide +kernel
theorem dX3_leavesOne_55 : decode cX3_leavesOne 55 = .ok (.ireturn, 1) := by decide +kernel
end
section
theorem dX4_init_0 : decode cX4_init 0 = .ok (.aload_n 0, 1) := by decide +kernel
theorem dX4_init_1 : decode cX4_init 1 = .ok (.invokespecial 1, 3) := by decide +kernel
theorem dX4_init_4 : decode cX4_init 4 = .ok (.aload_n 0, 1) := by decide +kernel
theorem dX4_init_5 : decode cX4_init 5 = .ok (.iconst 3, 1) := by decide +kernel
theorem dX4_init_6 : decode cX4_init 6 = .ok (.putfield 7, 3) := by decide +kernel
theorem dX4_init_9 : decode cX4_init 9 = .ok (.aload_n 0, 1) := by decide +kernel
theorem dX4_init_10 : decode cX4_init 10 = .ok (.iconst 4, 1) := by decide +kernel
theorem dX4_init_11 : decode cX4_init 11 = .ok (.putfield 13, 3) := by decide +kernel
theorem dX4_init_14 : decode cX4_init 14 = .ok (.aload_n 0, 1) := by decide +kernel
theorem dX4_init_15 : decode cX4_init 15 = .ok (.bipush 64, 2) := by decide +kernel
theorem dX4_init_17 : decode cX4_init 17 = .ok (.putfield 16, 3) := by decide +kernel
theorem dX4_init_20 : decode cX4_init 20 = .ok (.aload_n 0, 1) := by decide +kernel
theorem dX4_init_21 : decode cX4_init 21 = .ok (.iconst (-1), 1) := by decide +kernel
theorem dX4_init_22 : decode cX4_init 22 = .ok (.putfield 19, 3) := by decide +kernel
theorem dX4_init_25 : decode cX4_init 25 = .ok (.aload_n 0, 1) := by decide +kernel
theorem dX4_init_26 : decode cX4_init 26 = .ok (.bipush 10, 2) := by decide +kernel
theorem dX4_init_28 : decode cX4_init 28 = .ok (.newarray .int, 2) := by decide +kernel
theorem dX4_init_30 : decode cX4_init 30 = .ok (.putfield 22, 3) := by decide +kernel
theorem dX4_init_33 : decode cX4_init 33 = .ok (.aload_n 0, 1) := by decide +kernel
theorem dX4_init_34 : decode cX4_init 34 = .ok (.bipush 10, 2) := by decide +kernel
theorem dX4_init_36 : decode cX4_init 36 = .ok (.newarray .int, 2) := by decide +kernel
theorem dX4_init_38 : decode cX4_init 38 = .ok (.putfield 26, 3) := by decide +kernel
theorem dX4_init_41 : decode cX4_init 41 = .ok (.aload_n 0, 1) := by decide +kernel
theorem dX4_init_42 : decode cX4_init 42 = .ok (.bipush 6, 2) := by decide +kernel
theorem dX4_init_44 : decode cX4_init 44 = .ok (.newarray .int, 2) := by decide +kernel
theorem dX4_init_46 : decode cX4_init 46 = .ok (.putfield 29, 3) := by decide +kernel
theorem dX4_init_49 : decode cX4_init 49 = .ok (.aload_n 0, 1) := by decide +kernel
theorem dX4_init_50 : decode cX4_init 50 = .ok (.bipush 100, 2) := by decide +kernel
theorem dX4_init_52 : decode cX4_init 52 = .ok (.newarray .int, 2) := by decide +kernel
theorem dX4_init_54 : decode cX4_init 54 = .ok (.putfield 32, 3) := by decide +kernel
theorem dX4_init_57 : decode cX4_init 57 = .ok (.aload_n 0, 1) := by decide +kernel
theorem dX4_init_58 : decode cX4_init 58 = .ok (.sipush 2048, 3) := by decide +kernel
theorem dX4_init_61 : decode cX4_init 61 = .ok (.newarray .int, 2) := by decide +kernel
theorem dX4_init_63 : decode cX4_init 63 = .ok (.putfield 35, 3) := by decide +kernel
theorem dX4_init_66 : decode cX4_init 66 = .ok (.aload_n 0, 1) := by decide +kernel
theorem dX4_init_67 : decode cX4_init 67 = .ok (.sipush 700, 3) := by decide +kernel
theorem dX4_init_70 : decode cX4_init 70 = .ok (.newarray .int, 2) := by decide +kernel
theorem dX4_init_72 : decode cX4_init 72 = .ok (.putfield 38, 3) := by decide +kernel
theorem dX4_init_75 : decode cX4_init 75 = .ok (.aload_n 0, 1) := by decide +kernel
theorem dX4_init_76 : decode cX4_init 76 = .ok (.sipush 700, 3) := by decide +kernel
theorem dX4_init_79 : decode cX4_init 79 = .ok (.newarray .int, 2) := by decide +kernel
theorem dX4_init_81 : decode cX4_init 81 = .ok (.putfield 41, 3) := by decide +kernel
theorem dX4_init_84 : decode cX4_init 84 = .ok (.aload_n 0, 1) := by decide +kernel
theorem dX4_init_85 : decode cX4_init 85 = .ok (.sipush 700, 3) := by decide +kernel
theorem dX4_init_88 : decode cX4_init 88 = .ok (.newarray .int, 2) := by decide +kernel
theorem dX4_init_90 : decode cX4_init 90 = .ok (.putfield 44, 3) := by decide +kernel
theorem dX4_init_93 : decode cX4_init 93 = .ok (.aload_n 0, 1) := by decide +kernel
theorem dX4_init_94 : decode cX4_init 94 = .ok (.sipush 256, 3) := by decide +kernel
theorem dX4_init_97 : decode cX4_init 97 = .ok (.newarray .int, 2) := by decide +kernel
theorem dX4_init_99 : decode cX4_init 99 = .ok (.putfield 47, 3) := by decide +kernel
theorem dX4_init_102 : decode cX4_init 102 = .ok (.return_, 1) := by decide +kernel
theorem dX4_thrown_0 : decode cX4_thrown 0 = .ok (.aload_n 0, 1) := by decide +kernel
theorem dX4_thrown_1 : decode cX4_thrown 1 = .ok (.getfield 50, 3) := by decide +kernel
theorem dX4_thrown_4 : decode cX4_thrown 4 = .ok (.ireturn, 1) := by decide +kernel
theorem dX4_in_0 : decode cX4_in 0 = .ok (.iload_n 0, 1) := by decide +kernel
theorem dX4_in_1 : decode cX4_in 1 = .ok (.iload_n 1, 1) := by decide +kernel
theorem dX4_in_2 : decode cX4_in 2 = .ok (.if_icmp .lt 12, 3) := by decide +kernel
theorem dX4_in_5 : decode cX4_in 5 = .ok (.iload_n 0, 1) := by decide +kernel
theorem dX4_in_6 : decode cX4_in 6 = .ok (.iload_n 2, 1) := by decide +kernel
theorem dX4_in_7 : decode cX4_in 7 = .ok (.if_icmp .gt 7, 3) := by decide +kernel
theorem dX4_in_10 : decode cX4_in 10 = .ok (.iconst 1, 1) := by decide +kernel
theorem dX4_in_11 : decode cX4_in 11 = .ok (.goto 4, 3) := by decide +kernel
theorem dX4_in_14 : decode cX4_in 14 = .ok (.iconst 0, 1) := by decide +kernel
theorem dX4_in_15 : decode cX4_in 15 = .ok (.ireturn, 1) := by decide +kernel
set_option maxRecDepth 20000 in
theorem ggX4_isRow_X4_in : GoodIn wsX4_isRow wsX4_in := goodIn_r _ [5] (by decide +kernel) (by decide +kernel)
set_option maxRecDepth 20000 in
theorem gX4_isRow_X4_in : GoodIn wsX4_isRow (va_wsS RX4 53 yX4_in wsX4_in) := goodIn_app (goodIn_of _ (by decide +kernel)) ggX4_isRow_X4_in
theorem dX4_isRow_0 : decode cX4_isRow 0 = .ok (.iload_n 1, 1) := by decide +kernel
theorem dX4_isRow_1 : decode cX4_isRow 1 = .ok (.iconst 0, 1) := by decide +kernel
theorem dX4_isRow_2 : decode cX4_isRow 2 = .ok (.aload_n 0, 1) := by decide +kernel
theorem dX4_isRow_3 : decode cX4_isRow 3 = .ok (.getfield 16, 3) := by decide +kernel
theorem dX4_isRow_6 : decode cX4_isRow 6 = .ok (.iconst 1, 1) := by decide +kernel
theorem dX4_isRow_7 : decode cX4_isRow 7 = .ok (.isub, 1) := by decide +kernel
theorem dX4_isRow_8 : decode cX4_isRow 8 = .ok (.invokestatic 53, 3) := by decide +kernel
theorem dX4_isRow_11 : decode cX4_isRow 11 = .ok (.ireturn, 1) := by decide +kernel
theorem dX4_power_0 : decode cX4_power 0 = .ok (.iconst 1, 1) := by decide +kernel
theorem dX4_power_1 : decode cX4_power 1 = .ok (.istore_n 2, 1) := by decide +kernel
theorem dX4_power_2 : decode cX4_power 2 = .ok (.iconst 0, 1) := by decide +kernel
theorem dX4_power_3 : decode cX4_power 3 = .ok (.istore_n 3, 1) := by decide +kernel
theorem dX4_power_4 : decode cX4_power 4 = .ok (.iload_n 3, 1) := by decide +kernel
theorem dX4_power_5 : decode cX4_power 5 = .ok (.iload_n 1, 1) := by decide +kernel
theorem dX4_power_6 : decode cX4_power 6 = .ok (.if_icmp .ge 13, 3) := by decide +kernel
theorem dX4_power_9 : decode cX4_power 9 = .ok (.iload_n 2, 1) := by decide +kernel
theorem dX4_power_10 : decode cX4_power 10 = .ok (.iload_n 0, 1) := by decide +kernel
theorem dX4_power_11 : decode cX4_power 11 = .ok (.imul, 1) := by decide +kernel
theorem dX4_power_12 : decode cX4_power 12 = .ok (.istore_n 2, 1) := by decide +kernel
theorem dX4_power_13 : decode cX4_power 13 = .ok (.iinc 3 1, 3) := by decide +kernel
theorem dX4_power_16 : decode cX4_power 16 = .ok (.goto (-12), 3) := by decide +kernel
theorem dX4_power_19 : decode cX4_power 19 = .ok (.iload_n 2, 1) := by decide +kernel
theorem dX4_power_20 : decode cX4_power 20 = .ok (.ireturn, 1) := by decide +kernel
set_option maxRecDepth 20000 in
theorem ggX4_begin_X4_in : GoodIn wsX4_begin wsX4_in := goodIn_r _ [11] (by decide +kernel) (by decide +kernel)
set_option maxRecDepth 20000 in
theorem gX4_begin_X4_in : GoodIn wsX4_begin (va_wsS RX4 53 yX4_in wsX4_in) := goodIn_app (goodIn_of _ (by decide +kernel)) ggX4_begin_X4_in
set_option maxRecDepth 20000 in
theorem ggX4_begin_X4_power : GoodIn wsX4_begin wsX4_power := goodIn_r _ [14] (by decide +kernel) (by decide +kernel)
set_option maxRecDepth 20000 in
theorem gX4_begin_X4_power : GoodIn wsX4_begin (va_wsS RX4 57 yX4_power wsX4_power) := goodIn_app (goodIn_of _ (by decide +kernel)) ggX4_begin_X4_power
theorem dX4_begin_0 : decode cX4_begin 0 = .ok (.aload_n 0, 1) := by decide +kernel
theorem dX4_begin_1 : decode cX4_begin 1 = .ok (.iload_n 1, 1) := by decide +kernel
theorem dX4_begin_2 : decode cX4_begin 2 = .ok (.iconst 1, 1) := by decide +kernel
theorem dX4_begin_3 : decode cX4_begin 3 = .ok (.bipush 8, 2) := by decide +kernel
theorem dX4_begin_5 : decode cX4_begin 5 = .ok (.invokestatic 53, 3) := by decide +kernel
theorem dX4_begin_8 : decode cX4_begin 8 = .ok (.ifCond .eq 28, 3) := by decide +kernel
theorem dX4_begin_11 : decode cX4_begin 11 = .ok (.iload_n 2, 1) := by decide +kernel
theorem dX4_begin_12 : decode cX4_begin 12 = .ok (.iconst 2, 1) := by decide +kernel
theorem dX4_begin_13 : decode cX4_begin 13 = .ok (.bipush 6, 2) := by decide +kernel
theorem dX4_begin_15 : decode cX4_begin 15 = .ok (.invokestatic 53, 3) := by decide +kernel
theorem dX4_begin_18 : decode cX4_begin 18 = .ok (.ifCond .eq 18, 3) := by decide +kernel
theorem dX4_begin_21 : decode cX4_begin 21 = .ok (.iload_n 2, 1) := by decide +kernel
theorem dX4_begin_22 : decode cX4_begin 22 = .ok (.iload_n 1, 1) := by decide +kernel
theorem dX4_begin_23 : decode cX4_begin 23 = .ok (.invokestatic 57, 3) := by decide +kernel
theorem dX4_begin_26 : decode cX4_begin 26 = .ok (.sipush 256, 3) := by decide +kernel
theorem dX4_begin_29 : decode cX4_begin 29 = .ok (.if_icmp .gt 7, 3) := by decide +kernel
theorem dX4_begin_32 : decode cX4_begin 32 = .ok (.iconst 0, 1) := by decide +kernel
theorem dX4_begin_33 : decode cX4_begin 33 = .ok (.goto 4, 3) := by decide +kernel
theorem dX4_begin_36 : decode cX4_begin 36 = .ok (.iconst 1, 1) := by decide +kernel
theorem dX4_begin_37 : decode cX4_begin 37 = .ok (.putfield 50, 3) := by decide +kernel
theorem dX4_begin_40 : decode cX4_begin 40 = .ok (.aload_n 0, 1) := by decide +kernel
theorem dX4_begin_41 : decode cX4_begin 41 = .ok (.getfield 50, 3) := by decide +kernel
theorem dX4_begin_44 : decode cX4_begin 44 = .ok (.ifCond .le 5, 3) := by decide +kernel
theorem dX4_begin_47 : decode cX4_begin 47 = .ok (.iconst 0, 1) := by decide +kernel
theorem dX4_begin_48 : decode cX4_begin 48 = .ok (.ireturn, 1) := by decide +kernel
theorem dX4_begin_49 : decode cX4_begin 49 = .ok (.aload_n 0, 1) := by decide +kernel
theorem dX4_begin_50 : decode cX4_begin 50 = .ok (.iload_n 1, 1) := by decide +kernel
theorem dX4_begin_51 : decode cX4_begin 51 = .ok (.putfield 7, 3) := by decide +kernel
theorem dX4_begin_54 : decode cX4_begin 54 = .ok (.aload_n 0, 1) := by decide +kernel
theorem dX4_begin_55 : decode cX4_begin 55 = .ok (.iload_n 2, 1) := by decide +kernel
theorem dX4_begin_56 : decode cX4_begin 56 = .ok (.putfield 13, 3) := by decide +kernel
theorem dX4_begin_59 : decode cX4_begin 59 = .ok (.aload_n 0, 1) := by decide +kernel
theorem dX4_begin_60 : decode cX4_begin 60 = .ok (.iload_n 2, 1) := by decide +kernel
theorem dX4_begin_61 : decode cX4_begin 61 = .ok (.iload_n 1, 1) := by decide +kernel
theorem dX4_begin_62 : decode cX4_begin 62 = .ok (.invokestatic 57, 3) := by decide +kernel
theorem dX4_begin_65 : decode cX4_begin 65 = .ok (.putfield 16, 3) := by decide +kernel
theorem dX4_begin_68 : decode cX4_begin 68 = .ok (.aload_n 0, 1) := by decide +kernel
theorem dX4_begin_69 : decode cX4_begin 69 = .ok (.iconst 0, 1) := by decide +kernel
theorem dX4_begin_70 : decode cX4_begin 70 = .ok (.putfield 61, 3) := by decide +kernel
theorem dX4_begin_73 : decode cX4_begin 73 = .ok (.aload_n 0, 1) := by decide +kernel
theorem dX4_begin_74 : decode cX4_begin 74 = .ok (.iconst (-1), 1) := by decide +kernel
theorem dX4_begin_75 : decode cX4_begin 75 = .ok (.putfield 19, 3) := by decide +kernel
theorem dX4_begin_78 : decode cX4_begin 78 = .ok (.aload_n 0, 1) := by decide +kernel
theorem dX4_begin_79 : decode cX4_begin 79 = .ok (.iconst 0, 1) := by decide +kernel
theorem dX4_begin_80 : decode cX4_begin 80 = .ok (.putfield 64, 3) := by decide +kernel
theorem dX4_begin_83 : decode cX4_begin 83 = .ok (.aload_n 0, 1) := by decide +kernel
theorem dX4_begin_84 : decode cX4_begin 84 = .ok (.getfield 16, 3) := by decide +kernel
theorem dX4_begin_87 : decode cX4_begin 87 = .ok (.ireturn, 1) := by decide +kernel
theorem dX4_rows_0 : decode cX4_rows 0 = .ok (.aload_n 0, 1) := by decide +kernel
theorem dX4_rows_1 : decode cX4_rows 1 = .ok (.iconst 0, 1) := by decide +kernel
theorem dX4_rows_2 : decode cX4_rows 2 = .ok (.putfield 50, 3) := by decide +kernel
theorem dX4_rows_5 : decode cX4_rows 5 = .ok (.aload_n 0, 1) := by decide +kernel
theorem dX4_rows_6 : decode cX4_rows 6 = .ok (.getfield 16, 3) := by decide +kernel
theorem dX4_rows_9 : decode cX4_rows 9 = .ok (.ireturn, 1) := by decide +kernel
set_option maxRecDepth 20000 in
theorem ggX4_colour_X4_power : GoodIn wsX4_colour wsX4_power := goodIn_r _ [6] (by decide +kernel) (by decide +kernel)
set_option maxRecDepth 20000 in
theorem gX4_colour_X4_power : GoodIn wsX4_colour (va_wsS RX4 57 yX4_power wsX4_power) := goodIn_app (goodIn_of _ (by decide +kernel)) ggX4_colour_X4_power
theorem dX4_colour_0 : decode cX4_colour 0 = .ok (.iload_n 1, 1) := by decide +kernel
theorem dX4_colour_1 : decode cX4_colour 1 = .ok (.aload_n 0, 1) := by decide +kernel
theorem dX4_colour_2 : decode cX4_colour 2 = .ok (.getfield 13, 3) := by decide +kernel
theorem dX4_colour_5 : decode cX4_colour 5 = .ok (.aload_n 0, 1) := by decide +kernel
theorem dX4_colour_6 : decode cX4_colour 6 = .ok (.getfield 7, 3) := by decide +kernel
theorem dX4_colour_9 : decode cX4_colour 9 = .ok (.iconst 1, 1) := by decide +kernel
theorem dX4_colour_10 : decode cX4_colour 10 = .ok (.isub, 1) := by decide +kernel
theorem dX4_colour_11 : decode cX4_colour 11 = .ok (.iload_n 2, 1) := by decide +kernel
theorem dX4_colour_12 : decode cX4_colour 12 = .ok (.isub, 1) := by decide +kernel
theorem dX4_colour_13 : decode cX4_colour 13 = .ok (.invokestatic 57, 3) := by decide +kernel
theorem dX4_colour_16 : decode cX4_colour 16 = .ok (.idiv, 1) := by decide +kernel
theorem dX4_colour_17 : decode cX4_colour 17 = .ok (.aload_n 0, 1) := by decide +kernel
theorem dX4_colour_18 : decode cX4_colour 18 = .ok (.getfield 13, 3) := by decide +kernel
theorem dX4_colour_21 : decode cX4_colour 21 = .ok (.irem, 1) := by decide +kernel
theorem dX4_colour_22 : decode cX4_colour 22 = .ok (.ireturn, 1) := by decide +kernel
set_option maxRecDepth 20000 in
theorem ggX4_colourAt_X4_isRow : GoodIn wsX4_colourAt wsX4_isRow := goodIn_r _ [7, 8, 9, 10, 6, 11, 20, 21, 22, 23, 24, 25, 26, 27, 28, 29, 30, 31, 32, 33, 34, 35] (by decide +kernel) (by decide +kernel)
set_option maxRecDepth 20000 in
theorem gX4_colourAt_X4_isRow : GoodIn wsX4_colourAt (wsV RX4 67 RX4 yX4_isRow wsX4_isRow) := goodIn_app (goodIn_of _ (by decide +kernel)) ggX4_colourAt_X4_isRow
set_option maxRecDepth 20000 in
theorem ggX4_colourAt_X4_in : GoodIn wsX4_colourAt wsX4_in := goodIn_r _ [11] (by decide +kernel) (by decide +kernel)
set_option maxRecDepth 20000 in
theorem gX4_colourAt_X4_in : GoodIn wsX4_colourAt (va_wsS RX4 53 yX4_in wsX4_in) := goodIn_app (goodIn_of _ (by decide +kernel)) ggX4_colourAt_X4_in
set_option maxRecDepth 20000 in
theorem ggX4_colourAt_X4_colour : GoodIn wsX4_colourAt wsX4_colour := goodIn_r _ [15, 16, 1, 17, 18, 6, 19, 20, 21, 22, 23, 24, 25, 26, 27, 28, 29, 30, 31, 32, 33, 34, 35] (by decide +kernel) (by decide +kernel)
set_option maxRecDepth 20000 in
theorem gX4_colourAt_X4_colour : GoodIn wsX4_colourAt (wsV RX4 71 RX4 yX4_colour wsX4_colour) := goodIn_app (goodIn_of _ (by decide +kernel)) ggX4_colourAt_X4_colour
theorem dX4_colourAt_0 : decode cX4_colourAt 0 = .ok (.aload_n 0, 1) := by decide +kernel
theorem dX4_colourAt_1 : decode cX4_colourAt 1 = .ok (.aload_n 0, 1) := by decide +kernel
theorem dX4_colourAt_2 : decode cX4_colourAt 2 = .ok (.iload_n 1, 1) := by decide +kernel
theorem dX4_colourAt_3 : decode cX4_colourAt 3 = .ok (.invokevirtual 67, 3) := by decide +kernel
theorem dX4_colourAt_6 : decode cX4_colourAt 6 = .ok (.ifCond .eq 21, 3) := by decide +kernel
theorem dX4_colourAt_9 : decode cX4_colourAt 9 = .ok (.iload_n 2, 1) := by decide +kernel
theorem dX4_colourAt_10 : decode cX4_colourAt 10 = .ok (.iconst 0, 1) := by decide +kernel
theorem dX4_colourAt_11 : decode cX4_colourAt 11 = .ok (.aload_n 0, 1) := by decide +kernel
theorem dX4_colourAt_12 : decode cX4_colourAt 12 = .ok (.getfield 7, 3) := by decide +kernel
theorem dX4_colourAt_15 : decode cX4_colourAt 15 = .ok (.iconst 1, 1) := by decide +kernel
theorem dX4_colourAt_16 : decode cX4_colourAt 16 = .ok (.isub, 1) := by decide +kernel
theorem dX4_colourAt_17 : decode cX4_colourAt 17 = .ok (.invokestatic 53, 3) := by decide +kernel
theorem dX4_colourAt_20 : decode cX4_colourAt 20 = .ok (.ifCond .eq 7, 3) := by decide +kernel
theorem dX4_colourAt_23 : decode cX4_colourAt 23 = .ok (.iconst 0, 1) := by decide +kernel
theorem dX4_colourAt_24 : decode cX4_colourAt 24 = .ok (.goto 4, 3) := by decide +kernel
theorem dX4_colourAt_27 : decode cX4_colourAt 27 = .ok (.iconst 1, 1) := by decide +kernel
theorem dX4_colourAt_28 : decode cX4_colourAt 28 = .ok (.putfield 50, 3) := by decide +kernel
theorem dX4_colourAt_31 : decode cX4_colourAt 31 = .ok (.aload_n 0, 1) := by decide +kernel
theorem dX4_colourAt_32 : decode cX4_colourAt 32 = .ok (.getfield 50, 3) := by decide +kernel
theorem dX4_colourAt_35 : decode cX4_colourAt 35 = .ok (.ifCond .le 7, 3) := by decide +kernel
theorem dX4_colourAt_38 : decode cX4_colourAt 38 = .ok (.iconst 0, 1) := by decide +kernel
theorem dX4_colourAt_39 : decode cX4_colourAt 39 = .ok (.goto 9, 3) := by decide +kernel
theorem dX4_colourAt_42 : decode cX4_colourAt 42 = .ok (.aload_n 0, 1) := by decide +kernel
theorem dX4_colourAt_43 : decode cX4_colourAt 43 = .ok (.iload_n 1, 1) := by decide +kernel
theorem dX4_colourAt_44 : decode cX4_colourAt 44 = .ok (.iload_n 2, 1) := by decide +kernel
theorem dX4_colourAt_45 : decode cX4_colourAt 45 = .ok (.invokevirtual 71, 3) := by decide +kernel
theorem dX4_colourAt_48 : decode cX4_colourAt 48 = .ok (.ireturn, 1) := by decide +kernel
theorem dX4_markOfRows_0 : decode cX4_markOfRows 0 = .ok (.iconst 0, 1) := by decide +kernel
theorem dX4_markOfRows_1 : decode cX4_markOfRows 1 = .ok (.istore_n 3, 1) := by decide +kernel
theorem dX4_markOfRows_2 : decode cX4_markOfRows 2 = .ok (.iload_n 3, 1) := by decide +kernel
theorem dX4_markOfRows_3 : decode cX4_markOfRows 3 = .ok (.aload_n 0, 1) := by decide +kernel
theorem dX4_markOfRows_4 : decode cX4_markOfRows 4 = .ok (.getfield 13, 3) := by decide +kernel
theorem dX4_markOfRows_7 : decode cX4_markOfRows 7 = .ok (.if_icmp .ge 16, 3) := by decide +kernel
theorem dX4_markOfRows_10 : decode cX4_markOfRows 10 = .ok (.aload_n 0, 1) := by decide +kernel
theorem dX4_markOfRows_11 : decode cX4_markOfRows 11 = .ok (.getfield 29, 3) := by decide +kernel
theorem dX4_markOfRows_14 : decode cX4_markOfRows 14 = .ok (.iload_n 3, 1) := by decide +kernel
theorem dX4_markOfRows_15 : decode cX4_markOfRows 15 = .ok (.iconst 0, 1) := by decide +kernel
theorem dX4_markOfRows_16 : decode cX4_markOfRows 16 = .ok (.iastore, 1) := by decide +kernel
theorem dX4_markOfRows_17 : decode cX4_markOfRows 17 = .ok (.iinc 3 1, 3) := by decide +kernel
theorem dX4_markOfRows_20 : decode cX4_markOfRows 20 = .ok (.goto (-18), 3) := by decide +kernel
theorem dX4_markOfRows_23 : decode cX4_markOfRows 23 = .ok (.iconst 0, 1) := by decide +kernel
theorem dX4_markOfRows_24 : decode cX4_markOfRows 24 = .ok (.istore_n 3, 1) := by decide +kernel
theorem dX4_markOfRows_25 : decode cX4_markOfRows 25 = .ok (.iconst 0, 1) := by decide +kernel
theorem dX4_markOfRows_26 : decode cX4_markOfRows 26 = .ok (.istore 4, 2) := by decide +kernel
theorem dX4_markOfRows_28 : decode cX4_markOfRows 28 = .ok (.iload_n 1, 1) := by decide +kernel
theorem dX4_markOfRows_29 : decode cX4_markOfRows 29 = .ok (.istore 5, 2) := by decide +kernel
theorem dX4_markOfRows_31 : decode cX4_markOfRows 31 = .ok (.iload_n 2, 1) := by decide +kernel
theorem dX4_markOfRows_32 : decode cX4_markOfRows 32 = .ok (.istore 6, 2) := by decide +kernel
theorem dX4_markOfRows_34 : decode cX4_markOfRows 34 = .ok (.iconst 0, 1) := by decide +kernel
theorem dX4_markOfRows_35 : decode cX4_markOfRows 35 = .ok (.istore 7, 2) := by decide +kernel
theorem dX4_markOfRows_37 : decode cX4_markOfRows 37 = .ok (.iload 7, 2) := by decide +kernel
theorem dX4_markOfRows_39 : decode cX4_markOfRows 39 = .ok (.aload_n 0, 1) := by decide +kernel
theorem dX4_markOfRows_40 : decode cX4_markOfRows 40 = .ok (.getfield 7, 3) := by decide +kernel
theorem dX4_markOfRows_43 : decode cX4_markOfRows 43 = .ok (.if_icmp .ge 68, 3) := by decide +kernel
theorem dX4_markOfRows_46 : decode cX4_markOfRows 46 = .ok (.iload_n 3, 1) := by decide +kernel
theorem dX4_markOfRows_47 : decode cX4_markOfRows 47 = .ok (.iload 5, 2) := by decide +kernel
theorem dX4_markOfRows_49 : decode cX4_markOfRows 49 = .ok (.aload_n 0, 1) := by decide +kernel
theorem dX4_markOfRows_50 : decode cX4_markOfRows 50 = .ok (.getfield 13, 3) := by decide +kernel
theorem dX4_markOfRows_53 : decode cX4_markOfRows 53 = .ok (.irem, 1) := by decide +kernel
theorem dX4_markOfRows_54 : decode cX4_markOfRows 54 = .ok (.iload 6, 2) := by decide +kernel
theorem dX4_markOfRows_56 : decode cX4_markOfRows 56 = .ok (.aload_n 0, 1) := by decide +kernel
theorem dX4_markOfRows_57 : decode cX4_markOfRows 57 = .ok (.getfield 13, 3) := by decide +kernel
theorem dX4_markOfRows_60 : decode cX4_markOfRows 60 = .ok (.irem, 1) := by decide +kernel
theorem dX4_markOfRows_61 : decode cX4_markOfRows 61 = .ok (.if_icmp .ne 7, 3) := by decide +kernel
theorem dX4_markOfRows_64 : decode cX4_markOfRows 64 = .ok (.iconst 1, 1) := by decide +kernel
theorem dX4_markOfRows_65 : decode cX4_markOfRows 65 = .ok (.goto 4, 3) := by decide +kernel
theorem dX4_markOfRows_68 : decode cX4_markOfRows 68 = .ok (.iconst 0, 1) := by decide +kernel
theorem dX4_markOfRows_69 : decode cX4_markOfRows 69 = .ok (.iadd, 1) := by decide +kernel
theorem dX4_markOfRows_70 : decode cX4_markOfRows 70 = .ok (.istore_n 3, 1) := by decide +kernel
theorem dX4_markOfRows_71 : decode cX4_markOfRows 71 = .ok (.aload_n 0, 1) := by decide +kernel
theorem dX4_markOfRows_72 : decode cX4_markOfRows 72 = .ok (.getfield 29, 3) := by decide +kernel
theorem dX4_markOfRows_75 : decode cX4_markOfRows 75 = .ok (.iload 5, 2) := by decide +kernel
theorem dX4_markOfRows_77 : decode cX4_markOfRows 77 = .ok (.aload_n 0, 1) := by decide +kernel
theorem dX4_markOfRows_78 : decode cX4_markOfRows 78 = .ok (.getfield 13, 3) := by decide +kernel
theorem dX4_markOfRows_81 : decode cX4_markOfRows 81 = .ok (.irem, 1) := by decide +kernel
theorem dX4_markOfRows_82 : decode cX4_markOfRows 82 = .ok (.dup2, 1) := by decide +kernel
theorem dX4_markOfRows_83 : decode cX4_markOfRows 83 = .ok (.iaload, 1) := by decide +kernel
theorem dX4_markOfRows_84 : decode cX4_markOfRows 84 = .ok (.iconst 1, 1) := by decide +kernel
theorem dX4_markOfRows_85 : decode cX4_markOfRows 85 = .ok (.iadd, 1) := by decide +kernel
theorem dX4_markOfRows_86 : decode cX4_markOfRows 86 = .ok (.iastore, 1) := by decide +kernel
theorem dX4_markOfRows_87 : decode cX4_markOfRows 87 = .ok (.iload 5, 2) := by decide +kernel
theorem dX4_markOfRows_89 : decode cX4_markOfRows 89 = .ok (.aload_n 0, 1) := by decide +kernel
theorem dX4_markOfRows_90 : decode cX4_markOfRows 90 = .ok (.getfield 13, 3) := by decide +kernel
theorem dX4_markOfRows_93 : decode cX4_markOfRows 93 = .ok (.idiv, 1) := by decide +kernel
theorem dX4_markOfRows_94 : decode cX4_markOfRows 94 = .ok (.istore 5, 2) := by decide +kernel
theorem dX4_markOfRows_96 : decode cX4_markOfRows 96 = .ok (.iload 6, 2) := by decide +kernel
theorem dX4_markOfRows_98 : decode cX4_markOfRows 98 = .ok (.aload_n 0, 1) := by decide +kernel
theorem dX4_markOfRows_99 : decode cX4_markOfRows 99 = .ok (.getfield 13, 3) := by decide +kernel
theorem dX4_markOfRows_102 : decode cX4_markOfRows 102 = .ok (.idiv, 1) := by decide +kernel
theorem dX4_markOfRows_103 : decode cX4_markOfRows 103 = .ok (.istore 6, 2) := by decide +kernel
theorem dX4_markOfRows_105 : decode cX4_markOfRows 105 = .ok (.iinc 7 1, 3) := by decide +kernel
theorem dX4_markOfRows_108 : decode cX4_markOfRows 108 = .ok (.goto (-71), 3) := by decide +kernel
theorem dX4_markOfRows_111 : decode cX4_markOfRows 111 = .ok (.iload_n 2, 1) := by decide +kernel
theorem dX4_markOfRows_112 : decode cX4_markOfRows 112 = .ok (.istore 6, 2) := by decide +kernel
theorem dX4_markOfRows_114 : decode cX4_markOfRows 114 = .ok (.iconst 0, 1) := by decide +kernel
theorem dX4_markOfRows_115 : decode cX4_markOfRows 115 = .ok (.istore 7, 2) := by decide +kernel
theorem dX4_markOfRows_117 : decode cX4_markOfRows 117 = .ok (.iload 7, 2) := by decide +kernel
theorem dX4_markOfRows_119 : decode cX4_markOfRows 119 = .ok (.aload_n 0, 1) := by decide +kernel
theorem dX4_markOfRows_120 : decode cX4_markOfRows 120 = .ok (.getfield 7, 3) := by decide +kernel
theorem dX4_markOfRows_123 : decode cX4_markOfRows 123 = .ok (.if_icmp .ge 52, 3) := by decide +kernel
theorem dX4_markOfRows_126 : decode cX4_markOfRows 126 = .ok (.aload_n 0, 1) := by decide +kernel
theorem dX4_markOfRows_127 : decode cX4_markOfRows 127 = .ok (.getfield 29, 3) := by decide +kernel
theorem dX4_markOfRows_130 : decode cX4_markOfRows 130 = .ok (.iload 6, 2) := by decide +kernel
theorem dX4_markOfRows_132 : decode cX4_markOfRows 132 = .ok (.aload_n 0, 1) := by decide +kernel
theorem dX4_markOfRows_133 : decode cX4_markOfRows 133 = .ok (.getfield 13, 3) := by decide +kernel
theorem dX4_markOfRows_136 : decode cX4_markOfRows 136 = .ok (.irem, 1) := by decide +kernel
theorem dX4_markOfRows_137 : decode cX4_markOfRows 137 = .ok (.iaload, 1) := by decide +kernel
theorem dX4_markOfRows_138 : decode cX4_markOfRows 138 = .ok (.ifCond .le 22, 3) := by decide +kernel
theorem dX4_markOfRows_141 : decode cX4_markOfRows 141 = .ok (.aload_n 0, 1) := by decide +kernel
theorem dX4_markOfRows_142 : decode cX4_markOfRows 142 = .ok (.getfield 29, 3) := by decide +kernel
theorem dX4_markOfRows_145 : decode cX4_markOfRows 145 = .ok (.iload 6, 2) := by decide +kernel
theorem dX4_markOfRows_147 : decode cX4_markOfRows 147 = .ok (.aload_n 0, 1) := by decide +kernel
theorem dX4_markOfRows_148 : decode cX4_markOfRows 148 = .ok (.getfield 13, 3) := by decide +kernel
theorem dX4_markOfRows_151 : decode cX4_markOfRows 151 = .ok (.irem, 1) := by decide +kernel
theorem dX4_markOfRows_152 : decode cX4_markOfRows 152 = .ok (.dup2, 1) := by decide +kernel
theorem dX4_markOfRows_153 : decode cX4_markOfRows 153 = .ok (.iaload, 1) := by decide +kernel
theorem dX4_markOfRows_154 : decode cX4_markOfRows 154 = .ok (.iconst 1, 1) := by decide +kernel
theorem dX4_markOfRows_155 : decode cX4_markOfRows 155 = .ok (.isub, 1) := by decide +kernel
theorem dX4_markOfRows_156 : decode cX4_markOfRows 156 = .ok (.iastore, 1) := by decide +kernel
theorem dX4_markOfRows_157 : decode cX4_markOfRows 157 = .ok (.iinc 4 1, 3) := by decide +kernel
theorem dX4_markOfRows_160 : decode cX4_markOfRows 160 = .ok (.iload 6, 2) := by decide +kernel
theorem dX4_markOfRows_162 : decode cX4_markOfRows 162 = .ok (.aload_n 0, 1) := by decide +kernel
theorem dX4_markOfRows_163 : decode cX4_markOfRows 163 = .ok (.getfield 13, 3) := by decide +kernel
theorem dX4_markOfRows_166 : decode cX4_markOfRows 166 = .ok (.idiv, 1) := by decide +kernel
theorem dX4_markOfRows_167 : decode cX4_markOfRows 167 = .ok (.istore 6, 2) := by decide +kernel
theorem dX4_markOfRows_169 : decode cX4_markOfRows 169 = .ok (.iinc 7 1, 3) := by decide +kernel
theorem dX4_markOfRows_172 : decode cX4_markOfRows 172 = .ok (.goto (-55), 3) := by decide +kernel
theorem dX4_markOfRows_175 : decode cX4_markOfRows 175 = .ok (.bipush 10, 2) := by decide +kernel
theorem dX4_markOfRows_177 : decode cX4_markOfRows 177 = .ok (.iload_n 3, 1) := by decide +kernel
theorem dX4_markOfRows_178 : decode cX4_markOfRows 178 = .ok (.imul, 1) := by decide +kernel
theorem dX4_markOfRows_179 : decode cX4_markOfRows 179 = .ok (.iload 4, 2) := by decide +kernel
theorem dX4_markOfRows_181 : decode cX4_markOfRows 181 = .ok (.iadd, 1) := by decide +kernel
theorem dX4_markOfRows_182 : decode cX4_markOfRows 182 = .ok (.iload_n 3, 1) := by decide +kernel
theorem dX4_markOfRows_183 : decode cX4_markOfRows 183 = .ok (.isub, 1) := by decide +kernel
theorem dX4_markOfRows_184 : decode cX4_markOfRows 184 = .ok (.ireturn, 1) := by decide +kernel
set_option maxRecDepth 20000 in
theorem ggX4_mark_X4_isRow : GoodIn wsX4_mark wsX4_isRow := goodIn_r _ [6, 7, 8, 9, 5, 10, 18, 19, 20, 21, 22, 23, 24, 25, 26, 27, 28, 29, 30, 31, 32, 33] (by decide +kernel) (by decide +kernel)
set_option maxRecDepth 20000 in
theorem gX4_mark_X4_isRow : GoodIn wsX4_mark (wsV RX4 67 RX4 yX4_isRow wsX4_isRow) := goodIn_app (goodIn_of _ (by decide +kernel)) ggX4_mark_X4_isRow
set_option maxRecDepth 20000 in
theorem ggX4_mark_X4_markOfRows : GoodIn wsX4_mark wsX4_markOfRows := goodIn_r _ [14, 15, 16, 17, 18, 19, 20, 21, 22, 23, 24, 25, 26, 27, 28, 29, 30, 31, 32, 33] (by decide +kernel) (by decide +kernel)
set_option maxRecDepth 20000 in
theorem gX4_mark_X4_markOfRows : GoodIn wsX4_mark (wsV RX4 74 RX4 yX4_markOfRows wsX4_markOfRows) := goodIn_app (goodIn_of _ (by decide +kernel)) ggX4_mark_X4_markOfRows
theorem dX4_mark_0 : decode cX4_mark 0 = .ok (.aload_n 0, 1) := by decide +kernel
theorem dX4_mark_1 : decode cX4_mark 1 = .ok (.aload_n 0, 1) := by decide +kernel
theorem dX4_mark_2 : decode cX4_mark 2 = .ok (.iload_n 1, 1) := by decide +kernel
theorem dX4_mark_3 : decode cX4_mark 3 = .ok (.invokevirtual 67, 3) := by decide +kernel
theorem dX4_mark_6 : decode cX4_mark 6 = .ok (.ifCond .eq 15, 3) := by decide +kernel
theorem dX4_mark_9 : decode cX4_mark 9 = .ok (.aload_n 0, 1) := by decide +kernel
theorem dX4_mark_10 : decode cX4_mark 10 = .ok (.iload_n 2, 1) := by decide +kernel
theorem dX4_mark_11 : decode cX4_mark 11 = .ok (.invokevirtual 67, 3) := by decide +kernel
theorem dX4_mark_14 : decode cX4_mark 14 = .ok (.ifCond .eq 7, 3) := by decide +kernel
theorem dX4_mark_17 : decode cX4_mark 17 = .ok (.iconst 0, 1) := by decide +kernel
theorem dX4_mark_18 : decode cX4_mark 18 = .ok (.goto 4, 3) := by decide +kernel
theorem dX4_mark_21 : decode cX4_mark 21 = .ok (.iconst 1, 1) := by decide +kernel
theorem dX4_mark_22 : decode cX4_mark 22 = .ok (.putfield 50, 3) := by decide +kernel
theorem dX4_mark_25 : decode cX4_mark 25 = .ok (.aload_n 0, 1) := by decide +kernel
theorem dX4_mark_26 : decode cX4_mark 26 = .ok (.getfield 50, 3) := by decide +kernel
theorem dX4_mark_29 : decode cX4_mark 29 = .ok (.ifCond .le 7, 3) := by decide +kernel
theorem dX4_mark_32 : decode cX4_mark 32 = .ok (.iconst 0, 1) := by decide +kernel
theorem dX4_mark_33 : decode cX4_mark 33 = .ok (.goto 9, 3) := by decide +kernel
theorem dX4_mark_36 : decode cX4_mark 36 = .ok (.aload_n 0, 1) := by decide +kernel
theorem dX4_mark_37 : decode cX4_mark 37 = .ok (.iload_n 1, 1) := by decide +kernel
theorem dX4_mark_38 : decode cX4_mark 38 = .ok (.iload_n 2, 1) := by decide +kernel
theorem dX4_mark_39 : decode cX4_mark 39 = .ok (.invokevirtual 74, 3) := by decide +kernel
theorem dX4_mark_42 : decode cX4_mark 42 = .ok (.ireturn, 1) := by decide +kernel
theorem dX4_isPossible_0 : decode cX4_isPossible 0 = .ok (.iload_n 1, 1) := by decide +kernel
theorem dX4_isPossible_1 : decode cX4_isPossible 1 = .ok (.bipush 10, 2) := by decide +kernel
theorem dX4_isPossible_3 : decode cX4_isPossible 3 = .ok (.idiv, 1) := by decide +kernel
theorem dX4_isPossible_4 : decode cX4_isPossible 4 = .ok (.istore_n 2, 1) := by decide +kernel
theorem dX4_isPossible_5 : decode cX4_isPossible 5 = .ok (.iload_n 1, 1) := by decide +kernel
theorem dX4_isPossible_6 : decode cX4_isPossible 6 = .ok (.bipush 10, 2) := by decide +kernel
theorem dX4_isPossible_8 : decode cX4_isPossible 8 = .ok (.irem, 1) := by decide +kernel
theorem dX4_isPossible_9 : decode cX4_isPossible 9 = .ok (.istore_n 3, 1) := by decide +kernel
theorem dX4_isPossible_10 : decode cX4_isPossible 10 = .ok (.iload_n 1, 1) := by decide +kernel
theorem dX4_isPossible_11 : decode cX4_isPossible 11 = .ok (.ifCond .lt 32, 3) := by decide +kernel
theorem dX4_isPossible_14 : decode cX4_isPossible 14 = .ok (.iload_n 2, 1) := by decide +kernel
theorem dX4_isPossible_15 : decode cX4_isPossible 15 = .ok (.iload_n 3, 1) := by decide +kernel
theorem dX4_isPossible_16 : decode cX4_isPossible 16 = .ok (.iadd, 1) := by decide +kernel
theorem dX4_isPossible_17 : decode cX4_isPossible 17 = .ok (.aload_n 0, 1) := by decide +kernel
theorem dX4_isPossible_18 : decode cX4_isPossible 18 = .ok (.getfield 7, 3) := by decide +kernel
theorem dX4_isPossible_21 : decode cX4_isPossible 21 = .ok (.if_icmp .gt 22, 3) := by decide +kernel
theorem dX4_isPossible_24 : decode cX4_isPossible 24 = .ok (.iload_n 3, 1) := by decide +kernel
theorem dX4_isPossible_25 : decode cX4_isPossible 25 = .ok (.iconst 1, 1) := by decide +kernel
theorem dX4_isPossible_26 : decode cX4_isPossible 26 = .ok (.if_icmp .ne 13, 3) := by decide +kernel
theorem dX4_isPossible_29 : decode cX4_isPossible 29 = .ok (.iload_n 2, 1) := by decide +kernel
theorem dX4_isPossible_30 : decode cX4_isPossible 30 = .ok (.aload_n 0, 1) := by decide +kernel
theorem dX4_isPossible_31 : decode cX4_isPossible 31 = .ok (.getfield 7, 3) := by decide +kernel
theorem dX4_isPossible_34 : decode cX4_isPossible 34 = .ok (.iconst 1, 1) := by decide +kernel
theorem dX4_isPossible_35 : decode cX4_isPossible 35 = .ok (.isub, 1) := by decide +kernel
theorem dX4_isPossible_36 : decode cX4_isPossible 36 = .ok (.if_icmp .eq 7, 3) := by decide +kernel
theorem dX4_isPossible_39 : decode cX4_isPossible 39 = .ok (.iconst 1, 1) := by decide +kernel
theorem dX4_isPossible_40 : decode cX4_isPossible 40 = .ok (.goto 4, 3) := by decide +kernel
theorem dX4_isPossible_43 : decode cX4_isPossible 43 = .ok (.iconst 0, 1) := by decide +kernel
theorem dX4_isPossible_44 : decode cX4_isPossible 44 = .ok (.ireturn, 1) := by decide +kernel
set_option maxRecDepth 20000 in
theorem ggX4_lies_X4_markOfRows : GoodIn wsX4_lies wsX4_markOfRows := goodIn_r _ [8, 9, 10, 11, 12, 13, 14, 15, 16, 17, 18, 19, 20, 21, 22, 23, 24, 25, 26, 27] (by decide +kernel) (by decide +kernel)
set_option maxRecDepth 20000 in
theorem gX4_lies_X4_markOfRows : GoodIn wsX4_lies (wsV RX4 74 RX4 yX4_markOfRows wsX4_markOfRows) := goodIn_app (goodIn_of _ (by decide +kernel)) ggX4_lies_X4_markOfRows
theorem dX4_lies_0 : decode cX4_lies 0 = .ok (.iconst 0, 1) := by decide +kernel
theorem dX4_lies_1 : decode cX4_lies 1 = .ok (.istore_n 2, 1) := by decide +kernel
theorem dX4_lies_2 : decode cX4_lies 2 = .ok (.iconst 0, 1) := by decide +kernel
theorem dX4_lies_3 : decode cX4_lies 3 = .ok (.istore_n 3, 1) := by decide +kernel
theorem dX4_lies_4 : decode cX4_lies 4 = .ok (.iload_n 3, 1) := by decide +kernel
theorem dX4_lies_5 : decode cX4_lies 5 = .ok (.aload_n 0, 1) := by decide +kernel
theorem dX4_lies_6 : decode cX4_lies 6 = .ok (.getfield 64, 3) := by decide +kernel
theorem dX4_lies_9 : decode cX4_lies 9 = .ok (.if_icmp .ge 37, 3) := by decide +kernel
theorem dX4_lies_12 : decode cX4_lies 12 = .ok (.iload_n 2, 1) := by decide +kernel
theorem dX4_lies_13 : decode cX4_lies 13 = .ok (.aload_n 0, 1) := by decide +kernel
theorem dX4_lies_14 : decode cX4_lies 14 = .ok (.aload_n 0, 1) := by decide +kernel
theorem dX4_lies_15 : decode cX4_lies 15 = .ok (.getfield 22, 3) := by decide +kernel
theorem dX4_lies_18 : decode cX4_lies 18 = .ok (.iload_n 3, 1) := by decide +kernel
theorem dX4_lies_19 : decode cX4_lies 19 = .ok (.iaload, 1) := by decide +kernel
theorem dX4_lies_20 : decode cX4_lies 20 = .ok (.iload_n 1, 1) := by decide +kernel
theorem dX4_lies_21 : decode cX4_lies 21 = .ok (.invokevirtual 74, 3) := by decide +kernel
theorem dX4_lies_24 : decode cX4_lies 24 = .ok (.aload_n 0, 1) := by decide +kernel
theorem dX4_lies_25 : decode cX4_lies 25 = .ok (.getfield 26, 3) := by decide +kernel
theorem dX4_lies_28 : decode cX4_lies 28 = .ok (.iload_n 3, 1) := by decide +kernel
theorem dX4_lies_29 : decode cX4_lies 29 = .ok (.iaload, 1) := by decide +kernel
theorem dX4_lies_30 : decode cX4_lies 30 = .ok (.if_icmp .ne 7, 3) := by decide +kernel
theorem dX4_lies_33 : decode cX4_lies 33 = .ok (.iconst 0, 1) := by decide +kernel
theorem dX4_lies_34 : decode cX4_lies 34 = .ok (.goto 4, 3) := by decide +kernel
theorem dX4_lies_37 : decode cX4_lies 37 = .ok (.iconst 1, 1) := by decide +kernel
theorem dX4_lies_38 : decode cX4_lies 38 = .ok (.iadd, 1) := by decide +kernel
theorem dX4_lies_39 : decode cX4_lies 39 = .ok (.istore_n 2, 1) := by decide +kernel
theorem dX4_lies_40 : decode cX4_lies 40 = .ok (.iinc 3 1, 3) := by decide +kernel
theorem dX4_lies_43 : decode cX4_lies 43 = .ok (.goto (-39), 3) := by decide +kernel
theorem dX4_lies_46 : decode cX4_lies 46 = .ok (.iload_n 2, 1) := by decide +kernel
theorem dX4_lies_47 : decode cX4_lies 47 = .ok (.ireturn, 1) := by decide +kernel
set_option maxRecDepth 20000 in
theorem ggX4_isStill_X4_lies : GoodIn wsX4_isStill wsX4_lies := goodIn_r _ [6, 7, 8, 9, 10, 11, 12, 5, 13, 14, 15, 16, 17, 18, 19, 20, 21, 22, 23, 24, 25, 26, 27, 28, 29, 30, 31, 32] (by decide +kernel) (by decide +kernel)
set_option maxRecDepth 20000 in
theorem gX4_isStill_X4_lies : GoodIn wsX4_isStill (wsV RX4 77 RX4 yX4_lies wsX4_lies) := goodIn_app (goodIn_of _ (by decide +kernel)) ggX4_isStill_X4_lies
theorem dX4_isStill_0 : decode cX4_isStill 0 = .ok (.aload_n 0, 1) := by decide +kernel
theorem dX4_isStill_1 : decode cX4_isStill 1 = .ok (.iload_n 1, 1) := by decide +kernel
theorem dX4_isStill_2 : decode cX4_isStill 2 = .ok (.invokevirtual 77, 3) := by decide +kernel
theorem dX4_isStill_5 : decode cX4_isStill 5 = .ok (.aload_n 0, 1) := by decide +kernel
theorem dX4_isStill_6 : decode cX4_isStill 6 = .ok (.getfield 61, 3) := by decide +kernel
theorem dX4_isStill_9 : decode cX4_isStill 9 = .ok (.if_icmp .gt 7, 3) := by decide +kernel
theorem dX4_isStill_12 : decode cX4_isStill 12 = .ok (.iconst 1, 1) := by decide +kernel
theorem dX4_isStill_13 : decode cX4_isStill 13 = .ok (.goto 4, 3) := by decide +kernel
theorem dX4_isStill_16 : decode cX4_isStill 16 = .ok (.iconst 0, 1) := by decide +kernel
theorem dX4_isStill_17 : decode cX4_isStill 17 = .ok (.ireturn, 1) := by decide +kernel
set_option maxRecDepth 20000 in
theorem ggX4_allowLies_X4_in : GoodIn wsX4_allowLies wsX4_in := goodIn_r _ [7] (by decide +kernel) (by decide +kernel)
set_option maxRecDepth 20000 in
theorem gX4_allowLies_X4_in : GoodIn wsX4_allowLies (va_wsS RX4 53 yX4_in wsX4_in) := goodIn_app (goodIn_of _ (by decide +kernel)) ggX4_allowLies_X4_in
set_option maxRecDepth 20000 in
theorem ggX4_allowLies_X4_lies : GoodIn wsX4_allowLies wsX4_lies := goodIn_r _ [11, 12, 13, 14, 15, 16, 17, 6, 18, 19, 20, 21, 22, 23, 24, 25, 26, 27, 28, 29, 30, 31, 32, 33, 34, 35, 36, 37] (by decide +kernel) (by decide +kernel)
set_option maxRecDepth 20000 in
theorem gX4_allowLies_X4_lies : GoodIn wsX4_allowLies (wsV RX4 77 RX4 yX4_lies wsX4_lies) := goodIn_app (goodIn_of _ (by decide +kernel)) ggX4_allowLies_X4_lies
theorem dX4_allowLies_0 : decode cX4_allowLies 0 = .ok (.aload_n 0, 1) := by decide +kernel
theorem dX4_allowLies_1 : decode cX4_allowLies 1 = .ok (.iload_n 1, 1) := by decide +kernel
theorem dX4_allowLies_2 : decode cX4_allowLies 2 = .ok (.iconst 0, 1) := by decide +kernel
theorem dX4_allowLies_3 : decode cX4_allowLies 3 = .ok (.iconst 3, 1) := by decide +kernel
theorem dX4_allowLies_4 : decode cX4_allowLies 4 = .ok (.invokestatic 53, 3) := by decide +kernel
theorem dX4_allowLies_7 : decode cX4_allowLies 7 = .ok (.ifCond .ne 7, 3) := by decide +kernel
theorem dX4_allowLies_10 : decode cX4_allowLies 10 = .ok (.iconst 1, 1) := by decide +kernel
theorem dX4_allowLies_11 : decode cX4_allowLies 11 = .ok (.goto 28, 3) := by decide +kernel
theorem dX4_allowLies_14 : decode cX4_allowLies 14 = .ok (.aload_n 0, 1) := by decide +kernel
theorem dX4_allowLies_15 : decode cX4_allowLies 15 = .ok (.getfield 19, 3) := by decide +kernel
theorem dX4_allowLies_18 : decode cX4_allowLies 18 = .ok (.iconst (-1), 1) := by decide +kernel
theorem dX4_allowLies_19 : decode cX4_allowLies 19 = .ok (.if_icmp .eq 19, 3) := by decide +kernel
theorem dX4_allowLies_22 : decode cX4_allowLies 22 = .ok (.aload_n 0, 1) := by decide +kernel
theorem dX4_allowLies_23 : decode cX4_allowLies 23 = .ok (.aload_n 0, 1) := by decide +kernel
theorem dX4_allowLies_24 : decode cX4_allowLies 24 = .ok (.getfield 19, 3) := by decide +kernel
theorem dX4_allowLies_27 : decode cX4_allowLies 27 = .ok (.invokevirtual 77, 3) := by decide +kernel
theorem dX4_allowLies_30 : decode cX4_allowLies 30 = .ok (.iload_n 1, 1) := by decide +kernel
theorem dX4_allowLies_31 : decode cX4_allowLies 31 = .ok (.if_icmp .le 7, 3) := by decide +kernel
theorem dX4_allowLies_34 : decode cX4_allowLies 34 = .ok (.iconst 2, 1) := by decide +kernel
theorem dX4_allowLies_35 : decode cX4_allowLies 35 = .ok (.goto 4, 3) := by decide +kernel
theorem dX4_allowLies_38 : decode cX4_allowLies 38 = .ok (.iconst 0, 1) := by decide +kernel
theorem dX4_allowLies_39 : decode cX4_allowLies 39 = .ok (.putfield 50, 3) := by decide +kernel
theorem dX4_allowLies_42 : decode cX4_allowLies 42 = .ok (.aload_n 0, 1) := by decide +kernel
theorem dX4_allowLies_43 : decode cX4_allowLies 43 = .ok (.getfield 50, 3) := by decide +kernel
theorem dX4_allowLies_46 : decode cX4_allowLies 46 = .ok (.ifCond .le 5, 3) := by decide +kernel
theorem dX4_allowLies_49 : decode cX4_allowLies 49 = .ok (.iconst 0, 1) := by decide +kernel
theorem dX4_allowLies_50 : decode cX4_allowLies 50 = .ok (.ireturn, 1) := by decide +kernel
theorem dX4_allowLies_51 : decode cX4_allowLies 51 = .ok (.aload_n 0, 1) := by decide +kernel
theorem dX4_allowLies_52 : decode cX4_allowLies 52 = .ok (.getfield 61, 3) := by decide +kernel
theorem dX4_allowLies_55 : decode cX4_allowLies 55 = .ok (.istore_n 2, 1) := by decide +kernel
theorem dX4_allowLies_56 : decode cX4_allowLies 56 = .ok (.aload_n 0, 1) := by decide +kernel
theorem dX4_allowLies_57 : decode cX4_allowLies 57 = .ok (.iload_n 1, 1) := by decide +kernel
theorem dX4_allowLies_58 : decode cX4_allowLies 58 = .ok (.putfield 61, 3) := by decide +kernel
theorem dX4_allowLies_61 : decode cX4_allowLies 61 = .ok (.iload_n 2, 1) := by decide +kernel
theorem dX4_allowLies_62 : decode cX4_allowLies 62 = .ok (.ireturn, 1) := by decide +kernel
set_option maxRecDepth 20000 in
theorem ggX4_hide_X4_isRow : GoodIn wsX4_hide wsX4_isRow := goodIn_r _ [7, 8, 9, 10, 6, 11, 31, 32, 33, 34, 35, 36, 37, 38, 39, 40, 41, 42, 43, 44, 45, 46] (by decide +kernel) (by decide +kernel)
set_option maxRecDepth 20000 in
theorem gX4_hide_X4_isRow : GoodIn wsX4_hide (wsV RX4 67 RX4 yX4_isRow wsX4_isRow) := goodIn_app (goodIn_of _ (by decide +kernel)) ggX4_hide_X4_isRow
set_option maxRecDepth 20000 in
theorem ggX4_hide_X4_isStill : GoodIn wsX4_hide wsX4_isStill := goodIn_r _ [15, 16, 17, 18, 19, 6, 20, 21, 22, 23, 24, 25, 26, 27, 28, 29, 30, 31, 32, 33, 34, 35, 36, 37, 38, 39, 40, 41, 42, 43, 44, 45, 46] (by decide +kernel) (by decide +kernel)
set_option maxRecDepth 20000 in
theorem gX4_hide_X4_isStill : GoodIn wsX4_hide (wsV RX4 81 RX4 yX4_isStill wsX4_isStill) := goodIn_app (goodIn_of _ (by decide +kernel)) ggX4_hide_X4_isStill
theorem dX4_hide_0 : decode cX4_hide 0 = .ok (.aload_n 0, 1) := by decide +kernel
theorem dX4_hide_1 : decode cX4_hide 1 = .ok (.aload_n 0, 1) := by decide +kernel
theorem dX4_hide_2 : decode cX4_hide 2 = .ok (.iload_n 1, 1) := by decide +kernel
theorem dX4_hide_3 : decode cX4_hide 3 = .ok (.invokevirtual 67, 3) := by decide +kernel
theorem dX4_hide_6 : decode cX4_hide 6 = .ok (.ifCond .ne 7, 3) := by decide +kernel
theorem dX4_hide_9 : decode cX4_hide 9 = .ok (.iconst 1, 1) := by decide +kernel
theorem dX4_hide_10 : decode cX4_hide 10 = .ok (.goto 16, 3) := by decide +kernel
theorem dX4_hide_13 : decode cX4_hide 13 = .ok (.aload_n 0, 1) := by decide +kernel
theorem dX4_hide_14 : decode cX4_hide 14 = .ok (.iload_n 1, 1) := by decide +kernel
theorem dX4_hide_15 : decode cX4_hide 15 = .ok (.invokevirtual 81, 3) := by decide +kernel
theorem dX4_hide_18 : decode cX4_hide 18 = .ok (.ifCond .eq 7, 3) := by decide +kernel
theorem dX4_hide_21 : decode cX4_hide 21 = .ok (.iconst 0, 1) := by decide +kernel
theorem dX4_hide_22 : decode cX4_hide 22 = .ok (.goto 4, 3) := by decide +kernel
theorem dX4_hide_25 : decode cX4_hide 25 = .ok (.iconst 2, 1) := by decide +kernel
theorem dX4_hide_26 : decode cX4_hide 26 = .ok (.putfield 50, 3) := by decide +kernel
theorem dX4_hide_29 : decode cX4_hide 29 = .ok (.aload_n 0, 1) := by decide +kernel
theorem dX4_hide_30 : decode cX4_hide 30 = .ok (.getfield 50, 3) := by decide +kernel
theorem dX4_hide_33 : decode cX4_hide 33 = .ok (.ifCond .le 5, 3) := by decide +kernel
theorem dX4_hide_36 : decode cX4_hide 36 = .ok (.iconst 0, 1) := by decide +kernel
theorem dX4_hide_37 : decode cX4_hide 37 = .ok (.ireturn, 1) := by decide +kernel
theorem dX4_hide_38 : decode cX4_hide 38 = .ok (.aload_n 0, 1) := by decide +kernel
theorem dX4_hide_39 : decode cX4_hide 39 = .ok (.getfield 19, 3) := by decide +kernel
theorem dX4_hide_42 : decode cX4_hide 42 = .ok (.iconst (-1), 1) := by decide +kernel
theorem dX4_hide_43 : decode cX4_hide 43 = .ok (.if_icmp .eq 7, 3) := by decide +kernel
theorem dX4_hide_46 : decode cX4_hide 46 = .ok (.iconst 1, 1) := by decide +kernel
theorem dX4_hide_47 : decode cX4_hide 47 = .ok (.goto 4, 3) := by decide +kernel
theorem dX4_hide_50 : decode cX4_hide 50 = .ok (.iconst 0, 1) := by decide +kernel
theorem dX4_hide_51 : decode cX4_hide 51 = .ok (.istore_n 2, 1) := by decide +kernel
theorem dX4_hide_52 : decode cX4_hide 52 = .ok (.aload_n 0, 1) := by decide +kernel
theorem dX4_hide_53 : decode cX4_hide 53 = .ok (.iload_n 1, 1) := by decide +kernel
theorem dX4_hide_54 : decode cX4_hide 54 = .ok (.putfield 19, 3) := by decide +kernel
theorem dX4_hide_57 : decode cX4_hide 57 = .ok (.iload_n 2, 1) := by decide +kernel
theorem dX4_hide_58 : decode cX4_hide 58 = .ok (.ireturn, 1) := by decide +kernel
theorem dX4_adds_0 : decode cX4_adds 0 = .ok (.aload_n 0, 1) := by decide +kernel
theorem dX4_adds_1 : decode cX4_adds 1 = .ok (.getfield 22, 3) := by decide +kernel
theorem dX4_adds_4 : decode cX4_adds 4 = .ok (.aload_n 0, 1) := by decide +kernel
theorem dX4_adds_5 : decode cX4_adds 5 = .ok (.getfield 64, 3) := by decide +kernel
theorem dX4_adds_8 : decode cX4_adds 8 = .ok (.iload_n 1, 1) := by decide +kernel
theorem dX4_adds_9 : decode cX4_adds 9 = .ok (.iastore, 1) := by decide +kernel
theorem dX4_adds_10 : decode cX4_adds 10 = .ok (.aload_n 0, 1) := by decide +kernel
theorem dX4_adds_11 : decode cX4_adds 11 = .ok (.getfield 26, 3) := by decide +kernel
theorem dX4_adds_14 : decode cX4_adds 14 = .ok (.aload_n 0, 1) := by decide +kernel
theorem dX4_adds_15 : decode cX4_adds 15 = .ok (.getfield 64, 3) := by decide +kernel
theorem dX4_adds_18 : decode cX4_adds 18 = .ok (.iload_n 2, 1) := by decide +kernel
theorem dX4_adds_19 : decode cX4_adds 19 = .ok (.iastore, 1) := by decide +kernel
theorem dX4_adds_20 : decode cX4_adds 20 = .ok (.aload_n 0, 1) := by decide +kernel
theorem dX4_adds_21 : decode cX4_adds 21 = .ok (.dup, 1) := by decide +kernel
theorem dX4_adds_22 : decode cX4_adds 22 = .ok (.getfield 64, 3) := by decide +kernel
theorem dX4_adds_25 : decode cX4_adds 25 = .ok (.iconst 1, 1) := by decide +kernel
theorem dX4_adds_26 : decode cX4_adds 26 = .ok (.iadd, 1) := by decide +kernel
theorem dX4_adds_27 : decode cX4_adds 27 = .ok (.putfield 64, 3) := by decide +kernel
theorem dX4_adds_30 : decode cX4_adds 30 = .ok (.return_, 1) := by decide +kernel
set_option maxRecDepth 20000 in
theorem ggX4_guess_X4_isRow : GoodIn wsX4_guess wsX4_isRow := goodIn_r _ [8, 9, 10, 11, 7, 12, 26, 27, 28, 29, 30, 31, 32, 33, 34, 35, 36, 37, 38, 39, 40, 41] (by decide +kernel) (by decide +kernel)
set_option maxRecDepth 20000 in
theorem gX4_guess_X4_isRow : GoodIn wsX4_guess (wsV RX4 67 RX4 yX4_isRow wsX4_isRow) := goodIn_app (goodIn_of _ (by decide +kernel)) ggX4_guess_X4_isRow
set_option maxRecDepth 20000 in
theorem ggX4_guess_X4_markOfRows : GoodIn wsX4_guess wsX4_markOfRows := goodIn_r _ [16, 17, 18, 19, 26, 27, 28, 29, 30, 31, 32, 33, 34, 35, 36, 37, 38, 39, 40, 41] (by decide +kernel) (by decide +kernel)
set_option maxRecDepth 20000 in
theorem gX4_guess_X4_markOfRows : GoodIn wsX4_guess (wsV RX4 74 RX4 yX4_markOfRows wsX4_markOfRows) := goodIn_app (goodIn_of _ (by decide +kernel)) ggX4_guess_X4_markOfRows
set_option maxRecDepth 20000 in
theorem ggX4_guess_X4_adds : GoodIn wsX4_guess wsX4_adds := goodIn_r _ [23, 24, 2, 25, 26, 27, 28, 29, 30, 31, 32, 33, 34, 35, 36, 37, 38, 39, 40, 41] (by decide +kernel) (by decide +kernel)
set_option maxRecDepth 20000 in
theorem gX4_guess_X4_adds : GoodIn wsX4_guess (wsV RX4 84 RX4 yX4_adds wsX4_adds) := goodIn_app (goodIn_of _ (by decide +kernel)) ggX4_guess_X4_adds
theorem dX4_guess_0 : decode cX4_guess 0 = .ok (.aload_n 0, 1) := by decide +kernel
theorem dX4_guess_1 : decode cX4_guess 1 = .ok (.aload_n 0, 1) := by decide +kernel
theorem dX4_guess_2 : decode cX4_guess 2 = .ok (.iload_n 1, 1) := by decide +kernel
theorem dX4_guess_3 : decode cX4_guess 3 = .ok (.invokevirtual 67, 3) := by decide +kernel
theorem dX4_guess_6 : decode cX4_guess 6 = .ok (.ifCond .ne 7, 3) := by decide +kernel
theorem dX4_guess_9 : decode cX4_guess 9 = .ok (.iconst 1, 1) := by decide +kernel
theorem dX4_guess_10 : decode cX4_guess 10 = .ok (.goto 25, 3) := by decide +kernel
theorem dX4_guess_13 : decode cX4_guess 13 = .ok (.aload_n 0, 1) := by decide +kernel
theorem dX4_guess_14 : decode cX4_guess 14 = .ok (.getfield 19, 3) := by decide +kernel
theorem dX4_guess_17 : decode cX4_guess 17 = .ok (.iconst (-1), 1) := by decide +kernel
theorem dX4_guess_18 : decode cX4_guess 18 = .ok (.if_icmp .eq 12, 3) := by decide +kernel
theorem dX4_guess_21 : decode cX4_guess 21 = .ok (.aload_n 0, 1) := by decide +kernel
theorem dX4_guess_22 : decode cX4_guess 22 = .ok (.getfield 64, 3) := by decide +kernel
theorem dX4_guess_25 : decode cX4_guess 25 = .ok (.bipush 10, 2) := by decide +kernel
theorem dX4_guess_27 : decode cX4_guess 27 = .ok (.if_icmp .ne 7, 3) := by decide +kernel
theorem dX4_guess_30 : decode cX4_guess 30 = .ok (.iconst 2, 1) := by decide +kernel
theorem dX4_guess_31 : decode cX4_guess 31 = .ok (.goto 4, 3) := by decide +kernel
theorem dX4_guess_34 : decode cX4_guess 34 = .ok (.iconst 0, 1) := by decide +kernel
theorem dX4_guess_35 : decode cX4_guess 35 = .ok (.putfield 50, 3) := by decide +kernel
theorem dX4_guess_38 : decode cX4_guess 38 = .ok (.aload_n 0, 1) := by decide +kernel
theorem dX4_guess_39 : decode cX4_guess 39 = .ok (.getfield 50, 3) := by decide +kernel
theorem dX4_guess_42 : decode cX4_guess 42 = .ok (.ifCond .le 5, 3) := by decide +kernel
theorem dX4_guess_45 : decode cX4_guess 45 = .ok (.iconst 0, 1) := by decide +kernel
theorem dX4_guess_46 : decode cX4_guess 46 = .ok (.ireturn, 1) := by decide +kernel
theorem dX4_guess_47 : decode cX4_guess 47 = .ok (.aload_n 0, 1) := by decide +kernel
theorem dX4_guess_48 : decode cX4_guess 48 = .ok (.iload_n 1, 1) := by decide +kernel
theorem dX4_guess_49 : decode cX4_guess 49 = .ok (.aload_n 0, 1) := by decide +kernel
theorem dX4_guess_50 : decode cX4_guess 50 = .ok (.getfield 19, 3) := by decide +kernel
theorem dX4_guess_53 : decode cX4_guess 53 = .ok (.invokevirtual 74, 3) := by decide +kernel
theorem dX4_guess_56 : decode cX4_guess 56 = .ok (.istore_n 2, 1) := by decide +kernel
theorem dX4_guess_57 : decode cX4_guess 57 = .ok (.aload_n 0, 1) := by decide +kernel
theorem dX4_guess_58 : decode cX4_guess 58 = .ok (.iload_n 1, 1) := by decide +kernel
theorem dX4_guess_59 : decode cX4_guess 59 = .ok (.iload_n 2, 1) := by decide +kernel
theorem dX4_guess_60 : decode cX4_guess 60 = .ok (.invokevirtual 84, 3) := by decide +kernel
theorem dX4_guess_63 : decode cX4_guess 63 = .ok (.iload_n 2, 1) := by decide +kernel
theorem dX4_guess_64 : decode cX4_guess 64 = .ok (.ireturn, 1) := by decide +kernel
set_option maxRecDepth 20000 in
theorem ggX4_manyLeft_X4_isStill : GoodIn wsX4_manyLeft wsX4_isStill := goodIn_r _ [6, 7, 8, 9, 10, 5, 11, 12, 13, 14, 15, 16, 17, 18, 19, 20, 21, 22, 23, 24, 25, 26, 27, 28, 29, 30, 31, 32, 33, 34, 35, 36, 37] (by decide +kernel) (by decide +kernel)
set_option maxRecDepth 20000 in
theorem gX4_manyLeft_X4_isStill : GoodIn wsX4_manyLeft (wsV RX4 81 RX4 yX4_isStill wsX4_isStill) := goodIn_app (goodIn_of _ (by decide +kernel)) ggX4_manyLeft_X4_isStill
theorem dX4_manyLeft_0 : decode cX4_manyLeft 0 = .ok (.iconst 0, 1) := by decide +kernel
theorem dX4_manyLeft_1 : decode cX4_manyLeft 1 = .ok (.istore_n 1, 1) := by decide +kernel
theorem dX4_manyLeft_2 : decode cX4_manyLeft 2 = .ok (.iconst 0, 1) := by decide +kernel
theorem dX4_manyLeft_3 : decode cX4_manyLeft 3 = .ok (.istore_n 2, 1) := by decide +kernel
theorem dX4_manyLeft_4 : decode cX4_manyLeft 4 = .ok (.iload_n 2, 1) := by decide +kernel
theorem dX4_manyLeft_5 : decode cX4_manyLeft 5 = .ok (.aload_n 0, 1) := by decide +kernel
theorem dX4_manyLeft_6 : decode cX4_manyLeft 6 = .ok (.getfield 16, 3) := by decide +kernel
theorem dX4_manyLeft_9 : decode cX4_manyLeft 9 = .ok (.if_icmp .ge 25, 3) := by decide +kernel
theorem dX4_manyLeft_12 : decode cX4_manyLeft 12 = .ok (.iload_n 1, 1) := by decide +kernel
theorem dX4_manyLeft_13 : decode cX4_manyLeft 13 = .ok (.aload_n 0, 1) := by decide +kernel
theorem dX4_manyLeft_14 : decode cX4_manyLeft 14 = .ok (.iload_n 2, 1) := by decide +kernel
theorem dX4_manyLeft_15 : decode cX4_manyLeft 15 = .ok (.invokevirtual 81, 3) := by decide +kernel
theorem dX4_manyLeft_18 : decode cX4_manyLeft 18 = .ok (.ifCond .eq 7, 3) := by decide +kernel
theorem dX4_manyLeft_21 : decode cX4_manyLeft 21 = .ok (.iconst 1, 1) := by decide +kernel
theorem dX4_manyLeft_22 : decode cX4_manyLeft 22 = .ok (.goto 4, 3) := by decide +kernel
theorem dX4_manyLeft_25 : decode cX4_manyLeft 25 = .ok (.iconst 0, 1) := by decide +kernel
theorem dX4_manyLeft_26 : decode cX4_manyLeft 26 = .ok (.iadd, 1) := by decide +kernel
theorem dX4_manyLeft_27 : decode cX4_manyLeft 27 = .ok (.istore_n 1, 1) := by decide +kernel
theorem dX4_manyLeft_28 : decode cX4_manyLeft 28 = .ok (.iinc 2 1, 3) := by decide +kernel
theorem dX4_manyLeft_31 : decode cX4_manyLeft 31 = .ok (.goto (-27), 3) := by decide +kernel
theorem dX4_manyLeft_34 : decode cX4_manyLeft 34 = .ok (.iload_n 1, 1) := by decide +kernel
theorem dX4_manyLeft_35 : decode cX4_manyLeft 35 = .ok (.ireturn, 1) := by decide +kernel
set_option maxRecDepth 20000 in
theorem ggX4_tell_X4_isRow : GoodIn wsX4_tell wsX4_isRow := goodIn_r _ [9, 10, 11, 12, 8, 13, 43, 44, 45, 46, 47, 48, 49, 50, 51, 52, 53, 54, 55, 56, 57, 58] (by decide +kernel) (by decide +kernel)
set_option maxRecDepth 20000 in
theorem gX4_tell_X4_isRow : GoodIn wsX4_tell (wsV RX4 67 RX4 yX4_isRow wsX4_isRow) := goodIn_app (goodIn_of _ (by decide +kernel)) ggX4_tell_X4_isRow
set_option maxRecDepth 20000 in
theorem ggX4_tell_X4_isPossible : GoodIn wsX4_tell wsX4_isPossible := goodIn_r _ [17, 18, 43, 44, 45, 46, 47, 48, 49, 50, 51, 52, 53, 54, 55, 56, 57, 58] (by decide +kernel) (by decide +kernel)
set_option maxRecDepth 20000 in
theorem gX4_tell_X4_isPossible : GoodIn wsX4_tell (wsV RX4 88 RX4 yX4_isPossible wsX4_isPossible) := goodIn_app (goodIn_of _ (by decide +kernel)) ggX4_tell_X4_isPossible
set_option maxRecDepth 20000 in
theorem ggX4_tell_X4_lies : GoodIn wsX4_tell wsX4_lies := goodIn_r _ [22, 1, 23, 24, 25, 26, 27, 8, 28, 29, 30, 18, 43, 44, 45, 46, 47, 48, 49, 50, 51, 52, 53, 54, 55, 56, 57, 58] (by decide +kernel) (by decide +kernel)
set_option maxRecDepth 20000 in
theorem gX4_tell_X4_lies : GoodIn wsX4_tell (wsV RX4 77 RX4 yX4_lies wsX4_lies) := goodIn_app (goodIn_of _ (by decide +kernel)) ggX4_tell_X4_lies
set_option maxRecDepth 20000 in
theorem ggX4_tell_X4_markOfRows : GoodIn wsX4_tell wsX4_markOfRows := goodIn_r _ [28, 29, 30, 18, 43, 44, 45, 46, 47, 48, 49, 50, 51, 52, 53, 54, 55, 56, 57, 58] (by decide +kernel) (by decide +kernel)
set_option maxRecDepth 20000 in
theorem gX4_tell_X4_markOfRows : GoodIn wsX4_tell (wsV RX4 74 RX4 yX4_markOfRows wsX4_markOfRows) := goodIn_app (goodIn_of _ (by decide +kernel)) ggX4_tell_X4_markOfRows
set_option maxRecDepth 20000 in
theorem ggX4_tell_X4_adds : GoodIn wsX4_tell wsX4_adds := goodIn_r _ [34, 23, 1, 24, 43, 44, 45, 46, 47, 48, 49, 50, 51, 52, 53, 54, 55, 56, 57, 58] (by decide +kernel) (by decide +kernel)
set_option maxRecDepth 20000 in
theorem gX4_tell_X4_adds : GoodIn wsX4_tell (wsV RX4 84 RX4 yX4_adds wsX4_adds) := goodIn_app (goodIn_of _ (by decide +kernel)) ggX4_tell_X4_adds
set_option maxRecDepth 20000 in
theorem ggX4_tell_X4_manyLeft : GoodIn wsX4_tell wsX4_manyLeft := goodIn_r _ [38, 10, 39, 40, 41, 8, 42, 4, 19, 20, 21, 22, 1, 23, 24, 25, 26, 27, 28, 29, 30, 18, 43, 44, 45, 46, 47, 48, 49, 50, 51, 52, 53, 54, 55, 56, 57, 58] (by decide +kernel) (by decide +kernel)
set_option maxRecDepth 20000 in
theorem gX4_tell_X4_manyLeft : GoodIn wsX4_tell (wsV RX4 91 RX4 yX4_manyLeft wsX4_manyLeft) := goodIn_app (goodIn_of _ (by decide +kernel)) ggX4_tell_X4_manyLeft
theorem dX4_tell_0 : decode cX4_tell 0 = .ok (.aload_n 0, 1) := by decide +kernel
theorem dX4_tell_1 : decode cX4_tell 1 = .ok (.aload_n 0, 1) := by decide +kernel
theorem dX4_tell_2 : decode cX4_tell 2 = .ok (.iload_n 1, 1) := by decide +kernel
theorem dX4_tell_3 : decode cX4_tell 3 = .ok (.invokevirtual 67, 3) := by decide +kernel
theorem dX4_tell_6 : decode cX4_tell 6 = .ok (.ifCond .ne 7, 3) := by decide +kernel
theorem dX4_tell_9 : decode cX4_tell 9 = .ok (.iconst 1, 1) := by decide +kernel
theorem dX4_tell_10 : decode cX4_tell 10 = .ok (.goto 29, 3) := by decide +kernel
theorem dX4_tell_13 : decode cX4_tell 13 = .ok (.aload_n 0, 1) := by decide +kernel
theorem dX4_tell_14 : decode cX4_tell 14 = .ok (.iload_n 2, 1) := by decide +kernel
theorem dX4_tell_15 : decode cX4_tell 15 = .ok (.invokevirtual 88, 3) := by decide +kernel
theorem dX4_tell_18 : decode cX4_tell 18 = .ok (.ifCond .ne 7, 3) := by decide +kernel
theorem dX4_tell_21 : decode cX4_tell 21 = .ok (.iconst 2, 1) := by decide +kernel
theorem dX4_tell_22 : decode cX4_tell 22 = .ok (.goto 17, 3) := by decide +kernel
theorem dX4_tell_25 : decode cX4_tell 25 = .ok (.aload_n 0, 1) := by decide +kernel
theorem dX4_tell_26 : decode cX4_tell 26 = .ok (.getfield 64, 3) := by decide +kernel
theorem dX4_tell_29 : decode cX4_tell 29 = .ok (.bipush 10, 2) := by decide +kernel
theorem dX4_tell_31 : decode cX4_tell 31 = .ok (.if_icmp .ne 7, 3) := by decide +kernel
theorem dX4_tell_34 : decode cX4_tell 34 = .ok (.iconst 3, 1) := by decide +kernel
theorem dX4_tell_35 : decode cX4_tell 35 = .ok (.goto 4, 3) := by decide +kernel
theorem dX4_tell_38 : decode cX4_tell 38 = .ok (.iconst 0, 1) := by decide +kernel
theorem dX4_tell_39 : decode cX4_tell 39 = .ok (.putfield 50, 3) := by decide +kernel
theorem dX4_tell_42 : decode cX4_tell 42 = .ok (.aload_n 0, 1) := by decide +kernel
theorem dX4_tell_43 : decode cX4_tell 43 = .ok (.getfield 50, 3) := by decide +kernel
theorem dX4_tell_46 : decode cX4_tell 46 = .ok (.ifCond .le 5, 3) := by decide +kernel
theorem dX4_tell_49 : decode cX4_tell 49 = .ok (.iconst 0, 1) := by decide +kernel
theorem dX4_tell_50 : decode cX4_tell 50 = .ok (.ireturn, 1) := by decide +kernel
theorem dX4_tell_51 : decode cX4_tell 51 = .ok (.aload_n 0, 1) := by decide +kernel
theorem dX4_tell_52 : decode cX4_tell 52 = .ok (.getfield 19, 3) := by decide +kernel
theorem dX4_tell_55 : decode cX4_tell 55 = .ok (.iconst (-1), 1) := by decide +kernel
theorem dX4_tell_56 : decode cX4_tell 56 = .ok (.if_icmp .eq 44, 3) := by decide +kernel
theorem dX4_tell_59 : decode cX4_tell 59 = .ok (.aload_n 0, 1) := by decide +kernel
theorem dX4_tell_60 : decode cX4_tell 60 = .ok (.aload_n 0, 1) := by decide +kernel
theorem dX4_tell_61 : decode cX4_tell 61 = .ok (.getfield 19, 3) := by decide +kernel
theorem dX4_tell_64 : decode cX4_tell 64 = .ok (.invokevirtual 77, 3) := by decide +kernel
theorem dX4_tell_67 : decode cX4_tell 67 = .ok (.aload_n 0, 1) := by decide +kernel
theorem dX4_tell_68 : decode cX4_tell 68 = .ok (.iload_n 1, 1) := by decide +kernel
theorem dX4_tell_69 : decode cX4_tell 69 = .ok (.aload_n 0, 1) := by decide +kernel
theorem dX4_tell_70 : decode cX4_tell 70 = .ok (.getfield 19, 3) := by decide +kernel
theorem dX4_tell_73 : decode cX4_tell 73 = .ok (.invokevirtual 74, 3) := by decide +kernel
theorem dX4_tell_76 : decode cX4_tell 76 = .ok (.iload_n 2, 1) := by decide +kernel
theorem dX4_tell_77 : decode cX4_tell 77 = .ok (.if_icmp .ne 7, 3) := by decide +kernel
theorem dX4_tell_80 : decode cX4_tell 80 = .ok (.iconst 0, 1) := by decide +kernel
theorem dX4_tell_81 : decode cX4_tell 81 = .ok (.goto 4, 3) := by decide +kernel
theorem dX4_tell_84 : decode cX4_tell 84 = .ok (.iconst 1, 1) := by decide +kernel
theorem dX4_tell_85 : decode cX4_tell 85 = .ok (.iadd, 1) := by decide +kernel
theorem dX4_tell_86 : decode cX4_tell 86 = .ok (.aload_n 0, 1) := by decide +kernel
theorem dX4_tell_87 : decode cX4_tell 87 = .ok (.getfield 61, 3) := by decide +kernel
theorem dX4_tell_90 : decode cX4_tell 90 = .ok (.if_icmp .le 10, 3) := by decide +kernel
theorem dX4_tell_93 : decode cX4_tell 93 = .ok (.aload_n 0, 1) := by decide +kernel
theorem dX4_tell_94 : decode cX4_tell 94 = .ok (.iconst 3, 1) := by decide +kernel
theorem dX4_tell_95 : decode cX4_tell 95 = .ok (.putfield 50, 3) := by decide +kernel
theorem dX4_tell_98 : decode cX4_tell 98 = .ok (.iconst 0, 1) := by decide +kernel
theorem dX4_tell_99 : decode cX4_tell 99 = .ok (.ireturn, 1) := by decide +kernel
theorem dX4_tell_100 : decode cX4_tell 100 = .ok (.aload_n 0, 1) := by decide +kernel
theorem dX4_tell_101 : decode cX4_tell 101 = .ok (.iload_n 1, 1) := by decide +kernel
theorem dX4_tell_102 : decode cX4_tell 102 = .ok (.iload_n 2, 1) := by decide +kernel
theorem dX4_tell_103 : decode cX4_tell 103 = .ok (.invokevirtual 84, 3) := by decide +kernel
theorem dX4_tell_106 : decode cX4_tell 106 = .ok (.aload_n 0, 1) := by decide +kernel
theorem dX4_tell_107 : decode cX4_tell 107 = .ok (.invokevirtual 91, 3) := by decide +kernel
theorem dX4_tell_110 : decode cX4_tell 110 = .ok (.ireturn, 1) := by decide +kernel
set_option maxRecDepth 20000 in
theorem ggX4_takeBack_X4_manyLeft : GoodIn wsX4_takeBack wsX4_manyLeft := goodIn_r _ [7, 8, 9, 10, 11, 6, 12, 13, 14, 15, 16, 17, 1, 18, 19, 20, 21, 22, 23, 24, 25, 26, 27, 28, 29, 30, 31, 32, 33, 34, 35, 36, 37, 38, 39, 40, 41, 42] (by decide +kernel) (by decide +kernel)
set_option maxRecDepth 20000 in
theorem gX4_takeBack_X4_manyLeft : GoodIn wsX4_takeBack (wsV RX4 91 RX4 yX4_manyLeft wsX4_manyLeft) := goodIn_app (goodIn_of _ (by decide +kernel)) ggX4_takeBack_X4_manyLeft
theorem dX4_takeBack_0 : decode cX4_takeBack 0 = .ok (.aload_n 0, 1) := by decide +kernel
theorem dX4_takeBack_1 : decode cX4_takeBack 1 = .ok (.aload_n 0, 1) := by decide +kernel
theorem dX4_takeBack_2 : decode cX4_takeBack 2 = .ok (.getfield 64, 3) := by decide +kernel
theorem dX4_takeBack_5 : decode cX4_takeBack 5 = .ok (.ifCond .ne 7, 3) := by decide +kernel
theorem dX4_takeBack_8 : decode cX4_takeBack 8 = .ok (.iconst 1, 1) := by decide +kernel
theorem dX4_takeBack_9 : decode cX4_takeBack 9 = .ok (.goto 4, 3) := by decide +kernel
theorem dX4_takeBack_12 : decode cX4_takeBack 12 = .ok (.iconst 0, 1) := by decide +kernel
theorem dX4_takeBack_13 : decode cX4_takeBack 13 = .ok (.putfield 50, 3) := by decide +kernel
theorem dX4_takeBack_16 : decode cX4_takeBack 16 = .ok (.aload_n 0, 1) := by decide +kernel
theorem dX4_takeBack_17 : decode cX4_takeBack 17 = .ok (.getfield 50, 3) := by decide +kernel
theorem dX4_takeBack_20 : decode cX4_takeBack 20 = .ok (.ifCond .le 5, 3) := by decide +kernel
theorem dX4_takeBack_23 : decode cX4_takeBack 23 = .ok (.iconst 0, 1) := by decide +kernel
theorem dX4_takeBack_24 : decode cX4_takeBack 24 = .ok (.ireturn, 1) := by decide +kernel
theorem dX4_takeBack_25 : decode cX4_takeBack 25 = .ok (.aload_n 0, 1) := by decide +kernel
theorem dX4_takeBack_26 : decode cX4_takeBack 26 = .ok (.dup, 1) := by decide +kernel
theorem dX4_takeBack_27 : decode cX4_takeBack 27 = .ok (.getfield 64, 3) := by decide +kernel
theorem dX4_takeBack_30 : decode cX4_takeBack 30 = .ok (.iconst 1, 1) := by decide +kernel
theorem dX4_takeBack_31 : decode cX4_takeBack 31 = .ok (.isub, 1) := by decide +kernel
theorem dX4_takeBack_32 : decode cX4_takeBack 32 = .ok (.putfield 64, 3) := by decide +kernel
theorem dX4_takeBack_35 : decode cX4_takeBack 35 = .ok (.aload_n 0, 1) := by decide +kernel
theorem dX4_takeBack_36 : decode cX4_takeBack 36 = .ok (.invokevirtual 91, 3) := by decide +kernel
theorem dX4_takeBack_39 : decode cX4_takeBack 39 = .ok (.ireturn, 1) := by decide +kernel
theorem dX4_entries_0 : decode cX4_entries 0 = .ok (.aload_n 0, 1) := by decide +kernel
theorem dX4_entries_1 : decode cX4_entries 1 = .ok (.iconst 0, 1) := by decide +kernel
theorem dX4_entries_2 : decode cX4_entries 2 = .ok (.putfield 50, 3) := by decide +kernel
theorem dX4_entries_5 : decode cX4_entries 5 = .ok (.aload_n 0, 1) := by decide +kernel
theorem dX4_entries_6 : decode cX4_entries 6 = .ok (.getfield 64, 3) := by decide +kernel
theorem dX4_entries_9 : decode cX4_entries 9 = .ok (.ireturn, 1) := by decide +kernel
set_option maxRecDepth 20000 in
theorem ggX4_isEntry_X4_in : GoodIn wsX4_isEntry wsX4_in := goodIn_r _ [5] (by decide +kernel) (by decide +kernel)
set_option maxRecDepth 20000 in
theorem gX4_isEntry_X4_in : GoodIn wsX4_isEntry (va_wsS RX4 53 yX4_in wsX4_in) := goodIn_app (goodIn_of _ (by decide +kernel)) ggX4_isEntry_X4_in
theorem dX4_isEntry_0 : decode cX4_isEntry 0 = .ok (.iload_n 1, 1) := by decide +kernel
theorem dX4_isEntry_1 : decode cX4_isEntry 1 = .ok (.iconst 0, 1) := by decide +kernel
theorem dX4_isEntry_2 : decode cX4_isEntry 2 = .ok (.aload_n 0, 1) := by decide +kernel
theorem dX4_isEntry_3 : decode cX4_isEntry 3 = .ok (.getfield 64, 3) := by decide +kernel
theorem dX4_isEntry_6 : decode cX4_isEntry 6 = .ok (.iconst 1, 1) := by decide +kernel
theorem dX4_isEntry_7 : decode cX4_isEntry 7 = .ok (.isub, 1) := by decide +kernel
theorem dX4_isEntry_8 : decode cX4_isEntry 8 = .ok (.invokestatic 53, 3) := by decide +kernel
theorem dX4_isEntry_11 : decode cX4_isEntry 11 = .ok (.ireturn, 1) := by decide +kernel
set_option maxRecDepth 20000 in
theorem ggX4_guessOf_X4_isEntry : GoodIn wsX4_guessOf wsX4_isEntry := goodIn_r _ [7, 8, 9, 10, 6, 11, 12, 13, 14, 15, 16, 17, 18, 19, 20, 21, 22, 23, 24, 25, 26, 27] (by decide +kernel) (by decide +kernel)
set_option maxRecDepth 20000 in
theorem gX4_guessOf_X4_isEntry : GoodIn wsX4_guessOf (wsV RX4 95 RX4 yX4_isEntry wsX4_isEntry) := goodIn_app (goodIn_of _ (by decide +kernel)) ggX4_guessOf_X4_isEntry
theorem dX4_guessOf_0 : decode cX4_guessOf 0 = .ok (.aload_n 0, 1) := by decide +kernel
theorem dX4_guessOf_1 : decode cX4_guessOf 1 = .ok (.aload_n 0, 1) := by decide +kernel
theorem dX4_guessOf_2 : decode cX4_guessOf 2 = .ok (.iload_n 1, 1) := by decide +kernel
theorem dX4_guessOf_3 : decode cX4_guessOf 3 = .ok (.invokevirtual 95, 3) := by decide +kernel
theorem dX4_guessOf_6 : decode cX4_guessOf 6 = .ok (.ifCond .eq 7, 3) := by decide +kernel
theorem dX4_guessOf_9 : decode cX4_guessOf 9 = .ok (.iconst 0, 1) := by decide +kernel
theorem dX4_guessOf_10 : decode cX4_guessOf 10 = .ok (.goto 4, 3) := by decide +kernel
theorem dX4_guessOf_13 : decode cX4_guessOf 13 = .ok (.iconst 1, 1) := by decide +kernel
theorem dX4_guessOf_14 : decode cX4_guessOf 14 = .ok (.putfield 50, 3) := by decide +kernel
theorem dX4_guessOf_17 : decode cX4_guessOf 17 = .ok (.aload_n 0, 1) := by decide +kernel
theorem dX4_guessOf_18 : decode cX4_guessOf 18 = .ok (.getfield 50, 3) := by decide +kernel
theorem dX4_guessOf_21 : decode cX4_guessOf 21 = .ok (.ifCond .le 7, 3) := by decide +kernel
theorem dX4_guessOf_24 : decode cX4_guessOf 24 = .ok (.iconst 0, 1) := by decide +kernel
theorem dX4_guessOf_25 : decode cX4_guessOf 25 = .ok (.goto 9, 3) := by decide +kernel
theorem dX4_guessOf_28 : decode cX4_guessOf 28 = .ok (.aload_n 0, 1) := by decide +kernel
theorem dX4_guessOf_29 : decode cX4_guessOf 29 = .ok (.getfield 22, 3) := by decide +kernel
theorem dX4_guessOf_32 : decode cX4_guessOf 32 = .ok (.iload_n 1, 1) := by decide +kernel
theorem dX4_guessOf_33 : decode cX4_guessOf 33 = .ok (.iaload, 1) := by decide +kernel
theorem dX4_guessOf_34 : decode cX4_guessOf 34 = .ok (.ireturn, 1) := by decide +kernel
set_option maxRecDepth 20000 in
theorem ggX4_markOf_X4_isEntry : GoodIn wsX4_markOf wsX4_isEntry := goodIn_r _ [7, 8, 9, 10, 6, 11, 12, 13, 14, 15, 16, 17, 18, 19, 20, 21, 22, 23, 24, 25, 26, 27] (by decide +kernel) (by decide +kernel)
set_option maxRecDepth 20000 in
theorem gX4_markOf_X4_isEntry : GoodIn wsX4_markOf (wsV RX4 95 RX4 yX4_isEntry wsX4_isEntry) := goodIn_app (goodIn_of _ (by decide +kernel)) ggX4_markOf_X4_isEntry
theorem dX4_markOf_0 : decode cX4_markOf 0 = .ok (.aload_n 0, 1) := by decide +kernel
theorem dX4_markOf_1 : decode cX4_markOf 1 = .ok (.aload_n 0, 1) := by decide +kernel
theorem dX4_markOf_2 : decode cX4_markOf 2 = .ok (.iload_n 1, 1) := by decide +kernel
theorem dX4_markOf_3 : decode cX4_markOf 3 = .ok (.invokevirtual 95, 3) := by decide +kernel
theorem dX4_markOf_6 : decode cX4_markOf 6 = .ok (.ifCond .eq 7, 3) := by decide +kernel
theorem dX4_markOf_9 : decode cX4_markOf 9 = .ok (.iconst 0, 1) := by decide +kernel
theorem dX4_markOf_10 : decode cX4_markOf 10 = .ok (.goto 4, 3) := by decide +kernel
theorem dX4_markOf_13 : decode cX4_markOf 13 = .ok (.iconst 1, 1) := by decide +kernel
theorem dX4_markOf_14 : decode cX4_markOf 14 = .ok (.putfield 50, 3) := by decide +kernel
theorem dX4_markOf_17 : decode cX4_markOf 17 = .ok (.aload_n 0, 1) := by decide +kernel
theorem dX4_markOf_18 : decode cX4_markOf 18 = .ok (.getfield 50, 3) := by decide +kernel
theorem dX4_markOf_21 : decode cX4_markOf 21 = .ok (.ifCond .le 7, 3) := by decide +kernel
theorem dX4_markOf_24 : decode cX4_markOf 24 = .ok (.iconst 0, 1) := by decide +kernel
theorem dX4_markOf_25 : decode cX4_markOf 25 = .ok (.goto 9, 3) := by decide +kernel
theorem dX4_markOf_28 : decode cX4_markOf 28 = .ok (.aload_n 0, 1) := by decide +kernel
theorem dX4_markOf_29 : decode cX4_markOf 29 = .ok (.getfield 26, 3) := by decide +kernel
theorem dX4_markOf_32 : decode cX4_markOf 32 = .ok (.iload_n 1, 1) := by decide +kernel
theorem dX4_markOf_33 : decode cX4_markOf 33 = .ok (.iaload, 1) := by decide +kernel
theorem dX4_markOf_34 : decode cX4_markOf 34 = .ok (.ireturn, 1) := by decide +kernel
set_option maxRecDepth 20000 in
theorem ggX4_liesAbout_X4_isRow : GoodIn wsX4_liesAbout wsX4_isRow := goodIn_r _ [6, 7, 8, 9, 5, 10, 25, 26, 27, 28, 29, 30, 31, 32, 33, 34, 35, 36, 37, 38, 39, 40] (by decide +kernel) (by decide +kernel)
set_option maxRecDepth 20000 in
theorem gX4_liesAbout_X4_isRow : GoodIn wsX4_liesAbout (wsV RX4 67 RX4 yX4_isRow wsX4_isRow) := goodIn_app (goodIn_of _ (by decide +kernel)) ggX4_liesAbout_X4_isRow
set_option maxRecDepth 20000 in
theorem ggX4_liesAbout_X4_lies : GoodIn wsX4_liesAbout wsX4_lies := goodIn_r _ [14, 15, 16, 17, 18, 19, 20, 5, 21, 22, 23, 24, 25, 26, 27, 28, 29, 30, 31, 32, 33, 34, 35, 36, 37, 38, 39, 40] (by decide +kernel) (by decide +kernel)
set_option maxRecDepth 20000 in
theorem gX4_liesAbout_X4_lies : GoodIn wsX4_liesAbout (wsV RX4 77 RX4 yX4_lies wsX4_lies) := goodIn_app (goodIn_of _ (by decide +kernel)) ggX4_liesAbout_X4_lies
theorem dX4_liesAbout_0 : decode cX4_liesAbout 0 = .ok (.aload_n 0, 1) := by decide +kernel
theorem dX4_liesAbout_1 : decode cX4_liesAbout 1 = .ok (.aload_n 0, 1) := by decide +kernel
theorem dX4_liesAbout_2 : decode cX4_liesAbout 2 = .ok (.iload_n 1, 1) := by decide +kernel
theorem dX4_liesAbout_3 : decode cX4_liesAbout 3 = .ok (.invokevirtual 67, 3) := by decide +kernel
theorem dX4_liesAbout_6 : decode cX4_liesAbout 6 = .ok (.ifCond .eq 7, 3) := by decide +kernel
theorem dX4_liesAbout_9 : decode cX4_liesAbout 9 = .ok (.iconst 0, 1) := by decide +kernel
theorem dX4_liesAbout_10 : decode cX4_liesAbout 10 = .ok (.goto 4, 3) := by decide +kernel
theorem dX4_liesAbout_13 : decode cX4_liesAbout 13 = .ok (.iconst 1, 1) := by decide +kernel
theorem dX4_liesAbout_14 : decode cX4_liesAbout 14 = .ok (.putfield 50, 3) := by decide +kernel
theorem dX4_liesAbout_17 : decode cX4_liesAbout 17 = .ok (.aload_n 0, 1) := by decide +kernel
theorem dX4_liesAbout_18 : decode cX4_liesAbout 18 = .ok (.getfield 50, 3) := by decide +kernel
theorem dX4_liesAbout_21 : decode cX4_liesAbout 21 = .ok (.ifCond .le 7, 3) := by decide +kernel
theorem dX4_liesAbout_24 : decode cX4_liesAbout 24 = .ok (.iconst 0, 1) := by decide +kernel
theorem dX4_liesAbout_25 : decode cX4_liesAbout 25 = .ok (.goto 8, 3) := by decide +kernel
theorem dX4_liesAbout_28 : decode cX4_liesAbout 28 = .ok (.aload_n 0, 1) := by decide +kernel
theorem dX4_liesAbout_29 : decode cX4_liesAbout 29 = .ok (.iload_n 1, 1) := by decide +kernel
theorem dX4_liesAbout_30 : decode cX4_liesAbout 30 = .ok (.invokevirtual 77, 3) := by decide +kernel
theorem dX4_liesAbout_33 : decode cX4_liesAbout 33 = .ok (.ireturn, 1) := by decide +kernel
set_option maxRecDepth 20000 in
theorem ggX4_left_X4_manyLeft : GoodIn wsX4_left wsX4_manyLeft := goodIn_r _ [6, 7, 8, 9, 10, 5, 11, 12, 13, 14, 15, 16, 17, 18, 19, 20, 21, 22, 23, 24, 25, 26, 27, 28, 29, 30, 31, 32, 33, 34, 35, 36, 37, 38, 39, 40, 41, 42] (by decide +kernel) (by decide +kernel)
set_option maxRecDepth 20000 in
theorem gX4_left_X4_manyLeft : GoodIn wsX4_left (wsV RX4 91 RX4 yX4_manyLeft wsX4_manyLeft) := goodIn_app (goodIn_of _ (by decide +kernel)) ggX4_left_X4_manyLeft
theorem dX4_left_0 : decode cX4_left 0 = .ok (.aload_n 0, 1) := by decide +kernel
theorem dX4_left_1 : decode cX4_left 1 = .ok (.iconst 0, 1) := by decide +kernel
theorem dX4_left_2 : decode cX4_left 2 = .ok (.putfield 50, 3) := by decide +kernel
theorem dX4_left_5 : decode cX4_left 5 = .ok (.aload_n 0, 1) := by decide +kernel
theorem dX4_left_6 : decode cX4_left 6 = .ok (.invokevirtual 91, 3) := by decide +kernel
theorem dX4_left_9 : decode cX4_left 9 = .ok (.ireturn, 1) := by decide +kernel
set_option maxRecDepth 20000 in
theorem ggX4_leftByAll_X4_manyLeft : GoodIn wsX4_leftByAll wsX4_manyLeft := goodIn_r _ [6, 7, 8, 9, 10, 5, 11, 12, 13, 14, 15, 16, 17, 18, 19, 20, 21, 22, 23, 24, 25, 26, 27, 28, 29, 30, 31, 32, 33, 34, 35, 36, 37, 38, 39, 40, 41, 42] (by decide +kernel) (by decide +kernel)
set_option maxRecDepth 20000 in
theorem gX4_leftByAll_X4_manyLeft : GoodIn wsX4_leftByAll (wsV RX4 91 RX4 yX4_manyLeft wsX4_manyLeft) := goodIn_app (goodIn_of _ (by decide +kernel)) ggX4_leftByAll_X4_manyLeft
theorem dX4_leftByAll_0 : decode cX4_leftByAll 0 = .ok (.aload_n 0, 1) := by decide +kernel
theorem dX4_leftByAll_1 : decode cX4_leftByAll 1 = .ok (.iconst 0, 1) := by decide +kernel
theorem dX4_leftByAll_2 : decode cX4_leftByAll 2 = .ok (.putfield 50, 3) := by decide +kernel
theorem dX4_leftByAll_5 : decode cX4_leftByAll 5 = .ok (.aload_n 0, 1) := by decide +kernel
theorem dX4_leftByAll_6 : decode cX4_leftByAll 6 = .ok (.invokevirtual 91, 3) := by decide +kernel
theorem dX4_leftByAll_9 : decode cX4_leftByAll 9 = .ok (.ireturn, 1) := by decide +kernel
set_option maxRecDepth 20000 in
theorem ggX4_isLeft_X4_isRow : GoodIn wsX4_isLeft wsX4_isRow := goodIn_r _ [6, 7, 8, 9, 5, 10, 30, 31, 32, 33, 34, 35, 36, 37, 38, 39, 40, 41, 42, 43, 44, 45] (by decide +kernel) (by decide +kernel)
set_option maxRecDepth 20000 in
theorem gX4_isLeft_X4_isRow : GoodIn wsX4_isLeft (wsV RX4 67 RX4 yX4_isRow wsX4_isRow) := goodIn_app (goodIn_of _ (by decide +kernel)) ggX4_isLeft_X4_isRow
set_option maxRecDepth 20000 in
theorem ggX4_isLeft_X4_isStill : GoodIn wsX4_isLeft wsX4_isStill := goodIn_r _ [14, 15, 16, 17, 18, 5, 19, 20, 21, 22, 23, 24, 25, 26, 27, 28, 29, 30, 31, 32, 33, 34, 35, 36, 37, 38, 39, 40, 41, 42, 43, 44, 45] (by decide +kernel) (by decide +kernel)
set_option maxRecDepth 20000 in
theorem gX4_isLeft_X4_isStill : GoodIn wsX4_isLeft (wsV RX4 81 RX4 yX4_isStill wsX4_isStill) := goodIn_app (goodIn_of _ (by decide +kernel)) ggX4_isLeft_X4_isStill
theorem dX4_isLeft_0 : decode cX4_isLeft 0 = .ok (.aload_n 0, 1) := by decide +kernel
theorem dX4_isLeft_1 : decode cX4_isLeft 1 = .ok (.aload_n 0, 1) := by decide +kernel
theorem dX4_isLeft_2 : decode cX4_isLeft 2 = .ok (.iload_n 1, 1) := by decide +kernel
theorem dX4_isLeft_3 : decode cX4_isLeft 3 = .ok (.invokevirtual 67, 3) := by decide +kernel
theorem dX4_isLeft_6 : decode cX4_isLeft 6 = .ok (.ifCond .eq 7, 3) := by decide +kernel
theorem dX4_isLeft_9 : decode cX4_isLeft 9 = .ok (.iconst 0, 1) := by decide +kernel
theorem dX4_isLeft_10 : decode cX4_isLeft 10 = .ok (.goto 4, 3) := by decide +kernel
theorem dX4_isLeft_13 : decode cX4_isLeft 13 = .ok (.iconst 1, 1) := by decide +kernel
theorem dX4_isLeft_14 : decode cX4_isLeft 14 = .ok (.putfield 50, 3) := by decide +kernel
theorem dX4_isLeft_17 : decode cX4_isLeft 17 = .ok (.aload_n 0, 1) := by decide +kernel
theorem dX4_isLeft_18 : decode cX4_isLeft 18 = .ok (.getfield 50, 3) := by decide +kernel
theorem dX4_isLeft_21 : decode cX4_isLeft 21 = .ok (.ifCond .ne 15, 3) := by decide +kernel
theorem dX4_isLeft_24 : decode cX4_isLeft 24 = .ok (.aload_n 0, 1) := by decide +kernel
theorem dX4_isLeft_25 : decode cX4_isLeft 25 = .ok (.iload_n 1, 1) := by decide +kernel
theorem dX4_isLeft_26 : decode cX4_isLeft 26 = .ok (.invokevirtual 81, 3) := by decide +kernel
theorem dX4_isLeft_29 : decode cX4_isLeft 29 = .ok (.ifCond .eq 7, 3) := by decide +kernel
theorem dX4_isLeft_32 : decode cX4_isLeft 32 = .ok (.iconst 1, 1) := by decide +kernel
theorem dX4_isLeft_33 : decode cX4_isLeft 33 = .ok (.goto 4, 3) := by decide +kernel
theorem dX4_isLeft_36 : decode cX4_isLeft 36 = .ok (.iconst 0, 1) := by decide +kernel
theorem dX4_isLeft_37 : decode cX4_isLeft 37 = .ok (.ireturn, 1) := by decide +kernel
set_option maxRecDepth 20000 in
theorem ggX4_laysLeft_X4_isStill : GoodIn wsX4_laysLeft wsX4_isStill := goodIn_r _ [7, 8, 9, 10, 11, 6, 12, 13, 14, 15, 16, 17, 18, 19, 20, 21, 22, 23, 24, 25, 26, 27, 28, 29, 30, 31, 32, 33, 34, 35, 36, 37, 38] (by decide +kernel) (by decide +kernel)
set_option maxRecDepth 20000 in
theorem gX4_laysLeft_X4_isStill : GoodIn wsX4_laysLeft (wsV RX4 81 RX4 yX4_isStill wsX4_isStill) := goodIn_app (goodIn_of _ (by decide +kernel)) ggX4_laysLeft_X4_isStill
theorem dX4_laysLeft_0 : decode cX4_laysLeft 0 = .ok (.iconst 0, 1) := by decide +kernel
theorem dX4_laysLeft_1 : decode cX4_laysLeft 1 = .ok (.istore_n 1, 1) := by decide +kernel
theorem dX4_laysLeft_2 : decode cX4_laysLeft 2 = .ok (.iconst 0, 1) := by decide +kernel
theorem dX4_laysLeft_3 : decode cX4_laysLeft 3 = .ok (.istore_n 2, 1) := by decide +kernel
theorem dX4_laysLeft_4 : decode cX4_laysLeft 4 = .ok (.iload_n 2, 1) := by decide +kernel
theorem dX4_laysLeft_5 : decode cX4_laysLeft 5 = .ok (.aload_n 0, 1) := by decide +kernel
theorem dX4_laysLeft_6 : decode cX4_laysLeft 6 = .ok (.getfield 16, 3) := by decide +kernel
theorem dX4_laysLeft_9 : decode cX4_laysLeft 9 = .ok (.if_icmp .ge 27, 3) := by decide +kernel
theorem dX4_laysLeft_12 : decode cX4_laysLeft 12 = .ok (.aload_n 0, 1) := by decide +kernel
theorem dX4_laysLeft_13 : decode cX4_laysLeft 13 = .ok (.iload_n 2, 1) := by decide +kernel
theorem dX4_laysLeft_14 : decode cX4_laysLeft 14 = .ok (.invokevirtual 81, 3) := by decide +kernel
theorem dX4_laysLeft_17 : decode cX4_laysLeft 17 = .ok (.ifCond .eq 13, 3) := by decide +kernel
theorem dX4_laysLeft_20 : decode cX4_laysLeft 20 = .ok (.aload_n 0, 1) := by decide +kernel
theorem dX4_laysLeft_21 : decode cX4_laysLeft 21 = .ok (.getfield 35, 3) := by decide +kernel
theorem dX4_laysLeft_24 : decode cX4_laysLeft 24 = .ok (.iload_n 1, 1) := by decide +kernel
theorem dX4_laysLeft_25 : decode cX4_laysLeft 25 = .ok (.iload_n 2, 1) := by decide +kernel
theorem dX4_laysLeft_26 : decode cX4_laysLeft 26 = .ok (.iastore, 1) := by decide +kernel
theorem dX4_laysLeft_27 : decode cX4_laysLeft 27 = .ok (.iinc 1 1, 3) := by decide +kernel
theorem dX4_laysLeft_30 : decode cX4_laysLeft 30 = .ok (.iinc 2 1, 3) := by decide +kernel
theorem dX4_laysLeft_33 : decode cX4_laysLeft 33 = .ok (.goto (-29), 3) := by decide +kernel
theorem dX4_laysLeft_36 : decode cX4_laysLeft 36 = .ok (.iload_n 1, 1) := by decide +kernel
theorem dX4_laysLeft_37 : decode cX4_laysLeft 37 = .ok (.ireturn, 1) := by decide +kernel
set_option maxRecDepth 20000 in
theorem ggX4_leftAt_X4_laysLeft : GoodIn wsX4_leftAt wsX4_laysLeft := goodIn_r _ [7, 8, 2, 9, 10, 11, 6, 12, 13, 14, 15, 16, 17, 18, 19, 20, 21, 22, 23, 24, 25, 26, 27, 31, 32, 33, 34, 35, 36, 37, 38, 39, 40, 41, 42, 43, 44, 45, 46] (by decide +kernel) (by decide +kernel)
set_option maxRecDepth 20000 in
theorem gX4_leftAt_X4_laysLeft : GoodIn wsX4_leftAt (wsV RX4 98 RX4 yX4_laysLeft wsX4_laysLeft) := goodIn_app (goodIn_of _ (by decide +kernel)) ggX4_leftAt_X4_laysLeft
set_option maxRecDepth 20000 in
theorem ggX4_leftAt_X4_in : GoodIn wsX4_leftAt wsX4_in := goodIn_r _ [30] (by decide +kernel) (by decide +kernel)
set_option maxRecDepth 20000 in
theorem gX4_leftAt_X4_in : GoodIn wsX4_leftAt (va_wsS RX4 53 yX4_in wsX4_in) := goodIn_app (goodIn_of _ (by decide +kernel)) ggX4_leftAt_X4_in
theorem dX4_leftAt_0 : decode cX4_leftAt 0 = .ok (.aload_n 0, 1) := by decide +kernel
theorem dX4_leftAt_1 : decode cX4_leftAt 1 = .ok (.invokevirtual 98, 3) := by decide +kernel
theorem dX4_leftAt_4 : decode cX4_leftAt 4 = .ok (.istore_n 2, 1) := by decide +kernel
theorem dX4_leftAt_5 : decode cX4_leftAt 5 = .ok (.aload_n 0, 1) := by decide +kernel
theorem dX4_leftAt_6 : decode cX4_leftAt 6 = .ok (.iload_n 1, 1) := by decide +kernel
theorem dX4_leftAt_7 : decode cX4_leftAt 7 = .ok (.iconst 0, 1) := by decide +kernel
theorem dX4_leftAt_8 : decode cX4_leftAt 8 = .ok (.iload_n 2, 1) := by decide +kernel
theorem dX4_leftAt_9 : decode cX4_leftAt 9 = .ok (.iconst 1, 1) := by decide +kernel
theorem dX4_leftAt_10 : decode cX4_leftAt 10 = .ok (.isub, 1) := by decide +kernel
theorem dX4_leftAt_11 : decode cX4_leftAt 11 = .ok (.invokestatic 53, 3) := by decide +kernel
theorem dX4_leftAt_14 : decode cX4_leftAt 14 = .ok (.ifCond .eq 7, 3) := by decide +kernel
theorem dX4_leftAt_17 : decode cX4_leftAt 17 = .ok (.iconst 0, 1) := by decide +kernel
theorem dX4_leftAt_18 : decode cX4_leftAt 18 = .ok (.goto 4, 3) := by decide +kernel
theorem dX4_leftAt_21 : decode cX4_leftAt 21 = .ok (.iconst 1, 1) := by decide +kernel
theorem dX4_leftAt_22 : decode cX4_leftAt 22 = .ok (.putfield 50, 3) := by decide +kernel
theorem dX4_leftAt_25 : decode cX4_leftAt 25 = .ok (.aload_n 0, 1) := by decide +kernel
theorem dX4_leftAt_26 : decode cX4_leftAt 26 = .ok (.getfield 50, 3) := by decide +kernel
theorem dX4_leftAt_29 : decode cX4_leftAt 29 = .ok (.ifCond .le 7, 3) := by decide +kernel
theorem dX4_leftAt_32 : decode cX4_leftAt 32 = .ok (.iconst 0, 1) := by decide +kernel
theorem dX4_leftAt_33 : decode cX4_leftAt 33 = .ok (.goto 9, 3) := by decide +kernel
theorem dX4_leftAt_36 : decode cX4_leftAt 36 = .ok (.aload_n 0, 1) := by decide +kernel
theorem dX4_leftAt_37 : decode cX4_leftAt 37 = .ok (.getfield 35, 3) := by decide +kernel
theorem dX4_leftAt_40 : decode cX4_leftAt 40 = .ok (.iload_n 1, 1) := by decide +kernel
theorem dX4_leftAt_41 : decode cX4_leftAt 41 = .ok (.iaload, 1) := by decide +kernel
theorem dX4_leftAt_42 : decode cX4_leftAt 42 = .ok (.ireturn, 1) := by decide +kernel
set_option maxRecDepth 20000 in
theorem ggX4_laysParts_X4_markOfRows : GoodIn wsX4_laysParts wsX4_markOfRows := goodIn_r _ [7, 8, 9, 10, 11, 12, 13, 14, 15, 16, 17, 18, 19, 20, 21, 22, 23, 24, 25, 26] (by decide +kernel) (by decide +kernel)
set_option maxRecDepth 20000 in
theorem gX4_laysParts_X4_markOfRows : GoodIn wsX4_laysParts (wsV RX4 74 RX4 yX4_markOfRows wsX4_markOfRows) := goodIn_app (goodIn_of _ (by decide +kernel)) ggX4_laysParts_X4_markOfRows
theorem dX4_laysParts_0 : decode cX4_laysParts 0 = .ok (.iconst 0, 1) := by decide +kernel
theorem dX4_laysParts_1 : decode cX4_laysParts 1 = .ok (.istore 4, 2) := by decide +kernel
theorem dX4_laysParts_3 : decode cX4_laysParts 3 = .ok (.iload 4, 2) := by decide +kernel
theorem dX4_laysParts_5 : decode cX4_laysParts 5 = .ok (.bipush 100, 2) := by decide +kernel
theorem dX4_laysParts_7 : decode cX4_laysParts 7 = .ok (.if_icmp .ge 17, 3) := by decide +kernel
theorem dX4_laysParts_10 : decode cX4_laysParts 10 = .ok (.aload_n 0, 1) := by decide +kernel
theorem dX4_laysParts_11 : decode cX4_laysParts 11 = .ok (.getfield 32, 3) := by decide +kernel
theorem dX4_laysParts_14 : decode cX4_laysParts 14 = .ok (.iload 4, 2) := by decide +kernel
theorem dX4_laysParts_16 : decode cX4_laysParts 16 = .ok (.iconst 0, 1) := by decide +kernel
theorem dX4_laysParts_17 : decode cX4_laysParts 17 = .ok (.iastore, 1) := by decide +kernel
theorem dX4_laysParts_18 : decode cX4_laysParts 18 = .ok (.iinc 4 1, 3) := by decide +kernel
theorem dX4_laysParts_21 : decode cX4_laysParts 21 = .ok (.goto (-18), 3) := by decide +kernel
theorem dX4_laysParts_24 : decode cX4_laysParts 24 = .ok (.iload_n 2, 1) := by decide +kernel
theorem dX4_laysParts_25 : decode cX4_laysParts 25 = .ok (.istore 4, 2) := by decide +kernel
theorem dX4_laysParts_27 : decode cX4_laysParts 27 = .ok (.iload 4, 2) := by decide +kernel
theorem dX4_laysParts_29 : decode cX4_laysParts 29 = .ok (.iload_n 2, 1) := by decide +kernel
theorem dX4_laysParts_30 : decode cX4_laysParts 30 = .ok (.iload_n 3, 1) := by decide +kernel
theorem dX4_laysParts_31 : decode cX4_laysParts 31 = .ok (.iadd, 1) := by decide +kernel
theorem dX4_laysParts_32 : decode cX4_laysParts 32 = .ok (.if_icmp .ge 30, 3) := by decide +kernel
theorem dX4_laysParts_35 : decode cX4_laysParts 35 = .ok (.aload_n 0, 1) := by decide +kernel
theorem dX4_laysParts_36 : decode cX4_laysParts 36 = .ok (.getfield 32, 3) := by decide +kernel
theorem dX4_laysParts_39 : decode cX4_laysParts 39 = .ok (.aload_n 0, 1) := by decide +kernel
theorem dX4_laysParts_40 : decode cX4_laysParts 40 = .ok (.iload_n 1, 1) := by decide +kernel
theorem dX4_laysParts_41 : decode cX4_laysParts 41 = .ok (.aload_n 0, 1) := by decide +kernel
theorem dX4_laysParts_42 : decode cX4_laysParts 42 = .ok (.getfield 35, 3) := by decide +kernel
theorem dX4_laysParts_45 : decode cX4_laysParts 45 = .ok (.iload 4, 2) := by decide +kernel
theorem dX4_laysParts_47 : decode cX4_laysParts 47 = .ok (.iaload, 1) := by decide +kernel
theorem dX4_laysParts_48 : decode cX4_laysParts 48 = .ok (.invokevirtual 74, 3) := by decide +kernel
theorem dX4_laysParts_51 : decode cX4_laysParts 51 = .ok (.dup2, 1) := by decide +kernel
theorem dX4_laysParts_52 : decode cX4_laysParts 52 = .ok (.iaload, 1) := by decide +kernel
theorem dX4_laysParts_53 : decode cX4_laysParts 53 = .ok (.iconst 1, 1) := by decide +kernel
theorem dX4_laysParts_54 : decode cX4_laysParts 54 = .ok (.iadd, 1) := by decide +kernel
theorem dX4_laysParts_55 : decode cX4_laysParts 55 = .ok (.iastore, 1) := by decide +kernel
theorem dX4_laysParts_56 : decode cX4_laysParts 56 = .ok (.iinc 4 1, 3) := by decide +kernel
theorem dX4_laysParts_59 : decode cX4_laysParts 59 = .ok (.goto (-32), 3) := by decide +kernel
theorem dX4_laysParts_62 : decode cX4_laysParts 62 = .ok (.return_, 1) := by decide +kernel
theorem dX4_worst_0 : decode cX4_worst 0 = .ok (.iconst 0, 1) := by decide +kernel
theorem dX4_worst_1 : decode cX4_worst 1 = .ok (.istore_n 1, 1) := by decide +kernel
theorem dX4_worst_2 : decode cX4_worst 2 = .ok (.iconst 0, 1) := by decide +kernel
theorem dX4_worst_3 : decode cX4_worst 3 = .ok (.istore_n 2, 1) := by decide +kernel
theorem dX4_worst_4 : decode cX4_worst 4 = .ok (.iload_n 2, 1) := by decide +kernel
theorem dX4_worst_5 : decode cX4_worst 5 = .ok (.bipush 100, 2) := by decide +kernel
theorem dX4_worst_7 : decode cX4_worst 7 = .ok (.if_icmp .ge 30, 3) := by decide +kernel
theorem dX4_worst_10 : decode cX4_worst 10 = .ok (.aload_n 0, 1) := by decide +kernel
theorem dX4_worst_11 : decode cX4_worst 11 = .ok (.getfield 32, 3) := by decide +kernel
theorem dX4_worst_14 : decode cX4_worst 14 = .ok (.iload_n 2, 1) := by decide +kernel
theorem dX4_worst_15 : decode cX4_worst 15 = .ok (.iaload, 1) := by decide +kernel
theorem dX4_worst_16 : decode cX4_worst 16 = .ok (.iload_n 1, 1) := by decide +kernel
theorem dX4_worst_17 : decode cX4_worst 17 = .ok (.if_icmp .le 12, 3) := by decide +kernel
theorem dX4_worst_20 : decode cX4_worst 20 = .ok (.aload_n 0, 1) := by decide +kernel
theorem dX4_worst_21 : decode cX4_worst 21 = .ok (.getfield 32, 3) := by decide +kernel
theorem dX4_worst_24 : decode cX4_worst 24 = .ok (.iload_n 2, 1) := by decide +kernel
theorem dX4_worst_25 : decode cX4_worst 25 = .ok (.iaload, 1) := by decide +kernel
theorem dX4_worst_26 : decode cX4_worst 26 = .ok (.goto 4, 3) := by decide +kernel
theorem dX4_worst_29 : decode cX4_worst 29 = .ok (.iload_n 1, 1) := by decide +kernel
theorem dX4_worst_30 : decode cX4_worst 30 = .ok (.istore_n 1, 1) := by decide +kernel
theorem dX4_worst_31 : decode cX4_worst 31 = .ok (.iinc 2 1, 3) := by decide +kernel
theorem dX4_worst_34 : decode cX4_worst 34 = .ok (.goto (-30), 3) := by decide +kernel
theorem dX4_worst_37 : decode cX4_worst 37 = .ok (.iload_n 1, 1) := by decide +kernel
theorem dX4_worst_38 : decode cX4_worst 38 = .ok (.ireturn, 1) := by decide +kernel
theorem dX4_squares_0 : decode cX4_squares 0 = .ok (.iconst 0, 1) := by decide +kernel
theorem dX4_squares_1 : decode cX4_squares 1 = .ok (.istore_n 1, 1) := by decide +kernel
theorem dX4_squares_2 : decode cX4_squares 2 = .ok (.iconst 0, 1) := by decide +kernel
theorem dX4_squares_3 : decode cX4_squares 3 = .ok (.istore_n 2, 1) := by decide +kernel
theorem dX4_squares_4 : decode cX4_squares 4 = .ok (.iload_n 2, 1) := by decide +kernel
theorem dX4_squares_5 : decode cX4_squares 5 = .ok (.bipush 100, 2) := by decide +kernel
theorem dX4_squares_7 : decode cX4_squares 7 = .ok (.if_icmp .ge 25, 3) := by decide +kernel
theorem dX4_squares_10 : decode cX4_squares 10 = .ok (.iload_n 1, 1) := by decide +kernel
theorem dX4_squares_11 : decode cX4_squares 11 = .ok (.aload_n 0, 1) := by decide +kernel
theorem dX4_squares_12 : decode cX4_squares 12 = .ok (.getfield 32, 3) := by decide +kernel
theorem dX4_squares_15 : decode cX4_squares 15 = .ok (.iload_n 2, 1) := by decide +kernel
theorem dX4_squares_16 : decode cX4_squares 16 = .ok (.iaload, 1) := by decide +kernel
theorem dX4_squares_17 : decode cX4_squares 17 = .ok (.aload_n 0, 1) := by decide +kernel
theorem dX4_squares_18 : decode cX4_squares 18 = .ok (.getfield 32, 3) := by decide +kernel
theorem dX4_squares_21 : decode cX4_squares 21 = .ok (.iload_n 2, 1) := by decide +kernel
theorem dX4_squares_22 : decode cX4_squares 22 = .ok (.iaload, 1) := by decide +kernel
theorem dX4_squares_23 : decode cX4_squares 23 = .ok (.imul, 1) := by decide +kernel
theorem dX4_squares_24 : decode cX4_squares 24 = .ok (.iadd, 1) := by decide +kernel
theorem dX4_squares_25 : decode cX4_squares 25 = .ok (.istore_n 1, 1) := by decide +kernel
theorem dX4_squares_26 : decode cX4_squares 26 = .ok (.iinc 2 1, 3) := by decide +kernel
theorem dX4_squares_29 : decode cX4_squares 29 = .ok (.goto (-25), 3) := by decide +kernel
theorem dX4_squares_32 : decode cX4_squares 32 = .ok (.iload_n 1, 1) := by decide +kernel
theorem dX4_squares_33 : decode cX4_squares 33 = .ok (.ireturn, 1) := by decide +kernel
theorem dX4_manyParts_0 : decode cX4_manyParts 0 = .ok (.iconst 0, 1) := by decide +kernel
theorem dX4_manyParts_1 : decode cX4_manyParts 1 = .ok (.istore_n 1, 1) := by decide +kernel
theorem dX4_manyParts_2 : decode cX4_manyParts 2 = .ok (.iconst 0, 1) := by decide +kernel
theorem dX4_manyParts_3 : decode cX4_manyParts 3 = .ok (.istore_n 2, 1) := by decide +kernel
theorem dX4_manyParts_4 : decode cX4_manyParts 4 = .ok (.iload_n 2, 1) := by decide +kernel
theorem dX4_manyParts_5 : decode cX4_manyParts 5 = .ok (.bipush 100, 2) := by decide +kernel
theorem dX4_manyParts_7 : decode cX4_manyParts 7 = .ok (.if_icmp .ge 26, 3) := by decide +kernel
theorem dX4_manyParts_10 : decode cX4_manyParts 10 = .ok (.iload_n 1, 1) := by decide +kernel
theorem dX4_manyParts_11 : decode cX4_manyParts 11 = .ok (.aload_n 0, 1) := by decide +kernel
theorem dX4_manyParts_12 : decode cX4_manyParts 12 = .ok (.getfield 32, 3) := by decide +kernel
theorem dX4_manyParts_15 : decode cX4_manyParts 15 = .ok (.iload_n 2, 1) := by decide +kernel
theorem dX4_manyParts_16 : decode cX4_manyParts 16 = .ok (.iaload, 1) := by decide +kernel
theorem dX4_manyParts_17 : decode cX4_manyParts 17 = .ok (.ifCond .le 7, 3) := by decide +kernel
theorem dX4_manyParts_20 : decode cX4_manyParts 20 = .ok (.iconst 1, 1) := by decide +kernel
theorem dX4_manyParts_21 : decode cX4_manyParts 21 = .ok (.goto 4, 3) := by decide +kernel
theorem dX4_manyParts_24 : decode cX4_manyParts 24 = .ok (.iconst 0, 1) := by decide +kernel
theorem dX4_manyParts_25 : decode cX4_manyParts 25 = .ok (.iadd, 1) := by decide +kernel
theorem dX4_manyParts_26 : decode cX4_manyParts 26 = .ok (.istore_n 1, 1) := by decide +kernel
theorem dX4_manyParts_27 : decode cX4_manyParts 27 = .ok (.iinc 2 1, 3) := by decide +kernel
theorem dX4_manyParts_30 : decode cX4_manyParts 30 = .ok (.goto (-26), 3) := by decide +kernel
theorem dX4_manyParts_33 : decode cX4_manyParts 33 = .ok (.iload_n 1, 1) := by decide +kernel
theorem dX4_manyParts_34 : decode cX4_manyParts 34 = .ok (.ireturn, 1) := by decide +kernel
set_option maxRecDepth 20000 in
theorem ggX4_asks_X4_isRow : GoodIn wsX4_asks wsX4_isRow := goodIn_r _ [6, 7, 8, 9, 5, 10, 40, 41, 42, 43, 44, 45, 46, 47, 48, 49, 50, 51, 52, 53, 54, 55] (by decide +kernel) (by decide +kernel)
set_option maxRecDepth 20000 in
theorem gX4_asks_X4_isRow : GoodIn wsX4_asks (wsV RX4 67 RX4 yX4_isRow wsX4_isRow) := goodIn_app (goodIn_of _ (by decide +kernel)) ggX4_asks_X4_isRow
set_option maxRecDepth 20000 in
theorem ggX4_asks_X4_laysLeft : GoodIn wsX4_asks wsX4_laysLeft := goodIn_r _ [14, 7, 15, 16, 17, 18, 5, 19, 20, 21, 22, 23, 24, 25, 26, 27, 28, 29, 30, 31, 32, 33, 34, 40, 41, 42, 43, 44, 45, 46, 47, 48, 49, 50, 51, 52, 53, 54, 55] (by decide +kernel) (by decide +kernel)
set_option maxRecDepth 20000 in
theorem gX4_asks_X4_laysLeft : GoodIn wsX4_asks (wsV RX4 98 RX4 yX4_laysLeft wsX4_laysLeft) := goodIn_app (goodIn_of _ (by decide +kernel)) ggX4_asks_X4_laysLeft
set_option maxRecDepth 20000 in
theorem ggX4_asks_X4_laysParts : GoodIn wsX4_asks wsX4_laysParts := goodIn_r _ [38, 39, 15, 28, 29, 30, 5, 31, 32, 33, 34, 40, 41, 42, 43, 44, 45, 46, 47, 48, 49, 50, 51, 52, 53, 54, 55] (by decide +kernel) (by decide +kernel)
set_option maxRecDepth 20000 in
theorem gX4_asks_X4_laysParts : GoodIn wsX4_asks (wsV RX4 101 RX4 yX4_laysParts wsX4_laysParts) := goodIn_app (goodIn_of _ (by decide +kernel)) ggX4_asks_X4_laysParts
theorem dX4_asks_0 : decode cX4_asks 0 = .ok (.aload_n 0, 1) := by decide +kernel
theorem dX4_asks_1 : decode cX4_asks 1 = .ok (.aload_n 0, 1) := by decide +kernel
theorem dX4_asks_2 : decode cX4_asks 2 = .ok (.iload_n 1, 1) := by decide +kernel
theorem dX4_asks_3 : decode cX4_asks 3 = .ok (.invokevirtual 67, 3) := by decide +kernel
theorem dX4_asks_6 : decode cX4_asks 6 = .ok (.ifCond .eq 7, 3) := by decide +kernel
theorem dX4_asks_9 : decode cX4_asks 9 = .ok (.iconst 0, 1) := by decide +kernel
theorem dX4_asks_10 : decode cX4_asks 10 = .ok (.goto 4, 3) := by decide +kernel
theorem dX4_asks_13 : decode cX4_asks 13 = .ok (.iconst 1, 1) := by decide +kernel
theorem dX4_asks_14 : decode cX4_asks 14 = .ok (.putfield 50, 3) := by decide +kernel
theorem dX4_asks_17 : decode cX4_asks 17 = .ok (.aload_n 0, 1) := by decide +kernel
theorem dX4_asks_18 : decode cX4_asks 18 = .ok (.getfield 50, 3) := by decide +kernel
theorem dX4_asks_21 : decode cX4_asks 21 = .ok (.ifCond .ne 15, 3) := by decide +kernel
theorem dX4_asks_24 : decode cX4_asks 24 = .ok (.aload_n 0, 1) := by decide +kernel
theorem dX4_asks_25 : decode cX4_asks 25 = .ok (.invokevirtual 98, 3) := by decide +kernel
theorem dX4_asks_28 : decode cX4_asks 28 = .ok (.istore_n 2, 1) := by decide +kernel
theorem dX4_asks_29 : decode cX4_asks 29 = .ok (.aload_n 0, 1) := by decide +kernel
theorem dX4_asks_30 : decode cX4_asks 30 = .ok (.iload_n 1, 1) := by decide +kernel
theorem dX4_asks_31 : decode cX4_asks 31 = .ok (.iconst 0, 1) := by decide +kernel
theorem dX4_asks_32 : decode cX4_asks 32 = .ok (.iload_n 2, 1) := by decide +kernel
theorem dX4_asks_33 : decode cX4_asks 33 = .ok (.invokevirtual 101, 3) := by decide +kernel
theorem dX4_asks_36 : decode cX4_asks 36 = .ok (.aload_n 0, 1) := by decide +kernel
theorem dX4_asks_37 : decode cX4_asks 37 = .ok (.getfield 50, 3) := by decide +kernel
theorem dX4_asks_40 : decode cX4_asks 40 = .ok (.ifCond .ne 7, 3) := by decide +kernel
theorem dX4_asks_43 : decode cX4_asks 43 = .ok (.iconst 1, 1) := by decide +kernel
theorem dX4_asks_44 : decode cX4_asks 44 = .ok (.goto 4, 3) := by decide +kernel
theorem dX4_asks_47 : decode cX4_asks 47 = .ok (.iconst 0, 1) := by decide +kernel
theorem dX4_asks_48 : decode cX4_asks 48 = .ok (.ireturn, 1) := by decide +kernel
set_option maxRecDepth 20000 in
theorem ggX4_parts_X4_asks : GoodIn wsX4_parts wsX4_asks := goodIn_r _ [5, 6, 7, 8, 9, 4, 10, 11, 12, 13, 14, 15, 16, 17, 18, 19, 20, 21, 22, 23, 24, 25, 26, 27, 28, 29, 30, 31, 32, 33, 34, 35, 36, 37, 38, 39, 40, 41, 42, 43, 48, 49, 50, 51, 52, 53, 54, 55, 56, 57, 58, 59, 60, 61, 62, 63] (by decide +kernel) (by decide +kernel)
set_option maxRecDepth 20000 in
theorem gX4_parts_X4_asks : GoodIn wsX4_parts (wsV RX4 105 RX4 yX4_asks wsX4_asks) := goodIn_app (goodIn_of _ (by decide +kernel)) ggX4_parts_X4_asks
set_option maxRecDepth 20000 in
theorem ggX4_parts_X4_manyParts : GoodIn wsX4_parts wsX4_manyParts := goodIn_r _ [47, 43, 48, 49, 50, 51, 52, 53, 54, 55, 56, 57, 58, 59, 60, 61, 62, 63] (by decide +kernel) (by decide +kernel)
set_option maxRecDepth 20000 in
theorem gX4_parts_X4_manyParts : GoodIn wsX4_parts (wsV RX4 108 RX4 yX4_manyParts wsX4_manyParts) := goodIn_app (goodIn_of _ (by decide +kernel)) ggX4_parts_X4_manyParts
theorem dX4_parts_0 : decode cX4_parts 0 = .ok (.aload_n 0, 1) := by decide +kernel
theorem dX4_parts_1 : decode cX4_parts 1 = .ok (.iload_n 1, 1) := by decide +kernel
theorem dX4_parts_2 : decode cX4_parts 2 = .ok (.invokevirtual 105, 3) := by decide +kernel
theorem dX4_parts_5 : decode cX4_parts 5 = .ok (.ifCond .eq 10, 3) := by decide +kernel
theorem dX4_parts_8 : decode cX4_parts 8 = .ok (.aload_n 0, 1) := by decide +kernel
theorem dX4_parts_9 : decode cX4_parts 9 = .ok (.invokevirtual 108, 3) := by decide +kernel
theorem dX4_parts_12 : decode cX4_parts 12 = .ok (.goto 4, 3) := by decide +kernel
theorem dX4_parts_15 : decode cX4_parts 15 = .ok (.iconst 0, 1) := by decide +kernel
theorem dX4_parts_16 : decode cX4_parts 16 = .ok (.ireturn, 1) := by decide +kernel
set_option maxRecDepth 20000 in
theorem ggX4_partMark_X4_asks : GoodIn wsX4_partMark wsX4_asks := goodIn_r _ [8, 3, 9, 10, 11, 7, 12, 13, 14, 15, 16, 17, 18, 19, 20, 1, 21, 22, 23, 24, 25, 26, 27, 28, 29, 30, 31, 32, 33, 34, 35, 36, 37, 38, 39, 40, 41, 42, 43, 2, 44, 45, 46, 47, 48, 49, 50, 51, 52, 53, 54, 55, 56, 57, 58, 59] (by decide +kernel) (by decide +kernel)
set_option maxRecDepth 20000 in
theorem gX4_partMark_X4_asks : GoodIn wsX4_partMark (wsV RX4 105 RX4 yX4_asks wsX4_asks) := goodIn_app (goodIn_of _ (by decide +kernel)) ggX4_partMark_X4_asks
set_option maxRecDepth 20000 in
theorem ggX4_partMark_X4_laysLeft : GoodIn wsX4_partMark wsX4_laysLeft := goodIn_r _ [20, 13, 1, 21, 22, 23, 7, 24, 25, 26, 27, 28, 29, 30, 31, 32, 33, 34, 35, 36, 37, 38, 39, 44, 45, 46, 47, 48, 49, 50, 51, 52, 53, 54, 55, 56, 57, 58, 59] (by decide +kernel) (by decide +kernel)
set_option maxRecDepth 20000 in
theorem gX4_partMark_X4_laysLeft : GoodIn wsX4_partMark (wsV RX4 98 RX4 yX4_laysLeft wsX4_laysLeft) := goodIn_app (goodIn_of _ (by decide +kernel)) ggX4_partMark_X4_laysLeft
set_option maxRecDepth 20000 in
theorem ggX4_partMark_X4_markOfRows : GoodIn wsX4_partMark wsX4_markOfRows := goodIn_r _ [36, 37, 38, 39, 44, 45, 46, 47, 48, 49, 50, 51, 52, 53, 54, 55, 56, 57, 58, 59] (by decide +kernel) (by decide +kernel)
set_option maxRecDepth 20000 in
theorem gX4_partMark_X4_markOfRows : GoodIn wsX4_partMark (wsV RX4 74 RX4 yX4_markOfRows wsX4_markOfRows) := goodIn_app (goodIn_of _ (by decide +kernel)) ggX4_partMark_X4_markOfRows
theorem dX4_partMark_0 : decode cX4_partMark 0 = .ok (.aload_n 0, 1) := by decide +kernel
theorem dX4_partMark_1 : decode cX4_partMark 1 = .ok (.iload_n 1, 1) := by decide +kernel
theorem dX4_partMark_2 : decode cX4_partMark 2 = .ok (.invokevirtual 105, 3) := by decide +kernel
theorem dX4_partMark_5 : decode cX4_partMark 5 = .ok (.ifCond .ne 5, 3) := by decide +kernel
theorem dX4_partMark_8 : decode cX4_partMark 8 = .ok (.iconst 0, 1) := by decide +kernel
theorem dX4_partMark_9 : decode cX4_partMark 9 = .ok (.ireturn, 1) := by decide +kernel
theorem dX4_partMark_10 : decode cX4_partMark 10 = .ok (.aload_n 0, 1) := by decide +kernel
theorem dX4_partMark_11 : decode cX4_partMark 11 = .ok (.invokevirtual 98, 3) := by decide +kernel
theorem dX4_partMark_14 : decode cX4_partMark 14 = .ok (.istore_n 3, 1) := by decide +kernel
theorem dX4_partMark_15 : decode cX4_partMark 15 = .ok (.iconst 0, 1) := by decide +kernel
theorem dX4_partMark_16 : decode cX4_partMark 16 = .ok (.istore 4, 2) := by decide +kernel
theorem dX4_partMark_18 : decode cX4_partMark 18 = .ok (.iconst (-1), 1) := by decide +kernel
theorem dX4_partMark_19 : decode cX4_partMark 19 = .ok (.istore 5, 2) := by decide +kernel
theorem dX4_partMark_21 : decode cX4_partMark 21 = .ok (.iconst 0, 1) := by decide +kernel
theorem dX4_partMark_22 : decode cX4_partMark 22 = .ok (.istore 6, 2) := by decide +kernel
theorem dX4_partMark_24 : decode cX4_partMark 24 = .ok (.iload 6, 2) := by decide +kernel
theorem dX4_partMark_26 : decode cX4_partMark 26 = .ok (.iload_n 3, 1) := by decide +kernel
theorem dX4_partMark_27 : decode cX4_partMark 27 = .ok (.if_icmp .ge 83, 3) := by decide +kernel
theorem dX4_partMark_30 : decode cX4_partMark 30 = .ok (.aload_n 0, 1) := by decide +kernel
theorem dX4_partMark_31 : decode cX4_partMark 31 = .ok (.iload_n 1, 1) := by decide +kernel
theorem dX4_partMark_32 : decode cX4_partMark 32 = .ok (.aload_n 0, 1) := by decide +kernel
theorem dX4_partMark_33 : decode cX4_partMark 33 = .ok (.getfield 35, 3) := by decide +kernel
theorem dX4_partMark_36 : decode cX4_partMark 36 = .ok (.iload 6, 2) := by decide +kernel
theorem dX4_partMark_38 : decode cX4_partMark 38 = .ok (.iaload, 1) := by decide +kernel
theorem dX4_partMark_39 : decode cX4_partMark 39 = .ok (.invokevirtual 74, 3) := by decide +kernel
theorem dX4_partMark_42 : decode cX4_partMark 42 = .ok (.istore 7, 2) := by decide +kernel
theorem dX4_partMark_44 : decode cX4_partMark 44 = .ok (.aload_n 0, 1) := by decide +kernel
theorem dX4_partMark_45 : decode cX4_partMark 45 = .ok (.getfield 32, 3) := by decide +kernel
theorem dX4_partMark_48 : decode cX4_partMark 48 = .ok (.iload 7, 2) := by decide +kernel
theorem dX4_partMark_50 : decode cX4_partMark 50 = .ok (.iaload, 1) := by decide +kernel
theorem dX4_partMark_51 : decode cX4_partMark 51 = .ok (.ifCond .le 7, 3) := by decide +kernel
theorem dX4_partMark_54 : decode cX4_partMark 54 = .ok (.iconst 1, 1) := by decide +kernel
theorem dX4_partMark_55 : decode cX4_partMark 55 = .ok (.goto 4, 3) := by decide +kernel
theorem dX4_partMark_58 : decode cX4_partMark 58 = .ok (.iconst 0, 1) := by decide +kernel
theorem dX4_partMark_59 : decode cX4_partMark 59 = .ok (.istore 8, 2) := by decide +kernel
theorem dX4_partMark_61 : decode cX4_partMark 61 = .ok (.aload_n 0, 1) := by decide +kernel
theorem dX4_partMark_62 : decode cX4_partMark 62 = .ok (.getfield 32, 3) := by decide +kernel
theorem dX4_partMark_65 : decode cX4_partMark 65 = .ok (.iload 7, 2) := by decide +kernel
theorem dX4_partMark_67 : decode cX4_partMark 67 = .ok (.iconst 0, 1) := by decide +kernel
theorem dX4_partMark_68 : decode cX4_partMark 68 = .ok (.iastore, 1) := by decide +kernel
theorem dX4_partMark_69 : decode cX4_partMark 69 = .ok (.iload 8, 2) := by decide +kernel
theorem dX4_partMark_71 : decode cX4_partMark 71 = .ok (.ifCond .eq 14, 3) := by decide +kernel
theorem dX4_partMark_74 : decode cX4_partMark 74 = .ok (.iload 4, 2) := by decide +kernel
theorem dX4_partMark_76 : decode cX4_partMark 76 = .ok (.iload_n 2, 1) := by decide +kernel
theorem dX4_partMark_77 : decode cX4_partMark 77 = .ok (.if_icmp .ne 8, 3) := by decide +kernel
theorem dX4_partMark_80 : decode cX4_partMark 80 = .ok (.iload 7, 2) := by decide +kernel
theorem dX4_partMark_82 : decode cX4_partMark 82 = .ok (.goto 5, 3) := by decide +kernel
theorem dX4_partMark_85 : decode cX4_partMark 85 = .ok (.iload 5, 2) := by decide +kernel
theorem dX4_partMark_87 : decode cX4_partMark 87 = .ok (.istore 5, 2) := by decide +kernel
theorem dX4_partMark_89 : decode cX4_partMark 89 = .ok (.iload 4, 2) := by decide +kernel
theorem dX4_partMark_91 : decode cX4_partMark 91 = .ok (.iload 8, 2) := by decide +kernel
theorem dX4_partMark_93 : decode cX4_partMark 93 = .ok (.ifCond .eq 7, 3) := by decide +kernel
theorem dX4_partMark_96 : decode cX4_partMark 96 = .ok (.iconst 1, 1) := by decide +kernel
theorem dX4_partMark_97 : decode cX4_partMark 97 = .ok (.goto 4, 3) := by decide +kernel
theorem dX4_partMark_100 : decode cX4_partMark 100 = .ok (.iconst 0, 1) := by decide +kernel
theorem dX4_partMark_101 : decode cX4_partMark 101 = .ok (.iadd, 1) := by decide +kernel
theorem dX4_partMark_102 : decode cX4_partMark 102 = .ok (.istore 4, 2) := by decide +kernel
theorem dX4_partMark_104 : decode cX4_partMark 104 = .ok (.iinc 6 1, 3) := by decide +kernel
theorem dX4_partMark_107 : decode cX4_partMark 107 = .ok (.goto (-83), 3) := by decide +kernel
theorem dX4_partMark_110 : decode cX4_partMark 110 = .ok (.aload_n 0, 1) := by decide +kernel
theorem dX4_partMark_111 : decode cX4_partMark 111 = .ok (.iload 5, 2) := by decide +kernel
theorem dX4_partMark_113 : decode cX4_partMark 113 = .ok (.iconst (-1), 1) := by decide +kernel
theorem dX4_partMark_114 : decode cX4_partMark 114 = .ok (.if_icmp .ne 7, 3) := by decide +kernel
theorem dX4_partMark_117 : decode cX4_partMark 117 = .ok (.iconst 1, 1) := by decide +kernel
theorem dX4_partMark_118 : decode cX4_partMark 118 = .ok (.goto 4, 3) := by decide +kernel
theorem dX4_partMark_121 : decode cX4_partMark 121 = .ok (.iconst 0, 1) := by decide +kernel
theorem dX4_partMark_122 : decode cX4_partMark 122 = .ok (.putfield 50, 3) := by decide +kernel
theorem dX4_partMark_125 : decode cX4_partMark 125 = .ok (.aload_n 0, 1) := by decide +kernel
theorem dX4_partMark_126 : decode cX4_partMark 126 = .ok (.getfield 50, 3) := by decide +kernel
theorem dX4_partMark_129 : decode cX4_partMark 129 = .ok (.ifCond .le 7, 3) := by decide +kernel
theorem dX4_partMark_132 : decode cX4_partMark 132 = .ok (.iconst 0, 1) := by decide +kernel
theorem dX4_partMark_133 : decode cX4_partMark 133 = .ok (.goto 5, 3) := by decide +kernel
theorem dX4_partMark_136 : decode cX4_partMark 136 = .ok (.iload 5, 2) := by decide +kernel
theorem dX4_partMark_138 : decode cX4_partMark 138 = .ok (.ireturn, 1) := by decide +kernel
set_option maxRecDepth 20000 in
theorem ggX4_partSize_X4_isRow : GoodIn wsX4_partSize wsX4_isRow := goodIn_r _ [7, 8, 9, 10, 6, 11, 48, 49, 50, 51, 52, 53, 54, 55, 56, 57, 58, 59, 60, 61, 62, 63] (by decide +kernel) (by decide +kernel)
set_option maxRecDepth 20000 in
theorem gX4_partSize_X4_isRow : GoodIn wsX4_partSize (wsV RX4 67 RX4 yX4_isRow wsX4_isRow) := goodIn_app (goodIn_of _ (by decide +kernel)) ggX4_partSize_X4_isRow
set_option maxRecDepth 20000 in
theorem ggX4_partSize_X4_isPossible : GoodIn wsX4_partSize wsX4_isPossible := goodIn_r _ [15, 16, 48, 49, 50, 51, 52, 53, 54, 55, 56, 57, 58, 59, 60, 61, 62, 63] (by decide +kernel) (by decide +kernel)
set_option maxRecDepth 20000 in
theorem gX4_partSize_X4_isPossible : GoodIn wsX4_partSize (wsV RX4 88 RX4 yX4_isPossible wsX4_isPossible) := goodIn_app (goodIn_of _ (by decide +kernel)) ggX4_partSize_X4_isPossible
set_option maxRecDepth 20000 in
theorem ggX4_partSize_X4_asks : GoodIn wsX4_partSize wsX4_asks := goodIn_r _ [20, 1, 3, 4, 5, 6, 7, 8, 9, 10, 11, 21, 22, 23, 24, 25, 26, 27, 28, 29, 30, 31, 32, 33, 34, 35, 36, 37, 38, 39, 40, 41, 42, 43, 16, 44, 45, 46, 47, 2, 48, 49, 50, 51, 52, 53, 54, 55, 56, 57, 58, 59, 60, 61, 62, 63] (by decide +kernel) (by decide +kernel)
set_option maxRecDepth 20000 in
theorem gX4_partSize_X4_asks : GoodIn wsX4_partSize (wsV RX4 105 RX4 yX4_asks wsX4_asks) := goodIn_app (goodIn_of _ (by decide +kernel)) ggX4_partSize_X4_asks
theorem dX4_partSize_0 : decode cX4_partSize 0 = .ok (.aload_n 0, 1) := by decide +kernel
theorem dX4_partSize_1 : decode cX4_partSize 1 = .ok (.aload_n 0, 1) := by decide +kernel
theorem dX4_partSize_2 : decode cX4_partSize 2 = .ok (.iload_n 1, 1) := by decide +kernel
theorem dX4_partSize_3 : decode cX4_partSize 3 = .ok (.invokevirtual 67, 3) := by decide +kernel
theorem dX4_partSize_6 : decode cX4_partSize 6 = .ok (.ifCond .ne 7, 3) := by decide +kernel
theorem dX4_partSize_9 : decode cX4_partSize 9 = .ok (.iconst 1, 1) := by decide +kernel
theorem dX4_partSize_10 : decode cX4_partSize 10 = .ok (.goto 16, 3) := by decide +kernel
theorem dX4_partSize_13 : decode cX4_partSize 13 = .ok (.aload_n 0, 1) := by decide +kernel
theorem dX4_partSize_14 : decode cX4_partSize 14 = .ok (.iload_n 2, 1) := by decide +kernel
theorem dX4_partSize_15 : decode cX4_partSize 15 = .ok (.invokevirtual 88, 3) := by decide +kernel
theorem dX4_partSize_18 : decode cX4_partSize 18 = .ok (.ifCond .eq 7, 3) := by decide +kernel
theorem dX4_partSize_21 : decode cX4_partSize 21 = .ok (.iconst 0, 1) := by decide +kernel
theorem dX4_partSize_22 : decode cX4_partSize 22 = .ok (.goto 4, 3) := by decide +kernel
theorem dX4_partSize_25 : decode cX4_partSize 25 = .ok (.iconst 2, 1) := by decide +kernel
theorem dX4_partSize_26 : decode cX4_partSize 26 = .ok (.putfield 50, 3) := by decide +kernel
theorem dX4_partSize_29 : decode cX4_partSize 29 = .ok (.aload_n 0, 1) := by decide +kernel
theorem dX4_partSize_30 : decode cX4_partSize 30 = .ok (.getfield 50, 3) := by decide +kernel
theorem dX4_partSize_33 : decode cX4_partSize 33 = .ok (.ifCond .ne 20, 3) := by decide +kernel
theorem dX4_partSize_36 : decode cX4_partSize 36 = .ok (.aload_n 0, 1) := by decide +kernel
theorem dX4_partSize_37 : decode cX4_partSize 37 = .ok (.iload_n 1, 1) := by decide +kernel
theorem dX4_partSize_38 : decode cX4_partSize 38 = .ok (.invokevirtual 105, 3) := by decide +kernel
theorem dX4_partSize_41 : decode cX4_partSize 41 = .ok (.ifCond .eq 12, 3) := by decide +kernel
theorem dX4_partSize_44 : decode cX4_partSize 44 = .ok (.aload_n 0, 1) := by decide +kernel
theorem dX4_partSize_45 : decode cX4_partSize 45 = .ok (.getfield 32, 3) := by decide +kernel
theorem dX4_partSize_48 : decode cX4_partSize 48 = .ok (.iload_n 2, 1) := by decide +kernel
theorem dX4_partSize_49 : decode cX4_partSize 49 = .ok (.iaload, 1) := by decide +kernel
theorem dX4_partSize_50 : decode cX4_partSize 50 = .ok (.goto 4, 3) := by decide +kernel
theorem dX4_partSize_53 : decode cX4_partSize 53 = .ok (.iconst 0, 1) := by decide +kernel
theorem dX4_partSize_54 : decode cX4_partSize 54 = .ok (.ireturn, 1) := by decide +kernel
set_option maxRecDepth 20000 in
theorem ggX4_worstCase_X4_asks : GoodIn wsX4_worstCase wsX4_asks := goodIn_r _ [5, 6, 7, 8, 9, 4, 10, 11, 12, 13, 14, 15, 16, 17, 18, 19, 20, 21, 22, 23, 24, 25, 26, 27, 28, 29, 30, 31, 32, 33, 34, 35, 36, 37, 38, 39, 40, 41, 42, 43, 48, 49, 50, 51, 52, 53, 54, 55, 56, 57, 58, 59, 60, 61, 62, 63] (by decide +kernel) (by decide +kernel)
set_option maxRecDepth 20000 in
theorem gX4_worstCase_X4_asks : GoodIn wsX4_worstCase (wsV RX4 105 RX4 yX4_asks wsX4_asks) := goodIn_app (goodIn_of _ (by decide +kernel)) ggX4_worstCase_X4_asks
set_option maxRecDepth 20000 in
theorem ggX4_worstCase_X4_worst : GoodIn wsX4_worstCase wsX4_worst := goodIn_r _ [47, 43, 48, 49, 50, 51, 52, 53, 54, 55, 56, 57, 58, 59, 60, 61, 62, 63] (by decide +kernel) (by decide +kernel)
set_option maxRecDepth 20000 in
theorem gX4_worstCase_X4_worst : GoodIn wsX4_worstCase (wsV RX4 111 RX4 yX4_worst wsX4_worst) := goodIn_app (goodIn_of _ (by decide +kernel)) ggX4_worstCase_X4_worst
theorem dX4_worstCase_0 : decode cX4_worstCase 0 = .ok (.aload_n 0, 1) := by decide +kernel
theorem dX4_worstCase_1 : decode cX4_worstCase 1 = .ok (.iload_n 1, 1) := by decide +kernel
theorem dX4_worstCase_2 : decode cX4_worstCase 2 = .ok (.invokevirtual 105, 3) := by decide +kernel
theorem dX4_worstCase_5 : decode cX4_worstCase 5 = .ok (.ifCond .eq 10, 3) := by decide +kernel
theorem dX4_worstCase_8 : decode cX4_worstCase 8 = .ok (.aload_n 0, 1) := by decide +kernel
theorem dX4_worstCase_9 : decode cX4_worstCase 9 = .ok (.invokevirtual 111, 3) := by decide +kernel
theorem dX4_worstCase_12 : decode cX4_worstCase 12 = .ok (.goto 4, 3) := by decide +kernel
theorem dX4_worstCase_15 : decode cX4_worstCase 15 = .ok (.iconst 0, 1) := by decide +kernel
theorem dX4_worstCase_16 : decode cX4_worstCase 16 = .ok (.ireturn, 1) := by decide +kernel
set_option maxRecDepth 20000 in
theorem ggX4_weight_X4_asks : GoodIn wsX4_weight wsX4_asks := goodIn_r _ [5, 6, 7, 8, 9, 4, 10, 11, 12, 13, 14, 15, 16, 17, 18, 19, 20, 21, 22, 23, 24, 25, 26, 27, 28, 29, 30, 31, 32, 33, 34, 35, 36, 37, 38, 39, 40, 41, 42, 43, 48, 49, 50, 51, 52, 53, 54, 55, 56, 57, 58, 59, 60, 61, 62, 63] (by decide +kernel) (by decide +kernel)
set_option maxRecDepth 20000 in
theorem gX4_weight_X4_asks : GoodIn wsX4_weight (wsV RX4 105 RX4 yX4_asks wsX4_asks) := goodIn_app (goodIn_of _ (by decide +kernel)) ggX4_weight_X4_asks
set_option maxRecDepth 20000 in
theorem ggX4_weight_X4_squares : GoodIn wsX4_weight wsX4_squares := goodIn_r _ [47, 43, 48, 49, 50, 51, 52, 53, 54, 55, 56, 57, 58, 59, 60, 61, 62, 63] (by decide +kernel) (by decide +kernel)
set_option maxRecDepth 20000 in
theorem gX4_weight_X4_squares : GoodIn wsX4_weight (wsV RX4 114 RX4 yX4_squares wsX4_squares) := goodIn_app (goodIn_of _ (by decide +kernel)) ggX4_weight_X4_squares
theorem dX4_weight_0 : decode cX4_weight 0 = .ok (.aload_n 0, 1) := by decide +kernel
theorem dX4_weight_1 : decode cX4_weight 1 = .ok (.iload_n 1, 1) := by decide +kernel
theorem dX4_weight_2 : decode cX4_weight 2 = .ok (.invokevirtual 105, 3) := by decide +kernel
theorem dX4_weight_5 : decode cX4_weight 5 = .ok (.ifCond .eq 10, 3) := by decide +kernel
theorem dX4_weight_8 : decode cX4_weight 8 = .ok (.aload_n 0, 1) := by decide +kernel
theorem dX4_weight_9 : decode cX4_weight 9 = .ok (.invokevirtual 114, 3) := by decide +kernel
theorem dX4_weight_12 : decode cX4_weight 12 = .ok (.goto 4, 3) := by decide +kernel
theorem dX4_weight_15 : decode cX4_weight 15 = .ok (.iconst 0, 1) := by decide +kernel
theorem dX4_weight_16 : decode cX4_weight 16 = .ok (.ireturn, 1) := by decide +kernel
theorem dX4_isAmong_0 : decode cX4_isAmong 0 = .ok (.iconst 0, 1) := by decide +kernel
theorem dX4_isAmong_1 : decode cX4_isAmong 1 = .ok (.istore 4, 2) := by decide +kernel
theorem dX4_isAmong_3 : decode cX4_isAmong 3 = .ok (.iload_n 2, 1) := by decide +kernel
theorem dX4_isAmong_4 : decode cX4_isAmong 4 = .ok (.istore 5, 2) := by decide +kernel
theorem dX4_isAmong_6 : decode cX4_isAmong 6 = .ok (.iload 5, 2) := by decide +kernel
theorem dX4_isAmong_8 : decode cX4_isAmong 8 = .ok (.iload_n 2, 1) := by decide +kernel
theorem dX4_isAmong_9 : decode cX4_isAmong 9 = .ok (.iload_n 3, 1) := by decide +kernel
theorem dX4_isAmong_10 : decode cX4_isAmong 10 = .ok (.iadd, 1) := by decide +kernel
theorem dX4_isAmong_11 : decode cX4_isAmong 11 = .ok (.if_icmp .ge 32, 3) := by decide +kernel
theorem dX4_isAmong_14 : decode cX4_isAmong 14 = .ok (.iload 4, 2) := by decide +kernel
theorem dX4_isAmong_16 : decode cX4_isAmong 16 = .ok (.ifCond .ne 14, 3) := by decide +kernel
theorem dX4_isAmong_19 : decode cX4_isAmong 19 = .ok (.aload_n 0, 1) := by decide +kernel
theorem dX4_isAmong_20 : decode cX4_isAmong 20 = .ok (.getfield 35, 3) := by decide +kernel
theorem dX4_isAmong_23 : decode cX4_isAmong 23 = .ok (.iload 5, 2) := by decide +kernel
theorem dX4_isAmong_25 : decode cX4_isAmong 25 = .ok (.iaload, 1) := by decide +kernel
theorem dX4_isAmong_26 : decode cX4_isAmong 26 = .ok (.iload_n 1, 1) := by decide +kernel
theorem dX4_isAmong_27 : decode cX4_isAmong 27 = .ok (.if_icmp .ne 7, 3) := by decide +kernel
theorem dX4_isAmong_30 : decode cX4_isAmong 30 = .ok (.iconst 1, 1) := by decide +kernel
theorem dX4_isAmong_31 : decode cX4_isAmong 31 = .ok (.goto 4, 3) := by decide +kernel
theorem dX4_isAmong_34 : decode cX4_isAmong 34 = .ok (.iconst 0, 1) := by decide +kernel
theorem dX4_isAmong_35 : decode cX4_isAmong 35 = .ok (.istore 4, 2) := by decide +kernel
theorem dX4_isAmong_37 : decode cX4_isAmong 37 = .ok (.iinc 5 1, 3) := by decide +kernel
theorem dX4_isAmong_40 : decode cX4_isAmong 40 = .ok (.goto (-34), 3) := by decide +kernel
theorem dX4_isAmong_43 : decode cX4_isAmong 43 = .ok (.iload 4, 2) := by decide +kernel
theorem dX4_isAmong_45 : decode cX4_isAmong 45 = .ok (.ireturn, 1) := by decide +kernel
set_option maxRecDepth 20000 in
theorem ggX4_best_X4_laysParts : GoodIn wsX4_best wsX4_laysParts := goodIn_r _ [6, 7, 8, 9, 10, 11, 5, 12, 13, 14, 15, 32, 33, 34, 35, 36, 37, 38, 39, 40, 41, 42, 43, 44, 45, 46, 47] (by decide +kernel) (by decide +kernel)
set_option maxRecDepth 20000 in
theorem gX4_best_X4_laysParts : GoodIn wsX4_best (wsV RX4 101 RX4 yX4_laysParts wsX4_laysParts) := goodIn_app (goodIn_of _ (by decide +kernel)) ggX4_best_X4_laysParts
set_option maxRecDepth 20000 in
theorem ggX4_best_X4_worst : GoodIn wsX4_best wsX4_worst := goodIn_r _ [19, 7, 32, 33, 34, 35, 36, 37, 38, 39, 40, 41, 42, 43, 44, 45, 46, 47] (by decide +kernel) (by decide +kernel)
set_option maxRecDepth 20000 in
theorem gX4_best_X4_worst : GoodIn wsX4_best (wsV RX4 111 RX4 yX4_worst wsX4_worst) := goodIn_app (goodIn_of _ (by decide +kernel)) ggX4_best_X4_worst
set_option maxRecDepth 20000 in
theorem ggX4_best_X4_squares : GoodIn wsX4_best wsX4_squares := goodIn_r _ [23, 7, 32, 33, 34, 35, 36, 37, 38, 39, 40, 41, 42, 43, 44, 45, 46, 47] (by decide +kernel) (by decide +kernel)
set_option maxRecDepth 20000 in
theorem gX4_best_X4_squares : GoodIn wsX4_best (wsV RX4 114 RX4 yX4_squares wsX4_squares) := goodIn_app (goodIn_of _ (by decide +kernel)) ggX4_best_X4_squares
set_option maxRecDepth 20000 in
theorem ggX4_best_X4_manyParts : GoodIn wsX4_best wsX4_manyParts := goodIn_r _ [27, 7, 32, 33, 34, 35, 36, 37, 38, 39, 40, 41, 42, 43, 44, 45, 46, 47] (by decide +kernel) (by decide +kernel)
set_option maxRecDepth 20000 in
theorem gX4_best_X4_manyParts : GoodIn wsX4_best (wsV RX4 108 RX4 yX4_manyParts wsX4_manyParts) := goodIn_app (goodIn_of _ (by decide +kernel)) ggX4_best_X4_manyParts
set_option maxRecDepth 20000 in
theorem ggX4_best_X4_isAmong : GoodIn wsX4_best wsX4_isAmong := goodIn_r _ [31, 8, 32, 33, 34, 35, 36, 37, 38, 39, 40, 41, 42, 43, 44, 45, 46, 47] (by decide +kernel) (by decide +kernel)
set_option maxRecDepth 20000 in
theorem gX4_best_X4_isAmong : GoodIn wsX4_best (wsV RX4 117 RX4 yX4_isAmong wsX4_isAmong) := goodIn_app (goodIn_of _ (by decide +kernel)) ggX4_best_X4_isAmong
theorem dX4_best_0 : decode cX4_best 0 = .ok (.iconst (-1), 1) := by decide +kernel
theorem dX4_best_1 : decode cX4_best 1 = .ok (.istore 4, 2) := by decide +kernel
theorem dX4_best_3 : decode cX4_best 3 = .ok (.iconst 0, 1) := by decide +kernel
theorem dX4_best_4 : decode cX4_best 4 = .ok (.istore 5, 2) := by decide +kernel
theorem dX4_best_6 : decode cX4_best 6 = .ok (.iconst 0, 1) := by decide +kernel
theorem dX4_best_7 : decode cX4_best 7 = .ok (.istore 6, 2) := by decide +kernel
theorem dX4_best_9 : decode cX4_best 9 = .ok (.iload 6, 2) := by decide +kernel
theorem dX4_best_11 : decode cX4_best 11 = .ok (.aload_n 0, 1) := by decide +kernel
theorem dX4_best_12 : decode cX4_best 12 = .ok (.getfield 16, 3) := by decide +kernel
theorem dX4_best_15 : decode cX4_best 15 = .ok (.if_icmp .ge 91, 3) := by decide +kernel
theorem dX4_best_18 : decode cX4_best 18 = .ok (.aload_n 0, 1) := by decide +kernel
theorem dX4_best_19 : decode cX4_best 19 = .ok (.iload 6, 2) := by decide +kernel
theorem dX4_best_21 : decode cX4_best 21 = .ok (.iload_n 2, 1) := by decide +kernel
theorem dX4_best_22 : decode cX4_best 22 = .ok (.iload_n 3, 1) := by decide +kernel
theorem dX4_best_23 : decode cX4_best 23 = .ok (.invokevirtual 101, 3) := by decide +kernel
theorem dX4_best_26 : decode cX4_best 26 = .ok (.iload_n 1, 1) := by decide +kernel
theorem dX4_best_27 : decode cX4_best 27 = .ok (.ifCond .ne 10, 3) := by decide +kernel
theorem dX4_best_30 : decode cX4_best 30 = .ok (.aload_n 0, 1) := by decide +kernel
theorem dX4_best_31 : decode cX4_best 31 = .ok (.invokevirtual 111, 3) := by decide +kernel
theorem dX4_best_34 : decode cX4_best 34 = .ok (.goto 20, 3) := by decide +kernel
theorem dX4_best_37 : decode cX4_best 37 = .ok (.iload_n 1, 1) := by decide +kernel
theorem dX4_best_38 : decode cX4_best 38 = .ok (.iconst 1, 1) := by decide +kernel
theorem dX4_best_39 : decode cX4_best 39 = .ok (.if_icmp .ne 10, 3) := by decide +kernel
theorem dX4_best_42 : decode cX4_best 42 = .ok (.aload_n 0, 1) := by decide +kernel
theorem dX4_best_43 : decode cX4_best 43 = .ok (.invokevirtual 114, 3) := by decide +kernel
theorem dX4_best_46 : decode cX4_best 46 = .ok (.goto 8, 3) := by decide +kernel
theorem dX4_best_49 : decode cX4_best 49 = .ok (.aload_n 0, 1) := by decide +kernel
theorem dX4_best_50 : decode cX4_best 50 = .ok (.invokevirtual 108, 3) := by decide +kernel
theorem dX4_best_53 : decode cX4_best 53 = .ok (.ineg, 1) := by decide +kernel
theorem dX4_best_54 : decode cX4_best 54 = .ok (.istore 7, 2) := by decide +kernel
theorem dX4_best_56 : decode cX4_best 56 = .ok (.iconst 2, 1) := by decide +kernel
theorem dX4_best_57 : decode cX4_best 57 = .ok (.iload 7, 2) := by decide +kernel
theorem dX4_best_59 : decode cX4_best 59 = .ok (.imul, 1) := by decide +kernel
theorem dX4_best_60 : decode cX4_best 60 = .ok (.aload_n 0, 1) := by decide +kernel
theorem dX4_best_61 : decode cX4_best 61 = .ok (.iload 6, 2) := by decide +kernel
theorem dX4_best_63 : decode cX4_best 63 = .ok (.iload_n 2, 1) := by decide +kernel
theorem dX4_best_64 : decode cX4_best 64 = .ok (.iload_n 3, 1) := by decide +kernel
theorem dX4_best_65 : decode cX4_best 65 = .ok (.invokevirtual 117, 3) := by decide +kernel
theorem dX4_best_68 : decode cX4_best 68 = .ok (.ifCond .eq 7, 3) := by decide +kernel
theorem dX4_best_71 : decode cX4_best 71 = .ok (.iconst 1, 1) := by decide +kernel
theorem dX4_best_72 : decode cX4_best 72 = .ok (.goto 4, 3) := by decide +kernel
theorem dX4_best_75 : decode cX4_best 75 = .ok (.iconst 0, 1) := by decide +kernel
theorem dX4_best_76 : decode cX4_best 76 = .ok (.isub, 1) := by decide +kernel
theorem dX4_best_77 : decode cX4_best 77 = .ok (.istore 8, 2) := by decide +kernel
theorem dX4_best_79 : decode cX4_best 79 = .ok (.iload 4, 2) := by decide +kernel
theorem dX4_best_81 : decode cX4_best 81 = .ok (.iconst (-1), 1) := by decide +kernel
theorem dX4_best_82 : decode cX4_best 82 = .ok (.if_icmp .eq 10, 3) := by decide +kernel
theorem dX4_best_85 : decode cX4_best 85 = .ok (.iload 8, 2) := by decide +kernel
theorem dX4_best_87 : decode cX4_best 87 = .ok (.iload 5, 2) := by decide +kernel
theorem dX4_best_89 : decode cX4_best 89 = .ok (.if_icmp .ge 11, 3) := by decide +kernel
theorem dX4_best_92 : decode cX4_best 92 = .ok (.iload 6, 2) := by decide +kernel
theorem dX4_best_94 : decode cX4_best 94 = .ok (.istore 4, 2) := by decide +kernel
theorem dX4_best_96 : decode cX4_best 96 = .ok (.iload 8, 2) := by decide +kernel
theorem dX4_best_98 : decode cX4_best 98 = .ok (.istore 5, 2) := by decide +kernel
theorem dX4_best_100 : decode cX4_best 100 = .ok (.iinc 6 1, 3) := by decide +kernel
theorem dX4_best_103 : decode cX4_best 103 = .ok (.goto (-94), 3) := by decide +kernel
theorem dX4_best_106 : decode cX4_best 106 = .ok (.iload 4, 2) := by decide +kernel
theorem dX4_best_108 : decode cX4_best 108 = .ok (.ireturn, 1) := by decide +kernel
set_option maxRecDepth 20000 in
theorem ggX4_bestGuess_X4_laysLeft : GoodIn wsX4_bestGuess wsX4_laysLeft := goodIn_r _ [6, 7, 8, 9, 10, 11, 5, 12, 13, 14, 15, 16, 17, 18, 19, 20, 21, 22, 23, 24, 25, 26, 27, 56, 57, 58, 59, 60, 61, 62, 63, 64, 65, 66, 67, 68, 69, 70, 71] (by decide +kernel) (by decide +kernel)
set_option maxRecDepth 20000 in
theorem gX4_bestGuess_X4_laysLeft : GoodIn wsX4_bestGuess (wsV RX4 98 RX4 yX4_laysLeft wsX4_laysLeft) := goodIn_app (goodIn_of _ (by decide +kernel)) ggX4_bestGuess_X4_laysLeft
set_option maxRecDepth 20000 in
theorem ggX4_bestGuess_X4_in : GoodIn wsX4_bestGuess wsX4_in := goodIn_r _ [30] (by decide +kernel) (by decide +kernel)
set_option maxRecDepth 20000 in
theorem gX4_bestGuess_X4_in : GoodIn wsX4_bestGuess (va_wsS RX4 53 yX4_in wsX4_in) := goodIn_app (goodIn_of _ (by decide +kernel)) ggX4_bestGuess_X4_in
set_option maxRecDepth 20000 in
theorem ggX4_bestGuess_X4_best : GoodIn wsX4_bestGuess wsX4_best := goodIn_r _ [34, 7, 35, 36, 37, 5, 38, 39, 8, 21, 22, 23, 24, 25, 26, 27, 40, 41, 42, 43, 44, 45, 46, 47, 48, 49, 50, 51, 52, 53, 54, 55, 56, 57, 58, 59, 60, 61, 62, 63, 64, 65, 66, 67, 68, 69, 70, 71] (by decide +kernel) (by decide +kernel)
set_option maxRecDepth 20000 in
theorem gX4_bestGuess_X4_best : GoodIn wsX4_bestGuess (wsV RX4 120 RX4 yX4_best wsX4_best) := goodIn_app (goodIn_of _ (by decide +kernel)) ggX4_bestGuess_X4_best
theorem dX4_bestGuess_0 : decode cX4_bestGuess 0 = .ok (.aload_n 0, 1) := by decide +kernel
theorem dX4_bestGuess_1 : decode cX4_bestGuess 1 = .ok (.invokevirtual 98, 3) := by decide +kernel
theorem dX4_bestGuess_4 : decode cX4_bestGuess 4 = .ok (.istore_n 2, 1) := by decide +kernel
theorem dX4_bestGuess_5 : decode cX4_bestGuess 5 = .ok (.aload_n 0, 1) := by decide +kernel
theorem dX4_bestGuess_6 : decode cX4_bestGuess 6 = .ok (.iload_n 1, 1) := by decide +kernel
theorem dX4_bestGuess_7 : decode cX4_bestGuess 7 = .ok (.iconst 0, 1) := by decide +kernel
theorem dX4_bestGuess_8 : decode cX4_bestGuess 8 = .ok (.iconst 2, 1) := by decide +kernel
theorem dX4_bestGuess_9 : decode cX4_bestGuess 9 = .ok (.invokestatic 53, 3) := by decide +kernel
theorem dX4_bestGuess_12 : decode cX4_bestGuess 12 = .ok (.ifCond .ne 7, 3) := by decide +kernel
theorem dX4_bestGuess_15 : decode cX4_bestGuess 15 = .ok (.iconst 1, 1) := by decide +kernel
theorem dX4_bestGuess_16 : decode cX4_bestGuess 16 = .ok (.goto 12, 3) := by decide +kernel
theorem dX4_bestGuess_19 : decode cX4_bestGuess 19 = .ok (.iload_n 2, 1) := by decide +kernel
theorem dX4_bestGuess_20 : decode cX4_bestGuess 20 = .ok (.ifCond .ne 7, 3) := by decide +kernel
theorem dX4_bestGuess_23 : decode cX4_bestGuess 23 = .ok (.iconst 2, 1) := by decide +kernel
theorem dX4_bestGuess_24 : decode cX4_bestGuess 24 = .ok (.goto 4, 3) := by decide +kernel
theorem dX4_bestGuess_27 : decode cX4_bestGuess 27 = .ok (.iconst 0, 1) := by decide +kernel
theorem dX4_bestGuess_28 : decode cX4_bestGuess 28 = .ok (.putfield 50, 3) := by decide +kernel
theorem dX4_bestGuess_31 : decode cX4_bestGuess 31 = .ok (.aload_n 0, 1) := by decide +kernel
theorem dX4_bestGuess_32 : decode cX4_bestGuess 32 = .ok (.getfield 50, 3) := by decide +kernel
theorem dX4_bestGuess_35 : decode cX4_bestGuess 35 = .ok (.ifCond .le 7, 3) := by decide +kernel
theorem dX4_bestGuess_38 : decode cX4_bestGuess 38 = .ok (.iconst 0, 1) := by decide +kernel
theorem dX4_bestGuess_39 : decode cX4_bestGuess 39 = .ok (.goto 10, 3) := by decide +kernel
theorem dX4_bestGuess_42 : decode cX4_bestGuess 42 = .ok (.aload_n 0, 1) := by decide +kernel
theorem dX4_bestGuess_43 : decode cX4_bestGuess 43 = .ok (.iload_n 1, 1) := by decide +kernel
theorem dX4_bestGuess_44 : decode cX4_bestGuess 44 = .ok (.iconst 0, 1) := by decide +kernel
theorem dX4_bestGuess_45 : decode cX4_bestGuess 45 = .ok (.iload_n 2, 1) := by decide +kernel
theorem dX4_bestGuess_46 : decode cX4_bestGuess 46 = .ok (.invokevirtual 120, 3) := by decide +kernel
theorem dX4_bestGuess_49 : decode cX4_bestGuess 49 = .ok (.ireturn, 1) := by decide +kernel
set_option maxRecDepth 20000 in
theorem ggX4_guessesNeeded_X4_laysLeft : GoodIn wsX4_guessesNeeded wsX4_laysLeft := goodIn_r _ [11, 12, 6, 13, 14, 15, 10, 16, 17, 18, 19, 20, 21, 22, 23, 24, 25, 26, 27, 28, 29, 30, 5, 56, 57, 58, 59, 60, 61, 62, 63, 64, 65, 66, 67, 68, 69, 70, 71] (by decide +kernel) (by decide +kernel)
set_option maxRecDepth 20000 in
theorem gX4_guessesNeeded_X4_laysLeft : GoodIn wsX4_guessesNeeded (wsV RX4 98 RX4 yX4_laysLeft wsX4_laysLeft) := goodIn_app (goodIn_of _ (by decide +kernel)) ggX4_guessesNeeded_X4_laysLeft
set_option maxRecDepth 20000 in
theorem ggX4_guessesNeeded_X4_best : GoodIn wsX4_guessesNeeded wsX4_best := goodIn_r _ [34, 12, 35, 36, 37, 10, 38, 39, 6, 25, 26, 27, 28, 29, 30, 5, 40, 41, 42, 43, 44, 45, 46, 47, 48, 49, 50, 51, 52, 53, 54, 55, 56, 57, 58, 59, 60, 61, 62, 63, 64, 65, 66, 67, 68, 69, 70, 71] (by decide +kernel) (by decide +kernel)
set_option maxRecDepth 20000 in
theorem gX4_guessesNeeded_X4_best : GoodIn wsX4_guessesNeeded (wsV RX4 120 RX4 yX4_best wsX4_best) := goodIn_app (goodIn_of _ (by decide +kernel)) ggX4_guessesNeeded_X4_best
set_option maxRecDepth 20000 in
theorem ggX4_guessesNeeded_X4_markOfRows : GoodIn wsX4_guessesNeeded wsX4_markOfRows := goodIn_r _ [28, 29, 30, 5, 56, 57, 58, 59, 60, 61, 62, 63, 64, 65, 66, 67, 68, 69, 70, 71] (by decide +kernel) (by decide +kernel)
set_option maxRecDepth 20000 in
theorem gX4_guessesNeeded_X4_markOfRows : GoodIn wsX4_guessesNeeded (wsV RX4 74 RX4 yX4_markOfRows wsX4_markOfRows) := goodIn_app (goodIn_of _ (by decide +kernel)) ggX4_guessesNeeded_X4_markOfRows
theorem dX4_guessesNeeded_0 : decode cX4_guessesNeeded 0 = .ok (.aload_n 0, 1) := by decide +kernel
theorem dX4_guessesNeeded_1 : decode cX4_guessesNeeded 1 = .ok (.invokevirtual 98, 3) := by decide +kernel
theorem dX4_guessesNeeded_4 : decode cX4_guessesNeeded 4 = .ok (.istore_n 1, 1) := by decide +kernel
theorem dX4_guessesNeeded_5 : decode cX4_guessesNeeded 5 = .ok (.aload_n 0, 1) := by decide +kernel
theorem dX4_guessesNeeded_6 : decode cX4_guessesNeeded 6 = .ok (.iload_n 1, 1) := by decide +kernel
theorem dX4_guessesNeeded_7 : decode cX4_guessesNeeded 7 = .ok (.ifCond .eq 9, 3) := by decide +kernel
theorem dX4_guessesNeeded_10 : decode cX4_guessesNeeded 10 = .ok (.iload_n 1, 1) := by decide +kernel
theorem dX4_guessesNeeded_11 : decode cX4_guessesNeeded 11 = .ok (.bipush 24, 2) := by decide +kernel
theorem dX4_guessesNeeded_13 : decode cX4_guessesNeeded 13 = .ok (.if_icmp .le 7, 3) := by decide +kernel
theorem dX4_guessesNeeded_16 : decode cX4_guessesNeeded 16 = .ok (.iconst 1, 1) := by decide +kernel
theorem dX4_guessesNeeded_17 : decode cX4_guessesNeeded 17 = .ok (.goto 4, 3) := by decide +kernel
theorem dX4_guessesNeeded_20 : decode cX4_guessesNeeded 20 = .ok (.iconst 0, 1) := by decide +kernel
theorem dX4_guessesNeeded_21 : decode cX4_guessesNeeded 21 = .ok (.putfield 50, 3) := by decide +kernel
theorem dX4_guessesNeeded_24 : decode cX4_guessesNeeded 24 = .ok (.aload_n 0, 1) := by decide +kernel
theorem dX4_guessesNeeded_25 : decode cX4_guessesNeeded 25 = .ok (.getfield 50, 3) := by decide +kernel
theorem dX4_guessesNeeded_28 : decode cX4_guessesNeeded 28 = .ok (.ifCond .le 5, 3) := by decide +kernel
theorem dX4_guessesNeeded_31 : decode cX4_guessesNeeded 31 = .ok (.iconst 0, 1) := by decide +kernel
theorem dX4_guessesNeeded_32 : decode cX4_guessesNeeded 32 = .ok (.ireturn, 1) := by decide +kernel
theorem dX4_guessesNeeded_33 : decode cX4_guessesNeeded 33 = .ok (.aload_n 0, 1) := by decide +kernel
theorem dX4_guessesNeeded_34 : decode cX4_guessesNeeded 34 = .ok (.getfield 38, 3) := by decide +kernel
theorem dX4_guessesNeeded_37 : decode cX4_guessesNeeded 37 = .ok (.iconst 0, 1) := by decide +kernel
theorem dX4_guessesNeeded_38 : decode cX4_guessesNeeded 38 = .ok (.iconst 0, 1) := by decide +kernel
theorem dX4_guessesNeeded_39 : decode cX4_guessesNeeded 39 = .ok (.iastore, 1) := by decide +kernel
theorem dX4_guessesNeeded_40 : decode cX4_guessesNeeded 40 = .ok (.aload_n 0, 1) := by decide +kernel
theorem dX4_guessesNeeded_41 : decode cX4_guessesNeeded 41 = .ok (.getfield 41, 3) := by decide +kernel
theorem dX4_guessesNeeded_44 : decode cX4_guessesNeeded 44 = .ok (.iconst 0, 1) := by decide +kernel
theorem dX4_guessesNeeded_45 : decode cX4_guessesNeeded 45 = .ok (.iload_n 1, 1) := by decide +kernel
theorem dX4_guessesNeeded_46 : decode cX4_guessesNeeded 46 = .ok (.iastore, 1) := by decide +kernel
theorem dX4_guessesNeeded_47 : decode cX4_guessesNeeded 47 = .ok (.aload_n 0, 1) := by decide +kernel
theorem dX4_guessesNeeded_48 : decode cX4_guessesNeeded 48 = .ok (.getfield 44, 3) := by decide +kernel
theorem dX4_guessesNeeded_51 : decode cX4_guessesNeeded 51 = .ok (.iconst 0, 1) := by decide +kernel
theorem dX4_guessesNeeded_52 : decode cX4_guessesNeeded 52 = .ok (.iconst 1, 1) := by decide +kernel
theorem dX4_guessesNeeded_53 : decode cX4_guessesNeeded 53 = .ok (.iastore, 1) := by decide +kernel
theorem dX4_guessesNeeded_54 : decode cX4_guessesNeeded 54 = .ok (.iload_n 1, 1) := by decide +kernel
theorem dX4_guessesNeeded_55 : decode cX4_guessesNeeded 55 = .ok (.istore_n 2, 1) := by decide +kernel
theorem dX4_guessesNeeded_56 : decode cX4_guessesNeeded 56 = .ok (.iconst 1, 1) := by decide +kernel
theorem dX4_guessesNeeded_57 : decode cX4_guessesNeeded 57 = .ok (.istore_n 3, 1) := by decide +kernel
theorem dX4_guessesNeeded_58 : decode cX4_guessesNeeded 58 = .ok (.iconst 0, 1) := by decide +kernel
theorem dX4_guessesNeeded_59 : decode cX4_guessesNeeded 59 = .ok (.istore 4, 2) := by decide +kernel
theorem dX4_guessesNeeded_61 : decode cX4_guessesNeeded 61 = .ok (.iconst 0, 1) := by decide +kernel
theorem dX4_guessesNeeded_62 : decode cX4_guessesNeeded 62 = .ok (.istore 5, 2) := by decide +kernel
theorem dX4_guessesNeeded_64 : decode cX4_guessesNeeded 64 = .ok (.iload 5, 2) := by decide +kernel
theorem dX4_guessesNeeded_66 : decode cX4_guessesNeeded 66 = .ok (.iload_n 3, 1) := by decide +kernel
theorem dX4_guessesNeeded_67 : decode cX4_guessesNeeded 67 = .ok (.if_icmp .ge 191, 3) := by decide +kernel
theorem dX4_guessesNeeded_70 : decode cX4_guessesNeeded 70 = .ok (.aload_n 0, 1) := by decide +kernel
theorem dX4_guessesNeeded_71 : decode cX4_guessesNeeded 71 = .ok (.iconst 0, 1) := by decide +kernel
theorem dX4_guessesNeeded_72 : decode cX4_guessesNeeded 72 = .ok (.aload_n 0, 1) := by decide +kernel
theorem dX4_guessesNeeded_73 : decode cX4_guessesNeeded 73 = .ok (.getfield 38, 3) := by decide +kernel
theorem dX4_guessesNeeded_76 : decode cX4_guessesNeeded 76 = .ok (.iload 5, 2) := by decide +kernel
theorem dX4_guessesNeeded_78 : decode cX4_guessesNeeded 78 = .ok (.iaload, 1) := by decide +kernel
theorem dX4_guessesNeeded_79 : decode cX4_guessesNeeded 79 = .ok (.aload_n 0, 1) := by decide +kernel
theorem dX4_guessesNeeded_80 : decode cX4_guessesNeeded 80 = .ok (.getfield 41, 3) := by decide +kernel
theorem dX4_guessesNeeded_83 : decode cX4_guessesNeeded 83 = .ok (.iload 5, 2) := by decide +kernel
theorem dX4_guessesNeeded_85 : decode cX4_guessesNeeded 85 = .ok (.iaload, 1) := by decide +kernel
theorem dX4_guessesNeeded_86 : decode cX4_guessesNeeded 86 = .ok (.invokevirtual 120, 3) := by decide +kernel
theorem dX4_guessesNeeded_89 : decode cX4_guessesNeeded 89 = .ok (.istore 6, 2) := by decide +kernel
theorem dX4_guessesNeeded_91 : decode cX4_guessesNeeded 91 = .ok (.aload_n 0, 1) := by decide +kernel
theorem dX4_guessesNeeded_92 : decode cX4_guessesNeeded 92 = .ok (.getfield 44, 3) := by decide +kernel
theorem dX4_guessesNeeded_95 : decode cX4_guessesNeeded 95 = .ok (.iload 5, 2) := by decide +kernel
theorem dX4_guessesNeeded_97 : decode cX4_guessesNeeded 97 = .ok (.iaload, 1) := by decide +kernel
theorem dX4_guessesNeeded_98 : decode cX4_guessesNeeded 98 = .ok (.iload 4, 2) := by decide +kernel
theorem dX4_guessesNeeded_100 : decode cX4_guessesNeeded 100 = .ok (.if_icmp .le 13, 3) := by decide +kernel
theorem dX4_guessesNeeded_103 : decode cX4_guessesNeeded 103 = .ok (.aload_n 0, 1) := by decide +kernel
theorem dX4_guessesNeeded_104 : decode cX4_guessesNeeded 104 = .ok (.getfield 44, 3) := by decide +kernel
theorem dX4_guessesNeeded_107 : decode cX4_guessesNeeded 107 = .ok (.iload 5, 2) := by decide +kernel
theorem dX4_guessesNeeded_109 : decode cX4_guessesNeeded 109 = .ok (.iaload, 1) := by decide +kernel
theorem dX4_guessesNeeded_110 : decode cX4_guessesNeeded 110 = .ok (.goto 5, 3) := by decide +kernel
theorem dX4_guessesNeeded_113 : decode cX4_guessesNeeded 113 = .ok (.iload 4, 2) := by decide +kernel
theorem dX4_guessesNeeded_115 : decode cX4_guessesNeeded 115 = .ok (.istore 4, 2) := by decide +kernel
theorem dX4_guessesNeeded_117 : decode cX4_guessesNeeded 117 = .ok (.iconst 0, 1) := by decide +kernel
theorem dX4_guessesNeeded_118 : decode cX4_guessesNeeded 118 = .ok (.istore 7, 2) := by decide +kernel
theorem dX4_guessesNeeded_120 : decode cX4_guessesNeeded 120 = .ok (.iload 7, 2) := by decide +kernel
theorem dX4_guessesNeeded_122 : decode cX4_guessesNeeded 122 = .ok (.bipush 10, 2) := by decide +kernel
theorem dX4_guessesNeeded_124 : decode cX4_guessesNeeded 124 = .ok (.aload_n 0, 1) := by decide +kernel
theorem dX4_guessesNeeded_125 : decode cX4_guessesNeeded 125 = .ok (.getfield 7, 3) := by decide +kernel
theorem dX4_guessesNeeded_128 : decode cX4_guessesNeeded 128 = .ok (.imul, 1) := by decide +kernel
theorem dX4_guessesNeeded_129 : decode cX4_guessesNeeded 129 = .ok (.if_icmp .ge 123, 3) := by decide +kernel
theorem dX4_guessesNeeded_132 : decode cX4_guessesNeeded 132 = .ok (.iload_n 2, 1) := by decide +kernel
theorem dX4_guessesNeeded_133 : decode cX4_guessesNeeded 133 = .ok (.istore 8, 2) := by decide +kernel
theorem dX4_guessesNeeded_135 : decode cX4_guessesNeeded 135 = .ok (.aload_n 0, 1) := by decide +kernel
theorem dX4_guessesNeeded_136 : decode cX4_guessesNeeded 136 = .ok (.getfield 38, 3) := by decide +kernel
theorem dX4_guessesNeeded_139 : decode cX4_guessesNeeded 139 = .ok (.iload 5, 2) := by decide +kernel
theorem dX4_guessesNeeded_141 : decode cX4_guessesNeeded 141 = .ok (.iaload, 1) := by decide +kernel
theorem dX4_guessesNeeded_142 : decode cX4_guessesNeeded 142 = .ok (.istore 9, 2) := by decide +kernel
theorem dX4_guessesNeeded_144 : decode cX4_guessesNeeded 144 = .ok (.iload 9, 2) := by decide +kernel
theorem dX4_guessesNeeded_146 : decode cX4_guessesNeeded 146 = .ok (.aload_n 0, 1) := by decide +kernel
theorem dX4_guessesNeeded_147 : decode cX4_guessesNeeded 147 = .ok (.getfield 38, 3) := by decide +kernel
theorem dX4_guessesNeeded_150 : decode cX4_guessesNeeded 150 = .ok (.iload 5, 2) := by decide +kernel
theorem dX4_guessesNeeded_152 : decode cX4_guessesNeeded 152 = .ok (.iaload, 1) := by decide +kernel
theorem dX4_guessesNeeded_153 : decode cX4_guessesNeeded 153 = .ok (.aload_n 0, 1) := by decide +kernel
theorem dX4_guessesNeeded_154 : decode cX4_guessesNeeded 154 = .ok (.getfield 41, 3) := by decide +kernel
theorem dX4_guessesNeeded_157 : decode cX4_guessesNeeded 157 = .ok (.iload 5, 2) := by decide +kernel
theorem dX4_guessesNeeded_159 : decode cX4_guessesNeeded 159 = .ok (.iaload, 1) := by decide +kernel
theorem dX4_guessesNeeded_160 : decode cX4_guessesNeeded 160 = .ok (.iadd, 1) := by decide +kernel
theorem dX4_guessesNeeded_161 : decode cX4_guessesNeeded 161 = .ok (.if_icmp .ge 43, 3) := by decide +kernel
theorem dX4_guessesNeeded_164 : decode cX4_guessesNeeded 164 = .ok (.aload_n 0, 1) := by decide +kernel
theorem dX4_guessesNeeded_165 : decode cX4_guessesNeeded 165 = .ok (.iload 6, 2) := by decide +kernel
theorem dX4_guessesNeeded_167 : decode cX4_guessesNeeded 167 = .ok (.aload_n 0, 1) := by decide +kernel
theorem dX4_guessesNeeded_168 : decode cX4_guessesNeeded 168 = .ok (.getfield 35, 3) := by decide +kernel
theorem dX4_guessesNeeded_171 : decode cX4_guessesNeeded 171 = .ok (.iload 9, 2) := by decide +kernel
theorem dX4_guessesNeeded_173 : decode cX4_guessesNeeded 173 = .ok (.iaload, 1) := by decide +kernel
theorem dX4_guessesNeeded_174 : decode cX4_guessesNeeded 174 = .ok (.invokevirtual 74, 3) := by decide +kernel
theorem dX4_guessesNeeded_177 : decode cX4_guessesNeeded 177 = .ok (.iload 7, 2) := by decide +kernel
theorem dX4_guessesNeeded_179 : decode cX4_guessesNeeded 179 = .ok (.if_icmp .ne 19, 3) := by decide +kernel
theorem dX4_guessesNeeded_182 : decode cX4_guessesNeeded 182 = .ok (.aload_n 0, 1) := by decide +kernel
theorem dX4_guessesNeeded_183 : decode cX4_guessesNeeded 183 = .ok (.getfield 35, 3) := by decide +kernel
theorem dX4_guessesNeeded_186 : decode cX4_guessesNeeded 186 = .ok (.iload_n 2, 1) := by decide +kernel
theorem dX4_guessesNeeded_187 : decode cX4_guessesNeeded 187 = .ok (.aload_n 0, 1) := by decide +kernel
theorem dX4_guessesNeeded_188 : decode cX4_guessesNeeded 188 = .ok (.getfield 35, 3) := by decide +kernel
theorem dX4_guessesNeeded_191 : decode cX4_guessesNeeded 191 = .ok (.iload 9, 2) := by decide +kernel
theorem dX4_guessesNeeded_193 : decode cX4_guessesNeeded 193 = .ok (.iaload, 1) := by decide +kernel
theorem dX4_guessesNeeded_194 : decode cX4_guessesNeeded 194 = .ok (.iastore, 1) := by decide +kernel
theorem dX4_guessesNeeded_195 : decode cX4_guessesNeeded 195 = .ok (.iinc 2 1, 3) := by decide +kernel
theorem dX4_guessesNeeded_198 : decode cX4_guessesNeeded 198 = .ok (.iinc 9 1, 3) := by decide +kernel
theorem dX4_guessesNeeded_201 : decode cX4_guessesNeeded 201 = .ok (.goto (-57), 3) := by decide +kernel
theorem dX4_guessesNeeded_204 : decode cX4_guessesNeeded 204 = .ok (.iload_n 2, 1) := by decide +kernel
theorem dX4_guessesNeeded_205 : decode cX4_guessesNeeded 205 = .ok (.iload 8, 2) := by decide +kernel
theorem dX4_guessesNeeded_207 : decode cX4_guessesNeeded 207 = .ok (.if_icmp .le 39, 3) := by decide +kernel
theorem dX4_guessesNeeded_210 : decode cX4_guessesNeeded 210 = .ok (.aload_n 0, 1) := by decide +kernel
theorem dX4_guessesNeeded_211 : decode cX4_guessesNeeded 211 = .ok (.getfield 38, 3) := by decide +kernel
theorem dX4_guessesNeeded_214 : decode cX4_guessesNeeded 214 = .ok (.iload_n 3, 1) := by decide +kernel
theorem dX4_guessesNeeded_215 : decode cX4_guessesNeeded 215 = .ok (.iload 8, 2) := by decide +kernel
theorem dX4_guessesNeeded_217 : decode cX4_guessesNeeded 217 = .ok (.iastore, 1) := by decide +kernel
theorem dX4_guessesNeeded_218 : decode cX4_guessesNeeded 218 = .ok (.aload_n 0, 1) := by decide +kernel
theorem dX4_guessesNeeded_219 : decode cX4_guessesNeeded 219 = .ok (.getfield 41, 3) := by decide +kernel
theorem dX4_guessesNeeded_222 : decode cX4_guessesNeeded 222 = .ok (.iload_n 3, 1) := by decide +kernel
theorem dX4_guessesNeeded_223 : decode cX4_guessesNeeded 223 = .ok (.iload_n 2, 1) := by decide +kernel
theorem dX4_guessesNeeded_224 : decode cX4_guessesNeeded 224 = .ok (.iload 8, 2) := by decide +kernel
theorem dX4_guessesNeeded_226 : decode cX4_guessesNeeded 226 = .ok (.isub, 1) := by decide +kernel
theorem dX4_guessesNeeded_227 : decode cX4_guessesNeeded 227 = .ok (.iastore, 1) := by decide +kernel
theorem dX4_guessesNeeded_228 : decode cX4_guessesNeeded 228 = .ok (.aload_n 0, 1) := by decide +kernel
theorem dX4_guessesNeeded_229 : decode cX4_guessesNeeded 229 = .ok (.getfield 44, 3) := by decide +kernel
theorem dX4_guessesNeeded_232 : decode cX4_guessesNeeded 232 = .ok (.iload_n 3, 1) := by decide +kernel
theorem dX4_guessesNeeded_233 : decode cX4_guessesNeeded 233 = .ok (.aload_n 0, 1) := by decide +kernel
theorem dX4_guessesNeeded_234 : decode cX4_guessesNeeded 234 = .ok (.getfield 44, 3) := by decide +kernel
theorem dX4_guessesNeeded_237 : decode cX4_guessesNeeded 237 = .ok (.iload 5, 2) := by decide +kernel
theorem dX4_guessesNeeded_239 : decode cX4_guessesNeeded 239 = .ok (.iaload, 1) := by decide +kernel
theorem dX4_guessesNeeded_240 : decode cX4_guessesNeeded 240 = .ok (.iconst 1, 1) := by decide +kernel
theorem dX4_guessesNeeded_241 : decode cX4_guessesNeeded 241 = .ok (.iadd, 1) := by decide +kernel
theorem dX4_guessesNeeded_242 : decode cX4_guessesNeeded 242 = .ok (.iastore, 1) := by decide +kernel
theorem dX4_guessesNeeded_243 : decode cX4_guessesNeeded 243 = .ok (.iinc 3 1, 3) := by decide +kernel
theorem dX4_guessesNeeded_246 : decode cX4_guessesNeeded 246 = .ok (.iinc 7 1, 3) := by decide +kernel
theorem dX4_guessesNeeded_249 : decode cX4_guessesNeeded 249 = .ok (.goto (-129), 3) := by decide +kernel
theorem dX4_guessesNeeded_252 : decode cX4_guessesNeeded 252 = .ok (.iinc 5 1, 3) := by decide +kernel
theorem dX4_guessesNeeded_255 : decode cX4_guessesNeeded 255 = .ok (.goto (-191), 3) := by decide +kernel
theorem dX4_guessesNeeded_258 : decode cX4_guessesNeeded 258 = .ok (.iload 4, 2) := by decide +kernel
theorem dX4_guessesNeeded_260 : decode cX4_guessesNeeded 260 = .ok (.ireturn, 1) := by decide +kernel
set_option maxRecDepth 20000 in
theorem ggX4_laysLies_X4_markOfRows : GoodIn wsX4_laysLies wsX4_markOfRows := goodIn_r _ [10, 11, 12, 13, 14, 15, 16, 17, 18, 19, 20, 21, 22, 23, 24, 25, 26, 27, 28, 29] (by decide +kernel) (by decide +kernel)
set_option maxRecDepth 20000 in
theorem gX4_laysLies_X4_markOfRows : GoodIn wsX4_laysLies (wsV RX4 74 RX4 yX4_markOfRows wsX4_markOfRows) := goodIn_app (goodIn_of _ (by decide +kernel)) ggX4_laysLies_X4_markOfRows
theorem dX4_laysLies_0 : decode cX4_laysLies 0 = .ok (.iconst 0, 1) := by decide +kernel
theorem dX4_laysLies_1 : decode cX4_laysLies 1 = .ok (.istore_n 1, 1) := by decide +kernel
theorem dX4_laysLies_2 : decode cX4_laysLies 2 = .ok (.iload_n 1, 1) := by decide +kernel
theorem dX4_laysLies_3 : decode cX4_laysLies 3 = .ok (.aload_n 0, 1) := by decide +kernel
theorem dX4_laysLies_4 : decode cX4_laysLies 4 = .ok (.getfield 16, 3) := by decide +kernel
theorem dX4_laysLies_7 : decode cX4_laysLies 7 = .ok (.if_icmp .ge 68, 3) := by decide +kernel
theorem dX4_laysLies_10 : decode cX4_laysLies 10 = .ok (.aload_n 0, 1) := by decide +kernel
theorem dX4_laysLies_11 : decode cX4_laysLies 11 = .ok (.getfield 47, 3) := by decide +kernel
theorem dX4_laysLies_14 : decode cX4_laysLies 14 = .ok (.iload_n 1, 1) := by decide +kernel
theorem dX4_laysLies_15 : decode cX4_laysLies 15 = .ok (.iconst 0, 1) := by decide +kernel
theorem dX4_laysLies_16 : decode cX4_laysLies 16 = .ok (.iastore, 1) := by decide +kernel
theorem dX4_laysLies_17 : decode cX4_laysLies 17 = .ok (.iconst 0, 1) := by decide +kernel
theorem dX4_laysLies_18 : decode cX4_laysLies 18 = .ok (.istore_n 2, 1) := by decide +kernel
theorem dX4_laysLies_19 : decode cX4_laysLies 19 = .ok (.iload_n 2, 1) := by decide +kernel
theorem dX4_laysLies_20 : decode cX4_laysLies 20 = .ok (.aload_n 0, 1) := by decide +kernel
theorem dX4_laysLies_21 : decode cX4_laysLies 21 = .ok (.getfield 64, 3) := by decide +kernel
theorem dX4_laysLies_24 : decode cX4_laysLies 24 = .ok (.if_icmp .ge 45, 3) := by decide +kernel
theorem dX4_laysLies_27 : decode cX4_laysLies 27 = .ok (.aload_n 0, 1) := by decide +kernel
theorem dX4_laysLies_28 : decode cX4_laysLies 28 = .ok (.getfield 47, 3) := by decide +kernel
theorem dX4_laysLies_31 : decode cX4_laysLies 31 = .ok (.iload_n 1, 1) := by decide +kernel
theorem dX4_laysLies_32 : decode cX4_laysLies 32 = .ok (.dup2, 1) := by decide +kernel
theorem dX4_laysLies_33 : decode cX4_laysLies 33 = .ok (.iaload, 1) := by decide +kernel
theorem dX4_laysLies_34 : decode cX4_laysLies 34 = .ok (.aload_n 0, 1) := by decide +kernel
theorem dX4_laysLies_35 : decode cX4_laysLies 35 = .ok (.aload_n 0, 1) := by decide +kernel
theorem dX4_laysLies_36 : decode cX4_laysLies 36 = .ok (.getfield 22, 3) := by decide +kernel
theorem dX4_laysLies_39 : decode cX4_laysLies 39 = .ok (.iload_n 2, 1) := by decide +kernel
theorem dX4_laysLies_40 : decode cX4_laysLies 40 = .ok (.iaload, 1) := by decide +kernel
theorem dX4_laysLies_41 : decode cX4_laysLies 41 = .ok (.iload_n 1, 1) := by decide +kernel
theorem dX4_laysLies_42 : decode cX4_laysLies 42 = .ok (.invokevirtual 74, 3) := by decide +kernel
theorem dX4_laysLies_45 : decode cX4_laysLies 45 = .ok (.aload_n 0, 1) := by decide +kernel
theorem dX4_laysLies_46 : decode cX4_laysLies 46 = .ok (.getfield 26, 3) := by decide +kernel
theorem dX4_laysLies_49 : decode cX4_laysLies 49 = .ok (.iload_n 2, 1) := by decide +kernel
theorem dX4_laysLies_50 : decode cX4_laysLies 50 = .ok (.iaload, 1) := by decide +kernel
theorem dX4_laysLies_51 : decode cX4_laysLies 51 = .ok (.if_icmp .eq 9, 3) := by decide +kernel
theorem dX4_laysLies_54 : decode cX4_laysLies 54 = .ok (.iconst 1, 1) := by decide +kernel
theorem dX4_laysLies_55 : decode cX4_laysLies 55 = .ok (.iload_n 2, 1) := by decide +kernel
theorem dX4_laysLies_56 : decode cX4_laysLies 56 = .ok (.ishl, 1) := by decide +kernel
theorem dX4_laysLies_57 : decode cX4_laysLies 57 = .ok (.goto 4, 3) := by decide +kernel
theorem dX4_laysLies_60 : decode cX4_laysLies 60 = .ok (.iconst 0, 1) := by decide +kernel
theorem dX4_laysLies_61 : decode cX4_laysLies 61 = .ok (.ior, 1) := by decide +kernel
theorem dX4_laysLies_62 : decode cX4_laysLies 62 = .ok (.iastore, 1) := by decide +kernel
theorem dX4_laysLies_63 : decode cX4_laysLies 63 = .ok (.iinc 2 1, 3) := by decide +kernel
theorem dX4_laysLies_66 : decode cX4_laysLies 66 = .ok (.goto (-47), 3) := by decide +kernel
theorem dX4_laysLies_69 : decode cX4_laysLies 69 = .ok (.iinc 1 1, 3) := by decide +kernel
theorem dX4_laysLies_72 : decode cX4_laysLies 72 = .ok (.goto (-70), 3) := by decide +kernel
theorem dX4_laysLies_75 : decode cX4_laysLies 75 = .ok (.return_, 1) := by decide +kernel
set_option maxRecDepth 20000 in
theorem ggX4_isProof_X4_bits : GoodIn wsX4_isProof wsX4_bits := goodIn_r _ [7] (by decide +kernel) (by decide +kernel)
set_option maxRecDepth 20000 in
theorem gX4_isProof_X4_bits : GoodIn wsX4_isProof (va_wsS RX4 124 yX4_bits wsX4_bits) := goodIn_app (goodIn_of _ (by decide +kernel)) ggX4_isProof_X4_bits
theorem dX4_isProof_0 : decode cX4_isProof 0 = .ok (.iconst 0, 1) := by decide +kernel
theorem dX4_isProof_1 : decode cX4_isProof 1 = .ok (.istore_n 2, 1) := by decide +kernel
theorem dX4_isProof_2 : decode cX4_isProof 2 = .ok (.iconst 0, 1) := by decide +kernel
theorem dX4_isProof_3 : decode cX4_isProof 3 = .ok (.istore_n 3, 1) := by decide +kernel
theorem dX4_isProof_4 : decode cX4_isProof 4 = .ok (.iload_n 3, 1) := by decide +kernel
theorem dX4_isProof_5 : decode cX4_isProof 5 = .ok (.aload_n 0, 1) := by decide +kernel
theorem dX4_isProof_6 : decode cX4_isProof 6 = .ok (.getfield 16, 3) := by decide +kernel
theorem dX4_isProof_9 : decode cX4_isProof 9 = .ok (.if_icmp .ge 35, 3) := by decide +kernel
theorem dX4_isProof_12 : decode cX4_isProof 12 = .ok (.iload_n 2, 1) := by decide +kernel
theorem dX4_isProof_13 : decode cX4_isProof 13 = .ok (.iload_n 1, 1) := by decide +kernel
theorem dX4_isProof_14 : decode cX4_isProof 14 = .ok (.aload_n 0, 1) := by decide +kernel
theorem dX4_isProof_15 : decode cX4_isProof 15 = .ok (.getfield 47, 3) := by decide +kernel
theorem dX4_isProof_18 : decode cX4_isProof 18 = .ok (.iload_n 3, 1) := by decide +kernel
theorem dX4_isProof_19 : decode cX4_isProof 19 = .ok (.iaload, 1) := by decide +kernel
theorem dX4_isProof_20 : decode cX4_isProof 20 = .ok (.iand, 1) := by decide +kernel
theorem dX4_isProof_21 : decode cX4_isProof 21 = .ok (.invokestatic 124, 3) := by decide +kernel
theorem dX4_isProof_24 : decode cX4_isProof 24 = .ok (.aload_n 0, 1) := by decide +kernel
theorem dX4_isProof_25 : decode cX4_isProof 25 = .ok (.getfield 61, 3) := by decide +kernel
theorem dX4_isProof_28 : decode cX4_isProof 28 = .ok (.if_icmp .gt 7, 3) := by decide +kernel
theorem dX4_isProof_31 : decode cX4_isProof 31 = .ok (.iconst 1, 1) := by decide +kernel
theorem dX4_isProof_32 : decode cX4_isProof 32 = .ok (.goto 4, 3) := by decide +kernel
theorem dX4_isProof_35 : decode cX4_isProof 35 = .ok (.iconst 0, 1) := by decide +kernel
theorem dX4_isProof_36 : decode cX4_isProof 36 = .ok (.iadd, 1) := by decide +kernel
theorem dX4_isProof_37 : decode cX4_isProof 37 = .ok (.istore_n 2, 1) := by decide +kernel
theorem dX4_isProof_38 : decode cX4_isProof 38 = .ok (.iinc 3 1, 3) := by decide +kernel
theorem dX4_isProof_41 : decode cX4_isProof 41 = .ok (.goto (-37), 3) := by decide +kernel
theorem dX4_isProof_44 : decode cX4_isProof 44 = .ok (.iload_n 2, 1) := by decide +kernel
theorem dX4_isProof_45 : decode cX4_isProof 45 = .ok (.iconst 1, 1) := by decide +kernel
theorem dX4_isProof_46 : decode cX4_isProof 46 = .ok (.if_icmp .ne 7, 3) := by decide +kernel
theorem dX4_isProof_49 : decode cX4_isProof 49 = .ok (.iconst 1, 1) := by decide +kernel
theorem dX4_isProof_50 : decode cX4_isProof 50 = .ok (.goto 4, 3) := by decide +kernel
theorem dX4_isProof_53 : decode cX4_isProof 53 = .ok (.iconst 0, 1) := by decide +kernel
theorem dX4_isProof_54 : decode cX4_isProof 54 = .ok (.ireturn, 1) := by decide +kernel
theorem dX4_bits_0 : decode cX4_bits 0 = .ok (.iconst 0, 1) := by decide +kernel
theorem dX4_bits_1 : decode cX4_bits 1 = .ok (.istore_n 1, 1) := by decide +kernel
theorem dX4_bits_2 : decode cX4_bits 2 = .ok (.iload_n 0, 1) := by decide +kernel
theorem dX4_bits_3 : decode cX4_bits 3 = .ok (.istore_n 2, 1) := by decide +kernel
theorem dX4_bits_4 : decode cX4_bits 4 = .ok (.iload_n 2, 1) := by decide +kernel
theorem dX4_bits_5 : decode cX4_bits 5 = .ok (.ifCond .le 16, 3) := by decide +kernel
theorem dX4_bits_8 : decode cX4_bits 8 = .ok (.iload_n 1, 1) := by decide +kernel
theorem dX4_bits_9 : decode cX4_bits 9 = .ok (.iload_n 2, 1) := by decide +kernel
theorem dX4_bits_10 : decode cX4_bits 10 = .ok (.iconst 2, 1) := by decide +kernel
theorem dX4_bits_11 : decode cX4_bits 11 = .ok (.irem, 1) := by decide +kernel
theorem dX4_bits_12 : decode cX4_bits 12 = .ok (.iadd, 1) := by decide +kernel
theorem dX4_bits_13 : decode cX4_bits 13 = .ok (.istore_n 1, 1) := by decide +kernel
theorem dX4_bits_14 : decode cX4_bits 14 = .ok (.iload_n 2, 1) := by decide +kernel
theorem dX4_bits_15 : decode cX4_bits 15 = .ok (.iconst 2, 1) := by decide +kernel
theorem dX4_bits_16 : decode cX4_bits 16 = .ok (.idiv, 1) := by decide +kernel
theorem dX4_bits_17 : decode cX4_bits 17 = .ok (.istore_n 2, 1) := by decide +kernel
theorem dX4_bits_18 : decode cX4_bits 18 = .ok (.goto (-14), 3) := by decide +kernel
theorem dX4_bits_21 : decode cX4_bits 21 = .ok (.iload_n 1, 1) := by decide +kernel
theorem dX4_bits_22 : decode cX4_bits 22 = .ok (.ireturn, 1) := by decide +kernel
set_option maxRecDepth 20000 in
theorem ggX4_isAhead_X4_bits : GoodIn wsX4_isAhead wsX4_bits := goodIn_r _ [4] (by decide +kernel) (by decide +kernel)
set_option maxRecDepth 20000 in
theorem gX4_isAhead_X4_bits : GoodIn wsX4_isAhead (va_wsS RX4 124 yX4_bits wsX4_bits) := goodIn_app (goodIn_of _ (by decide +kernel)) ggX4_isAhead_X4_bits
theorem dX4_isAhead_0 : decode cX4_isAhead 0 = .ok (.iload_n 0, 1) := by decide +kernel
theorem dX4_isAhead_1 : decode cX4_isAhead 1 = .ok (.iload_n 1, 1) := by decide +kernel
theorem dX4_isAhead_2 : decode cX4_isAhead 2 = .ok (.ixor, 1) := by decide +kernel
theorem dX4_isAhead_3 : decode cX4_isAhead 3 = .ok (.istore_n 2, 1) := by decide +kernel
theorem dX4_isAhead_4 : decode cX4_isAhead 4 = .ok (.iload_n 2, 1) := by decide +kernel
theorem dX4_isAhead_5 : decode cX4_isAhead 5 = .ok (.iload_n 2, 1) := by decide +kernel
theorem dX4_isAhead_6 : decode cX4_isAhead 6 = .ok (.ineg, 1) := by decide +kernel
theorem dX4_isAhead_7 : decode cX4_isAhead 7 = .ok (.iand, 1) := by decide +kernel
theorem dX4_isAhead_8 : decode cX4_isAhead 8 = .ok (.istore_n 3, 1) := by decide +kernel
theorem dX4_isAhead_9 : decode cX4_isAhead 9 = .ok (.iload_n 0, 1) := by decide +kernel
theorem dX4_isAhead_10 : decode cX4_isAhead 10 = .ok (.invokestatic 124, 3) := by decide +kernel
theorem dX4_isAhead_13 : decode cX4_isAhead 13 = .ok (.iload_n 1, 1) := by decide +kernel
theorem dX4_isAhead_14 : decode cX4_isAhead 14 = .ok (.invokestatic 124, 3) := by decide +kernel
theorem dX4_isAhead_17 : decode cX4_isAhead 17 = .ok (.if_icmp .lt 20, 3) := by decide +kernel
theorem dX4_isAhead_20 : decode cX4_isAhead 20 = .ok (.iload_n 0, 1) := by decide +kernel
theorem dX4_isAhead_21 : decode cX4_isAhead 21 = .ok (.invokestatic 124, 3) := by decide +kernel
theorem dX4_isAhead_24 : decode cX4_isAhead 24 = .ok (.iload_n 1, 1) := by decide +kernel
theorem dX4_isAhead_25 : decode cX4_isAhead 25 = .ok (.invokestatic 124, 3) := by decide +kernel
theorem dX4_isAhead_28 : decode cX4_isAhead 28 = .ok (.if_icmp .ne 13, 3) := by decide +kernel
theorem dX4_isAhead_31 : decode cX4_isAhead 31 = .ok (.iload_n 0, 1) := by decide +kernel
theorem dX4_isAhead_32 : decode cX4_isAhead 32 = .ok (.iload_n 3, 1) := by decide +kernel
theorem dX4_isAhead_33 : decode cX4_isAhead 33 = .ok (.iand, 1) := by decide +kernel
theorem dX4_isAhead_34 : decode cX4_isAhead 34 = .ok (.ifCond .eq 7, 3) := by decide +kernel
theorem dX4_isAhead_37 : decode cX4_isAhead 37 = .ok (.iconst 1, 1) := by decide +kernel
theorem dX4_isAhead_38 : decode cX4_isAhead 38 = .ok (.goto 4, 3) := by decide +kernel
theorem dX4_isAhead_41 : decode cX4_isAhead 41 = .ok (.iconst 0, 1) := by decide +kernel
theorem dX4_isAhead_42 : decode cX4_isAhead 42 = .ok (.ireturn, 1) := by decide +kernel
set_option maxRecDepth 20000 in
theorem ggX4_proof_X4_laysLies : GoodIn wsX4_proof wsX4_laysLies := goodIn_r _ [6, 7, 8, 1, 9, 10, 11, 12, 13, 5, 14, 15, 16, 17, 29, 30, 31, 32, 33, 34, 35, 36, 37, 38, 39, 40, 41, 42, 43, 44] (by decide +kernel) (by decide +kernel)
set_option maxRecDepth 20000 in
theorem gX4_proof_X4_laysLies : GoodIn wsX4_proof (wsV RX4 127 RX4 yX4_laysLies wsX4_laysLies) := goodIn_app (goodIn_of _ (by decide +kernel)) ggX4_proof_X4_laysLies
set_option maxRecDepth 20000 in
theorem ggX4_proof_X4_isAhead : GoodIn wsX4_proof wsX4_isAhead := goodIn_r _ [20, 21, 22, 5, 23] (by decide +kernel) (by decide +kernel)
set_option maxRecDepth 20000 in
theorem gX4_proof_X4_isAhead : GoodIn wsX4_proof (va_wsS RX4 130 yX4_isAhead wsX4_isAhead) := goodIn_app (goodIn_of _ (by decide +kernel)) ggX4_proof_X4_isAhead
set_option maxRecDepth 20000 in
theorem ggX4_proof_X4_isProof : GoodIn wsX4_proof wsX4_isProof := goodIn_r _ [27, 7, 8, 28, 21, 22, 5, 23, 29, 30, 31, 32, 33, 34, 35, 36, 37, 38, 39, 40, 41, 42, 43, 44] (by decide +kernel) (by decide +kernel)
set_option maxRecDepth 20000 in
theorem gX4_proof_X4_isProof : GoodIn wsX4_proof (wsV RX4 134 RX4 yX4_isProof wsX4_isProof) := goodIn_app (goodIn_of _ (by decide +kernel)) ggX4_proof_X4_isProof
theorem dX4_proof_0 : decode cX4_proof 0 = .ok (.aload_n 0, 1) := by decide +kernel
theorem dX4_proof_1 : decode cX4_proof 1 = .ok (.invokevirtual 127, 3) := by decide +kernel
theorem dX4_proof_4 : decode cX4_proof 4 = .ok (.iconst 1, 1) := by decide +kernel
theorem dX4_proof_5 : decode cX4_proof 5 = .ok (.aload_n 0, 1) := by decide +kernel
theorem dX4_proof_6 : decode cX4_proof 6 = .ok (.getfield 64, 3) := by decide +kernel
theorem dX4_proof_9 : decode cX4_proof 9 = .ok (.ishl, 1) := by decide +kernel
theorem dX4_proof_10 : decode cX4_proof 10 = .ok (.iconst 1, 1) := by decide +kernel
theorem dX4_proof_11 : decode cX4_proof 11 = .ok (.isub, 1) := by decide +kernel
theorem dX4_proof_12 : decode cX4_proof 12 = .ok (.istore_n 1, 1) := by decide +kernel
theorem dX4_proof_13 : decode cX4_proof 13 = .ok (.iconst 0, 1) := by decide +kernel
theorem dX4_proof_14 : decode cX4_proof 14 = .ok (.istore_n 2, 1) := by decide +kernel
theorem dX4_proof_15 : decode cX4_proof 15 = .ok (.iload_n 2, 1) := by decide +kernel
theorem dX4_proof_16 : decode cX4_proof 16 = .ok (.iconst 1, 1) := by decide +kernel
theorem dX4_proof_17 : decode cX4_proof 17 = .ok (.aload_n 0, 1) := by decide +kernel
theorem dX4_proof_18 : decode cX4_proof 18 = .ok (.getfield 64, 3) := by decide +kernel
theorem dX4_proof_21 : decode cX4_proof 21 = .ok (.ishl, 1) := by decide +kernel
theorem dX4_proof_22 : decode cX4_proof 22 = .ok (.if_icmp .ge 27, 3) := by decide +kernel
theorem dX4_proof_25 : decode cX4_proof 25 = .ok (.iload_n 2, 1) := by decide +kernel
theorem dX4_proof_26 : decode cX4_proof 26 = .ok (.iload_n 1, 1) := by decide +kernel
theorem dX4_proof_27 : decode cX4_proof 27 = .ok (.invokestatic 130, 3) := by decide +kernel
theorem dX4_proof_30 : decode cX4_proof 30 = .ok (.ifCond .eq 13, 3) := by decide +kernel
theorem dX4_proof_33 : decode cX4_proof 33 = .ok (.aload_n 0, 1) := by decide +kernel
theorem dX4_proof_34 : decode cX4_proof 34 = .ok (.iload_n 2, 1) := by decide +kernel
theorem dX4_proof_35 : decode cX4_proof 35 = .ok (.invokevirtual 134, 3) := by decide +kernel
theorem dX4_proof_38 : decode cX4_proof 38 = .ok (.ifCond .eq 5, 3) := by decide +kernel
theorem dX4_proof_41 : decode cX4_proof 41 = .ok (.iload_n 2, 1) := by decide +kernel
theorem dX4_proof_42 : decode cX4_proof 42 = .ok (.istore_n 1, 1) := by decide +kernel
theorem dX4_proof_43 : decode cX4_proof 43 = .ok (.iinc 2 1, 3) := by decide +kernel
theorem dX4_proof_46 : decode cX4_proof 46 = .ok (.goto (-31), 3) := by decide +kernel
theorem dX4_proof_49 : decode cX4_proof 49 = .ok (.iload_n 1, 1) := by decide +kernel
theorem dX4_proof_50 : decode cX4_proof 50 = .ok (.ireturn, 1) := by decide +kernel
set_option maxRecDepth 20000 in
theorem ggX4_proofSize_X4_manyLeft : GoodIn wsX4_proofSize wsX4_manyLeft := goodIn_r _ [6, 7, 8, 9, 10, 5, 11, 12, 13, 14, 15, 16, 17, 18, 19, 20, 21, 22, 23, 24, 25, 26, 46, 47, 48, 49, 50, 51, 52, 53, 54, 55, 56, 57, 58, 59, 60, 61] (by decide +kernel) (by decide +kernel)
set_option maxRecDepth 20000 in
theorem gX4_proofSize_X4_manyLeft : GoodIn wsX4_proofSize (wsV RX4 91 RX4 yX4_manyLeft wsX4_manyLeft) := goodIn_app (goodIn_of _ (by decide +kernel)) ggX4_proofSize_X4_manyLeft
set_option maxRecDepth 20000 in
theorem ggX4_proofSize_X4_proof : GoodIn wsX4_proofSize wsX4_proof := goodIn_r _ [30, 17, 31, 32, 33, 5, 34, 7, 35, 18, 19, 20, 21, 22, 23, 24, 25, 26, 36, 37, 38, 39, 40, 41, 42, 43, 44, 45, 12, 46, 47, 48, 49, 50, 51, 52, 53, 54, 55, 56, 57, 58, 59, 60, 61] (by decide +kernel) (by decide +kernel)
set_option maxRecDepth 20000 in
theorem gX4_proofSize_X4_proof : GoodIn wsX4_proofSize (wsV RX4 137 RX4 yX4_proof wsX4_proof) := goodIn_app (goodIn_of _ (by decide +kernel)) ggX4_proofSize_X4_proof
set_option maxRecDepth 20000 in
theorem ggX4_proofSize_X4_bits : GoodIn wsX4_proofSize wsX4_bits := goodIn_r _ [41] (by decide +kernel) (by decide +kernel)
set_option maxRecDepth 20000 in
theorem gX4_proofSize_X4_bits : GoodIn wsX4_proofSize (va_wsS RX4 124 yX4_bits wsX4_bits) := goodIn_app (goodIn_of _ (by decide +kernel)) ggX4_proofSize_X4_bits
theorem dX4_proofSize_0 : decode cX4_proofSize 0 = .ok (.aload_n 0, 1) := by decide +kernel
theorem dX4_proofSize_1 : decode cX4_proofSize 1 = .ok (.iconst 0, 1) := by decide +kernel
theorem dX4_proofSize_2 : decode cX4_proofSize 2 = .ok (.putfield 50, 3) := by decide +kernel
theorem dX4_proofSize_5 : decode cX4_proofSize 5 = .ok (.aload_n 0, 1) := by decide +kernel
theorem dX4_proofSize_6 : decode cX4_proofSize 6 = .ok (.invokevirtual 91, 3) := by decide +kernel
theorem dX4_proofSize_9 : decode cX4_proofSize 9 = .ok (.iconst 1, 1) := by decide +kernel
theorem dX4_proofSize_10 : decode cX4_proofSize 10 = .ok (.if_icmp .ne 13, 3) := by decide +kernel
theorem dX4_proofSize_13 : decode cX4_proofSize 13 = .ok (.aload_n 0, 1) := by decide +kernel
theorem dX4_proofSize_14 : decode cX4_proofSize 14 = .ok (.invokevirtual 137, 3) := by decide +kernel
theorem dX4_proofSize_17 : decode cX4_proofSize 17 = .ok (.invokestatic 124, 3) := by decide +kernel
theorem dX4_proofSize_20 : decode cX4_proofSize 20 = .ok (.goto 4, 3) := by decide +kernel
theorem dX4_proofSize_23 : decode cX4_proofSize 23 = .ok (.iconst (-1), 1) := by decide +kernel
theorem dX4_proofSize_24 : decode cX4_proofSize 24 = .ok (.ireturn, 1) := by decide +kernel
set_option maxRecDepth 20000 in
theorem ggX4_isInProof_X4_isEntry : GoodIn wsX4_isInProof wsX4_isEntry := goodIn_r _ [6, 7, 8, 9, 5, 10, 53, 54, 55, 56, 57, 58, 59, 60, 61, 62, 63, 64, 65, 66, 67, 68] (by decide +kernel) (by decide +kernel)
set_option maxRecDepth 20000 in
theorem gX4_isInProof_X4_isEntry : GoodIn wsX4_isInProof (wsV RX4 95 RX4 yX4_isEntry wsX4_isEntry) := goodIn_app (goodIn_of _ (by decide +kernel)) ggX4_isInProof_X4_isEntry
set_option maxRecDepth 20000 in
theorem ggX4_isInProof_X4_manyLeft : GoodIn wsX4_isInProof wsX4_manyLeft := goodIn_r _ [14, 15, 16, 17, 18, 5, 19, 20, 21, 22, 23, 24, 7, 25, 26, 27, 28, 29, 30, 31, 32, 33, 53, 54, 55, 56, 57, 58, 59, 60, 61, 62, 63, 64, 65, 66, 67, 68] (by decide +kernel) (by decide +kernel)
set_option maxRecDepth 20000 in
theorem gX4_isInProof_X4_manyLeft : GoodIn wsX4_isInProof (wsV RX4 91 RX4 yX4_manyLeft wsX4_manyLeft) := goodIn_app (goodIn_of _ (by decide +kernel)) ggX4_isInProof_X4_manyLeft
set_option maxRecDepth 20000 in
theorem ggX4_isInProof_X4_proof : GoodIn wsX4_isInProof wsX4_proof := goodIn_r _ [37, 7, 38, 39, 40, 5, 41, 15, 42, 25, 26, 27, 28, 29, 30, 31, 32, 33, 43, 44, 45, 46, 47, 48, 49, 50, 51, 52, 20, 53, 54, 55, 56, 57, 58, 59, 60, 61, 62, 63, 64, 65, 66, 67, 68] (by decide +kernel) (by decide +kernel)
set_option maxRecDepth 20000 in
theorem gX4_isInProof_X4_proof : GoodIn wsX4_isInProof (wsV RX4 137 RX4 yX4_proof wsX4_proof) := goodIn_app (goodIn_of _ (by decide +kernel)) ggX4_isInProof_X4_proof
theorem dX4_isInProof_0 : decode cX4_isInProof 0 = .ok (.aload_n 0, 1) := by decide +kernel
theorem dX4_isInProof_1 : decode cX4_isInProof 1 = .ok (.aload_n 0, 1) := by decide +kernel
theorem dX4_isInProof_2 : decode cX4_isInProof 2 = .ok (.iload_n 1, 1) := by decide +kernel
theorem dX4_isInProof_3 : decode cX4_isInProof 3 = .ok (.invokevirtual 95, 3) := by decide +kernel
theorem dX4_isInProof_6 : decode cX4_isInProof 6 = .ok (.ifCond .ne 7, 3) := by decide +kernel
theorem dX4_isInProof_9 : decode cX4_isInProof 9 = .ok (.iconst 1, 1) := by decide +kernel
theorem dX4_isInProof_10 : decode cX4_isInProof 10 = .ok (.goto 16, 3) := by decide +kernel
theorem dX4_isInProof_13 : decode cX4_isInProof 13 = .ok (.aload_n 0, 1) := by decide +kernel
theorem dX4_isInProof_14 : decode cX4_isInProof 14 = .ok (.invokevirtual 91, 3) := by decide +kernel
theorem dX4_isInProof_17 : decode cX4_isInProof 17 = .ok (.iconst 1, 1) := by decide +kernel
theorem dX4_isInProof_18 : decode cX4_isInProof 18 = .ok (.if_icmp .ne 7, 3) := by decide +kernel
theorem dX4_isInProof_21 : decode cX4_isInProof 21 = .ok (.iconst 0, 1) := by decide +kernel
theorem dX4_isInProof_22 : decode cX4_isInProof 22 = .ok (.goto 4, 3) := by decide +kernel
theorem dX4_isInProof_25 : decode cX4_isInProof 25 = .ok (.iconst 2, 1) := by decide +kernel
theorem dX4_isInProof_26 : decode cX4_isInProof 26 = .ok (.putfield 50, 3) := by decide +kernel
theorem dX4_isInProof_29 : decode cX4_isInProof 29 = .ok (.aload_n 0, 1) := by decide +kernel
theorem dX4_isInProof_30 : decode cX4_isInProof 30 = .ok (.getfield 50, 3) := by decide +kernel
theorem dX4_isInProof_33 : decode cX4_isInProof 33 = .ok (.ifCond .ne 19, 3) := by decide +kernel
theorem dX4_isInProof_36 : decode cX4_isInProof 36 = .ok (.aload_n 0, 1) := by decide +kernel
theorem dX4_isInProof_37 : decode cX4_isInProof 37 = .ok (.invokevirtual 137, 3) := by decide +kernel
theorem dX4_isInProof_40 : decode cX4_isInProof 40 = .ok (.iload_n 1, 1) := by decide +kernel
theorem dX4_isInProof_41 : decode cX4_isInProof 41 = .ok (.ishr, 1) := by decide +kernel
theorem dX4_isInProof_42 : decode cX4_isInProof 42 = .ok (.iconst 1, 1) := by decide +kernel
theorem dX4_isInProof_43 : decode cX4_isInProof 43 = .ok (.iand, 1) := by decide +kernel
theorem dX4_isInProof_44 : decode cX4_isInProof 44 = .ok (.iconst 1, 1) := by decide +kernel
theorem dX4_isInProof_45 : decode cX4_isInProof 45 = .ok (.if_icmp .ne 7, 3) := by decide +kernel
theorem dX4_isInProof_48 : decode cX4_isInProof 48 = .ok (.iconst 1, 1) := by decide +kernel
theorem dX4_isInProof_49 : decode cX4_isInProof 49 = .ok (.goto 4, 3) := by decide +kernel
theorem dX4_isInProof_52 : decode cX4_isInProof 52 = .ok (.iconst 0, 1) := by decide +kernel
theorem dX4_isInProof_53 : decode cX4_isInProof 53 = .ok (.ireturn, 1) := by decide +kernel
end
section
theorem dJ6_bitCount_0f7a4_0 : decode cJ6_bitCount_0f7a4 0 = .ok (.iload_n 0, 1) := by decide +kernel
theorem dJ6_bitCount_0f7a4_1 : decode cJ6_bitCount_0f7a4 1 = .ok (.iload_n 0, 1) := by decide +kernel
theorem dJ6_bitCount_0f7a4_2 : decode cJ6_bitCount_0f7a4 2 = .ok (.iconst 1, 1) := by decide +kernel
theorem dJ6_bitCount_0f7a4_3 : decode cJ6_bitCount_0f7a4 3 = .ok (.iushr, 1) := by decide +kernel
theorem dJ6_bitCount_0f7a4_4 : decode cJ6_bitCount_0f7a4 4 = .ok (.ldc_w 265, 3) := by decide +kernel
theorem dJ6_bitCount_0f7a4_7 : decode cJ6_bitCount_0f7a4 7 = .ok (.iand, 1) := by decide +kernel
theorem dJ6_bitCount_0f7a4_8 : decode cJ6_bitCount_0f7a4 8 = .ok (.isub, 1) := by decide +kernel
theorem dJ6_bitCount_0f7a4_9 : decode cJ6_bitCount_0f7a4 9 = .ok (.istore_n 0, 1) := by decide +kernel
theorem dJ6_bitCount_0f7a4_10 : decode cJ6_bitCount_0f7a4 10 = .ok (.iload_n 0, 1) := by decide +kernel
theorem dJ6_bitCount_0f7a4_11 : decode cJ6_bitCount_0f7a4 11 = .ok (.ldc_w 266, 3) := by decide +kernel
theorem dJ6_bitCount_0f7a4_14 : decode cJ6_bitCount_0f7a4 14 = .ok (.iand, 1) := by decide +kernel
theorem dJ6_bitCount_0f7a4_15 : decode cJ6_bitCount_0f7a4 15 = .ok (.iload_n 0, 1) := by decide +kernel
theorem dJ6_bitCount_0f7a4_16 : decode cJ6_bitCount_0f7a4 16 = .ok (.iconst 2, 1) := by decide +kernel
theorem dJ6_bitCount_0f7a4_17 : decode cJ6_bitCount_0f7a4 17 = .ok (.iushr, 1) := by decide +kernel
theorem dJ6_bitCount_0f7a4_18 : decode cJ6_bitCount_0f7a4 18 = .ok (.ldc_w 266, 3) := by decide +kernel
theorem dJ6_bitCount_0f7a4_21 : decode cJ6_bitCount_0f7a4 21 = .ok (.iand, 1) := by decide +kernel
theorem dJ6_bitCount_0f7a4_22 : decode cJ6_bitCount_0f7a4 22 = .ok (.iadd, 1) := by decide +kernel
theorem dJ6_bitCount_0f7a4_23 : decode cJ6_bitCount_0f7a4 23 = .ok (.istore_n 0, 1) := by decide +kernel
theorem dJ6_bitCount_0f7a4_24 : decode cJ6_bitCount_0f7a4 24 = .ok (.iload_n 0, 1) := by decide +kernel
theorem dJ6_bitCount_0f7a4_25 : decode cJ6_bitCount_0f7a4 25 = .ok (.iload_n 0, 1) := by decide +kernel
theorem dJ6_bitCount_0f7a4_26 : decode cJ6_bitCount_0f7a4 26 = .ok (.iconst 4, 1) := by decide +kernel
theorem dJ6_bitCount_0f7a4_27 : decode cJ6_bitCount_0f7a4 27 = .ok (.iushr, 1) := by decide +kernel
theorem dJ6_bitCount_0f7a4_28 : decode cJ6_bitCount_0f7a4 28 = .ok (.iadd, 1) := by decide +kernel
theorem dJ6_bitCount_0f7a4_29 : decode cJ6_bitCount_0f7a4 29 = .ok (.ldc_w 267, 3) := by decide +kernel
theorem dJ6_bitCount_0f7a4_32 : decode cJ6_bitCount_0f7a4 32 = .ok (.iand, 1) := by decide +kernel
theorem dJ6_bitCount_0f7a4_33 : decode cJ6_bitCount_0f7a4 33 = .ok (.istore_n 0, 1) := by decide +kernel
theorem dJ6_bitCount_0f7a4_34 : decode cJ6_bitCount_0f7a4 34 = .ok (.iload_n 0, 1) := by decide +kernel
theorem dJ6_bitCount_0f7a4_35 : decode cJ6_bitCount_0f7a4 35 = .ok (.iload_n 0, 1) := by decide +kernel
theorem dJ6_bitCount_0f7a4_36 : decode cJ6_bitCount_0f7a4 36 = .ok (.bipush 8, 2) := by decide +kernel
theorem dJ6_bitCount_0f7a4_38 : decode cJ6_bitCount_0f7a4 38 = .ok (.iushr, 1) := by decide +kernel
theorem dJ6_bitCount_0f7a4_39 : decode cJ6_bitCount_0f7a4 39 = .ok (.iadd, 1) := by decide +kernel
theorem dJ6_bitCount_0f7a4_40 : decode cJ6_bitCount_0f7a4 40 = .ok (.istore_n 0, 1) := by decide +kernel
theorem dJ6_bitCount_0f7a4_41 : decode cJ6_bitCount_0f7a4 41 = .ok (.iload_n 0, 1) := by decide +kernel
theorem dJ6_bitCount_0f7a4_42 : decode cJ6_bitCount_0f7a4 42 = .ok (.iload_n 0, 1) := by decide +kernel
theorem dJ6_bitCount_0f7a4_43 : decode cJ6_bitCount_0f7a4 43 = .ok (.bipush 16, 2) := by decide +kernel
theorem dJ6_bitCount_0f7a4_45 : decode cJ6_bitCount_0f7a4 45 = .ok (.iushr, 1) := by decide +kernel
theorem dJ6_bitCount_0f7a4_46 : decode cJ6_bitCount_0f7a4 46 = .ok (.iadd, 1) := by decide +kernel
theorem dJ6_bitCount_0f7a4_47 : decode cJ6_bitCount_0f7a4 47 = .ok (.istore_n 0, 1) := by decide +kernel
theorem dJ6_bitCount_0f7a4_48 : decode cJ6_bitCount_0f7a4 48 = .ok (.iload_n 0, 1) := by decide +kernel
theorem dJ6_bitCount_0f7a4_49 : decode cJ6_bitCount_0f7a4 49 = .ok (.bipush 63, 2) := by decide +kernel
theorem dJ6_bitCount_0f7a4_51 : decode cJ6_bitCount_0f7a4 51 = .ok (.iand, 1) := by decide +kernel
theorem dJ6_bitCount_0f7a4_52 : decode cJ6_bitCount_0f7a4 52 = .ok (.ireturn, 1) := by decide +kernel
theorem dJ13_bitCount_95d88_0 : decode cJ13_bitCount_95d88 0 = .ok (.lload_n 0, 1) := by decide +kernel
theorem dJ13_bitCount_95d88_1 : decode cJ13_bitCount_95d88 1 = .ok (.lload_n 0, 1) := by decide +kernel
theorem dJ13_bitCount_95d88_2 : decode cJ13_bitCount_95d88 2 = .ok (.iconst 1, 1) := by decide +kernel
theorem dJ13_bitCount_95d88_3 : decode cJ13_bitCount_95d88 3 = .ok (.lushr, 1) := by decide +kernel
theorem dJ13_bitCount_95d88_4 : decode cJ13_bitCount_95d88 4 = .ok (.ldc2_w 314, 3) := by decide +kernel
theorem dJ13_bitCount_95d88_7 : decode cJ13_bitCount_95d88 7 = .ok (.land, 1) := by decide +kernel
theorem dJ13_bitCount_95d88_8 : decode cJ13_bitCount_95d88 8 = .ok (.lsub, 1) := by decide +kernel
theorem dJ13_bitCount_95d88_9 : decode cJ13_bitCount_95d88 9 = .ok (.lstore_n 0, 1) := by decide +kernel
theorem dJ13_bitCount_95d88_10 : decode cJ13_bitCount_95d88 10 = .ok (.lload_n 0, 1) := by decide +kernel
theorem dJ13_bitCount_95d88_11 : decode cJ13_bitCount_95d88 11 = .ok (.ldc2_w 316, 3) := by decide +kernel
theorem dJ13_bitCount_95d88_14 : decode cJ13_bitCount_95d88 14 = .ok (.land, 1) := by decide +kernel
theorem dJ13_bitCount_95d88_15 : decode cJ13_bitCount_95d88 15 = .ok (.lload_n 0, 1) := by decide +kernel
theorem dJ13_bitCount_95d88_16 : decode cJ13_bitCount_95d88 16 = .ok (.iconst 2, 1) := by decide +kernel
theorem dJ13_bitCount_95d88_17 : decode cJ13_bitCount_95d88 17 = .ok (.lushr, 1) := by decide +kernel
theorem dJ13_bitCount_95d88_18 : decode cJ13_bitCount_95d88 18 = .ok (.ldc2_w 316, 3) := by decide +kernel
theorem dJ13_bitCount_95d88_21 : decode cJ13_bitCount_95d88 21 = .ok (.land, 1) := by decide +kernel
theorem dJ13_bitCount_95d88_22 : decode cJ13_bitCount_95d88 22 = .ok (.ladd, 1) := by decide +kernel
theorem dJ13_bitCount_95d88_23 : decode cJ13_bitCount_95d88 23 = .ok (.lstore_n 0, 1) := by decide +kernel
theorem dJ13_bitCount_95d88_24 : decode cJ13_bitCount_95d88 24 = .ok (.lload_n 0, 1) := by decide +kernel
theorem dJ13_bitCount_95d88_25 : decode cJ13_bitCount_95d88 25 = .ok (.lload_n 0, 1) := by decide +kernel
theorem dJ13_bitCount_95d88_26 : decode cJ13_bitCount_95d88 26 = .ok (.iconst 4, 1) := by decide +kernel
theorem dJ13_bitCount_95d88_27 : decode cJ13_bitCount_95d88 27 = .ok (.lushr, 1) := by decide +kernel
theorem dJ13_bitCount_95d88_28 : decode cJ13_bitCount_95d88 28 = .ok (.ladd, 1) := by decide +kernel
theorem dJ13_bitCount_95d88_29 : decode cJ13_bitCount_95d88 29 = .ok (.ldc2_w 318, 3) := by decide +kernel
theorem dJ13_bitCount_95d88_32 : decode cJ13_bitCount_95d88 32 = .ok (.land, 1) := by decide +kernel
theorem dJ13_bitCount_95d88_33 : decode cJ13_bitCount_95d88 33 = .ok (.lstore_n 0, 1) := by decide +kernel
theorem dJ13_bitCount_95d88_34 : decode cJ13_bitCount_95d88 34 = .ok (.lload_n 0, 1) := by decide +kernel
theorem dJ13_bitCount_95d88_35 : decode cJ13_bitCount_95d88 35 = .ok (.lload_n 0, 1) := by decide +kernel
theorem dJ13_bitCount_95d88_36 : decode cJ13_bitCount_95d88 36 = .ok (.bipush 8, 2) := by decide +kernel
theorem dJ13_bitCount_95d88_38 : decode cJ13_bitCount_95d88 38 = .ok (.lushr, 1) := by decide +kernel
theorem dJ13_bitCount_95d88_39 : decode cJ13_bitCount_95d88 39 = .ok (.ladd, 1) := by decide +kernel
theorem dJ13_bitCount_95d88_40 : decode cJ13_bitCount_95d88 40 = .ok (.lstore_n 0, 1) := by decide +kernel
theorem dJ13_bitCount_95d88_41 : decode cJ13_bitCount_95d88 41 = .ok (.lload_n 0, 1) := by decide +kernel
theorem dJ13_bitCount_95d88_42 : decode cJ13_bitCount_95d88 42 = .ok (.lload_n 0, 1) := by decide +kernel
theorem dJ13_bitCount_95d88_43 : decode cJ13_bitCount_95d88 43 = .ok (.bipush 16, 2) := by decide +kernel
theorem dJ13_bitCount_95d88_45 : decode cJ13_bitCount_95d88 45 = .ok (.lushr, 1) := by decide +kernel
theorem dJ13_bitCount_95d88_46 : decode cJ13_bitCount_95d88 46 = .ok (.ladd, 1) := by decide +kernel
theorem dJ13_bitCount_95d88_47 : decode cJ13_bitCount_95d88 47 = .ok (.lstore_n 0, 1) := by decide +kernel
theorem dJ13_bitCount_95d88_48 : decode cJ13_bitCount_95d88 48 = .ok (.lload_n 0, 1) := by decide +kernel
theorem dJ13_bitCount_95d88_49 : decode cJ13_bitCount_95d88 49 = .ok (.lload_n 0, 1) := by decide +kernel
theorem dJ13_bitCount_95d88_50 : decode cJ13_bitCount_95d88 50 = .ok (.bipush 32, 2) := by decide +kernel
theorem dJ13_bitCount_95d88_52 : decode cJ13_bitCount_95d88 52 = .ok (.lushr, 1) := by decide +kernel
theorem dJ13_bitCount_95d88_53 : decode cJ13_bitCount_95d88 53 = .ok (.ladd, 1) := by decide +kernel
theorem dJ13_bitCount_95d88_54 : decode cJ13_bitCount_95d88 54 = .ok (.lstore_n 0, 1) := by decide +kernel
theorem dJ13_bitCount_95d88_55 : decode cJ13_bitCount_95d88 55 = .ok (.lload_n 0, 1) := by decide +kernel
theorem dJ13_bitCount_95d88_56 : decode cJ13_bitCount_95d88 56 = .ok (.l2i, 1) := by decide +kernel
theorem dJ13_bitCount_95d88_57 : decode cJ13_bitCount_95d88 57 = .ok (.bipush 127, 2) := by decide +kernel
theorem dJ13_bitCount_95d88_59 : decode cJ13_bitCount_95d88 59 = .ok (.iand, 1) := by decide +kernel
theorem dJ13_bitCount_95d88_60 : decode cJ13_bitCount_95d88 60 = .ok (.ireturn, 1) := by decide +kernel
theorem dJ9_max_7cf53_0 : decode cJ9_max_7cf53 0 = .ok (.iload_n 0, 1) := by decide +kernel
theorem dJ9_max_7cf53_1 : decode cJ9_max_7cf53 1 = .ok (.iload_n 1, 1) := by decide +kernel
theorem dJ9_max_7cf53_2 : decode cJ9_max_7cf53 2 = .ok (.if_icmp .lt 7, 3) := by decide +kernel
theorem dJ9_max_7cf53_5 : decode cJ9_max_7cf53 5 = .ok (.iload_n 0, 1) := by decide +kernel
theorem dJ9_max_7cf53_6 : decode cJ9_max_7cf53 6 = .ok (.goto 4, 3) := by decide +kernel
theorem dJ9_max_7cf53_9 : decode cJ9_max_7cf53 9 = .ok (.iload_n 1, 1) := by decide +kernel
theorem dJ9_max_7cf53_10 : decode cJ9_max_7cf53 10 = .ok (.ireturn, 1) := by decide +kernel
theorem dJ7_fill_53178_0 : decode cJ7_fill_53178 0 = .ok (.iconst 0, 1) := by decide +kernel
theorem dJ7_fill_53178_1 : decode cJ7_fill_53178 1 = .ok (.istore_n 2, 1) := by decide +kernel
theorem dJ7_fill_53178_2 : decode cJ7_fill_53178 2 = .ok (.aload_n 0, 1) := by decide +kernel
theorem dJ7_fill_53178_3 : decode cJ7_fill_53178 3 = .ok (.arraylength, 1) := by decide +kernel
theorem dJ7_fill_53178_4 : decode cJ7_fill_53178 4 = .ok (.istore_n 3, 1) := by decide +kernel
theorem dJ7_fill_53178_5 : decode cJ7_fill_53178 5 = .ok (.iload_n 2, 1) := by decide +kernel
theorem dJ7_fill_53178_6 : decode cJ7_fill_53178 6 = .ok (.iload_n 3, 1) := by decide +kernel
theorem dJ7_fill_53178_7 : decode cJ7_fill_53178 7 = .ok (.if_icmp .ge 13, 3) := by decide +kernel
theorem dJ7_fill_53178_10 : decode cJ7_fill_53178 10 = .ok (.aload_n 0, 1) := by decide +kernel
theorem dJ7_fill_53178_11 : decode cJ7_fill_53178 11 = .ok (.iload_n 2, 1) := by decide +kernel
theorem dJ7_fill_53178_12 : decode cJ7_fill_53178 12 = .ok (.iload_n 1, 1) := by decide +kernel
theorem dJ7_fill_53178_13 : decode cJ7_fill_53178 13 = .ok (.iastore, 1) := by decide +kernel
theorem dJ7_fill_53178_14 : decode cJ7_fill_53178 14 = .ok (.iinc 2 1, 3) := by decide +kernel
theorem dJ7_fill_53178_17 : decode cJ7_fill_53178 17 = .ok (.goto (-12), 3) := by decide +kernel
theorem dJ7_fill_53178_20 : decode cJ7_fill_53178 20 = .ok (.return_, 1) := by decide +kernel
end
section
/-- the texts of the throws, by their places -/
def gStr : List (Nat × String) := [(48, "no such game"), (66, "no such row or place"), (73, "no such row"), (78, "lies out of range"), (89, "the hidden row would not be left"), (104, "the mark is not possible"), (113, "the row is not left"), (119, "no row is hidden, or all entries are told"), (131, "all entries are told, or the hidden row would not be left"), (139, "there is no entry"), (154, "no such entry"), (162, "not so many rows are left"), (169, "the guess does not make so many parts"), (181, "no such rule"), (183, "no row is left"), (189, "no row is left, or too many are"), (238, "not just one row is left")]
def g_max (x y : Int32) : Int32 := if x < y then y else x
def g_ush (x y : Int32) : Int32 := (x.toUInt32 >>> (y.toUInt32 &&& Int32.toUInt32 31)).toInt32
def g_lsl (x : Int64) (y : Int32) : Int64 := x <<< (y.toInt64 &&& 63)
def g_lsr (x : Int64) (y : Int32) : Int64 := x >>> (y.toInt64 &&& 63)
def g_lush (x : Int64) (y : Int32) : Int64 := (x.toUInt64 >>> (y.toInt64.toUInt64 &&& Int64.toUInt64 63)).toInt64
/-! MY JUDGEMENT: gV: from the frame at pc, with the locals lvs, the stack st and the world ws held by any heap, the machine comes to Q -/
def gX (A : Nat → Prop) (U : State) (H : Heap) : Prop :=
  vx_Zq Bundle.tN "UNASSIGNED_STACK" Bundle.steD A U H ∧ vx_Zq Bundle.tN "SUPPRESSED_SENTINEL" Bundle.listD A U H ∧
  (va_Nw (.castable "java/lang/IllegalArgumentException" "java/lang/IllegalArgumentException") U ∧ va_Nw (.castable "java/lang/IndexOutOfBoundsException" "java/lang/IndexOutOfBoundsException") U ∧ va_Nw (.castable "java/lang/IllegalStateException" "java/lang/IllegalStateException") U ∧ va_Nw (.declares (Bundle.initS "java/lang/RuntimeException")) U ∧ va_Nw (.declares (Bundle.initS "java/lang/Exception")) U ∧ va_Nw (.declares (Bundle.initS Bundle.tN)) U) ∧
  (va_Nc "java/lang/IllegalArgumentException" "java/lang/IndexOutOfBoundsException" U ∧ va_Nc "java/lang/IllegalStateException" "java/lang/IndexOutOfBoundsException" U ∧ va_Nc "java/lang/IllegalStateException" "java/lang/IllegalArgumentException" U) ∧
  ∀ q ∈ gStr, ∃ a : Nat, vk_R RX3 q.1 q.2 a U
theorem gX.narrow {A B : Nat → Prop} {U : State} {H : Heap} (h : gX A U H) (hAB : ∀ q, B q → A q) : gX B U H := ⟨h.1.narrow hAB, h.2.1.narrow hAB, h.2.2⟩
theorem gX.kept {A : Nat → Prop} {U : State} {H H1 : Heap} (h : gX A U H) (hq : ∀ a : Nat, a < H.size → ¬ A a → H1[a]? = H[a]?) : gX A U H1 := ⟨h.1.kept hq, h.2.1.kept hq, h.2.2⟩
theorem gX.warm {A : Nat → Prop} {s U : State} {H : Heap} (hW : s.WarmedH U.vm) (h : gX A s H) : gX A U H :=
  ⟨vx_Zq.moved hW.alike h.1, vx_Zq.moved hW.alike h.2.1, ⟨va_Nw.warmC hW h.2.2.1.1, va_Nw.warmC hW h.2.2.1.2.1, va_Nw.warmC hW h.2.2.1.2.2.1, va_Nw.warmD hW h.2.2.1.2.2.2.1, va_Nw.warmD hW h.2.2.1.2.2.2.2.1, va_Nw.warmD hW h.2.2.1.2.2.2.2.2⟩, ⟨va_Nc.moved hW.alike h.2.2.2.1.1, va_Nc.moved hW.alike h.2.2.2.1.2.1, va_Nc.moved hW.alike h.2.2.2.1.2.2⟩, fun q hq => (h.2.2.2.2 q hq).imp fun a ha => vk_R.warm hW ha⟩
theorem gX.same {A : Nat → Prop} {s U : State} {H : Heap} (hv : s.vm = U.vm) (h : gX A s H) : gX A U H :=
  ⟨vx_Zq.moved (hv ▸ Vm.Alike.refl s.vm) h.1, vx_Zq.moved (hv ▸ Vm.Alike.refl s.vm) h.2.1, ⟨va_Nw.same rfl hv h.2.2.1.1, va_Nw.same rfl hv h.2.2.1.2.1, va_Nw.same rfl hv h.2.2.1.2.2.1, va_Nw.same rfl hv h.2.2.1.2.2.2.1, va_Nw.same rfl hv h.2.2.1.2.2.2.2.1, va_Nw.same rfl hv h.2.2.1.2.2.2.2.2⟩, ⟨va_Nc.moved (hv ▸ Vm.Alike.refl s.vm) h.2.2.2.1.1, va_Nc.moved (hv ▸ Vm.Alike.refl s.vm) h.2.2.2.1.2.1, va_Nc.moved (hv ▸ Vm.Alike.refl s.vm) h.2.2.2.1.2.2⟩, fun q hq => (h.2.2.2.2 q hq).imp fun a ha => vk_R.same hv.symm ha⟩
def gPre (D : va_G) (tys : List (ClassId × FieldType)) (w0 : va_W) (av : List Value) (sz : Nat) : Array Value → State → Prop := va_Pc av (fun U => U.heap.size = sz ∧ va_P D vwCl w0 U.heap ∧ va_K D vwCl tys U ∧ va_D (fun _ => True) w0 ∧ gX (va_A w0 sz) U U.heap)
def gB (D : va_G) (tys : List (ClassId × FieldType)) (w0 : va_W) (sz : Nat) (w : va_W) (t : State) : Prop := va_P D vwCl w t.heap ∧ va_K D vwCl tys t ∧ va_D (va_A w0 sz) w
def gQi (post : Int32 → va_W → Prop) (D : va_G) (tys : List (ClassId × FieldType)) (w0 : va_W) (sz : Nat) : Array Value → State → Outcome → State → Prop := va_Qi post (gB D tys w0 sz) (va_A w0 sz)
def gQl (post : Int64 → va_W → Prop) (D : va_G) (tys : List (ClassId × FieldType)) (w0 : va_W) (sz : Nat) : Array Value → State → Outcome → State → Prop := va_Ql post (gB D tys w0 sz) (va_A w0 sz)
def gQv (post : va_W → Prop) (D : va_G) (tys : List (ClassId × FieldType)) (w0 : va_W) (sz : Nat) : Array Value → State → Outcome → State → Prop := va_Qv post (gB D tys w0 sz) (va_A w0 sz)
def gXx (px : String → va_W → Prop) (D : va_G) (tys : List (ClassId × FieldType)) (w0 : va_W) (sz : Nat) : String → State → State → Prop := vx_X (fun _ : va_W => True) (fun E u t => px E u ∧ gB D tys w0 sz u t) (va_A w0 sz)
def gM (l : Launch) (y : MethodName) (ws : List Cond) (rm : Room) (D : va_G) (tys : List (ClassId × FieldType)) (w0 : va_W) (av : List Value) (mc ms : Nat) (Qf : Nat → Array Value → State → Outcome → State → Prop) (px : String → va_W → Prop) : Prop := ∀ sz : Nat, vx_Met l y ws rm (gPre D tys w0 av sz) (Qf sz) (gXx px D tys w0 sz) mc ms (va_A w0 sz)
abbrev gMi (l : Launch) (y : MethodName) (ws : List Cond) (rm : Room) (D : va_G) (tys : List (ClassId × FieldType)) (w0 : va_W) (av : List Value) (mc ms : Nat) (post : Int32 → va_W → Prop) (px : String → va_W → Prop) : Prop := gM l y ws rm D tys w0 av mc ms (gQi post D tys w0) px
abbrev gMl (l : Launch) (y : MethodName) (ws : List Cond) (rm : Room) (D : va_G) (tys : List (ClassId × FieldType)) (w0 : va_W) (av : List Value) (mc ms : Nat) (post : Int64 → va_W → Prop) (px : String → va_W → Prop) : Prop := gM l y ws rm D tys w0 av mc ms (gQl post D tys w0) px
abbrev gMv (l : Launch) (y : MethodName) (ws : List Cond) (rm : Room) (D : va_G) (tys : List (ClassId × FieldType)) (w0 : va_W) (av : List Value) (mc ms : Nat) (post : va_W → Prop) (px : String → va_W → Prop) : Prop := gM l y ws rm D tys w0 av mc ms (gQv post D tys w0) px
/-- a method's fixed facts -/
def gC (p : Program) (l : Launch) (s : State) (m : MethodId) (args : Array Value) (meth : Method) (c : Code) (A : Nat → Prop) (D : va_G) (tys : List (ClassId × FieldType)) (nL : Nat) (own : String) (cc : ByteArray) (Ts : List Cond) : Prop :=
  p.tables.exec = Jvm.exec ∧ c.code = cc ∧ c.maxLocals = nL ∧ s.vm.findClass own = some m.cls ∧ (∀ w ∈ Ts, w.before args s = true) ∧ va_K D vwCl tys s ∧ (∀ q, s.heap.size ≤ q → A q) ∧ meth.locks = false ∧ gX A s s.heap ∧ l.stackTraces = false
def gV (p : Program) (l : Launch) (e : Env) (R : Room) (s : State) (m : MethodId) (args : Array Value) (below : List Frame) (meth : Method) (c : Code) (A : Nat → Prop) (D : va_G) (nL : Nat) (Q : State → Prop) (ws : va_W) (lvs : List (Nat × Value)) (k n pc : Nat) (st : List Value) : Prop :=
  ∀ (H : Heap) (locs : List Loc) (ls : Array Slot), va_P D vwCl ws H → va_D A ws → va_S A s.heap H locs → lv_has ls nL lvs → W p l e R s m args below meth c H locs k n Q (F0 m pc ls st)
/-- an exception of the class E stands over the frame -/
def gT (p : Program) (l : Launch) (e : Env) (R : Room) (s : State) (m : MethodId) (args : Array Value) (below : List Frame) (meth : Method) (c : Code) (A : Nat → Prop) (D : va_G) (nL : Nat) (Q : State → Prop) (E : String) (ws : va_W) (lvs : List (Nat × Value)) (k n pc : Nat) (st : List Value) : Prop :=
  ∀ (H : Heap) (locs : List Loc) (ls : Array Slot) (ce : Cell) (q : Addr), va_P D vwCl ws H → va_D A ws → va_S A s.heap H locs → lv_has ls nL lvs → H[q]? = some ce → ce.vm = .none → s.vm.findClass E = some ce.cls → vx_W p l e R s m args below meth c H locs k n Q (F0 m pc ls st) q
section GV
variable {p : Program} {l : Launch} {e : Env} {R : Room} {s : State} {m : MethodId} {args : Array Value} {below : List Frame} {meth : Method} {c : Code} {A : Nat → Prop} {D : va_G} {nL : Nat} {Q : State → Prop} {ws ws' : va_W} {lvs lvs' : List (Nat × Value)} {k n pc : Nat} {st : List Value} {tys : List (ClassId × FieldType)} {own : String} {cc : ByteArray} {Ts : List Cond}
theorem gC.w (C : gC p l s m args meth c A D tys nL own cc Ts) (i : Nat) {w : Cond} (h : Ts[i]? = some w) : w.before args s = true := C.2.2.2.2.1 w (List.mem_of_getElem? h)
theorem gC.wm (C : gC p l s m args meth c A D tys nL own cc Ts) {w : Cond} (h : w ∈ Ts) : w.before args s = true := C.2.2.2.2.1 w h
theorem gV_loc (ks : List Nat) (hl : lv_pick lvs ks = lvs') (K : gV p l e R s m args below meth c A D nL Q ws lvs' k n pc st) : gV p l e R s m args below meth c A D nL Q ws lvs k n pc st := fun H locs ls hP hD hS hl0 => K H locs ls hP hD hS (lv_sub hl0 ks hl)
theorem gV_sub (is : List Nat) (hn : va_nd is = true) (h1 : is.filterMap (fun i => ws[i]?) = ws') (h2 : is.map (fun i => ws[i]?) = ws'.map some) (K : gV p l e R s m args below meth c A D nL Q ws' lvs k n pc st) : gV p l e R s m args below meth c A D nL Q ws lvs k n pc st := fun H locs ls hP hD hS hl0 => K H locs ls (hP.sub is h1) (hD.sub is hn h2) hS hl0
theorem gV_widen {k' n' : Nat} (h1 : k ≤ k') (h2 : n ≤ n') (K : gV p l e R s m args below meth c A D nL Q ws lvs k' n' pc st) : gV p l e R s m args below meth c A D nL Q ws lvs k n pc st := fun H locs ls hP hD hS hl => W.widen h1 h2 (K H locs ls hP hD hS hl)
theorem gT_widen {E : String} {k' n' : Nat} (h1 : k ≤ k') (h2 : n ≤ n') (K : gT p l e R s m args below meth c A D nL Q E ws lvs k' n' pc st) : gT p l e R s m args below meth c A D nL Q E ws lvs k n pc st := fun H locs ls ce q hP hD hS hl h1' h2' h3' => vx_widen h1 h2 (K H locs ls ce q hP hD hS hl h1' h2' h3')

theorem gV_iconst (C : gC p l s m args meth c A D tys nL own cc Ts) {z : Int} {v : Int32} (d : decode cc pc = .ok (.iconst z, 1)) (hv : Int32.ofInt z = v) (K : gV p l e R s m args below meth c A D nL Q ws lvs k n (pc + 1) (.int v :: st)) : gV p l e R s m args below meth c A D nL Q ws lvs k n pc st := fun H locs ls hP hD hS hl0 => lv_iconst C.1 C.2.1 d hv (K H locs ls hP hD hS hl0)
theorem gV_bipush (C : gC p l s m args meth c A D tys nL own cc Ts) {z : Int} {v : Int32} (d : decode cc pc = .ok (.bipush z, 2)) (hv : (Int8.ofInt z).toInt32 = v) (K : gV p l e R s m args below meth c A D nL Q ws lvs k n (pc + 2) (.int v :: st)) : gV p l e R s m args below meth c A D nL Q ws lvs k n pc st := fun H locs ls hP hD hS hl0 => lv_bipush C.1 C.2.1 d hv (K H locs ls hP hD hS hl0)
theorem gV_sipush (C : gC p l s m args meth c A D tys nL own cc Ts) {z : Int} {v : Int32} (d : decode cc pc = .ok (.sipush z, 3)) (hv : (Int16.ofInt z).toInt32 = v) (K : gV p l e R s m args below meth c A D nL Q ws lvs k n (pc + 3) (.int v :: st)) : gV p l e R s m args below meth c A D nL Q ws lvs k n pc st := fun H locs ls hP hD hS hl0 => lv_sipush C.1 C.2.1 d hv (K H locs ls hP hD hS hl0)
theorem gV_lconst (C : gC p l s m args meth c A D tys nL own cc Ts) {z : Fin 2} {v : Int64} (d : decode cc pc = .ok (.lconst z, 1)) (hv : Int64.ofNat (z : Nat) = v) (K : gV p l e R s m args below meth c A D nL Q ws lvs k n (pc + 1) (.long v :: st)) : gV p l e R s m args below meth c A D nL Q ws lvs k n pc st := fun H locs ls hP hD hS hl0 => lv_lconst C.1 C.2.1 d hv (K H locs ls hP hD hS hl0)
theorem gV_ldc (C : gC p l s m args meth c A D tys nL own cc Ts) {i : Nat} {v : Int32} (d : decode cc pc = .ok (.ldc i, 2)) (hw : (Jvm.Cond.constant own i v).before args s = true) (K : gV p l e R s m args below meth c A D nL Q ws lvs k n (pc + 2) (.int v :: st)) : gV p l e R s m args below meth c A D nL Q ws lvs k n pc st := fun H locs ls hP hD hS hl0 => lv_ldc C.1 C.2.1 C.2.2.2.1 hw d (K H locs ls hP hD hS hl0)
theorem gV_ldcw (C : gC p l s m args meth c A D tys nL own cc Ts) {i : Nat} {v : Int32} (d : decode cc pc = .ok (.ldc_w i, 3)) (hw : (Jvm.Cond.constant own i v).before args s = true) (K : gV p l e R s m args below meth c A D nL Q ws lvs k n (pc + 3) (.int v :: st)) : gV p l e R s m args below meth c A D nL Q ws lvs k n pc st := fun H locs ls hP hD hS hl0 => lv_ldcw C.1 C.2.1 C.2.2.2.1 hw d (K H locs ls hP hD hS hl0)
theorem gV_ldc2 (C : gC p l s m args meth c A D tys nL own cc Ts) {i : Nat} {v : Int64} (d : decode cc pc = .ok (.ldc2_w i, 3)) (hw : (Jvm.Cond.constantLong own i v).before args s = true) (K : gV p l e R s m args below meth c A D nL Q ws lvs k n (pc + 3) (.long v :: st)) : gV p l e R s m args below meth c A D nL Q ws lvs k n pc st := fun H locs ls hP hD hS hl0 => lv_ldc2 C.1 C.2.1 C.2.2.2.1 hw d (K H locs ls hP hD hS hl0)
theorem gV_iload_n (C : gC p l s m args meth c A D tys nL own cc Ts) {z : Fin 4} {i : Nat} {x : Int32} (d : decode cc pc = .ok (.iload_n z, 1)) (hi : (z : Nat) = i) (j : Nat) (hj : lvs[j]? = some (i, .int x)) (K : gV p l e R s m args below meth c A D nL Q ws lvs k n (pc + 1) (.int x :: st)) : gV p l e R s m args below meth c A D nL Q ws lvs k n pc st := fun H locs ls hP hD hS hl0 => lv_iload_n C.1 C.2.1 d hi (lv_at hl0 j hj) (K H locs ls hP hD hS hl0)
theorem gV_iload (C : gC p l s m args meth c A D tys nL own cc Ts) {i : Nat} {x : Int32} (d : decode cc pc = .ok (.iload i, 2)) (j : Nat) (hj : lvs[j]? = some (i, .int x)) (K : gV p l e R s m args below meth c A D nL Q ws lvs k n (pc + 2) (.int x :: st)) : gV p l e R s m args below meth c A D nL Q ws lvs k n pc st := fun H locs ls hP hD hS hl0 => lv_iload C.1 C.2.1 d (lv_at hl0 j hj) (K H locs ls hP hD hS hl0)
theorem gV_lload_n (C : gC p l s m args meth c A D tys nL own cc Ts) {z : Fin 4} {i : Nat} {x : Int64} (d : decode cc pc = .ok (.lload_n z, 1)) (hi : (z : Nat) = i) (j : Nat) (hj : lvs[j]? = some (i, .long x)) (K : gV p l e R s m args below meth c A D nL Q ws lvs k n (pc + 1) (.long x :: st)) : gV p l e R s m args below meth c A D nL Q ws lvs k n pc st := fun H locs ls hP hD hS hl0 => lv_lload_n C.1 C.2.1 d hi (lv_at hl0 j hj) (K H locs ls hP hD hS hl0)
theorem gV_lload (C : gC p l s m args meth c A D tys nL own cc Ts) {i : Nat} {x : Int64} (d : decode cc pc = .ok (.lload i, 2)) (j : Nat) (hj : lvs[j]? = some (i, .long x)) (K : gV p l e R s m args below meth c A D nL Q ws lvs k n (pc + 2) (.long x :: st)) : gV p l e R s m args below meth c A D nL Q ws lvs k n pc st := fun H locs ls hP hD hS hl0 => lv_lload C.1 C.2.1 d (lv_at hl0 j hj) (K H locs ls hP hD hS hl0)
theorem gV_aload_n (C : gC p l s m args meth c A D tys nL own cc Ts) {z : Fin 4} {i : Nat} {x : Nat} (d : decode cc pc = .ok (.aload_n z, 1)) (hi : (z : Nat) = i) (j : Nat) (hj : lvs[j]? = some (i, .ref x)) (K : gV p l e R s m args below meth c A D nL Q ws lvs k n (pc + 1) (.ref x :: st)) : gV p l e R s m args below meth c A D nL Q ws lvs k n pc st := fun H locs ls hP hD hS hl0 => lv_aload_n C.1 C.2.1 d hi (lv_at hl0 j hj) (K H locs ls hP hD hS hl0)
theorem gV_aload (C : gC p l s m args meth c A D tys nL own cc Ts) {i : Nat} {x : Nat} (d : decode cc pc = .ok (.aload i, 2)) (j : Nat) (hj : lvs[j]? = some (i, .ref x)) (K : gV p l e R s m args below meth c A D nL Q ws lvs k n (pc + 2) (.ref x :: st)) : gV p l e R s m args below meth c A D nL Q ws lvs k n pc st := fun H locs ls hP hD hS hl0 => lv_aload C.1 C.2.1 d (lv_at hl0 j hj) (K H locs ls hP hD hS hl0)
theorem gV_istore_n (C : gC p l s m args meth c A D tys nL own cc Ts) {z : Fin 4} {i : Nat} {x : Int32} (d : decode cc pc = .ok (.istore_n z, 1)) (hi : (z : Nat) = i) (hn : i < nL) (hl : (i, Value.int x) :: lvs.filter (fun q => !(q.1 == i) && !(q.1 + 1 == i && q.2.category == 2)) = lvs') (K : gV p l e R s m args below meth c A D nL Q ws lvs' k n (pc + 1) st) : gV p l e R s m args below meth c A D nL Q ws lvs k n pc (.int x :: st) := fun H locs ls hP hD hS hl0 => lv_istore_n C.1 C.2.1 d hi hl0 hn hl (fun ls' hl' => K H locs ls' hP hD hS hl')
theorem gV_istore (C : gC p l s m args meth c A D tys nL own cc Ts) {i : Nat} {x : Int32} (d : decode cc pc = .ok (.istore i, 2)) (hn : i < nL) (hl : (i, Value.int x) :: lvs.filter (fun q => !(q.1 == i) && !(q.1 + 1 == i && q.2.category == 2)) = lvs') (K : gV p l e R s m args below meth c A D nL Q ws lvs' k n (pc + 2) st) : gV p l e R s m args below meth c A D nL Q ws lvs k n pc (.int x :: st) := fun H locs ls hP hD hS hl0 => lv_istore C.1 C.2.1 d hl0 hn hl (fun ls' hl' => K H locs ls' hP hD hS hl')
theorem gV_astore_n (C : gC p l s m args meth c A D tys nL own cc Ts) {z : Fin 4} {i : Nat} {x : Nat} (d : decode cc pc = .ok (.astore_n z, 1)) (hi : (z : Nat) = i) (hn : i < nL) (hl : (i, Value.ref x) :: lvs.filter (fun q => !(q.1 == i) && !(q.1 + 1 == i && q.2.category == 2)) = lvs') (K : gV p l e R s m args below meth c A D nL Q ws lvs' k n (pc + 1) st) : gV p l e R s m args below meth c A D nL Q ws lvs k n pc (.ref x :: st) := fun H locs ls hP hD hS hl0 => lv_astore_n C.1 C.2.1 d hi hl0 hn hl (fun ls' hl' => K H locs ls' hP hD hS hl')
theorem gV_astore (C : gC p l s m args meth c A D tys nL own cc Ts) {i : Nat} {x : Nat} (d : decode cc pc = .ok (.astore i, 2)) (hn : i < nL) (hl : (i, Value.ref x) :: lvs.filter (fun q => !(q.1 == i) && !(q.1 + 1 == i && q.2.category == 2)) = lvs') (K : gV p l e R s m args below meth c A D nL Q ws lvs' k n (pc + 2) st) : gV p l e R s m args below meth c A D nL Q ws lvs k n pc (.ref x :: st) := fun H locs ls hP hD hS hl0 => lv_astore C.1 C.2.1 d hl0 hn hl (fun ls' hl' => K H locs ls' hP hD hS hl')
theorem gV_lstore_n (C : gC p l s m args meth c A D tys nL own cc Ts) {z : Fin 4} {i : Nat} {x : Int64} (d : decode cc pc = .ok (.lstore_n z, 1)) (hi : (z : Nat) = i) (hn : i + 1 < nL) (hl : (i, Value.long x) :: lvs.filter (fun q => !(q.1 == i) && (!(q.1 == i + 1) && !(q.1 + 1 == i && q.2.category == 2))) = lvs') (K : gV p l e R s m args below meth c A D nL Q ws lvs' k n (pc + 1) st) : gV p l e R s m args below meth c A D nL Q ws lvs k n pc (.long x :: st) := fun H locs ls hP hD hS hl0 => lv_lstore_n C.1 C.2.1 d hi hl0 hn hl (fun ls' hl' => K H locs ls' hP hD hS hl')
theorem gV_lstore (C : gC p l s m args meth c A D tys nL own cc Ts) {i : Nat} {x : Int64} (d : decode cc pc = .ok (.lstore i, 2)) (hn : i + 1 < nL) (hl : (i, Value.long x) :: lvs.filter (fun q => !(q.1 == i) && (!(q.1 == i + 1) && !(q.1 + 1 == i && q.2.category == 2))) = lvs') (K : gV p l e R s m args below meth c A D nL Q ws lvs' k n (pc + 2) st) : gV p l e R s m args below meth c A D nL Q ws lvs k n pc (.long x :: st) := fun H locs ls hP hD hS hl0 => lv_lstore C.1 C.2.1 d hl0 hn hl (fun ls' hl' => K H locs ls' hP hD hS hl')
theorem gV_iinc (C : gC p l s m args meth c A D tys nL own cc Ts) {i : Nat} {z : Int} {x v : Int32} (d : decode cc pc = .ok (.iinc i z, 3)) (j : Nat) (hj : lvs[j]? = some (i, .int x)) (hv : x + Int32.ofInt z = v) (hn : i < nL) (hl : (i, Value.int v) :: lvs.filter (fun q => !(q.1 == i) && !(q.1 + 1 == i && q.2.category == 2)) = lvs') (K : gV p l e R s m args below meth c A D nL Q ws lvs' k n (pc + 3) st) : gV p l e R s m args below meth c A D nL Q ws lvs k n pc st := fun H locs ls hP hD hS hl0 => lv_iinc C.1 C.2.1 d hl0 hj hv hn hl (fun ls' hl' => K H locs ls' hP hD hS hl')
theorem gV_iadd (C : gC p l s m args meth c A D tys nL own cc Ts) {x y : Int32} (d : decode cc pc = .ok (.iadd, 1))  (K : gV p l e R s m args below meth c A D nL Q ws lvs k n (pc + 1) (.int (x + y) :: st)) : gV p l e R s m args below meth c A D nL Q ws lvs k n pc (.int y :: .int x :: st) := fun H locs ls hP hD hS hl0 => lv_iadd C.1 C.2.1 d (K H locs ls hP hD hS hl0)
theorem gV_isub (C : gC p l s m args meth c A D tys nL own cc Ts) {x y : Int32} (d : decode cc pc = .ok (.isub, 1))  (K : gV p l e R s m args below meth c A D nL Q ws lvs k n (pc + 1) (.int (x - y) :: st)) : gV p l e R s m args below meth c A D nL Q ws lvs k n pc (.int y :: .int x :: st) := fun H locs ls hP hD hS hl0 => lv_isub C.1 C.2.1 d (K H locs ls hP hD hS hl0)
theorem gV_imul (C : gC p l s m args meth c A D tys nL own cc Ts) {x y : Int32} (d : decode cc pc = .ok (.imul, 1))  (K : gV p l e R s m args below meth c A D nL Q ws lvs k n (pc + 1) (.int (x * y) :: st)) : gV p l e R s m args below meth c A D nL Q ws lvs k n pc (.int y :: .int x :: st) := fun H locs ls hP hD hS hl0 => lv_imul C.1 C.2.1 d (K H locs ls hP hD hS hl0)
theorem gV_iand (C : gC p l s m args meth c A D tys nL own cc Ts) {x y : Int32} (d : decode cc pc = .ok (.iand, 1))  (K : gV p l e R s m args below meth c A D nL Q ws lvs k n (pc + 1) (.int (x &&& y) :: st)) : gV p l e R s m args below meth c A D nL Q ws lvs k n pc (.int y :: .int x :: st) := fun H locs ls hP hD hS hl0 => lv_iand C.1 C.2.1 d (K H locs ls hP hD hS hl0)
theorem gV_ior (C : gC p l s m args meth c A D tys nL own cc Ts) {x y : Int32} (d : decode cc pc = .ok (.ior, 1))  (K : gV p l e R s m args below meth c A D nL Q ws lvs k n (pc + 1) (.int (x ||| y) :: st)) : gV p l e R s m args below meth c A D nL Q ws lvs k n pc (.int y :: .int x :: st) := fun H locs ls hP hD hS hl0 => lv_ior C.1 C.2.1 d (K H locs ls hP hD hS hl0)
theorem gV_ixor (C : gC p l s m args meth c A D tys nL own cc Ts) {x y : Int32} (d : decode cc pc = .ok (.ixor, 1))  (K : gV p l e R s m args below meth c A D nL Q ws lvs k n (pc + 1) (.int (x ^^^ y) :: st)) : gV p l e R s m args below meth c A D nL Q ws lvs k n pc (.int y :: .int x :: st) := fun H locs ls hP hD hS hl0 => lv_ixor C.1 C.2.1 d (K H locs ls hP hD hS hl0)
theorem gV_ishl (C : gC p l s m args meth c A D tys nL own cc Ts) {x y : Int32} (d : decode cc pc = .ok (.ishl, 1))  (K : gV p l e R s m args below meth c A D nL Q ws lvs k n (pc + 1) (.int (x <<< (y &&& 31)) :: st)) : gV p l e R s m args below meth c A D nL Q ws lvs k n pc (.int y :: .int x :: st) := fun H locs ls hP hD hS hl0 => lv_ishl C.1 C.2.1 d (K H locs ls hP hD hS hl0)
theorem gV_ishr (C : gC p l s m args meth c A D tys nL own cc Ts) {x y : Int32} (d : decode cc pc = .ok (.ishr, 1))  (K : gV p l e R s m args below meth c A D nL Q ws lvs k n (pc + 1) (.int (x >>> (y &&& 31)) :: st)) : gV p l e R s m args below meth c A D nL Q ws lvs k n pc (.int y :: .int x :: st) := fun H locs ls hP hD hS hl0 => lv_ishr C.1 C.2.1 d (K H locs ls hP hD hS hl0)
theorem gV_iushr (C : gC p l s m args meth c A D tys nL own cc Ts) {x y : Int32} (d : decode cc pc = .ok (.iushr, 1))  (K : gV p l e R s m args below meth c A D nL Q ws lvs k n (pc + 1) (.int (g_ush x y) :: st)) : gV p l e R s m args below meth c A D nL Q ws lvs k n pc (.int y :: .int x :: st) := fun H locs ls hP hD hS hl0 => lv_iushr C.1 C.2.1 d rfl (K H locs ls hP hD hS hl0)
theorem gV_idiv (C : gC p l s m args meth c A D tys nL own cc Ts) {x y : Int32} (d : decode cc pc = .ok (.idiv, 1)) (hne : ¬ y = 0) (K : gV p l e R s m args below meth c A D nL Q ws lvs k n (pc + 1) (.int (x / y) :: st)) : gV p l e R s m args below meth c A D nL Q ws lvs k n pc (.int y :: .int x :: st) := fun H locs ls hP hD hS hl0 => lv_idiv C.1 C.2.1 d hne (K H locs ls hP hD hS hl0)
theorem gV_irem (C : gC p l s m args meth c A D tys nL own cc Ts) {x y : Int32} (d : decode cc pc = .ok (.irem, 1)) (hne : ¬ y = 0) (K : gV p l e R s m args below meth c A D nL Q ws lvs k n (pc + 1) (.int (x - x / y * y) :: st)) : gV p l e R s m args below meth c A D nL Q ws lvs k n pc (.int y :: .int x :: st) := fun H locs ls hP hD hS hl0 => lv_irem C.1 C.2.1 d hne (K H locs ls hP hD hS hl0)
theorem gV_ineg (C : gC p l s m args meth c A D tys nL own cc Ts) {x : Int32} (d : decode cc pc = .ok (.ineg, 1))  (K : gV p l e R s m args below meth c A D nL Q ws lvs k n (pc + 1) (.int (-x) :: st)) : gV p l e R s m args below meth c A D nL Q ws lvs k n pc (.int x :: st) := fun H locs ls hP hD hS hl0 => lv_ineg C.1 C.2.1 d (K H locs ls hP hD hS hl0)
theorem gV_ladd (C : gC p l s m args meth c A D tys nL own cc Ts) {x y : Int64} (d : decode cc pc = .ok (.ladd, 1))  (K : gV p l e R s m args below meth c A D nL Q ws lvs k n (pc + 1) (.long (x + y) :: st)) : gV p l e R s m args below meth c A D nL Q ws lvs k n pc (.long y :: .long x :: st) := fun H locs ls hP hD hS hl0 => lv_ladd C.1 C.2.1 d (K H locs ls hP hD hS hl0)
theorem gV_lsub (C : gC p l s m args meth c A D tys nL own cc Ts) {x y : Int64} (d : decode cc pc = .ok (.lsub, 1))  (K : gV p l e R s m args below meth c A D nL Q ws lvs k n (pc + 1) (.long (x - y) :: st)) : gV p l e R s m args below meth c A D nL Q ws lvs k n pc (.long y :: .long x :: st) := fun H locs ls hP hD hS hl0 => lv_lsub C.1 C.2.1 d (K H locs ls hP hD hS hl0)
theorem gV_land (C : gC p l s m args meth c A D tys nL own cc Ts) {x y : Int64} (d : decode cc pc = .ok (.land, 1))  (K : gV p l e R s m args below meth c A D nL Q ws lvs k n (pc + 1) (.long (x &&& y) :: st)) : gV p l e R s m args below meth c A D nL Q ws lvs k n pc (.long y :: .long x :: st) := fun H locs ls hP hD hS hl0 => lv_land C.1 C.2.1 d (K H locs ls hP hD hS hl0)
theorem gV_lor (C : gC p l s m args meth c A D tys nL own cc Ts) {x y : Int64} (d : decode cc pc = .ok (.lor, 1))  (K : gV p l e R s m args below meth c A D nL Q ws lvs k n (pc + 1) (.long (x ||| y) :: st)) : gV p l e R s m args below meth c A D nL Q ws lvs k n pc (.long y :: .long x :: st) := fun H locs ls hP hD hS hl0 => lv_lor C.1 C.2.1 d (K H locs ls hP hD hS hl0)
theorem gV_lshl (C : gC p l s m args meth c A D tys nL own cc Ts) {x : Int64} {y : Int32} (d : decode cc pc = .ok (.lshl, 1))  (K : gV p l e R s m args below meth c A D nL Q ws lvs k n (pc + 1) (.long (g_lsl x y) :: st)) : gV p l e R s m args below meth c A D nL Q ws lvs k n pc (.int y :: .long x :: st) := fun H locs ls hP hD hS hl0 => lv_lshl C.1 C.2.1 d rfl (K H locs ls hP hD hS hl0)
theorem gV_lshr (C : gC p l s m args meth c A D tys nL own cc Ts) {x : Int64} {y : Int32} (d : decode cc pc = .ok (.lshr, 1))  (K : gV p l e R s m args below meth c A D nL Q ws lvs k n (pc + 1) (.long (g_lsr x y) :: st)) : gV p l e R s m args below meth c A D nL Q ws lvs k n pc (.int y :: .long x :: st) := fun H locs ls hP hD hS hl0 => lv_lshr C.1 C.2.1 d rfl (K H locs ls hP hD hS hl0)
theorem gV_lushr (C : gC p l s m args meth c A D tys nL own cc Ts) {x : Int64} {y : Int32} (d : decode cc pc = .ok (.lushr, 1))  (K : gV p l e R s m args below meth c A D nL Q ws lvs k n (pc + 1) (.long (g_lush x y) :: st)) : gV p l e R s m args below meth c A D nL Q ws lvs k n pc (.int y :: .long x :: st) := fun H locs ls hP hD hS hl0 => lv_lushr C.1 C.2.1 d rfl (K H locs ls hP hD hS hl0)
theorem gV_lcmp (C : gC p l s m args meth c A D tys nL own cc Ts) {x y : Int64} (d : decode cc pc = .ok (.lcmp, 1))  (K : gV p l e R s m args below meth c A D nL Q ws lvs k n (pc + 1) (.int (lg_cmp x y) :: st)) : gV p l e R s m args below meth c A D nL Q ws lvs k n pc (.long y :: .long x :: st) := fun H locs ls hP hD hS hl0 => W.lcmp C.1 C.2.1 d (K H locs ls hP hD hS hl0)
theorem gV_i2l (C : gC p l s m args meth c A D tys nL own cc Ts) {x : Int32} (d : decode cc pc = .ok (.i2l, 1))  (K : gV p l e R s m args below meth c A D nL Q ws lvs k n (pc + 1) (.long x.toInt64 :: st)) : gV p l e R s m args below meth c A D nL Q ws lvs k n pc (.int x :: st) := fun H locs ls hP hD hS hl0 => lv_i2l C.1 C.2.1 d rfl (K H locs ls hP hD hS hl0)
theorem gV_l2i (C : gC p l s m args meth c A D tys nL own cc Ts) {x : Int64} (d : decode cc pc = .ok (.l2i, 1))  (K : gV p l e R s m args below meth c A D nL Q ws lvs k n (pc + 1) (.int x.toInt32 :: st)) : gV p l e R s m args below meth c A D nL Q ws lvs k n pc (.long x :: st) := fun H locs ls hP hD hS hl0 => lv_l2i C.1 C.2.1 d rfl (K H locs ls hP hD hS hl0)
theorem gV_dup (C : gC p l s m args meth c A D tys nL own cc Ts) {v : Value} (d : decode cc pc = .ok (.dup, 1)) (hv : v.category = 1) (K : gV p l e R s m args below meth c A D nL Q ws lvs k n (pc + 1) (v :: v :: st)) : gV p l e R s m args below meth c A D nL Q ws lvs k n pc (v :: st) := fun H locs ls hP hD hS hl0 => lv_dup C.1 C.2.1 d hv (K H locs ls hP hD hS hl0)
theorem gV_pop (C : gC p l s m args meth c A D tys nL own cc Ts) {v : Value} (d : decode cc pc = .ok (.pop, 1)) (hv : v.category = 1) (K : gV p l e R s m args below meth c A D nL Q ws lvs k n (pc + 1) st) : gV p l e R s m args below meth c A D nL Q ws lvs k n pc (v :: st) := fun H locs ls hP hD hS hl0 => lv_pop C.1 C.2.1 d hv (K H locs ls hP hD hS hl0)
theorem gV_dup2 (C : gC p l s m args meth c A D tys nL own cc Ts) {v w : Value} (d : decode cc pc = .ok (.dup2, 1)) (hv : v.category = 1) (hw : w.category = 1) (K : gV p l e R s m args below meth c A D nL Q ws lvs k n (pc + 1) (v :: w :: v :: w :: st)) : gV p l e R s m args below meth c A D nL Q ws lvs k n pc (v :: w :: st) := fun H locs ls hP hD hS hl0 => lv_dup2_11 C.1 C.2.1 d hv hw (K H locs ls hP hD hS hl0)
theorem gV_goto (C : gC p l s m args meth c A D tys nL own cc Ts) {off : Int} {tgt : Nat} (d : decode cc pc = .ok (.goto off, 3)) (ht : (pc : Int) + off = (tgt : Int)) (K : gV p l e R s m args below meth c A D nL Q ws lvs k n tgt st) : gV p l e R s m args below meth c A D nL Q ws lvs k n pc st := fun H locs ls hP hD hS hl0 => lv_goto C.1 C.2.1 d ht (K H locs ls hP hD hS hl0)
theorem gV_if_eq (C : gC p l s m args meth c A D tys nL own cc Ts) {x : Int32} {off : Int} {tgt : Nat} (d : decode cc pc = .ok (.ifCond .eq off, 3)) (ht : (pc : Int) + off = (tgt : Int)) (Kt : x = 0 → gV p l e R s m args below meth c A D nL Q ws lvs k n tgt st) (Kf : ¬ (x = 0) → gV p l e R s m args below meth c A D nL Q ws lvs k n (pc + 3) st) : gV p l e R s m args below meth c A D nL Q ws lvs k n pc (.int x :: st) := fun H locs ls hP hD hS hl0 => lv_if_eq C.1 C.2.1 d ht (fun h => Kt h H locs ls hP hD hS hl0) (fun h => Kf h H locs ls hP hD hS hl0)
theorem gV_icmp_eq (C : gC p l s m args meth c A D tys nL own cc Ts) {x y : Int32} {off : Int} {tgt : Nat} (d : decode cc pc = .ok (.if_icmp .eq off, 3)) (ht : (pc : Int) + off = (tgt : Int)) (Kt : x = y → gV p l e R s m args below meth c A D nL Q ws lvs k n tgt st) (Kf : ¬ (x = y) → gV p l e R s m args below meth c A D nL Q ws lvs k n (pc + 3) st) : gV p l e R s m args below meth c A D nL Q ws lvs k n pc (.int y :: .int x :: st) := fun H locs ls hP hD hS hl0 => lv_icmp_eq C.1 C.2.1 d ht (fun h => Kt h H locs ls hP hD hS hl0) (fun h => Kf h H locs ls hP hD hS hl0)
theorem gV_if_ne (C : gC p l s m args meth c A D tys nL own cc Ts) {x : Int32} {off : Int} {tgt : Nat} (d : decode cc pc = .ok (.ifCond .ne off, 3)) (ht : (pc : Int) + off = (tgt : Int)) (Kt : ¬ x = 0 → gV p l e R s m args below meth c A D nL Q ws lvs k n tgt st) (Kf : x = 0 → gV p l e R s m args below meth c A D nL Q ws lvs k n (pc + 3) st) : gV p l e R s m args below meth c A D nL Q ws lvs k n pc (.int x :: st) := fun H locs ls hP hD hS hl0 => lv_if_ne C.1 C.2.1 d ht (fun h => Kt h H locs ls hP hD hS hl0) (fun h => Kf h H locs ls hP hD hS hl0)
theorem gV_icmp_ne (C : gC p l s m args meth c A D tys nL own cc Ts) {x y : Int32} {off : Int} {tgt : Nat} (d : decode cc pc = .ok (.if_icmp .ne off, 3)) (ht : (pc : Int) + off = (tgt : Int)) (Kt : ¬ x = y → gV p l e R s m args below meth c A D nL Q ws lvs k n tgt st) (Kf : x = y → gV p l e R s m args below meth c A D nL Q ws lvs k n (pc + 3) st) : gV p l e R s m args below meth c A D nL Q ws lvs k n pc (.int y :: .int x :: st) := fun H locs ls hP hD hS hl0 => lv_icmp_ne C.1 C.2.1 d ht (fun h => Kt h H locs ls hP hD hS hl0) (fun h => Kf h H locs ls hP hD hS hl0)
theorem gV_if_lt (C : gC p l s m args meth c A D tys nL own cc Ts) {x : Int32} {off : Int} {tgt : Nat} (d : decode cc pc = .ok (.ifCond .lt off, 3)) (ht : (pc : Int) + off = (tgt : Int)) (Kt : x < 0 → gV p l e R s m args below meth c A D nL Q ws lvs k n tgt st) (Kf : ¬ (x < 0) → gV p l e R s m args below meth c A D nL Q ws lvs k n (pc + 3) st) : gV p l e R s m args below meth c A D nL Q ws lvs k n pc (.int x :: st) := fun H locs ls hP hD hS hl0 => lv_if_lt C.1 C.2.1 d ht (fun h => Kt h H locs ls hP hD hS hl0) (fun h => Kf h H locs ls hP hD hS hl0)
theorem gV_icmp_lt (C : gC p l s m args meth c A D tys nL own cc Ts) {x y : Int32} {off : Int} {tgt : Nat} (d : decode cc pc = .ok (.if_icmp .lt off, 3)) (ht : (pc : Int) + off = (tgt : Int)) (Kt : x < y → gV p l e R s m args below meth c A D nL Q ws lvs k n tgt st) (Kf : ¬ (x < y) → gV p l e R s m args below meth c A D nL Q ws lvs k n (pc + 3) st) : gV p l e R s m args below meth c A D nL Q ws lvs k n pc (.int y :: .int x :: st) := fun H locs ls hP hD hS hl0 => lv_icmp_lt C.1 C.2.1 d ht (fun h => Kt h H locs ls hP hD hS hl0) (fun h => Kf h H locs ls hP hD hS hl0)
theorem gV_if_ge (C : gC p l s m args meth c A D tys nL own cc Ts) {x : Int32} {off : Int} {tgt : Nat} (d : decode cc pc = .ok (.ifCond .ge off, 3)) (ht : (pc : Int) + off = (tgt : Int)) (Kt : 0 ≤ x → gV p l e R s m args below meth c A D nL Q ws lvs k n tgt st) (Kf : ¬ (0 ≤ x) → gV p l e R s m args below meth c A D nL Q ws lvs k n (pc + 3) st) : gV p l e R s m args below meth c A D nL Q ws lvs k n pc (.int x :: st) := fun H locs ls hP hD hS hl0 => lv_if_ge C.1 C.2.1 d ht (fun h => Kt h H locs ls hP hD hS hl0) (fun h => Kf h H locs ls hP hD hS hl0)
theorem gV_icmp_ge (C : gC p l s m args meth c A D tys nL own cc Ts) {x y : Int32} {off : Int} {tgt : Nat} (d : decode cc pc = .ok (.if_icmp .ge off, 3)) (ht : (pc : Int) + off = (tgt : Int)) (Kt : y ≤ x → gV p l e R s m args below meth c A D nL Q ws lvs k n tgt st) (Kf : ¬ (y ≤ x) → gV p l e R s m args below meth c A D nL Q ws lvs k n (pc + 3) st) : gV p l e R s m args below meth c A D nL Q ws lvs k n pc (.int y :: .int x :: st) := fun H locs ls hP hD hS hl0 => lv_icmp_ge C.1 C.2.1 d ht (fun h => Kt h H locs ls hP hD hS hl0) (fun h => Kf h H locs ls hP hD hS hl0)
theorem gV_if_gt (C : gC p l s m args meth c A D tys nL own cc Ts) {x : Int32} {off : Int} {tgt : Nat} (d : decode cc pc = .ok (.ifCond .gt off, 3)) (ht : (pc : Int) + off = (tgt : Int)) (Kt : 0 < x → gV p l e R s m args below meth c A D nL Q ws lvs k n tgt st) (Kf : ¬ (0 < x) → gV p l e R s m args below meth c A D nL Q ws lvs k n (pc + 3) st) : gV p l e R s m args below meth c A D nL Q ws lvs k n pc (.int x :: st) := fun H locs ls hP hD hS hl0 => lv_if_gt C.1 C.2.1 d ht (fun h => Kt h H locs ls hP hD hS hl0) (fun h => Kf h H locs ls hP hD hS hl0)
theorem gV_icmp_gt (C : gC p l s m args meth c A D tys nL own cc Ts) {x y : Int32} {off : Int} {tgt : Nat} (d : decode cc pc = .ok (.if_icmp .gt off, 3)) (ht : (pc : Int) + off = (tgt : Int)) (Kt : y < x → gV p l e R s m args below meth c A D nL Q ws lvs k n tgt st) (Kf : ¬ (y < x) → gV p l e R s m args below meth c A D nL Q ws lvs k n (pc + 3) st) : gV p l e R s m args below meth c A D nL Q ws lvs k n pc (.int y :: .int x :: st) := fun H locs ls hP hD hS hl0 => lv_icmp_gt C.1 C.2.1 d ht (fun h => Kt h H locs ls hP hD hS hl0) (fun h => Kf h H locs ls hP hD hS hl0)
theorem gV_if_le (C : gC p l s m args meth c A D tys nL own cc Ts) {x : Int32} {off : Int} {tgt : Nat} (d : decode cc pc = .ok (.ifCond .le off, 3)) (ht : (pc : Int) + off = (tgt : Int)) (Kt : x ≤ 0 → gV p l e R s m args below meth c A D nL Q ws lvs k n tgt st) (Kf : ¬ (x ≤ 0) → gV p l e R s m args below meth c A D nL Q ws lvs k n (pc + 3) st) : gV p l e R s m args below meth c A D nL Q ws lvs k n pc (.int x :: st) := fun H locs ls hP hD hS hl0 => lv_if_le C.1 C.2.1 d ht (fun h => Kt h H locs ls hP hD hS hl0) (fun h => Kf h H locs ls hP hD hS hl0)
theorem gV_icmp_le (C : gC p l s m args meth c A D tys nL own cc Ts) {x y : Int32} {off : Int} {tgt : Nat} (d : decode cc pc = .ok (.if_icmp .le off, 3)) (ht : (pc : Int) + off = (tgt : Int)) (Kt : x ≤ y → gV p l e R s m args below meth c A D nL Q ws lvs k n tgt st) (Kf : ¬ (x ≤ y) → gV p l e R s m args below meth c A D nL Q ws lvs k n (pc + 3) st) : gV p l e R s m args below meth c A D nL Q ws lvs k n pc (.int y :: .int x :: st) := fun H locs ls hP hD hS hl0 => lv_icmp_le C.1 C.2.1 d ht (fun h => Kt h H locs ls hP hD hS hl0) (fun h => Kf h H locs ls hP hD hS hl0)
theorem gV_topI {x : Int32} (K : ∀ y : Int32, y = x → gV p l e R s m args below meth c A D nL Q ws lvs k n pc (.int y :: st)) : gV p l e R s m args below meth c A D nL Q ws lvs k n pc (.int x :: st) := K x rfl
theorem gV_topJ {x : Int64} (K : ∀ y : Int64, y = x → gV p l e R s m args below meth c A D nL Q ws lvs k n pc (.long y :: st)) : gV p l e R s m args below meth c A D nL Q ws lvs k n pc (.long x :: st) := K x rfl
theorem gV_get (C : gC p l s m args meth c A D tys nL own cc Ts) {ref Cn : String} {T : u_T} {N ci i a : Nat} {fs : List Value} {v : Value} (hin : ∀ w ∈ u_ws Cn T N, w ∈ Ts) (q0 : Nat) (he : ws[q0]? = some (a, .inr (ci, fs))) (hc : vwCl[ci]? = some (Cn, T, N)) (j : Nat) (hj : j < N) (hlink : (Cond.fieldLink own i ref (T j).2.1 (T j).2.2.1).before args s = true) (hr : (T j).1 = ref) (hv : fs[j]? = some v) (d : decode cc pc = .ok (.getfield i, 3)) (K : gV p l e R s m args below meth c A D nL Q ws lvs k n (pc + 3) (v :: st)) : gV p l e R s m args below meth c A D nL Q ws lvs k n pc (.ref a :: st) := by
  subst hr
  exact fun H locs ls hP hD hS hl0 => va_get C.1 C.2.1 C.2.2.2.2.1 hin C.2.2.2.1 C.2.2.2.2.2.1 hP q0 he hc j hj hlink (fun _ h => h) hv d (K H locs ls hP hD hS hl0)
theorem gV_put (C : gC p l s m args meth c A D tys nL own cc Ts) {ref Cn : String} {T : u_T} {N ci i a : Nat} {fs : List Value} {v : Value} {ty : FieldType} {ty0 : Nat → FieldType} (hin : ∀ w ∈ u_ws Cn T N, w ∈ Ts) (hty : ∀ k, k < N → parseFieldDescriptor (T k).2.2.1 = some (ty0 k)) (hnm : ∀ a, a < N → ∀ b, b < N → a ≠ b → (T a).2.1 ≠ (T b).2.1) (q0 : Nat) (he : ws[q0]? = some (a, .inr (ci, fs))) (hc : vwCl[ci]? = some (Cn, T, N)) (j : Nat) (hj : j < N) (hlink : (Cond.fieldLink own i ref (T j).2.1 (T j).2.2.1).before args s = true) (hr : (T j).1 = ref) (hfin : (T j).2.2.2 = false) (htj : ty0 j = ty) (hnv : narrow ty v = v) (hfit : fits ty v = true) (hlen : j < fs.length) (d : decode cc pc = .ok (.putfield i, 3)) (hws : ws.set q0 (a, .inr (ci, fs.set j v)) = ws') (K : gV p l e R s m args below meth c A D nL Q ws' lvs k n (pc + 3) st) : gV p l e R s m args below meth c A D nL Q ws lvs k n pc (v :: .ref a :: st) := by
  subst hr
  subst hws
  exact fun H locs ls hP hD hS hl0 => va_put C.1 C.2.1 C.2.2.2.2.1 hin ty0 hty hnm C.2.2.2.1 C.2.2.2.2.2.1 hP hD hS q0 he hc j hj hlink (fun _ h => h) hfin (by rw [hty j hj, htj]) hnv hfit hlen d (fun H1 locs1 hP1 hD1 hS1 => K H1 locs1 ls hP1 hD1 hS1 hl0)
theorem gV_putF (C : gC p l s m args meth c A D tys nL own cc Ts) {ref Cn : String} {T : u_T} {N ci i a : Nat} {fs : List Value} {v : Value} {ty : FieldType} {ty0 : Nat → FieldType} (hin : ∀ w ∈ u_ws Cn T N, w ∈ Ts) (hty : ∀ k, k < N → parseFieldDescriptor (T k).2.2.1 = some (ty0 k)) (hnm : ∀ a, a < N → ∀ b, b < N → a ≠ b → (T a).2.1 ≠ (T b).2.1) (q0 : Nat) (he : ws[q0]? = some (a, .inr (ci, fs))) (hc : vwCl[ci]? = some (Cn, T, N)) (j : Nat) (hj : j < N) (hlink : (Cond.fieldLink own i ref (T j).2.1 (T j).2.2.1).before args s = true) (hr : (T j).1 = ref) (hfin : (T j).2.2.2 = true) (hini : meth.name = "<init>") (hdecl : (T j).1 = own) (htj : ty0 j = ty) (hnv : narrow ty v = v) (hfit : fits ty v = true) (hlen : j < fs.length) (d : decode cc pc = .ok (.putfield i, 3)) (hws : ws.set q0 (a, .inr (ci, fs.set j v)) = ws') (K : gV p l e R s m args below meth c A D nL Q ws' lvs k n (pc + 3) st) : gV p l e R s m args below meth c A D nL Q ws lvs k n pc (v :: .ref a :: st) := by
  subst hr
  subst hws
  exact fun H locs ls hP hD hS hl0 => va_putF C.1 C.2.1 C.2.2.2.2.1 hin ty0 hty hnm C.2.2.2.1 C.2.2.2.2.2.1 hP hD hS q0 he hc j hj hlink (fun _ h => h) hfin hini hdecl (by rw [hty j hj, htj]) hnv hfit hlen d (fun H1 locs1 hP1 hD1 hS1 => K H1 locs1 ls hP1 hD1 hS1 hl0)
theorem gV_iald (C : gC p l s m args meth c A D tys nL own cc Ts) {a : Nat} {cA : ClassId} {N : Nat} {f : Nat → Int32} {i : Int32} (q0 : Nat) (ha : ws[q0]? = some (a, .inl (cA, N, .inl f))) (t0 : Nat) (ht : tys[t0]? = some (cA, .int)) (hi : vp_in i N) (d : decode cc pc = .ok (.iaload, 1)) (K : gV p l e R s m args below meth c A D nL Q ws lvs k n (pc + 1) (.int (f i.toNatClampNeg) :: st)) : gV p l e R s m args below meth c A D nL Q ws lvs k n pc (.int i :: .ref a :: st) := fun H locs ls hP hD hS hl0 => va_iald C.1 C.2.1 C.2.2.2.2.2.1 hP q0 t0 ha ht hi d (K H locs ls hP hD hS hl0)
theorem gV_iast (C : gC p l s m args meth c A D tys nL own cc Ts) {a : Nat} {cA : ClassId} {N : Nat} {f : Nat → Int32} {i : Int32} {x : Int32} (q0 : Nat) (ha : ws[q0]? = some (a, .inl (cA, N, .inl f))) (t0 : Nat) (ht : tys[t0]? = some (cA, .int)) (hi : vp_in i N) (d : decode cc pc = .ok (.iastore, 1)) (hws : ws.set q0 (a, .inl (cA, N, .inl (upd f i.toNatClampNeg x))) = ws') (K : gV p l e R s m args below meth c A D nL Q ws' lvs k n (pc + 1) st) : gV p l e R s m args below meth c A D nL Q ws lvs k n pc (.int x :: .int i :: .ref a :: st) := by
  subst hws
  exact fun H locs ls hP hD hS hl0 => va_iast C.1 C.2.1 C.2.2.2.2.2.1 hP hD hS q0 t0 ha ht hi d (fun H1 locs1 hP1 hD1 hS1 => K H1 locs1 ls hP1 hD1 hS1 hl0)
theorem gV_lald (C : gC p l s m args meth c A D tys nL own cc Ts) {a : Nat} {cA : ClassId} {N : Nat} {f : Nat → Int64} {i : Int32} (q0 : Nat) (ha : ws[q0]? = some (a, .inl (cA, N, .inr (.inl f)))) (t0 : Nat) (ht : tys[t0]? = some (cA, .long)) (hi : vp_in i N) (d : decode cc pc = .ok (.laload, 1)) (K : gV p l e R s m args below meth c A D nL Q ws lvs k n (pc + 1) (.long (f i.toNatClampNeg) :: st)) : gV p l e R s m args below meth c A D nL Q ws lvs k n pc (.int i :: .ref a :: st) := fun H locs ls hP hD hS hl0 => va_lald C.1 C.2.1 C.2.2.2.2.2.1 hP q0 t0 ha ht hi d (K H locs ls hP hD hS hl0)
theorem gV_last (C : gC p l s m args meth c A D tys nL own cc Ts) {a : Nat} {cA : ClassId} {N : Nat} {f : Nat → Int64} {i : Int32} {x : Int64} (q0 : Nat) (ha : ws[q0]? = some (a, .inl (cA, N, .inr (.inl f)))) (t0 : Nat) (ht : tys[t0]? = some (cA, .long)) (hi : vp_in i N) (d : decode cc pc = .ok (.lastore, 1)) (hws : ws.set q0 (a, .inl (cA, N, .inr (.inl (vp_updL f i.toNatClampNeg x)))) = ws') (K : gV p l e R s m args below meth c A D nL Q ws' lvs k n (pc + 1) st) : gV p l e R s m args below meth c A D nL Q ws lvs k n pc (.long x :: .int i :: .ref a :: st) := by
  subst hws
  exact fun H locs ls hP hD hS hl0 => va_last C.1 C.2.1 C.2.2.2.2.2.1 hP hD hS q0 t0 ha ht hi d (fun H1 locs1 hP1 hD1 hS1 => K H1 locs1 ls hP1 hD1 hS1 hl0)
theorem gV_alen (C : gC p l s m args meth c A D tys nL own cc Ts) {a : Nat} {cA : ClassId} {x : vp_A} {ty : FieldType} {v : Int32} (q0 : Nat) (ha : ws[q0]? = some (a, .inl (cA, x))) (t0 : Nat) (ht : tys[t0]? = some (cA, ty)) (hv : Int32.ofNat x.1 = v) (d : decode cc pc = .ok (.arraylength, 1)) (K : gV p l e R s m args below meth c A D nL Q ws lvs k n (pc + 1) (.int v :: st)) : gV p l e R s m args below meth c A D nL Q ws lvs k n pc (.ref a :: st) := fun H locs ls hP hD hS hl0 => va_alen C.1 C.2.1 C.2.2.2.2.2.1 hP q0 t0 ha ht hv d (K H locs ls hP hD hS hl0)
theorem gV_newa (C : gC p l s m args meth c A D tys nL own cc Ts) {cA : ClassId} {N' : Nat} {z : Int32} {a0 : vp_A} (atype : ArrayType) {ty : FieldType} (hobj : ∀ C, ty ≠ .object C) (harr : (Cond.arrayClass (newarray.typeOf atype)).before args s = true) (hty : newarray.typeOf atype = ty) (t0 : Nat) (ht : tys[t0]? = some (cA, ty)) (ha : ∀ cA : ClassId, vp_cell cA a0 = arrV cA N' (fun _ => defaultValue ty)) (hn : ¬ z < 0) (hN : z.toNatClampNeg = N') (hbytes : N' * componentBytes ty ≤ 536870912) (hk : k + 1 ≤ R.cells) (hs : n + N' ≤ R.slots) (d : decode cc pc = .ok (.newarray atype, 2)) (K : ∀ q : Nat, gV p l e R s m args below meth c A D nL Q (ws ++ [(q, .inl (cA, a0))]) lvs (k + 1) (n + N') (pc + 2) (.ref q :: st)) : gV p l e R s m args below meth c A D nL Q ws lvs k n pc (.int z :: st) := by
  intro H locs ls hP hD hS hl0
  refine va_newa C.1 C.2.1 (atype := atype) harr hty C.2.2.2.2.2.1 hP hD hS C.2.2.2.2.2.2.1 ha hn hN hbytes hk hs d (fun q cB H1 hK1 hP1 hD1 hS1 => ?_)
  have e1 := (C.2.2.2.2.2.1.2 t0 _ ht).2
  have e2 := (hK1.2 tys.length (cB, ty) (by rw [List.getElem?_append_right (Nat.le_refl _), Nat.sub_self]; rfl)).2
  have e3 : cB = cA := by
    cases ty with
    | object C => exact absurd rfl (hobj C)
    | _ => exact Option.some.inj (Eq.trans (Eq.symm e2) e1)
  subst e3
  exact K q H1 locs ls hP1 hD1 hS1 hl0
theorem gV_new (C : gC p l s m args meth c A D tys nL own cc Ts) {Cn : String} {T : u_T} {N ci i : Nat} {fs : List Value} {ty0 : Nat → FieldType} (hin : ∀ w ∈ u_ws Cn T N, w ∈ Ts) (hty : ∀ k, k < N → parseFieldDescriptor (T k).2.2.1 = some (ty0 k)) (hcl : (Cond.classLink own i Cn).before args s = true) (hinst : (Cond.instantiable Cn N).before args s = true) (hini : (Cond.initialized Cn).before args s = true) (hc : vwCl[ci]? = some (Cn, T, N)) (hfs : ∀ j, j < N → defaultValue (ty0 j) = vp_V fs j) (hk : k + 1 ≤ R.cells) (hs : n + N ≤ R.slots) (d : decode cc pc = .ok (.new i, 3)) (K : ∀ q : Nat, gV p l e R s m args below meth c A D nL Q (ws ++ [(q, .inr (ci, fs))]) lvs (k + 1) (n + N) (pc + 3) (.ref q :: st)) : gV p l e R s m args below meth c A D nL Q ws lvs k n pc st := fun H locs ls hP hD hS hl0 => va_new C.1 C.2.1 C.2.2.2.2.1 hin ty0 hty C.2.2.2.1 hcl hinst hini C.2.2.2.2.2.1 hP hD hS C.2.2.2.2.2.2.1 hc hfs hk hs d (fun q H1 hP1 hD1 hS1 => K q H1 locs ls hP1 hD1 hS1 hl0)
theorem gV_objInit (C : gC p l s m args meth c A D tys nL own cc Ts) {i a : Nat} (hlink : (Cond.methodLink own i objectInit).before args s = true) (hins : (Cond.instanceMethod objectInit).before args s = true) (hcode : (Cond.code objectInit ⟨#[0xb1]⟩ 1 none).before args s = true) (d : decode cc pc = .ok (.invokespecial i, 3)) (h1 : 1 ≤ R.frames) (h2 : (st.map fun v => v.category).sum + 12 ≤ R.locals) (K : gV p l e R s m args below meth c A D nL Q ws lvs k n (pc + 3) st) : gV p l e R s m args below meth c A D nL Q ws lvs k n pc (.ref a :: st) := fun H locs ls hP hD hS hl0 => W.objInit C.1 C.2.1 C.2.2.2.1 hlink hins hcode rfl (by rw [C.2.2.1]; exact hl0.1) rfl d h1 (by simpa [F0, JFrame.monitorRoom] using h2) (W.eq (g2 := F0 m (pc + 3) ls st) rfl (K H locs ls hP hD hS hl0))
theorem gV_mmax (C : gC p l s m args meth c A D tys nL own cc Ts) {i : Nat} {x y : Int32} (hlink : (Cond.methodLink own i Lib.Math.max.name).before args s = true) (hstat : (Cond.static Lib.Math.max.name).before args s = true) (hini : (Cond.initialized "java/lang/Math").before args s = true) (hcode : (Cond.code Lib.Math.max.name Lib.Math.max.code 2 (some .int)).before args s = true) (h1 : 1 ≤ R.frames) (h2 : (st.map fun v => v.category).sum + 13 ≤ R.locals) (hk : k ≤ R.cells) (hs : n ≤ R.slots) (d : decode cc pc = .ok (.invokestatic i, 3)) (K : gV p l e R s m args below meth c A D nL Q ws lvs k n (pc + 3) (.int (g_max x y) :: st)) : gV p l e R s m args below meth c A D nL Q ws lvs k n pc (.int y :: .int x :: st) := fun H locs ls hP hD hS hl0 => va_mmax C.1 C.2.1 (by rw [C.2.2.1]; exact hl0.1.symm) C.2.2.2.1 hlink hstat hini hcode h1 h2 hk hs d (K H locs ls hP hD hS hl0)
theorem gV_copyi (C : gC p l s m args meth c A D tys nL own cc Ts) {i a0 a : Nat} {cA : ClassId} {n0 n1 : Nat} {f g : Nat → Int32} {sp dp z : Int32} (hlink : (Cond.methodLink own i arraycopyName).before args s = true) (hnat : (Cond.native arraycopyName).before args s = true) (hstat : (Cond.static arraycopyName).before args s = true) (hini : (Cond.initialized "java/lang/System").before args s = true) (q0 q1 : Nat) (ha0 : ws[q0]? = some (a0, .inl (cA, n0, .inl f))) (ha1 : ws[q1]? = some (a, .inl (cA, n1, .inl g))) (t0 : Nat) (ht : tys[t0]? = some (cA, .int)) (h1 : ¬ sp < 0) (h2 : ¬ dp < 0) (h3 : ¬ z < 0) (h4 : sp.toNatClampNeg + z.toNatClampNeg ≤ n0) (h5 : dp.toNatClampNeg + z.toNatClampNeg ≤ n1) (hR1 : 1 ≤ R.frames) (hR2 : (st.map fun v => v.category).sum + (nativeFrameWords "java/lang/System" "arraycopy" 5 + 11) ≤ R.locals) (d : decode cc pc = .ok (.invokestatic i, 3)) (hws : ws.set q1 (a, .inl (cA, n1, .inl (va_cpy f g sp.toNatClampNeg dp.toNatClampNeg z.toNatClampNeg))) = ws') (K : gV p l e R s m args below meth c A D nL Q ws' lvs k n (pc + 3) st) : gV p l e R s m args below meth c A D nL Q ws lvs k n pc (.int z :: .int dp :: .ref a :: .int sp :: .ref a0 :: st) := by
  subst hws
  exact fun H locs ls hP hD hS hl0 => va_copyi C.1 C.2.1 (by rw [C.2.2.1]; exact hl0.1.symm) C.2.2.2.1 hlink hnat hstat hini C.2.2.2.2.2.1 hP hD hS q0 q1 t0 t0 ha0 ha1 ht ht rfl h1 h2 h3 h4 h5 (fun _ _ => rfl) hR1 hR2 d (fun H1 locs1 hP1 hD1 hS1 => K H1 locs1 ls hP1 hD1 hS1 hl0)
/-- the callee's cells wc among ws, the rest wr -/
def gSub (ws wc wr : va_W) : Prop := ∃ isC isR : List Nat, isC.map (fun i => ws[i]?) = wc.map some ∧ isR.map (fun i => ws[i]?) = wr.map some ∧ va_nd isC = true ∧ va_nd isR = true ∧ (∀ i ∈ isR, i ∉ isC)
theorem gSub.mk {ws wc wr : va_W} (isC isR : List Nat) (h1 : isC.map (fun i => ws[i]?) = wc.map some) (h2 : isR.map (fun i => ws[i]?) = wr.map some) (h3 : va_nd isC = true) (h4 : va_nd isR = true) (h5 : ∀ i ∈ isR, i ∉ isC) : gSub ws wc wr := ⟨isC, isR, h1, h2, h3, h4, h5⟩
theorem g_range_map (ws : va_W) : (List.range ws.length).map (fun i => ws[i]?) = ws.map some := by
  apply List.ext_getElem?
  intro i
  rw [List.getElem?_map, List.getElem?_map]
  by_cases h : i < ws.length
  · rw [List.getElem?_range h]
    simp [h]
  · rw [List.getElem?_eq_none (by simpa using h), List.getElem?_eq_none (by omega)]; rfl
theorem va_nd_range : ∀ n, va_nd (List.range n) = true := by
  have key : ∀ l : List Nat, l.Nodup → va_nd l = true := by
    intro l
    induction l with
    | nil => intro _; rfl
    | cons a l ih => intro h; rw [List.nodup_cons] at h; simp only [va_nd, Bool.and_eq_true, decide_eq_true_eq]; exact ⟨h.1, ih h.2⟩
  exact fun n => key _ List.nodup_range
theorem gSub_S (ws : va_W) : gSub ws ws [] := ⟨List.range ws.length, [], g_range_map ws, rfl, va_nd_range _, rfl, fun i h => absurd h List.not_mem_nil⟩
theorem gSub_E (ws : va_W) : gSub ws [] ws := ⟨[], List.range ws.length, rfl, g_range_map ws, rfl, va_nd_range _, fun i _ h => absurd h List.not_mem_nil⟩
theorem g_fm {ws wc : va_W} {is : List Nat} (h : is.map (fun i => ws[i]?) = wc.map some) : is.filterMap (fun i => ws[i]?) = wc := by
  induction is generalizing wc with
  | nil => cases wc with | nil => rfl | cons a b => cases h
  | cons i is ih =>
    cases wc with
    | nil => cases h
    | cons a b =>
      simp only [List.map_cons, List.cons.injEq] at h
      rw [List.filterMap_cons, h.1]
      simp only [List.cons.injEq, true_and]
      exact ih h.2
def gRun (p : Program) (l : Launch) (e : Env) (R : Room) (s : State) (m : MethodId) (args : Array Value) (below : List Frame) (meth : Method) (c : Code) (A : Nat → Prop) (D : va_G) (nL : Nat) (ws : va_W) (lvs : List (Nat × Value)) (k n pc : Nat) (st rest : List Value) (mc ms : Nat) (wc : va_W) (Qa : Nat → State → Outcome → State → Prop) (XC : Nat → String → State → State → Prop) : Prop :=
  ∀ (H : Heap) (locs : List Loc) (ls : Array Slot), va_P D vwCl ws H → va_D A ws → va_S A s.heap H locs → lv_has ls nL lvs → vx_Run p l e R s m args below meth c H locs k n mc ms (F0 m pc ls st) rest (Qa H.size) (XC H.size) (va_A wc H.size)
theorem g_pre (C : gC p l s m args meth c A D tys nL own cc Ts) {wc : va_W} {isC : List Nat} (hC : isC.map (fun i => ws[i]?) = wc.map some) (hnd : va_nd isC = true) {H : Heap} {locs : List Loc} (hP : va_P D vwCl ws H) (hD : va_D A ws) (hS : va_S A s.heap H locs) (av : List Value) {U : State} (hU : U.heap = H) (hW : s.WarmedH U.vm) : gPre D tys wc av H.size av.toArray U := by
  refine ⟨rfl, by rw [hU], by rw [hU]; exact hP.sub isC (g_fm hC), va_K.moved hW.alike C.2.2.2.2.2.1, (hD.sub isC hnd hC).weaken (fun _ _ _ _ => trivial), ?_⟩
  rw [hU]
  exact gX.narrow (gX.warm hW (gX.kept C.2.2.2.2.2.2.2.2.1 hS.2.1)) (va_free hD hS C.2.2.2.2.2.2.1 isC hC)
theorem g_blind (D : va_G) (tys : List (ClassId × FieldType)) (w0 : va_W) (av : List Value) (sz : Nat) : FrameBlind (gPre D tys w0 av sz) := by
  intro a U g mk h
  obtain ⟨h1, h2, h3, h4, h5, h6⟩ := h
  exact ⟨h1, h2, h3, va_K.moved (u := U) (U := U.calling g mk a) (Vm.Alike.refl U.vm) h4, h5, gX.same (s := U) (U := U.calling g mk a) rfl h6⟩

theorem gV_runV (C : gC p l s m args meth c A D tys nL own cc Ts) {y : MethodName} {bytes : ByteArray} {maxL mc ms nA i : Nat} {ws2 : List Cond} {rm : Room} {wc wr : va_W} {As rest : List Value} {b : Nat} {Qf : Nat → Array Value → State → Outcome → State → Prop} {px : String → va_W → Prop} {Cn : String} {ret : Option FieldType} {T : u_T} {N ci : Nat} {fs : List Value} (hM : gM l y ws2 rm D tys wc (.ref b :: As) mc ms Qf px) (cw : CallW R s args own Cn i y bytes maxL ret ws2 rm mc ms nA) (hs : gSub ws wc wr) (q0 : Nat) (he : ws[q0]? = some (b, .inr (ci, fs))) (hcl : vwCl[ci]? = some (Cn, T, N)) (hn : As.length = nA) (hst : st = As.reverse ++ .ref b :: rest) (hcat : (rest.map fun v => v.category).sum ≤ 8) (d : decode cc pc = .ok (.invokevirtual i, 3)) (hf : k + mc ≤ R.cells ∧ n + ms ≤ R.slots) : gRun p l e R s m args below meth c A D nL ws lvs k n pc st rest mc ms wc (fun sz => Qf sz (Value.ref b :: As).toArray) (gXx px D tys wc) := by
  intro H locs ls hP hD hS hl0
  obtain ⟨isC, isR, hC, hR, hn1, hn2, hdis⟩ := hs
  exact vx_runV ⟨C.1, C.2.1, C.2.2.1, C.2.2.2.1, C.2.2.2.2.1⟩ (hM H.size) cw ⟨g_blind _ _ _ _ _, va_recv C.2.2.2.2.2.1 hP hcl he, fun U hU hW => g_pre C hC hn1 hP hD hS _ hU hW⟩ rfl hn hl0.1 hst (lv_room hcat) d hf
theorem gV_runS (C : gC p l s m args meth c A D tys nL own cc Ts) {y : MethodName} {bytes : ByteArray} {maxL mc ms nA i : Nat} {ws2 : List Cond} {rm : Room} {wc wr : va_W} {As rest : List Value} {b : Nat} {Qf : Nat → Array Value → State → Outcome → State → Prop} {px : String → va_W → Prop} {ret : Option FieldType} (hM : gM l y ws2 rm D tys wc As mc ms Qf px) (cw : CallB R s args own i y bytes maxL ret ws2 rm mc ms nA ∧ (Cond.static y).before args s = true) (hs : gSub ws wc wr) (hn : As.length = nA) (hst : st = As.reverse ++ rest) (hcat : (rest.map fun v => v.category).sum ≤ 8) (d : decode cc pc = .ok (.invokestatic i, 3)) (hf : k + mc ≤ R.cells ∧ n + ms ≤ R.slots) : gRun p l e R s m args below meth c A D nL ws lvs k n pc st rest mc ms wc (fun sz => Qf sz As.toArray) (gXx px D tys wc) := by
  intro H locs ls hP hD hS hl0
  obtain ⟨isC, isR, hC, hR, hn1, hn2, hdis⟩ := hs
  exact vx_runS ⟨C.1, C.2.1, C.2.2.1, C.2.2.2.1, C.2.2.2.2.1⟩ (hM H.size) cw ⟨g_blind _ _ _ _ _, fun U hU hW => g_pre C hC hn1 hP hD hS _ hU hW⟩ rfl hn hl0.1 hst (lv_room hcat) d hf
theorem gV_calli (C : gC p l s m args meth c A D tys nL own cc Ts) {mc ms : Nat} {wc wr : va_W} {rest : List Value} {a : Array Value} {post : Int32 → va_W → Prop} {px : String → va_W → Prop} (hs : gSub ws wc wr) (hr : gRun p l e R s m args below meth c A D nL ws lvs k n pc st rest mc ms wc (fun sz => gQi post D tys wc sz a) (gXx px D tys wc)) (kx : ∀ (E : String) (w1 : va_W), px E w1 → gT p l e R s m args below meth c A D nL Q E (wr ++ w1) lvs (k + mc) (n + ms) pc rest) (kk : ∀ (r : Int32) (w1 : va_W), post r w1 → gV p l e R s m args below meth c A D nL Q (wr ++ w1) lvs (k + mc) (n + ms) (pc + 3) (.int r :: rest)) : gV p l e R s m args below meth c A D nL Q ws lvs k n pc st := by
  intro H locs ls hP hD hS hl0
  obtain ⟨isC, isR, hC, hR, hn1, hn2, hdis⟩ := hs
  have hF := va_free hD hS C.2.2.2.2.2.2.1 isC hC
  refine vx_calli (hr H locs ls hP hD hS hl0) hS (fun q _ h => hF q h) hF (fun q _ h => hF q h) (fun E ce q9 w1 t H1 locs1 ht hvm _ hB hz hk hS1 hce hv hcl => ?_) (fun r w1 t H1 locs1 ht hvm hp hB hz hk hS1 => ?_)
  · obtain ⟨hpx, hP1, hK1, hD1⟩ := hB
    rw [ht] at hP1
    obtain ⟨hP2, hD2⟩ := va_join hP hD isC isR hC hR hn2 hdis hk hF hP1 hD1
    exact kx E w1 hpx H1 locs1 ls ce q9 hP2 hD2 hS1 hl0 hce hv hcl
  · obtain ⟨hP1, hK1, hD1⟩ := hB
    rw [ht] at hP1
    obtain ⟨hP2, hD2⟩ := va_join hP hD isC isR hC hR hn2 hdis hk hF hP1 hD1
    exact kk r w1 hp H1 locs1 ls hP2 hD2 hS1 hl0
theorem gV_calll (C : gC p l s m args meth c A D tys nL own cc Ts) {mc ms : Nat} {wc wr : va_W} {rest : List Value} {a : Array Value} {post : Int64 → va_W → Prop} {px : String → va_W → Prop} (hs : gSub ws wc wr) (hr : gRun p l e R s m args below meth c A D nL ws lvs k n pc st rest mc ms wc (fun sz => gQl post D tys wc sz a) (gXx px D tys wc)) (kx : ∀ (E : String) (w1 : va_W), px E w1 → gT p l e R s m args below meth c A D nL Q E (wr ++ w1) lvs (k + mc) (n + ms) pc rest) (kk : ∀ (r : Int64) (w1 : va_W), post r w1 → gV p l e R s m args below meth c A D nL Q (wr ++ w1) lvs (k + mc) (n + ms) (pc + 3) (.long r :: rest)) : gV p l e R s m args below meth c A D nL Q ws lvs k n pc st := by
  intro H locs ls hP hD hS hl0
  obtain ⟨isC, isR, hC, hR, hn1, hn2, hdis⟩ := hs
  have hF := va_free hD hS C.2.2.2.2.2.2.1 isC hC
  refine vx_calll (hr H locs ls hP hD hS hl0) hS (fun q _ h => hF q h) hF (fun q _ h => hF q h) (fun E ce q9 w1 t H1 locs1 ht hvm _ hB hz hk hS1 hce hv hcl => ?_) (fun r w1 t H1 locs1 ht hvm hp hB hz hk hS1 => ?_)
  · obtain ⟨hpx, hP1, hK1, hD1⟩ := hB
    rw [ht] at hP1
    obtain ⟨hP2, hD2⟩ := va_join hP hD isC isR hC hR hn2 hdis hk hF hP1 hD1
    exact kx E w1 hpx H1 locs1 ls ce q9 hP2 hD2 hS1 hl0 hce hv hcl
  · obtain ⟨hP1, hK1, hD1⟩ := hB
    rw [ht] at hP1
    obtain ⟨hP2, hD2⟩ := va_join hP hD isC isR hC hR hn2 hdis hk hF hP1 hD1
    exact kk r w1 hp H1 locs1 ls hP2 hD2 hS1 hl0
theorem gV_callv (C : gC p l s m args meth c A D tys nL own cc Ts) {mc ms : Nat} {wc wr : va_W} {rest : List Value} {a : Array Value} {post : va_W → Prop} {px : String → va_W → Prop} (hs : gSub ws wc wr) (hr : gRun p l e R s m args below meth c A D nL ws lvs k n pc st rest mc ms wc (fun sz => gQv post D tys wc sz a) (gXx px D tys wc)) (kx : ∀ (E : String) (w1 : va_W), px E w1 → gT p l e R s m args below meth c A D nL Q E (wr ++ w1) lvs (k + mc) (n + ms) pc rest) (kk : ∀ w1 : va_W, post w1 → gV p l e R s m args below meth c A D nL Q (wr ++ w1) lvs (k + mc) (n + ms) (pc + 3) (rest)) : gV p l e R s m args below meth c A D nL Q ws lvs k n pc st := by
  intro H locs ls hP hD hS hl0
  obtain ⟨isC, isR, hC, hR, hn1, hn2, hdis⟩ := hs
  have hF := va_free hD hS C.2.2.2.2.2.2.1 isC hC
  refine vx_callv (hr H locs ls hP hD hS hl0) hS (fun q _ h => hF q h) hF (fun q _ h => hF q h) (fun E ce q9 w1 t H1 locs1 ht hvm _ hB hz hk hS1 hce hv hcl => ?_) (fun w1 t H1 locs1 ht hvm hp hB hz hk hS1 => ?_)
  · obtain ⟨hpx, hP1, hK1, hD1⟩ := hB
    rw [ht] at hP1
    obtain ⟨hP2, hD2⟩ := va_join hP hD isC isR hC hR hn2 hdis hk hF hP1 hD1
    exact kx E w1 hpx H1 locs1 ls ce q9 hP2 hD2 hS1 hl0 hce hv hcl
  · obtain ⟨hP1, hK1, hD1⟩ := hB
    rw [ht] at hP1
    obtain ⟨hP2, hD2⟩ := va_join hP hD isC isR hC hR hn2 hdis hk hF hP1 hD1
    exact kk w1 hp H1 locs1 ls hP2 hD2 hS1 hl0
end GV
section GB
variable {l : Launch}
abbrev gNames : List String := ["java/lang/RuntimeException", "java/lang/Exception"]
/-- what a throw of the class E at the constructor's place ic wants of the words -/
def gTw (Ts : List Cond) (E : String) (ic ik : Nat) : Prop := Bundle.fit E = true ∧ Cond.classLink RX3 ik E ∈ Ts ∧ Cond.initialized E ∈ Ts ∧ (∀ w ∈ (vx_atS RX3 ic E gNames).filter goodWord, w ∈ Ts) ∧ (∀ w ∈ (vx_atS RX3 ic E gNames).filter (fun w => !goodWord w), w ∈ [Cond.castable E E, Cond.declares (Bundle.initS "java/lang/RuntimeException"), Cond.declares (Bundle.initS "java/lang/Exception"), Cond.declares (Bundle.initS Bundle.tN)]) ∧ ∀ w ∈ Cond.classLink RX3 ik E :: Cond.initialized E :: vx_atS RX3 ic E gNames, vx_ot w = true
def gCast (E : String) : Prop := E = "java/lang/IllegalArgumentException" ∨ E = "java/lang/IndexOutOfBoundsException" ∨ E = "java/lang/IllegalStateException"
theorem gX.cast {A : Nat → Prop} {U : State} {H : Heap} (h : gX A U H) {E : String} (hE : gCast E) : va_Nw (.castable E E) U := by
  rcases hE with rfl | rfl | rfl
  · exact h.2.2.1.1
  · exact h.2.2.1.2.1
  · exact h.2.2.1.2.2.1
def gRet (p : Program) (l : Launch) (e : Env) (R : Room) (s : State) (m : MethodId) (args : Array Value) (below : List Frame) (meth : Method) (c : Code) (A : Nat → Prop) (D : va_G) (nL : Nat) (Q : State → Prop) (cc : ByteArray) (rt : FieldType) (mc ms : Nat) (post : Int32 → va_W → Prop) : Prop := ∀ (ws : va_W) (lvs : List (Nat × Value)) (k n pc : Nat) (r : Int32), decode cc pc = .ok (.ireturn, 1) → k ≤ mc → n ≤ ms → narrow rt (.int r) = .int r → post r ws → gV p l e R s m args below meth c A D nL Q ws lvs k n pc [.int r]
def gRetL (p : Program) (l : Launch) (e : Env) (R : Room) (s : State) (m : MethodId) (args : Array Value) (below : List Frame) (meth : Method) (c : Code) (A : Nat → Prop) (D : va_G) (nL : Nat) (Q : State → Prop) (cc : ByteArray) (mc ms : Nat) (post : Int64 → va_W → Prop) : Prop := ∀ (ws : va_W) (lvs : List (Nat × Value)) (k n pc : Nat) (r : Int64), decode cc pc = .ok (.lreturn, 1) → k ≤ mc → n ≤ ms → post r ws → gV p l e R s m args below meth c A D nL Q ws lvs k n pc [.long r]
def gRetV (p : Program) (l : Launch) (e : Env) (R : Room) (s : State) (m : MethodId) (args : Array Value) (below : List Frame) (meth : Method) (c : Code) (A : Nat → Prop) (D : va_G) (nL : Nat) (Q : State → Prop) (cc : ByteArray) (mc ms : Nat) (post : va_W → Prop) : Prop := ∀ (ws : va_W) (lvs : List (Nat × Value)) (k n pc : Nat), decode cc pc = .ok (.return_, 1) → k ≤ mc → n ≤ ms → post ws → gV p l e R s m args below meth c A D nL Q ws lvs k n pc []
/-- an exception that goes on to the caller -/
def gOut (p : Program) (l : Launch) (e : Env) (R : Room) (s : State) (m : MethodId) (args : Array Value) (below : List Frame) (meth : Method) (c : Code) (A : Nat → Prop) (D : va_G) (nL : Nat) (Q : State → Prop) (mc ms : Nat) (px : String → va_W → Prop) : Prop := ∀ (E : String) (ws : va_W) (lvs : List (Nat × Value)) (k n pc : Nat) (st : List Value), px E ws → k ≤ mc → n ≤ ms → gT p l e R s m args below meth c A D nL Q E ws lvs k n pc st
/-- throw new E("text") -/
def gThr (p : Program) (l : Launch) (e : Env) (R : Room) (s : State) (m : MethodId) (args : Array Value) (below : List Frame) (meth : Method) (c : Code) (A : Nat → Prop) (D : va_G) (nL : Nat) (Q : State → Prop) (cc : ByteArray) (Ts : List Cond) (mc ms : Nat) (px : String → va_W → Prop) : Prop := ∀ (E text : String) (ic ik is : Nat) (ws : va_W) (lvs : List (Nat × Value)) (k n pc : Nat) (st : List Value), px E ws → gTw Ts E ic ik → gCast E → (is, text) ∈ gStr → decode cc pc = .ok (.new ik, 3) → decode cc (pc + 3) = .ok (.dup, 1) → decode cc (pc + 4) = .ok (.ldc is, 2) → decode cc (pc + 6) = .ok (.invokespecial ic, 3) → decode cc (pc + 9) = .ok (.athrow, 1) → 5 < R.frames → (st.map fun v => v.category).sum + 82 ≤ R.locals → k + 1 ≤ R.cells → n + 6 ≤ R.slots → k + 1 ≤ mc → n + 6 ≤ ms → gV p l e R s m args below meth c A D nL Q ws lvs k n pc st
/-- the same, the text by a wide index -/
def gThrW (p : Program) (l : Launch) (e : Env) (R : Room) (s : State) (m : MethodId) (args : Array Value) (below : List Frame) (meth : Method) (c : Code) (A : Nat → Prop) (D : va_G) (nL : Nat) (Q : State → Prop) (cc : ByteArray) (Ts : List Cond) (mc ms : Nat) (px : String → va_W → Prop) : Prop := ∀ (E text : String) (ic ik is : Nat) (ws : va_W) (lvs : List (Nat × Value)) (k n pc : Nat) (st : List Value), px E ws → gTw Ts E ic ik → gCast E → (is, text) ∈ gStr → decode cc pc = .ok (.new ik, 3) → decode cc (pc + 3) = .ok (.dup, 1) → decode cc (pc + 4) = .ok (.ldc_w is, 3) → decode cc (pc + 7) = .ok (.invokespecial ic, 3) → decode cc (pc + 10) = .ok (.athrow, 1) → 5 < R.frames → (st.map fun v => v.category).sum + 82 ≤ R.locals → k + 1 ≤ R.cells → n + 6 ≤ R.slots → k + 1 ≤ mc → n + 6 ≤ ms → gV p l e R s m args below meth c A D nL Q ws lvs k n pc st
theorem g_hat {p : Program} {s : State} {m : MethodId} {args : Array Value} {meth : Method} {c : Code} {A : Nat → Prop} {D : va_G} {nL : Nat} {tys : List (ClassId × FieldType)} {own : String} {cc : ByteArray} {Ts : List Cond} (C : gC p l s m args meth c A D tys nL own cc Ts) {E : String} {ic ik : Nat} (h : gTw Ts E ic ik) (hE : gCast E) : ∀ w ∈ vx_atS RX3 ic E gNames, w.before args s = true := by
  refine vx_hat (B := [Cond.castable E E, Cond.declares (Bundle.initS "java/lang/RuntimeException"), Cond.declares (Bundle.initS "java/lang/Exception"), Cond.declares (Bundle.initS Bundle.tN)]) (fun w hw => C.2.2.2.2.1 w (h.2.2.2.1 w hw)) h.2.2.2.2.1 ?_
  have X := C.2.2.2.2.2.2.2.2.1
  exact vx_c (va_Nw.use rfl (gX.cast X hE)) (vx_c (va_Nw.use rfl X.2.2.1.2.2.2.1) (vx_c (va_Nw.use rfl X.2.2.1.2.2.2.2.1) (vx_c (va_Nw.use rfl X.2.2.1.2.2.2.2.2) vx_n)))

theorem g_thr {p : Program} {e : Env} {R : Room} {s : State} {m : MethodId} {args : Array Value} {below : List Frame} {meth : Method} {c : Code} {D : va_G} {nL : Nat} {tys : List (ClassId × FieldType)} {cc : ByteArray} {Ts : List Cond} {w0 : va_W} {mc ms : Nat} {px : String → va_W → Prop} {Qc : Array Value → State → Outcome → State → Prop} (C : gC p l s m args meth c (va_A w0 s.heap.size) D tys nL RX3 cc Ts) (hK : va_K D vwCl tys s) (ht : ∀ x ∈ c.exceptionTable.toList, False) : gThr p l e R s m args below meth c (va_A w0 s.heap.size) D nL (vx_MQ below Qc (gXx px D tys w0 s.heap.size) args s mc ms (va_A w0 s.heap.size)) cc Ts mc ms px := by
  intro E text ic ik is ws lvs k n pc st hpx hw hE hstr d0 d3 d4 d6 d9 hR1 hR2 hR3 hR4 hm1 hm2 H locs ls hP hD hS hl0
  obtain ⟨sa, hsa⟩ := C.2.2.2.2.2.2.2.2.1.2.2.2.2 (is, text) hstr
  exact vx_throwS (text := text) (names := gNames) C.1 C.2.1 C.2.2.2.2.2.2.2.2.2 C.2.2.2.1 hw.1 (by decide +kernel) (C.2.2.2.2.1 _ hw.2.1) (C.2.2.2.2.1 _ hw.2.2.1) hsa (g_hat C hw hE) hw.2.2.2.2.2 C.2.2.2.2.2.2.2.2.1.1 C.2.2.2.2.2.2.2.2.1.2.1 hS (by rw [C.2.2.1]; exact hl0.1) d0 d3 d4 d6 d9 (fun x hx => (ht x hx).elim) hR1 hR2 hR3 hR4 C.2.2.2.2.2.2.2.1 (fun t hvm hz hk => ⟨ws, trivial, ⟨hpx, fun i q hq => (hP i q hq).kept (hk q.1 (hP i q hq).lt), va_K.moved hvm hK, hD⟩, ⟨Nat.le_trans hS.1 hz, fun q h1 h2 => (hk q (Nat.lt_of_lt_of_le h1 hS.1)).trans (hS.2.1 q h1 h2)⟩⟩) hS.2.2 hm1 hm2
theorem g_thrW {p : Program} {e : Env} {R : Room} {s : State} {m : MethodId} {args : Array Value} {below : List Frame} {meth : Method} {c : Code} {D : va_G} {nL : Nat} {tys : List (ClassId × FieldType)} {cc : ByteArray} {Ts : List Cond} {w0 : va_W} {mc ms : Nat} {px : String → va_W → Prop} {Qc : Array Value → State → Outcome → State → Prop} (C : gC p l s m args meth c (va_A w0 s.heap.size) D tys nL RX3 cc Ts) (hK : va_K D vwCl tys s) (ht : ∀ x ∈ c.exceptionTable.toList, False) : gThrW p l e R s m args below meth c (va_A w0 s.heap.size) D nL (vx_MQ below Qc (gXx px D tys w0 s.heap.size) args s mc ms (va_A w0 s.heap.size)) cc Ts mc ms px := by
  intro E text ic ik is ws lvs k n pc st hpx hw hE hstr d0 d3 d4 d6 d9 hR1 hR2 hR3 hR4 hm1 hm2 H locs ls hP hD hS hl0
  obtain ⟨sa, hsa⟩ := C.2.2.2.2.2.2.2.2.1.2.2.2.2 (is, text) hstr
  exact vx_throwSW (text := text) (names := gNames) C.1 C.2.1 C.2.2.2.2.2.2.2.2.2 C.2.2.2.1 hw.1 (by decide +kernel) (C.2.2.2.2.1 _ hw.2.1) (C.2.2.2.2.1 _ hw.2.2.1) hsa (g_hat C hw hE) hw.2.2.2.2.2 C.2.2.2.2.2.2.2.2.1.1 C.2.2.2.2.2.2.2.2.1.2.1 hS (by rw [C.2.2.1]; exact hl0.1) d0 d3 d4 d6 d9 (fun x hx => (ht x hx).elim) hR1 hR2 hR3 hR4 C.2.2.2.2.2.2.2.1 (fun t hvm hz hk => ⟨ws, trivial, ⟨hpx, fun i q hq => (hP i q hq).kept (hk q.1 (hP i q hq).lt), va_K.moved hvm hK, hD⟩, ⟨Nat.le_trans hS.1 hz, fun q h1 h2 => (hk q (Nat.lt_of_lt_of_le h1 hS.1)).trans (hS.2.1 q h1 h2)⟩⟩) hS.2.2 hm1 hm2
theorem gMi_of {y : MethodName} {ws ws' : List Cond} {rm : Room} {D : va_G} {tys : List (ClassId × FieldType)} {w0 : va_W} {av : List Value} {mc ms : Nat} {post : Int32 → va_W → Prop} {px : String → va_W → Prop} {cc : ByteArray} {maxL : Nat} {rt : FieldType}  (hl : l.stackTraces = false) (hy : plainName y.cls = true) (hw : ws = Cond.code y cc maxL (some rt) :: ws') (hmax : (lg_sl av).length ≤ maxL) (body : ∀ (p : Program) (e : Env) (s : State) (m : MethodId) (args : Array Value) (below : List Frame) (meth : Method) (c : Code) (A : Nat → Prop) (Q : State → Prop), gC p l s m args meth c A D tys maxL y.cls cc ws → meth.name = y.name → (∀ x ∈ c.exceptionTable.toList, False) → gRet p l e rm s m args below meth c A D maxL Q cc rt mc ms post → gOut p l e rm s m args below meth c A D maxL Q mc ms px → (y.cls = RX3 → gThr p l e rm s m args below meth c A D maxL Q cc ws mc ms px) → (y.cls = RX3 → gThrW p l e rm s m args below meth c A D maxL Q cc ws mc ms px) → gV p l e rm s m args below meth c A D maxL Q w0 (lv_args 0 av) 0 0 0 []) : gMi l y ws rm D tys w0 av mc ms post px := by
  intro sz
  refine vx_ofW (cc := cc) (maxL := maxL) (ret := (some rt)) hy hw ?_
  intro p e s m args below meth c s₁ B hml ht hv
  obtain ⟨rfl, hsz, hP, hK, hD0, hX⟩ := hv
  subst hsz
  have hts := atoms_spec (ws := ws) B.pre
  have hr := B.returns
  
  have hD := hD0.self (sz := s.heap.size)
  have C : gC p l s m av.toArray meth c (va_A w0 s.heap.size) D tys maxL y.cls cc ws := ⟨B.exec, B.bytes, hml, findClass_of_methodNamed B.named, hts, hK, fun q h => Or.inr h, B.notSynchronized, hX, hl⟩
  have hl1 := lv_entry av hmax
  rw [lg_entry_eq]
  refine body p e s m av.toArray below meth c (va_A w0 s.heap.size) _ C (name_of_methodNamed B.named B.method).1 ht ?_ ?_ ?_ ?_ s.heap [] _ hP hD va_S.rf hl1
  · intro ws lvs k n pc r d hk hn hnar hp H locs ls hP hD hS hl0
    exact W.widen hk hn (vx_ret (W.zret C.1 C.2.1 hr hnar (fun t ht hW => ⟨⟨r, ws, rfl, hp, by rw [ht]; exact hP, va_K.moved hW.alike hK, hD⟩, hS.F ht⟩) hS.2.2 d C.2.2.2.2.2.2.2.1))
  · intro E ws1 lvs k n pc st hpx hk hn H locs ls ce q hP hD hS hl0 hce hv hcl
    exact vx_out (fun x hx => (ht x hx).elim) C.2.2.2.2.2.2.2.1 hce hv hcl (fun t h1 h2 => ⟨ws1, trivial, ⟨hpx, by rw [h1]; exact hP, va_K.moved h2 hK, hD⟩, hS.F h1⟩) hS.2.2 hk hn
  · intro hR
    rw [hR] at C
    exact g_thr C hK ht
  · intro hR
    rw [hR] at C
    exact g_thrW C hK ht
theorem gMi_ofH {y : MethodName} {ws ws' : List Cond} {rm : Room} {D : va_G} {tys : List (ClassId × FieldType)} {w0 : va_W} {av : List Value} {mc ms : Nat} {post : Int32 → va_W → Prop} {px : String → va_W → Prop} {cc : ByteArray} {maxL : Nat} {rt : FieldType} {hh : List (Nat × Nat × Nat × Nat)} (hl : l.stackTraces = false) (hy : plainName y.cls = true) (hw : ws = Cond.codeWith y cc maxL (some rt) hh :: ws') (hmax : (lg_sl av).length ≤ maxL) (body : ∀ (p : Program) (e : Env) (s : State) (m : MethodId) (args : Array Value) (below : List Frame) (meth : Method) (c : Code) (A : Nat → Prop) (Q : State → Prop), gC p l s m args meth c A D tys maxL y.cls cc ws → meth.name = y.name → (c.exceptionTable.toList = tableOf hh) → gRet p l e rm s m args below meth c A D maxL Q cc rt mc ms post → gV p l e rm s m args below meth c A D maxL Q w0 (lv_args 0 av) 0 0 0 []) : gMi l y ws rm D tys w0 av mc ms post px := by
  intro sz
  refine vx_ofWH (cc := cc) (maxL := maxL) (ret := (some rt)) hy hw ?_
  intro p e s m args below meth c s₁ B hml hv
  obtain ⟨rfl, hsz, hP, hK, hD0, hX⟩ := hv
  subst hsz
  have hts := atoms_spec (ws := ws) B.pre
  have hr := B.returns
  have ht := vx_table (x := y) B (hts _ (by rw [hw]; exact List.mem_cons_self))
  have hD := hD0.self (sz := s.heap.size)
  have C : gC p l s m av.toArray meth c (va_A w0 s.heap.size) D tys maxL y.cls cc ws := ⟨B.exec, B.bytes, hml, findClass_of_methodNamed B.named, hts, hK, fun q h => Or.inr h, B.notSynchronized, hX, hl⟩
  have hl1 := lv_entry av hmax
  rw [lg_entry_eq]
  refine body p e s m av.toArray below meth c (va_A w0 s.heap.size) _ C (name_of_methodNamed B.named B.method).1 ht ?_ s.heap [] _ hP hD va_S.rf hl1
  · intro ws lvs k n pc r d hk hn hnar hp H locs ls hP hD hS hl0
    exact W.widen hk hn (vx_ret (W.zret C.1 C.2.1 hr hnar (fun t ht hW => ⟨⟨r, ws, rfl, hp, by rw [ht]; exact hP, va_K.moved hW.alike hK, hD⟩, hS.F ht⟩) hS.2.2 d C.2.2.2.2.2.2.2.1))
theorem gMl_of {y : MethodName} {ws ws' : List Cond} {rm : Room} {D : va_G} {tys : List (ClassId × FieldType)} {w0 : va_W} {av : List Value} {mc ms : Nat} {post : Int64 → va_W → Prop} {px : String → va_W → Prop} {cc : ByteArray} {maxL : Nat}   (hl : l.stackTraces = false) (hy : plainName y.cls = true) (hw : ws = Cond.code y cc maxL (some .long) :: ws') (hmax : (lg_sl av).length ≤ maxL) (body : ∀ (p : Program) (e : Env) (s : State) (m : MethodId) (args : Array Value) (below : List Frame) (meth : Method) (c : Code) (A : Nat → Prop) (Q : State → Prop), gC p l s m args meth c A D tys maxL y.cls cc ws → meth.name = y.name → (∀ x ∈ c.exceptionTable.toList, False) → gRetL p l e rm s m args below meth c A D maxL Q cc mc ms post → gOut p l e rm s m args below meth c A D maxL Q mc ms px → (y.cls = RX3 → gThr p l e rm s m args below meth c A D maxL Q cc ws mc ms px) → (y.cls = RX3 → gThrW p l e rm s m args below meth c A D maxL Q cc ws mc ms px) → gV p l e rm s m args below meth c A D maxL Q w0 (lv_args 0 av) 0 0 0 []) : gMl l y ws rm D tys w0 av mc ms post px := by
  intro sz
  refine vx_ofW (cc := cc) (maxL := maxL) (ret := (some .long)) hy hw ?_
  intro p e s m args below meth c s₁ B hml ht hv
  obtain ⟨rfl, hsz, hP, hK, hD0, hX⟩ := hv
  subst hsz
  have hts := atoms_spec (ws := ws) B.pre
  have hr := B.returns
  
  have hD := hD0.self (sz := s.heap.size)
  have C : gC p l s m av.toArray meth c (va_A w0 s.heap.size) D tys maxL y.cls cc ws := ⟨B.exec, B.bytes, hml, findClass_of_methodNamed B.named, hts, hK, fun q h => Or.inr h, B.notSynchronized, hX, hl⟩
  have hl1 := lv_entry av hmax
  rw [lg_entry_eq]
  refine body p e s m av.toArray below meth c (va_A w0 s.heap.size) _ C (name_of_methodNamed B.named B.method).1 ht ?_ ?_ ?_ ?_ s.heap [] _ hP hD va_S.rf hl1
  · intro ws lvs k n pc r d hk hn hp H locs ls hP hD hS hl0
    exact W.widen hk hn (vx_ret (W.lret C.1 C.2.1 hr (fun t ht hW => ⟨⟨r, ws, rfl, hp, by rw [ht]; exact hP, va_K.moved hW.alike hK, hD⟩, hS.F ht⟩) hS.2.2 d C.2.2.2.2.2.2.2.1))
  · intro E ws1 lvs k n pc st hpx hk hn H locs ls ce q hP hD hS hl0 hce hv hcl
    exact vx_out (fun x hx => (ht x hx).elim) C.2.2.2.2.2.2.2.1 hce hv hcl (fun t h1 h2 => ⟨ws1, trivial, ⟨hpx, by rw [h1]; exact hP, va_K.moved h2 hK, hD⟩, hS.F h1⟩) hS.2.2 hk hn
  · intro hR
    rw [hR] at C
    exact g_thr C hK ht
  · intro hR
    rw [hR] at C
    exact g_thrW C hK ht
theorem gMl_ofH {y : MethodName} {ws ws' : List Cond} {rm : Room} {D : va_G} {tys : List (ClassId × FieldType)} {w0 : va_W} {av : List Value} {mc ms : Nat} {post : Int64 → va_W → Prop} {px : String → va_W → Prop} {cc : ByteArray} {maxL : Nat}  {hh : List (Nat × Nat × Nat × Nat)} (hl : l.stackTraces = false) (hy : plainName y.cls = true) (hw : ws = Cond.codeWith y cc maxL (some .long) hh :: ws') (hmax : (lg_sl av).length ≤ maxL) (body : ∀ (p : Program) (e : Env) (s : State) (m : MethodId) (args : Array Value) (below : List Frame) (meth : Method) (c : Code) (A : Nat → Prop) (Q : State → Prop), gC p l s m args meth c A D tys maxL y.cls cc ws → meth.name = y.name → (c.exceptionTable.toList = tableOf hh) → gRetL p l e rm s m args below meth c A D maxL Q cc mc ms post → gV p l e rm s m args below meth c A D maxL Q w0 (lv_args 0 av) 0 0 0 []) : gMl l y ws rm D tys w0 av mc ms post px := by
  intro sz
  refine vx_ofWH (cc := cc) (maxL := maxL) (ret := (some .long)) hy hw ?_
  intro p e s m args below meth c s₁ B hml hv
  obtain ⟨rfl, hsz, hP, hK, hD0, hX⟩ := hv
  subst hsz
  have hts := atoms_spec (ws := ws) B.pre
  have hr := B.returns
  have ht := vx_table (x := y) B (hts _ (by rw [hw]; exact List.mem_cons_self))
  have hD := hD0.self (sz := s.heap.size)
  have C : gC p l s m av.toArray meth c (va_A w0 s.heap.size) D tys maxL y.cls cc ws := ⟨B.exec, B.bytes, hml, findClass_of_methodNamed B.named, hts, hK, fun q h => Or.inr h, B.notSynchronized, hX, hl⟩
  have hl1 := lv_entry av hmax
  rw [lg_entry_eq]
  refine body p e s m av.toArray below meth c (va_A w0 s.heap.size) _ C (name_of_methodNamed B.named B.method).1 ht ?_ s.heap [] _ hP hD va_S.rf hl1
  · intro ws lvs k n pc r d hk hn hp H locs ls hP hD hS hl0
    exact W.widen hk hn (vx_ret (W.lret C.1 C.2.1 hr (fun t ht hW => ⟨⟨r, ws, rfl, hp, by rw [ht]; exact hP, va_K.moved hW.alike hK, hD⟩, hS.F ht⟩) hS.2.2 d C.2.2.2.2.2.2.2.1))
theorem gMv_of {y : MethodName} {ws ws' : List Cond} {rm : Room} {D : va_G} {tys : List (ClassId × FieldType)} {w0 : va_W} {av : List Value} {mc ms : Nat} {post : va_W → Prop} {px : String → va_W → Prop} {cc : ByteArray} {maxL : Nat}   (hl : l.stackTraces = false) (hy : plainName y.cls = true) (hw : ws = Cond.code y cc maxL none :: ws') (hmax : (lg_sl av).length ≤ maxL) (body : ∀ (p : Program) (e : Env) (s : State) (m : MethodId) (args : Array Value) (below : List Frame) (meth : Method) (c : Code) (A : Nat → Prop) (Q : State → Prop), gC p l s m args meth c A D tys maxL y.cls cc ws → meth.name = y.name → (∀ x ∈ c.exceptionTable.toList, False) → gRetV p l e rm s m args below meth c A D maxL Q cc mc ms post → gOut p l e rm s m args below meth c A D maxL Q mc ms px → (y.cls = RX3 → gThr p l e rm s m args below meth c A D maxL Q cc ws mc ms px) → (y.cls = RX3 → gThrW p l e rm s m args below meth c A D maxL Q cc ws mc ms px) → gV p l e rm s m args below meth c A D maxL Q w0 (lv_args 0 av) 0 0 0 []) : gMv l y ws rm D tys w0 av mc ms post px := by
  intro sz
  refine vx_ofW (cc := cc) (maxL := maxL) (ret := none) hy hw ?_
  intro p e s m args below meth c s₁ B hml ht hv
  obtain ⟨rfl, hsz, hP, hK, hD0, hX⟩ := hv
  subst hsz
  have hts := atoms_spec (ws := ws) B.pre
  have hr := B.returns
  
  have hD := hD0.self (sz := s.heap.size)
  have C : gC p l s m av.toArray meth c (va_A w0 s.heap.size) D tys maxL y.cls cc ws := ⟨B.exec, B.bytes, hml, findClass_of_methodNamed B.named, hts, hK, fun q h => Or.inr h, B.notSynchronized, hX, hl⟩
  have hl1 := lv_entry av hmax
  rw [lg_entry_eq]
  refine body p e s m av.toArray below meth c (va_A w0 s.heap.size) _ C (name_of_methodNamed B.named B.method).1 ht ?_ ?_ ?_ ?_ s.heap [] _ hP hD va_S.rf hl1
  · intro ws lvs k n pc d hk hn hp H locs ls hP hD hS hl0
    exact W.widen hk hn (vx_ret (W.vret C.1 C.2.1 hr (fun t ht hW => ⟨⟨ws, rfl, hp, by rw [ht]; exact hP, va_K.moved hW.alike hK, hD⟩, hS.F ht⟩) hS.2.2 d C.2.2.2.2.2.2.2.1))
  · intro E ws1 lvs k n pc st hpx hk hn H locs ls ce q hP hD hS hl0 hce hv hcl
    exact vx_out (fun x hx => (ht x hx).elim) C.2.2.2.2.2.2.2.1 hce hv hcl (fun t h1 h2 => ⟨ws1, trivial, ⟨hpx, by rw [h1]; exact hP, va_K.moved h2 hK, hD⟩, hS.F h1⟩) hS.2.2 hk hn
  · intro hR
    rw [hR] at C
    exact g_thr C hK ht
  · intro hR
    rw [hR] at C
    exact g_thrW C hK ht
theorem gMv_ofH {y : MethodName} {ws ws' : List Cond} {rm : Room} {D : va_G} {tys : List (ClassId × FieldType)} {w0 : va_W} {av : List Value} {mc ms : Nat} {post : va_W → Prop} {px : String → va_W → Prop} {cc : ByteArray} {maxL : Nat}  {hh : List (Nat × Nat × Nat × Nat)} (hl : l.stackTraces = false) (hy : plainName y.cls = true) (hw : ws = Cond.codeWith y cc maxL none hh :: ws') (hmax : (lg_sl av).length ≤ maxL) (body : ∀ (p : Program) (e : Env) (s : State) (m : MethodId) (args : Array Value) (below : List Frame) (meth : Method) (c : Code) (A : Nat → Prop) (Q : State → Prop), gC p l s m args meth c A D tys maxL y.cls cc ws → meth.name = y.name → (c.exceptionTable.toList = tableOf hh) → gRetV p l e rm s m args below meth c A D maxL Q cc mc ms post → gV p l e rm s m args below meth c A D maxL Q w0 (lv_args 0 av) 0 0 0 []) : gMv l y ws rm D tys w0 av mc ms post px := by
  intro sz
  refine vx_ofWH (cc := cc) (maxL := maxL) (ret := none) hy hw ?_
  intro p e s m args below meth c s₁ B hml hv
  obtain ⟨rfl, hsz, hP, hK, hD0, hX⟩ := hv
  subst hsz
  have hts := atoms_spec (ws := ws) B.pre
  have hr := B.returns
  have ht := vx_table (x := y) B (hts _ (by rw [hw]; exact List.mem_cons_self))
  have hD := hD0.self (sz := s.heap.size)
  have C : gC p l s m av.toArray meth c (va_A w0 s.heap.size) D tys maxL y.cls cc ws := ⟨B.exec, B.bytes, hml, findClass_of_methodNamed B.named, hts, hK, fun q h => Or.inr h, B.notSynchronized, hX, hl⟩
  have hl1 := lv_entry av hmax
  rw [lg_entry_eq]
  refine body p e s m av.toArray below meth c (va_A w0 s.heap.size) _ C (name_of_methodNamed B.named B.method).1 ht ?_ s.heap [] _ hP hD va_S.rf hl1
  · intro ws lvs k n pc d hk hn hp H locs ls hP hD hS hl0
    exact W.widen hk hn (vx_ret (W.vret C.1 C.2.1 hr (fun t ht hW => ⟨⟨ws, rfl, hp, by rw [ht]; exact hP, va_K.moved hW.alike hK, hD⟩, hS.F ht⟩) hS.2.2 d C.2.2.2.2.2.2.2.1))
end GB
end
section
/-! words of the functions that the machine's text is turned into, and of the worlds -/
section GW
variable {α β : Type}
def gl {γ : Type} (x : γ) (f : γ → Option α) : Option α := f x
def gi (i : Int32) (n : Nat) (x : Option α) : Option α := if i < 0 ∨ n ≤ i.toNatClampNeg then none else x
def gd (y : Int32) (x : Option α) : Option α := if y = 0 then none else x
def gz (r : Int32) (x : Option α) : Option α := if r = 0 ∨ r = 1 then x else none
def gcp (sp dp z : Int32) (n0 n1 : Nat) (x : Option α) : Option α := if sp < 0 ∨ dp < 0 ∨ z < 0 ∨ ¬ sp.toNatClampNeg + z.toNatClampNeg ≤ n0 ∨ ¬ dp.toNatClampNeg + z.toNatClampNeg ≤ n1 then none else x
theorem g_ift {c : Prop} [Decidable c] {a b r : α} (h : (if c then a else b) = r) (hc : c) : a = r := by rwa [if_pos hc] at h
theorem g_iff {c : Prop} [Decidable c] {a b r : α} (h : (if c then a else b) = r) (hc : ¬ c) : b = r := by rwa [if_neg hc] at h
theorem g_none {γ : Prop} {r : α} (h : (none : Option α) = some r) : γ := by cases h
theorem g_let {γ : Type} {x y : γ} {f : γ → Option α} {r : Option α} (h : gl x f = r) (e : y = x) : f y = r := by subst e; exact h
theorem g_idx {i : Int32} {n : Nat} {x : Option α} {r : α} (h : gi i n x = some r) : vp_in i n ∧ x = some r := by
  unfold gi at h
  split at h
  · cases h
  · exact ⟨by assumption, h⟩
theorem g_div {y : Int32} {x : Option α} {r : α} (h : gd y x = some r) : ¬ y = 0 ∧ x = some r := by
  unfold gd at h
  split at h
  · cases h
  · exact ⟨by assumption, h⟩
theorem g_bool {y : Int32} {x : Option α} {r : α} (h : gz y x = some r) : (y = 0 ∨ y = 1) ∧ x = some r := by
  unfold gz at h
  split at h
  · exact ⟨by assumption, h⟩
  · cases h
theorem g_nz {y : Int32} (h : y = 0 ∨ y = 1) : narrow .boolean (.int y) = .int y := by
  rcases h with rfl | rfl <;> rfl
theorem g_copy {sp dp z : Int32} {n0 n1 : Nat} {x : Option α} {r : α} (h : gcp sp dp z n0 n1 x = some r) : ¬ sp < 0 ∧ ¬ dp < 0 ∧ ¬ z < 0 ∧ sp.toNatClampNeg + z.toNatClampNeg ≤ n0 ∧ dp.toNatClampNeg + z.toNatClampNeg ≤ n1 ∧ x = some r := by
  unfold gcp at h
  split at h
  · cases h
  · rename_i q
    simp only [not_or, Classical.not_not] at q
    exact ⟨q.1, q.2.1, q.2.2.1, q.2.2.2.1, q.2.2.2.2, h⟩
end GW
def g_exn (k : Nat) : String := if k = 1 then "java/lang/IndexOutOfBoundsException" else if k = 2 then "java/lang/IllegalArgumentException" else "java/lang/IllegalStateException"

def ob0 {β : Type} (x : Option Unit) (f : Option β) : Option β := match x with | some _ => f | none => none
theorem g_ob0 {β : Type} {x : Option Unit} {f : Option β} {r : β} (h : ob0 x f = some r) : x = some () ∧ f = some r := by
  cases x with
  | none => cases h
  | some u => exact ⟨rfl, h⟩
def ob1 {A0 β : Type} (x : Option (A0)) (f : A0 → Option β) : Option β := match x with | some q => f q | none => none
theorem g_ob1 {A0 β : Type} {x : Option (A0)} {f : A0 → Option β} {r : β} (h : ob1 x f = some r) : ∃ (a0 : A0), x = some a0 ∧ f a0 = some r := by
  cases x with
  | none => cases h
  | some q => exact ⟨q, rfl, h⟩
theorem ob1_some {A0 β : Type} (a0 : A0) (f : A0 → Option β) : ob1 (some a0) f = f a0 := rfl
theorem g_so1 {A0 : Type} {a0 b0 : A0} (h : some a0 = some b0) : a0 = b0 := Option.some.inj h
def ob2 {A0 A1 β : Type} (x : Option (A0 × A1)) (f : A0 → A1 → Option β) : Option β := match x with | some q => f q.1 q.2 | none => none
theorem g_ob2 {A0 A1 β : Type} {x : Option (A0 × A1)} {f : A0 → A1 → Option β} {r : β} (h : ob2 x f = some r) : ∃ (a0 : A0) (a1 : A1), x = some (a0, a1) ∧ f a0 a1 = some r := by
  cases x with
  | none => cases h
  | some q => exact ⟨q.1, q.2, rfl, h⟩
theorem ob2_some {A0 A1 β : Type} (a0 : A0) (a1 : A1) (f : A0 → A1 → Option β) : ob2 (some (a0, a1)) f = f a0 a1 := rfl
theorem g_so2 {A0 A1 : Type} {a0 b0 : A0} {a1 b1 : A1} (h : some (a0, a1) = some (b0, b1)) : a0 = b0 ∧ a1 = b1 := by
  cases h
  exact ⟨rfl, rfl⟩
def ob3 {A0 A1 A2 β : Type} (x : Option (A0 × A1 × A2)) (f : A0 → A1 → A2 → Option β) : Option β := match x with | some q => f q.1 q.2.1 q.2.2 | none => none
theorem g_ob3 {A0 A1 A2 β : Type} {x : Option (A0 × A1 × A2)} {f : A0 → A1 → A2 → Option β} {r : β} (h : ob3 x f = some r) : ∃ (a0 : A0) (a1 : A1) (a2 : A2), x = some (a0, a1, a2) ∧ f a0 a1 a2 = some r := by
  cases x with
  | none => cases h
  | some q => exact ⟨q.1, q.2.1, q.2.2, rfl, h⟩
theorem ob3_some {A0 A1 A2 β : Type} (a0 : A0) (a1 : A1) (a2 : A2) (f : A0 → A1 → A2 → Option β) : ob3 (some (a0, a1, a2)) f = f a0 a1 a2 := rfl
theorem g_so3 {A0 A1 A2 : Type} {a0 b0 : A0} {a1 b1 : A1} {a2 b2 : A2} (h : some (a0, a1, a2) = some (b0, b1, b2)) : a0 = b0 ∧ a1 = b1 ∧ a2 = b2 := by
  cases h
  exact ⟨rfl, rfl, rfl⟩
def ob4 {A0 A1 A2 A3 β : Type} (x : Option (A0 × A1 × A2 × A3)) (f : A0 → A1 → A2 → A3 → Option β) : Option β := match x with | some q => f q.1 q.2.1 q.2.2.1 q.2.2.2 | none => none
theorem g_ob4 {A0 A1 A2 A3 β : Type} {x : Option (A0 × A1 × A2 × A3)} {f : A0 → A1 → A2 → A3 → Option β} {r : β} (h : ob4 x f = some r) : ∃ (a0 : A0) (a1 : A1) (a2 : A2) (a3 : A3), x = some (a0, a1, a2, a3) ∧ f a0 a1 a2 a3 = some r := by
  cases x with
  | none => cases h
  | some q => exact ⟨q.1, q.2.1, q.2.2.1, q.2.2.2, rfl, h⟩
theorem ob4_some {A0 A1 A2 A3 β : Type} (a0 : A0) (a1 : A1) (a2 : A2) (a3 : A3) (f : A0 → A1 → A2 → A3 → Option β) : ob4 (some (a0, a1, a2, a3)) f = f a0 a1 a2 a3 := rfl
theorem g_so4 {A0 A1 A2 A3 : Type} {a0 b0 : A0} {a1 b1 : A1} {a2 b2 : A2} {a3 b3 : A3} (h : some (a0, a1, a2, a3) = some (b0, b1, b2, b3)) : a0 = b0 ∧ a1 = b1 ∧ a2 = b2 ∧ a3 = b3 := by
  cases h
  exact ⟨rfl, rfl, rfl, rfl⟩
def ob5 {A0 A1 A2 A3 A4 β : Type} (x : Option (A0 × A1 × A2 × A3 × A4)) (f : A0 → A1 → A2 → A3 → A4 → Option β) : Option β := match x with | some q => f q.1 q.2.1 q.2.2.1 q.2.2.2.1 q.2.2.2.2 | none => none
theorem g_ob5 {A0 A1 A2 A3 A4 β : Type} {x : Option (A0 × A1 × A2 × A3 × A4)} {f : A0 → A1 → A2 → A3 → A4 → Option β} {r : β} (h : ob5 x f = some r) : ∃ (a0 : A0) (a1 : A1) (a2 : A2) (a3 : A3) (a4 : A4), x = some (a0, a1, a2, a3, a4) ∧ f a0 a1 a2 a3 a4 = some r := by
  cases x with
  | none => cases h
  | some q => exact ⟨q.1, q.2.1, q.2.2.1, q.2.2.2.1, q.2.2.2.2, rfl, h⟩
theorem ob5_some {A0 A1 A2 A3 A4 β : Type} (a0 : A0) (a1 : A1) (a2 : A2) (a3 : A3) (a4 : A4) (f : A0 → A1 → A2 → A3 → A4 → Option β) : ob5 (some (a0, a1, a2, a3, a4)) f = f a0 a1 a2 a3 a4 := rfl
theorem g_so5 {A0 A1 A2 A3 A4 : Type} {a0 b0 : A0} {a1 b1 : A1} {a2 b2 : A2} {a3 b3 : A3} {a4 b4 : A4} (h : some (a0, a1, a2, a3, a4) = some (b0, b1, b2, b3, b4)) : a0 = b0 ∧ a1 = b1 ∧ a2 = b2 ∧ a3 = b3 ∧ a4 = b4 := by
  cases h
  exact ⟨rfl, rfl, rfl, rfl, rfl⟩
def ob6 {A0 A1 A2 A3 A4 A5 β : Type} (x : Option (A0 × A1 × A2 × A3 × A4 × A5)) (f : A0 → A1 → A2 → A3 → A4 → A5 → Option β) : Option β := match x with | some q => f q.1 q.2.1 q.2.2.1 q.2.2.2.1 q.2.2.2.2.1 q.2.2.2.2.2 | none => none
theorem g_ob6 {A0 A1 A2 A3 A4 A5 β : Type} {x : Option (A0 × A1 × A2 × A3 × A4 × A5)} {f : A0 → A1 → A2 → A3 → A4 → A5 → Option β} {r : β} (h : ob6 x f = some r) : ∃ (a0 : A0) (a1 : A1) (a2 : A2) (a3 : A3) (a4 : A4) (a5 : A5), x = some (a0, a1, a2, a3, a4, a5) ∧ f a0 a1 a2 a3 a4 a5 = some r := by
  cases x with
  | none => cases h
  | some q => exact ⟨q.1, q.2.1, q.2.2.1, q.2.2.2.1, q.2.2.2.2.1, q.2.2.2.2.2, rfl, h⟩
theorem ob6_some {A0 A1 A2 A3 A4 A5 β : Type} (a0 : A0) (a1 : A1) (a2 : A2) (a3 : A3) (a4 : A4) (a5 : A5) (f : A0 → A1 → A2 → A3 → A4 → A5 → Option β) : ob6 (some (a0, a1, a2, a3, a4, a5)) f = f a0 a1 a2 a3 a4 a5 := rfl
theorem g_so6 {A0 A1 A2 A3 A4 A5 : Type} {a0 b0 : A0} {a1 b1 : A1} {a2 b2 : A2} {a3 b3 : A3} {a4 b4 : A4} {a5 b5 : A5} (h : some (a0, a1, a2, a3, a4, a5) = some (b0, b1, b2, b3, b4, b5)) : a0 = b0 ∧ a1 = b1 ∧ a2 = b2 ∧ a3 = b3 ∧ a4 = b4 ∧ a5 = b5 := by
  cases h
  exact ⟨rfl, rfl, rfl, rfl, rfl, rfl⟩
def ob7 {A0 A1 A2 A3 A4 A5 A6 β : Type} (x : Option (A0 × A1 × A2 × A3 × A4 × A5 × A6)) (f : A0 → A1 → A2 → A3 → A4 → A5 → A6 → Option β) : Option β := match x with | some q => f q.1 q.2.1 q.2.2.1 q.2.2.2.1 q.2.2.2.2.1 q.2.2.2.2.2.1 q.2.2.2.2.2.2 | none => none
theorem g_ob7 {A0 A1 A2 A3 A4 A5 A6 β : Type} {x : Option (A0 × A1 × A2 × A3 × A4 × A5 × A6)} {f : A0 → A1 → A2 → A3 → A4 → A5 → A6 → Option β} {r : β} (h : ob7 x f = some r) : ∃ (a0 : A0) (a1 : A1) (a2 : A2) (a3 : A3) (a4 : A4) (a5 : A5) (a6 : A6), x = some (a0, a1, a2, a3, a4, a5, a6) ∧ f a0 a1 a2 a3 a4 a5 a6 = some r := by
  cases x with
  | none => cases h
  | some q => exact ⟨q.1, q.2.1, q.2.2.1, q.2.2.2.1, q.2.2.2.2.1, q.2.2.2.2.2.1, q.2.2.2.2.2.2, rfl, h⟩
theorem ob7_some {A0 A1 A2 A3 A4 A5 A6 β : Type} (a0 : A0) (a1 : A1) (a2 : A2) (a3 : A3) (a4 : A4) (a5 : A5) (a6 : A6) (f : A0 → A1 → A2 → A3 → A4 → A5 → A6 → Option β) : ob7 (some (a0, a1, a2, a3, a4, a5, a6)) f = f a0 a1 a2 a3 a4 a5 a6 := rfl
theorem g_so7 {A0 A1 A2 A3 A4 A5 A6 : Type} {a0 b0 : A0} {a1 b1 : A1} {a2 b2 : A2} {a3 b3 : A3} {a4 b4 : A4} {a5 b5 : A5} {a6 b6 : A6} (h : some (a0, a1, a2, a3, a4, a5, a6) = some (b0, b1, b2, b3, b4, b5, b6)) : a0 = b0 ∧ a1 = b1 ∧ a2 = b2 ∧ a3 = b3 ∧ a4 = b4 ∧ a5 = b5 ∧ a6 = b6 := by
  cases h
  exact ⟨rfl, rfl, rfl, rfl, rfl, rfl, rfl⟩
def ob8 {A0 A1 A2 A3 A4 A5 A6 A7 β : Type} (x : Option (A0 × A1 × A2 × A3 × A4 × A5 × A6 × A7)) (f : A0 → A1 → A2 → A3 → A4 → A5 → A6 → A7 → Option β) : Option β := match x with | some q => f q.1 q.2.1 q.2.2.1 q.2.2.2.1 q.2.2.2.2.1 q.2.2.2.2.2.1 q.2.2.2.2.2.2.1 q.2.2.2.2.2.2.2 | none => none
theorem g_ob8 {A0 A1 A2 A3 A4 A5 A6 A7 β : Type} {x : Option (A0 × A1 × A2 × A3 × A4 × A5 × A6 × A7)} {f : A0 → A1 → A2 → A3 → A4 → A5 → A6 → A7 → Option β} {r : β} (h : ob8 x f = some r) : ∃ (a0 : A0) (a1 : A1) (a2 : A2) (a3 : A3) (a4 : A4) (a5 : A5) (a6 : A6) (a7 : A7), x = some (a0, a1, a2, a3, a4, a5, a6, a7) ∧ f a0 a1 a2 a3 a4 a5 a6 a7 = some r := by
  cases x with
  | none => cases h
  | some q => exact ⟨q.1, q.2.1, q.2.2.1, q.2.2.2.1, q.2.2.2.2.1, q.2.2.2.2.2.1, q.2.2.2.2.2.2.1, q.2.2.2.2.2.2.2, rfl, h⟩
theorem ob8_some {A0 A1 A2 A3 A4 A5 A6 A7 β : Type} (a0 : A0) (a1 : A1) (a2 : A2) (a3 : A3) (a4 : A4) (a5 : A5) (a6 : A6) (a7 : A7) (f : A0 → A1 → A2 → A3 → A4 → A5 → A6 → A7 → Option β) : ob8 (some (a0, a1, a2, a3, a4, a5, a6, a7)) f = f a0 a1 a2 a3 a4 a5 a6 a7 := rfl
theorem g_so8 {A0 A1 A2 A3 A4 A5 A6 A7 : Type} {a0 b0 : A0} {a1 b1 : A1} {a2 b2 : A2} {a3 b3 : A3} {a4 b4 : A4} {a5 b5 : A5} {a6 b6 : A6} {a7 b7 : A7} (h : some (a0, a1, a2, a3, a4, a5, a6, a7) = some (b0, b1, b2, b3, b4, b5, b6, b7)) : a0 = b0 ∧ a1 = b1 ∧ a2 = b2 ∧ a3 = b3 ∧ a4 = b4 ∧ a5 = b5 ∧ a6 = b6 ∧ a7 = b7 := by
  cases h
  exact ⟨rfl, rfl, rfl, rfl, rfl, rfl, rfl, rfl⟩
def ob9 {A0 A1 A2 A3 A4 A5 A6 A7 A8 β : Type} (x : Option (A0 × A1 × A2 × A3 × A4 × A5 × A6 × A7 × A8)) (f : A0 → A1 → A2 → A3 → A4 → A5 → A6 → A7 → A8 → Option β) : Option β := match x with | some q => f q.1 q.2.1 q.2.2.1 q.2.2.2.1 q.2.2.2.2.1 q.2.2.2.2.2.1 q.2.2.2.2.2.2.1 q.2.2.2.2.2.2.2.1 q.2.2.2.2.2.2.2.2 | none => none
theorem g_ob9 {A0 A1 A2 A3 A4 A5 A6 A7 A8 β : Type} {x : Option (A0 × A1 × A2 × A3 × A4 × A5 × A6 × A7 × A8)} {f : A0 → A1 → A2 → A3 → A4 → A5 → A6 → A7 → A8 → Option β} {r : β} (h : ob9 x f = some r) : ∃ (a0 : A0) (a1 : A1) (a2 : A2) (a3 : A3) (a4 : A4) (a5 : A5) (a6 : A6) (a7 : A7) (a8 : A8), x = some (a0, a1, a2, a3, a4, a5, a6, a7, a8) ∧ f a0 a1 a2 a3 a4 a5 a6 a7 a8 = some r := by
  cases x with
  | none => cases h
  | some q => exact ⟨q.1, q.2.1, q.2.2.1, q.2.2.2.1, q.2.2.2.2.1, q.2.2.2.2.2.1, q.2.2.2.2.2.2.1, q.2.2.2.2.2.2.2.1, q.2.2.2.2.2.2.2.2, rfl, h⟩
theorem ob9_some {A0 A1 A2 A3 A4 A5 A6 A7 A8 β : Type} (a0 : A0) (a1 : A1) (a2 : A2) (a3 : A3) (a4 : A4) (a5 : A5) (a6 : A6) (a7 : A7) (a8 : A8) (f : A0 → A1 → A2 → A3 → A4 → A5 → A6 → A7 → A8 → Option β) : ob9 (some (a0, a1, a2, a3, a4, a5, a6, a7, a8)) f = f a0 a1 a2 a3 a4 a5 a6 a7 a8 := rfl
theorem g_so9 {A0 A1 A2 A3 A4 A5 A6 A7 A8 : Type} {a0 b0 : A0} {a1 b1 : A1} {a2 b2 : A2} {a3 b3 : A3} {a4 b4 : A4} {a5 b5 : A5} {a6 b6 : A6} {a7 b7 : A7} {a8 b8 : A8} (h : some (a0, a1, a2, a3, a4, a5, a6, a7, a8) = some (b0, b1, b2, b3, b4, b5, b6, b7, b8)) : a0 = b0 ∧ a1 = b1 ∧ a2 = b2 ∧ a3 = b3 ∧ a4 = b4 ∧ a5 = b5 ∧ a6 = b6 ∧ a7 = b7 ∧ a8 = b8 := by
  cases h
  exact ⟨rfl, rfl, rfl, rfl, rfl, rfl, rfl, rfl, rfl⟩
def ob10 {A0 A1 A2 A3 A4 A5 A6 A7 A8 A9 β : Type} (x : Option (A0 × A1 × A2 × A3 × A4 × A5 × A6 × A7 × A8 × A9)) (f : A0 → A1 → A2 → A3 → A4 → A5 → A6 → A7 → A8 → A9 → Option β) : Option β := match x with | some q => f q.1 q.2.1 q.2.2.1 q.2.2.2.1 q.2.2.2.2.1 q.2.2.2.2.2.1 q.2.2.2.2.2.2.1 q.2.2.2.2.2.2.2.1 q.2.2.2.2.2.2.2.2.1 q.2.2.2.2.2.2.2.2.2 | none => none
theorem g_ob10 {A0 A1 A2 A3 A4 A5 A6 A7 A8 A9 β : Type} {x : Option (A0 × A1 × A2 × A3 × A4 × A5 × A6 × A7 × A8 × A9)} {f : A0 → A1 → A2 → A3 → A4 → A5 → A6 → A7 → A8 → A9 → Option β} {r : β} (h : ob10 x f = some r) : ∃ (a0 : A0) (a1 : A1) (a2 : A2) (a3 : A3) (a4 : A4) (a5 : A5) (a6 : A6) (a7 : A7) (a8 : A8) (a9 : A9), x = some (a0, a1, a2, a3, a4, a5, a6, a7, a8, a9) ∧ f a0 a1 a2 a3 a4 a5 a6 a7 a8 a9 = some r := by
  cases x with
  | none => cases h
  | some q => exact ⟨q.1, q.2.1, q.2.2.1, q.2.2.2.1, q.2.2.2.2.1, q.2.2.2.2.2.1, q.2.2.2.2.2.2.1, q.2.2.2.2.2.2.2.1, q.2.2.2.2.2.2.2.2.1, q.2.2.2.2.2.2.2.2.2, rfl, h⟩
theorem ob10_some {A0 A1 A2 A3 A4 A5 A6 A7 A8 A9 β : Type} (a0 : A0) (a1 : A1) (a2 : A2) (a3 : A3) (a4 : A4) (a5 : A5) (a6 : A6) (a7 : A7) (a8 : A8) (a9 : A9) (f : A0 → A1 → A2 → A3 → A4 → A5 → A6 → A7 → A8 → A9 → Option β) : ob10 (some (a0, a1, a2, a3, a4, a5, a6, a7, a8, a9)) f = f a0 a1 a2 a3 a4 a5 a6 a7 a8 a9 := rfl
theorem g_so10 {A0 A1 A2 A3 A4 A5 A6 A7 A8 A9 : Type} {a0 b0 : A0} {a1 b1 : A1} {a2 b2 : A2} {a3 b3 : A3} {a4 b4 : A4} {a5 b5 : A5} {a6 b6 : A6} {a7 b7 : A7} {a8 b8 : A8} {a9 b9 : A9} (h : some (a0, a1, a2, a3, a4, a5, a6, a7, a8, a9) = some (b0, b1, b2, b3, b4, b5, b6, b7, b8, b9)) : a0 = b0 ∧ a1 = b1 ∧ a2 = b2 ∧ a3 = b3 ∧ a4 = b4 ∧ a5 = b5 ∧ a6 = b6 ∧ a7 = b7 ∧ a8 = b8 ∧ a9 = b9 := by
  cases h
  exact ⟨rfl, rfl, rfl, rfl, rfl, rfl, rfl, rfl, rfl, rfl⟩
def ob11 {A0 A1 A2 A3 A4 A5 A6 A7 A8 A9 A10 β : Type} (x : Option (A0 × A1 × A2 × A3 × A4 × A5 × A6 × A7 × A8 × A9 × A10)) (f : A0 → A1 → A2 → A3 → A4 → A5 → A6 → A7 → A8 → A9 → A10 → Option β) : Option β := match x with | some q => f q.1 q.2.1 q.2.2.1 q.2.2.2.1 q.2.2.2.2.1 q.2.2.2.2.2.1 q.2.2.2.2.2.2.1 q.2.2.2.2.2.2.2.1 q.2.2.2.2.2.2.2.2.1 q.2.2.2.2.2.2.2.2.2.1 q.2.2.2.2.2.2.2.2.2.2 | none => none
theorem g_ob11 {A0 A1 A2 A3 A4 A5 A6 A7 A8 A9 A10 β : Type} {x : Option (A0 × A1 × A2 × A3 × A4 × A5 × A6 × A7 × A8 × A9 × A10)} {f : A0 → A1 → A2 → A3 → A4 → A5 → A6 → A7 → A8 → A9 → A10 → Option β} {r : β} (h : ob11 x f = some r) : ∃ (a0 : A0) (a1 : A1) (a2 : A2) (a3 : A3) (a4 : A4) (a5 : A5) (a6 : A6) (a7 : A7) (a8 : A8) (a9 : A9) (a10 : A10), x = some (a0, a1, a2, a3, a4, a5, a6, a7, a8, a9, a10) ∧ f a0 a1 a2 a3 a4 a5 a6 a7 a8 a9 a10 = some r := by
  cases x with
  | none => cases h
  | some q => exact ⟨q.1, q.2.1, q.2.2.1, q.2.2.2.1, q.2.2.2.2.1, q.2.2.2.2.2.1, q.2.2.2.2.2.2.1, q.2.2.2.2.2.2.2.1, q.2.2.2.2.2.2.2.2.1, q.2.2.2.2.2.2.2.2.2.1, q.2.2.2.2.2.2.2.2.2.2, rfl, h⟩
theorem ob11_some {A0 A1 A2 A3 A4 A5 A6 A7 A8 A9 A10 β : Type} (a0 : A0) (a1 : A1) (a2 : A2) (a3 : A3) (a4 : A4) (a5 : A5) (a6 : A6) (a7 : A7) (a8 : A8) (a9 : A9) (a10 : A10) (f : A0 → A1 → A2 → A3 → A4 → A5 → A6 → A7 → A8 → A9 → A10 → Option β) : ob11 (some (a0, a1, a2, a3, a4, a5, a6, a7, a8, a9, a10)) f = f a0 a1 a2 a3 a4 a5 a6 a7 a8 a9 a10 := rfl
theorem g_so11 {A0 A1 A2 A3 A4 A5 A6 A7 A8 A9 A10 : Type} {a0 b0 : A0} {a1 b1 : A1} {a2 b2 : A2} {a3 b3 : A3} {a4 b4 : A4} {a5 b5 : A5} {a6 b6 : A6} {a7 b7 : A7} {a8 b8 : A8} {a9 b9 : A9} {a10 b10 : A10} (h : some (a0, a1, a2, a3, a4, a5, a6, a7, a8, a9, a10) = some (b0, b1, b2, b3, b4, b5, b6, b7, b8, b9, b10)) : a0 = b0 ∧ a1 = b1 ∧ a2 = b2 ∧ a3 = b3 ∧ a4 = b4 ∧ a5 = b5 ∧ a6 = b6 ∧ a7 = b7 ∧ a8 = b8 ∧ a9 = b9 ∧ a10 = b10 := by
  cases h
  exact ⟨rfl, rfl, rfl, rfl, rfl, rfl, rfl, rfl, rfl, rfl, rfl⟩
def ob12 {A0 A1 A2 A3 A4 A5 A6 A7 A8 A9 A10 A11 β : Type} (x : Option (A0 × A1 × A2 × A3 × A4 × A5 × A6 × A7 × A8 × A9 × A10 × A11)) (f : A0 → A1 → A2 → A3 → A4 → A5 → A6 → A7 → A8 → A9 → A10 → A11 → Option β) : Option β := match x with | some q => f q.1 q.2.1 q.2.2.1 q.2.2.2.1 q.2.2.2.2.1 q.2.2.2.2.2.1 q.2.2.2.2.2.2.1 q.2.2.2.2.2.2.2.1 q.2.2.2.2.2.2.2.2.1 q.2.2.2.2.2.2.2.2.2.1 q.2.2.2.2.2.2.2.2.2.2.1 q.2.2.2.2.2.2.2.2.2.2.2 | none => none
theorem g_ob12 {A0 A1 A2 A3 A4 A5 A6 A7 A8 A9 A10 A11 β : Type} {x : Option (A0 × A1 × A2 × A3 × A4 × A5 × A6 × A7 × A8 × A9 × A10 × A11)} {f : A0 → A1 → A2 → A3 → A4 → A5 → A6 → A7 → A8 → A9 → A10 → A11 → Option β} {r : β} (h : ob12 x f = some r) : ∃ (a0 : A0) (a1 : A1) (a2 : A2) (a3 : A3) (a4 : A4) (a5 : A5) (a6 : A6) (a7 : A7) (a8 : A8) (a9 : A9) (a10 : A10) (a11 : A11), x = some (a0, a1, a2, a3, a4, a5, a6, a7, a8, a9, a10, a11) ∧ f a0 a1 a2 a3 a4 a5 a6 a7 a8 a9 a10 a11 = some r := by
  cases x with
  | none => cases h
  | some q => exact ⟨q.1, q.2.1, q.2.2.1, q.2.2.2.1, q.2.2.2.2.1, q.2.2.2.2.2.1, q.2.2.2.2.2.2.1, q.2.2.2.2.2.2.2.1, q.2.2.2.2.2.2.2.2.1, q.2.2.2.2.2.2.2.2.2.1, q.2.2.2.2.2.2.2.2.2.2.1, q.2.2.2.2.2.2.2.2.2.2.2, rfl, h⟩
theorem ob12_some {A0 A1 A2 A3 A4 A5 A6 A7 A8 A9 A10 A11 β : Type} (a0 : A0) (a1 : A1) (a2 : A2) (a3 : A3) (a4 : A4) (a5 : A5) (a6 : A6) (a7 : A7) (a8 : A8) (a9 : A9) (a10 : A10) (a11 : A11) (f : A0 → A1 → A2 → A3 → A4 → A5 → A6 → A7 → A8 → A9 → A10 → A11 → Option β) : ob12 (some (a0, a1, a2, a3, a4, a5, a6, a7, a8, a9, a10, a11)) f = f a0 a1 a2 a3 a4 a5 a6 a7 a8 a9 a10 a11 := rfl
theorem g_so12 {A0 A1 A2 A3 A4 A5 A6 A7 A8 A9 A10 A11 : Type} {a0 b0 : A0} {a1 b1 : A1} {a2 b2 : A2} {a3 b3 : A3} {a4 b4 : A4} {a5 b5 : A5} {a6 b6 : A6} {a7 b7 : A7} {a8 b8 : A8} {a9 b9 : A9} {a10 b10 : A10} {a11 b11 : A11} (h : some (a0, a1, a2, a3, a4, a5, a6, a7, a8, a9, a10, a11) = some (b0, b1, b2, b3, b4, b5, b6, b7, b8, b9, b10, b11)) : a0 = b0 ∧ a1 = b1 ∧ a2 = b2 ∧ a3 = b3 ∧ a4 = b4 ∧ a5 = b5 ∧ a6 = b6 ∧ a7 = b7 ∧ a8 = b8 ∧ a9 = b9 ∧ a10 = b10 ∧ a11 = b11 := by
  cases h
  exact ⟨rfl, rfl, rfl, rfl, rfl, rfl, rfl, rfl, rfl, rfl, rfl, rfl⟩
def ob13 {A0 A1 A2 A3 A4 A5 A6 A7 A8 A9 A10 A11 A12 β : Type} (x : Option (A0 × A1 × A2 × A3 × A4 × A5 × A6 × A7 × A8 × A9 × A10 × A11 × A12)) (f : A0 → A1 → A2 → A3 → A4 → A5 → A6 → A7 → A8 → A9 → A10 → A11 → A12 → Option β) : Option β := match x with | some q => f q.1 q.2.1 q.2.2.1 q.2.2.2.1 q.2.2.2.2.1 q.2.2.2.2.2.1 q.2.2.2.2.2.2.1 q.2.2.2.2.2.2.2.1 q.2.2.2.2.2.2.2.2.1 q.2.2.2.2.2.2.2.2.2.1 q.2.2.2.2.2.2.2.2.2.2.1 q.2.2.2.2.2.2.2.2.2.2.2.1 q.2.2.2.2.2.2.2.2.2.2.2.2 | none => none
theorem g_ob13 {A0 A1 A2 A3 A4 A5 A6 A7 A8 A9 A10 A11 A12 β : Type} {x : Option (A0 × A1 × A2 × A3 × A4 × A5 × A6 × A7 × A8 × A9 × A10 × A11 × A12)} {f : A0 → A1 → A2 → A3 → A4 → A5 → A6 → A7 → A8 → A9 → A10 → A11 → A12 → Option β} {r : β} (h : ob13 x f = some r) : ∃ (a0 : A0) (a1 : A1) (a2 : A2) (a3 : A3) (a4 : A4) (a5 : A5) (a6 : A6) (a7 : A7) (a8 : A8) (a9 : A9) (a10 : A10) (a11 : A11) (a12 : A12), x = some (a0, a1, a2, a3, a4, a5, a6, a7, a8, a9, a10, a11, a12) ∧ f a0 a1 a2 a3 a4 a5 a6 a7 a8 a9 a10 a11 a12 = some r := by
  cases x with
  | none => cases h
  | some q => exact ⟨q.1, q.2.1, q.2.2.1, q.2.2.2.1, q.2.2.2.2.1, q.2.2.2.2.2.1, q.2.2.2.2.2.2.1, q.2.2.2.2.2.2.2.1, q.2.2.2.2.2.2.2.2.1, q.2.2.2.2.2.2.2.2.2.1, q.2.2.2.2.2.2.2.2.2.2.1, q.2.2.2.2.2.2.2.2.2.2.2.1, q.2.2.2.2.2.2.2.2.2.2.2.2, rfl, h⟩
theorem ob13_some {A0 A1 A2 A3 A4 A5 A6 A7 A8 A9 A10 A11 A12 β : Type} (a0 : A0) (a1 : A1) (a2 : A2) (a3 : A3) (a4 : A4) (a5 : A5) (a6 : A6) (a7 : A7) (a8 : A8) (a9 : A9) (a10 : A10) (a11 : A11) (a12 : A12) (f : A0 → A1 → A2 → A3 → A4 → A5 → A6 → A7 → A8 → A9 → A10 → A11 → A12 → Option β) : ob13 (some (a0, a1, a2, a3, a4, a5, a6, a7, a8, a9, a10, a11, a12)) f = f a0 a1 a2 a3 a4 a5 a6 a7 a8 a9 a10 a11 a12 := rfl
theorem g_so13 {A0 A1 A2 A3 A4 A5 A6 A7 A8 A9 A10 A11 A12 : Type} {a0 b0 : A0} {a1 b1 : A1} {a2 b2 : A2} {a3 b3 : A3} {a4 b4 : A4} {a5 b5 : A5} {a6 b6 : A6} {a7 b7 : A7} {a8 b8 : A8} {a9 b9 : A9} {a10 b10 : A10} {a11 b11 : A11} {a12 b12 : A12} (h : some (a0, a1, a2, a3, a4, a5, a6, a7, a8, a9, a10, a11, a12) = some (b0, b1, b2, b3, b4, b5, b6, b7, b8, b9, b10, b11, b12)) : a0 = b0 ∧ a1 = b1 ∧ a2 = b2 ∧ a3 = b3 ∧ a4 = b4 ∧ a5 = b5 ∧ a6 = b6 ∧ a7 = b7 ∧ a8 = b8 ∧ a9 = b9 ∧ a10 = b10 ∧ a11 = b11 ∧ a12 = b12 := by
  cases h
  exact ⟨rfl, rfl, rfl, rfl, rfl, rfl, rfl, rfl, rfl, rfl, rfl, rfl, rfl⟩
def ob14 {A0 A1 A2 A3 A4 A5 A6 A7 A8 A9 A10 A11 A12 A13 β : Type} (x : Option (A0 × A1 × A2 × A3 × A4 × A5 × A6 × A7 × A8 × A9 × A10 × A11 × A12 × A13)) (f : A0 → A1 → A2 → A3 → A4 → A5 → A6 → A7 → A8 → A9 → A10 → A11 → A12 → A13 → Option β) : Option β := match x with | some q => f q.1 q.2.1 q.2.2.1 q.2.2.2.1 q.2.2.2.2.1 q.2.2.2.2.2.1 q.2.2.2.2.2.2.1 q.2.2.2.2.2.2.2.1 q.2.2.2.2.2.2.2.2.1 q.2.2.2.2.2.2.2.2.2.1 q.2.2.2.2.2.2.2.2.2.2.1 q.2.2.2.2.2.2.2.2.2.2.2.1 q.2.2.2.2.2.2.2.2.2.2.2.2.1 q.2.2.2.2.2.2.2.2.2.2.2.2.2 | none => none
theorem g_ob14 {A0 A1 A2 A3 A4 A5 A6 A7 A8 A9 A10 A11 A12 A13 β : Type} {x : Option (A0 × A1 × A2 × A3 × A4 × A5 × A6 × A7 × A8 × A9 × A10 × A11 × A12 × A13)} {f : A0 → A1 → A2 → A3 → A4 → A5 → A6 → A7 → A8 → A9 → A10 → A11 → A12 → A13 → Option β} {r : β} (h : ob14 x f = some r) : ∃ (a0 : A0) (a1 : A1) (a2 : A2) (a3 : A3) (a4 : A4) (a5 : A5) (a6 : A6) (a7 : A7) (a8 : A8) (a9 : A9) (a10 : A10) (a11 : A11) (a12 : A12) (a13 : A13), x = some (a0, a1, a2, a3, a4, a5, a6, a7, a8, a9, a10, a11, a12, a13) ∧ f a0 a1 a2 a3 a4 a5 a6 a7 a8 a9 a10 a11 a12 a13 = some r := by
  cases x with
  | none => cases h
  | some q => exact ⟨q.1, q.2.1, q.2.2.1, q.2.2.2.1, q.2.2.2.2.1, q.2.2.2.2.2.1, q.2.2.2.2.2.2.1, q.2.2.2.2.2.2.2.1, q.2.2.2.2.2.2.2.2.1, q.2.2.2.2.2.2.2.2.2.1, q.2.2.2.2.2.2.2.2.2.2.1, q.2.2.2.2.2.2.2.2.2.2.2.1, q.2.2.2.2.2.2.2.2.2.2.2.2.1, q.2.2.2.2.2.2.2.2.2.2.2.2.2, rfl, h⟩
theorem ob14_some {A0 A1 A2 A3 A4 A5 A6 A7 A8 A9 A10 A11 A12 A13 β : Type} (a0 : A0) (a1 : A1) (a2 : A2) (a3 : A3) (a4 : A4) (a5 : A5) (a6 : A6) (a7 : A7) (a8 : A8) (a9 : A9) (a10 : A10) (a11 : A11) (a12 : A12) (a13 : A13) (f : A0 → A1 → A2 → A3 → A4 → A5 → A6 → A7 → A8 → A9 → A10 → A11 → A12 → A13 → Option β) : ob14 (some (a0, a1, a2, a3, a4, a5, a6, a7, a8, a9, a10, a11, a12, a13)) f = f a0 a1 a2 a3 a4 a5 a6 a7 a8 a9 a10 a11 a12 a13 := rfl
theorem g_so14 {A0 A1 A2 A3 A4 A5 A6 A7 A8 A9 A10 A11 A12 A13 : Type} {a0 b0 : A0} {a1 b1 : A1} {a2 b2 : A2} {a3 b3 : A3} {a4 b4 : A4} {a5 b5 : A5} {a6 b6 : A6} {a7 b7 : A7} {a8 b8 : A8} {a9 b9 : A9} {a10 b10 : A10} {a11 b11 : A11} {a12 b12 : A12} {a13 b13 : A13} (h : some (a0, a1, a2, a3, a4, a5, a6, a7, a8, a9, a10, a11, a12, a13) = some (b0, b1, b2, b3, b4, b5, b6, b7, b8, b9, b10, b11, b12, b13)) : a0 = b0 ∧ a1 = b1 ∧ a2 = b2 ∧ a3 = b3 ∧ a4 = b4 ∧ a5 = b5 ∧ a6 = b6 ∧ a7 = b7 ∧ a8 = b8 ∧ a9 = b9 ∧ a10 = b10 ∧ a11 = b11 ∧ a12 = b12 ∧ a13 = b13 := by
  cases h
  exact ⟨rfl, rfl, rfl, rfl, rfl, rfl, rfl, rfl, rfl, rfl, rfl, rfl, rfl, rfl⟩
def ob15 {A0 A1 A2 A3 A4 A5 A6 A7 A8 A9 A10 A11 A12 A13 A14 β : Type} (x : Option (A0 × A1 × A2 × A3 × A4 × A5 × A6 × A7 × A8 × A9 × A10 × A11 × A12 × A13 × A14)) (f : A0 → A1 → A2 → A3 → A4 → A5 → A6 → A7 → A8 → A9 → A10 → A11 → A12 → A13 → A14 → Option β) : Option β := match x with | some q => f q.1 q.2.1 q.2.2.1 q.2.2.2.1 q.2.2.2.2.1 q.2.2.2.2.2.1 q.2.2.2.2.2.2.1 q.2.2.2.2.2.2.2.1 q.2.2.2.2.2.2.2.2.1 q.2.2.2.2.2.2.2.2.2.1 q.2.2.2.2.2.2.2.2.2.2.1 q.2.2.2.2.2.2.2.2.2.2.2.1 q.2.2.2.2.2.2.2.2.2.2.2.2.1 q.2.2.2.2.2.2.2.2.2.2.2.2.2.1 q.2.2.2.2.2.2.2.2.2.2.2.2.2.2 | none => none
theorem g_ob15 {A0 A1 A2 A3 A4 A5 A6 A7 A8 A9 A10 A11 A12 A13 A14 β : Type} {x : Option (A0 × A1 × A2 × A3 × A4 × A5 × A6 × A7 × A8 × A9 × A10 × A11 × A12 × A13 × A14)} {f : A0 → A1 → A2 → A3 → A4 → A5 → A6 → A7 → A8 → A9 → A10 → A11 → A12 → A13 → A14 → Option β} {r : β} (h : ob15 x f = some r) : ∃ (a0 : A0) (a1 : A1) (a2 : A2) (a3 : A3) (a4 : A4) (a5 : A5) (a6 : A6) (a7 : A7) (a8 : A8) (a9 : A9) (a10 : A10) (a11 : A11) (a12 : A12) (a13 : A13) (a14 : A14), x = some (a0, a1, a2, a3, a4, a5, a6, a7, a8, a9, a10, a11, a12, a13, a14) ∧ f a0 a1 a2 a3 a4 a5 a6 a7 a8 a9 a10 a11 a12 a13 a14 = some r := by
  cases x with
  | none => cases h
  | some q => exact ⟨q.1, q.2.1, q.2.2.1, q.2.2.2.1, q.2.2.2.2.1, q.2.2.2.2.2.1, q.2.2.2.2.2.2.1, q.2.2.2.2.2.2.2.1, q.2.2.2.2.2.2.2.2.1, q.2.2.2.2.2.2.2.2.2.1, q.2.2.2.2.2.2.2.2.2.2.1, q.2.2.2.2.2.2.2.2.2.2.2.1, q.2.2.2.2.2.2.2.2.2.2.2.2.1, q.2.2.2.2.2.2.2.2.2.2.2.2.2.1, q.2.2.2.2.2.2.2.2.2.2.2.2.2.2, rfl, h⟩
theorem ob15_some {A0 A1 A2 A3 A4 A5 A6 A7 A8 A9 A10 A11 A12 A13 A14 β : Type} (a0 : A0) (a1 : A1) (a2 : A2) (a3 : A3) (a4 : A4) (a5 : A5) (a6 : A6) (a7 : A7) (a8 : A8) (a9 : A9) (a10 : A10) (a11 : A11) (a12 : A12) (a13 : A13) (a14 : A14) (f : A0 → A1 → A2 → A3 → A4 → A5 → A6 → A7 → A8 → A9 → A10 → A11 → A12 → A13 → A14 → Option β) : ob15 (some (a0, a1, a2, a3, a4, a5, a6, a7, a8, a9, a10, a11, a12, a13, a14)) f = f a0 a1 a2 a3 a4 a5 a6 a7 a8 a9 a10 a11 a12 a13 a14 := rfl
theorem g_so15 {A0 A1 A2 A3 A4 A5 A6 A7 A8 A9 A10 A11 A12 A13 A14 : Type} {a0 b0 : A0} {a1 b1 : A1} {a2 b2 : A2} {a3 b3 : A3} {a4 b4 : A4} {a5 b5 : A5} {a6 b6 : A6} {a7 b7 : A7} {a8 b8 : A8} {a9 b9 : A9} {a10 b10 : A10} {a11 b11 : A11} {a12 b12 : A12} {a13 b13 : A13} {a14 b14 : A14} (h : some (a0, a1, a2, a3, a4, a5, a6, a7, a8, a9, a10, a11, a12, a13, a14) = some (b0, b1, b2, b3, b4, b5, b6, b7, b8, b9, b10, b11, b12, b13, b14)) : a0 = b0 ∧ a1 = b1 ∧ a2 = b2 ∧ a3 = b3 ∧ a4 = b4 ∧ a5 = b5 ∧ a6 = b6 ∧ a7 = b7 ∧ a8 = b8 ∧ a9 = b9 ∧ a10 = b10 ∧ a11 = b11 ∧ a12 = b12 ∧ a13 = b13 ∧ a14 = b14 := by
  cases h
  exact ⟨rfl, rfl, rfl, rfl, rfl, rfl, rfl, rfl, rfl, rfl, rfl, rfl, rfl, rfl, rfl⟩
def ob16 {A0 A1 A2 A3 A4 A5 A6 A7 A8 A9 A10 A11 A12 A13 A14 A15 β : Type} (x : Option (A0 × A1 × A2 × A3 × A4 × A5 × A6 × A7 × A8 × A9 × A10 × A11 × A12 × A13 × A14 × A15)) (f : A0 → A1 → A2 → A3 → A4 → A5 → A6 → A7 → A8 → A9 → A10 → A11 → A12 → A13 → A14 → A15 → Option β) : Option β := match x with | some q => f q.1 q.2.1 q.2.2.1 q.2.2.2.1 q.2.2.2.2.1 q.2.2.2.2.2.1 q.2.2.2.2.2.2.1 q.2.2.2.2.2.2.2.1 q.2.2.2.2.2.2.2.2.1 q.2.2.2.2.2.2.2.2.2.1 q.2.2.2.2.2.2.2.2.2.2.1 q.2.2.2.2.2.2.2.2.2.2.2.1 q.2.2.2.2.2.2.2.2.2.2.2.2.1 q.2.2.2.2.2.2.2.2.2.2.2.2.2.1 q.2.2.2.2.2.2.2.2.2.2.2.2.2.2.1 q.2.2.2.2.2.2.2.2.2.2.2.2.2.2.2 | none => none
theorem g_ob16 {A0 A1 A2 A3 A4 A5 A6 A7 A8 A9 A10 A11 A12 A13 A14 A15 β : Type} {x : Option (A0 × A1 × A2 × A3 × A4 × A5 × A6 × A7 × A8 × A9 × A10 × A11 × A12 × A13 × A14 × A15)} {f : A0 → A1 → A2 → A3 → A4 → A5 → A6 → A7 → A8 → A9 → A10 → A11 → A12 → A13 → A14 → A15 → Option β} {r : β} (h : ob16 x f = some r) : ∃ (a0 : A0) (a1 : A1) (a2 : A2) (a3 : A3) (a4 : A4) (a5 : A5) (a6 : A6) (a7 : A7) (a8 : A8) (a9 : A9) (a10 : A10) (a11 : A11) (a12 : A12) (a13 : A13) (a14 : A14) (a15 : A15), x = some (a0, a1, a2, a3, a4, a5, a6, a7, a8, a9, a10, a11, a12, a13, a14, a15) ∧ f a0 a1 a2 a3 a4 a5 a6 a7 a8 a9 a10 a11 a12 a13 a14 a15 = some r := by
  cases x with
  | none => cases h
  | some q => exact ⟨q.1, q.2.1, q.2.2.1, q.2.2.2.1, q.2.2.2.2.1, q.2.2.2.2.2.1, q.2.2.2.2.2.2.1, q.2.2.2.2.2.2.2.1, q.2.2.2.2.2.2.2.2.1, q.2.2.2.2.2.2.2.2.2.1, q.2.2.2.2.2.2.2.2.2.2.1, q.2.2.2.2.2.2.2.2.2.2.2.1, q.2.2.2.2.2.2.2.2.2.2.2.2.1, q.2.2.2.2.2.2.2.2.2.2.2.2.2.1, q.2.2.2.2.2.2.2.2.2.2.2.2.2.2.1, q.2.2.2.2.2.2.2.2.2.2.2.2.2.2.2, rfl, h⟩
theorem ob16_some {A0 A1 A2 A3 A4 A5 A6 A7 A8 A9 A10 A11 A12 A13 A14 A15 β : Type} (a0 : A0) (a1 : A1) (a2 : A2) (a3 : A3) (a4 : A4) (a5 : A5) (a6 : A6) (a7 : A7) (a8 : A8) (a9 : A9) (a10 : A10) (a11 : A11) (a12 : A12) (a13 : A13) (a14 : A14) (a15 : A15) (f : A0 → A1 → A2 → A3 → A4 → A5 → A6 → A7 → A8 → A9 → A10 → A11 → A12 → A13 → A14 → A15 → Option β) : ob16 (some (a0, a1, a2, a3, a4, a5, a6, a7, a8, a9, a10, a11, a12, a13, a14, a15)) f = f a0 a1 a2 a3 a4 a5 a6 a7 a8 a9 a10 a11 a12 a13 a14 a15 := rfl
theorem g_so16 {A0 A1 A2 A3 A4 A5 A6 A7 A8 A9 A10 A11 A12 A13 A14 A15 : Type} {a0 b0 : A0} {a1 b1 : A1} {a2 b2 : A2} {a3 b3 : A3} {a4 b4 : A4} {a5 b5 : A5} {a6 b6 : A6} {a7 b7 : A7} {a8 b8 : A8} {a9 b9 : A9} {a10 b10 : A10} {a11 b11 : A11} {a12 b12 : A12} {a13 b13 : A13} {a14 b14 : A14} {a15 b15 : A15} (h : some (a0, a1, a2, a3, a4, a5, a6, a7, a8, a9, a10, a11, a12, a13, a14, a15) = some (b0, b1, b2, b3, b4, b5, b6, b7, b8, b9, b10, b11, b12, b13, b14, b15)) : a0 = b0 ∧ a1 = b1 ∧ a2 = b2 ∧ a3 = b3 ∧ a4 = b4 ∧ a5 = b5 ∧ a6 = b6 ∧ a7 = b7 ∧ a8 = b8 ∧ a9 = b9 ∧ a10 = b10 ∧ a11 = b11 ∧ a12 = b12 ∧ a13 = b13 ∧ a14 = b14 ∧ a15 = b15 := by
  cases h
  exact ⟨rfl, rfl, rfl, rfl, rfl, rfl, rfl, rfl, rfl, rfl, rfl, rfl, rfl, rfl, rfl, rfl⟩
def ob17 {A0 A1 A2 A3 A4 A5 A6 A7 A8 A9 A10 A11 A12 A13 A14 A15 A16 β : Type} (x : Option (A0 × A1 × A2 × A3 × A4 × A5 × A6 × A7 × A8 × A9 × A10 × A11 × A12 × A13 × A14 × A15 × A16)) (f : A0 → A1 → A2 → A3 → A4 → A5 → A6 → A7 → A8 → A9 → A10 → A11 → A12 → A13 → A14 → A15 → A16 → Option β) : Option β := match x with | some q => f q.1 q.2.1 q.2.2.1 q.2.2.2.1 q.2.2.2.2.1 q.2.2.2.2.2.1 q.2.2.2.2.2.2.1 q.2.2.2.2.2.2.2.1 q.2.2.2.2.2.2.2.2.1 q.2.2.2.2.2.2.2.2.2.1 q.2.2.2.2.2.2.2.2.2.2.1 q.2.2.2.2.2.2.2.2.2.2.2.1 q.2.2.2.2.2.2.2.2.2.2.2.2.1 q.2.2.2.2.2.2.2.2.2.2.2.2.2.1 q.2.2.2.2.2.2.2.2.2.2.2.2.2.2.1 q.2.2.2.2.2.2.2.2.2.2.2.2.2.2.2.1 q.2.2.2.2.2.2.2.2.2.2.2.2.2.2.2.2 | none => none
theorem g_ob17 {A0 A1 A2 A3 A4 A5 A6 A7 A8 A9 A10 A11 A12 A13 A14 A15 A16 β : Type} {x : Option (A0 × A1 × A2 × A3 × A4 × A5 × A6 × A7 × A8 × A9 × A10 × A11 × A12 × A13 × A14 × A15 × A16)} {f : A0 → A1 → A2 → A3 → A4 → A5 → A6 → A7 → A8 → A9 → A10 → A11 → A12 → A13 → A14 → A15 → A16 → Option β} {r : β} (h : ob17 x f = some r) : ∃ (a0 : A0) (a1 : A1) (a2 : A2) (a3 : A3) (a4 : A4) (a5 : A5) (a6 : A6) (a7 : A7) (a8 : A8) (a9 : A9) (a10 : A10) (a11 : A11) (a12 : A12) (a13 : A13) (a14 : A14) (a15 : A15) (a16 : A16), x = some (a0, a1, a2, a3, a4, a5, a6, a7, a8, a9, a10, a11, a12, a13, a14, a15, a16) ∧ f a0 a1 a2 a3 a4 a5 a6 a7 a8 a9 a10 a11 a12 a13 a14 a15 a16 = some r := by
  cases x with
  | none => cases h
  | some q => exact ⟨q.1, q.2.1, q.2.2.1, q.2.2.2.1, q.2.2.2.2.1, q.2.2.2.2.2.1, q.2.2.2.2.2.2.1, q.2.2.2.2.2.2.2.1, q.2.2.2.2.2.2.2.2.1, q.2.2.2.2.2.2.2.2.2.1, q.2.2.2.2.2.2.2.2.2.2.1, q.2.2.2.2.2.2.2.2.2.2.2.1, q.2.2.2.2.2.2.2.2.2.2.2.2.1, q.2.2.2.2.2.2.2.2.2.2.2.2.2.1, q.2.2.2.2.2.2.2.2.2.2.2.2.2.2.1, q.2.2.2.2.2.2.2.2.2.2.2.2.2.2.2.1, q.2.2.2.2.2.2.2.2.2.2.2.2.2.2.2.2, rfl, h⟩
theorem ob17_some {A0 A1 A2 A3 A4 A5 A6 A7 A8 A9 A10 A11 A12 A13 A14 A15 A16 β : Type} (a0 : A0) (a1 : A1) (a2 : A2) (a3 : A3) (a4 : A4) (a5 : A5) (a6 : A6) (a7 : A7) (a8 : A8) (a9 : A9) (a10 : A10) (a11 : A11) (a12 : A12) (a13 : A13) (a14 : A14) (a15 : A15) (a16 : A16) (f : A0 → A1 → A2 → A3 → A4 → A5 → A6 → A7 → A8 → A9 → A10 → A11 → A12 → A13 → A14 → A15 → A16 → Option β) : ob17 (some (a0, a1, a2, a3, a4, a5, a6, a7, a8, a9, a10, a11, a12, a13, a14, a15, a16)) f = f a0 a1 a2 a3 a4 a5 a6 a7 a8 a9 a10 a11 a12 a13 a14 a15 a16 := rfl
theorem g_so17 {A0 A1 A2 A3 A4 A5 A6 A7 A8 A9 A10 A11 A12 A13 A14 A15 A16 : Type} {a0 b0 : A0} {a1 b1 : A1} {a2 b2 : A2} {a3 b3 : A3} {a4 b4 : A4} {a5 b5 : A5} {a6 b6 : A6} {a7 b7 : A7} {a8 b8 : A8} {a9 b9 : A9} {a10 b10 : A10} {a11 b11 : A11} {a12 b12 : A12} {a13 b13 : A13} {a14 b14 : A14} {a15 b15 : A15} {a16 b16 : A16} (h : some (a0, a1, a2, a3, a4, a5, a6, a7, a8, a9, a10, a11, a12, a13, a14, a15, a16) = some (b0, b1, b2, b3, b4, b5, b6, b7, b8, b9, b10, b11, b12, b13, b14, b15, b16)) : a0 = b0 ∧ a1 = b1 ∧ a2 = b2 ∧ a3 = b3 ∧ a4 = b4 ∧ a5 = b5 ∧ a6 = b6 ∧ a7 = b7 ∧ a8 = b8 ∧ a9 = b9 ∧ a10 = b10 ∧ a11 = b11 ∧ a12 = b12 ∧ a13 = b13 ∧ a14 = b14 ∧ a15 = b15 ∧ a16 = b16 := by
  cases h
  exact ⟨rfl, rfl, rfl, rfl, rfl, rfl, rfl, rfl, rfl, rfl, rfl, rfl, rfl, rfl, rfl, rfl, rfl⟩
def ob18 {A0 A1 A2 A3 A4 A5 A6 A7 A8 A9 A10 A11 A12 A13 A14 A15 A16 A17 β : Type} (x : Option (A0 × A1 × A2 × A3 × A4 × A5 × A6 × A7 × A8 × A9 × A10 × A11 × A12 × A13 × A14 × A15 × A16 × A17)) (f : A0 → A1 → A2 → A3 → A4 → A5 → A6 → A7 → A8 → A9 → A10 → A11 → A12 → A13 → A14 → A15 → A16 → A17 → Option β) : Option β := match x with | some q => f q.1 q.2.1 q.2.2.1 q.2.2.2.1 q.2.2.2.2.1 q.2.2.2.2.2.1 q.2.2.2.2.2.2.1 q.2.2.2.2.2.2.2.1 q.2.2.2.2.2.2.2.2.1 q.2.2.2.2.2.2.2.2.2.1 q.2.2.2.2.2.2.2.2.2.2.1 q.2.2.2.2.2.2.2.2.2.2.2.1 q.2.2.2.2.2.2.2.2.2.2.2.2.1 q.2.2.2.2.2.2.2.2.2.2.2.2.2.1 q.2.2.2.2.2.2.2.2.2.2.2.2.2.2.1 q.2.2.2.2.2.2.2.2.2.2.2.2.2.2.2.1 q.2.2.2.2.2.2.2.2.2.2.2.2.2.2.2.2.1 q.2.2.2.2.2.2.2.2.2.2.2.2.2.2.2.2.2 | none => none
theorem g_ob18 {A0 A1 A2 A3 A4 A5 A6 A7 A8 A9 A10 A11 A12 A13 A14 A15 A16 A17 β : Type} {x : Option (A0 × A1 × A2 × A3 × A4 × A5 × A6 × A7 × A8 × A9 × A10 × A11 × A12 × A13 × A14 × A15 × A16 × A17)} {f : A0 → A1 → A2 → A3 → A4 → A5 → A6 → A7 → A8 → A9 → A10 → A11 → A12 → A13 → A14 → A15 → A16 → A17 → Option β} {r : β} (h : ob18 x f = some r) : ∃ (a0 : A0) (a1 : A1) (a2 : A2) (a3 : A3) (a4 : A4) (a5 : A5) (a6 : A6) (a7 : A7) (a8 : A8) (a9 : A9) (a10 : A10) (a11 : A11) (a12 : A12) (a13 : A13) (a14 : A14) (a15 : A15) (a16 : A16) (a17 : A17), x = some (a0, a1, a2, a3, a4, a5, a6, a7, a8, a9, a10, a11, a12, a13, a14, a15, a16, a17) ∧ f a0 a1 a2 a3 a4 a5 a6 a7 a8 a9 a10 a11 a12 a13 a14 a15 a16 a17 = some r := by
  cases x with
  | none => cases h
  | some q => exact ⟨q.1, q.2.1, q.2.2.1, q.2.2.2.1, q.2.2.2.2.1, q.2.2.2.2.2.1, q.2.2.2.2.2.2.1, q.2.2.2.2.2.2.2.1, q.2.2.2.2.2.2.2.2.1, q.2.2.2.2.2.2.2.2.2.1, q.2.2.2.2.2.2.2.2.2.2.1, q.2.2.2.2.2.2.2.2.2.2.2.1, q.2.2.2.2.2.2.2.2.2.2.2.2.1, q.2.2.2.2.2.2.2.2.2.2.2.2.2.1, q.2.2.2.2.2.2.2.2.2.2.2.2.2.2.1, q.2.2.2.2.2.2.2.2.2.2.2.2.2.2.2.1, q.2.2.2.2.2.2.2.2.2.2.2.2.2.2.2.2.1, q.2.2.2.2.2.2.2.2.2.2.2.2.2.2.2.2.2, rfl, h⟩
theorem ob18_some {A0 A1 A2 A3 A4 A5 A6 A7 A8 A9 A10 A11 A12 A13 A14 A15 A16 A17 β : Type} (a0 : A0) (a1 : A1) (a2 : A2) (a3 : A3) (a4 : A4) (a5 : A5) (a6 : A6) (a7 : A7) (a8 : A8) (a9 : A9) (a10 : A10) (a11 : A11) (a12 : A12) (a13 : A13) (a14 : A14) (a15 : A15) (a16 : A16) (a17 : A17) (f : A0 → A1 → A2 → A3 → A4 → A5 → A6 → A7 → A8 → A9 → A10 → A11 → A12 → A13 → A14 → A15 → A16 → A17 → Option β) : ob18 (some (a0, a1, a2, a3, a4, a5, a6, a7, a8, a9, a10, a11, a12, a13, a14, a15, a16, a17)) f = f a0 a1 a2 a3 a4 a5 a6 a7 a8 a9 a10 a11 a12 a13 a14 a15 a16 a17 := rfl
theorem g_so18 {A0 A1 A2 A3 A4 A5 A6 A7 A8 A9 A10 A11 A12 A13 A14 A15 A16 A17 : Type} {a0 b0 : A0} {a1 b1 : A1} {a2 b2 : A2} {a3 b3 : A3} {a4 b4 : A4} {a5 b5 : A5} {a6 b6 : A6} {a7 b7 : A7} {a8 b8 : A8} {a9 b9 : A9} {a10 b10 : A10} {a11 b11 : A11} {a12 b12 : A12} {a13 b13 : A13} {a14 b14 : A14} {a15 b15 : A15} {a16 b16 : A16} {a17 b17 : A17} (h : some (a0, a1, a2, a3, a4, a5, a6, a7, a8, a9, a10, a11, a12, a13, a14, a15, a16, a17) = some (b0, b1, b2, b3, b4, b5, b6, b7, b8, b9, b10, b11, b12, b13, b14, b15, b16, b17)) : a0 = b0 ∧ a1 = b1 ∧ a2 = b2 ∧ a3 = b3 ∧ a4 = b4 ∧ a5 = b5 ∧ a6 = b6 ∧ a7 = b7 ∧ a8 = b8 ∧ a9 = b9 ∧ a10 = b10 ∧ a11 = b11 ∧ a12 = b12 ∧ a13 = b13 ∧ a14 = b14 ∧ a15 = b15 ∧ a16 = b16 ∧ a17 = b17 := by
  cases h
  exact ⟨rfl, rfl, rfl, rfl, rfl, rfl, rfl, rfl, rfl, rfl, rfl, rfl, rfl, rfl, rfl, rfl, rfl, rfl⟩
def ob19 {A0 A1 A2 A3 A4 A5 A6 A7 A8 A9 A10 A11 A12 A13 A14 A15 A16 A17 A18 β : Type} (x : Option (A0 × A1 × A2 × A3 × A4 × A5 × A6 × A7 × A8 × A9 × A10 × A11 × A12 × A13 × A14 × A15 × A16 × A17 × A18)) (f : A0 → A1 → A2 → A3 → A4 → A5 → A6 → A7 → A8 → A9 → A10 → A11 → A12 → A13 → A14 → A15 → A16 → A17 → A18 → Option β) : Option β := match x with | some q => f q.1 q.2.1 q.2.2.1 q.2.2.2.1 q.2.2.2.2.1 q.2.2.2.2.2.1 q.2.2.2.2.2.2.1 q.2.2.2.2.2.2.2.1 q.2.2.2.2.2.2.2.2.1 q.2.2.2.2.2.2.2.2.2.1 q.2.2.2.2.2.2.2.2.2.2.1 q.2.2.2.2.2.2.2.2.2.2.2.1 q.2.2.2.2.2.2.2.2.2.2.2.2.1 q.2.2.2.2.2.2.2.2.2.2.2.2.2.1 q.2.2.2.2.2.2.2.2.2.2.2.2.2.2.1 q.2.2.2.2.2.2.2.2.2.2.2.2.2.2.2.1 q.2.2.2.2.2.2.2.2.2.2.2.2.2.2.2.2.1 q.2.2.2.2.2.2.2.2.2.2.2.2.2.2.2.2.2.1 q.2.2.2.2.2.2.2.2.2.2.2.2.2.2.2.2.2.2 | none => none
theorem g_ob19 {A0 A1 A2 A3 A4 A5 A6 A7 A8 A9 A10 A11 A12 A13 A14 A15 A16 A17 A18 β : Type} {x : Option (A0 × A1 × A2 × A3 × A4 × A5 × A6 × A7 × A8 × A9 × A10 × A11 × A12 × A13 × A14 × A15 × A16 × A17 × A18)} {f : A0 → A1 → A2 → A3 → A4 → A5 → A6 → A7 → A8 → A9 → A10 → A11 → A12 → A13 → A14 → A15 → A16 → A17 → A18 → Option β} {r : β} (h : ob19 x f = some r) : ∃ (a0 : A0) (a1 : A1) (a2 : A2) (a3 : A3) (a4 : A4) (a5 : A5) (a6 : A6) (a7 : A7) (a8 : A8) (a9 : A9) (a10 : A10) (a11 : A11) (a12 : A12) (a13 : A13) (a14 : A14) (a15 : A15) (a16 : A16) (a17 : A17) (a18 : A18), x = some (a0, a1, a2, a3, a4, a5, a6, a7, a8, a9, a10, a11, a12, a13, a14, a15, a16, a17, a18) ∧ f a0 a1 a2 a3 a4 a5 a6 a7 a8 a9 a10 a11 a12 a13 a14 a15 a16 a17 a18 = some r := by
  cases x with
  | none => cases h
  | some q => exact ⟨q.1, q.2.1, q.2.2.1, q.2.2.2.1, q.2.2.2.2.1, q.2.2.2.2.2.1, q.2.2.2.2.2.2.1, q.2.2.2.2.2.2.2.1, q.2.2.2.2.2.2.2.2.1, q.2.2.2.2.2.2.2.2.2.1, q.2.2.2.2.2.2.2.2.2.2.1, q.2.2.2.2.2.2.2.2.2.2.2.1, q.2.2.2.2.2.2.2.2.2.2.2.2.1, q.2.2.2.2.2.2.2.2.2.2.2.2.2.1, q.2.2.2.2.2.2.2.2.2.2.2.2.2.2.1, q.2.2.2.2.2.2.2.2.2.2.2.2.2.2.2.1, q.2.2.2.2.2.2.2.2.2.2.2.2.2.2.2.2.1, q.2.2.2.2.2.2.2.2.2.2.2.2.2.2.2.2.2.1, q.2.2.2.2.2.2.2.2.2.2.2.2.2.2.2.2.2.2, rfl, h⟩
theorem ob19_some {A0 A1 A2 A3 A4 A5 A6 A7 A8 A9 A10 A11 A12 A13 A14 A15 A16 A17 A18 β : Type} (a0 : A0) (a1 : A1) (a2 : A2) (a3 : A3) (a4 : A4) (a5 : A5) (a6 : A6) (a7 : A7) (a8 : A8) (a9 : A9) (a10 : A10) (a11 : A11) (a12 : A12) (a13 : A13) (a14 : A14) (a15 : A15) (a16 : A16) (a17 : A17) (a18 : A18) (f : A0 → A1 → A2 → A3 → A4 → A5 → A6 → A7 → A8 → A9 → A10 → A11 → A12 → A13 → A14 → A15 → A16 → A17 → A18 → Option β) : ob19 (some (a0, a1, a2, a3, a4, a5, a6, a7, a8, a9, a10, a11, a12, a13, a14, a15, a16, a17, a18)) f = f a0 a1 a2 a3 a4 a5 a6 a7 a8 a9 a10 a11 a12 a13 a14 a15 a16 a17 a18 := rfl
theorem g_so19 {A0 A1 A2 A3 A4 A5 A6 A7 A8 A9 A10 A11 A12 A13 A14 A15 A16 A17 A18 : Type} {a0 b0 : A0} {a1 b1 : A1} {a2 b2 : A2} {a3 b3 : A3} {a4 b4 : A4} {a5 b5 : A5} {a6 b6 : A6} {a7 b7 : A7} {a8 b8 : A8} {a9 b9 : A9} {a10 b10 : A10} {a11 b11 : A11} {a12 b12 : A12} {a13 b13 : A13} {a14 b14 : A14} {a15 b15 : A15} {a16 b16 : A16} {a17 b17 : A17} {a18 b18 : A18} (h : some (a0, a1, a2, a3, a4, a5, a6, a7, a8, a9, a10, a11, a12, a13, a14, a15, a16, a17, a18) = some (b0, b1, b2, b3, b4, b5, b6, b7, b8, b9, b10, b11, b12, b13, b14, b15, b16, b17, b18)) : a0 = b0 ∧ a1 = b1 ∧ a2 = b2 ∧ a3 = b3 ∧ a4 = b4 ∧ a5 = b5 ∧ a6 = b6 ∧ a7 = b7 ∧ a8 = b8 ∧ a9 = b9 ∧ a10 = b10 ∧ a11 = b11 ∧ a12 = b12 ∧ a13 = b13 ∧ a14 = b14 ∧ a15 = b15 ∧ a16 = b16 ∧ a17 = b17 ∧ a18 = b18 := by
  cases h
  exact ⟨rfl, rfl, rfl, rfl, rfl, rfl, rfl, rfl, rfl, rfl, rfl, rfl, rfl, rfl, rfl, rfl, rfl, rfl, rfl⟩
def ob20 {A0 A1 A2 A3 A4 A5 A6 A7 A8 A9 A10 A11 A12 A13 A14 A15 A16 A17 A18 A19 β : Type} (x : Option (A0 × A1 × A2 × A3 × A4 × A5 × A6 × A7 × A8 × A9 × A10 × A11 × A12 × A13 × A14 × A15 × A16 × A17 × A18 × A19)) (f : A0 → A1 → A2 → A3 → A4 → A5 → A6 → A7 → A8 → A9 → A10 → A11 → A12 → A13 → A14 → A15 → A16 → A17 → A18 → A19 → Option β) : Option β := match x with | some q => f q.1 q.2.1 q.2.2.1 q.2.2.2.1 q.2.2.2.2.1 q.2.2.2.2.2.1 q.2.2.2.2.2.2.1 q.2.2.2.2.2.2.2.1 q.2.2.2.2.2.2.2.2.1 q.2.2.2.2.2.2.2.2.2.1 q.2.2.2.2.2.2.2.2.2.2.1 q.2.2.2.2.2.2.2.2.2.2.2.1 q.2.2.2.2.2.2.2.2.2.2.2.2.1 q.2.2.2.2.2.2.2.2.2.2.2.2.2.1 q.2.2.2.2.2.2.2.2.2.2.2.2.2.2.1 q.2.2.2.2.2.2.2.2.2.2.2.2.2.2.2.1 q.2.2.2.2.2.2.2.2.2.2.2.2.2.2.2.2.1 q.2.2.2.2.2.2.2.2.2.2.2.2.2.2.2.2.2.1 q.2.2.2.2.2.2.2.2.2.2.2.2.2.2.2.2.2.2.1 q.2.2.2.2.2.2.2.2.2.2.2.2.2.2.2.2.2.2.2 | none => none
theorem g_ob20 {A0 A1 A2 A3 A4 A5 A6 A7 A8 A9 A10 A11 A12 A13 A14 A15 A16 A17 A18 A19 β : Type} {x : Option (A0 × A1 × A2 × A3 × A4 × A5 × A6 × A7 × A8 × A9 × A10 × A11 × A12 × A13 × A14 × A15 × A16 × A17 × A18 × A19)} {f : A0 → A1 → A2 → A3 → A4 → A5 → A6 → A7 → A8 → A9 → A10 → A11 → A12 → A13 → A14 → A15 → A16 → A17 → A18 → A19 → Option β} {r : β} (h : ob20 x f = some r) : ∃ (a0 : A0) (a1 : A1) (a2 : A2) (a3 : A3) (a4 : A4) (a5 : A5) (a6 : A6) (a7 : A7) (a8 : A8) (a9 : A9) (a10 : A10) (a11 : A11) (a12 : A12) (a13 : A13) (a14 : A14) (a15 : A15) (a16 : A16) (a17 : A17) (a18 : A18) (a19 : A19), x = some (a0, a1, a2, a3, a4, a5, a6, a7, a8, a9, a10, a11, a12, a13, a14, a15, a16, a17, a18, a19) ∧ f a0 a1 a2 a3 a4 a5 a6 a7 a8 a9 a10 a11 a12 a13 a14 a15 a16 a17 a18 a19 = some r := by
  cases x with
  | none => cases h
  | some q => exact ⟨q.1, q.2.1, q.2.2.1, q.2.2.2.1, q.2.2.2.2.1, q.2.2.2.2.2.1, q.2.2.2.2.2.2.1, q.2.2.2.2.2.2.2.1, q.2.2.2.2.2.2.2.2.1, q.2.2.2.2.2.2.2.2.2.1, q.2.2.2.2.2.2.2.2.2.2.1, q.2.2.2.2.2.2.2.2.2.2.2.1, q.2.2.2.2.2.2.2.2.2.2.2.2.1, q.2.2.2.2.2.2.2.2.2.2.2.2.2.1, q.2.2.2.2.2.2.2.2.2.2.2.2.2.2.1, q.2.2.2.2.2.2.2.2.2.2.2.2.2.2.2.1, q.2.2.2.2.2.2.2.2.2.2.2.2.2.2.2.2.1, q.2.2.2.2.2.2.2.2.2.2.2.2.2.2.2.2.2.1, q.2.2.2.2.2.2.2.2.2.2.2.2.2.2.2.2.2.2.1, q.2.2.2.2.2.2.2.2.2.2.2.2.2.2.2.2.2.2.2, rfl, h⟩
theorem ob20_some {A0 A1 A2 A3 A4 A5 A6 A7 A8 A9 A10 A11 A12 A13 A14 A15 A16 A17 A18 A19 β : Type} (a0 : A0) (a1 : A1) (a2 : A2) (a3 : A3) (a4 : A4) (a5 : A5) (a6 : A6) (a7 : A7) (a8 : A8) (a9 : A9) (a10 : A10) (a11 : A11) (a12 : A12) (a13 : A13) (a14 : A14) (a15 : A15) (a16 : A16) (a17 : A17) (a18 : A18) (a19 : A19) (f : A0 → A1 → A2 → A3 → A4 → A5 → A6 → A7 → A8 → A9 → A10 → A11 → A12 → A13 → A14 → A15 → A16 → A17 → A18 → A19 → Option β) : ob20 (some (a0, a1, a2, a3, a4, a5, a6, a7, a8, a9, a10, a11, a12, a13, a14, a15, a16, a17, a18, a19)) f = f a0 a1 a2 a3 a4 a5 a6 a7 a8 a9 a10 a11 a12 a13 a14 a15 a16 a17 a18 a19 := rfl
theorem g_so20 {A0 A1 A2 A3 A4 A5 A6 A7 A8 A9 A10 A11 A12 A13 A14 A15 A16 A17 A18 A19 : Type} {a0 b0 : A0} {a1 b1 : A1} {a2 b2 : A2} {a3 b3 : A3} {a4 b4 : A4} {a5 b5 : A5} {a6 b6 : A6} {a7 b7 : A7} {a8 b8 : A8} {a9 b9 : A9} {a10 b10 : A10} {a11 b11 : A11} {a12 b12 : A12} {a13 b13 : A13} {a14 b14 : A14} {a15 b15 : A15} {a16 b16 : A16} {a17 b17 : A17} {a18 b18 : A18} {a19 b19 : A19} (h : some (a0, a1, a2, a3, a4, a5, a6, a7, a8, a9, a10, a11, a12, a13, a14, a15, a16, a17, a18, a19) = some (b0, b1, b2, b3, b4, b5, b6, b7, b8, b9, b10, b11, b12, b13, b14, b15, b16, b17, b18, b19)) : a0 = b0 ∧ a1 = b1 ∧ a2 = b2 ∧ a3 = b3 ∧ a4 = b4 ∧ a5 = b5 ∧ a6 = b6 ∧ a7 = b7 ∧ a8 = b8 ∧ a9 = b9 ∧ a10 = b10 ∧ a11 = b11 ∧ a12 = b12 ∧ a13 = b13 ∧ a14 = b14 ∧ a15 = b15 ∧ a16 = b16 ∧ a17 = b17 ∧ a18 = b18 ∧ a19 = b19 := by
  cases h
  exact ⟨rfl, rfl, rfl, rfl, rfl, rfl, rfl, rfl, rfl, rfl, rfl, rfl, rfl, rfl, rfl, rfl, rfl, rfl, rfl, rfl⟩
theorem ob0_some {β : Type} (u : Unit) (f : Option β) : ob0 (some u) f = f := rfl
abbrev cW (h : Nat → Nat) (cI cJ : ClassId) (lc : Int32) (la : Int32) (hr : Int32) (gP : Int32) (gC : Int32) (gR : Int32) (tn : Int32) (pn : Int32) (pg : Int32) (pq : Int32) (rl : Nat → Int32) (sr : Nat → Int32) (gcb : Nat → Int32) (gpb : Nat → Int64) (tg : Nat → Int32) (tm : Nat → Int32) (tl : Nat → Int32) (pm : Nat → Int32) (ps : Nat → Int32) : va_W := [(h 0, .inr (3, [.ref (h 1), .ref (h 2), .ref (h 3), .ref (h 4), .ref (h 5), .int lc, .int la, .int hr])), (h 1, .inr (1, [.int gP, .int gC, .int gR, .ref (h 6), .ref (h 7)])), (h 2, .inr (0, [.ref (h 1), .int tn, .ref (h 8), .ref (h 9), .ref (h 10)])), (h 3, .inr (2, [.int pn, .int pg, .int pq, .ref (h 11), .ref (h 12)])), (h 4, .inl (cI, (256, .inl rl))), (h 5, .inl (cI, (300, .inl sr))), (h 6, .inl (cI, (256, .inl gcb))), (h 7, .inl (cJ, (256, .inr (.inl gpb)))), (h 8, .inl (cI, (10, .inl tg))), (h 9, .inl (cI, (10, .inl tm))), (h 10, .inl (cI, (256, .inl tl))), (h 11, .inl (cI, (81, .inl pm))), (h 12, .inl (cI, (81, .inl ps)))]
abbrev mW (k : Nat → Nat) (cI : ClassId) (th : Int32) (mP : Int32) (mC : Int32) (mR : Int32) (mal : Int32) (mhd : Int32) (mn : Int32) (mg : Nat → Int32) (mt : Nat → Int32) (mh : Nat → Int32) (mz : Nat → Int32) (mset : Nat → Int32) (mfr : Nat → Int32) (mma : Nat → Int32) (mde : Nat → Int32) (mls : Nat → Int32) : va_W := [(k 0, .inr (4, [.int th, .int mP, .int mC, .int mR, .int mal, .int mhd, .int mn, .ref (k 1), .ref (k 2), .ref (k 3), .ref (k 4), .ref (k 5), .ref (k 6), .ref (k 7), .ref (k 8), .ref (k 9)])), (k 1, .inl (cI, (10, .inl mg))), (k 2, .inl (cI, (10, .inl mt))), (k 3, .inl (cI, (6, .inl mh))), (k 4, .inl (cI, (100, .inl mz))), (k 5, .inl (cI, (2048, .inl mset))), (k 6, .inl (cI, (700, .inl mfr))), (k 7, .inl (cI, (700, .inl mma))), (k 8, .inl (cI, (700, .inl mde))), (k 9, .inl (cI, (256, .inl mls)))]
abbrev oW (ho : Nat) (cJ : ClassId) (ov : Nat → Int64) : va_W := [(ho, .inl (cJ, (1, .inr (.inl ov))))]
abbrev fW (fa N : Nat) (cI : ClassId) (fv : Nat → Int32) : va_W := [(fa, .inl (cI, (N, .inl fv)))]
theorem gtw_IOO : Bundle.fit "java/lang/IndexOutOfBoundsException" = true ∧ (∀ w ∈ (vx_atS RX3 68 "java/lang/IndexOutOfBoundsException" gNames).filter (fun w => !goodWord w), w ∈ [Cond.castable "java/lang/IndexOutOfBoundsException" "java/lang/IndexOutOfBoundsException", Cond.declares (Bundle.initS "java/lang/RuntimeException"), Cond.declares (Bundle.initS "java/lang/Exception"), Cond.declares (Bundle.initS Bundle.tN)]) ∧ ∀ w ∈ Cond.classLink RX3 64 "java/lang/IndexOutOfBoundsException" :: Cond.initialized "java/lang/IndexOutOfBoundsException" :: vx_atS RX3 68 "java/lang/IndexOutOfBoundsException" gNames, vx_ot w = true := by decide +kernel
theorem gtw_IAE : Bundle.fit "java/lang/IllegalArgumentException" = true ∧ (∀ w ∈ (vx_atS RX3 50 "java/lang/IllegalArgumentException" gNames).filter (fun w => !goodWord w), w ∈ [Cond.castable "java/lang/IllegalArgumentException" "java/lang/IllegalArgumentException", Cond.declares (Bundle.initS "java/lang/RuntimeException"), Cond.declares (Bundle.initS "java/lang/Exception"), Cond.declares (Bundle.initS Bundle.tN)]) ∧ ∀ w ∈ Cond.classLink RX3 46 "java/lang/IllegalArgumentException" :: Cond.initialized "java/lang/IllegalArgumentException" :: vx_atS RX3 50 "java/lang/IllegalArgumentException" gNames, vx_ot w = true := by decide +kernel
theorem gtw_ISE : Bundle.fit "java/lang/IllegalStateException" = true ∧ (∀ w ∈ (vx_atS RX3 91 "java/lang/IllegalStateException" gNames).filter (fun w => !goodWord w), w ∈ [Cond.castable "java/lang/IllegalStateException" "java/lang/IllegalStateException", Cond.declares (Bundle.initS "java/lang/RuntimeException"), Cond.declares (Bundle.initS "java/lang/Exception"), Cond.declares (Bundle.initS Bundle.tN)]) ∧ ∀ w ∈ Cond.classLink RX3 87 "java/lang/IllegalStateException" :: Cond.initialized "java/lang/IllegalStateException" :: vx_atS RX3 91 "java/lang/IllegalStateException" gNames, vx_ot w = true := by decide +kernel
section GS
variable {p : Program} {l : Launch} {e : Env} {R : Room} {s : State} {m : MethodId} {args : Array Value} {below : List Frame} {meth : Method} {c : Code} {A : Nat → Prop} {D : va_G} {nL : Nat} {Q : State → Prop} {ws ws' : va_W} {lvs lvs' : List (Nat × Value)} {k n pc : Nat} {st : List Value} {tys : List (ClassId × FieldType)} {own : String} {cc : ByteArray} {Ts : List Cond}
theorem gV_calliS (C : gC p l s m args meth c A D tys nL own cc Ts) {mc ms : Nat} {rest : List Value} {a : Array Value} {post : Int32 → va_W → Prop} {px : String → va_W → Prop} (hr : gRun p l e R s m args below meth c A D nL ws lvs k n pc st rest mc ms ws (fun sz => gQi post D tys ws sz a) (gXx px D tys ws)) (kx : ∀ (E : String) (w1 : va_W), px E w1 → gT p l e R s m args below meth c A D nL Q E w1 lvs (k + mc) (n + ms) pc rest) (kk : ∀ (r : Int32) (w1 : va_W), post r w1 → gV p l e R s m args below meth c A D nL Q w1 lvs (k + mc) (n + ms) (pc + 3) (.int r :: rest)) : gV p l e R s m args below meth c A D nL Q ws lvs k n pc st := gV_calli (wr := []) C (gSub_S ws) hr kx kk
theorem gV_calliE (C : gC p l s m args meth c A D tys nL own cc Ts) {rest : List Value} {a : Array Value} {post : Int32 → va_W → Prop} (hr : gRun p l e R s m args below meth c A D nL ws lvs k n pc st rest 0 0 [] (fun sz => gQi post D tys [] sz a) (gXx (fun _ _ => False) D tys [])) (kx : ∀ (E : String) (w1 : va_W), False → True) (kk : ∀ (r : Int32) (w1 : va_W), post r w1 → w1 = [] ∧ gV p l e R s m args below meth c A D nL Q ws lvs k n (pc + 3) (.int r :: rest)) : gV p l e R s m args below meth c A D nL Q ws lvs k n pc st := gV_calli C (gSub_E ws) hr (fun _ _ h => h.elim) (fun r w1 hw => by
  obtain ⟨rfl, K⟩ := kk r w1 hw
  rw [List.append_nil]
  exact K)
theorem gV_calllS (C : gC p l s m args meth c A D tys nL own cc Ts) {mc ms : Nat} {rest : List Value} {a : Array Value} {post : Int64 → va_W → Prop} {px : String → va_W → Prop} (hr : gRun p l e R s m args below meth c A D nL ws lvs k n pc st rest mc ms ws (fun sz => gQl post D tys ws sz a) (gXx px D tys ws)) (kx : ∀ (E : String) (w1 : va_W), px E w1 → gT p l e R s m args below meth c A D nL Q E w1 lvs (k + mc) (n + ms) pc rest) (kk : ∀ (r : Int64) (w1 : va_W), post r w1 → gV p l e R s m args below meth c A D nL Q w1 lvs (k + mc) (n + ms) (pc + 3) (.long r :: rest)) : gV p l e R s m args below meth c A D nL Q ws lvs k n pc st := gV_calll (wr := []) C (gSub_S ws) hr kx kk
theorem gV_calllE (C : gC p l s m args meth c A D tys nL own cc Ts) {rest : List Value} {a : Array Value} {post : Int64 → va_W → Prop} (hr : gRun p l e R s m args below meth c A D nL ws lvs k n pc st rest 0 0 [] (fun sz => gQl post D tys [] sz a) (gXx (fun _ _ => False) D tys [])) (kx : ∀ (E : String) (w1 : va_W), False → True) (kk : ∀ (r : Int64) (w1 : va_W), post r w1 → w1 = [] ∧ gV p l e R s m args below meth c A D nL Q ws lvs k n (pc + 3) (.long r :: rest)) : gV p l e R s m args below meth c A D nL Q ws lvs k n pc st := gV_calll C (gSub_E ws) hr (fun _ _ h => h.elim) (fun r w1 hw => by
  obtain ⟨rfl, K⟩ := kk r w1 hw
  rw [List.append_nil]
  exact K)
theorem gV_callvS (C : gC p l s m args meth c A D tys nL own cc Ts) {mc ms : Nat} {rest : List Value} {a : Array Value} {post : va_W → Prop} {px : String → va_W → Prop} (hr : gRun p l e R s m args below meth c A D nL ws lvs k n pc st rest mc ms ws (fun sz => gQv post D tys ws sz a) (gXx px D tys ws)) (kx : ∀ (E : String) (w1 : va_W), px E w1 → gT p l e R s m args below meth c A D nL Q E w1 lvs (k + mc) (n + ms) pc rest) (kk : ∀ w1 : va_W, post w1 → gV p l e R s m args below meth c A D nL Q w1 lvs (k + mc) (n + ms) (pc + 3) (rest)) : gV p l e R s m args below meth c A D nL Q ws lvs k n pc st := gV_callv (wr := []) C (gSub_S ws) hr kx kk
theorem gV_callvE (C : gC p l s m args meth c A D tys nL own cc Ts) {rest : List Value} {a : Array Value} {post : va_W → Prop} (hr : gRun p l e R s m args below meth c A D nL ws lvs k n pc st rest 0 0 [] (fun sz => gQv post D tys [] sz a) (gXx (fun _ _ => False) D tys [])) (kx : ∀ (E : String) (w1 : va_W), False → True) (kk : ∀ w1 : va_W, post w1 → w1 = [] ∧ gV p l e R s m args below meth c A D nL Q ws lvs k n (pc + 3) (rest)) : gV p l e R s m args below meth c A D nL Q ws lvs k n pc st := gV_callv C (gSub_E ws) hr (fun _ _ h => h.elim) (fun w1 hw => by
  obtain ⟨rfl, K⟩ := kk w1 hw
  rw [List.append_nil]
  exact K)
end GS
theorem gsub_c_10 (ws wc wr : va_W) (h1 : [10].map (fun i => ws[i]?) = wc.map some) (h2 : [0, 1, 2, 3, 4, 5, 6, 7, 8, 9, 11, 12].map (fun i => ws[i]?) = wr.map some) : gSub ws wc wr := gSub.mk [10] [0, 1, 2, 3, 4, 5, 6, 7, 8, 9, 11, 12] h1 h2 (by decide) (by decide) (by decide)
theorem gsub_c_12 (ws wc wr : va_W) (h1 : [12].map (fun i => ws[i]?) = wc.map some) (h2 : [0, 1, 2, 3, 4, 5, 6, 7, 8, 9, 10, 11].map (fun i => ws[i]?) = wr.map some) : gSub ws wc wr := gSub.mk [12] [0, 1, 2, 3, 4, 5, 6, 7, 8, 9, 10, 11] h1 h2 (by decide) (by decide) (by decide)
end
section
def pf_J6_bitCount_0f7a4   (v0 : Int32) : Option (Int32) := (gl (v0 - ((g_ush v0 1) &&& 1431655765)) fun v0_9 => (gl ((v0_9 &&& 858993459) + ((g_ush v0_9 2) &&& 858993459)) fun v0_23 => (gl ((v0_23 + (g_ush v0_23 4)) &&& 252645135) fun v0_33 => (gl ((v0_33 + (g_ush v0_33 8)) + (g_ush (v0_33 + (g_ush v0_33 8)) 16)) fun v0_47 => some (v0_47 &&& 63)))))
abbrev rm_J6_bitCount_0f7a4 : Room := { frames := 0, cells := 0, slots := 0, locals := 0 }
set_option maxHeartbeats 4000000 in
set_option maxRecDepth 100000 in
theorem mt_J6_bitCount_0f7a4 {l : Launch} (hl : l.stackTraces = false) (D : va_G)  (cI cJ : ClassId)  (v0 : Int32) (r0 : Int32) (hp : pf_J6_bitCount_0f7a4 v0 = some r0) : gMi l yJ6_bitCount_0f7a4 wsJ6_bitCount_0f7a4 rm_J6_bitCount_0f7a4 D [(cI, .int), (cJ, .long)] [] [.int v0] 0 0 (fun r w => r = r0 ∧ w = []) (fun _ _ => False) := by
  refine gMi_of (cc := cJ6_bitCount_0f7a4) (maxL := 1) (rt := .int) hl (by decide +kernel) rfl (Nat.le_of_ble_eq_true rfl) ?_
  intro p e s m args below meth c A Q C hnm ht RET OUT THR THRW
  have C : gC p l s m args meth c A D [(cI, .int), (cJ, .long)] 1 RJ6 cJ6_bitCount_0f7a4 wsJ6_bitCount_0f7a4 := C
  refine gV_loc (lvs' := [(0, .int v0)]) [0] rfl ?_
  unfold pf_J6_bitCount_0f7a4 at hp
  refine gV_iload_n C dJ6_bitCount_0f7a4_0 rfl 0 rfl ?_
  refine gV_iload_n C dJ6_bitCount_0f7a4_1 rfl 0 rfl ?_
  refine gV_iconst (v := 1) C dJ6_bitCount_0f7a4_2 rfl ?_
  refine gV_iushr C dJ6_bitCount_0f7a4_3 ?_
  refine gV_ldcw (v := 1431655765) C dJ6_bitCount_0f7a4_4 (C.w 1 rfl) ?_
  refine gV_iand C dJ6_bitCount_0f7a4_7 ?_
  refine gV_isub C dJ6_bitCount_0f7a4_8 ?_
  refine gV_topI (fun v0_9 he9 => ?_)
  replace hp := g_let hp he9
  refine gV_istore_n (lvs' := [(0, .int v0_9)]) C dJ6_bitCount_0f7a4_9 rfl (by decide) rfl ?_
  refine gV_iload_n C dJ6_bitCount_0f7a4_10 rfl 0 rfl ?_
  refine gV_ldcw (v := 858993459) C dJ6_bitCount_0f7a4_11 (C.w 2 rfl) ?_
  refine gV_iand C dJ6_bitCount_0f7a4_14 ?_
  refine gV_iload_n C dJ6_bitCount_0f7a4_15 rfl 0 rfl ?_
  refine gV_iconst (v := 2) C dJ6_bitCount_0f7a4_16 rfl ?_
  refine gV_iushr C dJ6_bitCount_0f7a4_17 ?_
  refine gV_ldcw (v := 858993459) C dJ6_bitCount_0f7a4_18 (C.w 2 rfl) ?_
  refine gV_iand C dJ6_bitCount_0f7a4_21 ?_
  refine gV_iadd C dJ6_bitCount_0f7a4_22 ?_
  refine gV_topI (fun v0_23 he23 => ?_)
  replace hp := g_let hp he23
  refine gV_istore_n (lvs' := [(0, .int v0_23)]) C dJ6_bitCount_0f7a4_23 rfl (by decide) rfl ?_
  refine gV_iload_n C dJ6_bitCount_0f7a4_24 rfl 0 rfl ?_
  refine gV_iload_n C dJ6_bitCount_0f7a4_25 rfl 0 rfl ?_
  refine gV_iconst (v := 4) C dJ6_bitCount_0f7a4_26 rfl ?_
  refine gV_iushr C dJ6_bitCount_0f7a4_27 ?_
  refine gV_iadd C dJ6_bitCount_0f7a4_28 ?_
  refine gV_ldcw (v := 252645135) C dJ6_bitCount_0f7a4_29 (C.w 3 rfl) ?_
  refine gV_iand C dJ6_bitCount_0f7a4_32 ?_
  refine gV_topI (fun v0_33 he33 => ?_)
  replace hp := g_let hp he33
  refine gV_istore_n (lvs' := [(0, .int v0_33)]) C dJ6_bitCount_0f7a4_33 rfl (by decide) rfl ?_
  refine gV_iload_n C dJ6_bitCount_0f7a4_34 rfl 0 rfl ?_
  refine gV_iload_n C dJ6_bitCount_0f7a4_35 rfl 0 rfl ?_
  refine gV_bipush (v := 8) C dJ6_bitCount_0f7a4_36 rfl ?_
  refine gV_iushr C dJ6_bitCount_0f7a4_38 ?_
  refine gV_iadd C dJ6_bitCount_0f7a4_39 ?_
  refine gV_istore_n (lvs' := [(0, .int (v0_33 + (g_ush v0_33 8)))]) C dJ6_bitCount_0f7a4_40 rfl (by decide) rfl ?_
  refine gV_iload_n C dJ6_bitCount_0f7a4_41 rfl 0 rfl ?_
  refine gV_iload_n C dJ6_bitCount_0f7a4_42 rfl 0 rfl ?_
  refine gV_bipush (v := 16) C dJ6_bitCount_0f7a4_43 rfl ?_
  refine gV_iushr C dJ6_bitCount_0f7a4_45 ?_
  refine gV_iadd C dJ6_bitCount_0f7a4_46 ?_
  refine gV_topI (fun v0_47 he47 => ?_)
  replace hp := g_let hp he47
  refine gV_istore_n (lvs' := [(0, .int v0_47)]) C dJ6_bitCount_0f7a4_47 rfl (by decide) rfl ?_
  refine gV_iload_n C dJ6_bitCount_0f7a4_48 rfl 0 rfl ?_
  refine gV_bipush (v := 63) C dJ6_bitCount_0f7a4_49 rfl ?_
  refine gV_iand C dJ6_bitCount_0f7a4_51 ?_
  obtain rfl := g_so1 hp
  exact RET _ _ _ _ _ _ dJ6_bitCount_0f7a4_52 (Nat.le_of_ble_eq_true rfl) (Nat.le_of_ble_eq_true rfl) rfl ⟨rfl, rfl⟩
def pf_J13_bitCount_95d88   (v0 : Int64) : Option (Int32) := (gl (v0 - ((g_lush v0 1) &&& 6148914691236517205)) fun v0_9 => (gl ((v0_9 &&& 3689348814741910323) + ((g_lush v0_9 2) &&& 3689348814741910323)) fun v0_23 => (gl ((v0_23 + (g_lush v0_23 4)) &&& 1085102592571150095) fun v0_33 => (gl ((v0_33 + (g_lush v0_33 8)) + (g_lush (v0_33 + (g_lush v0_33 8)) 16)) fun v0_47 => some ((Int64.toInt32 (v0_47 + (g_lush v0_47 32))) &&& 127)))))
abbrev rm_J13_bitCount_95d88 : Room := { frames := 0, cells := 0, slots := 0, locals := 0 }
set_option maxHeartbeats 4000000 in
set_option maxRecDepth 100000 in
theorem mt_J13_bitCount_95d88 {l : Launch} (hl : l.stackTraces = false) (D : va_G)  (cI cJ : ClassId)  (v0 : Int64) (r0 : Int32) (hp : pf_J13_bitCount_95d88 v0 = some r0) : gMi l yJ13_bitCount_95d88 wsJ13_bitCount_95d88 rm_J13_bitCount_95d88 D [(cI, .int), (cJ, .long)] [] [.long v0] 0 0 (fun r w => r = r0 ∧ w = []) (fun _ _ => False) := by
  refine gMi_of (cc := cJ13_bitCount_95d88) (maxL := 2) (rt := .int) hl (by decide +kernel) rfl (Nat.le_of_ble_eq_true rfl) ?_
  intro p e s m args below meth c A Q C hnm ht RET OUT THR THRW
  have C : gC p l s m args meth c A D [(cI, .int), (cJ, .long)] 2 RJ13 cJ13_bitCount_95d88 wsJ13_bitCount_95d88 := C
  refine gV_loc (lvs' := [(0, .long v0)]) [0] rfl ?_
  unfold pf_J13_bitCount_95d88 at hp
  refine gV_lload_n C dJ13_bitCount_95d88_0 rfl 0 rfl ?_
  refine gV_lload_n C dJ13_bitCount_95d88_1 rfl 0 rfl ?_
  refine gV_iconst (v := 1) C dJ13_bitCount_95d88_2 rfl ?_
  refine gV_lushr C dJ13_bitCount_95d88_3 ?_
  refine gV_ldc2 (v := 6148914691236517205) C dJ13_bitCount_95d88_4 (C.w 1 rfl) ?_
  refine gV_land C dJ13_bitCount_95d88_7 ?_
  refine gV_lsub C dJ13_bitCount_95d88_8 ?_
  refine gV_topJ (fun v0_9 he9 => ?_)
  replace hp := g_let hp he9
  refine gV_lstore_n (lvs' := [(0, .long v0_9)]) C dJ13_bitCount_95d88_9 rfl (by decide) rfl ?_
  refine gV_lload_n C dJ13_bitCount_95d88_10 rfl 0 rfl ?_
  refine gV_ldc2 (v := 3689348814741910323) C dJ13_bitCount_95d88_11 (C.w 2 rfl) ?_
  refine gV_land C dJ13_bitCount_95d88_14 ?_
  refine gV_lload_n C dJ13_bitCount_95d88_15 rfl 0 rfl ?_
  refine gV_iconst (v := 2) C dJ13_bitCount_95d88_16 rfl ?_
  refine gV_lushr C dJ13_bitCount_95d88_17 ?_
  refine gV_ldc2 (v := 3689348814741910323) C dJ13_bitCount_95d88_18 (C.w 2 rfl) ?_
  refine gV_land C dJ13_bitCount_95d88_21 ?_
  refine gV_ladd C dJ13_bitCount_95d88_22 ?_
  refine gV_topJ (fun v0_23 he23 => ?_)
  replace hp := g_let hp he23
  refine gV_lstore_n (lvs' := [(0, .long v0_23)]) C dJ13_bitCount_95d88_23 rfl (by decide) rfl ?_
  refine gV_lload_n C dJ13_bitCount_95d88_24 rfl 0 rfl ?_
  refine gV_lload_n C dJ13_bitCount_95d88_25 rfl 0 rfl ?_
  refine gV_iconst (v := 4) C dJ13_bitCount_95d88_26 rfl ?_
  refine gV_lushr C dJ13_bitCount_95d88_27 ?_
  refine gV_ladd C dJ13_bitCount_95d88_28 ?_
  refine gV_ldc2 (v := 1085102592571150095) C dJ13_bitCount_95d88_29 (C.w 3 rfl) ?_
  refine gV_land C dJ13_bitCount_95d88_32 ?_
  refine gV_topJ (fun v0_33 he33 => ?_)
  replace hp := g_let hp he33
  refine gV_lstore_n (lvs' := [(0, .long v0_33)]) C dJ13_bitCount_95d88_33 rfl (by decide) rfl ?_
  refine gV_lload_n C dJ13_bitCount_95d88_34 rfl 0 rfl ?_
  refine gV_lload_n C dJ13_bitCount_95d88_35 rfl 0 rfl ?_
  refine gV_bipush (v := 8) C dJ13_bitCount_95d88_36 rfl ?_
  refine gV_lushr C dJ13_bitCount_95d88_38 ?_
  refine gV_ladd C dJ13_bitCount_95d88_39 ?_
  refine gV_lstore_n (lvs' := [(0, .long (v0_33 + (g_lush v0_33 8)))]) C dJ13_bitCount_95d88_40 rfl (by decide) rfl ?_
  refine gV_lload_n C dJ13_bitCount_95d88_41 rfl 0 rfl ?_
  refine gV_lload_n C dJ13_bitCount_95d88_42 rfl 0 rfl ?_
  refine gV_bipush (v := 16) C dJ13_bitCount_95d88_43 rfl ?_
  refine gV_lushr C dJ13_bitCount_95d88_45 ?_
  refine gV_ladd C dJ13_bitCount_95d88_46 ?_
  refine gV_topJ (fun v0_47 he47 => ?_)
  replace hp := g_let hp he47
  refine gV_lstore_n (lvs' := [(0, .long v0_47)]) C dJ13_bitCount_95d88_47 rfl (by decide) rfl ?_
  refine gV_lload_n C dJ13_bitCount_95d88_48 rfl 0 rfl ?_
  refine gV_lload_n C dJ13_bitCount_95d88_49 rfl 0 rfl ?_
  refine gV_bipush (v := 32) C dJ13_bitCount_95d88_50 rfl ?_
  refine gV_lushr C dJ13_bitCount_95d88_52 ?_
  refine gV_ladd C dJ13_bitCount_95d88_53 ?_
  refine gV_lstore_n (lvs' := [(0, .long (v0_47 + (g_lush v0_47 32)))]) C dJ13_bitCount_95d88_54 rfl (by decide) rfl ?_
  refine gV_lload_n C dJ13_bitCount_95d88_55 rfl 0 rfl ?_
  refine gV_l2i C dJ13_bitCount_95d88_56 ?_
  refine gV_bipush (v := 127) C dJ13_bitCount_95d88_57 rfl ?_
  refine gV_iand C dJ13_bitCount_95d88_59 ?_
  obtain rfl := g_so1 hp
  exact RET _ _ _ _ _ _ dJ13_bitCount_95d88_60 (Nat.le_of_ble_eq_true rfl) (Nat.le_of_ble_eq_true rfl) rfl ⟨rfl, rfl⟩
def pf_J7_fill_53178_L5 (v1 : Int32) (N : Nat) (v3 : Int32) : Nat → Int32 → (Nat → Int32) → Option ((Nat → Int32))
  | 0, _, _ => none
  | n5 + 1, v2, fv => (if v3 ≤ v2 then some fv else (gi v2 N (pf_J7_fill_53178_L5 v1 N v3 n5 (v2 + 1) (upd fv v2.toNatClampNeg v1))))
def pf_J7_fill_53178  (N : Nat) (fv : Nat → Int32) (v1 : Int32) : Option ((Nat → Int32)) := (pf_J7_fill_53178_L5 v1 N (Int32.ofNat N) 100000 0 fv)
abbrev rm_J7_fill_53178 : Room := { frames := 0, cells := 0, slots := 0, locals := 0 }
set_option maxHeartbeats 4000000 in
set_option maxRecDepth 100000 in
theorem mt_J7_fill_53178 {l : Launch} (hl : l.stackTraces = false) (D : va_G) (fa N : Nat) (cI cJ : ClassId) (fv : Nat → Int32) (v1 : Int32) (fv0 : Nat → Int32) (hp : pf_J7_fill_53178 N fv v1 = some fv0) : gMv l yJ7_fill_53178 wsJ7_fill_53178 rm_J7_fill_53178 D [(cI, .int), (cJ, .long)] (fW fa N cI fv) [.ref fa, .int v1] 0 0 (fun w => w = fW fa N cI fv0) (fun _ _ => False) := by
  refine gMv_of (cc := cJ7_fill_53178) (maxL := 4) hl (by decide +kernel) rfl (Nat.le_of_ble_eq_true rfl) ?_
  intro p e s m args below meth c A Q C hnm ht RET OUT THR THRW
  have C : gC p l s m args meth c A D [(cI, .int), (cJ, .long)] 4 RJ7 cJ7_fill_53178 wsJ7_fill_53178 := C
  refine gV_loc (lvs' := [(0, .ref fa), (1, .int v1)]) [0, 1] rfl ?_
  unfold pf_J7_fill_53178 at hp
  have L5 : ∀ (v3 : Int32) (n5 : Nat) (v2 : Int32) (fv : Nat → Int32), pf_J7_fill_53178_L5 v1 N v3 n5 v2 fv = some fv0 → gV p l e rm_J7_fill_53178 s m args below meth c A D 4 Q (fW fa N cI fv) [(0, .ref fa), (1, .int v1), (2, .int v2), (3, .int v3)] 0 0 5 [] := by
    intro v3 n5
    induction n5 with
    | zero => intro v2 fv hp; exact g_none hp
    | succ n5 ih5 =>
      intro v2 fv hp
      rw [pf_J7_fill_53178_L5.eq_2] at hp
      refine gV_iload_n C dJ7_fill_53178_5 rfl 2 rfl ?_
      refine gV_iload_n C dJ7_fill_53178_6 rfl 3 rfl ?_
      refine gV_icmp_ge (tgt := 20) C dJ7_fill_53178_7 (by decide) (fun c7 => ?_) (fun c7 => ?_)
      · replace hp := g_ift hp c7
        obtain rfl := g_so1 hp
        exact RET _ _ _ _ _ dJ7_fill_53178_20 (Nat.le_of_ble_eq_true rfl) (Nat.le_of_ble_eq_true rfl) rfl
      · replace hp := g_iff hp c7
        refine gV_aload_n C dJ7_fill_53178_10 rfl 0 rfl ?_
        refine gV_iload_n C dJ7_fill_53178_11 rfl 2 rfl ?_
        refine gV_iload_n C dJ7_fill_53178_12 rfl 1 rfl ?_
        obtain ⟨hi13, hp⟩ := g_idx hp
        refine gV_iast (ws' := fW fa N cI (upd fv v2.toNatClampNeg v1)) C 0 rfl 0 rfl hi13 dJ7_fill_53178_13 rfl ?_
        refine gV_iinc (v := (v2 + 1)) (lvs' := [(2, .int (v2 + 1)), (0, .ref fa), (1, .int v1), (3, .int v3)]) C dJ7_fill_53178_14 2 rfl rfl (by decide) rfl ?_
        refine gV_goto (tgt := 5) C dJ7_fill_53178_17 (by decide) ?_
        refine gV_loc [1, 2, 0, 3] rfl ?_
        exact ih5 (v2 + 1) (upd fv v2.toNatClampNeg v1) hp
  refine gV_iconst (v := 0) C dJ7_fill_53178_0 rfl ?_
  refine gV_istore_n (lvs' := [(2, .int 0), (0, .ref fa), (1, .int v1)]) C dJ7_fill_53178_1 rfl (by decide) rfl ?_
  refine gV_aload_n C dJ7_fill_53178_2 rfl 1 rfl ?_
  refine gV_alen (v := (Int32.ofNat N)) C 0 rfl 0 rfl rfl dJ7_fill_53178_3 ?_
  refine gV_istore_n (lvs' := [(3, .int (Int32.ofNat N)), (2, .int 0), (0, .ref fa), (1, .int v1)]) C dJ7_fill_53178_4 rfl (by decide) rfl ?_
  refine gV_loc [2, 3, 1, 0] rfl ?_
  exact L5 (Int32.ofNat N) 100000 0 fv hp
end

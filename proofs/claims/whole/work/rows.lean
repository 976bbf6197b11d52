section
-- ===== PART A: goes FIRST, ahead of the names: the tables' words, and 'selects' of the private methods out of them =====
/-- a private method of a class that the tables say can be made, by its rows of tables_1 -/
def lw_okq (q : MethodName × Nat) : Prop := (q.1.cls ≠ "java/lang/invoke/MethodHandle" ∧ q.1.cls ≠ "java/lang/invoke/VarHandle") ∧ Cond.instantiable q.1.cls q.2 ∈ tables_1 ∧ Cond.privateMethod q.1 ∈ tables_1 ∧ Cond.instanceMethod q.1 ∈ tables_1
theorem lw_p0 : lw_okq (⟨"java/lang/Throwable", "fillInStackTrace", "(I)Ljava/lang/Throwable;"⟩, 6) := ⟨⟨by decide +kernel, by decide +kernel⟩, List.mem_of_getElem? (i := 231) (by decide +kernel), List.mem_of_getElem? (i := 229) (by decide +kernel), List.mem_of_getElem? (i := 230) (by decide +kernel)⟩
theorem lw_p1 : lw_okq (⟨"KerfFractions", "putNew", "(I)I"⟩, 14) := ⟨⟨by decide +kernel, by decide +kernel⟩, List.mem_of_getElem? (i := 19) (by decide +kernel), List.mem_of_getElem? (i := 282) (by decide +kernel), List.mem_of_getElem? (i := 283) (by decide +kernel)⟩
theorem lw_p2 : lw_okq (⟨"KerfFractions$Measure", "finishInLongs", "()V"⟩, 7) := ⟨⟨by decide +kernel, by decide +kernel⟩, List.mem_of_getElem? (i := 70) (by decide +kernel), List.mem_of_getElem? (i := 310) (by decide +kernel), List.mem_of_getElem? (i := 311) (by decide +kernel)⟩
theorem lw_p3 : lw_okq (⟨"KerfFractions$Measure", "foreseeSteps", "()Z"⟩, 7) := ⟨⟨by decide +kernel, by decide +kernel⟩, List.mem_of_getElem? (i := 70) (by decide +kernel), List.mem_of_getElem? (i := 320) (by decide +kernel), List.mem_of_getElem? (i := 321) (by decide +kernel)⟩
theorem lw_p4 : lw_okq (⟨"KerfFractions$Measure", "mix", "()V"⟩, 7) := ⟨⟨by decide +kernel, by decide +kernel⟩, List.mem_of_getElem? (i := 70) (by decide +kernel), List.mem_of_getElem? (i := 332) (by decide +kernel), List.mem_of_getElem? (i := 333) (by decide +kernel)⟩
theorem lw_p5 : lw_okq (⟨"KerfFractions$Divider", "takeOut", "(I)J"⟩, 3) := ⟨⟨by decide +kernel, by decide +kernel⟩, List.mem_of_getElem? (i := 49) (by decide +kernel), List.mem_of_getElem? (i := 358) (by decide +kernel), List.mem_of_getElem? (i := 359) (by decide +kernel)⟩
theorem lw_p6 : lw_okq (⟨"KerfFractions$Divider", "isTooOften", "(JJI)Z"⟩, 3) := ⟨⟨by decide +kernel, by decide +kernel⟩, List.mem_of_getElem? (i := 49) (by decide +kernel), List.mem_of_getElem? (i := 363) (by decide +kernel), List.mem_of_getElem? (i := 364) (by decide +kernel)⟩
theorem lw_p7 : lw_okq (⟨"KerfFractions$Divider", "changeRest", "(IJ)J"⟩, 3) := ⟨⟨by decide +kernel, by decide +kernel⟩, List.mem_of_getElem? (i := 49) (by decide +kernel), List.mem_of_getElem? (i := 367) (by decide +kernel), List.mem_of_getElem? (i := 368) (by decide +kernel)⟩
theorem lw_p8 : lw_okq (⟨"KerfFractions", "fractionAt", "(I)LKerfFractions$Fraction;"⟩, 14) := ⟨⟨by decide +kernel, by decide +kernel⟩, List.mem_of_getElem? (i := 19) (by decide +kernel), List.mem_of_getElem? (i := 407) (by decide +kernel), List.mem_of_getElem? (i := 408) (by decide +kernel)⟩
theorem lw_p9 : lw_okq (⟨"KerfFractions", "leaveRootInLeft", "(LKerfFractions$Fraction;I)Z"⟩, 14) := ⟨⟨by decide +kernel, by decide +kernel⟩, List.mem_of_getElem? (i := 19) (by decide +kernel), List.mem_of_getElem? (i := 472) (by decide +kernel), List.mem_of_getElem? (i := 473) (by decide +kernel)⟩
theorem lw_p10 : lw_okq (⟨"KerfFractions", "leaveFloorOfRootOfRightInLeft", "()V"⟩, 14) := ⟨⟨by decide +kernel, by decide +kernel⟩, List.mem_of_getElem? (i := 19) (by decide +kernel), List.mem_of_getElem? (i := 477) (by decide +kernel), List.mem_of_getElem? (i := 478) (by decide +kernel)⟩
theorem lw_p11 : lw_okq (⟨"KerfFractions", "setNewToLeftOverPower", "(I)V"⟩, 14) := ⟨⟨by decide +kernel, by decide +kernel⟩, List.mem_of_getElem? (i := 19) (by decide +kernel), List.mem_of_getElem? (i := 482) (by decide +kernel), List.mem_of_getElem? (i := 483) (by decide +kernel)⟩
theorem lw_p12 : lw_okq (⟨"KerfFractions", "setEnd", "(III)V"⟩, 14) := ⟨⟨by decide +kernel, by decide +kernel⟩, List.mem_of_getElem? (i := 19) (by decide +kernel), List.mem_of_getElem? (i := 486) (by decide +kernel), List.mem_of_getElem? (i := 487) (by decide +kernel)⟩
theorem lw_p13 : lw_okq (⟨"KerfFractions", "growsWhenRounded", "(II)Z"⟩, 14) := ⟨⟨by decide +kernel, by decide +kernel⟩, List.mem_of_getElem? (i := 19) (by decide +kernel), List.mem_of_getElem? (i := 508) (by decide +kernel), List.mem_of_getElem? (i := 509) (by decide +kernel)⟩
theorem lw_p14 : lw_okq (⟨"KerfFractions", "sumOfWeights", "()J"⟩, 14) := ⟨⟨by decide +kernel, by decide +kernel⟩, List.mem_of_getElem? (i := 19) (by decide +kernel), List.mem_of_getElem? (i := 538) (by decide +kernel), List.mem_of_getElem? (i := 539) (by decide +kernel)⟩
theorem lw_p15 : lw_okq (⟨"KerfFractions", "leftOver", "(JJ)J"⟩, 14) := ⟨⟨by decide +kernel, by decide +kernel⟩, List.mem_of_getElem? (i := 19) (by decide +kernel), List.mem_of_getElem? (i := 543) (by decide +kernel), List.mem_of_getElem? (i := 544) (by decide +kernel)⟩
def lw_privs_1 : List (MethodName × Nat) := [(⟨"java/lang/Throwable", "fillInStackTrace", "(I)Ljava/lang/Throwable;"⟩, 6), (⟨"KerfFractions", "putNew", "(I)I"⟩, 14), (⟨"KerfFractions$Measure", "finishInLongs", "()V"⟩, 7), (⟨"KerfFractions$Measure", "foreseeSteps", "()Z"⟩, 7), (⟨"KerfFractions$Measure", "mix", "()V"⟩, 7), (⟨"KerfFractions$Divider", "takeOut", "(I)J"⟩, 3), (⟨"KerfFractions$Divider", "isTooOften", "(JJI)Z"⟩, 3), (⟨"KerfFractions$Divider", "changeRest", "(IJ)J"⟩, 3), (⟨"KerfFractions", "fractionAt", "(I)LKerfFractions$Fraction;"⟩, 14), (⟨"KerfFractions", "leaveRootInLeft", "(LKerfFractions$Fraction;I)Z"⟩, 14), (⟨"KerfFractions", "leaveFloorOfRootOfRightInLeft", "()V"⟩, 14), (⟨"KerfFractions", "setNewToLeftOverPower", "(I)V"⟩, 14), (⟨"KerfFractions", "setEnd", "(III)V"⟩, 14), (⟨"KerfFractions", "growsWhenRounded", "(II)Z"⟩, 14), (⟨"KerfFractions", "sumOfWeights", "()J"⟩, 14), (⟨"KerfFractions", "leftOver", "(JJ)J"⟩, 14)]
theorem lw_r1 : ∀ q ∈ lw_privs_1, lw_okq q := List.forall_mem_cons.mpr ⟨lw_p0, List.forall_mem_cons.mpr ⟨lw_p1, List.forall_mem_cons.mpr ⟨lw_p2, List.forall_mem_cons.mpr ⟨lw_p3, List.forall_mem_cons.mpr ⟨lw_p4, List.forall_mem_cons.mpr ⟨lw_p5, List.forall_mem_cons.mpr ⟨lw_p6, List.forall_mem_cons.mpr ⟨lw_p7, List.forall_mem_cons.mpr ⟨lw_p8, List.forall_mem_cons.mpr ⟨lw_p9, List.forall_mem_cons.mpr ⟨lw_p10, List.forall_mem_cons.mpr ⟨lw_p11, List.forall_mem_cons.mpr ⟨lw_p12, List.forall_mem_cons.mpr ⟨lw_p13, List.forall_mem_cons.mpr ⟨lw_p14, List.forall_mem_cons.mpr ⟨lw_p15, fun _ h => absurd h List.not_mem_nil⟩⟩⟩⟩⟩⟩⟩⟩⟩⟩⟩⟩⟩⟩⟩⟩
theorem lw_p16 : lw_okq (⟨"KerfFractions", "countServedBefore", "(JJI)I"⟩, 14) := ⟨⟨by decide +kernel, by decide +kernel⟩, List.mem_of_getElem? (i := 19) (by decide +kernel), List.mem_of_getElem? (i := 547) (by decide +kernel), List.mem_of_getElem? (i := 548) (by decide +kernel)⟩
theorem lw_p17 : lw_okq (⟨"KerfFractions", "writeDigitsOfLeft", "()I"⟩, 14) := ⟨⟨by decide +kernel, by decide +kernel⟩, List.mem_of_getElem? (i := 19) (by decide +kernel), List.mem_of_getElem? (i := 559) (by decide +kernel), List.mem_of_getElem? (i := 560) (by decide +kernel)⟩
theorem lw_p18 : lw_okq (⟨"KerfFractions", "setDigitFromLowest", "(II)V"⟩, 14) := ⟨⟨by decide +kernel, by decide +kernel⟩, List.mem_of_getElem? (i := 19) (by decide +kernel), List.mem_of_getElem? (i := 565) (by decide +kernel), List.mem_of_getElem? (i := 566) (by decide +kernel)⟩
theorem lw_p19 : lw_okq (⟨"KerfFractions", "digitFromLowest", "(I)I"⟩, 14) := ⟨⟨by decide +kernel, by decide +kernel⟩, List.mem_of_getElem? (i := 19) (by decide +kernel), List.mem_of_getElem? (i := 569) (by decide +kernel), List.mem_of_getElem? (i := 570) (by decide +kernel)⟩
theorem lw_p20 : lw_okq (⟨"KerfFractionsModel", "set", "(IJ)V"⟩, 11) := ⟨⟨by decide +kernel, by decide +kernel⟩, List.mem_of_getElem? (i := 588) (by decide +kernel), List.mem_of_getElem? (i := 636) (by decide +kernel), List.mem_of_getElem? (i := 637) (by decide +kernel)⟩
theorem lw_p21 : lw_okq (⟨"KerfFractionsModel", "make", "(III)I"⟩, 11) := ⟨⟨by decide +kernel, by decide +kernel⟩, List.mem_of_getElem? (i := 588) (by decide +kernel), List.mem_of_getElem? (i := 640) (by decide +kernel), List.mem_of_getElem? (i := 641) (by decide +kernel)⟩
theorem lw_p22 : lw_okq (⟨"KerfFractionsModel", "copy", "(II)V"⟩, 11) := ⟨⟨by decide +kernel, by decide +kernel⟩, List.mem_of_getElem? (i := 588) (by decide +kernel), List.mem_of_getElem? (i := 644) (by decide +kernel), List.mem_of_getElem? (i := 645) (by decide +kernel)⟩
theorem lw_p23 : lw_okq (⟨"KerfFractionsModel", "divisor", "(II)V"⟩, 11) := ⟨⟨by decide +kernel, by decide +kernel⟩, List.mem_of_getElem? (i := 588) (by decide +kernel), List.mem_of_getElem? (i := 648) (by decide +kernel), List.mem_of_getElem? (i := 649) (by decide +kernel)⟩
theorem lw_p24 : lw_okq (⟨"KerfFractionsModel", "isZero", "(I)Z"⟩, 11) := ⟨⟨by decide +kernel, by decide +kernel⟩, List.mem_of_getElem? (i := 588) (by decide +kernel), List.mem_of_getElem? (i := 652) (by decide +kernel), List.mem_of_getElem? (i := 653) (by decide +kernel)⟩
theorem lw_p25 : lw_okq (⟨"KerfFractionsModel", "isEven", "(I)Z"⟩, 11) := ⟨⟨by decide +kernel, by decide +kernel⟩, List.mem_of_getElem? (i := 588) (by decide +kernel), List.mem_of_getElem? (i := 656) (by decide +kernel), List.mem_of_getElem? (i := 657) (by decide +kernel)⟩
theorem lw_p26 : lw_okq (⟨"KerfFractionsModel", "half", "(I)V"⟩, 11) := ⟨⟨by decide +kernel, by decide +kernel⟩, List.mem_of_getElem? (i := 588) (by decide +kernel), List.mem_of_getElem? (i := 660) (by decide +kernel), List.mem_of_getElem? (i := 661) (by decide +kernel)⟩
theorem lw_p27 : lw_okq (⟨"KerfFractionsModel", "compare", "(II)I"⟩, 11) := ⟨⟨by decide +kernel, by decide +kernel⟩, List.mem_of_getElem? (i := 588) (by decide +kernel), List.mem_of_getElem? (i := 664) (by decide +kernel), List.mem_of_getElem? (i := 665) (by decide +kernel)⟩
theorem lw_p28 : lw_okq (⟨"KerfFractionsModel", "minus", "(II)V"⟩, 11) := ⟨⟨by decide +kernel, by decide +kernel⟩, List.mem_of_getElem? (i := 588) (by decide +kernel), List.mem_of_getElem? (i := 668) (by decide +kernel), List.mem_of_getElem? (i := 669) (by decide +kernel)⟩
theorem lw_p29 : lw_okq (⟨"KerfFractionsModel", "twice", "(I)V"⟩, 11) := ⟨⟨by decide +kernel, by decide +kernel⟩, List.mem_of_getElem? (i := 588) (by decide +kernel), List.mem_of_getElem? (i := 672) (by decide +kernel), List.mem_of_getElem? (i := 673) (by decide +kernel)⟩
theorem lw_p30 : lw_okq (⟨"KerfFractionsModel", "divide", "(IIII)V"⟩, 11) := ⟨⟨by decide +kernel, by decide +kernel⟩, List.mem_of_getElem? (i := 588) (by decide +kernel), List.mem_of_getElem? (i := 676) (by decide +kernel), List.mem_of_getElem? (i := 677) (by decide +kernel)⟩
theorem lw_p31 : lw_okq (⟨"KerfFractionsModel", "size", "(I)I"⟩, 11) := ⟨⟨by decide +kernel, by decide +kernel⟩, List.mem_of_getElem? (i := 588) (by decide +kernel), List.mem_of_getElem? (i := 680) (by decide +kernel), List.mem_of_getElem? (i := 681) (by decide +kernel)⟩
def lw_privs_2 : List (MethodName × Nat) := [(⟨"KerfFractions", "countServedBefore", "(JJI)I"⟩, 14), (⟨"KerfFractions", "writeDigitsOfLeft", "()I"⟩, 14), (⟨"KerfFractions", "setDigitFromLowest", "(II)V"⟩, 14), (⟨"KerfFractions", "digitFromLowest", "(I)I"⟩, 14), (⟨"KerfFractionsModel", "set", "(IJ)V"⟩, 11), (⟨"KerfFractionsModel", "make", "(III)I"⟩, 11), (⟨"KerfFractionsModel", "copy", "(II)V"⟩, 11), (⟨"KerfFractionsModel", "divisor", "(II)V"⟩, 11), (⟨"KerfFractionsModel", "isZero", "(I)Z"⟩, 11), (⟨"KerfFractionsModel", "isEven", "(I)Z"⟩, 11), (⟨"KerfFractionsModel", "half", "(I)V"⟩, 11), (⟨"KerfFractionsModel", "compare", "(II)I"⟩, 11), (⟨"KerfFractionsModel", "minus", "(II)V"⟩, 11), (⟨"KerfFractionsModel", "twice", "(I)V"⟩, 11), (⟨"KerfFractionsModel", "divide", "(IIII)V"⟩, 11), (⟨"KerfFractionsModel", "size", "(I)I"⟩, 11)]
theorem lw_r2 : ∀ q ∈ lw_privs_2, lw_okq q := List.forall_mem_cons.mpr ⟨lw_p16, List.forall_mem_cons.mpr ⟨lw_p17, List.forall_mem_cons.mpr ⟨lw_p18, List.forall_mem_cons.mpr ⟨lw_p19, List.forall_mem_cons.mpr ⟨lw_p20, List.forall_mem_cons.mpr ⟨lw_p21, List.forall_mem_cons.mpr ⟨lw_p22, List.forall_mem_cons.mpr ⟨lw_p23, List.forall_mem_cons.mpr ⟨lw_p24, List.forall_mem_cons.mpr ⟨lw_p25, List.forall_mem_cons.mpr ⟨lw_p26, List.forall_mem_cons.mpr ⟨lw_p27, List.forall_mem_cons.mpr ⟨lw_p28, List.forall_mem_cons.mpr ⟨lw_p29, List.forall_mem_cons.mpr ⟨lw_p30, List.forall_mem_cons.mpr ⟨lw_p31, fun _ h => absurd h List.not_mem_nil⟩⟩⟩⟩⟩⟩⟩⟩⟩⟩⟩⟩⟩⟩⟩⟩
theorem lw_p32 : lw_okq (⟨"KerfFractionsModel", "need", "(III)V"⟩, 11) := ⟨⟨by decide +kernel, by decide +kernel⟩, List.mem_of_getElem? (i := 588) (by decide +kernel), List.mem_of_getElem? (i := 691) (by decide +kernel), List.mem_of_getElem? (i := 692) (by decide +kernel)⟩
theorem lw_p33 : lw_okq (⟨"KerfFractionsModel", "pieces", "(I)I"⟩, 11) := ⟨⟨by decide +kernel, by decide +kernel⟩, List.mem_of_getElem? (i := 588) (by decide +kernel), List.mem_of_getElem? (i := 695) (by decide +kernel), List.mem_of_getElem? (i := 696) (by decide +kernel)⟩
theorem lw_p34 : lw_okq (⟨"KerfFractionsModel", "take", "(III)V"⟩, 11) := ⟨⟨by decide +kernel, by decide +kernel⟩, List.mem_of_getElem? (i := 588) (by decide +kernel), List.mem_of_getElem? (i := 699) (by decide +kernel), List.mem_of_getElem? (i := 700) (by decide +kernel)⟩
theorem lw_p35 : lw_okq (⟨"KerfFractionsModel", "product", "(III)V"⟩, 11) := ⟨⟨by decide +kernel, by decide +kernel⟩, List.mem_of_getElem? (i := 588) (by decide +kernel), List.mem_of_getElem? (i := 703) (by decide +kernel), List.mem_of_getElem? (i := 704) (by decide +kernel)⟩
theorem lw_p36 : lw_okq (⟨"KerfFractionsModel", "plus", "(II)V"⟩, 11) := ⟨⟨by decide +kernel, by decide +kernel⟩, List.mem_of_getElem? (i := 588) (by decide +kernel), List.mem_of_getElem? (i := 708) (by decide +kernel), List.mem_of_getElem? (i := 709) (by decide +kernel)⟩
theorem lw_p37 : lw_okq (⟨"KerfFractionsModel", "rootOf", "(II)V"⟩, 11) := ⟨⟨by decide +kernel, by decide +kernel⟩, List.mem_of_getElem? (i := 588) (by decide +kernel), List.mem_of_getElem? (i := 728) (by decide +kernel), List.mem_of_getElem? (i := 729) (by decide +kernel)⟩
theorem lw_p38 : lw_okq (⟨"KerfFractionsModel", "bit", "(II)I"⟩, 11) := ⟨⟨by decide +kernel, by decide +kernel⟩, List.mem_of_getElem? (i := 588) (by decide +kernel), List.mem_of_getElem? (i := 732) (by decide +kernel), List.mem_of_getElem? (i := 733) (by decide +kernel)⟩
def lw_privs_3 : List (MethodName × Nat) := [(⟨"KerfFractionsModel", "need", "(III)V"⟩, 11), (⟨"KerfFractionsModel", "pieces", "(I)I"⟩, 11), (⟨"KerfFractionsModel", "take", "(III)V"⟩, 11), (⟨"KerfFractionsModel", "product", "(III)V"⟩, 11), (⟨"KerfFractionsModel", "plus", "(II)V"⟩, 11), (⟨"KerfFractionsModel", "rootOf", "(II)V"⟩, 11), (⟨"KerfFractionsModel", "bit", "(II)I"⟩, 11)]
theorem lw_r3 : ∀ q ∈ lw_privs_3, lw_okq q := List.forall_mem_cons.mpr ⟨lw_p32, List.forall_mem_cons.mpr ⟨lw_p33, List.forall_mem_cons.mpr ⟨lw_p34, List.forall_mem_cons.mpr ⟨lw_p35, List.forall_mem_cons.mpr ⟨lw_p36, List.forall_mem_cons.mpr ⟨lw_p37, List.forall_mem_cons.mpr ⟨lw_p38, fun _ h => absurd h List.not_mem_nil⟩⟩⟩⟩⟩⟩⟩
def lw_privs : List (MethodName × Nat) := lw_privs_1 ++ (lw_privs_2 ++ (lw_privs_3))
def lw_tbl : List Cond := k2_sels lw_privs ++ tables_1
theorem lw_privs_ok : ∀ q ∈ lw_privs, lw_okq q := by
  show ∀ q ∈ lw_privs_1 ++ (lw_privs_2 ++ (lw_privs_3)), lw_okq q
  exact List.forall_mem_append.mpr ⟨lw_r1, List.forall_mem_append.mpr ⟨lw_r2, lw_r3⟩⟩
end
section
/-! ===== BEGIN words of one list among another's, by their places ===== -/
theorem goodIn_r {big : List Cond} (ws : List Cond) (ps : List Nat) (hp : ws = ps.filterMap (fun i => big[i]?)) (h : ws.all goodWord = true) : GoodIn big ws := by
  intro w hw
  have h1 := List.all_eq_true.mp h w hw
  rw [hp] at hw
  obtain ⟨i, -, hi⟩ := List.mem_filterMap.mp hw
  have hm : w ∈ big := by first | exact List.mem_of_getElem? hi | exact List.getElem?_mem hi
  exact ⟨hm, good_of_word h1⟩
theorem goodIn_app {big a b : List Cond} (ha : GoodIn big a) (hb : GoodIn big b) : GoodIn big (a ++ b) := fun w h => (List.mem_append.mp h).elim (ha w) (hb w)
theorem goodIn_ca {big a b : List Cond} {c : Cond} (ha : GoodIn big (c :: a)) (hb : GoodIn big b) : GoodIn big (c :: (a ++ b)) := fun w h => (List.mem_cons.mp h).elim (fun e => ha w (List.mem_cons.mpr (Or.inl e))) (fun h => (List.mem_append.mp h).elim (fun h => ha w (List.mem_cons.mpr (Or.inr h))) (hb w))
theorem goodIn_sub {big ws : List Cond} (hm : ∀ w ∈ ws, w ∈ big) (h : ws.all goodWord = true) : GoodIn big ws := fun w hw => ⟨hm w hw, good_of_word (List.all_eq_true.mp h w hw)⟩
/-! ===== END ===== -/

/-! ===== BEGIN exceptions that leave a method, and their catching by the caller (launches without stack traces) ===== -/
section VXA
/-! The laws vx_back, vx_callV, vx_callS, vx_callSW, vx_throw0, vx_throwS follow proofs of the library, with one case more: JvmDerived/Free/Laws.lean (Back.of_free), Shelf42/LK1.lean (callV, callS), Shelf/KitTraced.lean (throwNew0V, throwNewS). -/
/-- where a method has thrown q: the class by its name, the cell, what was written, the world -/
def vx_T (XC : String → State → State → Prop) (st : State) (q : Addr) (t : State) (mc ms : Nat) (free : Addr → Prop) : Prop :=
  ∃ (E : String) (ce : Cell) (L : List Loc), XC E st t ∧ t.heap[q]? = some ce ∧ ce.vm = .none ∧ st.vm.findClass E = some ce.cls ∧ st.WarmedH t.vm ∧ st.sameButNew ({ t with vm := st.vm } : State) L mc ms ∧ ∀ z ∈ L, free z.base
def vx_Q (Qc : Array Value → State → Outcome → State → Prop) (XC : String → State → State → Prop) (mc ms : Nat) (free : Addr → Prop) : Array Value → State → Outcome → State → Prop := fun a st o t =>
  (Qc a st o t ∧ ∃ L, FrameEnd st o t L mc ms ∧ ∀ q ∈ L, free q.base) ∨ ∃ q, o = .threw q ∧ vx_T XC st q t mc ms free
/-- a callee that returns or throws -/
def vx_Met (l : Launch) (y : MethodName) (ws : List Cond) (rm : Room) (Pc : Array Value → State → Prop) (Qc : Array Value → State → Outcome → State → Prop) (XC : String → State → State → Prop) (mc ms : Nat) (free : Addr → Prop) : Prop :=
  MetFree l y (headSpec ws rm) Pc (fun _ _ _ _ _ => True) (vx_Q Qc XC mc ms free)
def vx_Post (XC : String → State → State → Prop) (mc ms : Nat) (free : Addr → Prop) : Pt → Array Value → Addr → Pt → Prop := fun A a q B =>
  ∃ (g : JFrame) (mk : MethodId) (t : State) (L : List Loc) (E : String) (ce : Cell), B.U.heap = t.heap ∧ B.U.vm = t.vm ∧ XC E (A.U.calling g mk a) t ∧ t.heap[q]? = some ce ∧ ce.vm = .none ∧ A.U.vm.findClass E = some ce.cls ∧ B.locs = A.locs ++ L ∧ (∀ z ∈ L, free z.base) ∧ B.cells = A.cells + mc ∧ B.slots = A.slots + ms
def vx_Back (l : Launch) (R : Room) (p : Program) (e : Env) (below : List Frame) (s : State) (sargs : Array Value) (y : MethodName) (len W9 : Nat)
    (Pre : Pt → Array Value → Prop) (Post : Pt → Array Value → Option Value → Pt → Prop) (PostX : Pt → Array Value → Addr → Pt → Prop) : Prop :=
  ∀ (m : MethodId) (meth : Method) (c : Code) (A : Pt) (g : JFrame) (ig : Instr) (mk : MethodId) (a : Array Value),
    Stand p l e R s m sargs below meth c A.U A.locs A.cells A.slots → g.method = m → g.locals.size = c.maxLocals → decode c.code g.pc = .ok (ig, len) →
    2 * g.monitorRoom + (g.stack.map fun v => v.category).sum ≤ W9 → A.U.methodNamed? y = some mk → Pre A a →
    (∃ (v : Option Value) (B : Pt), Stand p l e R s m sargs below meth c B.U B.locs B.cells B.slots ∧ Post A a v B ∧
      Steps p.tables e below (doInvoke e (A.U.setTop g) [] mk a).1 (B.U.setTop { g with pc := g.pc + len, stack := v.toList ++ g.stack })) ∨
    (∃ (q : Addr) (B : Pt), Stand p l e R s m sargs below meth c B.U B.locs B.cells B.slots ∧ PostX A a q B ∧
      Steps p.tables e below (doInvoke e (A.U.setTop g) [] mk a).1 ((B.U.setTop g).pushFrame (.throwing q)))
section Payer
variable {l : Launch} {R : Room} {p : Program} {e : Env} {below : List Frame} {s : State} {sargs : Array Value} {y : MethodName} {len W9 : Nat}
theorem vx_back {ws : List Cond} {rm : Room} {Pc : Array Value → State → Prop} {Qc : Array Value → State → Outcome → State → Prop} {XC : String → State → State → Prop} {mc ms : Nat} {free : Addr → Prop} {bytes : ByteArray} {maxL : Nat} {ret : Option FieldType}
    (hM : vx_Met l y ws rm Pc Qc XC mc ms free) (hblind : FrameBlind Pc) (hrc : rm.cells = mc) (hrs : rm.slots = ms)
    (hframes : rm.frames + 1 ≤ R.frames) (hlocals : W9 + (maxL + 11) + rm.locals ≤ R.locals)
    (hws : ∀ w ∈ ws, ∀ a' U, s.WarmedH U.vm → w.before a' U = true) (hcode : Cond.code y bytes maxL ret ∈ ws) (hinit : ∀ a' U, s.WarmedH U.vm → (Cond.initialized y.cls).before a' U = true) :
    vx_Back l R p e below s sargs y len W9 (PreOf R mc ms Pc) (PostOf Qc mc ms free) (vx_Post XC mc ms free) := by
  intro m meth c A g ig mk a X hg hsize hdg hW hn hp
  have h1 : (headSpec ws rm).pre.before a A.U = true := atoms_intro fun w hw => hws w hw _ _ X.warmed
  have h2 : (Cond.code y bytes maxL ret).before a A.U = true := hws _ hcode _ _ X.warmed
  have h3 : (Cond.initialized y.cls).before a A.U = true := hinit _ _ X.warmed
  have h4 : A.cells + (headSpec ws rm).room.cells ≤ R.cells := by rw [show (headSpec ws rm).room.cells = mc from hrc]; exact hp.1
  have h5 : A.slots + (headSpec ws rm).room.slots ≤ R.slots := by rw [show (headSpec ws rm).room.slots = ms from hrs]; exact hp.2.1
  have hPc : Pc a (A.U.calling g mk a) := hblind _ _ _ _ hp.2.2
  obtain ⟨U, Ls, c0, s0⟩ := A
  dsimp only [Pt.U, Pt.locs, Pt.cells, Pt.slots] at h1 h2 h3 h4 h5 X hn hPc ⊢
  obtain ⟨methY, cY, hmY, hcY, -, hlY, -, -, -, -⟩ := Cond.code_spec hn h2
  obtain ⟨kY, hkY, -⟩ := className_of_methodNamed hn
  have hinitY : kY.init = .initialized := Cond.initialized_spec (findClass_of_methodNamed hn) hkY h3
  have h : At U g.method c below := by rw [hg]; exact X.here
  have hlocals9 : W9 + (maxL + 11) + (headSpec ws rm).room.locals ≤ R.locals := hlocals
  have happ : (headSpec ws rm).appliesLoose y e.platform (U.calling g mk a) = true :=
    Spec.appliesLoose_calling (g := g) h hdg hn hkY hinitY
      (X.room_calling (g := g) (R' := (headSpec ws rm).room) hsize hmY hcY hframes (by rw [hlY]; omega) h4 h5) h1
  obtain ⟨mid, hmid⟩ := h.above
  have hfr : (U.setTop g).frames = (.java g :: mid) ++ below := by rw [State.frames_setTop' g h.top, hmid]; rfl
  obtain ⟨o, s₂, hsteps, -, hend, hq⟩ := Steps.callFree hM p X.admits X.cas X.clock (acts := []) hfr happ hPc trivial
  have hq' : vx_Q Qc XC mc ms free a (U.calling g mk a) o s₂ := hq
  rw [State.frames_setTop' g h.top] at hend
  obtain ⟨g₀, hg0⟩ := Option.isSome_iff_exists.mp h.top
  obtain ⟨r, hr⟩ := State.topJava?_eq_some.mp hg0
  have hr' : (({ U with heap := s₂.heap, slotsUsed := s₂.slotsUsed } : State).setVm s₂.vm).frames = .java g₀ :: r := hr
  rcases hq' with ⟨hqc, L, hfe, hL⟩ | ⟨q, rfl, E, ce, L, hx, hce, hcv, hcl, hW₂, hsm, hL⟩
  · obtain ⟨⟨v, rfl⟩, hW₂, e2, q2, q3, q4, q5, q6⟩ := id hfe
    have e3 : s₂ = ({ (U.calling g mk a).setFrames s₂.frames with heap := s₂.heap, slotsUsed := s₂.slotsUsed } : State).setVm s₂.vm := by
      have : s₂ = ({ s₂ with vm := (U.calling g mk a).vm } : State).setVm s₂.vm := rfl
      rw [e2] at this
      exact this
    obtain ⟨c₂, i₂, len₂, hc₂, hd₂, hf₂⟩ := hend
    have hW' : U.WarmedH s₂.vm := hW₂
    have hcc : c₂ = c := by
      have h1 : s₂.code? g.method = U.code? g.method := by
        rw [State.code?_eq, State.code?_eq, hW'.alike.method?]
      exact Option.some.inj (hc₂.symm.trans (h1.trans h.code))
    subst hcc
    have hlen : len₂ = len := by rw [hdg] at hd₂; cases hd₂; rfl
    subst hlen
    have hs₂ : s₂ = (({ U with heap := s₂.heap, slotsUsed := s₂.slotsUsed } : State).setVm s₂.vm).setTop { g with pc := g.pc + len₂, stack := v.toList ++ g.stack } := by
      refine e3.trans ?_
      rw [hf₂, State.calling_eq h.top, State.setFrames_setFrames, State.setTop_of_frames _ hr', hr]
      rfl
    have hsame : U.sameButNew ({ U with heap := s₂.heap, slotsUsed := s₂.slotsUsed } : State) L mc ms := by
      refine ⟨?_, q2, q3, q4, q5, q6⟩
      obtain ⟨t, ht, -⟩ := State.frames_cons hr
      show ({ U with heap := s₂.heap, slotsUsed := s₂.slotsUsed } : State) = { U.setFrames U.frames with heap := s₂.heap, slotsUsed := s₂.slotsUsed }
      rw [State.setFrames_self ht]
    subst hg
    refine Or.inl ⟨v, ⟨(({ U with heap := s₂.heap, slotsUsed := s₂.slotsUsed } : State).setVm s₂.vm), Ls ++ L, c0 + mc, s0 + ms⟩,
      ⟨X.admits, X.cas, X.clock, X.frames, X.room, X.hears, X.method, X.code, (X.here.setHeapUsed s₂.heap s₂.slotsUsed).setVm hW'.alike, X.tail, State.WarmedH.trans X.warmed hW', X.limits, X.bytes, X.same.trans (hsame.setVm s.vm)⟩,
      ⟨g, mk, s₂, L, rfl, rfl, hqc, rfl, hL, rfl, rfl⟩, ?_⟩
    show Steps p.tables e below _ ((({ U with heap := s₂.heap, slotsUsed := s₂.slotsUsed } : State).setVm s₂.vm).setTop { g with pc := g.pc + len₂, stack := v.toList ++ g.stack })
    rw [← hs₂]
    exact hsteps
  · obtain ⟨e2, q2, q3, q4, q5, q6⟩ := id hsm
    have e3 : s₂ = ({ (U.calling g mk a).setFrames s₂.frames with heap := s₂.heap, slotsUsed := s₂.slotsUsed } : State).setVm s₂.vm := by
      have : s₂ = ({ s₂ with vm := (U.calling g mk a).vm } : State).setVm s₂.vm := rfl
      rw [e2] at this
      exact this
    have hf₂ : s₂.frames = .throwing q :: .java g :: U.frames.tail := hend
    have hW' : U.WarmedH s₂.vm := hW₂
    have hs₂ : s₂ = ((({ U with heap := s₂.heap, slotsUsed := s₂.slotsUsed } : State).setVm s₂.vm).setTop g).pushFrame (.throwing q) := by
      refine e3.trans ?_
      rw [hf₂, State.calling_eq h.top, State.setFrames_setFrames, State.pushFrame, State.frames_setTop _ hr', State.setTop_of_frames _ hr', State.setFrames_setFrames, hr]
      rfl
    have hsame : U.sameButNew ({ U with heap := s₂.heap, slotsUsed := s₂.slotsUsed } : State) L mc ms := by
      refine ⟨?_, q2, q3, q4, q5, q6⟩
      obtain ⟨t, ht, -⟩ := State.frames_cons hr
      show ({ U with heap := s₂.heap, slotsUsed := s₂.slotsUsed } : State) = { U.setFrames U.frames with heap := s₂.heap, slotsUsed := s₂.slotsUsed }
      rw [State.setFrames_self ht]
    subst hg
    refine Or.inr ⟨q, ⟨(({ U with heap := s₂.heap, slotsUsed := s₂.slotsUsed } : State).setVm s₂.vm), Ls ++ L, c0 + mc, s0 + ms⟩,
      ⟨X.admits, X.cas, X.clock, X.frames, X.room, X.hears, X.method, X.code, (X.here.setHeapUsed s₂.heap s₂.slotsUsed).setVm hW'.alike, X.tail, State.WarmedH.trans X.warmed hW', X.limits, X.bytes, X.same.trans (hsame.setVm s.vm)⟩,
      ⟨g, mk, s₂, L, E, ce, rfl, rfl, hx, hce, hcv, hcl, rfl, hL, rfl, rfl⟩, ?_⟩
    show Steps p.tables e below _ (((({ U with heap := s₂.heap, slotsUsed := s₂.slotsUsed } : State).setVm s₂.vm).setTop g).pushFrame (.throwing q))
    rw [← hs₂]
    exact hsteps
end Payer
section Calls
variable {p : Program} {l : Launch} {e : Env} {R : Room} {s : State} {m : MethodId} {args : Array Value} {below : List Frame} {meth : Method} {c : Code} {T : State} {locs : List Loc} {cells slots : Nat}
theorem vx_callV (X : Stand p l e R s m args below meth c T locs cells slots) (hexec : p.tables.exec = Jvm.exec) {own C : String} {index : Nat} {y : MethodName} {bytes : ByteArray} {maxL : Nat} {ret : Option FieldType}
    (hown : s.vm.findClass own = some m.cls) (hlink : (Cond.methodLink own index y).before args s = true) (hinst : (Cond.instanceMethod y).before args s = true) (hsel : (Cond.selects C y y).before args s = true)
    (hcode : (Cond.code y bytes maxL ret).before args s = true) (hy : y.cls ≠ "java/lang/invoke/MethodHandle" ∧ y.cls ≠ "java/lang/invoke/VarHandle")
    {W9 : Nat} {Pre : Pt → Array Value → Prop} {Post : Pt → Array Value → Option Value → Pt → Prop} {PostX : Pt → Array Value → Addr → Pt → Prop} (hK : vx_Back l R p e below s args y 3 W9 Pre Post PostX)
    {b : Addr} {cellB : Cell} (hcell : T.heap[b]? = some cellB) (hobj : cellB.vm.isStatics = false) (hcls : s.vm.findClass C = some cellB.cls)
    {g : JFrame} (hg : g.method = m) (hsize : g.locals.size = c.maxLocals) {argsL rest : List Value} (hlen : ∀ sig, parseMethodDescriptor y.desc = some sig → argsL.length = sig.parameters.length)
    (hstack : g.stack = argsL.reverse ++ .ref b :: rest) (hW : 2 * g.monitorRoom + (rest.map fun v => v.category).sum ≤ W9) (hdg : decode c.code g.pc = .ok (.invokevirtual index, 3))
    (hpre : ∀ vm₁, s.WarmedH vm₁ → Pre ⟨T.setVm vm₁, locs, cells, slots⟩ (Value.ref b :: argsL).toArray) :
    (∃ (v : Option Value) (vm₁ : Vm) (B : Pt), s.WarmedH vm₁ ∧ Stand p l e R s m args below meth c B.U B.locs B.cells B.slots ∧ Post ⟨T.setVm vm₁, locs, cells, slots⟩ (Value.ref b :: argsL).toArray v B ∧
      ∀ target, Steps p.tables e below (B.U.setTop { g with pc := g.pc + 3, stack := v.toList ++ rest }) target → Steps p.tables e below (T.setTop g) target) ∨
    (∃ (q : Addr) (vm₁ : Vm) (B : Pt), s.WarmedH vm₁ ∧ Stand p l e R s m args below meth c B.U B.locs B.cells B.slots ∧ PostX ⟨T.setVm vm₁, locs, cells, slots⟩ (Value.ref b :: argsL).toArray q B ∧
      Steps p.tables e below (T.setTop g) ((B.U.setTop { g with stack := rest }).pushFrame (.throwing q))) := by
  obtain ⟨mk, methM, hnamed, hmethM, hstM, habM⟩ := Cond.instanceMethod_spec hinst
  obtain ⟨methM', cM, hmethM', -, -, -, -, -, -, hsigM⟩ := Cond.code_spec hnamed hcode
  cases hmethM.symm.trans hmethM'
  obtain ⟨c2, r2, m2, q1, q2, q3, q4, kP, hkP, hkPi⟩ := Cond.selects_spec hsel
  cases hcls.symm.trans q1
  cases (State.methodFound?_of_named hnamed hy).symm.trans q2
  cases hnamed.symm.trans q3
  have hselP : selectMethod e.platform s.vm cellB.cls mk = .method mk := by rw [Launch.admits_selectMethod X.admits]; exact q4
  obtain ⟨vm₁, X₁, hstep₁⟩ := X.invokevirtual hexec hown hlink hnamed hmethM hstM hkP hkPi hy (a := b) (cell := cellB) hcell
    (fun z h => by rw [h] at hobj; cases hobj) hselP hmethM habM hkP hkPi (g := g) hg (argsL := argsL) (rest := rest) (hlen _ hsigM) hstack hdg
  rcases hK m meth c ⟨T.setVm vm₁, locs, cells, slots⟩ { g with stack := rest } (.invokevirtual index) mk (Value.ref b :: argsL).toArray X₁ hg hsize hdg hW (X₁.named hnamed) (hpre vm₁ X₁.warmed) with ⟨v, B, X', hpost, hsteps⟩ | ⟨q, B, X', hpost, hsteps⟩
  · exact Or.inl ⟨v, vm₁, B, X₁.warmed, X', hpost, fun target h => hstep₁ _ fun acts => by rw [doInvoke_state]; exact hsteps.trans h⟩
  · exact Or.inr ⟨q, vm₁, B, X₁.warmed, X', hpost, hstep₁ _ fun acts => by rw [doInvoke_state]; exact hsteps⟩
theorem vx_callS (X : Stand p l e R s m args below meth c T locs cells slots) (hexec : p.tables.exec = Jvm.exec) {own : String} {index : Nat} {y : MethodName} {bytes : ByteArray} {maxL : Nat} {ret : Option FieldType}
    (hown : s.vm.findClass own = some m.cls) (hlink : (Cond.methodLink own index y).before args s = true) (hstat : (Cond.static y).before args s = true) (hinit : (Cond.initialized y.cls).before args s = true)
    (hcode : (Cond.code y bytes maxL ret).before args s = true) (hy : y.cls ≠ "java/lang/invoke/MethodHandle" ∧ y.cls ≠ "java/lang/invoke/VarHandle")
    {W9 : Nat} {Pre : Pt → Array Value → Prop} {Post : Pt → Array Value → Option Value → Pt → Prop} {PostX : Pt → Array Value → Addr → Pt → Prop} (hK : vx_Back l R p e below s args y 3 W9 Pre Post PostX)
    {g : JFrame} (hg : g.method = m) (hsize : g.locals.size = c.maxLocals) {argsL rest : List Value} (hlen : ∀ sig, parseMethodDescriptor y.desc = some sig → argsL.length = sig.parameters.length)
    (hstack : g.stack = argsL.reverse ++ rest) (hW : 2 * g.monitorRoom + (rest.map fun v => v.category).sum ≤ W9) (hdg : decode c.code g.pc = .ok (.invokestatic index, 3))
    (hpre : ∀ vm₁, s.WarmedH vm₁ → Pre ⟨T.setVm vm₁, locs, cells, slots⟩ argsL.toArray) :
    (∃ (v : Option Value) (vm₁ : Vm) (B : Pt), s.WarmedH vm₁ ∧ Stand p l e R s m args below meth c B.U B.locs B.cells B.slots ∧ Post ⟨T.setVm vm₁, locs, cells, slots⟩ argsL.toArray v B ∧
      ∀ target, Steps p.tables e below (B.U.setTop { g with pc := g.pc + 3, stack := v.toList ++ rest }) target → Steps p.tables e below (T.setTop g) target) ∨
    (∃ (q : Addr) (vm₁ : Vm) (B : Pt), s.WarmedH vm₁ ∧ Stand p l e R s m args below meth c B.U B.locs B.cells B.slots ∧ PostX ⟨T.setVm vm₁, locs, cells, slots⟩ argsL.toArray q B ∧
      Steps p.tables e below (T.setTop g) ((B.U.setTop { g with stack := rest }).pushFrame (.throwing q))) := by
  obtain ⟨mk, hnamed⟩ := Cond.code_named hcode
  obtain ⟨methM, cM, hmethM, -, -, -, -, -, -, hsigM⟩ := Cond.code_spec hnamed hcode
  have hstatic : methM.isStatic = true := Cond.static_spec hnamed hmethM hstat
  obtain ⟨kP, hkP, -⟩ := className_of_methodNamed hnamed
  have hinitP : kP.init = .initialized := Cond.initialized_spec (findClass_of_methodNamed hnamed) hkP hinit
  obtain ⟨vm₁, X₁, hstep₁⟩ := X.invokestatic hexec hown hlink hnamed hmethM hstatic hkP hinitP hy (g := g) hg (argsL := argsL) (rest := rest) (hlen _ hsigM) hstack hdg
  rcases hK m meth c ⟨T.setVm vm₁, locs, cells, slots⟩ { g with stack := rest } (.invokestatic index) mk argsL.toArray X₁ hg hsize hdg hW (X₁.named hnamed) (hpre vm₁ X₁.warmed) with ⟨v, B, X', hpost, hsteps⟩ | ⟨q, B, X', hpost, hsteps⟩
  · exact Or.inl ⟨v, vm₁, B, X₁.warmed, X', hpost, fun target h => hstep₁ _ fun acts => by rw [doInvoke_state]; exact hsteps.trans h⟩
  · exact Or.inr ⟨q, vm₁, B, X₁.warmed, X', hpost, hstep₁ _ fun acts => by rw [doInvoke_state]; exact hsteps⟩
end Calls
theorem vx_cls {s : State} {T : State} {vm₁ : Vm} {E : String} {k : ClassId} (hW : s.WarmedH vm₁) (h : (T.setVm vm₁).vm.findClass E = some k) : s.vm.findClass E = some k := by
  have h1 : vm₁.findClass E = some k := h
  rw [hW.alike.findClass] at h1
  exact h1
/-- the method's frame g, with q thrown over it -/
def vx_W (p : Program) (l : Launch) (e : Env) (R : Room) (s : State) (m : MethodId) (args : Array Value) (below : List Frame) (meth : Method) (c : Code) (H : Heap) (locs : List Loc) (cells slots : Nat) (Q : State → Prop) (g : JFrame) (q : Addr) : Prop :=
  ∀ T : State, T.heap = H → Stand p l e R s m args below meth c T locs cells slots → ∃ t, Steps p.tables e below ((T.setTop g).pushFrame (.throwing q)) t ∧ Q t
def vx_Run (p : Program) (l : Launch) (e : Env) (R : Room) (s : State) (m : MethodId) (args : Array Value) (below : List Frame) (meth : Method) (c : Code) (H : Heap) (locs : List Loc) (cells slots mc ms : Nat) (g : JFrame) (rest : List Value) (Qa : State → Outcome → State → Prop) (XC : String → State → State → Prop) (free : Addr → Prop) : Prop :=
  ∀ T : State, T.heap = H → Stand p l e R s m args below meth c T locs cells slots →
    (∃ (v : Option Value) (st₀ t T' : State) (L : List Loc), st₀.heap = H ∧ Stand p l e R s m args below meth c T' (locs ++ L) (cells + mc) (slots + ms) ∧ (∀ q ∈ L, free q.base) ∧ T'.heap = t.heap ∧ T'.vm = t.vm ∧ Qa st₀ (.returned v) t ∧
      Goes p e below T g T' { g with pc := g.pc + 3, stack := v.toList ++ rest }) ∨
    (∃ (q : Addr) (st₀ t T' : State) (L : List Loc) (E : String) (ce : Cell), st₀.heap = H ∧ Stand p l e R s m args below meth c T' (locs ++ L) (cells + mc) (slots + ms) ∧ (∀ z ∈ L, free z.base) ∧ T'.heap = t.heap ∧ T'.vm = t.vm ∧ XC E st₀ t ∧ t.heap[q]? = some ce ∧ ce.vm = .none ∧ s.vm.findClass E = some ce.cls ∧
      Steps p.tables e below (T.setTop g) ((T'.setTop { g with stack := rest }).pushFrame (.throwing q)))
def vx_X {S : Type} (px : S → Prop) (B : String → S → State → Prop) (A : Nat → Prop) : String → State → State → Prop := fun E st t => ∃ u : S, px u ∧ B E u t ∧ va_F A st t
section Runs
variable {p : Program} {l : Launch} {e : Env} {R : Room} {s : State} {m : MethodId} {args : Array Value} {below : List Frame} {meth : Method} {c : Code} {H : Heap} {locs : List Loc} {cells slots : Nat}
variable {y : MethodName} {bytes cc : ByteArray} {maxL nL mc ms n index : Nat} {ret : Option FieldType} {ws : List Cond} {rm : Room} {Pc : Array Value → State → Prop} {Qc : Array Value → State → Outcome → State → Prop} {XC : String → State → State → Prop} {free : Addr → Prop} {Ts : List Cond} {own C : String} {b : Addr} {As rest : List Value} {g : JFrame}
theorem vx_callBack (cb : CallB R s args own index y bytes maxL ret ws rm mc ms n) (hM : vx_Met l y ws rm Pc Qc XC mc ms free) (hbl : FrameBlind Pc) : vx_Back l R p e below s args y 3 8 (PreOf R mc ms Pc) (PostOf Qc mc ms free) (vx_Post XC mc ms free) := by
  obtain ⟨hrc, hrs, hfr, hlo, hws, hcw, -, hini, -⟩ := cb
  exact vx_back (bytes := bytes) (maxL := maxL) (ret := ret) hM hbl hrc hrs hfr hlo hws hcw (fun a' U hW => word_at hW (Or.inl (by first | rfl | simp [Cond.onTables, Cond.keeps, Cond.steady])) hini)
theorem vx_runV (S : CallFix p m c cc nL s args Ts own) (hM : vx_Met l y ws rm Pc Qc XC mc ms free) (cw : CallW R s args own C index y bytes maxL ret ws rm mc ms n) (hp : PreV s H C b Pc As)
    (hg : g.method = m) (hn : As.length = n) (hsize : g.locals.size = nL) (hstack : g.stack = As.reverse ++ .ref b :: rest) (hW : 2 * g.monitorRoom + (rest.map fun v => v.category).sum ≤ 8) (hdg : decode cc g.pc = .ok (.invokevirtual index, 3)) (hf : cells + mc ≤ R.cells ∧ slots + ms ≤ R.slots) :
    vx_Run p l e R s m args below meth c H locs cells slots mc ms g rest (Qc (Value.ref b :: As).toArray) XC free := by
  have hK : vx_Back l R p e below s args y 3 8 (PreOf R mc ms Pc) (PostOf Qc mc ms free) (vx_Post XC mc ms free) := vx_callBack cw.1 hM hp.1
  obtain ⟨⟨-, -, -, -, -, -, hcode, -, hy, hlen, hl⟩, hin, hse⟩ := cw
  obtain ⟨hx, hb, hml, ho, -⟩ := S
  obtain ⟨-, ⟨cellB, hcB, hoB, hclB⟩, hPc⟩ := hp
  intro T hT X
  rcases vx_callV X hx (C := C) (bytes := bytes) (maxL := maxL) (ret := ret) ho hl hin hse hcode hy hK (by rw [hT]; exact hcB) hoB hclB hg (hsize.trans hml.symm) (argsL := As) (rest := rest) (fun sig h => hn.trans (hlen sig h)) hstack hW (by rw [hb]; exact hdg)
    (fun vm₁ hW₁ => ⟨hf.1, hf.2, hPc (T.setVm vm₁) hT hW₁⟩) with ⟨v, vm₁, ⟨U', l2, c2, s2⟩, hW₁, X', ⟨g', mk, t, L, e1, e2, hq, h1, hL, h2, h3⟩, st⟩ | ⟨q, vm₁, ⟨U', l2, c2, s2⟩, hW₁, X', ⟨g', mk, t, L, E, ce, e1, e2, hq, hce, hcv, hcl, h1, hL, h2, h3⟩, st⟩
  · dsimp only [Pt.U, Pt.locs, Pt.cells, Pt.slots] at X' e1 e2 h1 h2 h3 st
    subst h1; subst h2; subst h3
    exact Or.inl ⟨v, (T.setVm vm₁).calling g' mk (Value.ref b :: As).toArray, t, U', L, hT, X', hL, e1, e2, hq, st⟩
  · dsimp only [Pt.U, Pt.locs, Pt.cells, Pt.slots] at X' e1 e2 h1 h2 h3 st hcl
    subst h1; subst h2; subst h3
    exact Or.inr ⟨q, (T.setVm vm₁).calling g' mk (Value.ref b :: As).toArray, t, U', L, E, ce, hT, X', hL, e1, e2, hq, hce, hcv, vx_cls hW₁ hcl, st⟩
theorem vx_runS (S : CallFix p m c cc nL s args Ts own) (hM : vx_Met l y ws rm Pc Qc XC mc ms free) (cw : CallB R s args own index y bytes maxL ret ws rm mc ms n ∧ (Cond.static y).before args s = true) (hp : PreS s H Pc As)
    (hg : g.method = m) (hn : As.length = n) (hsize : g.locals.size = nL) (hstack : g.stack = As.reverse ++ rest) (hW : 2 * g.monitorRoom + (rest.map fun v => v.category).sum ≤ 8) (hdg : decode cc g.pc = .ok (.invokestatic index, 3)) (hf : cells + mc ≤ R.cells ∧ slots + ms ≤ R.slots) :
    vx_Run p l e R s m args below meth c H locs cells slots mc ms g rest (Qc As.toArray) XC free := by
  have hK : vx_Back l R p e below s args y 3 8 (PreOf R mc ms Pc) (PostOf Qc mc ms free) (vx_Post XC mc ms free) := vx_callBack cw.1 hM hp.1
  obtain ⟨⟨-, -, -, -, -, -, hcode, hini, hy, hlen, hl⟩, hstt⟩ := cw
  obtain ⟨hx, hb, hml, ho, -⟩ := S
  intro T hT X
  rcases vx_callS X hx (bytes := bytes) (maxL := maxL) (ret := ret) ho hl hstt hini hcode hy hK hg (hsize.trans hml.symm) (argsL := As) (rest := rest) (fun sig h => hn.trans (hlen sig h)) hstack hW (by rw [hb]; exact hdg)
    (fun vm₁ hW₁ => ⟨hf.1, hf.2, hp.2 (T.setVm vm₁) hT hW₁⟩) with ⟨v, vm₁, ⟨U', l2, c2, s2⟩, hW₁, X', ⟨g', mk, t, L, e1, e2, hq, h1, hL, h2, h3⟩, st⟩ | ⟨q, vm₁, ⟨U', l2, c2, s2⟩, hW₁, X', ⟨g', mk, t, L, E, ce, e1, e2, hq, hce, hcv, hcl, h1, hL, h2, h3⟩, st⟩
  · dsimp only [Pt.U, Pt.locs, Pt.cells, Pt.slots] at X' e1 e2 h1 h2 h3 st
    subst h1; subst h2; subst h3
    exact Or.inl ⟨v, (T.setVm vm₁).calling g' mk As.toArray, t, U', L, hT, X', hL, e1, e2, hq, st⟩
  · dsimp only [Pt.U, Pt.locs, Pt.cells, Pt.slots] at X' e1 e2 h1 h2 h3 st hcl
    subst h1; subst h2; subst h3
    exact Or.inr ⟨q, (T.setVm vm₁).calling g' mk As.toArray, t, U', L, E, ce, hT, X', hL, e1, e2, hq, hce, hcv, vx_cls hW₁ hcl, st⟩
end Runs
section Rows
variable {p : Program} {l : Launch} {e : Env} {R : Room} {s : State} {m : MethodId} {args : Array Value} {below : List Frame} {meth : Method} {c : Code} {H : Heap} {locs : List Loc} {cells slots : Nat} {Q : State → Prop}
variable {mc ms : Nat} {free : Addr → Prop} {A0 A1 : Nat → Prop} {H0 : Heap} {a : Array Value} {pc : Nat} {ls : Array Slot} {st0 rest : List Value}
theorem vx_keep {st₀ t T' : State} {L : List Loc} (h0 : st₀.heap = H) (e1 : T'.heap = t.heap) (hS : va_S A0 H0 H locs) (hA : ∀ q, q < H.size → A1 q → A0 q) (hf : ∀ q, free q → A0 q) (hL : ∀ q ∈ L, free q.base) (hF : va_F A1 st₀ t) :
    H.size ≤ T'.heap.size ∧ (∀ q : Nat, q < H.size → ¬ A1 q → T'.heap[q]? = H[q]?) ∧ va_S A0 H0 T'.heap (locs ++ L) := by
  obtain ⟨hz, hk⟩ := hF
  rw [h0] at hz hk
  exact ⟨by rw [e1]; exact hz, fun q h1 h2 => by rw [e1]; exact hk q h1 h2,
    ⟨Nat.le_trans hS.1 (by rw [e1]; exact hz), fun q h1 h2 => by rw [e1, hk q (Nat.lt_of_lt_of_le h1 hS.1) (fun z => h2 (hA q (Nat.lt_of_lt_of_le h1 hS.1) z))]; exact hS.2.1 q h1 h2, fun q hq => by
      rcases List.mem_append.mp hq with h | h
      · exact hS.2.2 q h
      · exact hf _ (hL q h)⟩⟩
theorem vx_calli {S SX : Type} {post : Int32 → S → Prop} {px : SX → Prop} {B : S → State → Prop} {BX : String → SX → State → Prop} {AX : Nat → Prop} (hr : vx_Run p l e R s m args below meth c H locs cells slots mc ms (F0 m pc ls st0) rest (va_Qi post B A1 a) (vx_X px BX AX) free) (hS : va_S A0 H0 H locs) (hA : ∀ q, q < H.size → A1 q → A0 q) (hf : ∀ q, free q → A0 q) (hAX : ∀ q, q < H.size → AX q → A0 q)
    (kx : ∀ (E : String) (ce : Cell) (q9 : Addr) (u : SX) (t : State) (H1 : Heap) (locs1 : List Loc), t.heap = H1 → s.vm.Alike t.vm → px u → BX E u t → H.size ≤ H1.size → (∀ q : Nat, q < H.size → ¬ AX q → H1[q]? = H[q]?) → va_S A0 H0 H1 locs1 → H1[q9]? = some ce → ce.vm = .none → s.vm.findClass E = some ce.cls → vx_W p l e R s m args below meth c H1 locs1 (cells + mc) (slots + ms) Q (F0 m pc ls rest) q9)
    (kk : ∀ (r : Int32) (u : S) (t : State) (H1 : Heap) (locs1 : List Loc), t.heap = H1 → s.vm.Alike t.vm → post r u → B u t → H.size ≤ H1.size → (∀ q : Nat, q < H.size → ¬ A1 q → H1[q]? = H[q]?) → va_S A0 H0 H1 locs1 → W p l e R s m args below meth c H1 locs1 (cells + mc) (slots + ms) Q (F0 m (pc + 3) ls (.int r :: rest))) : W p l e R s m args below meth c H locs cells slots Q (F0 m pc ls st0) := by
  intro T hT X
  rcases hr T hT X with ⟨v, st₀, t, T', L, h0, X', hL, e1, e2, ⟨⟨r, u, hv, hp, hb⟩, hF⟩, st⟩ | ⟨q, st₀, t, T', L, E, ce, h0, X', hL, e1, e2, ⟨u, hp, hb, hF⟩, hce, hcv, hcl, st⟩
  · cases hv
    obtain ⟨k1, k2, k3⟩ := vx_keep h0 e1 hS hA hf hL hF
    obtain ⟨t2, a1, b1⟩ := kk r u t T'.heap (locs ++ L) e1.symm (by rw [← e2]; exact X'.warmed.alike) hp hb k1 k2 k3 T' rfl X'
    exact ⟨t2, st t2 a1, b1⟩
  · obtain ⟨k1, k2, k3⟩ := vx_keep h0 e1 hS hAX hf hL hF
    obtain ⟨t2, a1, b1⟩ := kx E ce q u t T'.heap (locs ++ L) e1.symm (by rw [← e2]; exact X'.warmed.alike) hp hb k1 k2 k3 (by rw [e1]; exact hce) hcv hcl T' rfl X'
    exact ⟨t2, st.trans a1, b1⟩
theorem vx_calll {S SX : Type} {post : Int64 → S → Prop} {px : SX → Prop} {B : S → State → Prop} {BX : String → SX → State → Prop} {AX : Nat → Prop} (hr : vx_Run p l e R s m args below meth c H locs cells slots mc ms (F0 m pc ls st0) rest (va_Ql post B A1 a) (vx_X px BX AX) free) (hS : va_S A0 H0 H locs) (hA : ∀ q, q < H.size → A1 q → A0 q) (hf : ∀ q, free q → A0 q) (hAX : ∀ q, q < H.size → AX q → A0 q)
    (kx : ∀ (E : String) (ce : Cell) (q9 : Addr) (u : SX) (t : State) (H1 : Heap) (locs1 : List Loc), t.heap = H1 → s.vm.Alike t.vm → px u → BX E u t → H.size ≤ H1.size → (∀ q : Nat, q < H.size → ¬ AX q → H1[q]? = H[q]?) → va_S A0 H0 H1 locs1 → H1[q9]? = some ce → ce.vm = .none → s.vm.findClass E = some ce.cls → vx_W p l e R s m args below meth c H1 locs1 (cells + mc) (slots + ms) Q (F0 m pc ls rest) q9)
    (kk : ∀ (r : Int64) (u : S) (t : State) (H1 : Heap) (locs1 : List Loc), t.heap = H1 → s.vm.Alike t.vm → post r u → B u t → H.size ≤ H1.size → (∀ q : Nat, q < H.size → ¬ A1 q → H1[q]? = H[q]?) → va_S A0 H0 H1 locs1 → W p l e R s m args below meth c H1 locs1 (cells + mc) (slots + ms) Q (F0 m (pc + 3) ls (.long r :: rest))) : W p l e R s m args below meth c H locs cells slots Q (F0 m pc ls st0) := by
  intro T hT X
  rcases hr T hT X with ⟨v, st₀, t, T', L, h0, X', hL, e1, e2, ⟨⟨r, u, hv, hp, hb⟩, hF⟩, st⟩ | ⟨q, st₀, t, T', L, E, ce, h0, X', hL, e1, e2, ⟨u, hp, hb, hF⟩, hce, hcv, hcl, st⟩
  · cases hv
    obtain ⟨k1, k2, k3⟩ := vx_keep h0 e1 hS hA hf hL hF
    obtain ⟨t2, a1, b1⟩ := kk r u t T'.heap (locs ++ L) e1.symm (by rw [← e2]; exact X'.warmed.alike) hp hb k1 k2 k3 T' rfl X'
    exact ⟨t2, st t2 a1, b1⟩
  · obtain ⟨k1, k2, k3⟩ := vx_keep h0 e1 hS hAX hf hL hF
    obtain ⟨t2, a1, b1⟩ := kx E ce q u t T'.heap (locs ++ L) e1.symm (by rw [← e2]; exact X'.warmed.alike) hp hb k1 k2 k3 (by rw [e1]; exact hce) hcv hcl T' rfl X'
    exact ⟨t2, st.trans a1, b1⟩
theorem vx_callf {S SX : Type} {post : UInt32 → S → Prop} {px : SX → Prop} {B : S → State → Prop} {BX : String → SX → State → Prop} {AX : Nat → Prop} (hr : vx_Run p l e R s m args below meth c H locs cells slots mc ms (F0 m pc ls st0) rest (va_Qf post B A1 a) (vx_X px BX AX) free) (hS : va_S A0 H0 H locs) (hA : ∀ q, q < H.size → A1 q → A0 q) (hf : ∀ q, free q → A0 q) (hAX : ∀ q, q < H.size → AX q → A0 q)
    (kx : ∀ (E : String) (ce : Cell) (q9 : Addr) (u : SX) (t : State) (H1 : Heap) (locs1 : List Loc), t.heap = H1 → s.vm.Alike t.vm → px u → BX E u t → H.size ≤ H1.size → (∀ q : Nat, q < H.size → ¬ AX q → H1[q]? = H[q]?) → va_S A0 H0 H1 locs1 → H1[q9]? = some ce → ce.vm = .none → s.vm.findClass E = some ce.cls → vx_W p l e R s m args below meth c H1 locs1 (cells + mc) (slots + ms) Q (F0 m pc ls rest) q9)
    (kk : ∀ (r : UInt32) (u : S) (t : State) (H1 : Heap) (locs1 : List Loc), t.heap = H1 → s.vm.Alike t.vm → post r u → B u t → H.size ≤ H1.size → (∀ q : Nat, q < H.size → ¬ A1 q → H1[q]? = H[q]?) → va_S A0 H0 H1 locs1 → W p l e R s m args below meth c H1 locs1 (cells + mc) (slots + ms) Q (F0 m (pc + 3) ls (.float r :: rest))) : W p l e R s m args below meth c H locs cells slots Q (F0 m pc ls st0) := by
  intro T hT X
  rcases hr T hT X with ⟨v, st₀, t, T', L, h0, X', hL, e1, e2, ⟨⟨r, u, hv, hp, hb⟩, hF⟩, st⟩ | ⟨q, st₀, t, T', L, E, ce, h0, X', hL, e1, e2, ⟨u, hp, hb, hF⟩, hce, hcv, hcl, st⟩
  · cases hv
    obtain ⟨k1, k2, k3⟩ := vx_keep h0 e1 hS hA hf hL hF
    obtain ⟨t2, a1, b1⟩ := kk r u t T'.heap (locs ++ L) e1.symm (by rw [← e2]; exact X'.warmed.alike) hp hb k1 k2 k3 T' rfl X'
    exact ⟨t2, st t2 a1, b1⟩
  · obtain ⟨k1, k2, k3⟩ := vx_keep h0 e1 hS hAX hf hL hF
    obtain ⟨t2, a1, b1⟩ := kx E ce q u t T'.heap (locs ++ L) e1.symm (by rw [← e2]; exact X'.warmed.alike) hp hb k1 k2 k3 (by rw [e1]; exact hce) hcv hcl T' rfl X'
    exact ⟨t2, st.trans a1, b1⟩
theorem vx_calld {S SX : Type} {post : UInt64 → S → Prop} {px : SX → Prop} {B : S → State → Prop} {BX : String → SX → State → Prop} {AX : Nat → Prop} (hr : vx_Run p l e R s m args below meth c H locs cells slots mc ms (F0 m pc ls st0) rest (va_Qd post B A1 a) (vx_X px BX AX) free) (hS : va_S A0 H0 H locs) (hA : ∀ q, q < H.size → A1 q → A0 q) (hf : ∀ q, free q → A0 q) (hAX : ∀ q, q < H.size → AX q → A0 q)
    (kx : ∀ (E : String) (ce : Cell) (q9 : Addr) (u : SX) (t : State) (H1 : Heap) (locs1 : List Loc), t.heap = H1 → s.vm.Alike t.vm → px u → BX E u t → H.size ≤ H1.size → (∀ q : Nat, q < H.size → ¬ AX q → H1[q]? = H[q]?) → va_S A0 H0 H1 locs1 → H1[q9]? = some ce → ce.vm = .none → s.vm.findClass E = some ce.cls → vx_W p l e R s m args below meth c H1 locs1 (cells + mc) (slots + ms) Q (F0 m pc ls rest) q9)
    (kk : ∀ (r : UInt64) (u : S) (t : State) (H1 : Heap) (locs1 : List Loc), t.heap = H1 → s.vm.Alike t.vm → post r u → B u t → H.size ≤ H1.size → (∀ q : Nat, q < H.size → ¬ A1 q → H1[q]? = H[q]?) → va_S A0 H0 H1 locs1 → W p l e R s m args below meth c H1 locs1 (cells + mc) (slots + ms) Q (F0 m (pc + 3) ls (.double r :: rest))) : W p l e R s m args below meth c H locs cells slots Q (F0 m pc ls st0) := by
  intro T hT X
  rcases hr T hT X with ⟨v, st₀, t, T', L, h0, X', hL, e1, e2, ⟨⟨r, u, hv, hp, hb⟩, hF⟩, st⟩ | ⟨q, st₀, t, T', L, E, ce, h0, X', hL, e1, e2, ⟨u, hp, hb, hF⟩, hce, hcv, hcl, st⟩
  · cases hv
    obtain ⟨k1, k2, k3⟩ := vx_keep h0 e1 hS hA hf hL hF
    obtain ⟨t2, a1, b1⟩ := kk r u t T'.heap (locs ++ L) e1.symm (by rw [← e2]; exact X'.warmed.alike) hp hb k1 k2 k3 T' rfl X'
    exact ⟨t2, st t2 a1, b1⟩
  · obtain ⟨k1, k2, k3⟩ := vx_keep h0 e1 hS hAX hf hL hF
    obtain ⟨t2, a1, b1⟩ := kx E ce q u t T'.heap (locs ++ L) e1.symm (by rw [← e2]; exact X'.warmed.alike) hp hb k1 k2 k3 (by rw [e1]; exact hce) hcv hcl T' rfl X'
    exact ⟨t2, st.trans a1, b1⟩
theorem vx_callv {S SX : Type} {post : S → Prop} {px : SX → Prop} {B : S → State → Prop} {BX : String → SX → State → Prop} {AX : Nat → Prop} (hr : vx_Run p l e R s m args below meth c H locs cells slots mc ms (F0 m pc ls st0) rest (va_Qv post B A1 a) (vx_X px BX AX) free) (hS : va_S A0 H0 H locs) (hA : ∀ q, q < H.size → A1 q → A0 q) (hf : ∀ q, free q → A0 q) (hAX : ∀ q, q < H.size → AX q → A0 q)
    (kx : ∀ (E : String) (ce : Cell) (q9 : Addr) (u : SX) (t : State) (H1 : Heap) (locs1 : List Loc), t.heap = H1 → s.vm.Alike t.vm → px u → BX E u t → H.size ≤ H1.size → (∀ q : Nat, q < H.size → ¬ AX q → H1[q]? = H[q]?) → va_S A0 H0 H1 locs1 → H1[q9]? = some ce → ce.vm = .none → s.vm.findClass E = some ce.cls → vx_W p l e R s m args below meth c H1 locs1 (cells + mc) (slots + ms) Q (F0 m pc ls rest) q9)
    (kk : ∀ (u : S) (t : State) (H1 : Heap) (locs1 : List Loc), t.heap = H1 → s.vm.Alike t.vm → post u → B u t → H.size ≤ H1.size → (∀ q : Nat, q < H.size → ¬ A1 q → H1[q]? = H[q]?) → va_S A0 H0 H1 locs1 → W p l e R s m args below meth c H1 locs1 (cells + mc) (slots + ms) Q (F0 m (pc + 3) ls (rest))) : W p l e R s m args below meth c H locs cells slots Q (F0 m pc ls st0) := by
  intro T hT X
  rcases hr T hT X with ⟨v, st₀, t, T', L, h0, X', hL, e1, e2, ⟨⟨u, hv, hp, hb⟩, hF⟩, st⟩ | ⟨q, st₀, t, T', L, E, ce, h0, X', hL, e1, e2, ⟨u, hp, hb, hF⟩, hce, hcv, hcl, st⟩
  · cases hv
    obtain ⟨k1, k2, k3⟩ := vx_keep h0 e1 hS hA hf hL hF
    obtain ⟨t2, a1, b1⟩ := kk u t T'.heap (locs ++ L) e1.symm (by rw [← e2]; exact X'.warmed.alike) hp hb k1 k2 k3 T' rfl X'
    exact ⟨t2, st t2 a1, b1⟩
  · obtain ⟨k1, k2, k3⟩ := vx_keep h0 e1 hS hAX hf hL hF
    obtain ⟨t2, a1, b1⟩ := kx E ce q u t T'.heap (locs ++ L) e1.symm (by rw [← e2]; exact X'.warmed.alike) hp hb k1 k2 k3 (by rw [e1]; exact hce) hcv hcl T' rfl X'
    exact ⟨t2, st.trans a1, b1⟩
/-- caught by the row x of this method's table; the rows ahead don't take it -/
theorem vx_catch {own name : String} {E : String} {ce : Cell} {q : Addr} (hown : s.vm.findClass own = some m.cls) (pre : List ExceptionTableEntry) (x : ExceptionTableEntry) (suf : List ExceptionTableEntry) (hsplit : c.exceptionTable.toList = pre ++ x :: suf)
    (hpass : ∀ z ∈ pre, covers z pc = false ∨ (z.catchType ≠ 0 ∧ ∃ nm : String, (Cond.classLink own z.catchType nm).before args s = true ∧ va_Nc E nm s)) (hx : covers x pc = true) (h0 : x.catchType ≠ 0)
    (hlink : (Cond.classLink own x.catchType name).before args s = true) (hcast : (Cond.castable E name).before args s = true) (hcell : H[q]? = some ce) (hv : ce.vm = .none) (hcl : s.vm.findClass E = some ce.cls)
    (kk : W p l e R s m args below meth c H locs cells slots Q (F0 m x.handlerPc ls [.ref q])) : vx_W p l e R s m args below meth c H locs cells slots Q (F0 m pc ls rest) q := by
  intro T hT X
  have hpl : e.platform.magicAccessors = ({} : Platform).magicAccessors := by rw [X.admits.platform]
  obtain ⟨c3, c4, hc3, hc4, hasg⟩ := Cond.castable_spec hcast
  cases Option.some.inj (hc3.symm.trans hcl)
  obtain ⟨c5, hc5, hcl5⟩ := Cond.classLink_spec hown hlink e.platform hpl
  cases Option.some.inj (hc4.symm.trans hc5)
  obtain ⟨vm', X', st⟩ := X.thenCaughtThrough q (g := F0 m pc ls rest) rfl (Steps.refl _) (by rw [hT]; exact hcell) (by rw [hv]; rfl) (by obtain ⟨k9, h9, -⟩ := Vm.findClass_spec hcl; exact ⟨k9, h9⟩) pre x suf hsplit
    (fun z hz => by
      rcases hpass z hz with h | ⟨hz0, nm, hl1, hn1⟩
      · exact Or.inl h
      · obtain ⟨c6, hc6, hcl6⟩ := Cond.classLink_spec hown hl1 e.platform hpl
        obtain ⟨a8, b8, h1, h2, h3⟩ := hn1
        cases Option.some.inj (h1.symm.trans hcl)
        cases Option.some.inj (h2.symm.trans hc6)
        exact Or.inr ⟨hz0, _, hcl6, h3⟩) hx (Or.inr ⟨h0, c4, hcl5, hasg⟩)
  obtain ⟨t, a1, b1⟩ := kk (T.setVm vm') hT X'
  exact ⟨t, st.trans a1, b1⟩
end Rows
section Ends
variable {p : Program} {l : Launch} {e : Env} {R : Room} {s : State} {m : MethodId} {args : Array Value} {below : List Frame} {meth : Method} {c : Code} {H : Heap} {locs : List Loc} {cells slots : Nat} {Q : State → Prop}
variable {mc ms : Nat} {free : Addr → Prop} {A0 A1 : Nat → Prop} {H0 : Heap} {a : Array Value} {ls : Array Slot} {st0 rest : List Value}
variable {Qc : Array Value → State → Outcome → State → Prop} {XC : String → State → State → Prop}
/-- what a body that may throw owes at its end -/
def vx_MQ (below : List Frame) (Qc : Array Value → State → Outcome → State → Prop) (XC : String → State → State → Prop) (a : Array Value) (s : State) (mc ms : Nat) (free : Addr → Prop) : State → Prop := fun t =>
  ∃ o, t.status = .running ∧ Ended t below o ∧ vx_Q Qc XC mc ms free a s o t
theorem vx_ret {g : JFrame} {mc ms : Nat} (k : W p l e R s m args below meth c H locs cells slots (MQ below Qc args s mc ms free) g) : W p l e R s m args below meth c H locs cells slots (vx_MQ below Qc XC args s mc ms free) g := by
  intro T hT X
  obtain ⟨t, a1, o, b1, b2, b3, b4⟩ := k T hT X
  exact ⟨t, a1, o, b1, b2, Or.inl ⟨b3, b4⟩⟩
/-- not caught here: it goes on to the caller -/
theorem vx_widen {g : JFrame} {q : Addr} {k n : Nat} (h1 : cells ≤ k) (h2 : slots ≤ n) (kk : vx_W p l e R s m args below meth c H locs k n Q g q) : vx_W p l e R s m args below meth c H locs cells slots Q g q := fun T hT X => kk T hT (stand_widen X h1 h2)
theorem vx_out {pc : Nat} {E : String} {ce : Cell} {q : Addr} {mc ms : Nat} (hout : ∀ x ∈ c.exceptionTable.toList, covers x pc = false) (hlocks : meth.locks = false) (hcell : H[q]? = some ce) (hv : ce.vm = .none) (hcl : s.vm.findClass E = some ce.cls)
    (hx : ∀ t : State, t.heap = H → s.vm.Alike t.vm → XC E s t) (hf : ∀ z ∈ locs, free z.base) (hc : cells ≤ mc) (hs : slots ≤ ms) :
    vx_W p l e R s m args below meth c H locs cells slots (vx_MQ below Qc XC args s mc ms free) (F0 m pc ls rest) q := by
  intro T hT X
  obtain ⟨st1, hrun, hend, hW, hsm⟩ := X.leaveThrown q (g := F0 m pc ls rest) rfl rfl rfl hout hlocks
  have hcell9 : (T.setFrames (.throwing q :: below)).heap[q]? = some ce := by
    show T.heap[q]? = some ce
    rw [hT]; exact hcell
  exact ⟨_, st1, .threw q, hrun, hend, Or.inr ⟨q, rfl, E, ce, locs, hx _ hT hW.alike, hcell9, hv, hcl, hW, hsm.mono hc hs, hf⟩⟩
theorem vx_frame {U : State} {k n : Nat} (h : s.sameButNew ({ U with vm := s.vm } : State) locs k n) : s.heap.size ≤ U.heap.size ∧ ∀ q : Nat, q < s.heap.size → (∀ z ∈ locs, z.base ≠ q) → U.heap[q]? = s.heap[q]? := by
  obtain ⟨-, h2, -, -, -, h6⟩ := h
  refine ⟨h2, fun q hq hz => ?_⟩
  obtain ⟨c9, e1, e2, e3, e4⟩ := h6 q _ (Array.getElem?_eq_getElem hq)
  have hs : c9.slots = (s.heap[q]).slots := Array.ext_getElem? fun i => e4 i fun hm => hz _ hm rfl
  have h9 : c9 = s.heap[q] := by
    rw [hs] at e2
    exact e2
  have e5 : U.heap[q]? = some c9 := e1
  rw [e5, h9, Array.getElem?_eq_getElem hq]
/-- the words of a throw but the four that speak of the heap -/
def vx_no (w : Cond) : Bool := decide (w ≠ .isRef (.static Bundle.tN "UNASSIGNED_STACK" Bundle.steD)) && decide (w ≠ .isRef (.static Bundle.tN "SUPPRESSED_SENTINEL" Bundle.listD)) && decide (w ≠ .laysStatic Bundle.tN "UNASSIGNED_STACK" Bundle.steD) && decide (w ≠ .laysStatic Bundle.tN "SUPPRESSED_SENTINEL" Bundle.listD)
def vx_at0 (own : String) (ic : Nat) (X : String) (names : List String) : List Cond := (Bundle.ownAtoms0 own ic X names).filter vx_no
def vx_atS (own : String) (ic : Nat) (X : String) (names : List String) : List Cond := (Bundle.ownAtoms own ic X names).filter vx_no
/-- a word that the tables alone decide, or a good one -/
def vx_ot (w : Cond) : Bool := w.onTables || goodWord w
theorem vx_ot_at {args a' : Array Value} {s U : State} {w : Cond} (hW : s.WarmedH U.vm) (hvm : s.vm = U.vm) (hg : vx_ot w = true) (h : w.before args s = true) : w.before a' U = true := by
  simp only [vx_ot, Bool.or_eq_true] at hg
  rcases hg with hg | hg
  · exact va_tabs hg hvm h
  · exact word_at hW (good_of_word hg) h
/-- a list's words: the good ones out of the method's own list, the others by premises of their own -/
theorem vx_hat {args : Array Value} {s : State} {L B : List Cond} (h1 : ∀ w ∈ L.filter goodWord, w.before args s = true) (h2 : ∀ w ∈ L.filter (fun w => !goodWord w), w ∈ B) (h3 : ∀ w ∈ B, w.before args s = true) : ∀ w ∈ L, w.before args s = true := by
  intro w hw
  by_cases g : goodWord w = true
  · exact h1 w (List.mem_filter.mpr ⟨hw, g⟩)
  · refine h3 w (h2 w (List.mem_filter.mpr ⟨hw, ?_⟩))
    show (!goodWord w) = true
    cases hgw : goodWord w
    · rfl
    · exact absurd hgw g
theorem vx_c {args : Array Value} {s : State} {w : Cond} {B : List Cond} (h : w.before args s = true) (t : ∀ w ∈ B, w.before args s = true) : ∀ w' ∈ w :: B, w'.before args s = true := fun w' h' => (List.mem_cons.mp h').elim (fun e => by rw [e]; exact h) (t w')
theorem vx_n {args : Array Value} {s : State} : ∀ w ∈ ([] : List Cond), w.before args s = true := fun _ h => nomatch h
theorem vx_own {args : Array Value} {s : State} {L : List Cond} (h1 : ∀ w ∈ L.filter vx_no, w.before args s = true)
    (hU : (Cond.isRef (.static Bundle.tN "UNASSIGNED_STACK" Bundle.steD)).before args s = true) (hN : (Cond.isRef (.static Bundle.tN "SUPPRESSED_SENTINEL" Bundle.listD)).before args s = true)
    (lU : (Cond.laysStatic Bundle.tN "UNASSIGNED_STACK" Bundle.steD).before args s = true) (lN : (Cond.laysStatic Bundle.tN "SUPPRESSED_SENTINEL" Bundle.listD).before args s = true) : ∀ w ∈ L, w.before args s = true := by
  intro w hw
  by_cases e1 : w = .isRef (.static Bundle.tN "UNASSIGNED_STACK" Bundle.steD)
  · rw [e1]; exact hU
  · by_cases e2 : w = .isRef (.static Bundle.tN "SUPPRESSED_SENTINEL" Bundle.listD)
    · rw [e2]; exact hN
    · by_cases e3 : w = .laysStatic Bundle.tN "UNASSIGNED_STACK" Bundle.steD
      · rw [e3]; exact lU
      · by_cases e4 : w = .laysStatic Bundle.tN "SUPPRESSED_SENTINEL" Bundle.listD
        · rw [e4]; exact lN
        · exact h1 w (List.mem_filter.mpr ⟨hw, by unfold vx_no; rw [decide_eq_true e1, decide_eq_true e2, decide_eq_true e3, decide_eq_true e4]; rfl⟩)
/-- where a static field lies, its class's statics cell in H -/
def vx_L (C n d : String) (A : Nat → Prop) (U : State) (H : Heap) : Prop := ∃ (c : ClassId) (k : Class) (i : Nat) (f : Field) (a : Nat) (cell : Cell), U.vm.findClass C = some c ∧ U.fieldFound? C n d = some (c, k, i, f) ∧ f.isStatic = true ∧ k.statics = some a ∧ H[a]? = some cell ∧ cell.vm.isStatics = true ∧ cell.cls = c ∧ f.slot < cell.slots.size ∧ k.staticTypes[f.slot]? = some f.type ∧ ¬ A a
theorem vx_L.moved {C n d : String} {A : Nat → Prop} {u U : State} {H : Heap} (hvm : u.vm.Alike U.vm) (h : vx_L C n d A u H) : vx_L C n d A U H := by
  obtain ⟨c, k, i, f, a, cell, h1, h2, h3, h4, h5, h6, h7, h8, h9, h10⟩ := h
  obtain ⟨k', hi', he⟩ := State.fieldFound?_setVm hvm h2
  exact ⟨c, k', i, f, a, cell, by rw [hvm.findClass]; exact h1, hi', h3, by rw [he]; exact h4, h5, h6, h7, h8, by rw [he]; exact h9, h10⟩
theorem vx_L.kept {C n d : String} {A : Nat → Prop} {U : State} {H H1 : Heap} (h : vx_L C n d A U H) (hq : ∀ a : Nat, a < H.size → ¬ A a → H1[a]? = H[a]?) : vx_L C n d A U H1 := by
  obtain ⟨c, k, i, f, a, cell, h1, h2, h3, h4, h5, h6, h7, h8, h9, h10⟩ := h
  exact ⟨c, k, i, f, a, cell, h1, h2, h3, h4, by rw [hq a (Array.getElem?_eq_some_iff.mp h5).1 h10]; exact h5, h6, h7, h8, h9, h10⟩
theorem vx_L.narrow {C n d : String} {A B : Nat → Prop} {U : State} {H : Heap} (h : vx_L C n d A U H) (hAB : ∀ q, B q → A q) : vx_L C n d B U H := by
  obtain ⟨c, k, i, f, a, cell, h1, h2, h3, h4, h5, h6, h7, h8, h9, h10⟩ := h
  exact ⟨c, k, i, f, a, cell, h1, h2, h3, h4, h5, h6, h7, h8, h9, fun z => h10 (hAB _ z)⟩
theorem vx_L.word {C n d : String} {A : Nat → Prop} {s : State} {args : Array Value} (h : vx_L C n d A s s.heap) : (Cond.laysStatic C n d).before args s = true := by
  obtain ⟨c, k, i, f, a, cell, h1, h2, h3, h4, h5, h6, h7, h8, h9, -⟩ := h
  show (Cond.laysStatic C n d).holds args s none s [] = true
  exact Cond.laysStatic_of h1 h2 h3 h4 h5 h6 h7 h8 h9
/-- .. and what it holds: null or some reference -/
def vx_Zq (C n d : String) (A : Nat → Prop) (U : State) (H : Heap) : Prop := va_Zq C n d A U H ∧ vx_L C n d A U H
theorem vx_Zq.moved {C n d : String} {A : Nat → Prop} {u U : State} {H : Heap} (hvm : u.vm.Alike U.vm) (h : vx_Zq C n d A u H) : vx_Zq C n d A U H := ⟨va_Zq.moved hvm h.1, vx_L.moved hvm h.2⟩
theorem vx_Zq.kept {C n d : String} {A : Nat → Prop} {U : State} {H H1 : Heap} (h : vx_Zq C n d A U H) (hq : ∀ a : Nat, a < H.size → ¬ A a → H1[a]? = H[a]?) : vx_Zq C n d A U H1 := ⟨va_Zq.kept h.1 hq, vx_L.kept h.2 hq⟩
theorem vx_Zq.narrow {C n d : String} {A B : Nat → Prop} {U : State} {H : Heap} (h : vx_Zq C n d A U H) (hAB : ∀ q, B q → A q) : vx_Zq C n d B U H := ⟨va_Zq.narrow h.1 hAB, vx_L.narrow h.2 hAB⟩
theorem vx_Zqof {args : Array Value} {s : State} {C n d : String} {A : Nat → Prop} (hl : (Cond.laysStatic C n d).before args s = true) (hini : (Cond.initialized C).before args s = true) (h : (Cond.isRef (.static C n d)).before args s = true) (hA : ∀ a : Nat, a < s.heap.size → ¬ A a) : vx_Zq C n d A s s.heap := by
  refine ⟨va_Zqof hl hini h hA, ?_⟩
  obtain ⟨c, k, i, f, a, cell, h1, h2, h3, h4, h5, h6, h7, h8, h9⟩ := Cond.laysStatic_spec hl
  exact ⟨c, k, i, f, a, cell, h1, h2, h3, h4, h5, h6, h7, h8, h9, hA a (Array.getElem?_eq_some_iff.mp h5).1⟩
theorem vx_isRef {C n d : String} {v : Value} {A : Nat → Prop} {s : State} {args : Array Value} (h : va_Z C n d v A s s.heap) (hv : v.isRef = true) : (Cond.isRef (.static C n d)).before args s = true := by
  obtain ⟨cf, kf, fi, f, a, cell, h1, h2, h3, h4, h5, h6, h7, -⟩ := h
  have he : (Term.static C n d).eval args s none [] s = some v := by
    simp [Term.eval, State.fieldNamed?, h1, h2, h4, h5, h6, h7]
  simp only [Cond.before, Cond.holds, Cond.value, he]
  cases v <;> simp_all [Value.isRef]
theorem vx_isRefq {C n d : String} {A : Nat → Prop} {s : State} {args : Array Value} (h : va_Zq C n d A s s.heap) : (Cond.isRef (.static C n d)).before args s = true := by
  rcases h with h | ⟨t, h⟩
  · exact vx_isRef h rfl
  · exact vx_isRef h rfl
/-- the same frame, seen from here: as if the method were called anew in this heap -/
theorem vx_rebase {T : State} (X : Stand p l e R s m args below meth c T locs cells slots) {R' : Room} (hf : R'.frames ≤ R.frames) (hl : R'.locals ≤ R.locals) (hc : cells + R'.cells ≤ R.cells) (hs : slots + R'.slots ≤ R.slots) :
    Stand p l e R' ((T.setVm s.vm).setFrames (.invoking m args :: below)) m args below meth c T [] 0 0 := by
  have htop : (T.setVm s.vm).topJava?.isSome := X.here.top
  have hF : ((T.setVm s.vm).setFrames (.invoking m args :: below)).frames = .invoking m args :: below := State.frames_setFrames _ (State.cur_lt_of_top htop)
  obtain ⟨g₀, hg0⟩ := Option.isSome_iff_exists.mp htop
  obtain ⟨r, hr⟩ := State.topJava?_eq_some.mp hg0
  have hl9 : e.platform.stackLimits (T.setVm s.vm).me = e.platform.stackLimits s.me := X.limits
  have hb9 : (T.setVm s.vm).me.stackBytes = s.me.stackBytes := X.bytes
  refine ⟨X.admits, X.cas, X.clock, hF, ?_, X.hears, X.method, X.code, X.here, X.tail, X.warmed, ?_, ?_, ?_⟩
  · have h := X.room
    have hU : ((T.setVm s.vm).setFrames (.invoking m args :: below)).localsInUse = s.localsInUse := by
      rw [State.localsInUse_invoking hF (meth := meth) (c := c) X.method X.code, State.localsInUse_invoking X.frames X.method X.code]
    simp only [State.hasRoom, Bool.and_eq_true, decide_eq_true_eq] at h ⊢
    obtain ⟨⟨⟨⟨h1, h2, h3, h4, h5, h6⟩, h7⟩, h8⟩, h9⟩ := h
    rw [X.frames, List.length_cons] at h2 h3
    have q1 := X.heapSize
    have q2 := X.used
    simp only [hF, hU, List.length_cons, State.stackLimits_setFrames, State.stackBytes_setFrames, hl9, hb9]
    refine ⟨⟨⟨⟨by omega, by omega, by omega, by omega, by omega, h6⟩, ?_⟩, ?_⟩, X.book⟩
    · show T.heap.size + R'.cells ≤ e.platform.maxCells
      omega
    · show T.slotsUsed + R'.slots ≤ e.platform.maxSlots
      omega
  · rw [State.stackLimits_setFrames]; rfl
  · rw [State.stackBytes_setFrames]; rfl
  · refine ⟨?_, Nat.le_refl _, Nat.le_refl _, ?_, ?_, fun a c9 h9 => ⟨c9, h9, rfl, rfl, fun _ _ => rfl⟩⟩
    · obtain ⟨t, ht, -⟩ := State.frames_cons hr
      show T.setVm s.vm = { ((T.setVm s.vm).setFrames (.invoking m args :: below)).setFrames (T.setVm s.vm).frames with heap := T.heap, slotsUsed := T.slotsUsed }
      rw [State.setFrames_setFrames, State.setFrames_self ht]
      rfl
    · show T.slotsUsed = T.slotsUsed + ((T.heap.toList.drop T.heap.size).map (·.slots.size)).sum
      rw [List.drop_eq_nil_of_le (Nat.le_of_eq Array.length_toList)]
      rfl
    · show ((T.heap.toList.drop T.heap.size).map (·.slots.size)).sum ≤ 0
      rw [List.drop_eq_nil_of_le (Nat.le_of_eq Array.length_toList)]
      exact Nat.le_refl _
/-- 'throw new E()': new; dup; invokespecial; athrow -/
theorem vx_throw0 {cc : ByteArray} {pc : Nat} (hexec : p.tables.exec = Jvm.exec) (hb : c.code = cc) (hl : l.stackTraces = false) {own cls : String} {names : List String} {ik ic mc ms : Nat} {A : Nat → Prop}
    (hown : s.vm.findClass own = some m.cls) (hcls : Bundle.fit cls = true) (hnames : ∀ n ∈ names, Bundle.fit n = true)
    (hk : (Cond.classLink own ik cls).before args s = true) (hini : (Cond.initialized cls).before args s = true) (hat : ∀ w ∈ vx_at0 own ic cls names, w.before args s = true)
    (hgood : ∀ w ∈ Cond.classLink own ik cls :: Cond.initialized cls :: vx_at0 own ic cls names, vx_ot w = true)
    (hU : vx_Zq Bundle.tN "UNASSIGNED_STACK" Bundle.steD A s s.heap) (hN : vx_Zq Bundle.tN "SUPPRESSED_SENTINEL" Bundle.listD A s s.heap) (hS : va_S A s.heap H locs) (hsize : ls.size = c.maxLocals)
    (d0 : decode cc pc = .ok (.new ik, 3)) (d3 : decode cc (pc + 3) = .ok (.dup, 1)) (d4 : decode cc (pc + 4) = .ok (.invokespecial ic, 3)) (d7 : decode cc (pc + 7) = .ok (.athrow, 1))
    (hout : ∀ x ∈ c.exceptionTable.toList, covers x (pc + 7) = false)
    (hRframes : names.length + 3 < R.frames) (hRlocals : (rest.map fun v => v.category).sum + (13 * (names.length + 1) + 42) ≤ R.locals) (hRcells : cells + 1 ≤ R.cells) (hRslots : slots + 6 ≤ R.slots) (hlocks : meth.locks = false)
    (hx : ∀ t : State, s.vm.Alike t.vm → H.size ≤ t.heap.size → (∀ q : Nat, q < H.size → t.heap[q]? = H[q]?) → XC cls s t)
    (hf : ∀ z ∈ locs, free z.base) (hc : cells + 1 ≤ mc) (hs : slots + 6 ≤ ms) :
    W p l e R s m args below meth c H locs cells slots (vx_MQ below Qc XC args s mc ms free) (F0 m pc ls rest) := by
  intro T hT X
  have htr : e.platform.stackTraces = false := (show e.platform.stackTraces = l.stackTraces by rw [X.admits.platform]).trans hl
  have Y := vx_rebase X (R' := { frames := R.frames, locals := R.locals, cells := 1, slots := 6 }) (Nat.le_refl _) (Nat.le_refl _) hRcells hRslots
  obtain ⟨s', hA⟩ : ∃ z, z = (T.setVm s.vm).setFrames (.invoking m args :: below) := ⟨_, rfl⟩
  rw [← hA] at Y
  have hvm : s'.vm = s.vm := by rw [hA]; rfl
  have hhp : s'.heap = H := by rw [hA]; exact hT
  have hW0 : s.WarmedH s'.vm := by rw [hvm]; exact State.WarmedH.refl s
  have hat' : ∀ w ∈ vx_at0 own ic cls names, w.before args s' = true := fun w hw => vx_ot_at hW0 hvm.symm (hgood w (List.mem_cons_of_mem _ (List.mem_cons_of_mem _ hw))) (hat w hw)
  have hk' : (Cond.classLink own ik cls).before args s' = true := vx_ot_at hW0 hvm.symm (hgood _ List.mem_cons_self) hk
  have hini' : (Cond.initialized cls).before args s' = true := vx_ot_at hW0 hvm.symm (hgood _ (List.mem_cons_of_mem _ List.mem_cons_self)) hini
  have hU' : vx_Zq Bundle.tN "UNASSIGNED_STACK" Bundle.steD A s' s'.heap := by rw [hhp]; exact vx_Zq.moved hW0.alike (hU.kept hS.2.1)
  have hN' : vx_Zq Bundle.tN "SUPPRESSED_SENTINEL" Bundle.listD A s' s'.heap := by rw [hhp]; exact vx_Zq.moved hW0.alike (hN.kept hS.2.1)
  have h : ∀ w ∈ Bundle.ownAtoms0 own ic cls names, w.before args s' = true := vx_own hat' (vx_isRefq hU'.1) (vx_isRefq hN'.1) hU'.2.word hN'.2.word
  have hown' : s'.vm.findClass own = some m.cls := by rw [hvm]; exact hown
  have hins : (Cond.instantiable cls 6).before args s' = true := h _ (by simp [Bundle.ownAtoms0])
  obtain ⟨vm₁, cX, kX, hfX, hkX, -, -, X₁, st1⟩ := Y.newCold hexec (own := own) (C := cls) (index := ik) (n := 6) hown' hk' hins hini'
    (g := F0 m pc ls rest) rfl (by rw [hb]; exact d0) (Nat.le_refl _) (Nat.le_refl _)
  generalize hT1 : (T.setVm vm₁).pushCell { cls := cX, slots := kX.instanceTypes.map defaultValue, vm := .none } = T1 at X₁ st1
  have hcat : (Value.ref T.heap.size).category = 1 := rfl
  have hcellA : T1.heap[T.heap.size]? = some (freshCell cX kX) := by rw [← hT1]; exact State.heap_pushCell_size _ _
  have d3' : decode c.code (pc + 3) = .ok (.dup, 1) := by rw [hb]; exact d3
  obtain ⟨U, hsteps, hrun, hend, hW, hsame, ce, hce, hO⟩ := X₁.ctorThrow0 hexec htr (own := own) (cls := cls) (names := names) (ic := ic) hown' hcls hnames h (fun x hx => nomatch hx) hfX hkX hcellA (by rw [hhp, hT]; exact Nat.le_refl _)
    (g := { method := m, pc := pc + 4, locals := ls, stack := .ref T.heap.size :: .ref T.heap.size :: rest, locked := none }) rfl hsize rfl rfl (rest := rest) rfl
    (by rw [hb]; exact d4) (by rw [hb]; exact d7) hout hRframes (by simp only [List.map_cons, List.sum_cons, hcat]; omega) hlocks
  obtain ⟨f1, f2⟩ := vx_frame hsame
  rw [hhp] at f1 f2
  have hWs : s.WarmedH U.vm := State.WarmedH.trans hW0 hW
  have hcl : s.vm.findClass cls = some ce.cls := by
    have h9 := hO.cls
    rw [hvm] at h9
    exact h9
  have hall : s.sameButNew ({ U with vm := s.vm } : State) locs mc ms := by
    subst hA
    obtain ⟨e1, e2⟩ := hsame
    rw [State.setFrames_setFrames] at e1
    have h2 : (T.setVm s.vm).sameButNew ({ U with vm := s.vm } : State) [] (0 + 1) (0 + 6) := ⟨e1, e2⟩
    have h3 := X.same.trans h2
    rw [List.append_nil] at h3
    exact h3.mono hc hs
  refine ⟨U, ?_, .threw T.heap.size, hrun, hend, Or.inr ⟨T.heap.size, rfl, cls, ce, locs, hx U hWs.alike f1 (fun q hq => f2 q hq (fun z hz => nomatch hz)), hce, hO.vm, hcl, hWs, hall, hf⟩⟩
  refine st1 _ ?_
  show Steps p.tables e below (T1.setTop { method := m, pc := pc + 3, locals := ls, stack := .ref T.heap.size :: rest, locked := none }) _
  jvm_step X₁.here [X₁.here.top, hexec, d3', Value.category]
  exact hsteps
/-- 'throw new E("text")': new; dup; ldc; invokespecial; athrow -/
theorem vx_throwS {cc : ByteArray} {pc : Nat} (hexec : p.tables.exec = Jvm.exec) (hb : c.code = cc) (hl : l.stackTraces = false) {own cls text : String} {names : List String} {ik is ic mc ms sa : Nat} {A : Nat → Prop}
    (hown : s.vm.findClass own = some m.cls) (hcls : Bundle.fit cls = true) (hnames : ∀ n ∈ names, Bundle.fit n = true)
    (hk : (Cond.classLink own ik cls).before args s = true) (hini : (Cond.initialized cls).before args s = true) (hstr : vk_R own is text sa s) (hat : ∀ w ∈ vx_atS own ic cls names, w.before args s = true)
    (hgood : ∀ w ∈ Cond.classLink own ik cls :: Cond.initialized cls :: vx_atS own ic cls names, vx_ot w = true)
    (hU : vx_Zq Bundle.tN "UNASSIGNED_STACK" Bundle.steD A s s.heap) (hN : vx_Zq Bundle.tN "SUPPRESSED_SENTINEL" Bundle.listD A s s.heap) (hS : va_S A s.heap H locs) (hsize : ls.size = c.maxLocals)
    (d0 : decode cc pc = .ok (.new ik, 3)) (d3 : decode cc (pc + 3) = .ok (.dup, 1)) (d4 : decode cc (pc + 4) = .ok (.ldc is, 2)) (d6 : decode cc (pc + 6) = .ok (.invokespecial ic, 3)) (d9 : decode cc (pc + 9) = .ok (.athrow, 1))
    (hout : ∀ x ∈ c.exceptionTable.toList, covers x (pc + 9) = false)
    (hRframes : names.length + 3 < R.frames) (hRlocals : (rest.map fun v => v.category).sum + (13 * (names.length + 1) + 43) ≤ R.locals) (hRcells : cells + 1 ≤ R.cells) (hRslots : slots + 6 ≤ R.slots) (hlocks : meth.locks = false)
    (hx : ∀ t : State, s.vm.Alike t.vm → H.size ≤ t.heap.size → (∀ q : Nat, q < H.size → t.heap[q]? = H[q]?) → XC cls s t)
    (hf : ∀ z ∈ locs, free z.base) (hc : cells + 1 ≤ mc) (hs : slots + 6 ≤ ms) :
    W p l e R s m args below meth c H locs cells slots (vx_MQ below Qc XC args s mc ms free) (F0 m pc ls rest) := by
  intro T hT X
  have htr : e.platform.stackTraces = false := (show e.platform.stackTraces = l.stackTraces by rw [X.admits.platform]).trans hl
  have Y := vx_rebase X (R' := { frames := R.frames, locals := R.locals, cells := 1, slots := 6 }) (Nat.le_refl _) (Nat.le_refl _) hRcells hRslots
  obtain ⟨s', hA⟩ : ∃ z, z = (T.setVm s.vm).setFrames (.invoking m args :: below) := ⟨_, rfl⟩
  rw [← hA] at Y
  have hvm : s'.vm = s.vm := by rw [hA]; rfl
  have hhp : s'.heap = H := by rw [hA]; exact hT
  have hW0 : s.WarmedH s'.vm := by rw [hvm]; exact State.WarmedH.refl s
  have hat' : ∀ w ∈ vx_atS own ic cls names, w.before args s' = true := fun w hw => vx_ot_at hW0 hvm.symm (hgood w (List.mem_cons_of_mem _ (List.mem_cons_of_mem _ hw))) (hat w hw)
  have hk' : (Cond.classLink own ik cls).before args s' = true := vx_ot_at hW0 hvm.symm (hgood _ List.mem_cons_self) hk
  have hini' : (Cond.initialized cls).before args s' = true := vx_ot_at hW0 hvm.symm (hgood _ (List.mem_cons_of_mem _ List.mem_cons_self)) hini
  have hU' : vx_Zq Bundle.tN "UNASSIGNED_STACK" Bundle.steD A s' s'.heap := by rw [hhp]; exact vx_Zq.moved hW0.alike (hU.kept hS.2.1)
  have hN' : vx_Zq Bundle.tN "SUPPRESSED_SENTINEL" Bundle.listD A s' s'.heap := by rw [hhp]; exact vx_Zq.moved hW0.alike (hN.kept hS.2.1)
  have h : ∀ w ∈ Bundle.ownAtoms own ic cls names, w.before args s' = true := vx_own hat' (vx_isRefq hU'.1) (vx_isRefq hN'.1) hU'.2.word hN'.2.word
  have hown' : s'.vm.findClass own = some m.cls := by rw [hvm]; exact hown
  have hins : (Cond.instantiable cls 6).before args s' = true := h _ (by simp [Bundle.ownAtoms])
  obtain ⟨vm₁, cX, kX, hfX, hkX, -, -, X₁, st1⟩ := Y.newCold hexec (own := own) (C := cls) (index := ik) (n := 6) hown' hk' hins hini'
    (g := F0 m pc ls rest) rfl (by rw [hb]; exact d0) (Nat.le_refl _) (Nat.le_refl _)
  generalize hT1 : (T.setVm vm₁).pushCell { cls := cX, slots := kX.instanceTypes.map defaultValue, vm := .none } = T1 at X₁ st1
  have hcat : (Value.ref T.heap.size).category = 1 := rfl
  have hcellA : T1.heap[T.heap.size]? = some (freshCell cX kX) := by rw [← hT1]; exact State.heap_pushCell_size _ _
  have d3' : decode c.code (pc + 3) = .ok (.dup, 1) := by rw [hb]; exact d3
  have d4' : decode c.code (pc + 4) = .ok (.ldc is, 2) := by rw [hb]; exact d4
  have hstr' : vk_R own is text sa s' := vk_R.warm hW0 hstr
  obtain ⟨U, hsteps, hrun, hend, hW, hsame, ce, hce, hO⟩ := X₁.ctorThrowS hexec htr (own := own) (cls := cls) (names := names) (ic := ic) hown' hcls hnames h (fun x hx => nomatch hx) hfX hkX hcellA (by rw [hhp, hT]; exact Nat.le_refl _) (msg := .ref sa) rfl
    (g := { method := m, pc := pc + 6, locals := ls, stack := .ref sa :: .ref T.heap.size :: .ref T.heap.size :: rest, locked := none }) rfl hsize rfl rfl (rest := rest) rfl
    (by rw [hb]; exact d6) (by rw [hb]; exact d9) hout hRframes (by simp only [List.map_cons, List.sum_cons, hcat]; omega) hlocks
  obtain ⟨f1, f2⟩ := vx_frame hsame
  rw [hhp] at f1 f2
  have hWs : s.WarmedH U.vm := State.WarmedH.trans hW0 hW
  have hcl : s.vm.findClass cls = some ce.cls := by
    have h9 := hO.cls
    rw [hvm] at h9
    exact h9
  have hall : s.sameButNew ({ U with vm := s.vm } : State) locs mc ms := by
    subst hA
    obtain ⟨e1, e2⟩ := hsame
    rw [State.setFrames_setFrames] at e1
    have h2 : (T.setVm s.vm).sameButNew ({ U with vm := s.vm } : State) [] (0 + 1) (0 + 6) := ⟨e1, e2⟩
    have h3 := X.same.trans h2
    rw [List.append_nil] at h3
    exact h3.mono hc hs
  refine ⟨U, ?_, .threw T.heap.size, hrun, hend, Or.inr ⟨T.heap.size, rfl, cls, ce, locs, hx U hWs.alike f1 (fun q hq => f2 q hq (fun z hz => nomatch hz)), hce, hO.vm, hcl, hWs, hall, hf⟩⟩
  refine st1 _ ?_
  show Steps p.tables e below (T1.setTop { method := m, pc := pc + 3, locals := ls, stack := .ref T.heap.size :: rest, locked := none }) _
  jvm_step X₁.here [X₁.here.top, hexec, d3', Value.category]
  exact X₁.ldcString hexec (own := own) (text := text) (index := is) (a := sa) hown' hstr'.1 hstr'.2
    (g := { method := m, pc := pc + 4, locals := ls, stack := .ref T.heap.size :: .ref T.heap.size :: rest, locked := none }) rfl d4' _ hsteps
/-- 'throw new E("text")', the text by a wide index -/
theorem vx_throwSW {cc : ByteArray} {pc : Nat} (hexec : p.tables.exec = Jvm.exec) (hb : c.code = cc) (hl : l.stackTraces = false) {own cls text : String} {names : List String} {ik is ic mc ms sa : Nat} {A : Nat → Prop}
    (hown : s.vm.findClass own = some m.cls) (hcls : Bundle.fit cls = true) (hnames : ∀ n ∈ names, Bundle.fit n = true)
    (hk : (Cond.classLink own ik cls).before args s = true) (hini : (Cond.initialized cls).before args s = true) (hstr : vk_R own is text sa s) (hat : ∀ w ∈ vx_atS own ic cls names, w.before args s = true)
    (hgood : ∀ w ∈ Cond.classLink own ik cls :: Cond.initialized cls :: vx_atS own ic cls names, vx_ot w = true)
    (hU : vx_Zq Bundle.tN "UNASSIGNED_STACK" Bundle.steD A s s.heap) (hN : vx_Zq Bundle.tN "SUPPRESSED_SENTINEL" Bundle.listD A s s.heap) (hS : va_S A s.heap H locs) (hsize : ls.size = c.maxLocals)
    (d0 : decode cc pc = .ok (.new ik, 3)) (d3 : decode cc (pc + 3) = .ok (.dup, 1)) (d4 : decode cc (pc + 4) = .ok (.ldc_w is, 3)) (d7 : decode cc (pc + 7) = .ok (.invokespecial ic, 3)) (d10 : decode cc (pc + 10) = .ok (.athrow, 1))
    (hout : ∀ x ∈ c.exceptionTable.toList, covers x (pc + 10) = false)
    (hRframes : names.length + 3 < R.frames) (hRlocals : (rest.map fun v => v.category).sum + (13 * (names.length + 1) + 43) ≤ R.locals) (hRcells : cells + 1 ≤ R.cells) (hRslots : slots + 6 ≤ R.slots) (hlocks : meth.locks = false)
    (hx : ∀ t : State, s.vm.Alike t.vm → H.size ≤ t.heap.size → (∀ q : Nat, q < H.size → t.heap[q]? = H[q]?) → XC cls s t)
    (hf : ∀ z ∈ locs, free z.base) (hc : cells + 1 ≤ mc) (hs : slots + 6 ≤ ms) :
    W p l e R s m args below meth c H locs cells slots (vx_MQ below Qc XC args s mc ms free) (F0 m pc ls rest) := by
  intro T hT X
  have htr : e.platform.stackTraces = false := (show e.platform.stackTraces = l.stackTraces by rw [X.admits.platform]).trans hl
  have Y := vx_rebase X (R' := { frames := R.frames, locals := R.locals, cells := 1, slots := 6 }) (Nat.le_refl _) (Nat.le_refl _) hRcells hRslots
  obtain ⟨s', hA⟩ : ∃ z, z = (T.setVm s.vm).setFrames (.invoking m args :: below) := ⟨_, rfl⟩
  rw [← hA] at Y
  have hvm : s'.vm = s.vm := by rw [hA]; rfl
  have hhp : s'.heap = H := by rw [hA]; exact hT
  have hW0 : s.WarmedH s'.vm := by rw [hvm]; exact State.WarmedH.refl s
  have hat' : ∀ w ∈ vx_atS own ic cls names, w.before args s' = true := fun w hw => vx_ot_at hW0 hvm.symm (hgood w (List.mem_cons_of_mem _ (List.mem_cons_of_mem _ hw))) (hat w hw)
  have hk' : (Cond.classLink own ik cls).before args s' = true := vx_ot_at hW0 hvm.symm (hgood _ List.mem_cons_self) hk
  have hini' : (Cond.initialized cls).before args s' = true := vx_ot_at hW0 hvm.symm (hgood _ (List.mem_cons_of_mem _ List.mem_cons_self)) hini
  have hU' : vx_Zq Bundle.tN "UNASSIGNED_STACK" Bundle.steD A s' s'.heap := by rw [hhp]; exact vx_Zq.moved hW0.alike (hU.kept hS.2.1)
  have hN' : vx_Zq Bundle.tN "SUPPRESSED_SENTINEL" Bundle.listD A s' s'.heap := by rw [hhp]; exact vx_Zq.moved hW0.alike (hN.kept hS.2.1)
  have h : ∀ w ∈ Bundle.ownAtoms own ic cls names, w.before args s' = true := vx_own hat' (vx_isRefq hU'.1) (vx_isRefq hN'.1) hU'.2.word hN'.2.word
  have hown' : s'.vm.findClass own = some m.cls := by rw [hvm]; exact hown
  have hins : (Cond.instantiable cls 6).before args s' = true := h _ (by simp [Bundle.ownAtoms])
  obtain ⟨vm₁, cX, kX, hfX, hkX, -, -, X₁, st1⟩ := Y.newCold hexec (own := own) (C := cls) (index := ik) (n := 6) hown' hk' hins hini'
    (g := F0 m pc ls rest) rfl (by rw [hb]; exact d0) (Nat.le_refl _) (Nat.le_refl _)
  generalize hT1 : (T.setVm vm₁).pushCell { cls := cX, slots := kX.instanceTypes.map defaultValue, vm := .none } = T1 at X₁ st1
  have hcat : (Value.ref T.heap.size).category = 1 := rfl
  have hcellA : T1.heap[T.heap.size]? = some (freshCell cX kX) := by rw [← hT1]; exact State.heap_pushCell_size _ _
  have d3' : decode c.code (pc + 3) = .ok (.dup, 1) := by rw [hb]; exact d3
  have d4' : decode c.code (pc + 4) = .ok (.ldc_w is, 3) := by rw [hb]; exact d4
  have hstr' : vk_R own is text sa s' := vk_R.warm hW0 hstr
  obtain ⟨U, hsteps, hrun, hend, hW, hsame, ce, hce, hO⟩ := X₁.ctorThrowS hexec htr (own := own) (cls := cls) (names := names) (ic := ic) hown' hcls hnames h (fun x hx => nomatch hx) hfX hkX hcellA (by rw [hhp, hT]; exact Nat.le_refl _) (msg := .ref sa) rfl
    (g := { method := m, pc := pc + 7, locals := ls, stack := .ref sa :: .ref T.heap.size :: .ref T.heap.size :: rest, locked := none }) rfl hsize rfl rfl (rest := rest) rfl
    (by rw [hb]; exact d7) (by rw [hb]; exact d10) hout hRframes (by simp only [List.map_cons, List.sum_cons, hcat]; omega) hlocks
  obtain ⟨f1, f2⟩ := vx_frame hsame
  rw [hhp] at f1 f2
  have hWs : s.WarmedH U.vm := State.WarmedH.trans hW0 hW
  have hcl : s.vm.findClass cls = some ce.cls := by
    have h9 := hO.cls
    rw [hvm] at h9
    exact h9
  have hall : s.sameButNew ({ U with vm := s.vm } : State) locs mc ms := by
    subst hA
    obtain ⟨e1, e2⟩ := hsame
    rw [State.setFrames_setFrames] at e1
    have h2 : (T.setVm s.vm).sameButNew ({ U with vm := s.vm } : State) [] (0 + 1) (0 + 6) := ⟨e1, e2⟩
    have h3 := X.same.trans h2
    rw [List.append_nil] at h3
    exact h3.mono hc hs
  refine ⟨U, ?_, .threw T.heap.size, hrun, hend, Or.inr ⟨T.heap.size, rfl, cls, ce, locs, hx U hWs.alike f1 (fun q hq => f2 q hq (fun z hz => nomatch hz)), hce, hO.vm, hcl, hWs, hall, hf⟩⟩
  refine st1 _ ?_
  show Steps p.tables e below (T1.setTop { method := m, pc := pc + 3, locals := ls, stack := .ref T.heap.size :: rest, locked := none }) _
  jvm_step X₁.here [X₁.here.top, hexec, d3', Value.category]
  exact X₁.ldcStringW hexec (own := own) (text := text) (index := is) (a := sa) hown' hstr'.1 hstr'.2
    (g := { method := m, pc := pc + 4, locals := ls, stack := .ref T.heap.size :: .ref T.heap.size :: rest, locked := none }) rfl d4' _ hsteps
end Ends
section Bodies
variable {l : Launch}
theorem vx_ofW {y : MethodName} {ws ws' : List Cond} {rm : Room} {Pc : Array Value → State → Prop} {Qc : Array Value → State → Outcome → State → Prop} {XC : String → State → State → Prop} {mc ms : Nat} {free : Addr → Prop} {cc : ByteArray} {maxL : Nat} {ret : Option FieldType}
    (hy : plainName y.cls = true) (hw : ws = Cond.code y cc maxL ret :: ws')
    (body : ∀ p e s m args below meth c s₁, BodyLoose p l y (headSpec ws rm) cc maxL ret e s m args below meth c s₁ → c.maxLocals = maxL → (∀ x ∈ c.exceptionTable.toList, False) → Pc args s →
      W p l e (headSpec ws rm).room s m args below meth c s.heap [] 0 0 (vx_MQ below Qc XC args s mc ms free) (entryFrame m args maxL)) : vx_Met l y ws rm Pc Qc XC mc ms free := by
  refine MetFree.of_bodyS (code := cc) (maxLocals := maxL) (ret := ret) hy ?_ ?_
  · intro args s m h hn
    obtain ⟨meth, c, h1, h2, h3, h4, h5, h6, -, -⟩ := Cond.code_spec hn (atoms_spec (ws := ws) h _ (by rw [hw]; exact List.mem_cons_self))
    exact ⟨meth, c, h1, h2, h3, h4, h5, h6⟩
  · intro p e s m args below meth c s₁ B hml hP _
    have hh0 : s₁.heap = s.heap := by rw [B.state]; rfl
    have ht : ∀ x ∈ c.exceptionTable.toList, False := by
      obtain ⟨meth9, c9, h1, h2, -, -, -, -, h7, -⟩ := Cond.code_spec B.named (atoms_spec (ws := ws) B.pre _ (by rw [hw]; exact List.mem_cons_self))
      cases Option.some.inj (h1.symm.trans B.method)
      cases Option.some.inj (h2.symm.trans (Stand.of_body B).code)
      intro x hx
      rw [Array.isEmpty_iff.mp h7] at hx
      cases hx
    obtain ⟨t, a1, o, b1, b2, b3⟩ := body p e s m args below meth c s₁ B hml ht hP s₁ hh0 (Stand.of_body B)
    exact ⟨t, o, a1, b1, b2, b3⟩
/-- the table of a body with handlers -/
theorem vx_table {p : Program} {x y : MethodName} {S : Spec} {cc bytes : ByteArray} {maxL maxL' : Nat} {ret ret' : Option FieldType} {e : Env} {s s₁ : State} {m : MethodId} {args : Array Value} {below : List Frame} {meth : Method} {c : Code} {hh : List (Nat × Nat × Nat × Nat)}
    (B : BodyLoose p l y S cc maxL ret e s m args below meth c s₁) (h : (Cond.codeWith y bytes maxL' ret' hh).before args s = true) : c.exceptionTable.toList = tableOf hh := by
  obtain ⟨m9, meth9, c9, hn9, h1, h2, -, -, h6, -⟩ := Cond.codeWith_spec h
  cases Option.some.inj (hn9.symm.trans B.named)
  cases Option.some.inj (h1.symm.trans B.method)
  cases Option.some.inj (h2.symm.trans (Stand.of_body B).code)
  rw [← h6, table_eq]
end Bodies
end VXA
/-! ===== END ===== -/
/-! ===== BEGIN a static call of a method with an exception table ===== -/
section VXS
variable {p : Program} {l : Launch} {e : Env} {R : Room} {s : State} {m : MethodId} {args : Array Value} {below : List Frame} {meth : Method} {c : Code} {T : State} {H : Heap} {locs : List Loc} {cells slots : Nat}
abbrev vx_CSW (R : Room) (s : State) (args : Array Value) (own : String) (index : Nat) (y : MethodName) (bytes : ByteArray) (maxL : Nat) (ret : Option FieldType) (hh : List (Nat × Nat × Nat × Nat)) (ws : List Cond) (rm : Room) (mc ms n : Nat) : Prop :=
  (rm.cells = mc ∧ rm.slots = ms ∧ rm.frames + 1 ≤ R.frames ∧ 8 + (maxL + 11) + rm.locals ≤ R.locals ∧ (∀ w ∈ ws, ∀ (a' : Array Value) (U : State), s.WarmedH U.vm → w.before a' U = true) ∧ Cond.codeWith y bytes maxL ret hh ∈ ws) ∧
  (Cond.codeWith y bytes maxL ret hh).before args s = true ∧ (Cond.initialized y.cls).before args s = true ∧ (y.cls ≠ "java/lang/invoke/MethodHandle" ∧ y.cls ≠ "java/lang/invoke/VarHandle") ∧
  (∀ sig, parseMethodDescriptor y.desc = some sig → n = sig.parameters.length) ∧ (Cond.methodLink own index y).before args s = true ∧ (Cond.static y).before args s = true
theorem vx_cwSW {own : String} {index maxL mc ms : Nat} {y : MethodName} {bytes : ByteArray} {ret : Option FieldType} {hh : List (Nat × Nat × Nat × Nat)} {Ts ws ws' : List Cond} {rm : Room} (n : Nat) (ht : ∀ w ∈ Ts, w.before args s = true) (hT : GoodIn Ts (va_wsS own index y ws)) (hw : ws = Cond.codeWith y bytes maxL ret hh :: ws') (hrc : rm.cells = mc) (hrs : rm.slots = ms)
    (hd : y.cls ≠ "java/lang/invoke/MethodHandle" ∧ y.cls ≠ "java/lang/invoke/VarHandle" ∧ (parseMethodDescriptor y.desc).map (fun d => d.parameters.length) = some n) (hR : rm.frames + 1 ≤ R.frames ∧ 8 + (maxL + 11) + rm.locals ≤ R.locals) :
    vx_CSW R s args own index y bytes maxL ret hh ws rm mc ms n := by
  have ok : ∀ w ∈ va_wsS own index y ws, w.before args s = true := fun w h => ht w (hT w h).1
  have hG : GoodIn Ts ws := fun w h => hT w (by unfold va_wsS; exact List.mem_append_right _ h)
  have hc : Cond.codeWith y bytes maxL ret hh ∈ ws := by rw [hw]; exact List.mem_cons_self
  refine ⟨⟨hrc, hrs, hR.1, hR.2, pay_in ht hG, hc⟩, ht _ (hG _ hc).1, ok _ (by simp [va_wsS]), ⟨hd.1, hd.2.1⟩, fun sig h => ?_, ok _ (by simp [va_wsS]), ok _ (by simp [va_wsS])⟩
  have h2 := hd.2.2
  rw [h] at h2
  exact (Option.some.inj h2).symm
theorem vx_callSW (X : Stand p l e R s m args below meth c T locs cells slots) (hexec : p.tables.exec = Jvm.exec) {own : String} {index : Nat} {y : MethodName} {bytes : ByteArray} {maxL : Nat} {ret : Option FieldType} {hh : List (Nat × Nat × Nat × Nat)}
    (hown : s.vm.findClass own = some m.cls) (hlink : (Cond.methodLink own index y).before args s = true) (hstat : (Cond.static y).before args s = true) (hinit : (Cond.initialized y.cls).before args s = true)
    (hcode : (Cond.codeWith y bytes maxL ret hh).before args s = true) (hy : y.cls ≠ "java/lang/invoke/MethodHandle" ∧ y.cls ≠ "java/lang/invoke/VarHandle")
    {W9 : Nat} {Pre : Pt → Array Value → Prop} {Post : Pt → Array Value → Option Value → Pt → Prop} (hK : Back l R p e below s args y 3 W9 Pre Post)
    {g : JFrame} (hg : g.method = m) (hsize : g.locals.size = c.maxLocals) {argsL rest : List Value} (hlen : ∀ sig, parseMethodDescriptor y.desc = some sig → argsL.length = sig.parameters.length)
    (hstack : g.stack = argsL.reverse ++ rest) (hW : 2 * g.monitorRoom + (rest.map fun v => v.category).sum ≤ W9) (hdg : decode c.code g.pc = .ok (.invokestatic index, 3))
    (hpre : ∀ vm₁, s.WarmedH vm₁ → Pre ⟨T.setVm vm₁, locs, cells, slots⟩ argsL.toArray) :
    ∃ (v : Option Value) (vm₁ : Vm) (B : Pt), s.WarmedH vm₁ ∧ Stand p l e R s m args below meth c B.U B.locs B.cells B.slots ∧ Post ⟨T.setVm vm₁, locs, cells, slots⟩ argsL.toArray v B ∧
      ∀ target, Steps p.tables e below (B.U.setTop { g with pc := g.pc + 3, stack := v.toList ++ rest }) target → Steps p.tables e below (T.setTop g) target := by
  obtain ⟨mk, methM, cM, hnamed, hmethM, -, -, -, -, -, -, hsigM⟩ := Cond.codeWith_spec hcode
  have hstatic : methM.isStatic = true := Cond.static_spec hnamed hmethM hstat
  obtain ⟨kP, hkP, -⟩ := className_of_methodNamed hnamed
  have hinitP : kP.init = .initialized := Cond.initialized_spec (findClass_of_methodNamed hnamed) hkP hinit
  obtain ⟨vm₁, X₁, hstep₁⟩ := X.invokestatic hexec hown hlink hnamed hmethM hstatic hkP hinitP hy (g := g) hg (argsL := argsL) (rest := rest) (hlen _ hsigM) hstack hdg
  obtain ⟨v, B, X', hpost, hsteps⟩ := hK m meth c ⟨T.setVm vm₁, locs, cells, slots⟩ { g with stack := rest } (.invokestatic index) mk argsL.toArray X₁ hg hsize hdg hW (X₁.named hnamed) (hpre vm₁ X₁.warmed)
  exact ⟨v, vm₁, B, X₁.warmed, X', hpost, fun target h => hstep₁ _ fun acts => by rw [doInvoke_state]; exact hsteps.trans h⟩
theorem vx_runSW {y : MethodName} {bytes cc : ByteArray} {maxL nL mc ms n index : Nat} {ret : Option FieldType} {hh : List (Nat × Nat × Nat × Nat)} {ws : List Cond} {rm : Room} {Pc : Array Value → State → Prop} {Qc : Array Value → State → Outcome → State → Prop} {free : Addr → Prop} {Ts : List Cond} {own : String} {As rest : List Value} {g : JFrame}
    (S : CallFix p m c cc nL s args Ts own) (hM : Met l y ws rm Pc Qc mc ms free) (cw : vx_CSW R s args own index y bytes maxL ret hh ws rm mc ms n) (hp : PreS s H Pc As)
    (hg : g.method = m) (hn : As.length = n) (hsize : g.locals.size = nL) (hstack : g.stack = As.reverse ++ rest) (hW : 2 * g.monitorRoom + (rest.map fun v => v.category).sum ≤ 8) (hdg : decode cc g.pc = .ok (.invokestatic index, 3)) (hf : cells + mc ≤ R.cells ∧ slots + ms ≤ R.slots) :
    va_Run p l e R s m args below meth c H locs cells slots mc ms g rest (Qc As.toArray) (free) := by
  obtain ⟨⟨hrc, hrs, hfr, hlo, hws, hcw⟩, hcode, hini, hy, hlen, hl, hstt⟩ := cw
  have hK : Back l R p e below s args y 3 8 (PreOf R mc ms Pc) (PostOf Qc mc ms free) := va_backW (hh := hh) (bytes := bytes) (maxL := maxL) (ret := ret) hM hp.1 hrc hrs hfr hlo hws hcw (fun a' U hW => word_at hW (Or.inl (by first | rfl | simp [Cond.onTables, Cond.keeps, Cond.steady])) hini)
  obtain ⟨hx, hb, hml, ho, -⟩ := S
  intro T hT X
  obtain ⟨v, vm₁, ⟨U', l2, c2, s2⟩, hW₁, X', ⟨g', mk, t, L, e1, e2, hq, h1, hL, h2, h3⟩, st⟩ := vx_callSW X hx (hh := hh) (bytes := bytes) (maxL := maxL) (ret := ret) ho hl hstt hini hcode hy hK hg (hsize.trans hml.symm) (argsL := As) (rest := rest) (fun sig h => hn.trans (hlen sig h)) hstack hW (by rw [hb]; exact hdg)
    (fun vm₁ hW₁ => ⟨hf.1, hf.2, hp.2 (T.setVm vm₁) hT hW₁⟩)
  dsimp only [Pt.U, Pt.locs, Pt.cells, Pt.slots] at X' e1 e2 h1 h2 h3 st
  subst h1; subst h2; subst h3
  exact ⟨v, (T.setVm vm₁).calling g' mk As.toArray, t, U', L, hT, X', hL, e1, e2, hq, st⟩
/-- not caught here, past rows that name other classes: it goes on to the caller -/
theorem vx_outP {p : Program} {l : Launch} {e : Env} {R : Room} {s : State} {m : MethodId} {args : Array Value} {below : List Frame} {meth : Method} {c : Code} {H : Heap} {locs : List Loc} {cells slots : Nat} {free : Addr → Prop} {ls : Array Slot} {rest : List Value} {Qc : Array Value → State → Outcome → State → Prop} {XC : String → State → State → Prop}
    {pc : Nat} {own E : String} {ce : Cell} {q : Addr} {mc ms : Nat} (hown : s.vm.findClass own = some m.cls) (hlocks : meth.locks = false)
    (hpass : ∀ z ∈ c.exceptionTable.toList, covers z pc = false ∨ (z.catchType ≠ 0 ∧ ∃ nm : String, (Cond.classLink own z.catchType nm).before args s = true ∧ va_Nc E nm s)) (hcell : H[q]? = some ce) (hv : ce.vm = .none) (hcl : s.vm.findClass E = some ce.cls)
    (hx : ∀ t : State, t.heap = H → s.vm.Alike t.vm → XC E s t) (hf : ∀ z ∈ locs, free z.base) (hc : cells ≤ mc) (hs : slots ≤ ms) :
    vx_W p l e R s m args below meth c H locs cells slots (vx_MQ below Qc XC args s mc ms free) (F0 m pc ls rest) q := by
  intro T hT X
  have hpl : e.platform.magicAccessors = ({} : Platform).magicAccessors := by rw [X.admits.platform]
  obtain ⟨vm', hW', X', st⟩ := X.outThrough hlocks q (g := F0 m pc ls rest) rfl rfl rfl (cell := ce) (by rw [hT]; exact hcell) (by rw [hv]; rfl)
    (by obtain ⟨k9, h9, -⟩ := Vm.findClass_spec hcl; exact ⟨k9, h9⟩) (fun z hz => by
      rcases hpass z hz with h | ⟨hz0, nm, hl1, hn1⟩
      · exact Or.inl h
      · obtain ⟨c6, hc6, hcl6⟩ := Cond.classLink_spec hown hl1 e.platform hpl
        obtain ⟨a8, b8, h1, h2, h3⟩ := hn1
        cases Option.some.inj (h1.symm.trans hcl)
        cases Option.some.inj (h2.symm.trans hc6)
        exact Or.inr ⟨hz0, _, hcl6, h3⟩)
  obtain ⟨g₀, hfr⟩ := X'.frames_eq
  have hcell9 : ((T.setVm vm').setFrames (.throwing q :: below)).heap[q]? = some ce := by
    show T.heap[q]? = some ce
    rw [hT]; exact hcell
  have hend : Ended ((T.setVm vm').setFrames (.throwing q :: below)) below (.threw q) := State.frames_setFrames _ (State.cur_lt_of_frames hfr)
  refine ⟨(T.setVm vm').setFrames (.throwing q :: below), ?_, .threw q, X'.here.running, hend, Or.inr ⟨q, rfl, E, ce, locs, hx _ hT (X'.ends _).1.alike, hcell9, hv, hcl, (X'.ends _).1, (X'.ends _).2.mono hc hs, hf⟩⟩
  rw [X.pushThrowing_eq]
  exact st
/-- a thing of a world lies in the heap -/
theorem vx_lt {D : va_G} {cl : List vw_C} {ws : va_W} {H1 : Heap} (h : va_P D cl ws H1) {k : Nat} {q : Nat × va_E} (hk : ws[k]? = some q) : q.1 < H1.size := (h k q hk).lt
end VXS
/-! ===== END ===== -/
/-! ===== BEGIN methods with a table of their own: called by a name, returning or throwing ===== -/
section VXH
/-! vx_backW, vx_callVX, vx_callSX, vx_callVW, vx_runVW, vx_runVX, vx_runSX, vx_ofWH follow the same proofs as their sisters above (Free/Laws.lean, Shelf42/LK1.lean); vx_outP calls Shelf42/NT130.lean (outThrough). -/
section
variable {l : Launch} {R : Room} {p : Program} {e : Env} {below : List Frame} {s : State} {sargs : Array Value} {y : MethodName} {len W9 : Nat}
theorem vx_backW {ws : List Cond} {rm : Room} {Pc : Array Value → State → Prop} {Qc : Array Value → State → Outcome → State → Prop} {XC : String → State → State → Prop} {mc ms : Nat} {free : Addr → Prop} {bytes : ByteArray} {maxL : Nat} {ret : Option FieldType} {hh : List (Nat × Nat × Nat × Nat)}
    (hM : vx_Met l y ws rm Pc Qc XC mc ms free) (hblind : FrameBlind Pc) (hrc : rm.cells = mc) (hrs : rm.slots = ms)
    (hframes : rm.frames + 1 ≤ R.frames) (hlocals : W9 + (maxL + 11) + rm.locals ≤ R.locals)
    (hws : ∀ w ∈ ws, ∀ a' U, s.WarmedH U.vm → w.before a' U = true) (hcode : Cond.codeWith y bytes maxL ret hh ∈ ws) (hinit : ∀ a' U, s.WarmedH U.vm → (Cond.initialized y.cls).before a' U = true) :
    vx_Back l R p e below s sargs y len W9 (PreOf R mc ms Pc) (PostOf Qc mc ms free) (vx_Post XC mc ms free) := by
  intro m meth c A g ig mk a X hg hsize hdg hW hn hp
  have h1 : (headSpec ws rm).pre.before a A.U = true := atoms_intro fun w hw => hws w hw _ _ X.warmed
  have h2 : (Cond.codeWith y bytes maxL ret hh).before a A.U = true := hws _ hcode _ _ X.warmed
  have h3 : (Cond.initialized y.cls).before a A.U = true := hinit _ _ X.warmed
  have h4 : A.cells + (headSpec ws rm).room.cells ≤ R.cells := by rw [show (headSpec ws rm).room.cells = mc from hrc]; exact hp.1
  have h5 : A.slots + (headSpec ws rm).room.slots ≤ R.slots := by rw [show (headSpec ws rm).room.slots = ms from hrs]; exact hp.2.1
  have hPc : Pc a (A.U.calling g mk a) := hblind _ _ _ _ hp.2.2
  obtain ⟨U, Ls, c0, s0⟩ := A
  dsimp only [Pt.U, Pt.locs, Pt.cells, Pt.slots] at h1 h2 h3 h4 h5 X hn hPc ⊢
  obtain ⟨m9, methY, cY, hn9, hmY, hcY, -, hlY, -⟩ := Cond.codeWith_spec h2
  cases Option.some.inj (hn9.symm.trans hn)
  obtain ⟨kY, hkY, -⟩ := className_of_methodNamed hn
  have hinitY : kY.init = .initialized := Cond.initialized_spec (findClass_of_methodNamed hn) hkY h3
  have h : At U g.method c below := by rw [hg]; exact X.here
  have hlocals9 : W9 + (maxL + 11) + (headSpec ws rm).room.locals ≤ R.locals := hlocals
  have happ : (headSpec ws rm).appliesLoose y e.platform (U.calling g mk a) = true :=
    Spec.appliesLoose_calling (g := g) h hdg hn hkY hinitY
      (X.room_calling (g := g) (R' := (headSpec ws rm).room) hsize hmY hcY hframes (by rw [hlY]; omega) h4 h5) h1
  obtain ⟨mid, hmid⟩ := h.above
  have hfr : (U.setTop g).frames = (.java g :: mid) ++ below := by rw [State.frames_setTop' g h.top, hmid]; rfl
  obtain ⟨o, s₂, hsteps, -, hend, hq⟩ := Steps.callFree hM p X.admits X.cas X.clock (acts := []) hfr happ hPc trivial
  have hq' : vx_Q Qc XC mc ms free a (U.calling g mk a) o s₂ := hq
  rw [State.frames_setTop' g h.top] at hend
  obtain ⟨g₀, hg0⟩ := Option.isSome_iff_exists.mp h.top
  obtain ⟨r, hr⟩ := State.topJava?_eq_some.mp hg0
  have hr' : (({ U with heap := s₂.heap, slotsUsed := s₂.slotsUsed } : State).setVm s₂.vm).frames = .java g₀ :: r := hr
  rcases hq' with ⟨hqc, L, hfe, hL⟩ | ⟨q, rfl, E, ce, L, hx, hce, hcv, hcl, hW₂, hsm, hL⟩
  · obtain ⟨⟨v, rfl⟩, hW₂, e2, q2, q3, q4, q5, q6⟩ := id hfe
    have e3 : s₂ = ({ (U.calling g mk a).setFrames s₂.frames with heap := s₂.heap, slotsUsed := s₂.slotsUsed } : State).setVm s₂.vm := by
      have : s₂ = ({ s₂ with vm := (U.calling g mk a).vm } : State).setVm s₂.vm := rfl
      rw [e2] at this
      exact this
    obtain ⟨c₂, i₂, len₂, hc₂, hd₂, hf₂⟩ := hend
    have hW' : U.WarmedH s₂.vm := hW₂
    have hcc : c₂ = c := by
      have h1 : s₂.code? g.method = U.code? g.method := by
        rw [State.code?_eq, State.code?_eq, hW'.alike.method?]
      exact Option.some.inj (hc₂.symm.trans (h1.trans h.code))
    subst hcc
    have hlen : len₂ = len := by rw [hdg] at hd₂; cases hd₂; rfl
    subst hlen
    have hs₂ : s₂ = (({ U with heap := s₂.heap, slotsUsed := s₂.slotsUsed } : State).setVm s₂.vm).setTop { g with pc := g.pc + len₂, stack := v.toList ++ g.stack } := by
      refine e3.trans ?_
      rw [hf₂, State.calling_eq h.top, State.setFrames_setFrames, State.setTop_of_frames _ hr', hr]
      rfl
    have hsame : U.sameButNew ({ U with heap := s₂.heap, slotsUsed := s₂.slotsUsed } : State) L mc ms := by
      refine ⟨?_, q2, q3, q4, q5, q6⟩
      obtain ⟨t, ht, -⟩ := State.frames_cons hr
      show ({ U with heap := s₂.heap, slotsUsed := s₂.slotsUsed } : State) = { U.setFrames U.frames with heap := s₂.heap, slotsUsed := s₂.slotsUsed }
      rw [State.setFrames_self ht]
    subst hg
    refine Or.inl ⟨v, ⟨(({ U with heap := s₂.heap, slotsUsed := s₂.slotsUsed } : State).setVm s₂.vm), Ls ++ L, c0 + mc, s0 + ms⟩,
      ⟨X.admits, X.cas, X.clock, X.frames, X.room, X.hears, X.method, X.code, (X.here.setHeapUsed s₂.heap s₂.slotsUsed).setVm hW'.alike, X.tail, State.WarmedH.trans X.warmed hW', X.limits, X.bytes, X.same.trans (hsame.setVm s.vm)⟩,
      ⟨g, mk, s₂, L, rfl, rfl, hqc, rfl, hL, rfl, rfl⟩, ?_⟩
    show Steps p.tables e below _ ((({ U with heap := s₂.heap, slotsUsed := s₂.slotsUsed } : State).setVm s₂.vm).setTop { g with pc := g.pc + len₂, stack := v.toList ++ g.stack })
    rw [← hs₂]
    exact hsteps
  · obtain ⟨e2, q2, q3, q4, q5, q6⟩ := id hsm
    have e3 : s₂ = ({ (U.calling g mk a).setFrames s₂.frames with heap := s₂.heap, slotsUsed := s₂.slotsUsed } : State).setVm s₂.vm := by
      have : s₂ = ({ s₂ with vm := (U.calling g mk a).vm } : State).setVm s₂.vm := rfl
      rw [e2] at this
      exact this
    have hf₂ : s₂.frames = .throwing q :: .java g :: U.frames.tail := hend
    have hW' : U.WarmedH s₂.vm := hW₂
    have hs₂ : s₂ = ((({ U with heap := s₂.heap, slotsUsed := s₂.slotsUsed } : State).setVm s₂.vm).setTop g).pushFrame (.throwing q) := by
      refine e3.trans ?_
      rw [hf₂, State.calling_eq h.top, State.setFrames_setFrames, State.pushFrame, State.frames_setTop _ hr', State.setTop_of_frames _ hr', State.setFrames_setFrames, hr]
      rfl
    have hsame : U.sameButNew ({ U with heap := s₂.heap, slotsUsed := s₂.slotsUsed } : State) L mc ms := by
      refine ⟨?_, q2, q3, q4, q5, q6⟩
      obtain ⟨t, ht, -⟩ := State.frames_cons hr
      show ({ U with heap := s₂.heap, slotsUsed := s₂.slotsUsed } : State) = { U.setFrames U.frames with heap := s₂.heap, slotsUsed := s₂.slotsUsed }
      rw [State.setFrames_self ht]
    subst hg
    refine Or.inr ⟨q, ⟨(({ U with heap := s₂.heap, slotsUsed := s₂.slotsUsed } : State).setVm s₂.vm), Ls ++ L, c0 + mc, s0 + ms⟩,
      ⟨X.admits, X.cas, X.clock, X.frames, X.room, X.hears, X.method, X.code, (X.here.setHeapUsed s₂.heap s₂.slotsUsed).setVm hW'.alike, X.tail, State.WarmedH.trans X.warmed hW', X.limits, X.bytes, X.same.trans (hsame.setVm s.vm)⟩,
      ⟨g, mk, s₂, L, E, ce, rfl, rfl, hx, hce, hcv, hcl, rfl, hL, rfl, rfl⟩, ?_⟩
    show Steps p.tables e below _ (((({ U with heap := s₂.heap, slotsUsed := s₂.slotsUsed } : State).setVm s₂.vm).setTop g).pushFrame (.throwing q))
    rw [← hs₂]
    exact hsteps
end
variable {p : Program} {l : Launch} {e : Env} {R : Room} {s : State} {m : MethodId} {args : Array Value} {below : List Frame} {meth : Method} {c : Code} {T : State} {H : Heap} {locs : List Loc} {cells slots : Nat}
theorem vx_callVX (X : Stand p l e R s m args below meth c T locs cells slots) (hexec : p.tables.exec = Jvm.exec) {own C : String} {index : Nat} {y : MethodName} {bytes : ByteArray} {maxL : Nat} {ret : Option FieldType} {hh : List (Nat × Nat × Nat × Nat)}
    (hown : s.vm.findClass own = some m.cls) (hlink : (Cond.methodLink own index y).before args s = true) (hinst : (Cond.instanceMethod y).before args s = true) (hsel : (Cond.selects C y y).before args s = true)
    (hcode : (Cond.codeWith y bytes maxL ret hh).before args s = true) (hy : y.cls ≠ "java/lang/invoke/MethodHandle" ∧ y.cls ≠ "java/lang/invoke/VarHandle")
    {W9 : Nat} {Pre : Pt → Array Value → Prop} {Post : Pt → Array Value → Option Value → Pt → Prop} {PostX : Pt → Array Value → Addr → Pt → Prop} (hK : vx_Back l R p e below s args y 3 W9 Pre Post PostX)
    {b : Addr} {cellB : Cell} (hcell : T.heap[b]? = some cellB) (hobj : cellB.vm.isStatics = false) (hcls : s.vm.findClass C = some cellB.cls)
    {g : JFrame} (hg : g.method = m) (hsize : g.locals.size = c.maxLocals) {argsL rest : List Value} (hlen : ∀ sig, parseMethodDescriptor y.desc = some sig → argsL.length = sig.parameters.length)
    (hstack : g.stack = argsL.reverse ++ .ref b :: rest) (hW : 2 * g.monitorRoom + (rest.map fun v => v.category).sum ≤ W9) (hdg : decode c.code g.pc = .ok (.invokevirtual index, 3))
    (hpre : ∀ vm₁, s.WarmedH vm₁ → Pre ⟨T.setVm vm₁, locs, cells, slots⟩ (Value.ref b :: argsL).toArray) :
    (∃ (v : Option Value) (vm₁ : Vm) (B : Pt), s.WarmedH vm₁ ∧ Stand p l e R s m args below meth c B.U B.locs B.cells B.slots ∧ Post ⟨T.setVm vm₁, locs, cells, slots⟩ (Value.ref b :: argsL).toArray v B ∧
      ∀ target, Steps p.tables e below (B.U.setTop { g with pc := g.pc + 3, stack := v.toList ++ rest }) target → Steps p.tables e below (T.setTop g) target) ∨
    (∃ (q : Addr) (vm₁ : Vm) (B : Pt), s.WarmedH vm₁ ∧ Stand p l e R s m args below meth c B.U B.locs B.cells B.slots ∧ PostX ⟨T.setVm vm₁, locs, cells, slots⟩ (Value.ref b :: argsL).toArray q B ∧
      Steps p.tables e below (T.setTop g) ((B.U.setTop { g with stack := rest }).pushFrame (.throwing q))) := by
  obtain ⟨mk, methM, hnamed, hmethM, hstM, habM⟩ := Cond.instanceMethod_spec hinst
  obtain ⟨m8, methM', cM, hn8, hmethM', -, -, -, -, -, -, hsigM⟩ := Cond.codeWith_spec hcode
  cases Option.some.inj (hn8.symm.trans hnamed)
  cases hmethM.symm.trans hmethM'
  obtain ⟨c2, r2, m2, q1, q2, q3, q4, kP, hkP, hkPi⟩ := Cond.selects_spec hsel
  cases hcls.symm.trans q1
  cases (State.methodFound?_of_named hnamed hy).symm.trans q2
  cases hnamed.symm.trans q3
  have hselP : selectMethod e.platform s.vm cellB.cls mk = .method mk := by rw [Launch.admits_selectMethod X.admits]; exact q4
  obtain ⟨vm₁, X₁, hstep₁⟩ := X.invokevirtual hexec hown hlink hnamed hmethM hstM hkP hkPi hy (a := b) (cell := cellB) hcell
    (fun z h => by rw [h] at hobj; cases hobj) hselP hmethM habM hkP hkPi (g := g) hg (argsL := argsL) (rest := rest) (hlen _ hsigM) hstack hdg
  rcases hK m meth c ⟨T.setVm vm₁, locs, cells, slots⟩ { g with stack := rest } (.invokevirtual index) mk (Value.ref b :: argsL).toArray X₁ hg hsize hdg hW (X₁.named hnamed) (hpre vm₁ X₁.warmed) with ⟨v, B, X', hpost, hsteps⟩ | ⟨q, B, X', hpost, hsteps⟩
  · exact Or.inl ⟨v, vm₁, B, X₁.warmed, X', hpost, fun target h => hstep₁ _ fun acts => by rw [doInvoke_state]; exact hsteps.trans h⟩
  · exact Or.inr ⟨q, vm₁, B, X₁.warmed, X', hpost, hstep₁ _ fun acts => by rw [doInvoke_state]; exact hsteps⟩
theorem vx_callSX (X : Stand p l e R s m args below meth c T locs cells slots) (hexec : p.tables.exec = Jvm.exec) {own : String} {index : Nat} {y : MethodName} {bytes : ByteArray} {maxL : Nat} {ret : Option FieldType} {hh : List (Nat × Nat × Nat × Nat)}
    (hown : s.vm.findClass own = some m.cls) (hlink : (Cond.methodLink own index y).before args s = true) (hstat : (Cond.static y).before args s = true) (hinit : (Cond.initialized y.cls).before args s = true)
    (hcode : (Cond.codeWith y bytes maxL ret hh).before args s = true) (hy : y.cls ≠ "java/lang/invoke/MethodHandle" ∧ y.cls ≠ "java/lang/invoke/VarHandle")
    {W9 : Nat} {Pre : Pt → Array Value → Prop} {Post : Pt → Array Value → Option Value → Pt → Prop} {PostX : Pt → Array Value → Addr → Pt → Prop} (hK : vx_Back l R p e below s args y 3 W9 Pre Post PostX)
    {g : JFrame} (hg : g.method = m) (hsize : g.locals.size = c.maxLocals) {argsL rest : List Value} (hlen : ∀ sig, parseMethodDescriptor y.desc = some sig → argsL.length = sig.parameters.length)
    (hstack : g.stack = argsL.reverse ++ rest) (hW : 2 * g.monitorRoom + (rest.map fun v => v.category).sum ≤ W9) (hdg : decode c.code g.pc = .ok (.invokestatic index, 3))
    (hpre : ∀ vm₁, s.WarmedH vm₁ → Pre ⟨T.setVm vm₁, locs, cells, slots⟩ argsL.toArray) :
    (∃ (v : Option Value) (vm₁ : Vm) (B : Pt), s.WarmedH vm₁ ∧ Stand p l e R s m args below meth c B.U B.locs B.cells B.slots ∧ Post ⟨T.setVm vm₁, locs, cells, slots⟩ argsL.toArray v B ∧
      ∀ target, Steps p.tables e below (B.U.setTop { g with pc := g.pc + 3, stack := v.toList ++ rest }) target → Steps p.tables e below (T.setTop g) target) ∨
    (∃ (q : Addr) (vm₁ : Vm) (B : Pt), s.WarmedH vm₁ ∧ Stand p l e R s m args below meth c B.U B.locs B.cells B.slots ∧ PostX ⟨T.setVm vm₁, locs, cells, slots⟩ argsL.toArray q B ∧
      Steps p.tables e below (T.setTop g) ((B.U.setTop { g with stack := rest }).pushFrame (.throwing q))) := by
  obtain ⟨mk, methM, cM, hnamed, hmethM, -, -, -, -, -, -, hsigM⟩ := Cond.codeWith_spec hcode
  have hstatic : methM.isStatic = true := Cond.static_spec hnamed hmethM hstat
  obtain ⟨kP, hkP, -⟩ := className_of_methodNamed hnamed
  have hinitP : kP.init = .initialized := Cond.initialized_spec (findClass_of_methodNamed hnamed) hkP hinit
  obtain ⟨vm₁, X₁, hstep₁⟩ := X.invokestatic hexec hown hlink hnamed hmethM hstatic hkP hinitP hy (g := g) hg (argsL := argsL) (rest := rest) (hlen _ hsigM) hstack hdg
  rcases hK m meth c ⟨T.setVm vm₁, locs, cells, slots⟩ { g with stack := rest } (.invokestatic index) mk argsL.toArray X₁ hg hsize hdg hW (X₁.named hnamed) (hpre vm₁ X₁.warmed) with ⟨v, B, X', hpost, hsteps⟩ | ⟨q, B, X', hpost, hsteps⟩
  · exact Or.inl ⟨v, vm₁, B, X₁.warmed, X', hpost, fun target h => hstep₁ _ fun acts => by rw [doInvoke_state]; exact hsteps.trans h⟩
  · exact Or.inr ⟨q, vm₁, B, X₁.warmed, X', hpost, hstep₁ _ fun acts => by rw [doInvoke_state]; exact hsteps⟩
theorem vx_callVW (X : Stand p l e R s m args below meth c T locs cells slots) (hexec : p.tables.exec = Jvm.exec) {own C : String} {index : Nat} {y : MethodName} {bytes : ByteArray} {maxL : Nat} {ret : Option FieldType} {hh : List (Nat × Nat × Nat × Nat)}
    (hown : s.vm.findClass own = some m.cls) (hlink : (Cond.methodLink own index y).before args s = true) (hinst : (Cond.instanceMethod y).before args s = true) (hsel : (Cond.selects C y y).before args s = true)
    (hcode : (Cond.codeWith y bytes maxL ret hh).before args s = true) (hy : y.cls ≠ "java/lang/invoke/MethodHandle" ∧ y.cls ≠ "java/lang/invoke/VarHandle")
    {W9 : Nat} {Pre : Pt → Array Value → Prop} {Post : Pt → Array Value → Option Value → Pt → Prop} (hK : Back l R p e below s args y 3 W9 Pre Post)
    {b : Addr} {cellB : Cell} (hcell : T.heap[b]? = some cellB) (hobj : cellB.vm.isStatics = false) (hcls : s.vm.findClass C = some cellB.cls)
    {g : JFrame} (hg : g.method = m) (hsize : g.locals.size = c.maxLocals) {argsL rest : List Value} (hlen : ∀ sig, parseMethodDescriptor y.desc = some sig → argsL.length = sig.parameters.length)
    (hstack : g.stack = argsL.reverse ++ .ref b :: rest) (hW : 2 * g.monitorRoom + (rest.map fun v => v.category).sum ≤ W9) (hdg : decode c.code g.pc = .ok (.invokevirtual index, 3))
    (hpre : ∀ vm₁, s.WarmedH vm₁ → Pre ⟨T.setVm vm₁, locs, cells, slots⟩ (Value.ref b :: argsL).toArray) :
    ∃ (v : Option Value) (vm₁ : Vm) (B : Pt), s.WarmedH vm₁ ∧ Stand p l e R s m args below meth c B.U B.locs B.cells B.slots ∧ Post ⟨T.setVm vm₁, locs, cells, slots⟩ (Value.ref b :: argsL).toArray v B ∧
      ∀ target, Steps p.tables e below (B.U.setTop { g with pc := g.pc + 3, stack := v.toList ++ rest }) target → Steps p.tables e below (T.setTop g) target := by
  obtain ⟨mk, methM, hnamed, hmethM, hstM, habM⟩ := Cond.instanceMethod_spec hinst
  obtain ⟨m8, methM', cM, hn8, hmethM', -, -, -, -, -, -, hsigM⟩ := Cond.codeWith_spec hcode
  cases Option.some.inj (hn8.symm.trans hnamed)
  cases hmethM.symm.trans hmethM'
  obtain ⟨c2, r2, m2, q1, q2, q3, q4, kP, hkP, hkPi⟩ := Cond.selects_spec hsel
  cases hcls.symm.trans q1
  cases (State.methodFound?_of_named hnamed hy).symm.trans q2
  cases hnamed.symm.trans q3
  have hselP : selectMethod e.platform s.vm cellB.cls mk = .method mk := by rw [Launch.admits_selectMethod X.admits]; exact q4
  obtain ⟨vm₁, X₁, hstep₁⟩ := X.invokevirtual hexec hown hlink hnamed hmethM hstM hkP hkPi hy (a := b) (cell := cellB) hcell
    (fun z h => by rw [h] at hobj; cases hobj) hselP hmethM habM hkP hkPi (g := g) hg (argsL := argsL) (rest := rest) (hlen _ hsigM) hstack hdg
  obtain ⟨v, B, X', hpost, hsteps⟩ := hK m meth c ⟨T.setVm vm₁, locs, cells, slots⟩ { g with stack := rest } (.invokevirtual index) mk (Value.ref b :: argsL).toArray X₁ hg hsize hdg hW (X₁.named hnamed) (hpre vm₁ X₁.warmed)
  exact ⟨v, vm₁, B, X₁.warmed, X', hpost, fun target h => hstep₁ _ fun acts => by rw [doInvoke_state]; exact hsteps.trans h⟩
abbrev vx_CVW (R : Room) (s : State) (args : Array Value) (own C : String) (index : Nat) (y : MethodName) (bytes : ByteArray) (maxL : Nat) (ret : Option FieldType) (hh : List (Nat × Nat × Nat × Nat)) (ws : List Cond) (rm : Room) (mc ms n : Nat) : Prop :=
  (rm.cells = mc ∧ rm.slots = ms ∧ rm.frames + 1 ≤ R.frames ∧ 8 + (maxL + 11) + rm.locals ≤ R.locals ∧ (∀ w ∈ ws, ∀ (a' : Array Value) (U : State), s.WarmedH U.vm → w.before a' U = true) ∧ Cond.codeWith y bytes maxL ret hh ∈ ws) ∧
  (Cond.codeWith y bytes maxL ret hh).before args s = true ∧ (Cond.initialized y.cls).before args s = true ∧ (y.cls ≠ "java/lang/invoke/MethodHandle" ∧ y.cls ≠ "java/lang/invoke/VarHandle") ∧
  (∀ sig, parseMethodDescriptor y.desc = some sig → n = sig.parameters.length) ∧ (Cond.methodLink own index y).before args s = true ∧ (Cond.instanceMethod y).before args s = true ∧ (Cond.selects C y y).before args s = true
theorem vx_cwVW {own C : String} {index maxL mc ms : Nat} {y : MethodName} {bytes : ByteArray} {ret : Option FieldType} {hh : List (Nat × Nat × Nat × Nat)} {Ts ws ws' : List Cond} {rm : Room} (n : Nat) (ht : ∀ w ∈ Ts, w.before args s = true) (hT : GoodIn Ts (wsV own index C y ws)) (hw : ws = Cond.codeWith y bytes maxL ret hh :: ws') (hrc : rm.cells = mc) (hrs : rm.slots = ms)
    (hd : y.cls = C ∧ y.cls ≠ "java/lang/invoke/MethodHandle" ∧ y.cls ≠ "java/lang/invoke/VarHandle" ∧ (parseMethodDescriptor y.desc).map (fun d => d.parameters.length) = some n) (hR : rm.frames + 1 ≤ R.frames ∧ 8 + (maxL + 11) + rm.locals ≤ R.locals) :
    vx_CVW R s args own C index y bytes maxL ret hh ws rm mc ms n := by
  obtain ⟨hC, hd⟩ := hd
  subst hC
  have ok : ∀ w ∈ wsV own index y.cls y ws, w.before args s = true := fun w h => ht w (hT w h).1
  have hG : GoodIn Ts ws := fun w h => hT w (by unfold wsV; exact List.mem_append_right _ h)
  have hc : Cond.codeWith y bytes maxL ret hh ∈ ws := by rw [hw]; exact List.mem_cons_self
  refine ⟨⟨hrc, hrs, hR.1, hR.2, pay_in ht hG, hc⟩, ht _ (hG _ hc).1, ok _ (by simp [wsV]), ⟨hd.1, hd.2.1⟩, fun sig h => ?_, ok _ (by simp [wsV]), ok _ (by simp [wsV]), ok _ (by simp [wsV])⟩
  have h2 := hd.2.2
  rw [h] at h2
  exact (Option.some.inj h2).symm
theorem vx_runVW {y : MethodName} {bytes cc : ByteArray} {maxL nL mc ms n index : Nat} {ret : Option FieldType} {hh : List (Nat × Nat × Nat × Nat)} {ws : List Cond} {rm : Room} {Pc : Array Value → State → Prop} {Qc : Array Value → State → Outcome → State → Prop} {free : Addr → Prop} {Ts : List Cond} {own C : String} {b : Addr} {As rest : List Value} {g : JFrame}
    (S : CallFix p m c cc nL s args Ts own) (hM : Met l y ws rm Pc Qc mc ms free) (cw : vx_CVW R s args own C index y bytes maxL ret hh ws rm mc ms n) (hp : PreV s H C b Pc As)
    (hg : g.method = m) (hn : As.length = n) (hsize : g.locals.size = nL) (hstack : g.stack = As.reverse ++ .ref b :: rest) (hW : 2 * g.monitorRoom + (rest.map fun v => v.category).sum ≤ 8) (hdg : decode cc g.pc = .ok (.invokevirtual index, 3)) (hf : cells + mc ≤ R.cells ∧ slots + ms ≤ R.slots) :
    va_Run p l e R s m args below meth c H locs cells slots mc ms g rest (Qc (Value.ref b :: As).toArray) free := by
  obtain ⟨⟨hrc, hrs, hfr, hlo, hws, hcw⟩, hcode, hini, hy, hlen, hl, hin, hse⟩ := cw
  have hK : Back l R p e below s args y 3 8 (PreOf R mc ms Pc) (PostOf Qc mc ms free) := va_backW (hh := hh) (bytes := bytes) (maxL := maxL) (ret := ret) hM hp.1 hrc hrs hfr hlo hws hcw (fun a' U hW => word_at hW (Or.inl (by first | rfl | simp [Cond.onTables, Cond.keeps, Cond.steady])) hini)
  obtain ⟨hx, hb, hml, ho, -⟩ := S
  obtain ⟨-, ⟨cellB, hcB, hoB, hclB⟩, hPc⟩ := hp
  intro T hT X
  obtain ⟨v, vm₁, ⟨U', l2, c2, s2⟩, hW₁, X', ⟨g', mk, t, L, e1, e2, hq, h1, hL, h2, h3⟩, st⟩ := vx_callVW X hx (C := C) (hh := hh) (bytes := bytes) (maxL := maxL) (ret := ret) ho hl hin hse hcode hy hK (by rw [hT]; exact hcB) hoB hclB hg (hsize.trans hml.symm) (argsL := As) (rest := rest) (fun sig h => hn.trans (hlen sig h)) hstack hW (by rw [hb]; exact hdg)
    (fun vm₁ hW₁ => ⟨hf.1, hf.2, hPc (T.setVm vm₁) hT hW₁⟩)
  dsimp only [Pt.U, Pt.locs, Pt.cells, Pt.slots] at X' e1 e2 h1 h2 h3 st
  subst h1; subst h2; subst h3
  exact ⟨v, (T.setVm vm₁).calling g' mk (Value.ref b :: As).toArray, t, U', L, hT, X', hL, e1, e2, hq, st⟩
section
variable {y : MethodName} {bytes cc : ByteArray} {maxL nL mc ms n index : Nat} {ret : Option FieldType} {ws : List Cond} {rm : Room} {Pc : Array Value → State → Prop} {Qc : Array Value → State → Outcome → State → Prop} {XC : String → State → State → Prop} {free : Addr → Prop} {Ts : List Cond} {own C : String} {b : Addr} {As rest : List Value} {g : JFrame}
theorem vx_runVX {hh : List (Nat × Nat × Nat × Nat)} (S : CallFix p m c cc nL s args Ts own) (hM : vx_Met l y ws rm Pc Qc XC mc ms free) (cw : vx_CVW R s args own C index y bytes maxL ret hh ws rm mc ms n) (hp : PreV s H C b Pc As)
    (hg : g.method = m) (hn : As.length = n) (hsize : g.locals.size = nL) (hstack : g.stack = As.reverse ++ .ref b :: rest) (hW : 2 * g.monitorRoom + (rest.map fun v => v.category).sum ≤ 8) (hdg : decode cc g.pc = .ok (.invokevirtual index, 3)) (hf : cells + mc ≤ R.cells ∧ slots + ms ≤ R.slots) :
    vx_Run p l e R s m args below meth c H locs cells slots mc ms g rest (Qc (Value.ref b :: As).toArray) XC free := by
  obtain ⟨⟨hrc, hrs, hfr, hlo, hws, hcw⟩, hcode, hini, hy, hlen, hl, hin, hse⟩ := cw
  have hK : vx_Back l R p e below s args y 3 8 (PreOf R mc ms Pc) (PostOf Qc mc ms free) (vx_Post XC mc ms free) := vx_backW (hh := hh) (bytes := bytes) (maxL := maxL) (ret := ret) hM hp.1 hrc hrs hfr hlo hws hcw (fun a' U hW => word_at hW (Or.inl (by first | rfl | simp [Cond.onTables, Cond.keeps, Cond.steady])) hini)
  obtain ⟨hx, hb, hml, ho, -⟩ := S
  obtain ⟨-, ⟨cellB, hcB, hoB, hclB⟩, hPc⟩ := hp
  intro T hT X
  rcases vx_callVX X hx (C := C) (hh := hh) (bytes := bytes) (maxL := maxL) (ret := ret) ho hl hin hse hcode hy hK (by rw [hT]; exact hcB) hoB hclB hg (hsize.trans hml.symm) (argsL := As) (rest := rest) (fun sig h => hn.trans (hlen sig h)) hstack hW (by rw [hb]; exact hdg)
    (fun vm₁ hW₁ => ⟨hf.1, hf.2, hPc (T.setVm vm₁) hT hW₁⟩) with ⟨v, vm₁, ⟨U', l2, c2, s2⟩, hW₁, X', ⟨g', mk, t, L, e1, e2, hq, h1, hL, h2, h3⟩, st⟩ | ⟨q, vm₁, ⟨U', l2, c2, s2⟩, hW₁, X', ⟨g', mk, t, L, E, ce, e1, e2, hq, hce, hcv, hcl, h1, hL, h2, h3⟩, st⟩
  · dsimp only [Pt.U, Pt.locs, Pt.cells, Pt.slots] at X' e1 e2 h1 h2 h3 st
    subst h1; subst h2; subst h3
    exact Or.inl ⟨v, (T.setVm vm₁).calling g' mk (Value.ref b :: As).toArray, t, U', L, hT, X', hL, e1, e2, hq, st⟩
  · dsimp only [Pt.U, Pt.locs, Pt.cells, Pt.slots] at X' e1 e2 h1 h2 h3 st hcl
    subst h1; subst h2; subst h3
    exact Or.inr ⟨q, (T.setVm vm₁).calling g' mk (Value.ref b :: As).toArray, t, U', L, E, ce, hT, X', hL, e1, e2, hq, hce, hcv, vx_cls hW₁ hcl, st⟩
theorem vx_runSX {hh : List (Nat × Nat × Nat × Nat)} (S : CallFix p m c cc nL s args Ts own) (hM : vx_Met l y ws rm Pc Qc XC mc ms free) (cw : vx_CSW R s args own index y bytes maxL ret hh ws rm mc ms n) (hp : PreS s H Pc As)
    (hg : g.method = m) (hn : As.length = n) (hsize : g.locals.size = nL) (hstack : g.stack = As.reverse ++ rest) (hW : 2 * g.monitorRoom + (rest.map fun v => v.category).sum ≤ 8) (hdg : decode cc g.pc = .ok (.invokestatic index, 3)) (hf : cells + mc ≤ R.cells ∧ slots + ms ≤ R.slots) :
    vx_Run p l e R s m args below meth c H locs cells slots mc ms g rest (Qc As.toArray) XC free := by
  obtain ⟨⟨hrc, hrs, hfr, hlo, hws, hcw⟩, hcode, hini, hy, hlen, hl, hstt⟩ := cw
  have hK : vx_Back l R p e below s args y 3 8 (PreOf R mc ms Pc) (PostOf Qc mc ms free) (vx_Post XC mc ms free) := vx_backW (hh := hh) (bytes := bytes) (maxL := maxL) (ret := ret) hM hp.1 hrc hrs hfr hlo hws hcw (fun a' U hW => word_at hW (Or.inl (by first | rfl | simp [Cond.onTables, Cond.keeps, Cond.steady])) hini)
  obtain ⟨hx, hb, hml, ho, -⟩ := S
  intro T hT X
  rcases vx_callSX X hx (hh := hh) (bytes := bytes) (maxL := maxL) (ret := ret) ho hl hstt hini hcode hy hK hg (hsize.trans hml.symm) (argsL := As) (rest := rest) (fun sig h => hn.trans (hlen sig h)) hstack hW (by rw [hb]; exact hdg)
    (fun vm₁ hW₁ => ⟨hf.1, hf.2, hp.2 (T.setVm vm₁) hT hW₁⟩) with ⟨v, vm₁, ⟨U', l2, c2, s2⟩, hW₁, X', ⟨g', mk, t, L, e1, e2, hq, h1, hL, h2, h3⟩, st⟩ | ⟨q, vm₁, ⟨U', l2, c2, s2⟩, hW₁, X', ⟨g', mk, t, L, E, ce, e1, e2, hq, hce, hcv, hcl, h1, hL, h2, h3⟩, st⟩
  · dsimp only [Pt.U, Pt.locs, Pt.cells, Pt.slots] at X' e1 e2 h1 h2 h3 st
    subst h1; subst h2; subst h3
    exact Or.inl ⟨v, (T.setVm vm₁).calling g' mk As.toArray, t, U', L, hT, X', hL, e1, e2, hq, st⟩
  · dsimp only [Pt.U, Pt.locs, Pt.cells, Pt.slots] at X' e1 e2 h1 h2 h3 st hcl
    subst h1; subst h2; subst h3
    exact Or.inr ⟨q, (T.setVm vm₁).calling g' mk As.toArray, t, U', L, E, ce, hT, X', hL, e1, e2, hq, hce, hcv, vx_cls hW₁ hcl, st⟩
end
end VXH
theorem vx_ofWH {l : Launch} {y : MethodName} {ws ws' : List Cond} {rm : Room} {Pc : Array Value → State → Prop} {Qc : Array Value → State → Outcome → State → Prop} {XC : String → State → State → Prop} {mc ms : Nat} {free : Addr → Prop} {cc : ByteArray} {maxL : Nat} {ret : Option FieldType} {hh : List (Nat × Nat × Nat × Nat)}
    (hy : plainName y.cls = true) (hw : ws = Cond.codeWith y cc maxL ret hh :: ws')
    (body : ∀ p e s m args below meth c s₁, BodyLoose p l y (headSpec ws rm) cc maxL ret e s m args below meth c s₁ → c.maxLocals = maxL → Pc args s →
      W p l e (headSpec ws rm).room s m args below meth c s.heap [] 0 0 (vx_MQ below Qc XC args s mc ms free) (entryFrame m args maxL)) : vx_Met l y ws rm Pc Qc XC mc ms free := by
  refine MetFree.of_bodyS (code := cc) (maxLocals := maxL) (ret := ret) hy ?_ ?_
  · intro args s m h hn
    obtain ⟨m9, meth, c, hn9, h1, h2, h3, h4, -, h5, h6, -⟩ := Cond.codeWith_spec (atoms_spec (ws := ws) h _ (by rw [hw]; exact List.mem_cons_self))
    cases hn.symm.trans hn9
    exact ⟨meth, c, h1, h2, h3, h4, h5, h6⟩
  · intro p e s m args below meth c s₁ B hml hP _
    have hh0 : s₁.heap = s.heap := by rw [B.state]; rfl
    obtain ⟨t, a1, o, b1, b2, b3⟩ := body p e s m args below meth c s₁ B hml hP s₁ hh0 (Stand.of_body B)
    exact ⟨t, o, a1, b1, b2, b3⟩
/-! ===== END ===== -/
end
section
def RX0 : String := "KerfFractions$Divider"
def TX0 : u_T := fun k => match k with
  | 0 => ("KerfFractions$Divider", "quotient", "LKerfFractions$Whole;", true)
  | 1 => ("KerfFractions$Divider", "rest", "LKerfFractions$Whole;", true)
  | _ => ("KerfFractions$Divider", "divisor", "LKerfFractions$Whole;", true)
def tyX0 : Nat → FieldType := fun k => match k with
  | 0 => .object "KerfFractions$Whole"
  | 1 => .object "KerfFractions$Whole"
  | _ => .object "KerfFractions$Whole"
abbrev wsX00 : List Cond := u_ws RX0 TX0 3
theorem nmX0 : ∀ a, a < 3 → ∀ b, b < 3 → a ≠ b → (TX0 a).2.1 ≠ (TX0 b).2.1 := by decide +kernel
theorem tyX0_ok : ∀ k, k < 3 → parseFieldDescriptor (TX0 k).2.2.1 = some (tyX0 k) := by decide +kernel
abbrev cX0_init : ByteArray := prog_2_method_1_code
def yX0_init : MethodName := ⟨RX0, "<init>", "()V"⟩
abbrev cX0_divide : ByteArray := prog_2_method_2_code
def yX0_divide : MethodName := ⟨RX0, "divide", "(LKerfFractions$Whole;LKerfFractions$Whole;)V"⟩
abbrev cX0_takeOut : ByteArray := prog_2_method_3_code
def yX0_takeOut : MethodName := ⟨RX0, "takeOut", "(I)J"⟩
abbrev cX0_isTooOften : ByteArray := prog_2_method_4_code
def yX0_isTooOften : MethodName := ⟨RX0, "isTooOften", "(JJI)Z"⟩
abbrev cX0_changeRest : ByteArray := prog_2_method_5_code
def yX0_changeRest : MethodName := ⟨RX0, "changeRest", "(IJ)J"⟩
def RX1 : String := "KerfFractions$Fraction"
def TX1 : u_T := fun k => match k with
  | 0 => ("KerfFractions$Fraction", "side", "I", true)
  | 1 => ("KerfFractions$Fraction", "top", "LKerfFractions$Whole;", true)
  | _ => ("KerfFractions$Fraction", "bottom", "LKerfFractions$Whole;", true)
def tyX1 : Nat → FieldType := fun k => match k with
  | 0 => .int
  | 1 => .object "KerfFractions$Whole"
  | _ => .object "KerfFractions$Whole"
abbrev wsX10 : List Cond := u_ws RX1 TX1 3
theorem nmX1 : ∀ a, a < 3 → ∀ b, b < 3 → a ≠ b → (TX1 a).2.1 ≠ (TX1 b).2.1 := by decide +kernel
theorem tyX1_ok : ∀ k, k < 3 → parseFieldDescriptor (TX1 k).2.2.1 = some (tyX1 k) := by decide +kernel
abbrev cX1_init : ByteArray := prog_3_method_1_code
def yX1_init : MethodName := ⟨RX1, "<init>", "(ILKerfFractions$Whole;LKerfFractions$Whole;)V"⟩
def RX2 : String := "KerfFractions$Measure"
def TX2 : u_T := fun k => match k with
  | 0 => ("KerfFractions$Measure", "divider", "LKerfFractions$Divider;", true)
  | 1 => ("KerfFractions$Measure", "x", "LKerfFractions$Whole;", true)
  | 2 => ("KerfFractions$Measure", "y", "LKerfFractions$Whole;", true)
  | 3 => ("KerfFractions$Measure", "oldXInX", "J", false)
  | 4 => ("KerfFractions$Measure", "oldYInX", "J", false)
  | 5 => ("KerfFractions$Measure", "oldXInY", "J", false)
  | _ => ("KerfFractions$Measure", "oldYInY", "J", false)
def tyX2 : Nat → FieldType := fun k => match k with
  | 0 => .object "KerfFractions$Divider"
  | 1 => .object "KerfFractions$Whole"
  | 2 => .object "KerfFractions$Whole"
  | 3 => .long
  | 4 => .long
  | 5 => .long
  | _ => .long
abbrev wsX20 : List Cond := u_ws RX2 TX2 7
theorem nmX2 : ∀ a, a < 7 → ∀ b, b < 7 → a ≠ b → (TX2 a).2.1 ≠ (TX2 b).2.1 := by decide +kernel
theorem tyX2_ok : ∀ k, k < 7 → parseFieldDescriptor (TX2 k).2.2.1 = some (tyX2 k) := by decide +kernel
abbrev cX2_init : ByteArray := prog_4_method_1_code
def yX2_init : MethodName := ⟨RX2, "<init>", "()V"⟩
abbrev cX2_commonDivisor : ByteArray := prog_4_method_2_code
def yX2_commonDivisor : MethodName := ⟨RX2, "commonDivisor", "(LKerfFractions$Whole;LKerfFractions$Whole;)LKerfFractions$Whole;"⟩
abbrev cX2_finishInLongs : ByteArray := prog_4_method_3_code
def yX2_finishInLongs : MethodName := ⟨RX2, "finishInLongs", "()V"⟩
abbrev cX2_foreseeSteps : ByteArray := prog_4_method_4_code
def yX2_foreseeSteps : MethodName := ⟨RX2, "foreseeSteps", "()Z"⟩
abbrev cX2_mix : ByteArray := prog_4_method_5_code
def yX2_mix : MethodName := ⟨RX2, "mix", "()V"⟩
def RX3 : String := "KerfFractions$Whole"
def TX3 : u_T := fun k => match k with
  | 0 => ("KerfFractions$Whole", "limbs", "[J", true)
  | _ => ("KerfFractions$Whole", "size", "I", false)
def tyX3 : Nat → FieldType := fun k => match k with
  | 0 => .array .long
  | _ => .int
abbrev wsX30 : List Cond := u_ws RX3 TX3 2
theorem nmX3 : ∀ a, a < 2 → ∀ b, b < 2 → a ≠ b → (TX3 a).2.1 ≠ (TX3 b).2.1 := by decide +kernel
theorem tyX3_ok : ∀ k, k < 2 → parseFieldDescriptor (TX3 k).2.2.1 = some (tyX3 k) := by decide +kernel
abbrev cX3_init : ByteArray := prog_5_method_1_code
def yX3_init : MethodName := ⟨RX3, "<init>", "(I)V"⟩
abbrev cX3_copyOf : ByteArray := prog_5_method_2_code
def yX3_copyOf : MethodName := ⟨RX3, "copyOf", "(LKerfFractions$Whole;)LKerfFractions$Whole;"⟩
abbrev cX3_limb : ByteArray := prog_5_method_3_code
def yX3_limb : MethodName := ⟨RX3, "limb", "(I)J"⟩
abbrev cX3_setLimb : ByteArray := prog_5_method_4_code
def yX3_setLimb : MethodName := ⟨RX3, "setLimb", "(IJ)V"⟩
abbrev cX3_settle : ByteArray := prog_5_method_5_code
def yX3_settle : MethodName := ⟨RX3, "settle", "(I)V"⟩
abbrev cX3_isZero : ByteArray := prog_5_method_6_code
def yX3_isZero : MethodName := ⟨RX3, "isZero", "()Z"⟩
abbrev cX3_isOdd : ByteArray := prog_5_method_7_code
def yX3_isOdd : MethodName := ⟨RX3, "isOdd", "()Z"⟩
abbrev cX3_width : ByteArray := prog_5_method_8_code
def yX3_width : MethodName := ⟨RX3, "width", "()I"⟩
abbrev cX3_window : ByteArray := prog_5_method_9_code
def yX3_window : MethodName := ⟨RX3, "window", "(I)J"⟩
abbrev cX3_compareWith : ByteArray := prog_5_method_10_code
def yX3_compareWith : MethodName := ⟨RX3, "compareWith", "(LKerfFractions$Whole;)I"⟩
abbrev cX3_become : ByteArray := prog_5_method_11_code
def yX3_become : MethodName := ⟨RX3, "become", "(LKerfFractions$Whole;)V"⟩
abbrev cX3_setMagnitude : ByteArray := prog_5_method_12_code
def yX3_setMagnitude : MethodName := ⟨RX3, "setMagnitude", "(J)V"⟩
abbrev cX3_setSum : ByteArray := prog_5_method_13_code
def yX3_setSum : MethodName := ⟨RX3, "setSum", "(LKerfFractions$Whole;LKerfFractions$Whole;)V"⟩
abbrev cX3_setDifference : ByteArray := prog_5_method_14_code
def yX3_setDifference : MethodName := ⟨RX3, "setDifference", "(LKerfFractions$Whole;LKerfFractions$Whole;)V"⟩
abbrev cX3_setProduct : ByteArray := prog_5_method_15_code
def yX3_setProduct : MethodName := ⟨RX3, "setProduct", "(LKerfFractions$Whole;LKerfFractions$Whole;)V"⟩
abbrev cX3_setShifted : ByteArray := prog_5_method_16_code
def yX3_setShifted : MethodName := ⟨RX3, "setShifted", "(LKerfFractions$Whole;I)V"⟩
abbrev cX3_lower : ByteArray := prog_5_method_17_code
def yX3_lower : MethodName := ⟨RX3, "lower", "(I)V"⟩
abbrev cX3_takeQuotient : ByteArray := prog_5_method_18_code
def yX3_takeQuotient : MethodName := ⟨RX3, "takeQuotient", "(J)J"⟩
def RX4 : String := "KerfFractions"
def TX4 : u_T := fun k => match k with
  | 0 => ("KerfFractions", "values", "[LKerfFractions$Fraction;", true)
  | 1 => ("KerfFractions", "valuesPut", "I", false)
  | 2 => ("KerfFractions", "ends", "[I", true)
  | 3 => ("KerfFractions", "rootsUsed", "I", false)
  | 4 => ("KerfFractions", "weights", "[J", true)
  | 5 => ("KerfFractions", "weightsTold", "I", false)
  | 6 => ("KerfFractions", "newTop", "LKerfFractions$Whole;", true)
  | 7 => ("KerfFractions", "newBottom", "LKerfFractions$Whole;", true)
  | 8 => ("KerfFractions", "left", "LKerfFractions$Whole;", true)
  | 9 => ("KerfFractions", "right", "LKerfFractions$Whole;", true)
  | 10 => ("KerfFractions", "one", "LKerfFractions$Whole;", true)
  | 11 => ("KerfFractions", "digits", "[I", true)
  | 12 => ("KerfFractions", "divider", "LKerfFractions$Divider;", true)
  | _ => ("KerfFractions", "measure", "LKerfFractions$Measure;", true)
def tyX4 : Nat → FieldType := fun k => match k with
  | 0 => .array (.object "KerfFractions$Fraction")
  | 1 => .int
  | 2 => .array .int
  | 3 => .int
  | 4 => .array .long
  | 5 => .int
  | 6 => .object "KerfFractions$Whole"
  | 7 => .object "KerfFractions$Whole"
  | 8 => .object "KerfFractions$Whole"
  | 9 => .object "KerfFractions$Whole"
  | 10 => .object "KerfFractions$Whole"
  | 11 => .array .int
  | 12 => .object "KerfFractions$Divider"
  | _ => .object "KerfFractions$Measure"
abbrev wsX40 : List Cond := u_ws RX4 TX4 14
theorem nmX4 : ∀ a, a < 14 → ∀ b, b < 14 → a ≠ b → (TX4 a).2.1 ≠ (TX4 b).2.1 := by decide +kernel
theorem tyX4_ok : ∀ k, k < 14 → parseFieldDescriptor (TX4 k).2.2.1 = some (tyX4 k) := by decide +kernel
abbrev cX4_init : ByteArray := prog_1_method_1_code
def yX4_init : MethodName := ⟨RX4, "<init>", "()V"⟩
abbrev cX4_value : ByteArray := prog_1_method_2_code
def yX4_value : MethodName := ⟨RX4, "value", "(JJ)I"⟩
abbrev cX4_add : ByteArray := prog_1_method_3_code
def yX4_add : MethodName := ⟨RX4, "add", "(II)I"⟩
abbrev cX4_times : ByteArray := prog_1_method_4_code
def yX4_times : MethodName := ⟨RX4, "times", "(II)I"⟩
abbrev cX4_over : ByteArray := prog_1_method_5_code
def yX4_over : MethodName := ⟨RX4, "over", "(II)I"⟩
abbrev cX4_order : ByteArray := prog_1_method_6_code
def yX4_order : MethodName := ⟨RX4, "order", "(II)I"⟩
abbrev cX4_root : ByteArray := prog_1_method_7_code
def yX4_root : MethodName := ⟨RX4, "root", "(II)I"⟩
abbrev cX4_end : ByteArray := prog_1_method_8_code
def yX4_end : MethodName := ⟨RX4, "end", "(II)I"⟩
abbrev cX4_round : ByteArray := prog_1_method_9_code
def yX4_round : MethodName := ⟨RX4, "round", "(IIJ)I"⟩
abbrev cX4_turn : ByteArray := prog_1_method_10_code
def yX4_turn : MethodName := ⟨RX4, "turn", "(III)I"⟩
abbrev cX4_weight : ByteArray := prog_1_method_11_code
def yX4_weight : MethodName := ⟨RX4, "weight", "(J)Z"⟩
abbrev cX4_clearWeights : ByteArray := prog_1_method_12_code
def yX4_clearWeights : MethodName := ⟨RX4, "clearWeights", "()V"⟩
abbrev cX4_share : ByteArray := prog_1_method_13_code
def yX4_share : MethodName := ⟨RX4, "share", "(JI)J"⟩
abbrev cX4_digit : ByteArray := prog_1_method_14_code
def yX4_digit : MethodName := ⟨RX4, "digit", "(III)I"⟩
abbrev cX4_bits : ByteArray := prog_1_method_15_code
def yX4_bits : MethodName := ⟨RX4, "bits", "(I)I"⟩
abbrev cX4_sign : ByteArray := prog_1_method_16_code
def yX4_sign : MethodName := ⟨RX4, "sign", "(I)I"⟩
abbrev cX4_fractionAt : ByteArray := prog_1_method_17_code
def yX4_fractionAt : MethodName := ⟨RX4, "fractionAt", "(I)LKerfFractions$Fraction;"⟩
abbrev cX4_unitLength : ByteArray := prog_1_method_18_code
def yX4_unitLength : MethodName := ⟨RX4, "unitLength", "(I)J"⟩
abbrev cX4_putNew : ByteArray := prog_1_method_19_code
def yX4_putNew : MethodName := ⟨RX4, "putNew", "(I)I"⟩
abbrev cX4_setNewToLeftOverPower : ByteArray := prog_1_method_20_code
def yX4_setNewToLeftOverPower : MethodName := ⟨RX4, "setNewToLeftOverPower", "(I)V"⟩
abbrev cX4_setEnd : ByteArray := prog_1_method_21_code
def yX4_setEnd : MethodName := ⟨RX4, "setEnd", "(III)V"⟩
abbrev cX4_leaveRootInLeft : ByteArray := prog_1_method_22_code
def yX4_leaveRootInLeft : MethodName := ⟨RX4, "leaveRootInLeft", "(LKerfFractions$Fraction;I)Z"⟩
abbrev cX4_leaveFloorOfRootOfRightInLeft : ByteArray := prog_1_method_23_code
def yX4_leaveFloorOfRootOfRightInLeft : MethodName := ⟨RX4, "leaveFloorOfRootOfRightInLeft", "()V"⟩
abbrev cX4_growsWhenRounded : ByteArray := prog_1_method_24_code
def yX4_growsWhenRounded : MethodName := ⟨RX4, "growsWhenRounded", "(II)Z"⟩
abbrev cX4_sumOfWeights : ByteArray := prog_1_method_25_code
def yX4_sumOfWeights : MethodName := ⟨RX4, "sumOfWeights", "()J"⟩
abbrev cX4_leftOver : ByteArray := prog_1_method_26_code
def yX4_leftOver : MethodName := ⟨RX4, "leftOver", "(JJ)J"⟩
abbrev cX4_countServedBefore : ByteArray := prog_1_method_27_code
def yX4_countServedBefore : MethodName := ⟨RX4, "countServedBefore", "(JJI)I"⟩
abbrev cX4_writeDigitsOfLeft : ByteArray := prog_1_method_28_code
def yX4_writeDigitsOfLeft : MethodName := ⟨RX4, "writeDigitsOfLeft", "()I"⟩
abbrev cX4_digitFromLowest : ByteArray := prog_1_method_29_code
def yX4_digitFromLowest : MethodName := ⟨RX4, "digitFromLowest", "(I)I"⟩
abbrev cX4_setDigitFromLowest : ByteArray := prog_1_method_30_code
def yX4_setDigitFromLowest : MethodName := ⟨RX4, "setDigitFromLowest", "(II)V"⟩
def RX5 : String := "KerfFractionsModel"
def TX5 : u_T := fun k => match k with
  | 0 => ("KerfFractionsModel", "thrown", "I", false)
  | 1 => ("KerfFractionsModel", "wide", "I", false)
  | 2 => ("KerfFractionsModel", "r", "[I", true)
  | 3 => ("KerfFractionsModel", "used", "I", false)
  | 4 => ("KerfFractionsModel", "signs", "[I", true)
  | 5 => ("KerfFractionsModel", "aboves", "[I", true)
  | 6 => ("KerfFractionsModel", "belows", "[I", true)
  | 7 => ("KerfFractionsModel", "roots", "I", false)
  | 8 => ("KerfFractionsModel", "ends", "[I", true)
  | 9 => ("KerfFractionsModel", "told", "I", false)
  | _ => ("KerfFractionsModel", "weights", "[J", true)
def tyX5 : Nat → FieldType := fun k => match k with
  | 0 => .int
  | 1 => .int
  | 2 => .array .int
  | 3 => .int
  | 4 => .array .int
  | 5 => .array .int
  | 6 => .array .int
  | 7 => .int
  | 8 => .array .int
  | 9 => .int
  | _ => .array .long
abbrev wsX50 : List Cond := u_ws RX5 TX5 11
theorem nmX5 : ∀ a, a < 11 → ∀ b, b < 11 → a ≠ b → (TX5 a).2.1 ≠ (TX5 b).2.1 := by decide +kernel
theorem tyX5_ok : ∀ k, k < 11 → parseFieldDescriptor (TX5 k).2.2.1 = some (tyX5 k) := by decide +kernel
abbrev cX5_init : ByteArray := prog_7_method_1_code
def yX5_init : MethodName := ⟨RX5, "<init>", "()V"⟩
abbrev cX5_thrown : ByteArray := prog_7_method_2_code
def yX5_thrown : MethodName := ⟨RX5, "thrown", "()I"⟩
abbrev cX5_set : ByteArray := prog_7_method_3_code
def yX5_set : MethodName := ⟨RX5, "set", "(IJ)V"⟩
abbrev cX5_copy : ByteArray := prog_7_method_4_code
def yX5_copy : MethodName := ⟨RX5, "copy", "(II)V"⟩
abbrev cX5_compare : ByteArray := prog_7_method_5_code
def yX5_compare : MethodName := ⟨RX5, "compare", "(II)I"⟩
abbrev cX5_isZero : ByteArray := prog_7_method_6_code
def yX5_isZero : MethodName := ⟨RX5, "isZero", "(I)Z"⟩
abbrev cX5_size : ByteArray := prog_7_method_7_code
def yX5_size : MethodName := ⟨RX5, "size", "(I)I"⟩
abbrev cX5_plus : ByteArray := prog_7_method_8_code
def yX5_plus : MethodName := ⟨RX5, "plus", "(II)V"⟩
abbrev cX5_minus : ByteArray := prog_7_method_9_code
def yX5_minus : MethodName := ⟨RX5, "minus", "(II)V"⟩
abbrev cX5_product : ByteArray := prog_7_method_10_code
def yX5_product : MethodName := ⟨RX5, "product", "(III)V"⟩
abbrev cX5_twice : ByteArray := prog_7_method_11_code
def yX5_twice : MethodName := ⟨RX5, "twice", "(I)V"⟩
abbrev cX5_half : ByteArray := prog_7_method_12_code
def yX5_half : MethodName := ⟨RX5, "half", "(I)V"⟩
abbrev cX5_isEven : ByteArray := prog_7_method_13_code
def yX5_isEven : MethodName := ⟨RX5, "isEven", "(I)Z"⟩
abbrev cX5_divide : ByteArray := prog_7_method_14_code
def yX5_divide : MethodName := ⟨RX5, "divide", "(IIII)V"⟩
abbrev cX5_divisor : ByteArray := prog_7_method_15_code
def yX5_divisor : MethodName := ⟨RX5, "divisor", "(II)V"⟩
abbrev cX5_rootOf : ByteArray := prog_7_method_16_code
def yX5_rootOf : MethodName := ⟨RX5, "rootOf", "(II)V"⟩
abbrev cX5_bit : ByteArray := prog_7_method_17_code
def yX5_bit : MethodName := ⟨RX5, "bit", "(II)I"⟩
abbrev cX5_pieces : ByteArray := prog_7_method_18_code
def yX5_pieces : MethodName := ⟨RX5, "pieces", "(I)I"⟩
abbrev cX5_need : ByteArray := prog_7_method_19_code
def yX5_need : MethodName := ⟨RX5, "need", "(III)V"⟩
abbrev cX5_take : ByteArray := prog_7_method_20_code
def yX5_take : MethodName := ⟨RX5, "take", "(III)V"⟩
abbrev cX5_make : ByteArray := prog_7_method_21_code
def yX5_make : MethodName := ⟨RX5, "make", "(III)I"⟩
abbrev cX5_noValue : ByteArray := prog_7_method_22_code
def yX5_noValue : MethodName := ⟨RX5, "noValue", "(I)Z"⟩
abbrev cX5_value : ByteArray := prog_7_method_23_code
def yX5_value : MethodName := ⟨RX5, "value", "(JJ)I"⟩
abbrev cX5_add : ByteArray := prog_7_method_24_code
def yX5_add : MethodName := ⟨RX5, "add", "(II)I"⟩
abbrev cX5_times : ByteArray := prog_7_method_25_code
def yX5_times : MethodName := ⟨RX5, "times", "(II)I"⟩
abbrev cX5_over : ByteArray := prog_7_method_26_code
def yX5_over : MethodName := ⟨RX5, "over", "(II)I"⟩
abbrev cX5_order : ByteArray := prog_7_method_27_code
def yX5_order : MethodName := ⟨RX5, "order", "(II)I"⟩
abbrev cX5_root : ByteArray := prog_7_method_28_code
def yX5_root : MethodName := ⟨RX5, "root", "(II)I"⟩
abbrev cX5_end : ByteArray := prog_7_method_29_code
def yX5_end : MethodName := ⟨RX5, "end", "(II)I"⟩
abbrev cX5_round : ByteArray := prog_7_method_30_code
def yX5_round : MethodName := ⟨RX5, "round", "(IIJ)I"⟩
abbrev cX5_length : ByteArray := prog_7_method_31_code
def yX5_length : MethodName := ⟨RX5, "length", "(I)J"⟩
abbrev cX5_turn : ByteArray := prog_7_method_32_code
def yX5_turn : MethodName := ⟨RX5, "turn", "(III)I"⟩
abbrev cX5_weight : ByteArray := prog_7_method_33_code
def yX5_weight : MethodName := ⟨RX5, "weight", "(J)Z"⟩
abbrev cX5_clearWeights : ByteArray := prog_7_method_34_code
def yX5_clearWeights : MethodName := ⟨RX5, "clearWeights", "()V"⟩
abbrev cX5_share : ByteArray := prog_7_method_35_code
def yX5_share : MethodName := ⟨RX5, "share", "(JI)J"⟩
abbrev cX5_digit : ByteArray := prog_7_method_36_code
def yX5_digit : MethodName := ⟨RX5, "digit", "(III)I"⟩
abbrev cX5_bits : ByteArray := prog_7_method_37_code
def yX5_bits : MethodName := ⟨RX5, "bits", "(I)I"⟩
abbrev cX5_sign : ByteArray := prog_7_method_38_code
def yX5_sign : MethodName := ⟨RX5, "sign", "(I)I"⟩
def RJx00060 : String := "java/lang/ArrayIndexOutOfBoundsException"
def TJx00060 : u_T := fun k => match k with
  | 0 => ("java/lang/Throwable", "backtrace", "Ljava/lang/Object;", false)
  | 1 => ("java/lang/Throwable", "detailMessage", "Ljava/lang/String;", false)
  | 2 => ("java/lang/Throwable", "cause", "Ljava/lang/Throwable;", false)
  | 3 => ("java/lang/Throwable", "stackTrace", "[Ljava/lang/StackTraceElement;", false)
  | 4 => ("java/lang/Throwable", "depth", "I", false)
  | _ => ("java/lang/Throwable", "suppressedExceptions", "Ljava/util/List;", false)
def tyJx00060 : Nat → FieldType := fun k => match k with
  | 0 => .object "java/lang/Object"
  | 1 => .object "java/lang/String"
  | 2 => .object "java/lang/Throwable"
  | 3 => .array (.object "java/lang/StackTraceElement")
  | 4 => .int
  | _ => .object "java/util/List"
abbrev wsJx000600 : List Cond := u_ws RJx00060 TJx00060 6
theorem nmJx00060 : ∀ a, a < 6 → ∀ b, b < 6 → a ≠ b → (TJx00060 a).2.1 ≠ (TJx00060 b).2.1 := by decide +kernel
theorem tyJx00060_ok : ∀ k, k < 6 → parseFieldDescriptor (TJx00060 k).2.2.1 = some (tyJx00060 k) := by decide +kernel
abbrev cJx00060_init_a7421 : ByteArray := prog_9_method_2_code
def yJx00060_init_a7421 : MethodName := ⟨RJx00060, "<init>", "(Ljava/lang/String;)V"⟩
def RJ6 : String := "java/lang/Integer"
def TJ6 : u_T := fun k => match k with
  | _ => ("", "", "", false)
def tyJ6 : Nat → FieldType := fun k => match k with
  | _ => .int
abbrev wsJ60 : List Cond := u_ws RJ6 TJ6 0
theorem nmJ6 : ∀ a, a < 0 → ∀ b, b < 0 → a ≠ b → (TJ6 a).2.1 ≠ (TJ6 b).2.1 := by decide +kernel
theorem tyJ6_ok : ∀ k, k < 0 → parseFieldDescriptor (TJ6 k).2.2.1 = some (tyJ6 k) := by decide +kernel
abbrev cJ6_numberOfLeadingZeros_0f7a4 : ByteArray := prog_13_method_47_code
def yJ6_numberOfLeadingZeros_0f7a4 : MethodName := ⟨RJ6, "numberOfLeadingZeros", "(I)I"⟩
def RJ13 : String := "java/lang/Long"
def TJ13 : u_T := fun k => match k with
  | _ => ("", "", "", false)
def tyJ13 : Nat → FieldType := fun k => match k with
  | _ => .int
abbrev wsJ130 : List Cond := u_ws RJ13 TJ13 0
theorem nmJ13 : ∀ a, a < 0 → ∀ b, b < 0 → a ≠ b → (TJ13 a).2.1 ≠ (TJ13 b).2.1 := by decide +kernel
theorem tyJ13_ok : ∀ k, k < 0 → parseFieldDescriptor (TJ13 k).2.2.1 = some (tyJ13 k) := by decide +kernel
abbrev cJ13_numberOfLeadingZeros_95d88 : ByteArray := prog_14_method_48_code
def yJ13_numberOfLeadingZeros_95d88 : MethodName := ⟨RJ13, "numberOfLeadingZeros", "(J)I"⟩
def RJ9 : String := "java/lang/Math"
def TJ9 : u_T := fun k => match k with
  | _ => ("", "", "", false)
def tyJ9 : Nat → FieldType := fun k => match k with
  | _ => .int
abbrev wsJ90 : List Cond := u_ws RJ9 TJ9 0
theorem nmJ9 : ∀ a, a < 0 → ∀ b, b < 0 → a ≠ b → (TJ9 a).2.1 ≠ (TJ9 b).2.1 := by decide +kernel
theorem tyJ9_ok : ∀ k, k < 0 → parseFieldDescriptor (TJ9 k).2.2.1 = some (tyJ9 k) := by decide +kernel
abbrev cJ9_abs_067f4 : ByteArray := prog_15_method_61_code
def yJ9_abs_067f4 : MethodName := ⟨RJ9, "abs", "(J)J"⟩
abbrev cJ9_max_7cf53 : ByteArray := prog_15_method_65_code
def yJ9_max_7cf53 : MethodName := ⟨RJ9, "max", "(II)I"⟩
abbrev cJ9_max_f86c9 : ByteArray := prog_15_method_66_code
def yJ9_max_f86c9 : MethodName := ⟨RJ9, "max", "(JJ)J"⟩
abbrev cJ9_min_7cf53 : ByteArray := prog_15_method_69_code
def yJ9_min_7cf53 : MethodName := ⟨RJ9, "min", "(II)I"⟩
def RJ0 : String := "java/lang/String"
def TJ0 : u_T := fun k => match k with
  | 0 => ("java/lang/String", "value", "[B", true)
  | _ => ("java/lang/String", "coder", "B", true)
def tyJ0 : Nat → FieldType := fun k => match k with
  | 0 => .array .byte
  | _ => .byte
abbrev wsJ00 : List Cond := u_ws RJ0 TJ0 2
theorem nmJ0 : ∀ a, a < 2 → ∀ b, b < 2 → a ≠ b → (TJ0 a).2.1 ≠ (TJ0 b).2.1 := by decide +kernel
theorem tyJ0_ok : ∀ k, k < 2 → parseFieldDescriptor (TJ0 k).2.2.1 = some (tyJ0 k) := by decide +kernel
def RL : String := "KerfFractionsLaw"
abbrev cL_value : ByteArray := method_3_code
def yL_value : MethodName := ⟨RL, "value", "(LKerfFractions;JJ[J)I"⟩
abbrev cL_add : ByteArray := method_4_code
def yL_add : MethodName := ⟨RL, "add", "(LKerfFractions;II[J)I"⟩
abbrev cL_times : ByteArray := method_5_code
def yL_times : MethodName := ⟨RL, "times", "(LKerfFractions;II[J)I"⟩
abbrev cL_over : ByteArray := method_6_code
def yL_over : MethodName := ⟨RL, "over", "(LKerfFractions;II[J)I"⟩
abbrev cL_order : ByteArray := method_7_code
def yL_order : MethodName := ⟨RL, "order", "(LKerfFractions;II[J)I"⟩
abbrev cL_root : ByteArray := method_8_code
def yL_root : MethodName := ⟨RL, "root", "(LKerfFractions;II[J)I"⟩
abbrev cL_end : ByteArray := method_9_code
def yL_end : MethodName := ⟨RL, "end", "(LKerfFractions;II[J)I"⟩
abbrev cL_round : ByteArray := method_10_code
def yL_round : MethodName := ⟨RL, "round", "(LKerfFractions;IIJ[J)I"⟩
abbrev cL_turn : ByteArray := method_11_code
def yL_turn : MethodName := ⟨RL, "turn", "(LKerfFractions;III[J)I"⟩
abbrev cL_share : ByteArray := method_12_code
def yL_share : MethodName := ⟨RL, "share", "(LKerfFractions;JI[J)I"⟩
abbrev cL_digit : ByteArray := method_13_code
def yL_digit : MethodName := ⟨RL, "digit", "(LKerfFractions;III[J)I"⟩
abbrev cL_bits : ByteArray := method_14_code
def yL_bits : MethodName := ⟨RL, "bits", "(LKerfFractions;I[J)I"⟩
abbrev cL_sign : ByteArray := method_15_code
def yL_sign : MethodName := ⟨RL, "sign", "(LKerfFractions;I[J)I"⟩
abbrev cL_law : ByteArray := code
def yL_law : MethodName := ⟨RL, "law", "([I)Z"⟩
end
section
theorem dJx00060_init_a7421_0 : decode cJx00060_init_a7421 0 = .ok (.aload_n 0, 1) := by decide +kernel
theorem dJx00060_init_a7421_1 : decode cJx00060_init_a7421 1 = .ok (.aload_n 1, 1) := by decide +kernel
theorem dJx00060_init_a7421_2 : decode cJx00060_init_a7421 2 = .ok (.invokespecial 7, 3) := by decide +kernel
theorem dJx00060_init_a7421_5 : decode cJx00060_init_a7421 5 = .ok (.return_, 1) := by decide +kernel
theorem dJ6_numberOfLeadingZeros_0f7a4_0 : decode cJ6_numberOfLeadingZeros_0f7a4 0 = .ok (.iload_n 0, 1) := by decide +kernel
theorem dJ6_numberOfLeadingZeros_0f7a4_1 : decode cJ6_numberOfLeadingZeros_0f7a4 1 = .ok (.ifCond .gt 14, 3) := by decide +kernel
theorem dJ6_numberOfLeadingZeros_0f7a4_4 : decode cJ6_numberOfLeadingZeros_0f7a4 4 = .ok (.iload_n 0, 1) := by decide +kernel
theorem dJ6_numberOfLeadingZeros_0f7a4_5 : decode cJ6_numberOfLeadingZeros_0f7a4 5 = .ok (.ifCond .ne 8, 3) := by decide +kernel
theorem dJ6_numberOfLeadingZeros_0f7a4_8 : decode cJ6_numberOfLeadingZeros_0f7a4 8 = .ok (.bipush 32, 2) := by decide +kernel
theorem dJ6_numberOfLeadingZeros_0f7a4_10 : decode cJ6_numberOfLeadingZeros_0f7a4 10 = .ok (.goto 4, 3) := by decide +kernel
theorem dJ6_numberOfLeadingZeros_0f7a4_13 : decode cJ6_numberOfLeadingZeros_0f7a4 13 = .ok (.iconst 0, 1) := by decide +kernel
theorem dJ6_numberOfLeadingZeros_0f7a4_14 : decode cJ6_numberOfLeadingZeros_0f7a4 14 = .ok (.ireturn, 1) := by decide +kernel
theorem dJ6_numberOfLeadingZeros_0f7a4_15 : decode cJ6_numberOfLeadingZeros_0f7a4 15 = .ok (.bipush 31, 2) := by decide +kernel
theorem dJ6_numberOfLeadingZeros_0f7a4_17 : decode cJ6_numberOfLeadingZeros_0f7a4 17 = .ok (.istore_n 1, 1) := by decide +kernel
theorem dJ6_numberOfLeadingZeros_0f7a4_18 : decode cJ6_numberOfLeadingZeros_0f7a4 18 = .ok (.iload_n 0, 1) := by decide +kernel
theorem dJ6_numberOfLeadingZeros_0f7a4_19 : decode cJ6_numberOfLeadingZeros_0f7a4 19 = .ok (.ldc_w 264, 3) := by decide +kernel
theorem dJ6_numberOfLeadingZeros_0f7a4_22 : decode cJ6_numberOfLeadingZeros_0f7a4 22 = .ok (.if_icmp .lt 11, 3) := by decide +kernel
theorem dJ6_numberOfLeadingZeros_0f7a4_25 : decode cJ6_numberOfLeadingZeros_0f7a4 25 = .ok (.iinc 1 (-16), 3) := by decide +kernel
theorem dJ6_numberOfLeadingZeros_0f7a4_28 : decode cJ6_numberOfLeadingZeros_0f7a4 28 = .ok (.iload_n 0, 1) := by decide +kernel
theorem dJ6_numberOfLeadingZeros_0f7a4_29 : decode cJ6_numberOfLeadingZeros_0f7a4 29 = .ok (.bipush 16, 2) := by decide +kernel
theorem dJ6_numberOfLeadingZeros_0f7a4_31 : decode cJ6_numberOfLeadingZeros_0f7a4 31 = .ok (.iushr, 1) := by decide +kernel
theorem dJ6_numberOfLeadingZeros_0f7a4_32 : decode cJ6_numberOfLeadingZeros_0f7a4 32 = .ok (.istore_n 0, 1) := by decide +kernel
theorem dJ6_numberOfLeadingZeros_0f7a4_33 : decode cJ6_numberOfLeadingZeros_0f7a4 33 = .ok (.iload_n 0, 1) := by decide +kernel
theorem dJ6_numberOfLeadingZeros_0f7a4_34 : decode cJ6_numberOfLeadingZeros_0f7a4 34 = .ok (.sipush 256, 3) := by decide +kernel
theorem dJ6_numberOfLeadingZeros_0f7a4_37 : decode cJ6_numberOfLeadingZeros_0f7a4 37 = .ok (.if_icmp .lt 11, 3) := by decide +kernel
theorem dJ6_numberOfLeadingZeros_0f7a4_40 : decode cJ6_numberOfLeadingZeros_0f7a4 40 = .ok (.iinc 1 (-8), 3) := by decide +kernel
theorem dJ6_numberOfLeadingZeros_0f7a4_43 : decode cJ6_numberOfLeadingZeros_0f7a4 43 = .ok (.iload_n 0, 1) := by decide +kernel
theorem dJ6_numberOfLeadingZeros_0f7a4_44 : decode cJ6_numberOfLeadingZeros_0f7a4 44 = .ok (.bipush 8, 2) := by decide +kernel
theorem dJ6_numberOfLeadingZeros_0f7a4_46 : decode cJ6_numberOfLeadingZeros_0f7a4 46 = .ok (.iushr, 1) := by decide +kernel
theorem dJ6_numberOfLeadingZeros_0f7a4_47 : decode cJ6_numberOfLeadingZeros_0f7a4 47 = .ok (.istore_n 0, 1) := by decide +kernel
theorem dJ6_numberOfLeadingZeros_0f7a4_48 : decode cJ6_numberOfLeadingZeros_0f7a4 48 = .ok (.iload_n 0, 1) := by decide +kernel
theorem dJ6_numberOfLeadingZeros_0f7a4_49 : decode cJ6_numberOfLeadingZeros_0f7a4 49 = .ok (.bipush 16, 2) := by decide +kernel
theorem dJ6_numberOfLeadingZeros_0f7a4_51 : decode cJ6_numberOfLeadingZeros_0f7a4 51 = .ok (.if_icmp .lt 10, 3) := by decide +kernel
theorem dJ6_numberOfLeadingZeros_0f7a4_54 : decode cJ6_numberOfLeadingZeros_0f7a4 54 = .ok (.iinc 1 (-4), 3) := by decide +kernel
theorem dJ6_numberOfLeadingZeros_0f7a4_57 : decode cJ6_numberOfLeadingZeros_0f7a4 57 = .ok (.iload_n 0, 1) := by decide +kernel
theorem dJ6_numberOfLeadingZeros_0f7a4_58 : decode cJ6_numberOfLeadingZeros_0f7a4 58 = .ok (.iconst 4, 1) := by decide +kernel
theorem dJ6_numberOfLeadingZeros_0f7a4_59 : decode cJ6_numberOfLeadingZeros_0f7a4 59 = .ok (.iushr, 1) := by decide +kernel
theorem dJ6_numberOfLeadingZeros_0f7a4_60 : decode cJ6_numberOfLeadingZeros_0f7a4 60 = .ok (.istore_n 0, 1) := by decide +kernel
theorem dJ6_numberOfLeadingZeros_0f7a4_61 : decode cJ6_numberOfLeadingZeros_0f7a4 61 = .ok (.iload_n 0, 1) := by decide +kernel
theorem dJ6_numberOfLeadingZeros_0f7a4_62 : decode cJ6_numberOfLeadingZeros_0f7a4 62 = .ok (.iconst 4, 1) := by decide +kernel
theorem dJ6_numberOfLeadingZeros_0f7a4_63 : decode cJ6_numberOfLeadingZeros_0f7a4 63 = .ok (.if_icmp .lt 10, 3) := by decide +kernel
theorem dJ6_numberOfLeadingZeros_0f7a4_66 : decode cJ6_numberOfLeadingZeros_0f7a4 66 = .ok (.iinc 1 (-2), 3) := by decide +kernel
theorem dJ6_numberOfLeadingZeros_0f7a4_69 : decode cJ6_numberOfLeadingZeros_0f7a4 69 = .ok (.iload_n 0, 1) := by decide +kernel
theorem dJ6_numberOfLeadingZeros_0f7a4_70 : decode cJ6_numberOfLeadingZeros_0f7a4 70 = .ok (.iconst 2, 1) := by decide +kernel
theorem dJ6_numberOfLeadingZeros_0f7a4_71 : decode cJ6_numberOfLeadingZeros_0f7a4 71 = .ok (.iushr, 1) := by decide +kernel
theorem dJ6_numberOfLeadingZeros_0f7a4_72 : decode cJ6_numberOfLeadingZeros_0f7a4 72 = .ok (.istore_n 0, 1) := by decide +kernel
theorem dJ6_numberOfLeadingZeros_0f7a4_73 : decode cJ6_numberOfLeadingZeros_0f7a4 73 = .ok (.iload_n 1, 1) := by decide +kernel
theorem dJ6_numberOfLeadingZeros_0f7a4_74 : decode cJ6_numberOfLeadingZeros_0f7a4 74 = .ok (.iload_n 0, 1) := by decide +kernel
theorem dJ6_numberOfLeadingZeros_0f7a4_75 : decode cJ6_numberOfLeadingZeros_0f7a4 75 = .ok (.iconst 1, 1) := by decide +kernel
theorem dJ6_numberOfLeadingZeros_0f7a4_76 : decode cJ6_numberOfLeadingZeros_0f7a4 76 = .ok (.iushr, 1) := by decide +kernel
theorem dJ6_numberOfLeadingZeros_0f7a4_77 : decode cJ6_numberOfLeadingZeros_0f7a4 77 = .ok (.isub, 1) := by decide +kernel
theorem dJ6_numberOfLeadingZeros_0f7a4_78 : decode cJ6_numberOfLeadingZeros_0f7a4 78 = .ok (.ireturn, 1) := by decide +kernel
theorem dJ13_numberOfLeadingZeros_95d88_0 : decode cJ13_numberOfLeadingZeros_95d88 0 = .ok (.lload_n 0, 1) := by decide +kernel
theorem dJ13_numberOfLeadingZeros_95d88_1 : decode cJ13_numberOfLeadingZeros_95d88 1 = .ok (.bipush 32, 2) := by decide +kernel
theorem dJ13_numberOfLeadingZeros_95d88_3 : decode cJ13_numberOfLeadingZeros_95d88 3 = .ok (.lushr, 1) := by decide +kernel
theorem dJ13_numberOfLeadingZeros_95d88_4 : decode cJ13_numberOfLeadingZeros_95d88 4 = .ok (.l2i, 1) := by decide +kernel
theorem dJ13_numberOfLeadingZeros_95d88_5 : decode cJ13_numberOfLeadingZeros_95d88 5 = .ok (.istore_n 2, 1) := by decide +kernel
theorem dJ13_numberOfLeadingZeros_95d88_6 : decode cJ13_numberOfLeadingZeros_95d88 6 = .ok (.iload_n 2, 1) := by decide +kernel
theorem dJ13_numberOfLeadingZeros_95d88_7 : decode cJ13_numberOfLeadingZeros_95d88 7 = .ok (.ifCond .ne 14, 3) := by decide +kernel
theorem dJ13_numberOfLeadingZeros_95d88_10 : decode cJ13_numberOfLeadingZeros_95d88 10 = .ok (.bipush 32, 2) := by decide +kernel
theorem dJ13_numberOfLeadingZeros_95d88_12 : decode cJ13_numberOfLeadingZeros_95d88 12 = .ok (.lload_n 0, 1) := by decide +kernel
theorem dJ13_numberOfLeadingZeros_95d88_13 : decode cJ13_numberOfLeadingZeros_95d88 13 = .ok (.l2i, 1) := by decide +kernel
theorem dJ13_numberOfLeadingZeros_95d88_14 : decode cJ13_numberOfLeadingZeros_95d88 14 = .ok (.invokestatic 308, 3) := by decide +kernel
theorem dJ13_numberOfLeadingZeros_95d88_17 : decode cJ13_numberOfLeadingZeros_95d88 17 = .ok (.iadd, 1) := by decide +kernel
theorem dJ13_numberOfLeadingZeros_95d88_18 : decode cJ13_numberOfLeadingZeros_95d88 18 = .ok (.goto 7, 3) := by decide +kernel
theorem dJ13_numberOfLeadingZeros_95d88_21 : decode cJ13_numberOfLeadingZeros_95d88 21 = .ok (.iload_n 2, 1) := by decide +kernel
theorem dJ13_numberOfLeadingZeros_95d88_22 : decode cJ13_numberOfLeadingZeros_95d88 22 = .ok (.invokestatic 308, 3) := by decide +kernel
theorem dJ13_numberOfLeadingZeros_95d88_25 : decode cJ13_numberOfLeadingZeros_95d88 25 = .ok (.ireturn, 1) := by decide +kernel
theorem dJ9_abs_067f4_0 : decode cJ9_abs_067f4 0 = .ok (.lload_n 0, 1) := by decide +kernel
theorem dJ9_abs_067f4_1 : decode cJ9_abs_067f4 1 = .ok (.lconst 0, 1) := by decide +kernel
theorem dJ9_abs_067f4_2 : decode cJ9_abs_067f4 2 = .ok (.lcmp, 1) := by decide +kernel
theorem dJ9_abs_067f4_3 : decode cJ9_abs_067f4 3 = .ok (.ifCond .ge 8, 3) := by decide +kernel
theorem dJ9_abs_067f4_6 : decode cJ9_abs_067f4 6 = .ok (.lload_n 0, 1) := by decide +kernel
theorem dJ9_abs_067f4_7 : decode cJ9_abs_067f4 7 = .ok (.lneg, 1) := by decide +kernel
theorem dJ9_abs_067f4_8 : decode cJ9_abs_067f4 8 = .ok (.goto 4, 3) := by decide +kernel
theorem dJ9_abs_067f4_11 : decode cJ9_abs_067f4 11 = .ok (.lload_n 0, 1) := by decide +kernel
theorem dJ9_abs_067f4_12 : decode cJ9_abs_067f4 12 = .ok (.lreturn, 1) := by decide +kernel
theorem dJ9_max_7cf53_0 : decode cJ9_max_7cf53 0 = .ok (.iload_n 0, 1) := by decide +kernel
theorem dJ9_max_7cf53_1 : decode cJ9_max_7cf53 1 = .ok (.iload_n 1, 1) := by decide +kernel
theorem dJ9_max_7cf53_2 : decode cJ9_max_7cf53 2 = .ok (.if_icmp .lt 7, 3) := by decide +kernel
theorem dJ9_max_7cf53_5 : decode cJ9_max_7cf53 5 = .ok (.iload_n 0, 1) := by decide +kernel
theorem dJ9_max_7cf53_6 : decode cJ9_max_7cf53 6 = .ok (.goto 4, 3) := by decide +kernel
theorem dJ9_max_7cf53_9 : decode cJ9_max_7cf53 9 = .ok (.iload_n 1, 1) := by decide +kernel
theorem dJ9_max_7cf53_10 : decode cJ9_max_7cf53 10 = .ok (.ireturn, 1) := by decide +kernel
theorem dJ9_max_f86c9_0 : decode cJ9_max_f86c9 0 = .ok (.lload_n 0, 1) := by decide +kernel
theorem dJ9_max_f86c9_1 : decode cJ9_max_f86c9 1 = .ok (.lload_n 2, 1) := by decide +kernel
theorem dJ9_max_f86c9_2 : decode cJ9_max_f86c9 2 = .ok (.lcmp, 1) := by decide +kernel
theorem dJ9_max_f86c9_3 : decode cJ9_max_f86c9 3 = .ok (.ifCond .lt 7, 3) := by decide +kernel
theorem dJ9_max_f86c9_6 : decode cJ9_max_f86c9 6 = .ok (.lload_n 0, 1) := by decide +kernel
theorem dJ9_max_f86c9_7 : decode cJ9_max_f86c9 7 = .ok (.goto 4, 3) := by decide +kernel
theorem dJ9_max_f86c9_10 : decode cJ9_max_f86c9 10 = .ok (.lload_n 2, 1) := by decide +kernel
theorem dJ9_max_f86c9_11 : decode cJ9_max_f86c9 11 = .ok (.lreturn, 1) := by decide +kernel
theorem dJ9_min_7cf53_0 : decode cJ9_min_7cf53 0 = .ok (.iload_n 0, 1) := by decide +kernel
theorem dJ9_min_7cf53_1 : decode cJ9_min_7cf53 1 = .ok (.iload_n 1, 1) := by decide +kernel
theorem dJ9_min_7cf53_2 : decode cJ9_min_7cf53 2 = .ok (.if_icmp .gt 7, 3) := by decide +kernel
theorem dJ9_min_7cf53_5 : decode cJ9_min_7cf53 5 = .ok (.iload_n 0, 1) := by decide +kernel
theorem dJ9_min_7cf53_6 : decode cJ9_min_7cf53 6 = .ok (.goto 4, 3) := by decide +kernel
theorem dJ9_min_7cf53_9 : decode cJ9_min_7cf53 9 = .ok (.iload_n 1, 1) := by decide +kernel
theorem dJ9_min_7cf53_10 : decode cJ9_min_7cf53 10 = .ok (.ireturn, 1) := by decide +kernel
theorem dX3_init_0 : decode cX3_init 0 = .ok (.aload_n 0, 1) := by decide +kernel
theorem dX3_init_1 : decode cX3_init 1 = .ok (.invokespecial 3, 3) := by decide +kernel
theorem dX3_init_4 : decode cX3_init 4 = .ok (.aload_n 0, 1) := by decide +kernel
theorem dX3_init_5 : decode cX3_init 5 = .ok (.iload_n 1, 1) := by decide +kernel
theorem dX3_init_6 : decode cX3_init 6 = .ok (.iconst 0, 1) := by decide +kernel
theorem dX3_init_7 : decode cX3_init 7 = .ok (.invokestatic 9, 3) := by decide +kernel
theorem dX3_init_10 : decode cX3_init 10 = .ok (.newarray .long, 2) := by decide +kernel
theorem dX3_init_12 : decode cX3_init 12 = .ok (.putfield 15, 3) := by decide +kernel
theorem dX3_init_15 : decode cX3_init 15 = .ok (.return_, 1) := by decide +kernel
theorem dX3_copyOf_0 : decode cX3_copyOf 0 = .ok (.new 1, 3) := by decide +kernel
theorem dX3_copyOf_3 : decode cX3_copyOf 3 = .ok (.dup, 1) := by decide +kernel
theorem dX3_copyOf_4 : decode cX3_copyOf 4 = .ok (.aload_n 0, 1) := by decide +kernel
theorem dX3_copyOf_5 : decode cX3_copyOf 5 = .ok (.getfield 19, 3) := by decide +kernel
theorem dX3_copyOf_8 : decode cX3_copyOf 8 = .ok (.invokespecial 23, 3) := by decide +kernel
theorem dX3_copyOf_11 : decode cX3_copyOf 11 = .ok (.astore_n 1, 1) := by decide +kernel
theorem dX3_copyOf_12 : decode cX3_copyOf 12 = .ok (.aload_n 1, 1) := by decide +kernel
theorem dX3_copyOf_13 : decode cX3_copyOf 13 = .ok (.aload_n 0, 1) := by decide +kernel
theorem dX3_copyOf_14 : decode cX3_copyOf 14 = .ok (.invokevirtual 26, 3) := by decide +kernel
theorem dX3_copyOf_17 : decode cX3_copyOf 17 = .ok (.aload_n 1, 1) := by decide +kernel
theorem dX3_copyOf_18 : decode cX3_copyOf 18 = .ok (.areturn, 1) := by decide +kernel
theorem dX3_limb_0 : decode cX3_limb 0 = .ok (.iload_n 1, 1) := by decide +kernel
theorem dX3_limb_1 : decode cX3_limb 1 = .ok (.ifCond .lt 29, 3) := by decide +kernel
theorem dX3_limb_4 : decode cX3_limb 4 = .ok (.iload_n 1, 1) := by decide +kernel
theorem dX3_limb_5 : decode cX3_limb 5 = .ok (.aload_n 0, 1) := by decide +kernel
theorem dX3_limb_6 : decode cX3_limb 6 = .ok (.getfield 19, 3) := by decide +kernel
theorem dX3_limb_9 : decode cX3_limb 9 = .ok (.if_icmp .ge 21, 3) := by decide +kernel
theorem dX3_limb_12 : decode cX3_limb 12 = .ok (.iload_n 1, 1) := by decide +kernel
theorem dX3_limb_13 : decode cX3_limb 13 = .ok (.aload_n 0, 1) := by decide +kernel
theorem dX3_limb_14 : decode cX3_limb 14 = .ok (.getfield 15, 3) := by decide +kernel
theorem dX3_limb_17 : decode cX3_limb 17 = .ok (.arraylength, 1) := by decide +kernel
theorem dX3_limb_18 : decode cX3_limb 18 = .ok (.if_icmp .ge 12, 3) := by decide +kernel
theorem dX3_limb_21 : decode cX3_limb 21 = .ok (.aload_n 0, 1) := by decide +kernel
theorem dX3_limb_22 : decode cX3_limb 22 = .ok (.getfield 15, 3) := by decide +kernel
theorem dX3_limb_25 : decode cX3_limb 25 = .ok (.iload_n 1, 1) := by decide +kernel
theorem dX3_limb_26 : decode cX3_limb 26 = .ok (.laload, 1) := by decide +kernel
theorem dX3_limb_27 : decode cX3_limb 27 = .ok (.goto 4, 3) := by decide +kernel
theorem dX3_limb_30 : decode cX3_limb 30 = .ok (.lconst 0, 1) := by decide +kernel
theorem dX3_limb_31 : decode cX3_limb 31 = .ok (.lreturn, 1) := by decide +kernel
theorem dX3_setLimb_0 : decode cX3_setLimb 0 = .ok (.iload_n 1, 1) := by decide +kernel
theorem dX3_setLimb_1 : decode cX3_setLimb 1 = .ok (.ifCond .lt 19, 3) := by decide +kernel
theorem dX3_setLimb_4 : decode cX3_setLimb 4 = .ok (.iload_n 1, 1) := by decide +kernel
theorem dX3_setLimb_5 : decode cX3_setLimb 5 = .ok (.aload_n 0, 1) := by decide +kernel
theorem dX3_setLimb_6 : decode cX3_setLimb 6 = .ok (.getfield 15, 3) := by decide +kernel
theorem dX3_setLimb_9 : decode cX3_setLimb 9 = .ok (.arraylength, 1) := by decide +kernel
theorem dX3_setLimb_10 : decode cX3_setLimb 10 = .ok (.if_icmp .ge 10, 3) := by decide +kernel
theorem dX3_setLimb_13 : decode cX3_setLimb 13 = .ok (.aload_n 0, 1) := by decide +kernel
theorem dX3_setLimb_14 : decode cX3_setLimb 14 = .ok (.getfield 15, 3) := by decide +kernel
theorem dX3_setLimb_17 : decode cX3_setLimb 17 = .ok (.iload_n 1, 1) := by decide +kernel
theorem dX3_setLimb_18 : decode cX3_setLimb 18 = .ok (.lload_n 2, 1) := by decide +kernel
theorem dX3_setLimb_19 : decode cX3_setLimb 19 = .ok (.lastore, 1) := by decide +kernel
theorem dX3_setLimb_20 : decode cX3_setLimb 20 = .ok (.return_, 1) := by decide +kernel
theorem dX3_settle_0 : decode cX3_settle 0 = .ok (.iload_n 1, 1) := by decide +kernel
theorem dX3_settle_1 : decode cX3_settle 1 = .ok (.aload_n 0, 1) := by decide +kernel
theorem dX3_settle_2 : decode cX3_settle 2 = .ok (.getfield 15, 3) := by decide +kernel
theorem dX3_settle_5 : decode cX3_settle 5 = .ok (.arraylength, 1) := by decide +kernel
theorem dX3_settle_6 : decode cX3_settle 6 = .ok (.invokestatic 30, 3) := by decide +kernel
theorem dX3_settle_9 : decode cX3_settle 9 = .ok (.istore_n 2, 1) := by decide +kernel
theorem dX3_settle_10 : decode cX3_settle 10 = .ok (.iload_n 2, 1) := by decide +kernel
theorem dX3_settle_11 : decode cX3_settle 11 = .ok (.ifCond .le 31, 3) := by decide +kernel
theorem dX3_settle_14 : decode cX3_settle 14 = .ok (.iload_n 2, 1) := by decide +kernel
theorem dX3_settle_15 : decode cX3_settle 15 = .ok (.aload_n 0, 1) := by decide +kernel
theorem dX3_settle_16 : decode cX3_settle 16 = .ok (.getfield 15, 3) := by decide +kernel
theorem dX3_settle_19 : decode cX3_settle 19 = .ok (.arraylength, 1) := by decide +kernel
theorem dX3_settle_20 : decode cX3_settle 20 = .ok (.if_icmp .gt 22, 3) := by decide +kernel
theorem dX3_settle_23 : decode cX3_settle 23 = .ok (.aload_n 0, 1) := by decide +kernel
theorem dX3_settle_24 : decode cX3_settle 24 = .ok (.getfield 15, 3) := by decide +kernel
theorem dX3_settle_27 : decode cX3_settle 27 = .ok (.iload_n 2, 1) := by decide +kernel
theorem dX3_settle_28 : decode cX3_settle 28 = .ok (.iconst 1, 1) := by decide +kernel
theorem dX3_settle_29 : decode cX3_settle 29 = .ok (.isub, 1) := by decide +kernel
theorem dX3_settle_30 : decode cX3_settle 30 = .ok (.laload, 1) := by decide +kernel
theorem dX3_settle_31 : decode cX3_settle 31 = .ok (.lconst 0, 1) := by decide +kernel
theorem dX3_settle_32 : decode cX3_settle 32 = .ok (.lcmp, 1) := by decide +kernel
theorem dX3_settle_33 : decode cX3_settle 33 = .ok (.ifCond .ne 9, 3) := by decide +kernel
theorem dX3_settle_36 : decode cX3_settle 36 = .ok (.iinc 2 (-1), 3) := by decide +kernel
theorem dX3_settle_39 : decode cX3_settle 39 = .ok (.goto (-29), 3) := by decide +kernel
theorem dX3_settle_42 : decode cX3_settle 42 = .ok (.aload_n 0, 1) := by decide +kernel
theorem dX3_settle_43 : decode cX3_settle 43 = .ok (.iload_n 2, 1) := by decide +kernel
theorem dX3_settle_44 : decode cX3_settle 44 = .ok (.iconst 0, 1) := by decide +kernel
theorem dX3_settle_45 : decode cX3_settle 45 = .ok (.invokestatic 9, 3) := by decide +kernel
theorem dX3_settle_48 : decode cX3_settle 48 = .ok (.putfield 19, 3) := by decide +kernel
theorem dX3_settle_51 : decode cX3_settle 51 = .ok (.return_, 1) := by decide +kernel
theorem dX3_isZero_0 : decode cX3_isZero 0 = .ok (.aload_n 0, 1) := by decide +kernel
theorem dX3_isZero_1 : decode cX3_isZero 1 = .ok (.getfield 19, 3) := by decide +kernel
theorem dX3_isZero_4 : decode cX3_isZero 4 = .ok (.ifCond .ne 7, 3) := by decide +kernel
theorem dX3_isZero_7 : decode cX3_isZero 7 = .ok (.iconst 1, 1) := by decide +kernel
theorem dX3_isZero_8 : decode cX3_isZero 8 = .ok (.goto 4, 3) := by decide +kernel
theorem dX3_isZero_11 : decode cX3_isZero 11 = .ok (.iconst 0, 1) := by decide +kernel
theorem dX3_isZero_12 : decode cX3_isZero 12 = .ok (.ireturn, 1) := by decide +kernel
theorem dX3_isOdd_0 : decode cX3_isOdd 0 = .ok (.aload_n 0, 1) := by decide +kernel
theorem dX3_isOdd_1 : decode cX3_isOdd 1 = .ok (.iconst 0, 1) := by decide +kernel
theorem dX3_isOdd_2 : decode cX3_isOdd 2 = .ok (.invokevirtual 33, 3) := by decide +kernel
theorem dX3_isOdd_5 : decode cX3_isOdd 5 = .ok (.lconst 1, 1) := by decide +kernel
theorem dX3_isOdd_6 : decode cX3_isOdd 6 = .ok (.land, 1) := by decide +kernel
theorem dX3_isOdd_7 : decode cX3_isOdd 7 = .ok (.lconst 0, 1) := by decide +kernel
theorem dX3_isOdd_8 : decode cX3_isOdd 8 = .ok (.lcmp, 1) := by decide +kernel
theorem dX3_isOdd_9 : decode cX3_isOdd 9 = .ok (.ifCond .eq 7, 3) := by decide +kernel
theorem dX3_isOdd_12 : decode cX3_isOdd 12 = .ok (.iconst 1, 1) := by decide +kernel
theorem dX3_isOdd_13 : decode cX3_isOdd 13 = .ok (.goto 4, 3) := by decide +kernel
theorem dX3_isOdd_16 : decode cX3_isOdd 16 = .ok (.iconst 0, 1) := by decide +kernel
theorem dX3_isOdd_17 : decode cX3_isOdd 17 = .ok (.ireturn, 1) := by decide +kernel
theorem dX3_width_0 : decode cX3_width 0 = .ok (.aload_n 0, 1) := by decide +kernel
theorem dX3_width_1 : decode cX3_width 1 = .ok (.getfield 19, 3) := by decide +kernel
theorem dX3_width_4 : decode cX3_width 4 = .ok (.ifCond .ne 7, 3) := by decide +kernel
theorem dX3_width_7 : decode cX3_width 7 = .ok (.iconst 0, 1) := by decide +kernel
theorem dX3_width_8 : decode cX3_width 8 = .ok (.goto 29, 3) := by decide +kernel
theorem dX3_width_11 : decode cX3_width 11 = .ok (.bipush 31, 2) := by decide +kernel
theorem dX3_width_13 : decode cX3_width 13 = .ok (.aload_n 0, 1) := by decide +kernel
theorem dX3_width_14 : decode cX3_width 14 = .ok (.getfield 19, 3) := by decide +kernel
theorem dX3_width_17 : decode cX3_width 17 = .ok (.iconst 1, 1) := by decide +kernel
theorem dX3_width_18 : decode cX3_width 18 = .ok (.isub, 1) := by decide +kernel
theorem dX3_width_19 : decode cX3_width 19 = .ok (.imul, 1) := by decide +kernel
theorem dX3_width_20 : decode cX3_width 20 = .ok (.bipush 64, 2) := by decide +kernel
theorem dX3_width_22 : decode cX3_width 22 = .ok (.iadd, 1) := by decide +kernel
theorem dX3_width_23 : decode cX3_width 23 = .ok (.aload_n 0, 1) := by decide +kernel
theorem dX3_width_24 : decode cX3_width 24 = .ok (.aload_n 0, 1) := by decide +kernel
theorem dX3_width_25 : decode cX3_width 25 = .ok (.getfield 19, 3) := by decide +kernel
theorem dX3_width_28 : decode cX3_width 28 = .ok (.iconst 1, 1) := by decide +kernel
theorem dX3_width_29 : decode cX3_width 29 = .ok (.isub, 1) := by decide +kernel
theorem dX3_width_30 : decode cX3_width 30 = .ok (.invokevirtual 33, 3) := by decide +kernel
theorem dX3_width_33 : decode cX3_width 33 = .ok (.invokestatic 37, 3) := by decide +kernel
theorem dX3_width_36 : decode cX3_width 36 = .ok (.isub, 1) := by decide +kernel
theorem dX3_width_37 : decode cX3_width 37 = .ok (.ireturn, 1) := by decide +kernel
theorem dX3_window_0 : decode cX3_window 0 = .ok (.iload_n 1, 1) := by decide +kernel
theorem dX3_window_1 : decode cX3_window 1 = .ok (.bipush 31, 2) := by decide +kernel
theorem dX3_window_3 : decode cX3_window 3 = .ok (.idiv, 1) := by decide +kernel
theorem dX3_window_4 : decode cX3_window 4 = .ok (.istore_n 2, 1) := by decide +kernel
theorem dX3_window_5 : decode cX3_window 5 = .ok (.iload_n 1, 1) := by decide +kernel
theorem dX3_window_6 : decode cX3_window 6 = .ok (.bipush 31, 2) := by decide +kernel
theorem dX3_window_8 : decode cX3_window 8 = .ok (.irem, 1) := by decide +kernel
theorem dX3_window_9 : decode cX3_window 9 = .ok (.istore_n 3, 1) := by decide +kernel
theorem dX3_window_10 : decode cX3_window 10 = .ok (.aload_n 0, 1) := by decide +kernel
theorem dX3_window_11 : decode cX3_window 11 = .ok (.iload_n 2, 1) := by decide +kernel
theorem dX3_window_12 : decode cX3_window 12 = .ok (.invokevirtual 33, 3) := by decide +kernel
theorem dX3_window_15 : decode cX3_window 15 = .ok (.iload_n 3, 1) := by decide +kernel
theorem dX3_window_16 : decode cX3_window 16 = .ok (.lshr, 1) := by decide +kernel
theorem dX3_window_17 : decode cX3_window 17 = .ok (.aload_n 0, 1) := by decide +kernel
theorem dX3_window_18 : decode cX3_window 18 = .ok (.iload_n 2, 1) := by decide +kernel
theorem dX3_window_19 : decode cX3_window 19 = .ok (.iconst 1, 1) := by decide +kernel
theorem dX3_window_20 : decode cX3_window 20 = .ok (.iadd, 1) := by decide +kernel
theorem dX3_window_21 : decode cX3_window 21 = .ok (.invokevirtual 33, 3) := by decide +kernel
theorem dX3_window_24 : decode cX3_window 24 = .ok (.bipush 31, 2) := by decide +kernel
theorem dX3_window_26 : decode cX3_window 26 = .ok (.iload_n 3, 1) := by decide +kernel
theorem dX3_window_27 : decode cX3_window 27 = .ok (.isub, 1) := by decide +kernel
theorem dX3_window_28 : decode cX3_window 28 = .ok (.lshl, 1) := by decide +kernel
theorem dX3_window_29 : decode cX3_window 29 = .ok (.lor, 1) := by decide +kernel
theorem dX3_window_30 : decode cX3_window 30 = .ok (.aload_n 0, 1) := by decide +kernel
theorem dX3_window_31 : decode cX3_window 31 = .ok (.iload_n 2, 1) := by decide +kernel
theorem dX3_window_32 : decode cX3_window 32 = .ok (.iconst 2, 1) := by decide +kernel
theorem dX3_window_33 : decode cX3_window 33 = .ok (.iadd, 1) := by decide +kernel
theorem dX3_window_34 : decode cX3_window 34 = .ok (.invokevirtual 33, 3) := by decide +kernel
theorem dX3_window_37 : decode cX3_window 37 = .ok (.bipush 62, 2) := by decide +kernel
theorem dX3_window_39 : decode cX3_window 39 = .ok (.iload_n 3, 1) := by decide +kernel
theorem dX3_window_40 : decode cX3_window 40 = .ok (.isub, 1) := by decide +kernel
theorem dX3_window_41 : decode cX3_window 41 = .ok (.lshl, 1) := by decide +kernel
theorem dX3_window_42 : decode cX3_window 42 = .ok (.lor, 1) := by decide +kernel
theorem dX3_window_43 : decode cX3_window 43 = .ok (.lstore 4, 2) := by decide +kernel
theorem dX3_window_45 : decode cX3_window 45 = .ok (.lload 4, 2) := by decide +kernel
theorem dX3_window_47 : decode cX3_window 47 = .ok (.ldc2_w 43, 3) := by decide +kernel
theorem dX3_window_50 : decode cX3_window 50 = .ok (.land, 1) := by decide +kernel
theorem dX3_window_51 : decode cX3_window 51 = .ok (.lreturn, 1) := by decide +kernel
theorem dX3_compareWith_0 : decode cX3_compareWith 0 = .ok (.aload_n 0, 1) := by decide +kernel
theorem dX3_compareWith_1 : decode cX3_compareWith 1 = .ok (.getfield 19, 3) := by decide +kernel
theorem dX3_compareWith_4 : decode cX3_compareWith 4 = .ok (.aload_n 1, 1) := by decide +kernel
theorem dX3_compareWith_5 : decode cX3_compareWith 5 = .ok (.getfield 19, 3) := by decide +kernel
theorem dX3_compareWith_8 : decode cX3_compareWith 8 = .ok (.if_icmp .eq 20, 3) := by decide +kernel
theorem dX3_compareWith_11 : decode cX3_compareWith 11 = .ok (.aload_n 0, 1) := by decide +kernel
theorem dX3_compareWith_12 : decode cX3_compareWith 12 = .ok (.getfield 19, 3) := by decide +kernel
theorem dX3_compareWith_15 : decode cX3_compareWith 15 = .ok (.aload_n 1, 1) := by decide +kernel
theorem dX3_compareWith_16 : decode cX3_compareWith 16 = .ok (.getfield 19, 3) := by decide +kernel
theorem dX3_compareWith_19 : decode cX3_compareWith 19 = .ok (.if_icmp .ge 7, 3) := by decide +kernel
theorem dX3_compareWith_22 : decode cX3_compareWith 22 = .ok (.iconst (-1), 1) := by decide +kernel
theorem dX3_compareWith_23 : decode cX3_compareWith 23 = .ok (.goto 4, 3) := by decide +kernel
theorem dX3_compareWith_26 : decode cX3_compareWith 26 = .ok (.iconst 1, 1) := by decide +kernel
theorem dX3_compareWith_27 : decode cX3_compareWith 27 = .ok (.ireturn, 1) := by decide +kernel
theorem dX3_compareWith_28 : decode cX3_compareWith 28 = .ok (.aload_n 0, 1) := by decide +kernel
theorem dX3_compareWith_29 : decode cX3_compareWith 29 = .ok (.getfield 19, 3) := by decide +kernel
theorem dX3_compareWith_32 : decode cX3_compareWith 32 = .ok (.iconst 1, 1) := by decide +kernel
theorem dX3_compareWith_33 : decode cX3_compareWith 33 = .ok (.isub, 1) := by decide +kernel
theorem dX3_compareWith_34 : decode cX3_compareWith 34 = .ok (.istore_n 2, 1) := by decide +kernel
theorem dX3_compareWith_35 : decode cX3_compareWith 35 = .ok (.iload_n 2, 1) := by decide +kernel
theorem dX3_compareWith_36 : decode cX3_compareWith 36 = .ok (.ifCond .lt 43, 3) := by decide +kernel
theorem dX3_compareWith_39 : decode cX3_compareWith 39 = .ok (.aload_n 0, 1) := by decide +kernel
theorem dX3_compareWith_40 : decode cX3_compareWith 40 = .ok (.iload_n 2, 1) := by decide +kernel
theorem dX3_compareWith_41 : decode cX3_compareWith 41 = .ok (.invokevirtual 33, 3) := by decide +kernel
theorem dX3_compareWith_44 : decode cX3_compareWith 44 = .ok (.aload_n 1, 1) := by decide +kernel
theorem dX3_compareWith_45 : decode cX3_compareWith 45 = .ok (.iload_n 2, 1) := by decide +kernel
theorem dX3_compareWith_46 : decode cX3_compareWith 46 = .ok (.invokevirtual 33, 3) := by decide +kernel
theorem dX3_compareWith_49 : decode cX3_compareWith 49 = .ok (.lcmp, 1) := by decide +kernel
theorem dX3_compareWith_50 : decode cX3_compareWith 50 = .ok (.ifCond .eq 23, 3) := by decide +kernel
theorem dX3_compareWith_53 : decode cX3_compareWith 53 = .ok (.aload_n 0, 1) := by decide +kernel
theorem dX3_compareWith_54 : decode cX3_compareWith 54 = .ok (.iload_n 2, 1) := by decide +kernel
theorem dX3_compareWith_55 : decode cX3_compareWith 55 = .ok (.invokevirtual 33, 3) := by decide +kernel
theorem dX3_compareWith_58 : decode cX3_compareWith 58 = .ok (.aload_n 1, 1) := by decide +kernel
theorem dX3_compareWith_59 : decode cX3_compareWith 59 = .ok (.iload_n 2, 1) := by decide +kernel
theorem dX3_compareWith_60 : decode cX3_compareWith 60 = .ok (.invokevirtual 33, 3) := by decide +kernel
theorem dX3_compareWith_63 : decode cX3_compareWith 63 = .ok (.lcmp, 1) := by decide +kernel
theorem dX3_compareWith_64 : decode cX3_compareWith 64 = .ok (.ifCond .ge 7, 3) := by decide +kernel
theorem dX3_compareWith_67 : decode cX3_compareWith 67 = .ok (.iconst (-1), 1) := by decide +kernel
theorem dX3_compareWith_68 : decode cX3_compareWith 68 = .ok (.goto 4, 3) := by decide +kernel
theorem dX3_compareWith_71 : decode cX3_compareWith 71 = .ok (.iconst 1, 1) := by decide +kernel
theorem dX3_compareWith_72 : decode cX3_compareWith 72 = .ok (.ireturn, 1) := by decide +kernel
theorem dX3_compareWith_73 : decode cX3_compareWith 73 = .ok (.iinc 2 (-1), 3) := by decide +kernel
theorem dX3_compareWith_76 : decode cX3_compareWith 76 = .ok (.goto (-41), 3) := by decide +kernel
theorem dX3_compareWith_79 : decode cX3_compareWith 79 = .ok (.iconst 0, 1) := by decide +kernel
theorem dX3_compareWith_80 : decode cX3_compareWith 80 = .ok (.ireturn, 1) := by decide +kernel
theorem dX3_become_0 : decode cX3_become 0 = .ok (.aload_n 1, 1) := by decide +kernel
theorem dX3_become_1 : decode cX3_become 1 = .ok (.getfield 19, 3) := by decide +kernel
theorem dX3_become_4 : decode cX3_become 4 = .ok (.istore_n 2, 1) := by decide +kernel
theorem dX3_become_5 : decode cX3_become 5 = .ok (.iconst 0, 1) := by decide +kernel
theorem dX3_become_6 : decode cX3_become 6 = .ok (.istore_n 3, 1) := by decide +kernel
theorem dX3_become_7 : decode cX3_become 7 = .ok (.iload_n 3, 1) := by decide +kernel
theorem dX3_become_8 : decode cX3_become 8 = .ok (.iload_n 2, 1) := by decide +kernel
theorem dX3_become_9 : decode cX3_become 9 = .ok (.if_icmp .ge 19, 3) := by decide +kernel
theorem dX3_become_12 : decode cX3_become 12 = .ok (.aload_n 0, 1) := by decide +kernel
theorem dX3_become_13 : decode cX3_become 13 = .ok (.iload_n 3, 1) := by decide +kernel
theorem dX3_become_14 : decode cX3_become 14 = .ok (.aload_n 1, 1) := by decide +kernel
theorem dX3_become_15 : decode cX3_become 15 = .ok (.iload_n 3, 1) := by decide +kernel
theorem dX3_become_16 : decode cX3_become 16 = .ok (.invokevirtual 33, 3) := by decide +kernel
theorem dX3_become_19 : decode cX3_become 19 = .ok (.invokevirtual 45, 3) := by decide +kernel
theorem dX3_become_22 : decode cX3_become 22 = .ok (.iinc 3 1, 3) := by decide +kernel
theorem dX3_become_25 : decode cX3_become 25 = .ok (.goto (-18), 3) := by decide +kernel
theorem dX3_become_28 : decode cX3_become 28 = .ok (.aload_n 0, 1) := by decide +kernel
theorem dX3_become_29 : decode cX3_become 29 = .ok (.iload_n 2, 1) := by decide +kernel
theorem dX3_become_30 : decode cX3_become 30 = .ok (.invokevirtual 49, 3) := by decide +kernel
theorem dX3_become_33 : decode cX3_become 33 = .ok (.return_, 1) := by decide +kernel
theorem dX3_setMagnitude_0 : decode cX3_setMagnitude 0 = .ok (.lload_n 1, 1) := by decide +kernel
theorem dX3_setMagnitude_1 : decode cX3_setMagnitude 1 = .ok (.lconst 0, 1) := by decide +kernel
theorem dX3_setMagnitude_2 : decode cX3_setMagnitude 2 = .ok (.lcmp, 1) := by decide +kernel
theorem dX3_setMagnitude_3 : decode cX3_setMagnitude 3 = .ok (.ifCond .ge 8, 3) := by decide +kernel
theorem dX3_setMagnitude_6 : decode cX3_setMagnitude 6 = .ok (.lload_n 1, 1) := by decide +kernel
theorem dX3_setMagnitude_7 : decode cX3_setMagnitude 7 = .ok (.lneg, 1) := by decide +kernel
theorem dX3_setMagnitude_8 : decode cX3_setMagnitude 8 = .ok (.goto 4, 3) := by decide +kernel
theorem dX3_setMagnitude_11 : decode cX3_setMagnitude 11 = .ok (.lload_n 1, 1) := by decide +kernel
theorem dX3_setMagnitude_12 : decode cX3_setMagnitude 12 = .ok (.lstore_n 3, 1) := by decide +kernel
theorem dX3_setMagnitude_13 : decode cX3_setMagnitude 13 = .ok (.iconst 0, 1) := by decide +kernel
theorem dX3_setMagnitude_14 : decode cX3_setMagnitude 14 = .ok (.istore 5, 2) := by decide +kernel
theorem dX3_setMagnitude_16 : decode cX3_setMagnitude 16 = .ok (.iload 5, 2) := by decide +kernel
theorem dX3_setMagnitude_18 : decode cX3_setMagnitude 18 = .ok (.iconst 3, 1) := by decide +kernel
theorem dX3_setMagnitude_19 : decode cX3_setMagnitude 19 = .ok (.if_icmp .ge 25, 3) := by decide +kernel
theorem dX3_setMagnitude_22 : decode cX3_setMagnitude 22 = .ok (.aload_n 0, 1) := by decide +kernel
theorem dX3_setMagnitude_23 : decode cX3_setMagnitude 23 = .ok (.iload 5, 2) := by decide +kernel
theorem dX3_setMagnitude_25 : decode cX3_setMagnitude 25 = .ok (.lload_n 3, 1) := by decide +kernel
theorem dX3_setMagnitude_26 : decode cX3_setMagnitude 26 = .ok (.ldc2_w 52, 3) := by decide +kernel
theorem dX3_setMagnitude_29 : decode cX3_setMagnitude 29 = .ok (.land, 1) := by decide +kernel
theorem dX3_setMagnitude_30 : decode cX3_setMagnitude 30 = .ok (.invokevirtual 45, 3) := by decide +kernel
theorem dX3_setMagnitude_33 : decode cX3_setMagnitude 33 = .ok (.lload_n 3, 1) := by decide +kernel
theorem dX3_setMagnitude_34 : decode cX3_setMagnitude 34 = .ok (.bipush 31, 2) := by decide +kernel
theorem dX3_setMagnitude_36 : decode cX3_setMagnitude 36 = .ok (.lushr, 1) := by decide +kernel
theorem dX3_setMagnitude_37 : decode cX3_setMagnitude 37 = .ok (.lstore_n 3, 1) := by decide +kernel
theorem dX3_setMagnitude_38 : decode cX3_setMagnitude 38 = .ok (.iinc 5 1, 3) := by decide +kernel
theorem dX3_setMagnitude_41 : decode cX3_setMagnitude 41 = .ok (.goto (-25), 3) := by decide +kernel
theorem dX3_setMagnitude_44 : decode cX3_setMagnitude 44 = .ok (.aload_n 0, 1) := by decide +kernel
theorem dX3_setMagnitude_45 : decode cX3_setMagnitude 45 = .ok (.iconst 3, 1) := by decide +kernel
theorem dX3_setMagnitude_46 : decode cX3_setMagnitude 46 = .ok (.invokevirtual 49, 3) := by decide +kernel
theorem dX3_setMagnitude_49 : decode cX3_setMagnitude 49 = .ok (.return_, 1) := by decide +kernel
theorem dX3_setSum_0 : decode cX3_setSum 0 = .ok (.aload_n 1, 1) := by decide +kernel
theorem dX3_setSum_1 : decode cX3_setSum 1 = .ok (.getfield 19, 3) := by decide +kernel
theorem dX3_setSum_4 : decode cX3_setSum 4 = .ok (.aload_n 2, 1) := by decide +kernel
theorem dX3_setSum_5 : decode cX3_setSum 5 = .ok (.getfield 19, 3) := by decide +kernel
theorem dX3_setSum_8 : decode cX3_setSum 8 = .ok (.invokestatic 9, 3) := by decide +kernel
theorem dX3_setSum_11 : decode cX3_setSum 11 = .ok (.iconst 1, 1) := by decide +kernel
theorem dX3_setSum_12 : decode cX3_setSum 12 = .ok (.iadd, 1) := by decide +kernel
theorem dX3_setSum_13 : decode cX3_setSum 13 = .ok (.istore_n 3, 1) := by decide +kernel
theorem dX3_setSum_14 : decode cX3_setSum 14 = .ok (.lconst 0, 1) := by decide +kernel
theorem dX3_setSum_15 : decode cX3_setSum 15 = .ok (.lstore 4, 2) := by decide +kernel
theorem dX3_setSum_17 : decode cX3_setSum 17 = .ok (.iconst 0, 1) := by decide +kernel
theorem dX3_setSum_18 : decode cX3_setSum 18 = .ok (.istore 6, 2) := by decide +kernel
theorem dX3_setSum_20 : decode cX3_setSum 20 = .ok (.iload 6, 2) := by decide +kernel
theorem dX3_setSum_22 : decode cX3_setSum 22 = .ok (.iload_n 3, 1) := by decide +kernel
theorem dX3_setSum_23 : decode cX3_setSum 23 = .ok (.if_icmp .ge 46, 3) := by decide +kernel
theorem dX3_setSum_26 : decode cX3_setSum 26 = .ok (.lload 4, 2) := by decide +kernel
theorem dX3_setSum_28 : decode cX3_setSum 28 = .ok (.aload_n 1, 1) := by decide +kernel
theorem dX3_setSum_29 : decode cX3_setSum 29 = .ok (.iload 6, 2) := by decide +kernel
theorem dX3_setSum_31 : decode cX3_setSum 31 = .ok (.invokevirtual 33, 3) := by decide +kernel
theorem dX3_setSum_34 : decode cX3_setSum 34 = .ok (.aload_n 2, 1) := by decide +kernel
theorem dX3_setSum_35 : decode cX3_setSum 35 = .ok (.iload 6, 2) := by decide +kernel
theorem dX3_setSum_37 : decode cX3_setSum 37 = .ok (.invokevirtual 33, 3) := by decide +kernel
theorem dX3_setSum_40 : decode cX3_setSum 40 = .ok (.ladd, 1) := by decide +kernel
theorem dX3_setSum_41 : decode cX3_setSum 41 = .ok (.ladd, 1) := by decide +kernel
theorem dX3_setSum_42 : decode cX3_setSum 42 = .ok (.lstore 4, 2) := by decide +kernel
theorem dX3_setSum_44 : decode cX3_setSum 44 = .ok (.aload_n 0, 1) := by decide +kernel
theorem dX3_setSum_45 : decode cX3_setSum 45 = .ok (.iload 6, 2) := by decide +kernel
theorem dX3_setSum_47 : decode cX3_setSum 47 = .ok (.lload 4, 2) := by decide +kernel
theorem dX3_setSum_49 : decode cX3_setSum 49 = .ok (.ldc2_w 52, 3) := by decide +kernel
theorem dX3_setSum_52 : decode cX3_setSum 52 = .ok (.land, 1) := by decide +kernel
theorem dX3_setSum_53 : decode cX3_setSum 53 = .ok (.invokevirtual 45, 3) := by decide +kernel
theorem dX3_setSum_56 : decode cX3_setSum 56 = .ok (.lload 4, 2) := by decide +kernel
theorem dX3_setSum_58 : decode cX3_setSum 58 = .ok (.bipush 31, 2) := by decide +kernel
theorem dX3_setSum_60 : decode cX3_setSum 60 = .ok (.lshr, 1) := by decide +kernel
theorem dX3_setSum_61 : decode cX3_setSum 61 = .ok (.lstore 4, 2) := by decide +kernel
theorem dX3_setSum_63 : decode cX3_setSum 63 = .ok (.iinc 6 1, 3) := by decide +kernel
theorem dX3_setSum_66 : decode cX3_setSum 66 = .ok (.goto (-46), 3) := by decide +kernel
theorem dX3_setSum_69 : decode cX3_setSum 69 = .ok (.aload_n 0, 1) := by decide +kernel
theorem dX3_setSum_70 : decode cX3_setSum 70 = .ok (.iload_n 3, 1) := by decide +kernel
theorem dX3_setSum_71 : decode cX3_setSum 71 = .ok (.invokevirtual 49, 3) := by decide +kernel
theorem dX3_setSum_74 : decode cX3_setSum 74 = .ok (.return_, 1) := by decide +kernel
theorem dX3_setDifference_0 : decode cX3_setDifference 0 = .ok (.aload_n 1, 1) := by decide +kernel
theorem dX3_setDifference_1 : decode cX3_setDifference 1 = .ok (.getfield 19, 3) := by decide +kernel
theorem dX3_setDifference_4 : decode cX3_setDifference 4 = .ok (.istore_n 3, 1) := by decide +kernel
theorem dX3_setDifference_5 : decode cX3_setDifference 5 = .ok (.lconst 0, 1) := by decide +kernel
theorem dX3_setDifference_6 : decode cX3_setDifference 6 = .ok (.lstore 4, 2) := by decide +kernel
theorem dX3_setDifference_8 : decode cX3_setDifference 8 = .ok (.iconst 0, 1) := by decide +kernel
theorem dX3_setDifference_9 : decode cX3_setDifference 9 = .ok (.istore 6, 2) := by decide +kernel
theorem dX3_setDifference_11 : decode cX3_setDifference 11 = .ok (.iload 6, 2) := by decide +kernel
theorem dX3_setDifference_13 : decode cX3_setDifference 13 = .ok (.iload_n 3, 1) := by decide +kernel
theorem dX3_setDifference_14 : decode cX3_setDifference 14 = .ok (.if_icmp .ge 46, 3) := by decide +kernel
theorem dX3_setDifference_17 : decode cX3_setDifference 17 = .ok (.lload 4, 2) := by decide +kernel
theorem dX3_setDifference_19 : decode cX3_setDifference 19 = .ok (.aload_n 1, 1) := by decide +kernel
theorem dX3_setDifference_20 : decode cX3_setDifference 20 = .ok (.iload 6, 2) := by decide +kernel
theorem dX3_setDifference_22 : decode cX3_setDifference 22 = .ok (.invokevirtual 33, 3) := by decide +kernel
theorem dX3_setDifference_25 : decode cX3_setDifference 25 = .ok (.aload_n 2, 1) := by decide +kernel
theorem dX3_setDifference_26 : decode cX3_setDifference 26 = .ok (.iload 6, 2) := by decide +kernel
theorem dX3_setDifference_28 : decode cX3_setDifference 28 = .ok (.invokevirtual 33, 3) := by decide +kernel
theorem dX3_setDifference_31 : decode cX3_setDifference 31 = .ok (.lsub, 1) := by decide +kernel
theorem dX3_setDifference_32 : decode cX3_setDifference 32 = .ok (.ladd, 1) := by decide +kernel
theorem dX3_setDifference_33 : decode cX3_setDifference 33 = .ok (.lstore 4, 2) := by decide +kernel
theorem dX3_setDifference_35 : decode cX3_setDifference 35 = .ok (.aload_n 0, 1) := by decide +kernel
theorem dX3_setDifference_36 : decode cX3_setDifference 36 = .ok (.iload 6, 2) := by decide +kernel
theorem dX3_setDifference_38 : decode cX3_setDifference 38 = .ok (.lload 4, 2) := by decide +kernel
theorem dX3_setDifference_40 : decode cX3_setDifference 40 = .ok (.ldc2_w 52, 3) := by decide +kernel
theorem dX3_setDifference_43 : decode cX3_setDifference 43 = .ok (.land, 1) := by decide +kernel
theorem dX3_setDifference_44 : decode cX3_setDifference 44 = .ok (.invokevirtual 45, 3) := by decide +kernel
theorem dX3_setDifference_47 : decode cX3_setDifference 47 = .ok (.lload 4, 2) := by decide +kernel
theorem dX3_setDifference_49 : decode cX3_setDifference 49 = .ok (.bipush 31, 2) := by decide +kernel
theorem dX3_setDifference_51 : decode cX3_setDifference 51 = .ok (.lshr, 1) := by decide +kernel
theorem dX3_setDifference_52 : decode cX3_setDifference 52 = .ok (.lstore 4, 2) := by decide +kernel
theorem dX3_setDifference_54 : decode cX3_setDifference 54 = .ok (.iinc 6 1, 3) := by decide +kernel
theorem dX3_setDifference_57 : decode cX3_setDifference 57 = .ok (.goto (-46), 3) := by decide +kernel
theorem dX3_setDifference_60 : decode cX3_setDifference 60 = .ok (.aload_n 0, 1) := by decide +kernel
theorem dX3_setDifference_61 : decode cX3_setDifference 61 = .ok (.iload_n 3, 1) := by decide +kernel
theorem dX3_setDifference_62 : decode cX3_setDifference 62 = .ok (.invokevirtual 49, 3) := by decide +kernel
theorem dX3_setDifference_65 : decode cX3_setDifference 65 = .ok (.return_, 1) := by decide +kernel
theorem dX3_setProduct_0 : decode cX3_setProduct 0 = .ok (.aload_n 1, 1) := by decide +kernel
theorem dX3_setProduct_1 : decode cX3_setProduct 1 = .ok (.getfield 19, 3) := by decide +kernel
theorem dX3_setProduct_4 : decode cX3_setProduct 4 = .ok (.aload_n 2, 1) := by decide +kernel
theorem dX3_setProduct_5 : decode cX3_setProduct 5 = .ok (.getfield 19, 3) := by decide +kernel
theorem dX3_setProduct_8 : decode cX3_setProduct 8 = .ok (.iadd, 1) := by decide +kernel
theorem dX3_setProduct_9 : decode cX3_setProduct 9 = .ok (.istore_n 3, 1) := by decide +kernel
theorem dX3_setProduct_10 : decode cX3_setProduct 10 = .ok (.iconst 0, 1) := by decide +kernel
theorem dX3_setProduct_11 : decode cX3_setProduct 11 = .ok (.istore 4, 2) := by decide +kernel
theorem dX3_setProduct_13 : decode cX3_setProduct 13 = .ok (.iload 4, 2) := by decide +kernel
theorem dX3_setProduct_15 : decode cX3_setProduct 15 = .ok (.iload_n 3, 1) := by decide +kernel
theorem dX3_setProduct_16 : decode cX3_setProduct 16 = .ok (.if_icmp .ge 16, 3) := by decide +kernel
theorem dX3_setProduct_19 : decode cX3_setProduct 19 = .ok (.aload_n 0, 1) := by decide +kernel
theorem dX3_setProduct_20 : decode cX3_setProduct 20 = .ok (.iload 4, 2) := by decide +kernel
theorem dX3_setProduct_22 : decode cX3_setProduct 22 = .ok (.lconst 0, 1) := by decide +kernel
theorem dX3_setProduct_23 : decode cX3_setProduct 23 = .ok (.invokevirtual 45, 3) := by decide +kernel
theorem dX3_setProduct_26 : decode cX3_setProduct 26 = .ok (.iinc 4 1, 3) := by decide +kernel
theorem dX3_setProduct_29 : decode cX3_setProduct 29 = .ok (.goto (-16), 3) := by decide +kernel
theorem dX3_setProduct_32 : decode cX3_setProduct 32 = .ok (.aload_n 0, 1) := by decide +kernel
theorem dX3_setProduct_33 : decode cX3_setProduct 33 = .ok (.iload_n 3, 1) := by decide +kernel
theorem dX3_setProduct_34 : decode cX3_setProduct 34 = .ok (.putfield 19, 3) := by decide +kernel
theorem dX3_setProduct_37 : decode cX3_setProduct 37 = .ok (.iconst 0, 1) := by decide +kernel
theorem dX3_setProduct_38 : decode cX3_setProduct 38 = .ok (.istore 4, 2) := by decide +kernel
theorem dX3_setProduct_40 : decode cX3_setProduct 40 = .ok (.iload 4, 2) := by decide +kernel
theorem dX3_setProduct_42 : decode cX3_setProduct 42 = .ok (.aload_n 1, 1) := by decide +kernel
theorem dX3_setProduct_43 : decode cX3_setProduct 43 = .ok (.getfield 19, 3) := by decide +kernel
theorem dX3_setProduct_46 : decode cX3_setProduct 46 = .ok (.if_icmp .ge 97, 3) := by decide +kernel
theorem dX3_setProduct_49 : decode cX3_setProduct 49 = .ok (.aload_n 1, 1) := by decide +kernel
theorem dX3_setProduct_50 : decode cX3_setProduct 50 = .ok (.iload 4, 2) := by decide +kernel
theorem dX3_setProduct_52 : decode cX3_setProduct 52 = .ok (.invokevirtual 33, 3) := by decide +kernel
theorem dX3_setProduct_55 : decode cX3_setProduct 55 = .ok (.lstore 5, 2) := by decide +kernel
theorem dX3_setProduct_57 : decode cX3_setProduct 57 = .ok (.lconst 0, 1) := by decide +kernel
theorem dX3_setProduct_58 : decode cX3_setProduct 58 = .ok (.lstore 7, 2) := by decide +kernel
theorem dX3_setProduct_60 : decode cX3_setProduct 60 = .ok (.iconst 0, 1) := by decide +kernel
theorem dX3_setProduct_61 : decode cX3_setProduct 61 = .ok (.istore 9, 2) := by decide +kernel
theorem dX3_setProduct_63 : decode cX3_setProduct 63 = .ok (.iload 9, 2) := by decide +kernel
theorem dX3_setProduct_65 : decode cX3_setProduct 65 = .ok (.aload_n 2, 1) := by decide +kernel
theorem dX3_setProduct_66 : decode cX3_setProduct 66 = .ok (.getfield 19, 3) := by decide +kernel
theorem dX3_setProduct_69 : decode cX3_setProduct 69 = .ok (.if_icmp .ge 55, 3) := by decide +kernel
theorem dX3_setProduct_72 : decode cX3_setProduct 72 = .ok (.lload 7, 2) := by decide +kernel
theorem dX3_setProduct_74 : decode cX3_setProduct 74 = .ok (.lload 5, 2) := by decide +kernel
theorem dX3_setProduct_76 : decode cX3_setProduct 76 = .ok (.aload_n 2, 1) := by decide +kernel
theorem dX3_setProduct_77 : decode cX3_setProduct 77 = .ok (.iload 9, 2) := by decide +kernel
theorem dX3_setProduct_79 : decode cX3_setProduct 79 = .ok (.invokevirtual 33, 3) := by decide +kernel
theorem dX3_setProduct_82 : decode cX3_setProduct 82 = .ok (.lmul, 1) := by decide +kernel
theorem dX3_setProduct_83 : decode cX3_setProduct 83 = .ok (.aload_n 0, 1) := by decide +kernel
theorem dX3_setProduct_84 : decode cX3_setProduct 84 = .ok (.iload 4, 2) := by decide +kernel
theorem dX3_setProduct_86 : decode cX3_setProduct 86 = .ok (.iload 9, 2) := by decide +kernel
theorem dX3_setProduct_88 : decode cX3_setProduct 88 = .ok (.iadd, 1) := by decide +kernel
theorem dX3_setProduct_89 : decode cX3_setProduct 89 = .ok (.invokevirtual 33, 3) := by decide +kernel
theorem dX3_setProduct_92 : decode cX3_setProduct 92 = .ok (.ladd, 1) := by decide +kernel
theorem dX3_setProduct_93 : decode cX3_setProduct 93 = .ok (.ladd, 1) := by decide +kernel
theorem dX3_setProduct_94 : decode cX3_setProduct 94 = .ok (.lstore 7, 2) := by decide +kernel
theorem dX3_setProduct_96 : decode cX3_setProduct 96 = .ok (.aload_n 0, 1) := by decide +kernel
theorem dX3_setProduct_97 : decode cX3_setProduct 97 = .ok (.iload 4, 2) := by decide +kernel
theorem dX3_setProduct_99 : decode cX3_setProduct 99 = .ok (.iload 9, 2) := by decide +kernel
theorem dX3_setProduct_101 : decode cX3_setProduct 101 = .ok (.iadd, 1) := by decide +kernel
theorem dX3_setProduct_102 : decode cX3_setProduct 102 = .ok (.lload 7, 2) := by decide +kernel
theorem dX3_setProduct_104 : decode cX3_setProduct 104 = .ok (.ldc2_w 52, 3) := by decide +kernel
theorem dX3_setProduct_107 : decode cX3_setProduct 107 = .ok (.land, 1) := by decide +kernel
theorem dX3_setProduct_108 : decode cX3_setProduct 108 = .ok (.invokevirtual 45, 3) := by decide +kernel
theorem dX3_setProduct_111 : decode cX3_setProduct 111 = .ok (.lload 7, 2) := by decide +kernel
theorem dX3_setProduct_113 : decode cX3_setProduct 113 = .ok (.bipush 31, 2) := by decide +kernel
theorem dX3_setProduct_115 : decode cX3_setProduct 115 = .ok (.lshr, 1) := by decide +kernel
theorem dX3_setProduct_116 : decode cX3_setProduct 116 = .ok (.lstore 7, 2) := by decide +kernel
theorem dX3_setProduct_118 : decode cX3_setProduct 118 = .ok (.iinc 9 1, 3) := by decide +kernel
theorem dX3_setProduct_121 : decode cX3_setProduct 121 = .ok (.goto (-58), 3) := by decide +kernel
theorem dX3_setProduct_124 : decode cX3_setProduct 124 = .ok (.aload_n 0, 1) := by decide +kernel
theorem dX3_setProduct_125 : decode cX3_setProduct 125 = .ok (.iload 4, 2) := by decide +kernel
theorem dX3_setProduct_127 : decode cX3_setProduct 127 = .ok (.aload_n 2, 1) := by decide +kernel
theorem dX3_setProduct_128 : decode cX3_setProduct 128 = .ok (.getfield 19, 3) := by decide +kernel
theorem dX3_setProduct_131 : decode cX3_setProduct 131 = .ok (.iadd, 1) := by decide +kernel
theorem dX3_setProduct_132 : decode cX3_setProduct 132 = .ok (.lload 7, 2) := by decide +kernel
theorem dX3_setProduct_134 : decode cX3_setProduct 134 = .ok (.invokevirtual 45, 3) := by decide +kernel
theorem dX3_setProduct_137 : decode cX3_setProduct 137 = .ok (.iinc 4 1, 3) := by decide +kernel
theorem dX3_setProduct_140 : decode cX3_setProduct 140 = .ok (.goto (-100), 3) := by decide +kernel
theorem dX3_setProduct_143 : decode cX3_setProduct 143 = .ok (.aload_n 0, 1) := by decide +kernel
theorem dX3_setProduct_144 : decode cX3_setProduct 144 = .ok (.iload_n 3, 1) := by decide +kernel
theorem dX3_setProduct_145 : decode cX3_setProduct 145 = .ok (.invokevirtual 49, 3) := by decide +kernel
theorem dX3_setProduct_148 : decode cX3_setProduct 148 = .ok (.return_, 1) := by decide +kernel
theorem dX3_setShifted_0 : decode cX3_setShifted 0 = .ok (.iload_n 2, 1) := by decide +kernel
theorem dX3_setShifted_1 : decode cX3_setShifted 1 = .ok (.bipush 31, 2) := by decide +kernel
theorem dX3_setShifted_3 : decode cX3_setShifted 3 = .ok (.idiv, 1) := by decide +kernel
theorem dX3_setShifted_4 : decode cX3_setShifted 4 = .ok (.istore_n 3, 1) := by decide +kernel
theorem dX3_setShifted_5 : decode cX3_setShifted 5 = .ok (.iload_n 2, 1) := by decide +kernel
theorem dX3_setShifted_6 : decode cX3_setShifted 6 = .ok (.bipush 31, 2) := by decide +kernel
theorem dX3_setShifted_8 : decode cX3_setShifted 8 = .ok (.irem, 1) := by decide +kernel
theorem dX3_setShifted_9 : decode cX3_setShifted 9 = .ok (.istore 4, 2) := by decide +kernel
theorem dX3_setShifted_11 : decode cX3_setShifted 11 = .ok (.aload_n 1, 1) := by decide +kernel
theorem dX3_setShifted_12 : decode cX3_setShifted 12 = .ok (.getfield 19, 3) := by decide +kernel
theorem dX3_setShifted_15 : decode cX3_setShifted 15 = .ok (.iload_n 3, 1) := by decide +kernel
theorem dX3_setShifted_16 : decode cX3_setShifted 16 = .ok (.iadd, 1) := by decide +kernel
theorem dX3_setShifted_17 : decode cX3_setShifted 17 = .ok (.iconst 1, 1) := by decide +kernel
theorem dX3_setShifted_18 : decode cX3_setShifted 18 = .ok (.iadd, 1) := by decide +kernel
theorem dX3_setShifted_19 : decode cX3_setShifted 19 = .ok (.istore 5, 2) := by decide +kernel
theorem dX3_setShifted_21 : decode cX3_setShifted 21 = .ok (.iload 5, 2) := by decide +kernel
theorem dX3_setShifted_23 : decode cX3_setShifted 23 = .ok (.iconst 1, 1) := by decide +kernel
theorem dX3_setShifted_24 : decode cX3_setShifted 24 = .ok (.isub, 1) := by decide +kernel
theorem dX3_setShifted_25 : decode cX3_setShifted 25 = .ok (.istore 6, 2) := by decide +kernel
theorem dX3_setShifted_27 : decode cX3_setShifted 27 = .ok (.iload 6, 2) := by decide +kernel
theorem dX3_setShifted_29 : decode cX3_setShifted 29 = .ok (.ifCond .lt 51, 3) := by decide +kernel
theorem dX3_setShifted_32 : decode cX3_setShifted 32 = .ok (.aload_n 1, 1) := by decide +kernel
theorem dX3_setShifted_33 : decode cX3_setShifted 33 = .ok (.iload 6, 2) := by decide +kernel
theorem dX3_setShifted_35 : decode cX3_setShifted 35 = .ok (.iload_n 3, 1) := by decide +kernel
theorem dX3_setShifted_36 : decode cX3_setShifted 36 = .ok (.isub, 1) := by decide +kernel
theorem dX3_setShifted_37 : decode cX3_setShifted 37 = .ok (.invokevirtual 33, 3) := by decide +kernel
theorem dX3_setShifted_40 : decode cX3_setShifted 40 = .ok (.iload 4, 2) := by decide +kernel
theorem dX3_setShifted_42 : decode cX3_setShifted 42 = .ok (.lshl, 1) := by decide +kernel
theorem dX3_setShifted_43 : decode cX3_setShifted 43 = .ok (.aload_n 1, 1) := by decide +kernel
theorem dX3_setShifted_44 : decode cX3_setShifted 44 = .ok (.iload 6, 2) := by decide +kernel
theorem dX3_setShifted_46 : decode cX3_setShifted 46 = .ok (.iload_n 3, 1) := by decide +kernel
theorem dX3_setShifted_47 : decode cX3_setShifted 47 = .ok (.isub, 1) := by decide +kernel
theorem dX3_setShifted_48 : decode cX3_setShifted 48 = .ok (.iconst 1, 1) := by decide +kernel
theorem dX3_setShifted_49 : decode cX3_setShifted 49 = .ok (.isub, 1) := by decide +kernel
theorem dX3_setShifted_50 : decode cX3_setShifted 50 = .ok (.invokevirtual 33, 3) := by decide +kernel
theorem dX3_setShifted_53 : decode cX3_setShifted 53 = .ok (.bipush 31, 2) := by decide +kernel
theorem dX3_setShifted_55 : decode cX3_setShifted 55 = .ok (.iload 4, 2) := by decide +kernel
theorem dX3_setShifted_57 : decode cX3_setShifted 57 = .ok (.isub, 1) := by decide +kernel
theorem dX3_setShifted_58 : decode cX3_setShifted 58 = .ok (.lshr, 1) := by decide +kernel
theorem dX3_setShifted_59 : decode cX3_setShifted 59 = .ok (.lor, 1) := by decide +kernel
theorem dX3_setShifted_60 : decode cX3_setShifted 60 = .ok (.lstore 7, 2) := by decide +kernel
theorem dX3_setShifted_62 : decode cX3_setShifted 62 = .ok (.aload_n 0, 1) := by decide +kernel
theorem dX3_setShifted_63 : decode cX3_setShifted 63 = .ok (.iload 6, 2) := by decide +kernel
theorem dX3_setShifted_65 : decode cX3_setShifted 65 = .ok (.lload 7, 2) := by decide +kernel
theorem dX3_setShifted_67 : decode cX3_setShifted 67 = .ok (.ldc2_w 52, 3) := by decide +kernel
theorem dX3_setShifted_70 : decode cX3_setShifted 70 = .ok (.land, 1) := by decide +kernel
theorem dX3_setShifted_71 : decode cX3_setShifted 71 = .ok (.invokevirtual 45, 3) := by decide +kernel
theorem dX3_setShifted_74 : decode cX3_setShifted 74 = .ok (.iinc 6 (-1), 3) := by decide +kernel
theorem dX3_setShifted_77 : decode cX3_setShifted 77 = .ok (.goto (-50), 3) := by decide +kernel
theorem dX3_setShifted_80 : decode cX3_setShifted 80 = .ok (.aload_n 0, 1) := by decide +kernel
theorem dX3_setShifted_81 : decode cX3_setShifted 81 = .ok (.iload 5, 2) := by decide +kernel
theorem dX3_setShifted_83 : decode cX3_setShifted 83 = .ok (.invokevirtual 49, 3) := by decide +kernel
theorem dX3_setShifted_86 : decode cX3_setShifted 86 = .ok (.return_, 1) := by decide +kernel
theorem dX3_lower_0 : decode cX3_lower 0 = .ok (.iconst 0, 1) := by decide +kernel
theorem dX3_lower_1 : decode cX3_lower 1 = .ok (.istore_n 2, 1) := by decide +kernel
theorem dX3_lower_2 : decode cX3_lower 2 = .ok (.iload_n 2, 1) := by decide +kernel
theorem dX3_lower_3 : decode cX3_lower 3 = .ok (.aload_n 0, 1) := by decide +kernel
theorem dX3_lower_4 : decode cX3_lower 4 = .ok (.getfield 19, 3) := by decide +kernel
theorem dX3_lower_7 : decode cX3_lower 7 = .ok (.if_icmp .ge 40, 3) := by decide +kernel
theorem dX3_lower_10 : decode cX3_lower 10 = .ok (.aload_n 0, 1) := by decide +kernel
theorem dX3_lower_11 : decode cX3_lower 11 = .ok (.iload_n 2, 1) := by decide +kernel
theorem dX3_lower_12 : decode cX3_lower 12 = .ok (.invokevirtual 33, 3) := by decide +kernel
theorem dX3_lower_15 : decode cX3_lower 15 = .ok (.iload_n 1, 1) := by decide +kernel
theorem dX3_lower_16 : decode cX3_lower 16 = .ok (.lshr, 1) := by decide +kernel
theorem dX3_lower_17 : decode cX3_lower 17 = .ok (.aload_n 0, 1) := by decide +kernel
theorem dX3_lower_18 : decode cX3_lower 18 = .ok (.iload_n 2, 1) := by decide +kernel
theorem dX3_lower_19 : decode cX3_lower 19 = .ok (.iconst 1, 1) := by decide +kernel
theorem dX3_lower_20 : decode cX3_lower 20 = .ok (.iadd, 1) := by decide +kernel
theorem dX3_lower_21 : decode cX3_lower 21 = .ok (.invokevirtual 33, 3) := by decide +kernel
theorem dX3_lower_24 : decode cX3_lower 24 = .ok (.bipush 31, 2) := by decide +kernel
theorem dX3_lower_26 : decode cX3_lower 26 = .ok (.iload_n 1, 1) := by decide +kernel
theorem dX3_lower_27 : decode cX3_lower 27 = .ok (.isub, 1) := by decide +kernel
theorem dX3_lower_28 : decode cX3_lower 28 = .ok (.lshl, 1) := by decide +kernel
theorem dX3_lower_29 : decode cX3_lower 29 = .ok (.lor, 1) := by decide +kernel
theorem dX3_lower_30 : decode cX3_lower 30 = .ok (.lstore_n 3, 1) := by decide +kernel
theorem dX3_lower_31 : decode cX3_lower 31 = .ok (.aload_n 0, 1) := by decide +kernel
theorem dX3_lower_32 : decode cX3_lower 32 = .ok (.iload_n 2, 1) := by decide +kernel
theorem dX3_lower_33 : decode cX3_lower 33 = .ok (.lload_n 3, 1) := by decide +kernel
theorem dX3_lower_34 : decode cX3_lower 34 = .ok (.ldc2_w 52, 3) := by decide +kernel
theorem dX3_lower_37 : decode cX3_lower 37 = .ok (.land, 1) := by decide +kernel
theorem dX3_lower_38 : decode cX3_lower 38 = .ok (.invokevirtual 45, 3) := by decide +kernel
theorem dX3_lower_41 : decode cX3_lower 41 = .ok (.iinc 2 1, 3) := by decide +kernel
theorem dX3_lower_44 : decode cX3_lower 44 = .ok (.goto (-42), 3) := by decide +kernel
theorem dX3_lower_47 : decode cX3_lower 47 = .ok (.aload_n 0, 1) := by decide +kernel
theorem dX3_lower_48 : decode cX3_lower 48 = .ok (.aload_n 0, 1) := by decide +kernel
theorem dX3_lower_49 : decode cX3_lower 49 = .ok (.getfield 19, 3) := by decide +kernel
theorem dX3_lower_52 : decode cX3_lower 52 = .ok (.invokevirtual 49, 3) := by decide +kernel
theorem dX3_lower_55 : decode cX3_lower 55 = .ok (.return_, 1) := by decide +kernel
theorem dX3_takeQuotient_0 : decode cX3_takeQuotient 0 = .ok (.lload_n 1, 1) := by decide +kernel
theorem dX3_takeQuotient_1 : decode cX3_takeQuotient 1 = .ok (.lconst 0, 1) := by decide +kernel
theorem dX3_takeQuotient_2 : decode cX3_takeQuotient 2 = .ok (.lcmp, 1) := by decide +kernel
theorem dX3_takeQuotient_3 : decode cX3_takeQuotient 3 = .ok (.ifCond .gt 5, 3) := by decide +kernel
theorem dX3_takeQuotient_6 : decode cX3_takeQuotient 6 = .ok (.lconst 0, 1) := by decide +kernel
theorem dX3_takeQuotient_7 : decode cX3_takeQuotient 7 = .ok (.lreturn, 1) := by decide +kernel
theorem dX3_takeQuotient_8 : decode cX3_takeQuotient 8 = .ok (.lconst 0, 1) := by decide +kernel
theorem dX3_takeQuotient_9 : decode cX3_takeQuotient 9 = .ok (.lstore_n 3, 1) := by decide +kernel
theorem dX3_takeQuotient_10 : decode cX3_takeQuotient 10 = .ok (.aload_n 0, 1) := by decide +kernel
theorem dX3_takeQuotient_11 : decode cX3_takeQuotient 11 = .ok (.getfield 19, 3) := by decide +kernel
theorem dX3_takeQuotient_14 : decode cX3_takeQuotient 14 = .ok (.iconst 1, 1) := by decide +kernel
theorem dX3_takeQuotient_15 : decode cX3_takeQuotient 15 = .ok (.isub, 1) := by decide +kernel
theorem dX3_takeQuotient_16 : decode cX3_takeQuotient 16 = .ok (.istore 5, 2) := by decide +kernel
theorem dX3_takeQuotient_18 : decode cX3_takeQuotient 18 = .ok (.iload 5, 2) := by decide +kernel
theorem dX3_takeQuotient_20 : decode cX3_takeQuotient 20 = .ok (.ifCond .lt 34, 3) := by decide +kernel
theorem dX3_takeQuotient_23 : decode cX3_takeQuotient 23 = .ok (.lload_n 3, 1) := by decide +kernel
theorem dX3_takeQuotient_24 : decode cX3_takeQuotient 24 = .ok (.bipush 31, 2) := by decide +kernel
theorem dX3_takeQuotient_26 : decode cX3_takeQuotient 26 = .ok (.lshl, 1) := by decide +kernel
theorem dX3_takeQuotient_27 : decode cX3_takeQuotient 27 = .ok (.aload_n 0, 1) := by decide +kernel
theorem dX3_takeQuotient_28 : decode cX3_takeQuotient 28 = .ok (.iload 5, 2) := by decide +kernel
theorem dX3_takeQuotient_30 : decode cX3_takeQuotient 30 = .ok (.invokevirtual 33, 3) := by decide +kernel
theorem dX3_takeQuotient_33 : decode cX3_takeQuotient 33 = .ok (.lor, 1) := by decide +kernel
theorem dX3_takeQuotient_34 : decode cX3_takeQuotient 34 = .ok (.lstore_n 3, 1) := by decide +kernel
theorem dX3_takeQuotient_35 : decode cX3_takeQuotient 35 = .ok (.aload_n 0, 1) := by decide +kernel
theorem dX3_takeQuotient_36 : decode cX3_takeQuotient 36 = .ok (.iload 5, 2) := by decide +kernel
theorem dX3_takeQuotient_38 : decode cX3_takeQuotient 38 = .ok (.lload_n 3, 1) := by decide +kernel
theorem dX3_takeQuotient_39 : decode cX3_takeQuotient 39 = .ok (.lload_n 1, 1) := by decide +kernel
theorem dX3_takeQuotient_40 : decode cX3_takeQuotient 40 = .ok (.ldiv, 1) := by decide +kernel
theorem dX3_takeQuotient_41 : decode cX3_takeQuotient 41 = .ok (.invokevirtual 45, 3) := by decide +kernel
theorem dX3_takeQuotient_44 : decode cX3_takeQuotient 44 = .ok (.lload_n 3, 1) := by decide +kernel
theorem dX3_takeQuotient_45 : decode cX3_takeQuotient 45 = .ok (.lload_n 1, 1) := by decide +kernel
theorem dX3_takeQuotient_46 : decode cX3_takeQuotient 46 = .ok (.lrem, 1) := by decide +kernel
theorem dX3_takeQuotient_47 : decode cX3_takeQuotient 47 = .ok (.lstore_n 3, 1) := by decide +kernel
theorem dX3_takeQuotient_48 : decode cX3_takeQuotient 48 = .ok (.iinc 5 (-1), 3) := by decide +kernel
theorem dX3_takeQuotient_51 : decode cX3_takeQuotient 51 = .ok (.goto (-33), 3) := by decide +kernel
theorem dX3_takeQuotient_54 : decode cX3_takeQuotient 54 = .ok (.aload_n 0, 1) := by decide +kernel
theorem dX3_takeQuotient_55 : decode cX3_takeQuotient 55 = .ok (.aload_n 0, 1) := by decide +kernel
theorem dX3_takeQuotient_56 : decode cX3_takeQuotient 56 = .ok (.getfield 19, 3) := by decide +kernel
theorem dX3_takeQuotient_59 : decode cX3_takeQuotient 59 = .ok (.invokevirtual 49, 3) := by decide +kernel
theorem dX3_takeQuotient_62 : decode cX3_takeQuotient 62 = .ok (.lload_n 3, 1) := by decide +kernel
theorem dX3_takeQuotient_63 : decode cX3_takeQuotient 63 = .ok (.lreturn, 1) := by decide +kernel
theorem dX0_init_0 : decode cX0_init 0 = .ok (.aload_n 0, 1) := by decide +kernel
theorem dX0_init_1 : decode cX0_init 1 = .ok (.invokespecial 1, 3) := by decide +kernel
theorem dX0_init_4 : decode cX0_init 4 = .ok (.aload_n 0, 1) := by decide +kernel
theorem dX0_init_5 : decode cX0_init 5 = .ok (.new 7, 3) := by decide +kernel
theorem dX0_init_8 : decode cX0_init 8 = .ok (.dup, 1) := by decide +kernel
theorem dX0_init_9 : decode cX0_init 9 = .ok (.bipush 56, 2) := by decide +kernel
theorem dX0_init_11 : decode cX0_init 11 = .ok (.invokespecial 9, 3) := by decide +kernel
theorem dX0_init_14 : decode cX0_init 14 = .ok (.putfield 12, 3) := by decide +kernel
theorem dX0_init_17 : decode cX0_init 17 = .ok (.aload_n 0, 1) := by decide +kernel
theorem dX0_init_18 : decode cX0_init 18 = .ok (.new 7, 3) := by decide +kernel
theorem dX0_init_21 : decode cX0_init 21 = .ok (.dup, 1) := by decide +kernel
theorem dX0_init_22 : decode cX0_init 22 = .ok (.bipush 56, 2) := by decide +kernel
theorem dX0_init_24 : decode cX0_init 24 = .ok (.invokespecial 9, 3) := by decide +kernel
theorem dX0_init_27 : decode cX0_init 27 = .ok (.putfield 18, 3) := by decide +kernel
theorem dX0_init_30 : decode cX0_init 30 = .ok (.aload_n 0, 1) := by decide +kernel
theorem dX0_init_31 : decode cX0_init 31 = .ok (.new 7, 3) := by decide +kernel
theorem dX0_init_34 : decode cX0_init 34 = .ok (.dup, 1) := by decide +kernel
theorem dX0_init_35 : decode cX0_init 35 = .ok (.bipush 56, 2) := by decide +kernel
theorem dX0_init_37 : decode cX0_init 37 = .ok (.invokespecial 9, 3) := by decide +kernel
theorem dX0_init_40 : decode cX0_init 40 = .ok (.putfield 21, 3) := by decide +kernel
theorem dX0_init_43 : decode cX0_init 43 = .ok (.return_, 1) := by decide +kernel
theorem dX0_divide_0 : decode cX0_divide 0 = .ok (.aload_n 2, 1) := by decide +kernel
theorem dX0_divide_1 : decode cX0_divide 1 = .ok (.getfield 24, 3) := by decide +kernel
theorem dX0_divide_4 : decode cX0_divide 4 = .ok (.iconst 1, 1) := by decide +kernel
theorem dX0_divide_5 : decode cX0_divide 5 = .ok (.if_icmp .ne 31, 3) := by decide +kernel
theorem dX0_divide_8 : decode cX0_divide 8 = .ok (.aload_n 0, 1) := by decide +kernel
theorem dX0_divide_9 : decode cX0_divide 9 = .ok (.getfield 12, 3) := by decide +kernel
theorem dX0_divide_12 : decode cX0_divide 12 = .ok (.aload_n 1, 1) := by decide +kernel
theorem dX0_divide_13 : decode cX0_divide 13 = .ok (.invokevirtual 28, 3) := by decide +kernel
theorem dX0_divide_16 : decode cX0_divide 16 = .ok (.aload_n 0, 1) := by decide +kernel
theorem dX0_divide_17 : decode cX0_divide 17 = .ok (.getfield 18, 3) := by decide +kernel
theorem dX0_divide_20 : decode cX0_divide 20 = .ok (.aload_n 0, 1) := by decide +kernel
theorem dX0_divide_21 : decode cX0_divide 21 = .ok (.getfield 12, 3) := by decide +kernel
theorem dX0_divide_24 : decode cX0_divide 24 = .ok (.aload_n 2, 1) := by decide +kernel
theorem dX0_divide_25 : decode cX0_divide 25 = .ok (.iconst 0, 1) := by decide +kernel
theorem dX0_divide_26 : decode cX0_divide 26 = .ok (.invokevirtual 32, 3) := by decide +kernel
theorem dX0_divide_29 : decode cX0_divide 29 = .ok (.invokevirtual 36, 3) := by decide +kernel
theorem dX0_divide_32 : decode cX0_divide 32 = .ok (.invokevirtual 40, 3) := by decide +kernel
theorem dX0_divide_35 : decode cX0_divide 35 = .ok (.return_, 1) := by decide +kernel
theorem dX0_divide_36 : decode cX0_divide 36 = .ok (.aload_n 2, 1) := by decide +kernel
theorem dX0_divide_37 : decode cX0_divide 37 = .ok (.invokevirtual 44, 3) := by decide +kernel
theorem dX0_divide_40 : decode cX0_divide 40 = .ok (.ifCond .ne 11, 3) := by decide +kernel
theorem dX0_divide_43 : decode cX0_divide 43 = .ok (.aload_n 1, 1) := by decide +kernel
theorem dX0_divide_44 : decode cX0_divide 44 = .ok (.aload_n 2, 1) := by decide +kernel
theorem dX0_divide_45 : decode cX0_divide 45 = .ok (.invokevirtual 48, 3) := by decide +kernel
theorem dX0_divide_48 : decode cX0_divide 48 = .ok (.ifCond .ge 20, 3) := by decide +kernel
theorem dX0_divide_51 : decode cX0_divide 51 = .ok (.aload_n 0, 1) := by decide +kernel
theorem dX0_divide_52 : decode cX0_divide 52 = .ok (.getfield 12, 3) := by decide +kernel
theorem dX0_divide_55 : decode cX0_divide 55 = .ok (.iconst 0, 1) := by decide +kernel
theorem dX0_divide_56 : decode cX0_divide 56 = .ok (.invokevirtual 52, 3) := by decide +kernel
theorem dX0_divide_59 : decode cX0_divide 59 = .ok (.aload_n 0, 1) := by decide +kernel
theorem dX0_divide_60 : decode cX0_divide 60 = .ok (.getfield 18, 3) := by decide +kernel
theorem dX0_divide_63 : decode cX0_divide 63 = .ok (.aload_n 1, 1) := by decide +kernel
theorem dX0_divide_64 : decode cX0_divide 64 = .ok (.invokevirtual 28, 3) := by decide +kernel
theorem dX0_divide_67 : decode cX0_divide 67 = .ok (.return_, 1) := by decide +kernel
theorem dX0_divide_68 : decode cX0_divide 68 = .ok (.bipush 31, 2) := by decide +kernel
theorem dX0_divide_70 : decode cX0_divide 70 = .ok (.aload_n 2, 1) := by decide +kernel
theorem dX0_divide_71 : decode cX0_divide 71 = .ok (.getfield 24, 3) := by decide +kernel
theorem dX0_divide_74 : decode cX0_divide 74 = .ok (.imul, 1) := by decide +kernel
theorem dX0_divide_75 : decode cX0_divide 75 = .ok (.aload_n 2, 1) := by decide +kernel
theorem dX0_divide_76 : decode cX0_divide 76 = .ok (.invokevirtual 55, 3) := by decide +kernel
theorem dX0_divide_79 : decode cX0_divide 79 = .ok (.isub, 1) := by decide +kernel
theorem dX0_divide_80 : decode cX0_divide 80 = .ok (.istore_n 3, 1) := by decide +kernel
theorem dX0_divide_81 : decode cX0_divide 81 = .ok (.aload_n 0, 1) := by decide +kernel
theorem dX0_divide_82 : decode cX0_divide 82 = .ok (.getfield 21, 3) := by decide +kernel
theorem dX0_divide_85 : decode cX0_divide 85 = .ok (.aload_n 2, 1) := by decide +kernel
theorem dX0_divide_86 : decode cX0_divide 86 = .ok (.iload_n 3, 1) := by decide +kernel
theorem dX0_divide_87 : decode cX0_divide 87 = .ok (.invokevirtual 59, 3) := by decide +kernel
theorem dX0_divide_90 : decode cX0_divide 90 = .ok (.aload_n 0, 1) := by decide +kernel
theorem dX0_divide_91 : decode cX0_divide 91 = .ok (.getfield 18, 3) := by decide +kernel
theorem dX0_divide_94 : decode cX0_divide 94 = .ok (.aload_n 1, 1) := by decide +kernel
theorem dX0_divide_95 : decode cX0_divide 95 = .ok (.iload_n 3, 1) := by decide +kernel
theorem dX0_divide_96 : decode cX0_divide 96 = .ok (.invokevirtual 59, 3) := by decide +kernel
theorem dX0_divide_99 : decode cX0_divide 99 = .ok (.aload_n 0, 1) := by decide +kernel
theorem dX0_divide_100 : decode cX0_divide 100 = .ok (.getfield 18, 3) := by decide +kernel
theorem dX0_divide_103 : decode cX0_divide 103 = .ok (.getfield 24, 3) := by decide +kernel
theorem dX0_divide_106 : decode cX0_divide 106 = .ok (.aload_n 0, 1) := by decide +kernel
theorem dX0_divide_107 : decode cX0_divide 107 = .ok (.getfield 21, 3) := by decide +kernel
theorem dX0_divide_110 : decode cX0_divide 110 = .ok (.getfield 24, 3) := by decide +kernel
theorem dX0_divide_113 : decode cX0_divide 113 = .ok (.isub, 1) := by decide +kernel
theorem dX0_divide_114 : decode cX0_divide 114 = .ok (.istore 4, 2) := by decide +kernel
theorem dX0_divide_116 : decode cX0_divide 116 = .ok (.iload 4, 2) := by decide +kernel
theorem dX0_divide_118 : decode cX0_divide 118 = .ok (.istore 5, 2) := by decide +kernel
theorem dX0_divide_120 : decode cX0_divide 120 = .ok (.iload 5, 2) := by decide +kernel
theorem dX0_divide_122 : decode cX0_divide 122 = .ok (.ifCond .lt 24, 3) := by decide +kernel
theorem dX0_divide_125 : decode cX0_divide 125 = .ok (.aload_n 0, 1) := by decide +kernel
theorem dX0_divide_126 : decode cX0_divide 126 = .ok (.getfield 12, 3) := by decide +kernel
theorem dX0_divide_129 : decode cX0_divide 129 = .ok (.iload 5, 2) := by decide +kernel
theorem dX0_divide_131 : decode cX0_divide 131 = .ok (.aload_n 0, 1) := by decide +kernel
theorem dX0_divide_132 : decode cX0_divide 132 = .ok (.iload 5, 2) := by decide +kernel
theorem dX0_divide_134 : decode cX0_divide 134 = .ok (.invokevirtual 63, 3) := by decide +kernel
theorem dX0_divide_137 : decode cX0_divide 137 = .ok (.invokevirtual 66, 3) := by decide +kernel
theorem dX0_divide_140 : decode cX0_divide 140 = .ok (.iinc 5 (-1), 3) := by decide +kernel
theorem dX0_divide_143 : decode cX0_divide 143 = .ok (.goto (-23), 3) := by decide +kernel
theorem dX0_divide_146 : decode cX0_divide 146 = .ok (.aload_n 0, 1) := by decide +kernel
theorem dX0_divide_147 : decode cX0_divide 147 = .ok (.getfield 12, 3) := by decide +kernel
theorem dX0_divide_150 : decode cX0_divide 150 = .ok (.iload 4, 2) := by decide +kernel
theorem dX0_divide_152 : decode cX0_divide 152 = .ok (.iconst 1, 1) := by decide +kernel
theorem dX0_divide_153 : decode cX0_divide 153 = .ok (.iadd, 1) := by decide +kernel
theorem dX0_divide_154 : decode cX0_divide 154 = .ok (.invokevirtual 52, 3) := by decide +kernel
theorem dX0_divide_157 : decode cX0_divide 157 = .ok (.aload_n 0, 1) := by decide +kernel
theorem dX0_divide_158 : decode cX0_divide 158 = .ok (.getfield 18, 3) := by decide +kernel
theorem dX0_divide_161 : decode cX0_divide 161 = .ok (.iload_n 3, 1) := by decide +kernel
theorem dX0_divide_162 : decode cX0_divide 162 = .ok (.invokevirtual 70, 3) := by decide +kernel
theorem dX0_divide_165 : decode cX0_divide 165 = .ok (.return_, 1) := by decide +kernel
theorem dX0_takeOut_0 : decode cX0_takeOut 0 = .ok (.aload_n 0, 1) := by decide +kernel
theorem dX0_takeOut_1 : decode cX0_takeOut 1 = .ok (.getfield 21, 3) := by decide +kernel
theorem dX0_takeOut_4 : decode cX0_takeOut 4 = .ok (.getfield 24, 3) := by decide +kernel
theorem dX0_takeOut_7 : decode cX0_takeOut 7 = .ok (.istore_n 2, 1) := by decide +kernel
theorem dX0_takeOut_8 : decode cX0_takeOut 8 = .ok (.aload_n 0, 1) := by decide +kernel
theorem dX0_takeOut_9 : decode cX0_takeOut 9 = .ok (.getfield 21, 3) := by decide +kernel
theorem dX0_takeOut_12 : decode cX0_takeOut 12 = .ok (.iload_n 2, 1) := by decide +kernel
theorem dX0_takeOut_13 : decode cX0_takeOut 13 = .ok (.iconst 1, 1) := by decide +kernel
theorem dX0_takeOut_14 : decode cX0_takeOut 14 = .ok (.isub, 1) := by decide +kernel
theorem dX0_takeOut_15 : decode cX0_takeOut 15 = .ok (.invokevirtual 32, 3) := by decide +kernel
theorem dX0_takeOut_18 : decode cX0_takeOut 18 = .ok (.lstore_n 3, 1) := by decide +kernel
theorem dX0_takeOut_19 : decode cX0_takeOut 19 = .ok (.lload_n 3, 1) := by decide +kernel
theorem dX0_takeOut_20 : decode cX0_takeOut 20 = .ok (.lconst 0, 1) := by decide +kernel
theorem dX0_takeOut_21 : decode cX0_takeOut 21 = .ok (.lcmp, 1) := by decide +kernel
theorem dX0_takeOut_22 : decode cX0_takeOut 22 = .ok (.ifCond .gt 5, 3) := by decide +kernel
theorem dX0_takeOut_25 : decode cX0_takeOut 25 = .ok (.lconst 0, 1) := by decide +kernel
theorem dX0_takeOut_26 : decode cX0_takeOut 26 = .ok (.lreturn, 1) := by decide +kernel
theorem dX0_takeOut_27 : decode cX0_takeOut 27 = .ok (.aload_n 0, 1) := by decide +kernel
theorem dX0_takeOut_28 : decode cX0_takeOut 28 = .ok (.getfield 18, 3) := by decide +kernel
theorem dX0_takeOut_31 : decode cX0_takeOut 31 = .ok (.iload_n 1, 1) := by decide +kernel
theorem dX0_takeOut_32 : decode cX0_takeOut 32 = .ok (.iload_n 2, 1) := by decide +kernel
theorem dX0_takeOut_33 : decode cX0_takeOut 33 = .ok (.iadd, 1) := by decide +kernel
theorem dX0_takeOut_34 : decode cX0_takeOut 34 = .ok (.invokevirtual 32, 3) := by decide +kernel
theorem dX0_takeOut_37 : decode cX0_takeOut 37 = .ok (.bipush 31, 2) := by decide +kernel
theorem dX0_takeOut_39 : decode cX0_takeOut 39 = .ok (.lshl, 1) := by decide +kernel
theorem dX0_takeOut_40 : decode cX0_takeOut 40 = .ok (.aload_n 0, 1) := by decide +kernel
theorem dX0_takeOut_41 : decode cX0_takeOut 41 = .ok (.getfield 18, 3) := by decide +kernel
theorem dX0_takeOut_44 : decode cX0_takeOut 44 = .ok (.iload_n 1, 1) := by decide +kernel
theorem dX0_takeOut_45 : decode cX0_takeOut 45 = .ok (.iload_n 2, 1) := by decide +kernel
theorem dX0_takeOut_46 : decode cX0_takeOut 46 = .ok (.iadd, 1) := by decide +kernel
theorem dX0_takeOut_47 : decode cX0_takeOut 47 = .ok (.iconst 1, 1) := by decide +kernel
theorem dX0_takeOut_48 : decode cX0_takeOut 48 = .ok (.isub, 1) := by decide +kernel
theorem dX0_takeOut_49 : decode cX0_takeOut 49 = .ok (.invokevirtual 32, 3) := by decide +kernel
theorem dX0_takeOut_52 : decode cX0_takeOut 52 = .ok (.lor, 1) := by decide +kernel
theorem dX0_takeOut_53 : decode cX0_takeOut 53 = .ok (.lstore 5, 2) := by decide +kernel
theorem dX0_takeOut_55 : decode cX0_takeOut 55 = .ok (.lload 5, 2) := by decide +kernel
theorem dX0_takeOut_57 : decode cX0_takeOut 57 = .ok (.lload_n 3, 1) := by decide +kernel
theorem dX0_takeOut_58 : decode cX0_takeOut 58 = .ok (.ldiv, 1) := by decide +kernel
theorem dX0_takeOut_59 : decode cX0_takeOut 59 = .ok (.lstore 7, 2) := by decide +kernel
theorem dX0_takeOut_61 : decode cX0_takeOut 61 = .ok (.lload 5, 2) := by decide +kernel
theorem dX0_takeOut_63 : decode cX0_takeOut 63 = .ok (.lload_n 3, 1) := by decide +kernel
theorem dX0_takeOut_64 : decode cX0_takeOut 64 = .ok (.lrem, 1) := by decide +kernel
theorem dX0_takeOut_65 : decode cX0_takeOut 65 = .ok (.lstore 9, 2) := by decide +kernel
theorem dX0_takeOut_67 : decode cX0_takeOut 67 = .ok (.iconst 0, 1) := by decide +kernel
theorem dX0_takeOut_68 : decode cX0_takeOut 68 = .ok (.istore 11, 2) := by decide +kernel
theorem dX0_takeOut_70 : decode cX0_takeOut 70 = .ok (.iload 11, 2) := by decide +kernel
theorem dX0_takeOut_72 : decode cX0_takeOut 72 = .ok (.iconst 2, 1) := by decide +kernel
theorem dX0_takeOut_73 : decode cX0_takeOut 73 = .ok (.if_icmp .ge 42, 3) := by decide +kernel
theorem dX0_takeOut_76 : decode cX0_takeOut 76 = .ok (.lload 9, 2) := by decide +kernel
theorem dX0_takeOut_78 : decode cX0_takeOut 78 = .ok (.ldc2_w 73, 3) := by decide +kernel
theorem dX0_takeOut_81 : decode cX0_takeOut 81 = .ok (.lcmp, 1) := by decide +kernel
theorem dX0_takeOut_82 : decode cX0_takeOut 82 = .ok (.ifCond .gt 33, 3) := by decide +kernel
theorem dX0_takeOut_85 : decode cX0_takeOut 85 = .ok (.aload_n 0, 1) := by decide +kernel
theorem dX0_takeOut_86 : decode cX0_takeOut 86 = .ok (.lload 7, 2) := by decide +kernel
theorem dX0_takeOut_88 : decode cX0_takeOut 88 = .ok (.lload 9, 2) := by decide +kernel
theorem dX0_takeOut_90 : decode cX0_takeOut 90 = .ok (.iload_n 1, 1) := by decide +kernel
theorem dX0_takeOut_91 : decode cX0_takeOut 91 = .ok (.invokevirtual 75, 3) := by decide +kernel
theorem dX0_takeOut_94 : decode cX0_takeOut 94 = .ok (.ifCond .eq 21, 3) := by decide +kernel
theorem dX0_takeOut_97 : decode cX0_takeOut 97 = .ok (.lload 7, 2) := by decide +kernel
theorem dX0_takeOut_99 : decode cX0_takeOut 99 = .ok (.lconst 1, 1) := by decide +kernel
theorem dX0_takeOut_100 : decode cX0_takeOut 100 = .ok (.lsub, 1) := by decide +kernel
theorem dX0_takeOut_101 : decode cX0_takeOut 101 = .ok (.lstore 7, 2) := by decide +kernel
theorem dX0_takeOut_103 : decode cX0_takeOut 103 = .ok (.lload 9, 2) := by decide +kernel
theorem dX0_takeOut_105 : decode cX0_takeOut 105 = .ok (.lload_n 3, 1) := by decide +kernel
theorem dX0_takeOut_106 : decode cX0_takeOut 106 = .ok (.ladd, 1) := by decide +kernel
theorem dX0_takeOut_107 : decode cX0_takeOut 107 = .ok (.lstore 9, 2) := by decide +kernel
theorem dX0_takeOut_109 : decode cX0_takeOut 109 = .ok (.iinc 11 1, 3) := by decide +kernel
theorem dX0_takeOut_112 : decode cX0_takeOut 112 = .ok (.goto (-42), 3) := by decide +kernel
theorem dX0_takeOut_115 : decode cX0_takeOut 115 = .ok (.aload_n 0, 1) := by decide +kernel
theorem dX0_takeOut_116 : decode cX0_takeOut 116 = .ok (.iload_n 1, 1) := by decide +kernel
theorem dX0_takeOut_117 : decode cX0_takeOut 117 = .ok (.lload 7, 2) := by decide +kernel
theorem dX0_takeOut_119 : decode cX0_takeOut 119 = .ok (.lneg, 1) := by decide +kernel
theorem dX0_takeOut_120 : decode cX0_takeOut 120 = .ok (.invokevirtual 79, 3) := by decide +kernel
theorem dX0_takeOut_123 : decode cX0_takeOut 123 = .ok (.lconst 0, 1) := by decide +kernel
theorem dX0_takeOut_124 : decode cX0_takeOut 124 = .ok (.lcmp, 1) := by decide +kernel
theorem dX0_takeOut_125 : decode cX0_takeOut 125 = .ok (.ifCond .ge 16, 3) := by decide +kernel
theorem dX0_takeOut_128 : decode cX0_takeOut 128 = .ok (.lload 7, 2) := by decide +kernel
theorem dX0_takeOut_130 : decode cX0_takeOut 130 = .ok (.lconst 1, 1) := by decide +kernel
theorem dX0_takeOut_131 : decode cX0_takeOut 131 = .ok (.lsub, 1) := by decide +kernel
theorem dX0_takeOut_132 : decode cX0_takeOut 132 = .ok (.lstore 7, 2) := by decide +kernel
theorem dX0_takeOut_134 : decode cX0_takeOut 134 = .ok (.aload_n 0, 1) := by decide +kernel
theorem dX0_takeOut_135 : decode cX0_takeOut 135 = .ok (.iload_n 1, 1) := by decide +kernel
theorem dX0_takeOut_136 : decode cX0_takeOut 136 = .ok (.lconst 1, 1) := by decide +kernel
theorem dX0_takeOut_137 : decode cX0_takeOut 137 = .ok (.invokevirtual 79, 3) := by decide +kernel
theorem dX0_takeOut_140 : decode cX0_takeOut 140 = .ok (.pop2, 1) := by decide +kernel
theorem dX0_takeOut_141 : decode cX0_takeOut 141 = .ok (.aload_n 0, 1) := by decide +kernel
theorem dX0_takeOut_142 : decode cX0_takeOut 142 = .ok (.getfield 18, 3) := by decide +kernel
theorem dX0_takeOut_145 : decode cX0_takeOut 145 = .ok (.iload_n 1, 1) := by decide +kernel
theorem dX0_takeOut_146 : decode cX0_takeOut 146 = .ok (.iload_n 2, 1) := by decide +kernel
theorem dX0_takeOut_147 : decode cX0_takeOut 147 = .ok (.iadd, 1) := by decide +kernel
theorem dX0_takeOut_148 : decode cX0_takeOut 148 = .ok (.lconst 0, 1) := by decide +kernel
theorem dX0_takeOut_149 : decode cX0_takeOut 149 = .ok (.invokevirtual 66, 3) := by decide +kernel
theorem dX0_takeOut_152 : decode cX0_takeOut 152 = .ok (.lload 7, 2) := by decide +kernel
theorem dX0_takeOut_154 : decode cX0_takeOut 154 = .ok (.lreturn, 1) := by decide +kernel
theorem dX0_isTooOften_0 : decode cX0_isTooOften 0 = .ok (.aload_n 0, 1) := by decide +kernel
theorem dX0_isTooOften_1 : decode cX0_isTooOften 1 = .ok (.getfield 21, 3) := by decide +kernel
theorem dX0_isTooOften_4 : decode cX0_isTooOften 4 = .ok (.getfield 24, 3) := by decide +kernel
theorem dX0_isTooOften_7 : decode cX0_isTooOften 7 = .ok (.istore 6, 2) := by decide +kernel
theorem dX0_isTooOften_9 : decode cX0_isTooOften 9 = .ok (.lload_n 1, 1) := by decide +kernel
theorem dX0_isTooOften_10 : decode cX0_isTooOften 10 = .ok (.ldc2_w 73, 3) := by decide +kernel
theorem dX0_isTooOften_13 : decode cX0_isTooOften 13 = .ok (.lcmp, 1) := by decide +kernel
theorem dX0_isTooOften_14 : decode cX0_isTooOften 14 = .ok (.ifCond .gt 39, 3) := by decide +kernel
theorem dX0_isTooOften_17 : decode cX0_isTooOften 17 = .ok (.lload_n 1, 1) := by decide +kernel
theorem dX0_isTooOften_18 : decode cX0_isTooOften 18 = .ok (.aload_n 0, 1) := by decide +kernel
theorem dX0_isTooOften_19 : decode cX0_isTooOften 19 = .ok (.getfield 21, 3) := by decide +kernel
theorem dX0_isTooOften_22 : decode cX0_isTooOften 22 = .ok (.iload 6, 2) := by decide +kernel
theorem dX0_isTooOften_24 : decode cX0_isTooOften 24 = .ok (.iconst 2, 1) := by decide +kernel
theorem dX0_isTooOften_25 : decode cX0_isTooOften 25 = .ok (.isub, 1) := by decide +kernel
theorem dX0_isTooOften_26 : decode cX0_isTooOften 26 = .ok (.invokevirtual 32, 3) := by decide +kernel
theorem dX0_isTooOften_29 : decode cX0_isTooOften 29 = .ok (.lmul, 1) := by decide +kernel
theorem dX0_isTooOften_30 : decode cX0_isTooOften 30 = .ok (.lload_n 3, 1) := by decide +kernel
theorem dX0_isTooOften_31 : decode cX0_isTooOften 31 = .ok (.bipush 31, 2) := by decide +kernel
theorem dX0_isTooOften_33 : decode cX0_isTooOften 33 = .ok (.lshl, 1) := by decide +kernel
theorem dX0_isTooOften_34 : decode cX0_isTooOften 34 = .ok (.aload_n 0, 1) := by decide +kernel
theorem dX0_isTooOften_35 : decode cX0_isTooOften 35 = .ok (.getfield 18, 3) := by decide +kernel
theorem dX0_isTooOften_38 : decode cX0_isTooOften 38 = .ok (.iload 5, 2) := by decide +kernel
theorem dX0_isTooOften_40 : decode cX0_isTooOften 40 = .ok (.iload 6, 2) := by decide +kernel
theorem dX0_isTooOften_42 : decode cX0_isTooOften 42 = .ok (.iadd, 1) := by decide +kernel
theorem dX0_isTooOften_43 : decode cX0_isTooOften 43 = .ok (.iconst 2, 1) := by decide +kernel
theorem dX0_isTooOften_44 : decode cX0_isTooOften 44 = .ok (.isub, 1) := by decide +kernel
theorem dX0_isTooOften_45 : decode cX0_isTooOften 45 = .ok (.invokevirtual 32, 3) := by decide +kernel
theorem dX0_isTooOften_48 : decode cX0_isTooOften 48 = .ok (.lor, 1) := by decide +kernel
theorem dX0_isTooOften_49 : decode cX0_isTooOften 49 = .ok (.lcmp, 1) := by decide +kernel
theorem dX0_isTooOften_50 : decode cX0_isTooOften 50 = .ok (.ifCond .le 7, 3) := by decide +kernel
theorem dX0_isTooOften_53 : decode cX0_isTooOften 53 = .ok (.iconst 1, 1) := by decide +kernel
theorem dX0_isTooOften_54 : decode cX0_isTooOften 54 = .ok (.goto 4, 3) := by decide +kernel
theorem dX0_isTooOften_57 : decode cX0_isTooOften 57 = .ok (.iconst 0, 1) := by decide +kernel
theorem dX0_isTooOften_58 : decode cX0_isTooOften 58 = .ok (.ireturn, 1) := by decide +kernel
theorem dX0_changeRest_0 : decode cX0_changeRest 0 = .ok (.lconst 0, 1) := by decide +kernel
theorem dX0_changeRest_1 : decode cX0_changeRest 1 = .ok (.lstore 4, 2) := by decide +kernel
theorem dX0_changeRest_3 : decode cX0_changeRest 3 = .ok (.iconst 0, 1) := by decide +kernel
theorem dX0_changeRest_4 : decode cX0_changeRest 4 = .ok (.istore 6, 2) := by decide +kernel
theorem dX0_changeRest_6 : decode cX0_changeRest 6 = .ok (.iload 6, 2) := by decide +kernel
theorem dX0_changeRest_8 : decode cX0_changeRest 8 = .ok (.aload_n 0, 1) := by decide +kernel
theorem dX0_changeRest_9 : decode cX0_changeRest 9 = .ok (.getfield 21, 3) := by decide +kernel
theorem dX0_changeRest_12 : decode cX0_changeRest 12 = .ok (.getfield 24, 3) := by decide +kernel
theorem dX0_changeRest_15 : decode cX0_changeRest 15 = .ok (.if_icmp .ge 61, 3) := by decide +kernel
theorem dX0_changeRest_18 : decode cX0_changeRest 18 = .ok (.lload 4, 2) := by decide +kernel
theorem dX0_changeRest_20 : decode cX0_changeRest 20 = .ok (.aload_n 0, 1) := by decide +kernel
theorem dX0_changeRest_21 : decode cX0_changeRest 21 = .ok (.getfield 18, 3) := by decide +kernel
theorem dX0_changeRest_24 : decode cX0_changeRest 24 = .ok (.iload_n 1, 1) := by decide +kernel
theorem dX0_changeRest_25 : decode cX0_changeRest 25 = .ok (.iload 6, 2) := by decide +kernel
theorem dX0_changeRest_27 : decode cX0_changeRest 27 = .ok (.iadd, 1) := by decide +kernel
theorem dX0_changeRest_28 : decode cX0_changeRest 28 = .ok (.invokevirtual 32, 3) := by decide +kernel
theorem dX0_changeRest_31 : decode cX0_changeRest 31 = .ok (.lload_n 2, 1) := by decide +kernel
theorem dX0_changeRest_32 : decode cX0_changeRest 32 = .ok (.aload_n 0, 1) := by decide +kernel
theorem dX0_changeRest_33 : decode cX0_changeRest 33 = .ok (.getfield 21, 3) := by decide +kernel
theorem dX0_changeRest_36 : decode cX0_changeRest 36 = .ok (.iload 6, 2) := by decide +kernel
theorem dX0_changeRest_38 : decode cX0_changeRest 38 = .ok (.invokevirtual 32, 3) := by decide +kernel
theorem dX0_changeRest_41 : decode cX0_changeRest 41 = .ok (.lmul, 1) := by decide +kernel
theorem dX0_changeRest_42 : decode cX0_changeRest 42 = .ok (.ladd, 1) := by decide +kernel
theorem dX0_changeRest_43 : decode cX0_changeRest 43 = .ok (.ladd, 1) := by decide +kernel
theorem dX0_changeRest_44 : decode cX0_changeRest 44 = .ok (.lstore 4, 2) := by decide +kernel
theorem dX0_changeRest_46 : decode cX0_changeRest 46 = .ok (.aload_n 0, 1) := by decide +kernel
theorem dX0_changeRest_47 : decode cX0_changeRest 47 = .ok (.getfield 18, 3) := by decide +kernel
theorem dX0_changeRest_50 : decode cX0_changeRest 50 = .ok (.iload_n 1, 1) := by decide +kernel
theorem dX0_changeRest_51 : decode cX0_changeRest 51 = .ok (.iload 6, 2) := by decide +kernel
theorem dX0_changeRest_53 : decode cX0_changeRest 53 = .ok (.iadd, 1) := by decide +kernel
theorem dX0_changeRest_54 : decode cX0_changeRest 54 = .ok (.lload 4, 2) := by decide +kernel
theorem dX0_changeRest_56 : decode cX0_changeRest 56 = .ok (.ldc2_w 73, 3) := by decide +kernel
theorem dX0_changeRest_59 : decode cX0_changeRest 59 = .ok (.land, 1) := by decide +kernel
theorem dX0_changeRest_60 : decode cX0_changeRest 60 = .ok (.invokevirtual 66, 3) := by decide +kernel
theorem dX0_changeRest_63 : decode cX0_changeRest 63 = .ok (.lload 4, 2) := by decide +kernel
theorem dX0_changeRest_65 : decode cX0_changeRest 65 = .ok (.bipush 31, 2) := by decide +kernel
theorem dX0_changeRest_67 : decode cX0_changeRest 67 = .ok (.lshr, 1) := by decide +kernel
theorem dX0_changeRest_68 : decode cX0_changeRest 68 = .ok (.lstore 4, 2) := by decide +kernel
theorem dX0_changeRest_70 : decode cX0_changeRest 70 = .ok (.iinc 6 1, 3) := by decide +kernel
theorem dX0_changeRest_73 : decode cX0_changeRest 73 = .ok (.goto (-67), 3) := by decide +kernel
theorem dX0_changeRest_76 : decode cX0_changeRest 76 = .ok (.lload 4, 2) := by decide +kernel
theorem dX0_changeRest_78 : decode cX0_changeRest 78 = .ok (.aload_n 0, 1) := by decide +kernel
theorem dX0_changeRest_79 : decode cX0_changeRest 79 = .ok (.getfield 18, 3) := by decide +kernel
theorem dX0_changeRest_82 : decode cX0_changeRest 82 = .ok (.iload_n 1, 1) := by decide +kernel
theorem dX0_changeRest_83 : decode cX0_changeRest 83 = .ok (.aload_n 0, 1) := by decide +kernel
theorem dX0_changeRest_84 : decode cX0_changeRest 84 = .ok (.getfield 21, 3) := by decide +kernel
theorem dX0_changeRest_87 : decode cX0_changeRest 87 = .ok (.getfield 24, 3) := by decide +kernel
theorem dX0_changeRest_90 : decode cX0_changeRest 90 = .ok (.iadd, 1) := by decide +kernel
theorem dX0_changeRest_91 : decode cX0_changeRest 91 = .ok (.invokevirtual 32, 3) := by decide +kernel
theorem dX0_changeRest_94 : decode cX0_changeRest 94 = .ok (.ladd, 1) := by decide +kernel
theorem dX0_changeRest_95 : decode cX0_changeRest 95 = .ok (.lreturn, 1) := by decide +kernel
theorem dX1_init_0 : decode cX1_init 0 = .ok (.aload_n 0, 1) := by decide +kernel
theorem dX1_init_1 : decode cX1_init 1 = .ok (.invokespecial 1, 3) := by decide +kernel
theorem dX1_init_4 : decode cX1_init 4 = .ok (.aload_n 0, 1) := by decide +kernel
theorem dX1_init_5 : decode cX1_init 5 = .ok (.iload_n 1, 1) := by decide +kernel
theorem dX1_init_6 : decode cX1_init 6 = .ok (.putfield 7, 3) := by decide +kernel
theorem dX1_init_9 : decode cX1_init 9 = .ok (.aload_n 0, 1) := by decide +kernel
theorem dX1_init_10 : decode cX1_init 10 = .ok (.aload_n 2, 1) := by decide +kernel
theorem dX1_init_11 : decode cX1_init 11 = .ok (.invokestatic 13, 3) := by decide +kernel
theorem dX1_init_14 : decode cX1_init 14 = .ok (.putfield 19, 3) := by decide +kernel
theorem dX1_init_17 : decode cX1_init 17 = .ok (.aload_n 0, 1) := by decide +kernel
theorem dX1_init_18 : decode cX1_init 18 = .ok (.aload_n 3, 1) := by decide +kernel
theorem dX1_init_19 : decode cX1_init 19 = .ok (.invokestatic 13, 3) := by decide +kernel
theorem dX1_init_22 : decode cX1_init 22 = .ok (.putfield 23, 3) := by decide +kernel
theorem dX1_init_25 : decode cX1_init 25 = .ok (.return_, 1) := by decide +kernel
theorem dX2_init_0 : decode cX2_init 0 = .ok (.aload_n 0, 1) := by decide +kernel
theorem dX2_init_1 : decode cX2_init 1 = .ok (.invokespecial 3, 3) := by decide +kernel
theorem dX2_init_4 : decode cX2_init 4 = .ok (.aload_n 0, 1) := by decide +kernel
theorem dX2_init_5 : decode cX2_init 5 = .ok (.new 9, 3) := by decide +kernel
theorem dX2_init_8 : decode cX2_init 8 = .ok (.dup, 1) := by decide +kernel
theorem dX2_init_9 : decode cX2_init 9 = .ok (.invokespecial 11, 3) := by decide +kernel
theorem dX2_init_12 : decode cX2_init 12 = .ok (.putfield 12, 3) := by decide +kernel
theorem dX2_init_15 : decode cX2_init 15 = .ok (.aload_n 0, 1) := by decide +kernel
theorem dX2_init_16 : decode cX2_init 16 = .ok (.new 1, 3) := by decide +kernel
theorem dX2_init_19 : decode cX2_init 19 = .ok (.dup, 1) := by decide +kernel
theorem dX2_init_20 : decode cX2_init 20 = .ok (.bipush 56, 2) := by decide +kernel
theorem dX2_init_22 : decode cX2_init 22 = .ok (.invokespecial 18, 3) := by decide +kernel
theorem dX2_init_25 : decode cX2_init 25 = .ok (.putfield 21, 3) := by decide +kernel
theorem dX2_init_28 : decode cX2_init 28 = .ok (.aload_n 0, 1) := by decide +kernel
theorem dX2_init_29 : decode cX2_init 29 = .ok (.new 1, 3) := by decide +kernel
theorem dX2_init_32 : decode cX2_init 32 = .ok (.dup, 1) := by decide +kernel
theorem dX2_init_33 : decode cX2_init 33 = .ok (.bipush 56, 2) := by decide +kernel
theorem dX2_init_35 : decode cX2_init 35 = .ok (.invokespecial 18, 3) := by decide +kernel
theorem dX2_init_38 : decode cX2_init 38 = .ok (.putfield 25, 3) := by decide +kernel
theorem dX2_init_41 : decode cX2_init 41 = .ok (.return_, 1) := by decide +kernel
theorem dX2_commonDivisor_0 : decode cX2_commonDivisor 0 = .ok (.aload_n 1, 1) := by decide +kernel
theorem dX2_commonDivisor_1 : decode cX2_commonDivisor 1 = .ok (.aload_n 2, 1) := by decide +kernel
theorem dX2_commonDivisor_2 : decode cX2_commonDivisor 2 = .ok (.invokevirtual 28, 3) := by decide +kernel
theorem dX2_commonDivisor_5 : decode cX2_commonDivisor 5 = .ok (.ifCond .lt 7, 3) := by decide +kernel
theorem dX2_commonDivisor_8 : decode cX2_commonDivisor 8 = .ok (.iconst 1, 1) := by decide +kernel
theorem dX2_commonDivisor_9 : decode cX2_commonDivisor 9 = .ok (.goto 4, 3) := by decide +kernel
theorem dX2_commonDivisor_12 : decode cX2_commonDivisor 12 = .ok (.iconst 0, 1) := by decide +kernel
theorem dX2_commonDivisor_13 : decode cX2_commonDivisor 13 = .ok (.istore_n 3, 1) := by decide +kernel
theorem dX2_commonDivisor_14 : decode cX2_commonDivisor 14 = .ok (.aload_n 0, 1) := by decide +kernel
theorem dX2_commonDivisor_15 : decode cX2_commonDivisor 15 = .ok (.getfield 21, 3) := by decide +kernel
theorem dX2_commonDivisor_18 : decode cX2_commonDivisor 18 = .ok (.iload_n 3, 1) := by decide +kernel
theorem dX2_commonDivisor_19 : decode cX2_commonDivisor 19 = .ok (.ifCond .eq 7, 3) := by decide +kernel
theorem dX2_commonDivisor_22 : decode cX2_commonDivisor 22 = .ok (.aload_n 1, 1) := by decide +kernel
theorem dX2_commonDivisor_23 : decode cX2_commonDivisor 23 = .ok (.goto 4, 3) := by decide +kernel
theorem dX2_commonDivisor_26 : decode cX2_commonDivisor 26 = .ok (.aload_n 2, 1) := by decide +kernel
theorem dX2_commonDivisor_27 : decode cX2_commonDivisor 27 = .ok (.invokevirtual 32, 3) := by decide +kernel
theorem dX2_commonDivisor_30 : decode cX2_commonDivisor 30 = .ok (.aload_n 0, 1) := by decide +kernel
theorem dX2_commonDivisor_31 : decode cX2_commonDivisor 31 = .ok (.getfield 25, 3) := by decide +kernel
theorem dX2_commonDivisor_34 : decode cX2_commonDivisor 34 = .ok (.iload_n 3, 1) := by decide +kernel
theorem dX2_commonDivisor_35 : decode cX2_commonDivisor 35 = .ok (.ifCond .eq 7, 3) := by decide +kernel
theorem dX2_commonDivisor_38 : decode cX2_commonDivisor 38 = .ok (.aload_n 2, 1) := by decide +kernel
theorem dX2_commonDivisor_39 : decode cX2_commonDivisor 39 = .ok (.goto 4, 3) := by decide +kernel
theorem dX2_commonDivisor_42 : decode cX2_commonDivisor 42 = .ok (.aload_n 1, 1) := by decide +kernel
theorem dX2_commonDivisor_43 : decode cX2_commonDivisor 43 = .ok (.invokevirtual 32, 3) := by decide +kernel
theorem dX2_commonDivisor_46 : decode cX2_commonDivisor 46 = .ok (.iconst 0, 1) := by decide +kernel
theorem dX2_commonDivisor_47 : decode cX2_commonDivisor 47 = .ok (.istore 4, 2) := by decide +kernel
theorem dX2_commonDivisor_49 : decode cX2_commonDivisor 49 = .ok (.iload 4, 2) := by decide +kernel
theorem dX2_commonDivisor_51 : decode cX2_commonDivisor 51 = .ok (.sipush 10000, 3) := by decide +kernel
theorem dX2_commonDivisor_54 : decode cX2_commonDivisor 54 = .ok (.if_icmp .ge 92, 3) := by decide +kernel
theorem dX2_commonDivisor_57 : decode cX2_commonDivisor 57 = .ok (.aload_n 0, 1) := by decide +kernel
theorem dX2_commonDivisor_58 : decode cX2_commonDivisor 58 = .ok (.getfield 25, 3) := by decide +kernel
theorem dX2_commonDivisor_61 : decode cX2_commonDivisor 61 = .ok (.invokevirtual 36, 3) := by decide +kernel
theorem dX2_commonDivisor_64 : decode cX2_commonDivisor 64 = .ok (.ifCond .ne 82, 3) := by decide +kernel
theorem dX2_commonDivisor_67 : decode cX2_commonDivisor 67 = .ok (.aload_n 0, 1) := by decide +kernel
theorem dX2_commonDivisor_68 : decode cX2_commonDivisor 68 = .ok (.getfield 21, 3) := by decide +kernel
theorem dX2_commonDivisor_71 : decode cX2_commonDivisor 71 = .ok (.invokevirtual 40, 3) := by decide +kernel
theorem dX2_commonDivisor_74 : decode cX2_commonDivisor 74 = .ok (.bipush 62, 2) := by decide +kernel
theorem dX2_commonDivisor_76 : decode cX2_commonDivisor 76 = .ok (.if_icmp .gt 10, 3) := by decide +kernel
theorem dX2_commonDivisor_79 : decode cX2_commonDivisor 79 = .ok (.aload_n 0, 1) := by decide +kernel
theorem dX2_commonDivisor_80 : decode cX2_commonDivisor 80 = .ok (.invokevirtual 44, 3) := by decide +kernel
theorem dX2_commonDivisor_83 : decode cX2_commonDivisor 83 = .ok (.goto 57, 3) := by decide +kernel
theorem dX2_commonDivisor_86 : decode cX2_commonDivisor 86 = .ok (.aload_n 0, 1) := by decide +kernel
theorem dX2_commonDivisor_87 : decode cX2_commonDivisor 87 = .ok (.invokevirtual 47, 3) := by decide +kernel
theorem dX2_commonDivisor_90 : decode cX2_commonDivisor 90 = .ok (.ifCond .eq 10, 3) := by decide +kernel
theorem dX2_commonDivisor_93 : decode cX2_commonDivisor 93 = .ok (.aload_n 0, 1) := by decide +kernel
theorem dX2_commonDivisor_94 : decode cX2_commonDivisor 94 = .ok (.invokevirtual 50, 3) := by decide +kernel
theorem dX2_commonDivisor_97 : decode cX2_commonDivisor 97 = .ok (.goto 43, 3) := by decide +kernel
theorem dX2_commonDivisor_100 : decode cX2_commonDivisor 100 = .ok (.aload_n 0, 1) := by decide +kernel
theorem dX2_commonDivisor_101 : decode cX2_commonDivisor 101 = .ok (.getfield 12, 3) := by decide +kernel
theorem dX2_commonDivisor_104 : decode cX2_commonDivisor 104 = .ok (.aload_n 0, 1) := by decide +kernel
theorem dX2_commonDivisor_105 : decode cX2_commonDivisor 105 = .ok (.getfield 21, 3) := by decide +kernel
theorem dX2_commonDivisor_108 : decode cX2_commonDivisor 108 = .ok (.aload_n 0, 1) := by decide +kernel
theorem dX2_commonDivisor_109 : decode cX2_commonDivisor 109 = .ok (.getfield 25, 3) := by decide +kernel
theorem dX2_commonDivisor_112 : decode cX2_commonDivisor 112 = .ok (.invokevirtual 53, 3) := by decide +kernel
theorem dX2_commonDivisor_115 : decode cX2_commonDivisor 115 = .ok (.aload_n 0, 1) := by decide +kernel
theorem dX2_commonDivisor_116 : decode cX2_commonDivisor 116 = .ok (.getfield 21, 3) := by decide +kernel
theorem dX2_commonDivisor_119 : decode cX2_commonDivisor 119 = .ok (.aload_n 0, 1) := by decide +kernel
theorem dX2_commonDivisor_120 : decode cX2_commonDivisor 120 = .ok (.getfield 25, 3) := by decide +kernel
theorem dX2_commonDivisor_123 : decode cX2_commonDivisor 123 = .ok (.invokevirtual 32, 3) := by decide +kernel
theorem dX2_commonDivisor_126 : decode cX2_commonDivisor 126 = .ok (.aload_n 0, 1) := by decide +kernel
theorem dX2_commonDivisor_127 : decode cX2_commonDivisor 127 = .ok (.getfield 25, 3) := by decide +kernel
theorem dX2_commonDivisor_130 : decode cX2_commonDivisor 130 = .ok (.aload_n 0, 1) := by decide +kernel
theorem dX2_commonDivisor_131 : decode cX2_commonDivisor 131 = .ok (.getfield 12, 3) := by decide +kernel
theorem dX2_commonDivisor_134 : decode cX2_commonDivisor 134 = .ok (.getfield 57, 3) := by decide +kernel
theorem dX2_commonDivisor_137 : decode cX2_commonDivisor 137 = .ok (.invokevirtual 32, 3) := by decide +kernel
theorem dX2_commonDivisor_140 : decode cX2_commonDivisor 140 = .ok (.iinc 4 1, 3) := by decide +kernel
theorem dX2_commonDivisor_143 : decode cX2_commonDivisor 143 = .ok (.goto (-94), 3) := by decide +kernel
theorem dX2_commonDivisor_146 : decode cX2_commonDivisor 146 = .ok (.aload_n 0, 1) := by decide +kernel
theorem dX2_commonDivisor_147 : decode cX2_commonDivisor 147 = .ok (.getfield 21, 3) := by decide +kernel
theorem dX2_commonDivisor_150 : decode cX2_commonDivisor 150 = .ok (.areturn, 1) := by decide +kernel
theorem dX2_finishInLongs_0 : decode cX2_finishInLongs 0 = .ok (.aload_n 0, 1) := by decide +kernel
theorem dX2_finishInLongs_1 : decode cX2_finishInLongs 1 = .ok (.getfield 21, 3) := by decide +kernel
theorem dX2_finishInLongs_4 : decode cX2_finishInLongs 4 = .ok (.iconst 0, 1) := by decide +kernel
theorem dX2_finishInLongs_5 : decode cX2_finishInLongs 5 = .ok (.invokevirtual 60, 3) := by decide +kernel
theorem dX2_finishInLongs_8 : decode cX2_finishInLongs 8 = .ok (.lstore_n 1, 1) := by decide +kernel
theorem dX2_finishInLongs_9 : decode cX2_finishInLongs 9 = .ok (.aload_n 0, 1) := by decide +kernel
theorem dX2_finishInLongs_10 : decode cX2_finishInLongs 10 = .ok (.getfield 25, 3) := by decide +kernel
theorem dX2_finishInLongs_13 : decode cX2_finishInLongs 13 = .ok (.iconst 0, 1) := by decide +kernel
theorem dX2_finishInLongs_14 : decode cX2_finishInLongs 14 = .ok (.invokevirtual 60, 3) := by decide +kernel
theorem dX2_finishInLongs_17 : decode cX2_finishInLongs 17 = .ok (.lstore_n 3, 1) := by decide +kernel
theorem dX2_finishInLongs_18 : decode cX2_finishInLongs 18 = .ok (.iconst 0, 1) := by decide +kernel
theorem dX2_finishInLongs_19 : decode cX2_finishInLongs 19 = .ok (.istore 5, 2) := by decide +kernel
theorem dX2_finishInLongs_21 : decode cX2_finishInLongs 21 = .ok (.iload 5, 2) := by decide +kernel
theorem dX2_finishInLongs_23 : decode cX2_finishInLongs 23 = .ok (.bipush 100, 2) := by decide +kernel
theorem dX2_finishInLongs_25 : decode cX2_finishInLongs 25 = .ok (.if_icmp .ge 25, 3) := by decide +kernel
theorem dX2_finishInLongs_28 : decode cX2_finishInLongs 28 = .ok (.lload_n 3, 1) := by decide +kernel
theorem dX2_finishInLongs_29 : decode cX2_finishInLongs 29 = .ok (.lconst 0, 1) := by decide +kernel
theorem dX2_finishInLongs_30 : decode cX2_finishInLongs 30 = .ok (.lcmp, 1) := by decide +kernel
theorem dX2_finishInLongs_31 : decode cX2_finishInLongs 31 = .ok (.ifCond .le 19, 3) := by decide +kernel
theorem dX2_finishInLongs_34 : decode cX2_finishInLongs 34 = .ok (.lload_n 1, 1) := by decide +kernel
theorem dX2_finishInLongs_35 : decode cX2_finishInLongs 35 = .ok (.lload_n 3, 1) := by decide +kernel
theorem dX2_finishInLongs_36 : decode cX2_finishInLongs 36 = .ok (.lrem, 1) := by decide +kernel
theorem dX2_finishInLongs_37 : decode cX2_finishInLongs 37 = .ok (.lstore 6, 2) := by decide +kernel
theorem dX2_finishInLongs_39 : decode cX2_finishInLongs 39 = .ok (.lload_n 3, 1) := by decide +kernel
theorem dX2_finishInLongs_40 : decode cX2_finishInLongs 40 = .ok (.lstore_n 1, 1) := by decide +kernel
theorem dX2_finishInLongs_41 : decode cX2_finishInLongs 41 = .ok (.lload 6, 2) := by decide +kernel
theorem dX2_finishInLongs_43 : decode cX2_finishInLongs 43 = .ok (.lstore_n 3, 1) := by decide +kernel
theorem dX2_finishInLongs_44 : decode cX2_finishInLongs 44 = .ok (.iinc 5 1, 3) := by decide +kernel
theorem dX2_finishInLongs_47 : decode cX2_finishInLongs 47 = .ok (.goto (-26), 3) := by decide +kernel
theorem dX2_finishInLongs_50 : decode cX2_finishInLongs 50 = .ok (.aload_n 0, 1) := by decide +kernel
theorem dX2_finishInLongs_51 : decode cX2_finishInLongs 51 = .ok (.getfield 21, 3) := by decide +kernel
theorem dX2_finishInLongs_54 : decode cX2_finishInLongs 54 = .ok (.lload_n 1, 1) := by decide +kernel
theorem dX2_finishInLongs_55 : decode cX2_finishInLongs 55 = .ok (.invokevirtual 64, 3) := by decide +kernel
theorem dX2_finishInLongs_58 : decode cX2_finishInLongs 58 = .ok (.aload_n 0, 1) := by decide +kernel
theorem dX2_finishInLongs_59 : decode cX2_finishInLongs 59 = .ok (.getfield 25, 3) := by decide +kernel
theorem dX2_finishInLongs_62 : decode cX2_finishInLongs 62 = .ok (.lload_n 3, 1) := by decide +kernel
theorem dX2_finishInLongs_63 : decode cX2_finishInLongs 63 = .ok (.invokevirtual 64, 3) := by decide +kernel
theorem dX2_finishInLongs_66 : decode cX2_finishInLongs 66 = .ok (.return_, 1) := by decide +kernel
theorem dX2_foreseeSteps_0 : decode cX2_foreseeSteps 0 = .ok (.aload_n 0, 1) := by decide +kernel
theorem dX2_foreseeSteps_1 : decode cX2_foreseeSteps 1 = .ok (.getfield 21, 3) := by decide +kernel
theorem dX2_foreseeSteps_4 : decode cX2_foreseeSteps 4 = .ok (.invokevirtual 40, 3) := by decide +kernel
theorem dX2_foreseeSteps_7 : decode cX2_foreseeSteps 7 = .ok (.bipush 62, 2) := by decide +kernel
theorem dX2_foreseeSteps_9 : decode cX2_foreseeSteps 9 = .ok (.isub, 1) := by decide +kernel
theorem dX2_foreseeSteps_10 : decode cX2_foreseeSteps 10 = .ok (.iconst 0, 1) := by decide +kernel
theorem dX2_foreseeSteps_11 : decode cX2_foreseeSteps 11 = .ok (.invokestatic 68, 3) := by decide +kernel
theorem dX2_foreseeSteps_14 : decode cX2_foreseeSteps 14 = .ok (.istore_n 1, 1) := by decide +kernel
theorem dX2_foreseeSteps_15 : decode cX2_foreseeSteps 15 = .ok (.aload_n 0, 1) := by decide +kernel
theorem dX2_foreseeSteps_16 : decode cX2_foreseeSteps 16 = .ok (.getfield 21, 3) := by decide +kernel
theorem dX2_foreseeSteps_19 : decode cX2_foreseeSteps 19 = .ok (.iload_n 1, 1) := by decide +kernel
theorem dX2_foreseeSteps_20 : decode cX2_foreseeSteps 20 = .ok (.invokevirtual 60, 3) := by decide +kernel
theorem dX2_foreseeSteps_23 : decode cX2_foreseeSteps 23 = .ok (.lstore_n 2, 1) := by decide +kernel
theorem dX2_foreseeSteps_24 : decode cX2_foreseeSteps 24 = .ok (.aload_n 0, 1) := by decide +kernel
theorem dX2_foreseeSteps_25 : decode cX2_foreseeSteps 25 = .ok (.getfield 25, 3) := by decide +kernel
theorem dX2_foreseeSteps_28 : decode cX2_foreseeSteps 28 = .ok (.iload_n 1, 1) := by decide +kernel
theorem dX2_foreseeSteps_29 : decode cX2_foreseeSteps 29 = .ok (.invokevirtual 60, 3) := by decide +kernel
theorem dX2_foreseeSteps_32 : decode cX2_foreseeSteps 32 = .ok (.lstore 4, 2) := by decide +kernel
theorem dX2_foreseeSteps_34 : decode cX2_foreseeSteps 34 = .ok (.aload_n 0, 1) := by decide +kernel
theorem dX2_foreseeSteps_35 : decode cX2_foreseeSteps 35 = .ok (.lconst 1, 1) := by decide +kernel
theorem dX2_foreseeSteps_36 : decode cX2_foreseeSteps 36 = .ok (.putfield 74, 3) := by decide +kernel
theorem dX2_foreseeSteps_39 : decode cX2_foreseeSteps 39 = .ok (.aload_n 0, 1) := by decide +kernel
theorem dX2_foreseeSteps_40 : decode cX2_foreseeSteps 40 = .ok (.lconst 0, 1) := by decide +kernel
theorem dX2_foreseeSteps_41 : decode cX2_foreseeSteps 41 = .ok (.putfield 78, 3) := by decide +kernel
theorem dX2_foreseeSteps_44 : decode cX2_foreseeSteps 44 = .ok (.aload_n 0, 1) := by decide +kernel
theorem dX2_foreseeSteps_45 : decode cX2_foreseeSteps 45 = .ok (.lconst 0, 1) := by decide +kernel
theorem dX2_foreseeSteps_46 : decode cX2_foreseeSteps 46 = .ok (.putfield 81, 3) := by decide +kernel
theorem dX2_foreseeSteps_49 : decode cX2_foreseeSteps 49 = .ok (.aload_n 0, 1) := by decide +kernel
theorem dX2_foreseeSteps_50 : decode cX2_foreseeSteps 50 = .ok (.lconst 1, 1) := by decide +kernel
theorem dX2_foreseeSteps_51 : decode cX2_foreseeSteps 51 = .ok (.putfield 84, 3) := by decide +kernel
theorem dX2_foreseeSteps_54 : decode cX2_foreseeSteps 54 = .ok (.iconst 0, 1) := by decide +kernel
theorem dX2_foreseeSteps_55 : decode cX2_foreseeSteps 55 = .ok (.istore 6, 2) := by decide +kernel
theorem dX2_foreseeSteps_57 : decode cX2_foreseeSteps 57 = .ok (.iload 6, 2) := by decide +kernel
theorem dX2_foreseeSteps_59 : decode cX2_foreseeSteps 59 = .ok (.bipush 100, 2) := by decide +kernel
theorem dX2_foreseeSteps_61 : decode cX2_foreseeSteps 61 = .ok (.if_icmp .ge 179, 3) := by decide +kernel
theorem dX2_foreseeSteps_64 : decode cX2_foreseeSteps 64 = .ok (.lload 4, 2) := by decide +kernel
theorem dX2_foreseeSteps_66 : decode cX2_foreseeSteps 66 = .ok (.aload_n 0, 1) := by decide +kernel
theorem dX2_foreseeSteps_67 : decode cX2_foreseeSteps 67 = .ok (.getfield 81, 3) := by decide +kernel
theorem dX2_foreseeSteps_70 : decode cX2_foreseeSteps 70 = .ok (.ladd, 1) := by decide +kernel
theorem dX2_foreseeSteps_71 : decode cX2_foreseeSteps 71 = .ok (.lconst 0, 1) := by decide +kernel
theorem dX2_foreseeSteps_72 : decode cX2_foreseeSteps 72 = .ok (.lcmp, 1) := by decide +kernel
theorem dX2_foreseeSteps_73 : decode cX2_foreseeSteps 73 = .ok (.ifCond .le 167, 3) := by decide +kernel
theorem dX2_foreseeSteps_76 : decode cX2_foreseeSteps 76 = .ok (.lload 4, 2) := by decide +kernel
theorem dX2_foreseeSteps_78 : decode cX2_foreseeSteps 78 = .ok (.aload_n 0, 1) := by decide +kernel
theorem dX2_foreseeSteps_79 : decode cX2_foreseeSteps 79 = .ok (.getfield 84, 3) := by decide +kernel
theorem dX2_foreseeSteps_82 : decode cX2_foreseeSteps 82 = .ok (.ladd, 1) := by decide +kernel
theorem dX2_foreseeSteps_83 : decode cX2_foreseeSteps 83 = .ok (.lconst 0, 1) := by decide +kernel
theorem dX2_foreseeSteps_84 : decode cX2_foreseeSteps 84 = .ok (.lcmp, 1) := by decide +kernel
theorem dX2_foreseeSteps_85 : decode cX2_foreseeSteps 85 = .ok (.ifCond .gt 6, 3) := by decide +kernel
theorem dX2_foreseeSteps_88 : decode cX2_foreseeSteps 88 = .ok (.goto 152, 3) := by decide +kernel
theorem dX2_foreseeSteps_91 : decode cX2_foreseeSteps 91 = .ok (.lload_n 2, 1) := by decide +kernel
theorem dX2_foreseeSteps_92 : decode cX2_foreseeSteps 92 = .ok (.aload_n 0, 1) := by decide +kernel
theorem dX2_foreseeSteps_93 : decode cX2_foreseeSteps 93 = .ok (.getfield 74, 3) := by decide +kernel
theorem dX2_foreseeSteps_96 : decode cX2_foreseeSteps 96 = .ok (.ladd, 1) := by decide +kernel
theorem dX2_foreseeSteps_97 : decode cX2_foreseeSteps 97 = .ok (.lload 4, 2) := by decide +kernel
theorem dX2_foreseeSteps_99 : decode cX2_foreseeSteps 99 = .ok (.aload_n 0, 1) := by decide +kernel
theorem dX2_foreseeSteps_100 : decode cX2_foreseeSteps 100 = .ok (.getfield 81, 3) := by decide +kernel
theorem dX2_foreseeSteps_103 : decode cX2_foreseeSteps 103 = .ok (.ladd, 1) := by decide +kernel
theorem dX2_foreseeSteps_104 : decode cX2_foreseeSteps 104 = .ok (.ldiv, 1) := by decide +kernel
theorem dX2_foreseeSteps_105 : decode cX2_foreseeSteps 105 = .ok (.lstore 7, 2) := by decide +kernel
theorem dX2_foreseeSteps_107 : decode cX2_foreseeSteps 107 = .ok (.lload 7, 2) := by decide +kernel
theorem dX2_foreseeSteps_109 : decode cX2_foreseeSteps 109 = .ok (.ldc2_w 87, 3) := by decide +kernel
theorem dX2_foreseeSteps_112 : decode cX2_foreseeSteps 112 = .ok (.lcmp, 1) := by decide +kernel
theorem dX2_foreseeSteps_113 : decode cX2_foreseeSteps 113 = .ok (.ifCond .gt 127, 3) := by decide +kernel
theorem dX2_foreseeSteps_116 : decode cX2_foreseeSteps 116 = .ok (.lload 7, 2) := by decide +kernel
theorem dX2_foreseeSteps_118 : decode cX2_foreseeSteps 118 = .ok (.lload_n 2, 1) := by decide +kernel
theorem dX2_foreseeSteps_119 : decode cX2_foreseeSteps 119 = .ok (.aload_n 0, 1) := by decide +kernel
theorem dX2_foreseeSteps_120 : decode cX2_foreseeSteps 120 = .ok (.getfield 78, 3) := by decide +kernel
theorem dX2_foreseeSteps_123 : decode cX2_foreseeSteps 123 = .ok (.ladd, 1) := by decide +kernel
theorem dX2_foreseeSteps_124 : decode cX2_foreseeSteps 124 = .ok (.lload 4, 2) := by decide +kernel
theorem dX2_foreseeSteps_126 : decode cX2_foreseeSteps 126 = .ok (.aload_n 0, 1) := by decide +kernel
theorem dX2_foreseeSteps_127 : decode cX2_foreseeSteps 127 = .ok (.getfield 84, 3) := by decide +kernel
theorem dX2_foreseeSteps_130 : decode cX2_foreseeSteps 130 = .ok (.ladd, 1) := by decide +kernel
theorem dX2_foreseeSteps_131 : decode cX2_foreseeSteps 131 = .ok (.ldiv, 1) := by decide +kernel
theorem dX2_foreseeSteps_132 : decode cX2_foreseeSteps 132 = .ok (.lcmp, 1) := by decide +kernel
theorem dX2_foreseeSteps_133 : decode cX2_foreseeSteps 133 = .ok (.ifCond .eq 6, 3) := by decide +kernel
theorem dX2_foreseeSteps_136 : decode cX2_foreseeSteps 136 = .ok (.goto 104, 3) := by decide +kernel
theorem dX2_foreseeSteps_139 : decode cX2_foreseeSteps 139 = .ok (.aload_n 0, 1) := by decide +kernel
theorem dX2_foreseeSteps_140 : decode cX2_foreseeSteps 140 = .ok (.getfield 74, 3) := by decide +kernel
theorem dX2_foreseeSteps_143 : decode cX2_foreseeSteps 143 = .ok (.lload 7, 2) := by decide +kernel
theorem dX2_foreseeSteps_145 : decode cX2_foreseeSteps 145 = .ok (.aload_n 0, 1) := by decide +kernel
theorem dX2_foreseeSteps_146 : decode cX2_foreseeSteps 146 = .ok (.getfield 81, 3) := by decide +kernel
theorem dX2_foreseeSteps_149 : decode cX2_foreseeSteps 149 = .ok (.lmul, 1) := by decide +kernel
theorem dX2_foreseeSteps_150 : decode cX2_foreseeSteps 150 = .ok (.lsub, 1) := by decide +kernel
theorem dX2_foreseeSteps_151 : decode cX2_foreseeSteps 151 = .ok (.lstore 9, 2) := by decide +kernel
theorem dX2_foreseeSteps_153 : decode cX2_foreseeSteps 153 = .ok (.aload_n 0, 1) := by decide +kernel
theorem dX2_foreseeSteps_154 : decode cX2_foreseeSteps 154 = .ok (.getfield 78, 3) := by decide +kernel
theorem dX2_foreseeSteps_157 : decode cX2_foreseeSteps 157 = .ok (.lload 7, 2) := by decide +kernel
theorem dX2_foreseeSteps_159 : decode cX2_foreseeSteps 159 = .ok (.aload_n 0, 1) := by decide +kernel
theorem dX2_foreseeSteps_160 : decode cX2_foreseeSteps 160 = .ok (.getfield 84, 3) := by decide +kernel
theorem dX2_foreseeSteps_163 : decode cX2_foreseeSteps 163 = .ok (.lmul, 1) := by decide +kernel
theorem dX2_foreseeSteps_164 : decode cX2_foreseeSteps 164 = .ok (.lsub, 1) := by decide +kernel
theorem dX2_foreseeSteps_165 : decode cX2_foreseeSteps 165 = .ok (.lstore 11, 2) := by decide +kernel
theorem dX2_foreseeSteps_167 : decode cX2_foreseeSteps 167 = .ok (.lload 9, 2) := by decide +kernel
theorem dX2_foreseeSteps_169 : decode cX2_foreseeSteps 169 = .ok (.invokestatic 89, 3) := by decide +kernel
theorem dX2_foreseeSteps_172 : decode cX2_foreseeSteps 172 = .ok (.lload 11, 2) := by decide +kernel
theorem dX2_foreseeSteps_174 : decode cX2_foreseeSteps 174 = .ok (.invokestatic 89, 3) := by decide +kernel
theorem dX2_foreseeSteps_177 : decode cX2_foreseeSteps 177 = .ok (.invokestatic 93, 3) := by decide +kernel
theorem dX2_foreseeSteps_180 : decode cX2_foreseeSteps 180 = .ok (.ldc2_w 87, 3) := by decide +kernel
theorem dX2_foreseeSteps_183 : decode cX2_foreseeSteps 183 = .ok (.lcmp, 1) := by decide +kernel
theorem dX2_foreseeSteps_184 : decode cX2_foreseeSteps 184 = .ok (.ifCond .le 6, 3) := by decide +kernel
theorem dX2_foreseeSteps_187 : decode cX2_foreseeSteps 187 = .ok (.goto 53, 3) := by decide +kernel
theorem dX2_foreseeSteps_190 : decode cX2_foreseeSteps 190 = .ok (.aload_n 0, 1) := by decide +kernel
theorem dX2_foreseeSteps_191 : decode cX2_foreseeSteps 191 = .ok (.aload_n 0, 1) := by decide +kernel
theorem dX2_foreseeSteps_192 : decode cX2_foreseeSteps 192 = .ok (.getfield 81, 3) := by decide +kernel
theorem dX2_foreseeSteps_195 : decode cX2_foreseeSteps 195 = .ok (.putfield 74, 3) := by decide +kernel
theorem dX2_foreseeSteps_198 : decode cX2_foreseeSteps 198 = .ok (.aload_n 0, 1) := by decide +kernel
theorem dX2_foreseeSteps_199 : decode cX2_foreseeSteps 199 = .ok (.aload_n 0, 1) := by decide +kernel
theorem dX2_foreseeSteps_200 : decode cX2_foreseeSteps 200 = .ok (.getfield 84, 3) := by decide +kernel
theorem dX2_foreseeSteps_203 : decode cX2_foreseeSteps 203 = .ok (.putfield 78, 3) := by decide +kernel
theorem dX2_foreseeSteps_206 : decode cX2_foreseeSteps 206 = .ok (.aload_n 0, 1) := by decide +kernel
theorem dX2_foreseeSteps_207 : decode cX2_foreseeSteps 207 = .ok (.lload 9, 2) := by decide +kernel
theorem dX2_foreseeSteps_209 : decode cX2_foreseeSteps 209 = .ok (.putfield 81, 3) := by decide +kernel
theorem dX2_foreseeSteps_212 : decode cX2_foreseeSteps 212 = .ok (.aload_n 0, 1) := by decide +kernel
theorem dX2_foreseeSteps_213 : decode cX2_foreseeSteps 213 = .ok (.lload 11, 2) := by decide +kernel
theorem dX2_foreseeSteps_215 : decode cX2_foreseeSteps 215 = .ok (.putfield 84, 3) := by decide +kernel
theorem dX2_foreseeSteps_218 : decode cX2_foreseeSteps 218 = .ok (.lload_n 2, 1) := by decide +kernel
theorem dX2_foreseeSteps_219 : decode cX2_foreseeSteps 219 = .ok (.lload 7, 2) := by decide +kernel
theorem dX2_foreseeSteps_221 : decode cX2_foreseeSteps 221 = .ok (.lload 4, 2) := by decide +kernel
theorem dX2_foreseeSteps_223 : decode cX2_foreseeSteps 223 = .ok (.lmul, 1) := by decide +kernel
theorem dX2_foreseeSteps_224 : decode cX2_foreseeSteps 224 = .ok (.lsub, 1) := by decide +kernel
theorem dX2_foreseeSteps_225 : decode cX2_foreseeSteps 225 = .ok (.lstore 13, 2) := by decide +kernel
theorem dX2_foreseeSteps_227 : decode cX2_foreseeSteps 227 = .ok (.lload 4, 2) := by decide +kernel
theorem dX2_foreseeSteps_229 : decode cX2_foreseeSteps 229 = .ok (.lstore_n 2, 1) := by decide +kernel
theorem dX2_foreseeSteps_230 : decode cX2_foreseeSteps 230 = .ok (.lload 13, 2) := by decide +kernel
theorem dX2_foreseeSteps_232 : decode cX2_foreseeSteps 232 = .ok (.lstore 4, 2) := by decide +kernel
theorem dX2_foreseeSteps_234 : decode cX2_foreseeSteps 234 = .ok (.iinc 6 1, 3) := by decide +kernel
theorem dX2_foreseeSteps_237 : decode cX2_foreseeSteps 237 = .ok (.goto (-180), 3) := by decide +kernel
theorem dX2_foreseeSteps_240 : decode cX2_foreseeSteps 240 = .ok (.aload_n 0, 1) := by decide +kernel
theorem dX2_foreseeSteps_241 : decode cX2_foreseeSteps 241 = .ok (.getfield 78, 3) := by decide +kernel
theorem dX2_foreseeSteps_244 : decode cX2_foreseeSteps 244 = .ok (.lconst 0, 1) := by decide +kernel
theorem dX2_foreseeSteps_245 : decode cX2_foreseeSteps 245 = .ok (.lcmp, 1) := by decide +kernel
theorem dX2_foreseeSteps_246 : decode cX2_foreseeSteps 246 = .ok (.ifCond .eq 7, 3) := by decide +kernel
theorem dX2_foreseeSteps_249 : decode cX2_foreseeSteps 249 = .ok (.iconst 1, 1) := by decide +kernel
theorem dX2_foreseeSteps_250 : decode cX2_foreseeSteps 250 = .ok (.goto 4, 3) := by decide +kernel
theorem dX2_foreseeSteps_253 : decode cX2_foreseeSteps 253 = .ok (.iconst 0, 1) := by decide +kernel
theorem dX2_foreseeSteps_254 : decode cX2_foreseeSteps 254 = .ok (.ireturn, 1) := by decide +kernel
theorem dX2_mix_0 : decode cX2_mix 0 = .ok (.aload_n 0, 1) := by decide +kernel
theorem dX2_mix_1 : decode cX2_mix 1 = .ok (.getfield 21, 3) := by decide +kernel
theorem dX2_mix_4 : decode cX2_mix 4 = .ok (.getfield 96, 3) := by decide +kernel
theorem dX2_mix_7 : decode cX2_mix 7 = .ok (.istore_n 1, 1) := by decide +kernel
theorem dX2_mix_8 : decode cX2_mix 8 = .ok (.lconst 0, 1) := by decide +kernel
theorem dX2_mix_9 : decode cX2_mix 9 = .ok (.lstore_n 2, 1) := by decide +kernel
theorem dX2_mix_10 : decode cX2_mix 10 = .ok (.lconst 0, 1) := by decide +kernel
theorem dX2_mix_11 : decode cX2_mix 11 = .ok (.lstore 4, 2) := by decide +kernel
theorem dX2_mix_13 : decode cX2_mix 13 = .ok (.iconst 0, 1) := by decide +kernel
theorem dX2_mix_14 : decode cX2_mix 14 = .ok (.istore 6, 2) := by decide +kernel
theorem dX2_mix_16 : decode cX2_mix 16 = .ok (.iload 6, 2) := by decide +kernel
theorem dX2_mix_18 : decode cX2_mix 18 = .ok (.iload_n 1, 1) := by decide +kernel
theorem dX2_mix_19 : decode cX2_mix 19 = .ok (.if_icmp .ge 110, 3) := by decide +kernel
theorem dX2_mix_22 : decode cX2_mix 22 = .ok (.aload_n 0, 1) := by decide +kernel
theorem dX2_mix_23 : decode cX2_mix 23 = .ok (.getfield 21, 3) := by decide +kernel
theorem dX2_mix_26 : decode cX2_mix 26 = .ok (.iload 6, 2) := by decide +kernel
theorem dX2_mix_28 : decode cX2_mix 28 = .ok (.invokevirtual 100, 3) := by decide +kernel
theorem dX2_mix_31 : decode cX2_mix 31 = .ok (.lstore 7, 2) := by decide +kernel
theorem dX2_mix_33 : decode cX2_mix 33 = .ok (.aload_n 0, 1) := by decide +kernel
theorem dX2_mix_34 : decode cX2_mix 34 = .ok (.getfield 25, 3) := by decide +kernel
theorem dX2_mix_37 : decode cX2_mix 37 = .ok (.iload 6, 2) := by decide +kernel
theorem dX2_mix_39 : decode cX2_mix 39 = .ok (.invokevirtual 100, 3) := by decide +kernel
theorem dX2_mix_42 : decode cX2_mix 42 = .ok (.lstore 9, 2) := by decide +kernel
theorem dX2_mix_44 : decode cX2_mix 44 = .ok (.lload_n 2, 1) := by decide +kernel
theorem dX2_mix_45 : decode cX2_mix 45 = .ok (.aload_n 0, 1) := by decide +kernel
theorem dX2_mix_46 : decode cX2_mix 46 = .ok (.getfield 74, 3) := by decide +kernel
theorem dX2_mix_49 : decode cX2_mix 49 = .ok (.lload 7, 2) := by decide +kernel
theorem dX2_mix_51 : decode cX2_mix 51 = .ok (.lmul, 1) := by decide +kernel
theorem dX2_mix_52 : decode cX2_mix 52 = .ok (.aload_n 0, 1) := by decide +kernel
theorem dX2_mix_53 : decode cX2_mix 53 = .ok (.getfield 78, 3) := by decide +kernel
theorem dX2_mix_56 : decode cX2_mix 56 = .ok (.lload 9, 2) := by decide +kernel
theorem dX2_mix_58 : decode cX2_mix 58 = .ok (.lmul, 1) := by decide +kernel
theorem dX2_mix_59 : decode cX2_mix 59 = .ok (.ladd, 1) := by decide +kernel
theorem dX2_mix_60 : decode cX2_mix 60 = .ok (.ladd, 1) := by decide +kernel
theorem dX2_mix_61 : decode cX2_mix 61 = .ok (.lstore_n 2, 1) := by decide +kernel
theorem dX2_mix_62 : decode cX2_mix 62 = .ok (.lload 4, 2) := by decide +kernel
theorem dX2_mix_64 : decode cX2_mix 64 = .ok (.aload_n 0, 1) := by decide +kernel
theorem dX2_mix_65 : decode cX2_mix 65 = .ok (.getfield 81, 3) := by decide +kernel
theorem dX2_mix_68 : decode cX2_mix 68 = .ok (.lload 7, 2) := by decide +kernel
theorem dX2_mix_70 : decode cX2_mix 70 = .ok (.lmul, 1) := by decide +kernel
theorem dX2_mix_71 : decode cX2_mix 71 = .ok (.aload_n 0, 1) := by decide +kernel
theorem dX2_mix_72 : decode cX2_mix 72 = .ok (.getfield 84, 3) := by decide +kernel
theorem dX2_mix_75 : decode cX2_mix 75 = .ok (.lload 9, 2) := by decide +kernel
theorem dX2_mix_77 : decode cX2_mix 77 = .ok (.lmul, 1) := by decide +kernel
theorem dX2_mix_78 : decode cX2_mix 78 = .ok (.ladd, 1) := by decide +kernel
theorem dX2_mix_79 : decode cX2_mix 79 = .ok (.ladd, 1) := by decide +kernel
theorem dX2_mix_80 : decode cX2_mix 80 = .ok (.lstore 4, 2) := by decide +kernel
theorem dX2_mix_82 : decode cX2_mix 82 = .ok (.aload_n 0, 1) := by decide +kernel
theorem dX2_mix_83 : decode cX2_mix 83 = .ok (.getfield 21, 3) := by decide +kernel
theorem dX2_mix_86 : decode cX2_mix 86 = .ok (.iload 6, 2) := by decide +kernel
theorem dX2_mix_88 : decode cX2_mix 88 = .ok (.lload_n 2, 1) := by decide +kernel
theorem dX2_mix_89 : decode cX2_mix 89 = .ok (.ldc2_w 87, 3) := by decide +kernel
theorem dX2_mix_92 : decode cX2_mix 92 = .ok (.land, 1) := by decide +kernel
theorem dX2_mix_93 : decode cX2_mix 93 = .ok (.invokevirtual 103, 3) := by decide +kernel
theorem dX2_mix_96 : decode cX2_mix 96 = .ok (.aload_n 0, 1) := by decide +kernel
theorem dX2_mix_97 : decode cX2_mix 97 = .ok (.getfield 25, 3) := by decide +kernel
theorem dX2_mix_100 : decode cX2_mix 100 = .ok (.iload 6, 2) := by decide +kernel
theorem dX2_mix_102 : decode cX2_mix 102 = .ok (.lload 4, 2) := by decide +kernel
theorem dX2_mix_104 : decode cX2_mix 104 = .ok (.ldc2_w 87, 3) := by decide +kernel
theorem dX2_mix_107 : decode cX2_mix 107 = .ok (.land, 1) := by decide +kernel
theorem dX2_mix_108 : decode cX2_mix 108 = .ok (.invokevirtual 103, 3) := by decide +kernel
theorem dX2_mix_111 : decode cX2_mix 111 = .ok (.lload_n 2, 1) := by decide +kernel
theorem dX2_mix_112 : decode cX2_mix 112 = .ok (.bipush 31, 2) := by decide +kernel
theorem dX2_mix_114 : decode cX2_mix 114 = .ok (.lshr, 1) := by decide +kernel
theorem dX2_mix_115 : decode cX2_mix 115 = .ok (.lstore_n 2, 1) := by decide +kernel
theorem dX2_mix_116 : decode cX2_mix 116 = .ok (.lload 4, 2) := by decide +kernel
theorem dX2_mix_118 : decode cX2_mix 118 = .ok (.bipush 31, 2) := by decide +kernel
theorem dX2_mix_120 : decode cX2_mix 120 = .ok (.lshr, 1) := by decide +kernel
theorem dX2_mix_121 : decode cX2_mix 121 = .ok (.lstore 4, 2) := by decide +kernel
theorem dX2_mix_123 : decode cX2_mix 123 = .ok (.iinc 6 1, 3) := by decide +kernel
theorem dX2_mix_126 : decode cX2_mix 126 = .ok (.goto (-110), 3) := by decide +kernel
theorem dX2_mix_129 : decode cX2_mix 129 = .ok (.aload_n 0, 1) := by decide +kernel
theorem dX2_mix_130 : decode cX2_mix 130 = .ok (.getfield 21, 3) := by decide +kernel
theorem dX2_mix_133 : decode cX2_mix 133 = .ok (.iload_n 1, 1) := by decide +kernel
theorem dX2_mix_134 : decode cX2_mix 134 = .ok (.invokevirtual 107, 3) := by decide +kernel
theorem dX2_mix_137 : decode cX2_mix 137 = .ok (.aload_n 0, 1) := by decide +kernel
theorem dX2_mix_138 : decode cX2_mix 138 = .ok (.getfield 25, 3) := by decide +kernel
theorem dX2_mix_141 : decode cX2_mix 141 = .ok (.iload_n 1, 1) := by decide +kernel
theorem dX2_mix_142 : decode cX2_mix 142 = .ok (.invokevirtual 107, 3) := by decide +kernel
theorem dX2_mix_145 : decode cX2_mix 145 = .ok (.return_, 1) := by decide +kernel
end
section
theorem dX4_init_0 : decode cX4_init 0 = .ok (.aload_n 0, 1) := by decide +kernel
theorem dX4_init_1 : decode cX4_init 1 = .ok (.invokespecial 1, 3) := by decide +kernel
theorem dX4_init_4 : decode cX4_init 4 = .ok (.aload_n 0, 1) := by decide +kernel
theorem dX4_init_5 : decode cX4_init 5 = .ok (.sipush 150, 3) := by decide +kernel
theorem dX4_init_8 : decode cX4_init 8 = .ok (.anewarray 9, 3) := by decide +kernel
theorem dX4_init_11 : decode cX4_init 11 = .ok (.putfield 11, 3) := by decide +kernel
theorem dX4_init_14 : decode cX4_init 14 = .ok (.aload_n 0, 1) := by decide +kernel
theorem dX4_init_15 : decode cX4_init 15 = .ok (.bipush 80, 2) := by decide +kernel
theorem dX4_init_17 : decode cX4_init 17 = .ok (.newarray .int, 2) := by decide +kernel
theorem dX4_init_19 : decode cX4_init 19 = .ok (.putfield 15, 3) := by decide +kernel
theorem dX4_init_22 : decode cX4_init 22 = .ok (.aload_n 0, 1) := by decide +kernel
theorem dX4_init_23 : decode cX4_init 23 = .ok (.bipush 32, 2) := by decide +kernel
theorem dX4_init_25 : decode cX4_init 25 = .ok (.newarray .long, 2) := by decide +kernel
theorem dX4_init_27 : decode cX4_init 27 = .ok (.putfield 19, 3) := by decide +kernel
theorem dX4_init_30 : decode cX4_init 30 = .ok (.aload_n 0, 1) := by decide +kernel
theorem dX4_init_31 : decode cX4_init 31 = .ok (.new 23, 3) := by decide +kernel
theorem dX4_init_34 : decode cX4_init 34 = .ok (.dup, 1) := by decide +kernel
theorem dX4_init_35 : decode cX4_init 35 = .ok (.bipush 56, 2) := by decide +kernel
theorem dX4_init_37 : decode cX4_init 37 = .ok (.invokespecial 25, 3) := by decide +kernel
theorem dX4_init_40 : decode cX4_init 40 = .ok (.putfield 28, 3) := by decide +kernel
theorem dX4_init_43 : decode cX4_init 43 = .ok (.aload_n 0, 1) := by decide +kernel
theorem dX4_init_44 : decode cX4_init 44 = .ok (.new 23, 3) := by decide +kernel
theorem dX4_init_47 : decode cX4_init 47 = .ok (.dup, 1) := by decide +kernel
theorem dX4_init_48 : decode cX4_init 48 = .ok (.bipush 56, 2) := by decide +kernel
theorem dX4_init_50 : decode cX4_init 50 = .ok (.invokespecial 25, 3) := by decide +kernel
theorem dX4_init_53 : decode cX4_init 53 = .ok (.putfield 32, 3) := by decide +kernel
theorem dX4_init_56 : decode cX4_init 56 = .ok (.aload_n 0, 1) := by decide +kernel
theorem dX4_init_57 : decode cX4_init 57 = .ok (.new 23, 3) := by decide +kernel
theorem dX4_init_60 : decode cX4_init 60 = .ok (.dup, 1) := by decide +kernel
theorem dX4_init_61 : decode cX4_init 61 = .ok (.bipush 56, 2) := by decide +kernel
theorem dX4_init_63 : decode cX4_init 63 = .ok (.invokespecial 25, 3) := by decide +kernel
theorem dX4_init_66 : decode cX4_init 66 = .ok (.putfield 35, 3) := by decide +kernel
theorem dX4_init_69 : decode cX4_init 69 = .ok (.aload_n 0, 1) := by decide +kernel
theorem dX4_init_70 : decode cX4_init 70 = .ok (.new 23, 3) := by decide +kernel
theorem dX4_init_73 : decode cX4_init 73 = .ok (.dup, 1) := by decide +kernel
theorem dX4_init_74 : decode cX4_init 74 = .ok (.bipush 56, 2) := by decide +kernel
theorem dX4_init_76 : decode cX4_init 76 = .ok (.invokespecial 25, 3) := by decide +kernel
theorem dX4_init_79 : decode cX4_init 79 = .ok (.putfield 38, 3) := by decide +kernel
theorem dX4_init_82 : decode cX4_init 82 = .ok (.aload_n 0, 1) := by decide +kernel
theorem dX4_init_83 : decode cX4_init 83 = .ok (.new 23, 3) := by decide +kernel
theorem dX4_init_86 : decode cX4_init 86 = .ok (.dup, 1) := by decide +kernel
theorem dX4_init_87 : decode cX4_init 87 = .ok (.iconst 1, 1) := by decide +kernel
theorem dX4_init_88 : decode cX4_init 88 = .ok (.invokespecial 25, 3) := by decide +kernel
theorem dX4_init_91 : decode cX4_init 91 = .ok (.putfield 41, 3) := by decide +kernel
theorem dX4_init_94 : decode cX4_init 94 = .ok (.aload_n 0, 1) := by decide +kernel
theorem dX4_init_95 : decode cX4_init 95 = .ok (.sipush 243, 3) := by decide +kernel
theorem dX4_init_98 : decode cX4_init 98 = .ok (.newarray .int, 2) := by decide +kernel
theorem dX4_init_100 : decode cX4_init 100 = .ok (.putfield 44, 3) := by decide +kernel
theorem dX4_init_103 : decode cX4_init 103 = .ok (.aload_n 0, 1) := by decide +kernel
theorem dX4_init_104 : decode cX4_init 104 = .ok (.new 47, 3) := by decide +kernel
theorem dX4_init_107 : decode cX4_init 107 = .ok (.dup, 1) := by decide +kernel
theorem dX4_init_108 : decode cX4_init 108 = .ok (.invokespecial 49, 3) := by decide +kernel
theorem dX4_init_111 : decode cX4_init 111 = .ok (.putfield 50, 3) := by decide +kernel
theorem dX4_init_114 : decode cX4_init 114 = .ok (.aload_n 0, 1) := by decide +kernel
theorem dX4_init_115 : decode cX4_init 115 = .ok (.new 54, 3) := by decide +kernel
theorem dX4_init_118 : decode cX4_init 118 = .ok (.dup, 1) := by decide +kernel
theorem dX4_init_119 : decode cX4_init 119 = .ok (.invokespecial 56, 3) := by decide +kernel
theorem dX4_init_122 : decode cX4_init 122 = .ok (.putfield 57, 3) := by decide +kernel
theorem dX4_init_125 : decode cX4_init 125 = .ok (.aload_n 0, 1) := by decide +kernel
theorem dX4_init_126 : decode cX4_init 126 = .ok (.getfield 41, 3) := by decide +kernel
theorem dX4_init_129 : decode cX4_init 129 = .ok (.lconst 1, 1) := by decide +kernel
theorem dX4_init_130 : decode cX4_init 130 = .ok (.invokevirtual 61, 3) := by decide +kernel
theorem dX4_init_133 : decode cX4_init 133 = .ok (.new 9, 3) := by decide +kernel
theorem dX4_init_136 : decode cX4_init 136 = .ok (.dup, 1) := by decide +kernel
theorem dX4_init_137 : decode cX4_init 137 = .ok (.iconst 0, 1) := by decide +kernel
theorem dX4_init_138 : decode cX4_init 138 = .ok (.aload_n 0, 1) := by decide +kernel
theorem dX4_init_139 : decode cX4_init 139 = .ok (.getfield 28, 3) := by decide +kernel
theorem dX4_init_142 : decode cX4_init 142 = .ok (.aload_n 0, 1) := by decide +kernel
theorem dX4_init_143 : decode cX4_init 143 = .ok (.getfield 41, 3) := by decide +kernel
theorem dX4_init_146 : decode cX4_init 146 = .ok (.invokespecial 65, 3) := by decide +kernel
theorem dX4_init_149 : decode cX4_init 149 = .ok (.astore_n 1, 1) := by decide +kernel
theorem dX4_init_150 : decode cX4_init 150 = .ok (.iconst 0, 1) := by decide +kernel
theorem dX4_init_151 : decode cX4_init 151 = .ok (.istore_n 2, 1) := by decide +kernel
theorem dX4_init_152 : decode cX4_init 152 = .ok (.iload_n 2, 1) := by decide +kernel
theorem dX4_init_153 : decode cX4_init 153 = .ok (.aload_n 0, 1) := by decide +kernel
theorem dX4_init_154 : decode cX4_init 154 = .ok (.getfield 11, 3) := by decide +kernel
theorem dX4_init_157 : decode cX4_init 157 = .ok (.arraylength, 1) := by decide +kernel
theorem dX4_init_158 : decode cX4_init 158 = .ok (.if_icmp .ge 16, 3) := by decide +kernel
theorem dX4_init_161 : decode cX4_init 161 = .ok (.aload_n 0, 1) := by decide +kernel
theorem dX4_init_162 : decode cX4_init 162 = .ok (.getfield 11, 3) := by decide +kernel
theorem dX4_init_165 : decode cX4_init 165 = .ok (.iload_n 2, 1) := by decide +kernel
theorem dX4_init_166 : decode cX4_init 166 = .ok (.aload_n 1, 1) := by decide +kernel
theorem dX4_init_167 : decode cX4_init 167 = .ok (.aastore, 1) := by decide +kernel
theorem dX4_init_168 : decode cX4_init 168 = .ok (.iinc 2 1, 3) := by decide +kernel
theorem dX4_init_171 : decode cX4_init 171 = .ok (.goto (-19), 3) := by decide +kernel
theorem dX4_init_174 : decode cX4_init 174 = .ok (.return_, 1) := by decide +kernel
theorem dX4_value_0 : decode cX4_value 0 = .ok (.lload_n 3, 1) := by decide +kernel
theorem dX4_value_1 : decode cX4_value 1 = .ok (.lconst 0, 1) := by decide +kernel
theorem dX4_value_2 : decode cX4_value 2 = .ok (.lcmp, 1) := by decide +kernel
theorem dX4_value_3 : decode cX4_value 3 = .ok (.ifCond .ne 13, 3) := by decide +kernel
theorem dX4_value_6 : decode cX4_value 6 = .ok (.new 68, 3) := by decide +kernel
theorem dX4_value_9 : decode cX4_value 9 = .ok (.dup, 1) := by decide +kernel
theorem dX4_value_10 : decode cX4_value 10 = .ok (.ldc 70, 2) := by decide +kernel
theorem dX4_value_12 : decode cX4_value 12 = .ok (.invokespecial 72, 3) := by decide +kernel
theorem dX4_value_15 : decode cX4_value 15 = .ok (.athrow, 1) := by decide +kernel
theorem dX4_value_16 : decode cX4_value 16 = .ok (.aload_n 0, 1) := by decide +kernel
theorem dX4_value_17 : decode cX4_value 17 = .ok (.getfield 28, 3) := by decide +kernel
theorem dX4_value_20 : decode cX4_value 20 = .ok (.lload_n 1, 1) := by decide +kernel
theorem dX4_value_21 : decode cX4_value 21 = .ok (.invokevirtual 61, 3) := by decide +kernel
theorem dX4_value_24 : decode cX4_value 24 = .ok (.aload_n 0, 1) := by decide +kernel
theorem dX4_value_25 : decode cX4_value 25 = .ok (.getfield 32, 3) := by decide +kernel
theorem dX4_value_28 : decode cX4_value 28 = .ok (.lload_n 3, 1) := by decide +kernel
theorem dX4_value_29 : decode cX4_value 29 = .ok (.invokevirtual 61, 3) := by decide +kernel
theorem dX4_value_32 : decode cX4_value 32 = .ok (.aload_n 0, 1) := by decide +kernel
theorem dX4_value_33 : decode cX4_value 33 = .ok (.lload_n 1, 1) := by decide +kernel
theorem dX4_value_34 : decode cX4_value 34 = .ok (.lconst 0, 1) := by decide +kernel
theorem dX4_value_35 : decode cX4_value 35 = .ok (.lcmp, 1) := by decide +kernel
theorem dX4_value_36 : decode cX4_value 36 = .ok (.ifCond .ge 7, 3) := by decide +kernel
theorem dX4_value_39 : decode cX4_value 39 = .ok (.iconst 1, 1) := by decide +kernel
theorem dX4_value_40 : decode cX4_value 40 = .ok (.goto 4, 3) := by decide +kernel
theorem dX4_value_43 : decode cX4_value 43 = .ok (.iconst 0, 1) := by decide +kernel
theorem dX4_value_44 : decode cX4_value 44 = .ok (.lload_n 3, 1) := by decide +kernel
theorem dX4_value_45 : decode cX4_value 45 = .ok (.lconst 0, 1) := by decide +kernel
theorem dX4_value_46 : decode cX4_value 46 = .ok (.lcmp, 1) := by decide +kernel
theorem dX4_value_47 : decode cX4_value 47 = .ok (.ifCond .ge 7, 3) := by decide +kernel
theorem dX4_value_50 : decode cX4_value 50 = .ok (.iconst 1, 1) := by decide +kernel
theorem dX4_value_51 : decode cX4_value 51 = .ok (.goto 4, 3) := by decide +kernel
theorem dX4_value_54 : decode cX4_value 54 = .ok (.iconst 0, 1) := by decide +kernel
theorem dX4_value_55 : decode cX4_value 55 = .ok (.if_icmp .ne 7, 3) := by decide +kernel
theorem dX4_value_58 : decode cX4_value 58 = .ok (.iconst 1, 1) := by decide +kernel
theorem dX4_value_59 : decode cX4_value 59 = .ok (.goto 4, 3) := by decide +kernel
theorem dX4_value_62 : decode cX4_value 62 = .ok (.iconst (-1), 1) := by decide +kernel
theorem dX4_value_63 : decode cX4_value 63 = .ok (.invokevirtual 75, 3) := by decide +kernel
theorem dX4_value_66 : decode cX4_value 66 = .ok (.ireturn, 1) := by decide +kernel
theorem dX4_add_0 : decode cX4_add 0 = .ok (.aload_n 0, 1) := by decide +kernel
theorem dX4_add_1 : decode cX4_add 1 = .ok (.iload_n 1, 1) := by decide +kernel
theorem dX4_add_2 : decode cX4_add 2 = .ok (.invokevirtual 79, 3) := by decide +kernel
theorem dX4_add_5 : decode cX4_add 5 = .ok (.astore_n 3, 1) := by decide +kernel
theorem dX4_add_6 : decode cX4_add 6 = .ok (.aload_n 0, 1) := by decide +kernel
theorem dX4_add_7 : decode cX4_add 7 = .ok (.iload_n 2, 1) := by decide +kernel
theorem dX4_add_8 : decode cX4_add 8 = .ok (.invokevirtual 79, 3) := by decide +kernel
theorem dX4_add_11 : decode cX4_add 11 = .ok (.astore 4, 2) := by decide +kernel
theorem dX4_add_13 : decode cX4_add 13 = .ok (.aload_n 0, 1) := by decide +kernel
theorem dX4_add_14 : decode cX4_add 14 = .ok (.getfield 35, 3) := by decide +kernel
theorem dX4_add_17 : decode cX4_add 17 = .ok (.aload_n 3, 1) := by decide +kernel
theorem dX4_add_18 : decode cX4_add 18 = .ok (.getfield 83, 3) := by decide +kernel
theorem dX4_add_21 : decode cX4_add 21 = .ok (.aload 4, 2) := by decide +kernel
theorem dX4_add_23 : decode cX4_add 23 = .ok (.getfield 86, 3) := by decide +kernel
theorem dX4_add_26 : decode cX4_add 26 = .ok (.invokevirtual 89, 3) := by decide +kernel
theorem dX4_add_29 : decode cX4_add 29 = .ok (.aload_n 0, 1) := by decide +kernel
theorem dX4_add_30 : decode cX4_add 30 = .ok (.getfield 38, 3) := by decide +kernel
theorem dX4_add_33 : decode cX4_add 33 = .ok (.aload 4, 2) := by decide +kernel
theorem dX4_add_35 : decode cX4_add 35 = .ok (.getfield 83, 3) := by decide +kernel
theorem dX4_add_38 : decode cX4_add 38 = .ok (.aload_n 3, 1) := by decide +kernel
theorem dX4_add_39 : decode cX4_add 39 = .ok (.getfield 86, 3) := by decide +kernel
theorem dX4_add_42 : decode cX4_add 42 = .ok (.invokevirtual 89, 3) := by decide +kernel
theorem dX4_add_45 : decode cX4_add 45 = .ok (.aload_n 0, 1) := by decide +kernel
theorem dX4_add_46 : decode cX4_add 46 = .ok (.getfield 32, 3) := by decide +kernel
theorem dX4_add_49 : decode cX4_add 49 = .ok (.aload_n 3, 1) := by decide +kernel
theorem dX4_add_50 : decode cX4_add 50 = .ok (.getfield 86, 3) := by decide +kernel
theorem dX4_add_53 : decode cX4_add 53 = .ok (.aload 4, 2) := by decide +kernel
theorem dX4_add_55 : decode cX4_add 55 = .ok (.getfield 86, 3) := by decide +kernel
theorem dX4_add_58 : decode cX4_add 58 = .ok (.invokevirtual 89, 3) := by decide +kernel
theorem dX4_add_61 : decode cX4_add 61 = .ok (.aload_n 3, 1) := by decide +kernel
theorem dX4_add_62 : decode cX4_add 62 = .ok (.getfield 93, 3) := by decide +kernel
theorem dX4_add_65 : decode cX4_add 65 = .ok (.aload 4, 2) := by decide +kernel
theorem dX4_add_67 : decode cX4_add 67 = .ok (.getfield 93, 3) := by decide +kernel
theorem dX4_add_70 : decode cX4_add 70 = .ok (.imul, 1) := by decide +kernel
theorem dX4_add_71 : decode cX4_add 71 = .ok (.ifCond .lt 42, 3) := by decide +kernel
theorem dX4_add_74 : decode cX4_add 74 = .ok (.aload_n 0, 1) := by decide +kernel
theorem dX4_add_75 : decode cX4_add 75 = .ok (.getfield 28, 3) := by decide +kernel
theorem dX4_add_78 : decode cX4_add 78 = .ok (.aload_n 0, 1) := by decide +kernel
theorem dX4_add_79 : decode cX4_add 79 = .ok (.getfield 35, 3) := by decide +kernel
theorem dX4_add_82 : decode cX4_add 82 = .ok (.aload_n 0, 1) := by decide +kernel
theorem dX4_add_83 : decode cX4_add 83 = .ok (.getfield 38, 3) := by decide +kernel
theorem dX4_add_86 : decode cX4_add 86 = .ok (.invokevirtual 97, 3) := by decide +kernel
theorem dX4_add_89 : decode cX4_add 89 = .ok (.aload_n 0, 1) := by decide +kernel
theorem dX4_add_90 : decode cX4_add 90 = .ok (.aload_n 3, 1) := by decide +kernel
theorem dX4_add_91 : decode cX4_add 91 = .ok (.getfield 93, 3) := by decide +kernel
theorem dX4_add_94 : decode cX4_add 94 = .ok (.ifCond .eq 10, 3) := by decide +kernel
theorem dX4_add_97 : decode cX4_add 97 = .ok (.aload_n 3, 1) := by decide +kernel
theorem dX4_add_98 : decode cX4_add 98 = .ok (.getfield 93, 3) := by decide +kernel
theorem dX4_add_101 : decode cX4_add 101 = .ok (.goto 8, 3) := by decide +kernel
theorem dX4_add_104 : decode cX4_add 104 = .ok (.aload 4, 2) := by decide +kernel
theorem dX4_add_106 : decode cX4_add 106 = .ok (.getfield 93, 3) := by decide +kernel
theorem dX4_add_109 : decode cX4_add 109 = .ok (.invokevirtual 75, 3) := by decide +kernel
theorem dX4_add_112 : decode cX4_add 112 = .ok (.ireturn, 1) := by decide +kernel
theorem dX4_add_113 : decode cX4_add 113 = .ok (.aload_n 0, 1) := by decide +kernel
theorem dX4_add_114 : decode cX4_add 114 = .ok (.getfield 35, 3) := by decide +kernel
theorem dX4_add_117 : decode cX4_add 117 = .ok (.aload_n 0, 1) := by decide +kernel
theorem dX4_add_118 : decode cX4_add 118 = .ok (.getfield 38, 3) := by decide +kernel
theorem dX4_add_121 : decode cX4_add 121 = .ok (.invokevirtual 100, 3) := by decide +kernel
theorem dX4_add_124 : decode cX4_add 124 = .ok (.ifCond .lt 27, 3) := by decide +kernel
theorem dX4_add_127 : decode cX4_add 127 = .ok (.aload_n 0, 1) := by decide +kernel
theorem dX4_add_128 : decode cX4_add 128 = .ok (.getfield 28, 3) := by decide +kernel
theorem dX4_add_131 : decode cX4_add 131 = .ok (.aload_n 0, 1) := by decide +kernel
theorem dX4_add_132 : decode cX4_add 132 = .ok (.getfield 35, 3) := by decide +kernel
theorem dX4_add_135 : decode cX4_add 135 = .ok (.aload_n 0, 1) := by decide +kernel
theorem dX4_add_136 : decode cX4_add 136 = .ok (.getfield 38, 3) := by decide +kernel
theorem dX4_add_139 : decode cX4_add 139 = .ok (.invokevirtual 104, 3) := by decide +kernel
theorem dX4_add_142 : decode cX4_add 142 = .ok (.aload_n 0, 1) := by decide +kernel
theorem dX4_add_143 : decode cX4_add 143 = .ok (.aload_n 3, 1) := by decide +kernel
theorem dX4_add_144 : decode cX4_add 144 = .ok (.getfield 93, 3) := by decide +kernel
theorem dX4_add_147 : decode cX4_add 147 = .ok (.invokevirtual 75, 3) := by decide +kernel
theorem dX4_add_150 : decode cX4_add 150 = .ok (.ireturn, 1) := by decide +kernel
theorem dX4_add_151 : decode cX4_add 151 = .ok (.aload_n 0, 1) := by decide +kernel
theorem dX4_add_152 : decode cX4_add 152 = .ok (.getfield 28, 3) := by decide +kernel
theorem dX4_add_155 : decode cX4_add 155 = .ok (.aload_n 0, 1) := by decide +kernel
theorem dX4_add_156 : decode cX4_add 156 = .ok (.getfield 38, 3) := by decide +kernel
theorem dX4_add_159 : decode cX4_add 159 = .ok (.aload_n 0, 1) := by decide +kernel
theorem dX4_add_160 : decode cX4_add 160 = .ok (.getfield 35, 3) := by decide +kernel
theorem dX4_add_163 : decode cX4_add 163 = .ok (.invokevirtual 104, 3) := by decide +kernel
theorem dX4_add_166 : decode cX4_add 166 = .ok (.aload_n 0, 1) := by decide +kernel
theorem dX4_add_167 : decode cX4_add 167 = .ok (.aload 4, 2) := by decide +kernel
theorem dX4_add_169 : decode cX4_add 169 = .ok (.getfield 93, 3) := by decide +kernel
theorem dX4_add_172 : decode cX4_add 172 = .ok (.invokevirtual 75, 3) := by decide +kernel
theorem dX4_add_175 : decode cX4_add 175 = .ok (.ireturn, 1) := by decide +kernel
theorem dX4_times_0 : decode cX4_times 0 = .ok (.aload_n 0, 1) := by decide +kernel
theorem dX4_times_1 : decode cX4_times 1 = .ok (.iload_n 1, 1) := by decide +kernel
theorem dX4_times_2 : decode cX4_times 2 = .ok (.invokevirtual 79, 3) := by decide +kernel
theorem dX4_times_5 : decode cX4_times 5 = .ok (.astore_n 3, 1) := by decide +kernel
theorem dX4_times_6 : decode cX4_times 6 = .ok (.aload_n 0, 1) := by decide +kernel
theorem dX4_times_7 : decode cX4_times 7 = .ok (.iload_n 2, 1) := by decide +kernel
theorem dX4_times_8 : decode cX4_times 8 = .ok (.invokevirtual 79, 3) := by decide +kernel
theorem dX4_times_11 : decode cX4_times 11 = .ok (.astore 4, 2) := by decide +kernel
theorem dX4_times_13 : decode cX4_times 13 = .ok (.aload_n 0, 1) := by decide +kernel
theorem dX4_times_14 : decode cX4_times 14 = .ok (.getfield 28, 3) := by decide +kernel
theorem dX4_times_17 : decode cX4_times 17 = .ok (.aload_n 3, 1) := by decide +kernel
theorem dX4_times_18 : decode cX4_times 18 = .ok (.getfield 83, 3) := by decide +kernel
theorem dX4_times_21 : decode cX4_times 21 = .ok (.aload 4, 2) := by decide +kernel
theorem dX4_times_23 : decode cX4_times 23 = .ok (.getfield 83, 3) := by decide +kernel
theorem dX4_times_26 : decode cX4_times 26 = .ok (.invokevirtual 89, 3) := by decide +kernel
theorem dX4_times_29 : decode cX4_times 29 = .ok (.aload_n 0, 1) := by decide +kernel
theorem dX4_times_30 : decode cX4_times 30 = .ok (.getfield 32, 3) := by decide +kernel
theorem dX4_times_33 : decode cX4_times 33 = .ok (.aload_n 3, 1) := by decide +kernel
theorem dX4_times_34 : decode cX4_times 34 = .ok (.getfield 86, 3) := by decide +kernel
theorem dX4_times_37 : decode cX4_times 37 = .ok (.aload 4, 2) := by decide +kernel
theorem dX4_times_39 : decode cX4_times 39 = .ok (.getfield 86, 3) := by decide +kernel
theorem dX4_times_42 : decode cX4_times 42 = .ok (.invokevirtual 89, 3) := by decide +kernel
theorem dX4_times_45 : decode cX4_times 45 = .ok (.aload_n 0, 1) := by decide +kernel
theorem dX4_times_46 : decode cX4_times 46 = .ok (.aload_n 3, 1) := by decide +kernel
theorem dX4_times_47 : decode cX4_times 47 = .ok (.getfield 93, 3) := by decide +kernel
theorem dX4_times_50 : decode cX4_times 50 = .ok (.aload 4, 2) := by decide +kernel
theorem dX4_times_52 : decode cX4_times 52 = .ok (.getfield 93, 3) := by decide +kernel
theorem dX4_times_55 : decode cX4_times 55 = .ok (.imul, 1) := by decide +kernel
theorem dX4_times_56 : decode cX4_times 56 = .ok (.invokevirtual 75, 3) := by decide +kernel
theorem dX4_times_59 : decode cX4_times 59 = .ok (.ireturn, 1) := by decide +kernel
theorem dX4_over_0 : decode cX4_over 0 = .ok (.aload_n 0, 1) := by decide +kernel
theorem dX4_over_1 : decode cX4_over 1 = .ok (.iload_n 1, 1) := by decide +kernel
theorem dX4_over_2 : decode cX4_over 2 = .ok (.invokevirtual 79, 3) := by decide +kernel
theorem dX4_over_5 : decode cX4_over 5 = .ok (.astore_n 3, 1) := by decide +kernel
theorem dX4_over_6 : decode cX4_over 6 = .ok (.aload_n 0, 1) := by decide +kernel
theorem dX4_over_7 : decode cX4_over 7 = .ok (.iload_n 2, 1) := by decide +kernel
theorem dX4_over_8 : decode cX4_over 8 = .ok (.invokevirtual 79, 3) := by decide +kernel
theorem dX4_over_11 : decode cX4_over 11 = .ok (.astore 4, 2) := by decide +kernel
theorem dX4_over_13 : decode cX4_over 13 = .ok (.aload 4, 2) := by decide +kernel
theorem dX4_over_15 : decode cX4_over 15 = .ok (.getfield 93, 3) := by decide +kernel
theorem dX4_over_18 : decode cX4_over 18 = .ok (.ifCond .ne 13, 3) := by decide +kernel
theorem dX4_over_21 : decode cX4_over 21 = .ok (.new 68, 3) := by decide +kernel
theorem dX4_over_24 : decode cX4_over 24 = .ok (.dup, 1) := by decide +kernel
theorem dX4_over_25 : decode cX4_over 25 = .ok (.ldc 70, 2) := by decide +kernel
theorem dX4_over_27 : decode cX4_over 27 = .ok (.invokespecial 72, 3) := by decide +kernel
theorem dX4_over_30 : decode cX4_over 30 = .ok (.athrow, 1) := by decide +kernel
theorem dX4_over_31 : decode cX4_over 31 = .ok (.aload_n 0, 1) := by decide +kernel
theorem dX4_over_32 : decode cX4_over 32 = .ok (.getfield 28, 3) := by decide +kernel
theorem dX4_over_35 : decode cX4_over 35 = .ok (.aload_n 3, 1) := by decide +kernel
theorem dX4_over_36 : decode cX4_over 36 = .ok (.getfield 83, 3) := by decide +kernel
theorem dX4_over_39 : decode cX4_over 39 = .ok (.aload 4, 2) := by decide +kernel
theorem dX4_over_41 : decode cX4_over 41 = .ok (.getfield 86, 3) := by decide +kernel
theorem dX4_over_44 : decode cX4_over 44 = .ok (.invokevirtual 89, 3) := by decide +kernel
theorem dX4_over_47 : decode cX4_over 47 = .ok (.aload_n 0, 1) := by decide +kernel
theorem dX4_over_48 : decode cX4_over 48 = .ok (.getfield 32, 3) := by decide +kernel
theorem dX4_over_51 : decode cX4_over 51 = .ok (.aload_n 3, 1) := by decide +kernel
theorem dX4_over_52 : decode cX4_over 52 = .ok (.getfield 86, 3) := by decide +kernel
theorem dX4_over_55 : decode cX4_over 55 = .ok (.aload 4, 2) := by decide +kernel
theorem dX4_over_57 : decode cX4_over 57 = .ok (.getfield 83, 3) := by decide +kernel
theorem dX4_over_60 : decode cX4_over 60 = .ok (.invokevirtual 89, 3) := by decide +kernel
theorem dX4_over_63 : decode cX4_over 63 = .ok (.aload_n 0, 1) := by decide +kernel
theorem dX4_over_64 : decode cX4_over 64 = .ok (.aload_n 3, 1) := by decide +kernel
theorem dX4_over_65 : decode cX4_over 65 = .ok (.getfield 93, 3) := by decide +kernel
theorem dX4_over_68 : decode cX4_over 68 = .ok (.aload 4, 2) := by decide +kernel
theorem dX4_over_70 : decode cX4_over 70 = .ok (.getfield 93, 3) := by decide +kernel
theorem dX4_over_73 : decode cX4_over 73 = .ok (.imul, 1) := by decide +kernel
theorem dX4_over_74 : decode cX4_over 74 = .ok (.invokevirtual 75, 3) := by decide +kernel
theorem dX4_over_77 : decode cX4_over 77 = .ok (.ireturn, 1) := by decide +kernel
theorem dX4_order_0 : decode cX4_order 0 = .ok (.aload_n 0, 1) := by decide +kernel
theorem dX4_order_1 : decode cX4_order 1 = .ok (.iload_n 1, 1) := by decide +kernel
theorem dX4_order_2 : decode cX4_order 2 = .ok (.invokevirtual 79, 3) := by decide +kernel
theorem dX4_order_5 : decode cX4_order 5 = .ok (.astore_n 3, 1) := by decide +kernel
theorem dX4_order_6 : decode cX4_order 6 = .ok (.aload_n 0, 1) := by decide +kernel
theorem dX4_order_7 : decode cX4_order 7 = .ok (.iload_n 2, 1) := by decide +kernel
theorem dX4_order_8 : decode cX4_order 8 = .ok (.invokevirtual 79, 3) := by decide +kernel
theorem dX4_order_11 : decode cX4_order 11 = .ok (.astore 4, 2) := by decide +kernel
theorem dX4_order_13 : decode cX4_order 13 = .ok (.aload_n 3, 1) := by decide +kernel
theorem dX4_order_14 : decode cX4_order 14 = .ok (.getfield 93, 3) := by decide +kernel
theorem dX4_order_17 : decode cX4_order 17 = .ok (.aload 4, 2) := by decide +kernel
theorem dX4_order_19 : decode cX4_order 19 = .ok (.getfield 93, 3) := by decide +kernel
theorem dX4_order_22 : decode cX4_order 22 = .ok (.if_icmp .eq 21, 3) := by decide +kernel
theorem dX4_order_25 : decode cX4_order 25 = .ok (.aload_n 3, 1) := by decide +kernel
theorem dX4_order_26 : decode cX4_order 26 = .ok (.getfield 93, 3) := by decide +kernel
theorem dX4_order_29 : decode cX4_order 29 = .ok (.aload 4, 2) := by decide +kernel
theorem dX4_order_31 : decode cX4_order 31 = .ok (.getfield 93, 3) := by decide +kernel
theorem dX4_order_34 : decode cX4_order 34 = .ok (.if_icmp .ge 7, 3) := by decide +kernel
theorem dX4_order_37 : decode cX4_order 37 = .ok (.iconst (-1), 1) := by decide +kernel
theorem dX4_order_38 : decode cX4_order 38 = .ok (.goto 4, 3) := by decide +kernel
theorem dX4_order_41 : decode cX4_order 41 = .ok (.iconst 1, 1) := by decide +kernel
theorem dX4_order_42 : decode cX4_order 42 = .ok (.ireturn, 1) := by decide +kernel
theorem dX4_order_43 : decode cX4_order 43 = .ok (.aload_n 0, 1) := by decide +kernel
theorem dX4_order_44 : decode cX4_order 44 = .ok (.getfield 35, 3) := by decide +kernel
theorem dX4_order_47 : decode cX4_order 47 = .ok (.aload_n 3, 1) := by decide +kernel
theorem dX4_order_48 : decode cX4_order 48 = .ok (.getfield 83, 3) := by decide +kernel
theorem dX4_order_51 : decode cX4_order 51 = .ok (.aload 4, 2) := by decide +kernel
theorem dX4_order_53 : decode cX4_order 53 = .ok (.getfield 86, 3) := by decide +kernel
theorem dX4_order_56 : decode cX4_order 56 = .ok (.invokevirtual 89, 3) := by decide +kernel
theorem dX4_order_59 : decode cX4_order 59 = .ok (.aload_n 0, 1) := by decide +kernel
theorem dX4_order_60 : decode cX4_order 60 = .ok (.getfield 38, 3) := by decide +kernel
theorem dX4_order_63 : decode cX4_order 63 = .ok (.aload 4, 2) := by decide +kernel
theorem dX4_order_65 : decode cX4_order 65 = .ok (.getfield 83, 3) := by decide +kernel
theorem dX4_order_68 : decode cX4_order 68 = .ok (.aload_n 3, 1) := by decide +kernel
theorem dX4_order_69 : decode cX4_order 69 = .ok (.getfield 86, 3) := by decide +kernel
theorem dX4_order_72 : decode cX4_order 72 = .ok (.invokevirtual 89, 3) := by decide +kernel
theorem dX4_order_75 : decode cX4_order 75 = .ok (.aload_n 3, 1) := by decide +kernel
theorem dX4_order_76 : decode cX4_order 76 = .ok (.getfield 93, 3) := by decide +kernel
theorem dX4_order_79 : decode cX4_order 79 = .ok (.aload_n 0, 1) := by decide +kernel
theorem dX4_order_80 : decode cX4_order 80 = .ok (.getfield 35, 3) := by decide +kernel
theorem dX4_order_83 : decode cX4_order 83 = .ok (.aload_n 0, 1) := by decide +kernel
theorem dX4_order_84 : decode cX4_order 84 = .ok (.getfield 38, 3) := by decide +kernel
theorem dX4_order_87 : decode cX4_order 87 = .ok (.invokevirtual 100, 3) := by decide +kernel
theorem dX4_order_90 : decode cX4_order 90 = .ok (.imul, 1) := by decide +kernel
theorem dX4_order_91 : decode cX4_order 91 = .ok (.ireturn, 1) := by decide +kernel
theorem dX4_root_0 : decode cX4_root 0 = .ok (.aload_n 0, 1) := by decide +kernel
theorem dX4_root_1 : decode cX4_root 1 = .ok (.iload_n 1, 1) := by decide +kernel
theorem dX4_root_2 : decode cX4_root 2 = .ok (.invokevirtual 79, 3) := by decide +kernel
theorem dX4_root_5 : decode cX4_root 5 = .ok (.astore_n 3, 1) := by decide +kernel
theorem dX4_root_6 : decode cX4_root 6 = .ok (.aload_n 3, 1) := by decide +kernel
theorem dX4_root_7 : decode cX4_root 7 = .ok (.getfield 93, 3) := by decide +kernel
theorem dX4_root_10 : decode cX4_root 10 = .ok (.ifCond .ge 13, 3) := by decide +kernel
theorem dX4_root_13 : decode cX4_root 13 = .ok (.new 107, 3) := by decide +kernel
theorem dX4_root_16 : decode cX4_root 16 = .ok (.dup, 1) := by decide +kernel
theorem dX4_root_17 : decode cX4_root 17 = .ok (.ldc 109, 2) := by decide +kernel
theorem dX4_root_19 : decode cX4_root 19 = .ok (.invokespecial 111, 3) := by decide +kernel
theorem dX4_root_22 : decode cX4_root 22 = .ok (.athrow, 1) := by decide +kernel
theorem dX4_root_23 : decode cX4_root 23 = .ok (.iload_n 2, 1) := by decide +kernel
theorem dX4_root_24 : decode cX4_root 24 = .ok (.ifCond .lt 10, 3) := by decide +kernel
theorem dX4_root_27 : decode cX4_root 27 = .ok (.iload_n 2, 1) := by decide +kernel
theorem dX4_root_28 : decode cX4_root 28 = .ok (.sipush 200, 3) := by decide +kernel
theorem dX4_root_31 : decode cX4_root 31 = .ok (.if_icmp .le 13, 3) := by decide +kernel
theorem dX4_root_34 : decode cX4_root 34 = .ok (.new 107, 3) := by decide +kernel
theorem dX4_root_37 : decode cX4_root 37 = .ok (.dup, 1) := by decide +kernel
theorem dX4_root_38 : decode cX4_root 38 = .ok (.ldc 112, 2) := by decide +kernel
theorem dX4_root_40 : decode cX4_root 40 = .ok (.invokespecial 111, 3) := by decide +kernel
theorem dX4_root_43 : decode cX4_root 43 = .ok (.athrow, 1) := by decide +kernel
theorem dX4_root_44 : decode cX4_root 44 = .ok (.aload_n 0, 1) := by decide +kernel
theorem dX4_root_45 : decode cX4_root 45 = .ok (.getfield 114, 3) := by decide +kernel
theorem dX4_root_48 : decode cX4_root 48 = .ok (.bipush 40, 2) := by decide +kernel
theorem dX4_root_50 : decode cX4_root 50 = .ok (.if_icmp .ge 15, 3) := by decide +kernel
theorem dX4_root_53 : decode cX4_root 53 = .ok (.aload_n 0, 1) := by decide +kernel
theorem dX4_root_54 : decode cX4_root 54 = .ok (.getfield 117, 3) := by decide +kernel
theorem dX4_root_57 : decode cX4_root 57 = .ok (.iconst 2, 1) := by decide +kernel
theorem dX4_root_58 : decode cX4_root 58 = .ok (.iadd, 1) := by decide +kernel
theorem dX4_root_59 : decode cX4_root 59 = .ok (.sipush 150, 3) := by decide +kernel
theorem dX4_root_62 : decode cX4_root 62 = .ok (.if_icmp .le 5, 3) := by decide +kernel
theorem dX4_root_65 : decode cX4_root 65 = .ok (.iconst (-1), 1) := by decide +kernel
theorem dX4_root_66 : decode cX4_root 66 = .ok (.ireturn, 1) := by decide +kernel
theorem dX4_root_67 : decode cX4_root 67 = .ok (.aload_n 0, 1) := by decide +kernel
theorem dX4_root_68 : decode cX4_root 68 = .ok (.aload_n 3, 1) := by decide +kernel
theorem dX4_root_69 : decode cX4_root 69 = .ok (.iload_n 2, 1) := by decide +kernel
theorem dX4_root_70 : decode cX4_root 70 = .ok (.invokevirtual 120, 3) := by decide +kernel
theorem dX4_root_73 : decode cX4_root 73 = .ok (.istore 4, 2) := by decide +kernel
theorem dX4_root_75 : decode cX4_root 75 = .ok (.aload_n 0, 1) := by decide +kernel
theorem dX4_root_76 : decode cX4_root 76 = .ok (.iload_n 2, 1) := by decide +kernel
theorem dX4_root_77 : decode cX4_root 77 = .ok (.invokevirtual 124, 3) := by decide +kernel
theorem dX4_root_80 : decode cX4_root 80 = .ok (.aload_n 0, 1) := by decide +kernel
theorem dX4_root_81 : decode cX4_root 81 = .ok (.aload_n 0, 1) := by decide +kernel
theorem dX4_root_82 : decode cX4_root 82 = .ok (.getfield 114, 3) := by decide +kernel
theorem dX4_root_85 : decode cX4_root 85 = .ok (.iconst 0, 1) := by decide +kernel
theorem dX4_root_86 : decode cX4_root 86 = .ok (.aload_n 0, 1) := by decide +kernel
theorem dX4_root_87 : decode cX4_root 87 = .ok (.iconst 1, 1) := by decide +kernel
theorem dX4_root_88 : decode cX4_root 88 = .ok (.invokevirtual 75, 3) := by decide +kernel
theorem dX4_root_91 : decode cX4_root 91 = .ok (.invokevirtual 127, 3) := by decide +kernel
theorem dX4_root_94 : decode cX4_root 94 = .ok (.iload 4, 2) := by decide +kernel
theorem dX4_root_96 : decode cX4_root 96 = .ok (.ifCond .ne 18, 3) := by decide +kernel
theorem dX4_root_99 : decode cX4_root 99 = .ok (.aload_n 0, 1) := by decide +kernel
theorem dX4_root_100 : decode cX4_root 100 = .ok (.getfield 35, 3) := by decide +kernel
theorem dX4_root_103 : decode cX4_root 103 = .ok (.aload_n 0, 1) := by decide +kernel
theorem dX4_root_104 : decode cX4_root 104 = .ok (.getfield 35, 3) := by decide +kernel
theorem dX4_root_107 : decode cX4_root 107 = .ok (.aload_n 0, 1) := by decide +kernel
theorem dX4_root_108 : decode cX4_root 108 = .ok (.getfield 41, 3) := by decide +kernel
theorem dX4_root_111 : decode cX4_root 111 = .ok (.invokevirtual 97, 3) := by decide +kernel
theorem dX4_root_114 : decode cX4_root 114 = .ok (.aload_n 0, 1) := by decide +kernel
theorem dX4_root_115 : decode cX4_root 115 = .ok (.iload_n 2, 1) := by decide +kernel
theorem dX4_root_116 : decode cX4_root 116 = .ok (.invokevirtual 124, 3) := by decide +kernel
theorem dX4_root_119 : decode cX4_root 119 = .ok (.aload_n 0, 1) := by decide +kernel
theorem dX4_root_120 : decode cX4_root 120 = .ok (.aload_n 0, 1) := by decide +kernel
theorem dX4_root_121 : decode cX4_root 121 = .ok (.getfield 114, 3) := by decide +kernel
theorem dX4_root_124 : decode cX4_root 124 = .ok (.iconst 1, 1) := by decide +kernel
theorem dX4_root_125 : decode cX4_root 125 = .ok (.aload_n 0, 1) := by decide +kernel
theorem dX4_root_126 : decode cX4_root 126 = .ok (.iconst 1, 1) := by decide +kernel
theorem dX4_root_127 : decode cX4_root 127 = .ok (.invokevirtual 75, 3) := by decide +kernel
theorem dX4_root_130 : decode cX4_root 130 = .ok (.invokevirtual 127, 3) := by decide +kernel
theorem dX4_root_133 : decode cX4_root 133 = .ok (.aload_n 0, 1) := by decide +kernel
theorem dX4_root_134 : decode cX4_root 134 = .ok (.dup, 1) := by decide +kernel
theorem dX4_root_135 : decode cX4_root 135 = .ok (.getfield 114, 3) := by decide +kernel
theorem dX4_root_138 : decode cX4_root 138 = .ok (.dup_x1, 1) := by decide +kernel
theorem dX4_root_139 : decode cX4_root 139 = .ok (.iconst 1, 1) := by decide +kernel
theorem dX4_root_140 : decode cX4_root 140 = .ok (.iadd, 1) := by decide +kernel
theorem dX4_root_141 : decode cX4_root 141 = .ok (.putfield 114, 3) := by decide +kernel
theorem dX4_root_144 : decode cX4_root 144 = .ok (.ireturn, 1) := by decide +kernel
theorem dX4_end_0 : decode cX4_end 0 = .ok (.iload_n 1, 1) := by decide +kernel
theorem dX4_end_1 : decode cX4_end 1 = .ok (.ifCond .lt 9, 3) := by decide +kernel
theorem dX4_end_4 : decode cX4_end 4 = .ok (.iload_n 1, 1) := by decide +kernel
theorem dX4_end_5 : decode cX4_end 5 = .ok (.bipush 40, 2) := by decide +kernel
theorem dX4_end_7 : decode cX4_end 7 = .ok (.if_icmp .lt 13, 3) := by decide +kernel
theorem dX4_end_10 : decode cX4_end 10 = .ok (.new 131, 3) := by decide +kernel
theorem dX4_end_13 : decode cX4_end 13 = .ok (.dup, 1) := by decide +kernel
theorem dX4_end_14 : decode cX4_end 14 = .ok (.ldc 133, 2) := by decide +kernel
theorem dX4_end_16 : decode cX4_end 16 = .ok (.invokespecial 135, 3) := by decide +kernel
theorem dX4_end_19 : decode cX4_end 19 = .ok (.athrow, 1) := by decide +kernel
theorem dX4_end_20 : decode cX4_end 20 = .ok (.iload_n 2, 1) := by decide +kernel
theorem dX4_end_21 : decode cX4_end 21 = .ok (.ifCond .lt 8, 3) := by decide +kernel
theorem dX4_end_24 : decode cX4_end 24 = .ok (.iload_n 2, 1) := by decide +kernel
theorem dX4_end_25 : decode cX4_end 25 = .ok (.iconst 2, 1) := by decide +kernel
theorem dX4_end_26 : decode cX4_end 26 = .ok (.if_icmp .lt 13, 3) := by decide +kernel
theorem dX4_end_29 : decode cX4_end 29 = .ok (.new 131, 3) := by decide +kernel
theorem dX4_end_32 : decode cX4_end 32 = .ok (.dup, 1) := by decide +kernel
theorem dX4_end_33 : decode cX4_end 33 = .ok (.ldc 136, 2) := by decide +kernel
theorem dX4_end_35 : decode cX4_end 35 = .ok (.invokespecial 135, 3) := by decide +kernel
theorem dX4_end_38 : decode cX4_end 38 = .ok (.athrow, 1) := by decide +kernel
theorem dX4_end_39 : decode cX4_end 39 = .ok (.iload_n 1, 1) := by decide +kernel
theorem dX4_end_40 : decode cX4_end 40 = .ok (.iconst 2, 1) := by decide +kernel
theorem dX4_end_41 : decode cX4_end 41 = .ok (.imul, 1) := by decide +kernel
theorem dX4_end_42 : decode cX4_end 42 = .ok (.iload_n 2, 1) := by decide +kernel
theorem dX4_end_43 : decode cX4_end 43 = .ok (.iadd, 1) := by decide +kernel
theorem dX4_end_44 : decode cX4_end 44 = .ok (.istore_n 3, 1) := by decide +kernel
theorem dX4_end_45 : decode cX4_end 45 = .ok (.iload_n 3, 1) := by decide +kernel
theorem dX4_end_46 : decode cX4_end 46 = .ok (.ifCond .lt 21, 3) := by decide +kernel
theorem dX4_end_49 : decode cX4_end 49 = .ok (.iload_n 3, 1) := by decide +kernel
theorem dX4_end_50 : decode cX4_end 50 = .ok (.aload_n 0, 1) := by decide +kernel
theorem dX4_end_51 : decode cX4_end 51 = .ok (.getfield 15, 3) := by decide +kernel
theorem dX4_end_54 : decode cX4_end 54 = .ok (.arraylength, 1) := by decide +kernel
theorem dX4_end_55 : decode cX4_end 55 = .ok (.if_icmp .ge 12, 3) := by decide +kernel
theorem dX4_end_58 : decode cX4_end 58 = .ok (.aload_n 0, 1) := by decide +kernel
theorem dX4_end_59 : decode cX4_end 59 = .ok (.getfield 15, 3) := by decide +kernel
theorem dX4_end_62 : decode cX4_end 62 = .ok (.iload_n 3, 1) := by decide +kernel
theorem dX4_end_63 : decode cX4_end 63 = .ok (.iaload, 1) := by decide +kernel
theorem dX4_end_64 : decode cX4_end 64 = .ok (.goto 4, 3) := by decide +kernel
theorem dX4_end_67 : decode cX4_end 67 = .ok (.iconst 0, 1) := by decide +kernel
theorem dX4_end_68 : decode cX4_end 68 = .ok (.ireturn, 1) := by decide +kernel
theorem dX4_round_0 : decode cX4_round 0 = .ok (.aload_n 0, 1) := by decide +kernel
theorem dX4_round_1 : decode cX4_round 1 = .ok (.iload_n 1, 1) := by decide +kernel
theorem dX4_round_2 : decode cX4_round 2 = .ok (.invokevirtual 79, 3) := by decide +kernel
theorem dX4_round_5 : decode cX4_round 5 = .ok (.astore 5, 2) := by decide +kernel
theorem dX4_round_7 : decode cX4_round 7 = .ok (.iload_n 2, 1) := by decide +kernel
theorem dX4_round_8 : decode cX4_round 8 = .ok (.ifCond .lt 8, 3) := by decide +kernel
theorem dX4_round_11 : decode cX4_round 11 = .ok (.iload_n 2, 1) := by decide +kernel
theorem dX4_round_12 : decode cX4_round 12 = .ok (.iconst 3, 1) := by decide +kernel
theorem dX4_round_13 : decode cX4_round 13 = .ok (.if_icmp .le 13, 3) := by decide +kernel
theorem dX4_round_16 : decode cX4_round 16 = .ok (.new 107, 3) := by decide +kernel
theorem dX4_round_19 : decode cX4_round 19 = .ok (.dup, 1) := by decide +kernel
theorem dX4_round_20 : decode cX4_round 20 = .ok (.ldc 138, 2) := by decide +kernel
theorem dX4_round_22 : decode cX4_round 22 = .ok (.invokespecial 111, 3) := by decide +kernel
theorem dX4_round_25 : decode cX4_round 25 = .ok (.athrow, 1) := by decide +kernel
theorem dX4_round_26 : decode cX4_round 26 = .ok (.lload_n 3, 1) := by decide +kernel
theorem dX4_round_27 : decode cX4_round 27 = .ok (.lconst 1, 1) := by decide +kernel
theorem dX4_round_28 : decode cX4_round 28 = .ok (.lcmp, 1) := by decide +kernel
theorem dX4_round_29 : decode cX4_round 29 = .ok (.ifCond .ge 13, 3) := by decide +kernel
theorem dX4_round_32 : decode cX4_round 32 = .ok (.new 107, 3) := by decide +kernel
theorem dX4_round_35 : decode cX4_round 35 = .ok (.dup, 1) := by decide +kernel
theorem dX4_round_36 : decode cX4_round 36 = .ok (.ldc 140, 2) := by decide +kernel
theorem dX4_round_38 : decode cX4_round 38 = .ok (.invokespecial 111, 3) := by decide +kernel
theorem dX4_round_41 : decode cX4_round 41 = .ok (.athrow, 1) := by decide +kernel
theorem dX4_round_42 : decode cX4_round 42 = .ok (.aload_n 0, 1) := by decide +kernel
theorem dX4_round_43 : decode cX4_round 43 = .ok (.getfield 32, 3) := by decide +kernel
theorem dX4_round_46 : decode cX4_round 46 = .ok (.lload_n 3, 1) := by decide +kernel
theorem dX4_round_47 : decode cX4_round 47 = .ok (.invokevirtual 61, 3) := by decide +kernel
theorem dX4_round_50 : decode cX4_round 50 = .ok (.aload_n 0, 1) := by decide +kernel
theorem dX4_round_51 : decode cX4_round 51 = .ok (.getfield 38, 3) := by decide +kernel
theorem dX4_round_54 : decode cX4_round 54 = .ok (.aload 5, 2) := by decide +kernel
theorem dX4_round_56 : decode cX4_round 56 = .ok (.getfield 86, 3) := by decide +kernel
theorem dX4_round_59 : decode cX4_round 59 = .ok (.aload_n 0, 1) := by decide +kernel
theorem dX4_round_60 : decode cX4_round 60 = .ok (.getfield 32, 3) := by decide +kernel
theorem dX4_round_63 : decode cX4_round 63 = .ok (.invokevirtual 89, 3) := by decide +kernel
theorem dX4_round_66 : decode cX4_round 66 = .ok (.aload_n 0, 1) := by decide +kernel
theorem dX4_round_67 : decode cX4_round 67 = .ok (.getfield 50, 3) := by decide +kernel
theorem dX4_round_70 : decode cX4_round 70 = .ok (.aload 5, 2) := by decide +kernel
theorem dX4_round_72 : decode cX4_round 72 = .ok (.getfield 83, 3) := by decide +kernel
theorem dX4_round_75 : decode cX4_round 75 = .ok (.aload_n 0, 1) := by decide +kernel
theorem dX4_round_76 : decode cX4_round 76 = .ok (.getfield 38, 3) := by decide +kernel
theorem dX4_round_79 : decode cX4_round 79 = .ok (.invokevirtual 142, 3) := by decide +kernel
theorem dX4_round_82 : decode cX4_round 82 = .ok (.aload_n 0, 1) := by decide +kernel
theorem dX4_round_83 : decode cX4_round 83 = .ok (.getfield 35, 3) := by decide +kernel
theorem dX4_round_86 : decode cX4_round 86 = .ok (.aload_n 0, 1) := by decide +kernel
theorem dX4_round_87 : decode cX4_round 87 = .ok (.getfield 50, 3) := by decide +kernel
theorem dX4_round_90 : decode cX4_round 90 = .ok (.getfield 145, 3) := by decide +kernel
theorem dX4_round_93 : decode cX4_round 93 = .ok (.invokevirtual 148, 3) := by decide +kernel
theorem dX4_round_96 : decode cX4_round 96 = .ok (.aload_n 0, 1) := by decide +kernel
theorem dX4_round_97 : decode cX4_round 97 = .ok (.aload 5, 2) := by decide +kernel
theorem dX4_round_99 : decode cX4_round 99 = .ok (.getfield 93, 3) := by decide +kernel
theorem dX4_round_102 : decode cX4_round 102 = .ok (.iload_n 2, 1) := by decide +kernel
theorem dX4_round_103 : decode cX4_round 103 = .ok (.invokevirtual 152, 3) := by decide +kernel
theorem dX4_round_106 : decode cX4_round 106 = .ok (.ifCond .eq 18, 3) := by decide +kernel
theorem dX4_round_109 : decode cX4_round 109 = .ok (.aload_n 0, 1) := by decide +kernel
theorem dX4_round_110 : decode cX4_round 110 = .ok (.getfield 35, 3) := by decide +kernel
theorem dX4_round_113 : decode cX4_round 113 = .ok (.aload_n 0, 1) := by decide +kernel
theorem dX4_round_114 : decode cX4_round 114 = .ok (.getfield 35, 3) := by decide +kernel
theorem dX4_round_117 : decode cX4_round 117 = .ok (.aload_n 0, 1) := by decide +kernel
theorem dX4_round_118 : decode cX4_round 118 = .ok (.getfield 41, 3) := by decide +kernel
theorem dX4_round_121 : decode cX4_round 121 = .ok (.invokevirtual 97, 3) := by decide +kernel
theorem dX4_round_124 : decode cX4_round 124 = .ok (.aload_n 0, 1) := by decide +kernel
theorem dX4_round_125 : decode cX4_round 125 = .ok (.getfield 28, 3) := by decide +kernel
theorem dX4_round_128 : decode cX4_round 128 = .ok (.aload_n 0, 1) := by decide +kernel
theorem dX4_round_129 : decode cX4_round 129 = .ok (.getfield 35, 3) := by decide +kernel
theorem dX4_round_132 : decode cX4_round 132 = .ok (.aload_n 0, 1) := by decide +kernel
theorem dX4_round_133 : decode cX4_round 133 = .ok (.getfield 32, 3) := by decide +kernel
theorem dX4_round_136 : decode cX4_round 136 = .ok (.invokevirtual 89, 3) := by decide +kernel
theorem dX4_round_139 : decode cX4_round 139 = .ok (.aload_n 0, 1) := by decide +kernel
theorem dX4_round_140 : decode cX4_round 140 = .ok (.getfield 32, 3) := by decide +kernel
theorem dX4_round_143 : decode cX4_round 143 = .ok (.aload_n 0, 1) := by decide +kernel
theorem dX4_round_144 : decode cX4_round 144 = .ok (.getfield 41, 3) := by decide +kernel
theorem dX4_round_147 : decode cX4_round 147 = .ok (.invokevirtual 148, 3) := by decide +kernel
theorem dX4_round_150 : decode cX4_round 150 = .ok (.aload_n 0, 1) := by decide +kernel
theorem dX4_round_151 : decode cX4_round 151 = .ok (.aload 5, 2) := by decide +kernel
theorem dX4_round_153 : decode cX4_round 153 = .ok (.getfield 93, 3) := by decide +kernel
theorem dX4_round_156 : decode cX4_round 156 = .ok (.invokevirtual 75, 3) := by decide +kernel
theorem dX4_round_159 : decode cX4_round 159 = .ok (.ireturn, 1) := by decide +kernel
theorem dX4_turn_0 : decode cX4_turn 0 = .ok (.aload_n 0, 1) := by decide +kernel
theorem dX4_turn_1 : decode cX4_turn 1 = .ok (.iload_n 1, 1) := by decide +kernel
theorem dX4_turn_2 : decode cX4_turn 2 = .ok (.invokevirtual 79, 3) := by decide +kernel
theorem dX4_turn_5 : decode cX4_turn 5 = .ok (.astore 4, 2) := by decide +kernel
theorem dX4_turn_7 : decode cX4_turn 7 = .ok (.aload_n 0, 1) := by decide +kernel
theorem dX4_turn_8 : decode cX4_turn 8 = .ok (.getfield 35, 3) := by decide +kernel
theorem dX4_turn_11 : decode cX4_turn 11 = .ok (.iload_n 2, 1) := by decide +kernel
theorem dX4_turn_12 : decode cX4_turn 12 = .ok (.invokestatic 156, 3) := by decide +kernel
theorem dX4_turn_15 : decode cX4_turn 15 = .ok (.invokevirtual 61, 3) := by decide +kernel
theorem dX4_turn_18 : decode cX4_turn 18 = .ok (.aload_n 0, 1) := by decide +kernel
theorem dX4_turn_19 : decode cX4_turn 19 = .ok (.getfield 38, 3) := by decide +kernel
theorem dX4_turn_22 : decode cX4_turn 22 = .ok (.iload_n 3, 1) := by decide +kernel
theorem dX4_turn_23 : decode cX4_turn 23 = .ok (.invokestatic 156, 3) := by decide +kernel
theorem dX4_turn_26 : decode cX4_turn 26 = .ok (.invokevirtual 61, 3) := by decide +kernel
theorem dX4_turn_29 : decode cX4_turn 29 = .ok (.aload_n 0, 1) := by decide +kernel
theorem dX4_turn_30 : decode cX4_turn 30 = .ok (.getfield 28, 3) := by decide +kernel
theorem dX4_turn_33 : decode cX4_turn 33 = .ok (.aload 4, 2) := by decide +kernel
theorem dX4_turn_35 : decode cX4_turn 35 = .ok (.getfield 83, 3) := by decide +kernel
theorem dX4_turn_38 : decode cX4_turn 38 = .ok (.aload_n 0, 1) := by decide +kernel
theorem dX4_turn_39 : decode cX4_turn 39 = .ok (.getfield 35, 3) := by decide +kernel
theorem dX4_turn_42 : decode cX4_turn 42 = .ok (.invokevirtual 89, 3) := by decide +kernel
theorem dX4_turn_45 : decode cX4_turn 45 = .ok (.aload_n 0, 1) := by decide +kernel
theorem dX4_turn_46 : decode cX4_turn 46 = .ok (.getfield 32, 3) := by decide +kernel
theorem dX4_turn_49 : decode cX4_turn 49 = .ok (.aload 4, 2) := by decide +kernel
theorem dX4_turn_51 : decode cX4_turn 51 = .ok (.getfield 86, 3) := by decide +kernel
theorem dX4_turn_54 : decode cX4_turn 54 = .ok (.aload_n 0, 1) := by decide +kernel
theorem dX4_turn_55 : decode cX4_turn 55 = .ok (.getfield 38, 3) := by decide +kernel
theorem dX4_turn_58 : decode cX4_turn 58 = .ok (.invokevirtual 89, 3) := by decide +kernel
theorem dX4_turn_61 : decode cX4_turn 61 = .ok (.aload_n 0, 1) := by decide +kernel
theorem dX4_turn_62 : decode cX4_turn 62 = .ok (.aload 4, 2) := by decide +kernel
theorem dX4_turn_64 : decode cX4_turn 64 = .ok (.getfield 93, 3) := by decide +kernel
theorem dX4_turn_67 : decode cX4_turn 67 = .ok (.invokevirtual 75, 3) := by decide +kernel
theorem dX4_turn_70 : decode cX4_turn 70 = .ok (.ireturn, 1) := by decide +kernel
theorem dX4_weight_0 : decode cX4_weight 0 = .ok (.aload_n 0, 1) := by decide +kernel
theorem dX4_weight_1 : decode cX4_weight 1 = .ok (.getfield 160, 3) := by decide +kernel
theorem dX4_weight_4 : decode cX4_weight 4 = .ok (.ifCond .lt 29, 3) := by decide +kernel
theorem dX4_weight_7 : decode cX4_weight 7 = .ok (.aload_n 0, 1) := by decide +kernel
theorem dX4_weight_8 : decode cX4_weight 8 = .ok (.getfield 160, 3) := by decide +kernel
theorem dX4_weight_11 : decode cX4_weight 11 = .ok (.aload_n 0, 1) := by decide +kernel
theorem dX4_weight_12 : decode cX4_weight 12 = .ok (.getfield 19, 3) := by decide +kernel
theorem dX4_weight_15 : decode cX4_weight 15 = .ok (.arraylength, 1) := by decide +kernel
theorem dX4_weight_16 : decode cX4_weight 16 = .ok (.if_icmp .ge 17, 3) := by decide +kernel
theorem dX4_weight_19 : decode cX4_weight 19 = .ok (.lload_n 1, 1) := by decide +kernel
theorem dX4_weight_20 : decode cX4_weight 20 = .ok (.lconst 0, 1) := by decide +kernel
theorem dX4_weight_21 : decode cX4_weight 21 = .ok (.lcmp, 1) := by decide +kernel
theorem dX4_weight_22 : decode cX4_weight 22 = .ok (.ifCond .lt 11, 3) := by decide +kernel
theorem dX4_weight_25 : decode cX4_weight 25 = .ok (.lload_n 1, 1) := by decide +kernel
theorem dX4_weight_26 : decode cX4_weight 26 = .ok (.ldc2_w 163, 3) := by decide +kernel
theorem dX4_weight_29 : decode cX4_weight 29 = .ok (.lcmp, 1) := by decide +kernel
theorem dX4_weight_30 : decode cX4_weight 30 = .ok (.ifCond .le 5, 3) := by decide +kernel
theorem dX4_weight_33 : decode cX4_weight 33 = .ok (.iconst 0, 1) := by decide +kernel
theorem dX4_weight_34 : decode cX4_weight 34 = .ok (.ireturn, 1) := by decide +kernel
theorem dX4_weight_35 : decode cX4_weight 35 = .ok (.aload_n 0, 1) := by decide +kernel
theorem dX4_weight_36 : decode cX4_weight 36 = .ok (.getfield 19, 3) := by decide +kernel
theorem dX4_weight_39 : decode cX4_weight 39 = .ok (.aload_n 0, 1) := by decide +kernel
theorem dX4_weight_40 : decode cX4_weight 40 = .ok (.getfield 160, 3) := by decide +kernel
theorem dX4_weight_43 : decode cX4_weight 43 = .ok (.lload_n 1, 1) := by decide +kernel
theorem dX4_weight_44 : decode cX4_weight 44 = .ok (.lastore, 1) := by decide +kernel
theorem dX4_weight_45 : decode cX4_weight 45 = .ok (.aload_n 0, 1) := by decide +kernel
theorem dX4_weight_46 : decode cX4_weight 46 = .ok (.dup, 1) := by decide +kernel
theorem dX4_weight_47 : decode cX4_weight 47 = .ok (.getfield 160, 3) := by decide +kernel
theorem dX4_weight_50 : decode cX4_weight 50 = .ok (.iconst 1, 1) := by decide +kernel
theorem dX4_weight_51 : decode cX4_weight 51 = .ok (.iadd, 1) := by decide +kernel
theorem dX4_weight_52 : decode cX4_weight 52 = .ok (.putfield 160, 3) := by decide +kernel
theorem dX4_weight_55 : decode cX4_weight 55 = .ok (.iconst 1, 1) := by decide +kernel
theorem dX4_weight_56 : decode cX4_weight 56 = .ok (.ireturn, 1) := by decide +kernel
theorem dX4_clearWeights_0 : decode cX4_clearWeights 0 = .ok (.iconst 0, 1) := by decide +kernel
theorem dX4_clearWeights_1 : decode cX4_clearWeights 1 = .ok (.istore_n 1, 1) := by decide +kernel
theorem dX4_clearWeights_2 : decode cX4_clearWeights 2 = .ok (.iload_n 1, 1) := by decide +kernel
theorem dX4_clearWeights_3 : decode cX4_clearWeights 3 = .ok (.aload_n 0, 1) := by decide +kernel
theorem dX4_clearWeights_4 : decode cX4_clearWeights 4 = .ok (.getfield 19, 3) := by decide +kernel
theorem dX4_clearWeights_7 : decode cX4_clearWeights 7 = .ok (.arraylength, 1) := by decide +kernel
theorem dX4_clearWeights_8 : decode cX4_clearWeights 8 = .ok (.if_icmp .ge 16, 3) := by decide +kernel
theorem dX4_clearWeights_11 : decode cX4_clearWeights 11 = .ok (.aload_n 0, 1) := by decide +kernel
theorem dX4_clearWeights_12 : decode cX4_clearWeights 12 = .ok (.getfield 19, 3) := by decide +kernel
theorem dX4_clearWeights_15 : decode cX4_clearWeights 15 = .ok (.iload_n 1, 1) := by decide +kernel
theorem dX4_clearWeights_16 : decode cX4_clearWeights 16 = .ok (.lconst 0, 1) := by decide +kernel
theorem dX4_clearWeights_17 : decode cX4_clearWeights 17 = .ok (.lastore, 1) := by decide +kernel
theorem dX4_clearWeights_18 : decode cX4_clearWeights 18 = .ok (.iinc 1 1, 3) := by decide +kernel
theorem dX4_clearWeights_21 : decode cX4_clearWeights 21 = .ok (.goto (-19), 3) := by decide +kernel
theorem dX4_clearWeights_24 : decode cX4_clearWeights 24 = .ok (.aload_n 0, 1) := by decide +kernel
theorem dX4_clearWeights_25 : decode cX4_clearWeights 25 = .ok (.iconst 0, 1) := by decide +kernel
theorem dX4_clearWeights_26 : decode cX4_clearWeights 26 = .ok (.putfield 160, 3) := by decide +kernel
theorem dX4_clearWeights_29 : decode cX4_clearWeights 29 = .ok (.return_, 1) := by decide +kernel
theorem dX4_share_0 : decode cX4_share 0 = .ok (.iload_n 3, 1) := by decide +kernel
theorem dX4_share_1 : decode cX4_share 1 = .ok (.ifCond .lt 12, 3) := by decide +kernel
theorem dX4_share_4 : decode cX4_share 4 = .ok (.iload_n 3, 1) := by decide +kernel
theorem dX4_share_5 : decode cX4_share 5 = .ok (.aload_n 0, 1) := by decide +kernel
theorem dX4_share_6 : decode cX4_share 6 = .ok (.getfield 19, 3) := by decide +kernel
theorem dX4_share_9 : decode cX4_share 9 = .ok (.arraylength, 1) := by decide +kernel
theorem dX4_share_10 : decode cX4_share 10 = .ok (.if_icmp .lt 13, 3) := by decide +kernel
theorem dX4_share_13 : decode cX4_share 13 = .ok (.new 131, 3) := by decide +kernel
theorem dX4_share_16 : decode cX4_share 16 = .ok (.dup, 1) := by decide +kernel
theorem dX4_share_17 : decode cX4_share 17 = .ok (.ldc 165, 2) := by decide +kernel
theorem dX4_share_19 : decode cX4_share 19 = .ok (.invokespecial 135, 3) := by decide +kernel
theorem dX4_share_22 : decode cX4_share 22 = .ok (.athrow, 1) := by decide +kernel
theorem dX4_share_23 : decode cX4_share 23 = .ok (.lload_n 1, 1) := by decide +kernel
theorem dX4_share_24 : decode cX4_share 24 = .ok (.lconst 0, 1) := by decide +kernel
theorem dX4_share_25 : decode cX4_share 25 = .ok (.lcmp, 1) := by decide +kernel
theorem dX4_share_26 : decode cX4_share 26 = .ok (.ifCond .lt 11, 3) := by decide +kernel
theorem dX4_share_29 : decode cX4_share 29 = .ok (.lload_n 1, 1) := by decide +kernel
theorem dX4_share_30 : decode cX4_share 30 = .ok (.ldc2_w 163, 3) := by decide +kernel
theorem dX4_share_33 : decode cX4_share 33 = .ok (.lcmp, 1) := by decide +kernel
theorem dX4_share_34 : decode cX4_share 34 = .ok (.ifCond .le 13, 3) := by decide +kernel
theorem dX4_share_37 : decode cX4_share 37 = .ok (.new 107, 3) := by decide +kernel
theorem dX4_share_40 : decode cX4_share 40 = .ok (.dup, 1) := by decide +kernel
theorem dX4_share_41 : decode cX4_share 41 = .ok (.ldc 167, 2) := by decide +kernel
theorem dX4_share_43 : decode cX4_share 43 = .ok (.invokespecial 111, 3) := by decide +kernel
theorem dX4_share_46 : decode cX4_share 46 = .ok (.athrow, 1) := by decide +kernel
theorem dX4_share_47 : decode cX4_share 47 = .ok (.aload_n 0, 1) := by decide +kernel
theorem dX4_share_48 : decode cX4_share 48 = .ok (.invokevirtual 169, 3) := by decide +kernel
theorem dX4_share_51 : decode cX4_share 51 = .ok (.lstore 4, 2) := by decide +kernel
theorem dX4_share_53 : decode cX4_share 53 = .ok (.lload 4, 2) := by decide +kernel
theorem dX4_share_55 : decode cX4_share 55 = .ok (.lconst 0, 1) := by decide +kernel
theorem dX4_share_56 : decode cX4_share 56 = .ok (.lcmp, 1) := by decide +kernel
theorem dX4_share_57 : decode cX4_share 57 = .ok (.ifCond .gt 13, 3) := by decide +kernel
theorem dX4_share_60 : decode cX4_share 60 = .ok (.new 68, 3) := by decide +kernel
theorem dX4_share_63 : decode cX4_share 63 = .ok (.dup, 1) := by decide +kernel
theorem dX4_share_64 : decode cX4_share 64 = .ok (.ldc 173, 2) := by decide +kernel
theorem dX4_share_66 : decode cX4_share 66 = .ok (.invokespecial 72, 3) := by decide +kernel
theorem dX4_share_69 : decode cX4_share 69 = .ok (.athrow, 1) := by decide +kernel
theorem dX4_share_70 : decode cX4_share 70 = .ok (.lload_n 1, 1) := by decide +kernel
theorem dX4_share_71 : decode cX4_share 71 = .ok (.aload_n 0, 1) := by decide +kernel
theorem dX4_share_72 : decode cX4_share 72 = .ok (.getfield 19, 3) := by decide +kernel
theorem dX4_share_75 : decode cX4_share 75 = .ok (.iload_n 3, 1) := by decide +kernel
theorem dX4_share_76 : decode cX4_share 76 = .ok (.laload, 1) := by decide +kernel
theorem dX4_share_77 : decode cX4_share 77 = .ok (.lmul, 1) := by decide +kernel
theorem dX4_share_78 : decode cX4_share 78 = .ok (.lstore 6, 2) := by decide +kernel
theorem dX4_share_80 : decode cX4_share 80 = .ok (.aload_n 0, 1) := by decide +kernel
theorem dX4_share_81 : decode cX4_share 81 = .ok (.lload_n 1, 1) := by decide +kernel
theorem dX4_share_82 : decode cX4_share 82 = .ok (.lload 4, 2) := by decide +kernel
theorem dX4_share_84 : decode cX4_share 84 = .ok (.invokevirtual 175, 3) := by decide +kernel
theorem dX4_share_87 : decode cX4_share 87 = .ok (.lstore 8, 2) := by decide +kernel
theorem dX4_share_89 : decode cX4_share 89 = .ok (.lload 6, 2) := by decide +kernel
theorem dX4_share_91 : decode cX4_share 91 = .ok (.lload 4, 2) := by decide +kernel
theorem dX4_share_93 : decode cX4_share 93 = .ok (.ldiv, 1) := by decide +kernel
theorem dX4_share_94 : decode cX4_share 94 = .ok (.aload_n 0, 1) := by decide +kernel
theorem dX4_share_95 : decode cX4_share 95 = .ok (.lload_n 1, 1) := by decide +kernel
theorem dX4_share_96 : decode cX4_share 96 = .ok (.lload 4, 2) := by decide +kernel
theorem dX4_share_98 : decode cX4_share 98 = .ok (.iload_n 3, 1) := by decide +kernel
theorem dX4_share_99 : decode cX4_share 99 = .ok (.invokevirtual 179, 3) := by decide +kernel
theorem dX4_share_102 : decode cX4_share 102 = .ok (.i2l, 1) := by decide +kernel
theorem dX4_share_103 : decode cX4_share 103 = .ok (.lload 8, 2) := by decide +kernel
theorem dX4_share_105 : decode cX4_share 105 = .ok (.lcmp, 1) := by decide +kernel
theorem dX4_share_106 : decode cX4_share 106 = .ok (.ifCond .ge 7, 3) := by decide +kernel
theorem dX4_share_109 : decode cX4_share 109 = .ok (.iconst 1, 1) := by decide +kernel
theorem dX4_share_110 : decode cX4_share 110 = .ok (.goto 4, 3) := by decide +kernel
theorem dX4_share_113 : decode cX4_share 113 = .ok (.iconst 0, 1) := by decide +kernel
theorem dX4_share_114 : decode cX4_share 114 = .ok (.i2l, 1) := by decide +kernel
theorem dX4_share_115 : decode cX4_share 115 = .ok (.ladd, 1) := by decide +kernel
theorem dX4_share_116 : decode cX4_share 116 = .ok (.lreturn, 1) := by decide +kernel
theorem dX4_digit_0 : decode cX4_digit 0 = .ok (.aload_n 0, 1) := by decide +kernel
theorem dX4_digit_1 : decode cX4_digit 1 = .ok (.iload_n 1, 1) := by decide +kernel
theorem dX4_digit_2 : decode cX4_digit 2 = .ok (.invokevirtual 79, 3) := by decide +kernel
theorem dX4_digit_5 : decode cX4_digit 5 = .ok (.astore 4, 2) := by decide +kernel
theorem dX4_digit_7 : decode cX4_digit 7 = .ok (.iload_n 2, 1) := by decide +kernel
theorem dX4_digit_8 : decode cX4_digit 8 = .ok (.ifCond .eq 18, 3) := by decide +kernel
theorem dX4_digit_11 : decode cX4_digit 11 = .ok (.iload_n 2, 1) := by decide +kernel
theorem dX4_digit_12 : decode cX4_digit 12 = .ok (.iconst 1, 1) := by decide +kernel
theorem dX4_digit_13 : decode cX4_digit 13 = .ok (.if_icmp .eq 13, 3) := by decide +kernel
theorem dX4_digit_16 : decode cX4_digit 16 = .ok (.new 107, 3) := by decide +kernel
theorem dX4_digit_19 : decode cX4_digit 19 = .ok (.dup, 1) := by decide +kernel
theorem dX4_digit_20 : decode cX4_digit 20 = .ok (.ldc 183, 2) := by decide +kernel
theorem dX4_digit_22 : decode cX4_digit 22 = .ok (.invokespecial 111, 3) := by decide +kernel
theorem dX4_digit_25 : decode cX4_digit 25 = .ok (.athrow, 1) := by decide +kernel
theorem dX4_digit_26 : decode cX4_digit 26 = .ok (.aload_n 0, 1) := by decide +kernel
theorem dX4_digit_27 : decode cX4_digit 27 = .ok (.getfield 35, 3) := by decide +kernel
theorem dX4_digit_30 : decode cX4_digit 30 = .ok (.iload_n 2, 1) := by decide +kernel
theorem dX4_digit_31 : decode cX4_digit 31 = .ok (.ifCond .ne 11, 3) := by decide +kernel
theorem dX4_digit_34 : decode cX4_digit 34 = .ok (.aload 4, 2) := by decide +kernel
theorem dX4_digit_36 : decode cX4_digit 36 = .ok (.getfield 83, 3) := by decide +kernel
theorem dX4_digit_39 : decode cX4_digit 39 = .ok (.goto 8, 3) := by decide +kernel
theorem dX4_digit_42 : decode cX4_digit 42 = .ok (.aload 4, 2) := by decide +kernel
theorem dX4_digit_44 : decode cX4_digit 44 = .ok (.getfield 86, 3) := by decide +kernel
theorem dX4_digit_47 : decode cX4_digit 47 = .ok (.invokevirtual 148, 3) := by decide +kernel
theorem dX4_digit_50 : decode cX4_digit 50 = .ok (.aload_n 0, 1) := by decide +kernel
theorem dX4_digit_51 : decode cX4_digit 51 = .ok (.invokevirtual 185, 3) := by decide +kernel
theorem dX4_digit_54 : decode cX4_digit 54 = .ok (.istore 5, 2) := by decide +kernel
theorem dX4_digit_56 : decode cX4_digit 56 = .ok (.iload_n 3, 1) := by decide +kernel
theorem dX4_digit_57 : decode cX4_digit 57 = .ok (.ifCond .lt 9, 3) := by decide +kernel
theorem dX4_digit_60 : decode cX4_digit 60 = .ok (.iload_n 3, 1) := by decide +kernel
theorem dX4_digit_61 : decode cX4_digit 61 = .ok (.iload 5, 2) := by decide +kernel
theorem dX4_digit_63 : decode cX4_digit 63 = .ok (.if_icmp .lt 13, 3) := by decide +kernel
theorem dX4_digit_66 : decode cX4_digit 66 = .ok (.new 131, 3) := by decide +kernel
theorem dX4_digit_69 : decode cX4_digit 69 = .ok (.dup, 1) := by decide +kernel
theorem dX4_digit_70 : decode cX4_digit 70 = .ok (.ldc 189, 2) := by decide +kernel
theorem dX4_digit_72 : decode cX4_digit 72 = .ok (.invokespecial 135, 3) := by decide +kernel
theorem dX4_digit_75 : decode cX4_digit 75 = .ok (.athrow, 1) := by decide +kernel
theorem dX4_digit_76 : decode cX4_digit 76 = .ok (.aload_n 0, 1) := by decide +kernel
theorem dX4_digit_77 : decode cX4_digit 77 = .ok (.iload 5, 2) := by decide +kernel
theorem dX4_digit_79 : decode cX4_digit 79 = .ok (.iconst 1, 1) := by decide +kernel
theorem dX4_digit_80 : decode cX4_digit 80 = .ok (.isub, 1) := by decide +kernel
theorem dX4_digit_81 : decode cX4_digit 81 = .ok (.iload_n 3, 1) := by decide +kernel
theorem dX4_digit_82 : decode cX4_digit 82 = .ok (.isub, 1) := by decide +kernel
theorem dX4_digit_83 : decode cX4_digit 83 = .ok (.invokevirtual 191, 3) := by decide +kernel
theorem dX4_digit_86 : decode cX4_digit 86 = .ok (.ireturn, 1) := by decide +kernel
theorem dX4_bits_0 : decode cX4_bits 0 = .ok (.aload_n 0, 1) := by decide +kernel
theorem dX4_bits_1 : decode cX4_bits 1 = .ok (.iload_n 1, 1) := by decide +kernel
theorem dX4_bits_2 : decode cX4_bits 2 = .ok (.invokevirtual 79, 3) := by decide +kernel
theorem dX4_bits_5 : decode cX4_bits 5 = .ok (.astore_n 2, 1) := by decide +kernel
theorem dX4_bits_6 : decode cX4_bits 6 = .ok (.aload_n 2, 1) := by decide +kernel
theorem dX4_bits_7 : decode cX4_bits 7 = .ok (.getfield 93, 3) := by decide +kernel
theorem dX4_bits_10 : decode cX4_bits 10 = .ok (.ifCond .ne 7, 3) := by decide +kernel
theorem dX4_bits_13 : decode cX4_bits 13 = .ok (.iconst 0, 1) := by decide +kernel
theorem dX4_bits_14 : decode cX4_bits 14 = .ok (.goto 18, 3) := by decide +kernel
theorem dX4_bits_17 : decode cX4_bits 17 = .ok (.aload_n 2, 1) := by decide +kernel
theorem dX4_bits_18 : decode cX4_bits 18 = .ok (.getfield 83, 3) := by decide +kernel
theorem dX4_bits_21 : decode cX4_bits 21 = .ok (.invokevirtual 194, 3) := by decide +kernel
theorem dX4_bits_24 : decode cX4_bits 24 = .ok (.aload_n 2, 1) := by decide +kernel
theorem dX4_bits_25 : decode cX4_bits 25 = .ok (.getfield 86, 3) := by decide +kernel
theorem dX4_bits_28 : decode cX4_bits 28 = .ok (.invokevirtual 194, 3) := by decide +kernel
theorem dX4_bits_31 : decode cX4_bits 31 = .ok (.iadd, 1) := by decide +kernel
theorem dX4_bits_32 : decode cX4_bits 32 = .ok (.ireturn, 1) := by decide +kernel
theorem dX4_sign_0 : decode cX4_sign 0 = .ok (.aload_n 0, 1) := by decide +kernel
theorem dX4_sign_1 : decode cX4_sign 1 = .ok (.iload_n 1, 1) := by decide +kernel
theorem dX4_sign_2 : decode cX4_sign 2 = .ok (.invokevirtual 79, 3) := by decide +kernel
theorem dX4_sign_5 : decode cX4_sign 5 = .ok (.getfield 93, 3) := by decide +kernel
theorem dX4_sign_8 : decode cX4_sign 8 = .ok (.ireturn, 1) := by decide +kernel
theorem dX4_fractionAt_0 : decode cX4_fractionAt 0 = .ok (.iload_n 1, 1) := by decide +kernel
theorem dX4_fractionAt_1 : decode cX4_fractionAt 1 = .ok (.ifCond .lt 12, 3) := by decide +kernel
theorem dX4_fractionAt_4 : decode cX4_fractionAt 4 = .ok (.iload_n 1, 1) := by decide +kernel
theorem dX4_fractionAt_5 : decode cX4_fractionAt 5 = .ok (.aload_n 0, 1) := by decide +kernel
theorem dX4_fractionAt_6 : decode cX4_fractionAt 6 = .ok (.getfield 11, 3) := by decide +kernel
theorem dX4_fractionAt_9 : decode cX4_fractionAt 9 = .ok (.arraylength, 1) := by decide +kernel
theorem dX4_fractionAt_10 : decode cX4_fractionAt 10 = .ok (.if_icmp .lt 13, 3) := by decide +kernel
theorem dX4_fractionAt_13 : decode cX4_fractionAt 13 = .ok (.new 131, 3) := by decide +kernel
theorem dX4_fractionAt_16 : decode cX4_fractionAt 16 = .ok (.dup, 1) := by decide +kernel
theorem dX4_fractionAt_17 : decode cX4_fractionAt 17 = .ok (.ldc 197, 2) := by decide +kernel
theorem dX4_fractionAt_19 : decode cX4_fractionAt 19 = .ok (.invokespecial 135, 3) := by decide +kernel
theorem dX4_fractionAt_22 : decode cX4_fractionAt 22 = .ok (.athrow, 1) := by decide +kernel
theorem dX4_fractionAt_23 : decode cX4_fractionAt 23 = .ok (.aload_n 0, 1) := by decide +kernel
theorem dX4_fractionAt_24 : decode cX4_fractionAt 24 = .ok (.getfield 11, 3) := by decide +kernel
theorem dX4_fractionAt_27 : decode cX4_fractionAt 27 = .ok (.iload_n 1, 1) := by decide +kernel
theorem dX4_fractionAt_28 : decode cX4_fractionAt 28 = .ok (.aaload, 1) := by decide +kernel
theorem dX4_fractionAt_29 : decode cX4_fractionAt 29 = .ok (.areturn, 1) := by decide +kernel
theorem dX4_unitLength_0 : decode cX4_unitLength 0 = .ok (.iload_n 0, 1) := by decide +kernel
theorem dX4_unitLength_1 : decode cX4_unitLength 1 = .ok (.ifCond .lt 11, 3) := by decide +kernel
theorem dX4_unitLength_4 : decode cX4_unitLength 4 = .ok (.iload_n 0, 1) := by decide +kernel
theorem dX4_unitLength_5 : decode cX4_unitLength 5 = .ok (.getstatic 199, 3) := by decide +kernel
theorem dX4_unitLength_8 : decode cX4_unitLength 8 = .ok (.arraylength, 1) := by decide +kernel
theorem dX4_unitLength_9 : decode cX4_unitLength 9 = .ok (.if_icmp .lt 13, 3) := by decide +kernel
theorem dX4_unitLength_12 : decode cX4_unitLength 12 = .ok (.new 131, 3) := by decide +kernel
theorem dX4_unitLength_15 : decode cX4_unitLength 15 = .ok (.dup, 1) := by decide +kernel
theorem dX4_unitLength_16 : decode cX4_unitLength 16 = .ok (.ldc 202, 2) := by decide +kernel
theorem dX4_unitLength_18 : decode cX4_unitLength 18 = .ok (.invokespecial 135, 3) := by decide +kernel
theorem dX4_unitLength_21 : decode cX4_unitLength 21 = .ok (.athrow, 1) := by decide +kernel
theorem dX4_unitLength_22 : decode cX4_unitLength 22 = .ok (.getstatic 199, 3) := by decide +kernel
theorem dX4_unitLength_25 : decode cX4_unitLength 25 = .ok (.iload_n 0, 1) := by decide +kernel
theorem dX4_unitLength_26 : decode cX4_unitLength 26 = .ok (.laload, 1) := by decide +kernel
theorem dX4_unitLength_27 : decode cX4_unitLength 27 = .ok (.lreturn, 1) := by decide +kernel
theorem dX4_putNew_0 : decode cX4_putNew 0 = .ok (.aload_n 0, 1) := by decide +kernel
theorem dX4_putNew_1 : decode cX4_putNew 1 = .ok (.getfield 117, 3) := by decide +kernel
theorem dX4_putNew_4 : decode cX4_putNew 4 = .ok (.ifCond .lt 15, 3) := by decide +kernel
theorem dX4_putNew_7 : decode cX4_putNew 7 = .ok (.aload_n 0, 1) := by decide +kernel
theorem dX4_putNew_8 : decode cX4_putNew 8 = .ok (.getfield 117, 3) := by decide +kernel
theorem dX4_putNew_11 : decode cX4_putNew 11 = .ok (.aload_n 0, 1) := by decide +kernel
theorem dX4_putNew_12 : decode cX4_putNew 12 = .ok (.getfield 11, 3) := by decide +kernel
theorem dX4_putNew_15 : decode cX4_putNew 15 = .ok (.arraylength, 1) := by decide +kernel
theorem dX4_putNew_16 : decode cX4_putNew 16 = .ok (.if_icmp .lt 5, 3) := by decide +kernel
theorem dX4_putNew_19 : decode cX4_putNew 19 = .ok (.iconst (-1), 1) := by decide +kernel
theorem dX4_putNew_20 : decode cX4_putNew 20 = .ok (.ireturn, 1) := by decide +kernel
theorem dX4_putNew_21 : decode cX4_putNew 21 = .ok (.aload_n 0, 1) := by decide +kernel
theorem dX4_putNew_22 : decode cX4_putNew 22 = .ok (.getfield 57, 3) := by decide +kernel
theorem dX4_putNew_25 : decode cX4_putNew 25 = .ok (.aload_n 0, 1) := by decide +kernel
theorem dX4_putNew_26 : decode cX4_putNew 26 = .ok (.getfield 28, 3) := by decide +kernel
theorem dX4_putNew_29 : decode cX4_putNew 29 = .ok (.aload_n 0, 1) := by decide +kernel
theorem dX4_putNew_30 : decode cX4_putNew 30 = .ok (.getfield 32, 3) := by decide +kernel
theorem dX4_putNew_33 : decode cX4_putNew 33 = .ok (.invokevirtual 204, 3) := by decide +kernel
theorem dX4_putNew_36 : decode cX4_putNew 36 = .ok (.astore_n 2, 1) := by decide +kernel
theorem dX4_putNew_37 : decode cX4_putNew 37 = .ok (.aload_n 2, 1) := by decide +kernel
theorem dX4_putNew_38 : decode cX4_putNew 38 = .ok (.aload_n 0, 1) := by decide +kernel
theorem dX4_putNew_39 : decode cX4_putNew 39 = .ok (.getfield 41, 3) := by decide +kernel
theorem dX4_putNew_42 : decode cX4_putNew 42 = .ok (.invokevirtual 100, 3) := by decide +kernel
theorem dX4_putNew_45 : decode cX4_putNew 45 = .ok (.ifCond .le 55, 3) := by decide +kernel
theorem dX4_putNew_48 : decode cX4_putNew 48 = .ok (.aload_n 0, 1) := by decide +kernel
theorem dX4_putNew_49 : decode cX4_putNew 49 = .ok (.getfield 50, 3) := by decide +kernel
theorem dX4_putNew_52 : decode cX4_putNew 52 = .ok (.aload_n 0, 1) := by decide +kernel
theorem dX4_putNew_53 : decode cX4_putNew 53 = .ok (.getfield 28, 3) := by decide +kernel
theorem dX4_putNew_56 : decode cX4_putNew 56 = .ok (.aload_n 2, 1) := by decide +kernel
theorem dX4_putNew_57 : decode cX4_putNew 57 = .ok (.invokevirtual 142, 3) := by decide +kernel
theorem dX4_putNew_60 : decode cX4_putNew 60 = .ok (.aload_n 0, 1) := by decide +kernel
theorem dX4_putNew_61 : decode cX4_putNew 61 = .ok (.getfield 28, 3) := by decide +kernel
theorem dX4_putNew_64 : decode cX4_putNew 64 = .ok (.aload_n 0, 1) := by decide +kernel
theorem dX4_putNew_65 : decode cX4_putNew 65 = .ok (.getfield 50, 3) := by decide +kernel
theorem dX4_putNew_68 : decode cX4_putNew 68 = .ok (.getfield 145, 3) := by decide +kernel
theorem dX4_putNew_71 : decode cX4_putNew 71 = .ok (.invokevirtual 148, 3) := by decide +kernel
theorem dX4_putNew_74 : decode cX4_putNew 74 = .ok (.aload_n 0, 1) := by decide +kernel
theorem dX4_putNew_75 : decode cX4_putNew 75 = .ok (.getfield 50, 3) := by decide +kernel
theorem dX4_putNew_78 : decode cX4_putNew 78 = .ok (.aload_n 0, 1) := by decide +kernel
theorem dX4_putNew_79 : decode cX4_putNew 79 = .ok (.getfield 32, 3) := by decide +kernel
theorem dX4_putNew_82 : decode cX4_putNew 82 = .ok (.aload_n 2, 1) := by decide +kernel
theorem dX4_putNew_83 : decode cX4_putNew 83 = .ok (.invokevirtual 142, 3) := by decide +kernel
theorem dX4_putNew_86 : decode cX4_putNew 86 = .ok (.aload_n 0, 1) := by decide +kernel
theorem dX4_putNew_87 : decode cX4_putNew 87 = .ok (.getfield 32, 3) := by decide +kernel
theorem dX4_putNew_90 : decode cX4_putNew 90 = .ok (.aload_n 0, 1) := by decide +kernel
theorem dX4_putNew_91 : decode cX4_putNew 91 = .ok (.getfield 50, 3) := by decide +kernel
theorem dX4_putNew_94 : decode cX4_putNew 94 = .ok (.getfield 145, 3) := by decide +kernel
theorem dX4_putNew_97 : decode cX4_putNew 97 = .ok (.invokevirtual 148, 3) := by decide +kernel
theorem dX4_putNew_100 : decode cX4_putNew 100 = .ok (.aload_n 0, 1) := by decide +kernel
theorem dX4_putNew_101 : decode cX4_putNew 101 = .ok (.getfield 28, 3) := by decide +kernel
theorem dX4_putNew_104 : decode cX4_putNew 104 = .ok (.invokevirtual 194, 3) := by decide +kernel
theorem dX4_putNew_107 : decode cX4_putNew 107 = .ok (.sipush 800, 3) := by decide +kernel
theorem dX4_putNew_110 : decode cX4_putNew 110 = .ok (.if_icmp .gt 16, 3) := by decide +kernel
theorem dX4_putNew_113 : decode cX4_putNew 113 = .ok (.aload_n 0, 1) := by decide +kernel
theorem dX4_putNew_114 : decode cX4_putNew 114 = .ok (.getfield 32, 3) := by decide +kernel
theorem dX4_putNew_117 : decode cX4_putNew 117 = .ok (.invokevirtual 194, 3) := by decide +kernel
theorem dX4_putNew_120 : decode cX4_putNew 120 = .ok (.sipush 800, 3) := by decide +kernel
theorem dX4_putNew_123 : decode cX4_putNew 123 = .ok (.if_icmp .le 5, 3) := by decide +kernel
theorem dX4_putNew_126 : decode cX4_putNew 126 = .ok (.iconst (-1), 1) := by decide +kernel
theorem dX4_putNew_127 : decode cX4_putNew 127 = .ok (.ireturn, 1) := by decide +kernel
theorem dX4_putNew_128 : decode cX4_putNew 128 = .ok (.aload_n 0, 1) := by decide +kernel
theorem dX4_putNew_129 : decode cX4_putNew 129 = .ok (.getfield 11, 3) := by decide +kernel
theorem dX4_putNew_132 : decode cX4_putNew 132 = .ok (.aload_n 0, 1) := by decide +kernel
theorem dX4_putNew_133 : decode cX4_putNew 133 = .ok (.getfield 117, 3) := by decide +kernel
theorem dX4_putNew_136 : decode cX4_putNew 136 = .ok (.new 9, 3) := by decide +kernel
theorem dX4_putNew_139 : decode cX4_putNew 139 = .ok (.dup, 1) := by decide +kernel
theorem dX4_putNew_140 : decode cX4_putNew 140 = .ok (.aload_n 0, 1) := by decide +kernel
theorem dX4_putNew_141 : decode cX4_putNew 141 = .ok (.getfield 28, 3) := by decide +kernel
theorem dX4_putNew_144 : decode cX4_putNew 144 = .ok (.invokevirtual 208, 3) := by decide +kernel
theorem dX4_putNew_147 : decode cX4_putNew 147 = .ok (.ifCond .eq 7, 3) := by decide +kernel
theorem dX4_putNew_150 : decode cX4_putNew 150 = .ok (.iconst 0, 1) := by decide +kernel
theorem dX4_putNew_151 : decode cX4_putNew 151 = .ok (.goto 4, 3) := by decide +kernel
theorem dX4_putNew_154 : decode cX4_putNew 154 = .ok (.iload_n 1, 1) := by decide +kernel
theorem dX4_putNew_155 : decode cX4_putNew 155 = .ok (.aload_n 0, 1) := by decide +kernel
theorem dX4_putNew_156 : decode cX4_putNew 156 = .ok (.getfield 28, 3) := by decide +kernel
theorem dX4_putNew_159 : decode cX4_putNew 159 = .ok (.aload_n 0, 1) := by decide +kernel
theorem dX4_putNew_160 : decode cX4_putNew 160 = .ok (.getfield 32, 3) := by decide +kernel
theorem dX4_putNew_163 : decode cX4_putNew 163 = .ok (.invokespecial 65, 3) := by decide +kernel
theorem dX4_putNew_166 : decode cX4_putNew 166 = .ok (.aastore, 1) := by decide +kernel
theorem dX4_putNew_167 : decode cX4_putNew 167 = .ok (.aload_n 0, 1) := by decide +kernel
theorem dX4_putNew_168 : decode cX4_putNew 168 = .ok (.dup, 1) := by decide +kernel
theorem dX4_putNew_169 : decode cX4_putNew 169 = .ok (.getfield 117, 3) := by decide +kernel
theorem dX4_putNew_172 : decode cX4_putNew 172 = .ok (.dup_x1, 1) := by decide +kernel
theorem dX4_putNew_173 : decode cX4_putNew 173 = .ok (.iconst 1, 1) := by decide +kernel
theorem dX4_putNew_174 : decode cX4_putNew 174 = .ok (.iadd, 1) := by decide +kernel
theorem dX4_putNew_175 : decode cX4_putNew 175 = .ok (.putfield 117, 3) := by decide +kernel
theorem dX4_putNew_178 : decode cX4_putNew 178 = .ok (.ireturn, 1) := by decide +kernel
theorem dX4_setNewToLeftOverPower_0 : decode cX4_setNewToLeftOverPower 0 = .ok (.aload_n 0, 1) := by decide +kernel
theorem dX4_setNewToLeftOverPower_1 : decode cX4_setNewToLeftOverPower 1 = .ok (.getfield 28, 3) := by decide +kernel
theorem dX4_setNewToLeftOverPower_4 : decode cX4_setNewToLeftOverPower 4 = .ok (.aload_n 0, 1) := by decide +kernel
theorem dX4_setNewToLeftOverPower_5 : decode cX4_setNewToLeftOverPower 5 = .ok (.getfield 35, 3) := by decide +kernel
theorem dX4_setNewToLeftOverPower_8 : decode cX4_setNewToLeftOverPower 8 = .ok (.invokevirtual 148, 3) := by decide +kernel
theorem dX4_setNewToLeftOverPower_11 : decode cX4_setNewToLeftOverPower 11 = .ok (.aload_n 0, 1) := by decide +kernel
theorem dX4_setNewToLeftOverPower_12 : decode cX4_setNewToLeftOverPower 12 = .ok (.getfield 32, 3) := by decide +kernel
theorem dX4_setNewToLeftOverPower_15 : decode cX4_setNewToLeftOverPower 15 = .ok (.aload_n 0, 1) := by decide +kernel
theorem dX4_setNewToLeftOverPower_16 : decode cX4_setNewToLeftOverPower 16 = .ok (.getfield 41, 3) := by decide +kernel
theorem dX4_setNewToLeftOverPower_19 : decode cX4_setNewToLeftOverPower 19 = .ok (.iload_n 1, 1) := by decide +kernel
theorem dX4_setNewToLeftOverPower_20 : decode cX4_setNewToLeftOverPower 20 = .ok (.invokevirtual 212, 3) := by decide +kernel
theorem dX4_setNewToLeftOverPower_23 : decode cX4_setNewToLeftOverPower 23 = .ok (.return_, 1) := by decide +kernel
theorem dX4_setEnd_0 : decode cX4_setEnd 0 = .ok (.iload_n 1, 1) := by decide +kernel
theorem dX4_setEnd_1 : decode cX4_setEnd 1 = .ok (.iconst 2, 1) := by decide +kernel
theorem dX4_setEnd_2 : decode cX4_setEnd 2 = .ok (.imul, 1) := by decide +kernel
theorem dX4_setEnd_3 : decode cX4_setEnd 3 = .ok (.iload_n 2, 1) := by decide +kernel
theorem dX4_setEnd_4 : decode cX4_setEnd 4 = .ok (.iadd, 1) := by decide +kernel
theorem dX4_setEnd_5 : decode cX4_setEnd 5 = .ok (.istore 4, 2) := by decide +kernel
theorem dX4_setEnd_7 : decode cX4_setEnd 7 = .ok (.iload 4, 2) := by decide +kernel
theorem dX4_setEnd_9 : decode cX4_setEnd 9 = .ok (.ifCond .lt 21, 3) := by decide +kernel
theorem dX4_setEnd_12 : decode cX4_setEnd 12 = .ok (.iload 4, 2) := by decide +kernel
theorem dX4_setEnd_14 : decode cX4_setEnd 14 = .ok (.aload_n 0, 1) := by decide +kernel
theorem dX4_setEnd_15 : decode cX4_setEnd 15 = .ok (.getfield 15, 3) := by decide +kernel
theorem dX4_setEnd_18 : decode cX4_setEnd 18 = .ok (.arraylength, 1) := by decide +kernel
theorem dX4_setEnd_19 : decode cX4_setEnd 19 = .ok (.if_icmp .ge 11, 3) := by decide +kernel
theorem dX4_setEnd_22 : decode cX4_setEnd 22 = .ok (.aload_n 0, 1) := by decide +kernel
theorem dX4_setEnd_23 : decode cX4_setEnd 23 = .ok (.getfield 15, 3) := by decide +kernel
theorem dX4_setEnd_26 : decode cX4_setEnd 26 = .ok (.iload 4, 2) := by decide +kernel
theorem dX4_setEnd_28 : decode cX4_setEnd 28 = .ok (.iload_n 3, 1) := by decide +kernel
theorem dX4_setEnd_29 : decode cX4_setEnd 29 = .ok (.iastore, 1) := by decide +kernel
theorem dX4_setEnd_30 : decode cX4_setEnd 30 = .ok (.return_, 1) := by decide +kernel
theorem dX4_leaveRootInLeft_0 : decode cX4_leaveRootInLeft 0 = .ok (.aload_n 0, 1) := by decide +kernel
theorem dX4_leaveRootInLeft_1 : decode cX4_leaveRootInLeft 1 = .ok (.getfield 32, 3) := by decide +kernel
theorem dX4_leaveRootInLeft_4 : decode cX4_leaveRootInLeft 4 = .ok (.aload_n 1, 1) := by decide +kernel
theorem dX4_leaveRootInLeft_5 : decode cX4_leaveRootInLeft 5 = .ok (.getfield 83, 3) := by decide +kernel
theorem dX4_leaveRootInLeft_8 : decode cX4_leaveRootInLeft 8 = .ok (.iconst 2, 1) := by decide +kernel
theorem dX4_leaveRootInLeft_9 : decode cX4_leaveRootInLeft 9 = .ok (.iload_n 2, 1) := by decide +kernel
theorem dX4_leaveRootInLeft_10 : decode cX4_leaveRootInLeft 10 = .ok (.imul, 1) := by decide +kernel
theorem dX4_leaveRootInLeft_11 : decode cX4_leaveRootInLeft 11 = .ok (.invokevirtual 212, 3) := by decide +kernel
theorem dX4_leaveRootInLeft_14 : decode cX4_leaveRootInLeft 14 = .ok (.aload_n 0, 1) := by decide +kernel
theorem dX4_leaveRootInLeft_15 : decode cX4_leaveRootInLeft 15 = .ok (.getfield 50, 3) := by decide +kernel
theorem dX4_leaveRootInLeft_18 : decode cX4_leaveRootInLeft 18 = .ok (.aload_n 0, 1) := by decide +kernel
theorem dX4_leaveRootInLeft_19 : decode cX4_leaveRootInLeft 19 = .ok (.getfield 32, 3) := by decide +kernel
theorem dX4_leaveRootInLeft_22 : decode cX4_leaveRootInLeft 22 = .ok (.aload_n 1, 1) := by decide +kernel
theorem dX4_leaveRootInLeft_23 : decode cX4_leaveRootInLeft 23 = .ok (.getfield 86, 3) := by decide +kernel
theorem dX4_leaveRootInLeft_26 : decode cX4_leaveRootInLeft 26 = .ok (.invokevirtual 142, 3) := by decide +kernel
theorem dX4_leaveRootInLeft_29 : decode cX4_leaveRootInLeft 29 = .ok (.aload_n 0, 1) := by decide +kernel
theorem dX4_leaveRootInLeft_30 : decode cX4_leaveRootInLeft 30 = .ok (.getfield 38, 3) := by decide +kernel
theorem dX4_leaveRootInLeft_33 : decode cX4_leaveRootInLeft 33 = .ok (.aload_n 0, 1) := by decide +kernel
theorem dX4_leaveRootInLeft_34 : decode cX4_leaveRootInLeft 34 = .ok (.getfield 50, 3) := by decide +kernel
theorem dX4_leaveRootInLeft_37 : decode cX4_leaveRootInLeft 37 = .ok (.getfield 145, 3) := by decide +kernel
theorem dX4_leaveRootInLeft_40 : decode cX4_leaveRootInLeft 40 = .ok (.invokevirtual 148, 3) := by decide +kernel
theorem dX4_leaveRootInLeft_43 : decode cX4_leaveRootInLeft 43 = .ok (.aload_n 0, 1) := by decide +kernel
theorem dX4_leaveRootInLeft_44 : decode cX4_leaveRootInLeft 44 = .ok (.invokevirtual 216, 3) := by decide +kernel
theorem dX4_leaveRootInLeft_47 : decode cX4_leaveRootInLeft 47 = .ok (.aload_n 0, 1) := by decide +kernel
theorem dX4_leaveRootInLeft_48 : decode cX4_leaveRootInLeft 48 = .ok (.getfield 28, 3) := by decide +kernel
theorem dX4_leaveRootInLeft_51 : decode cX4_leaveRootInLeft 51 = .ok (.aload_n 0, 1) := by decide +kernel
theorem dX4_leaveRootInLeft_52 : decode cX4_leaveRootInLeft 52 = .ok (.getfield 35, 3) := by decide +kernel
theorem dX4_leaveRootInLeft_55 : decode cX4_leaveRootInLeft 55 = .ok (.aload_n 0, 1) := by decide +kernel
theorem dX4_leaveRootInLeft_56 : decode cX4_leaveRootInLeft 56 = .ok (.getfield 35, 3) := by decide +kernel
theorem dX4_leaveRootInLeft_59 : decode cX4_leaveRootInLeft 59 = .ok (.invokevirtual 89, 3) := by decide +kernel
theorem dX4_leaveRootInLeft_62 : decode cX4_leaveRootInLeft 62 = .ok (.aload_n 0, 1) := by decide +kernel
theorem dX4_leaveRootInLeft_63 : decode cX4_leaveRootInLeft 63 = .ok (.getfield 38, 3) := by decide +kernel
theorem dX4_leaveRootInLeft_66 : decode cX4_leaveRootInLeft 66 = .ok (.aload_n 0, 1) := by decide +kernel
theorem dX4_leaveRootInLeft_67 : decode cX4_leaveRootInLeft 67 = .ok (.getfield 28, 3) := by decide +kernel
theorem dX4_leaveRootInLeft_70 : decode cX4_leaveRootInLeft 70 = .ok (.aload_n 1, 1) := by decide +kernel
theorem dX4_leaveRootInLeft_71 : decode cX4_leaveRootInLeft 71 = .ok (.getfield 86, 3) := by decide +kernel
theorem dX4_leaveRootInLeft_74 : decode cX4_leaveRootInLeft 74 = .ok (.invokevirtual 89, 3) := by decide +kernel
theorem dX4_leaveRootInLeft_77 : decode cX4_leaveRootInLeft 77 = .ok (.aload_n 0, 1) := by decide +kernel
theorem dX4_leaveRootInLeft_78 : decode cX4_leaveRootInLeft 78 = .ok (.getfield 38, 3) := by decide +kernel
theorem dX4_leaveRootInLeft_81 : decode cX4_leaveRootInLeft 81 = .ok (.aload_n 0, 1) := by decide +kernel
theorem dX4_leaveRootInLeft_82 : decode cX4_leaveRootInLeft 82 = .ok (.getfield 32, 3) := by decide +kernel
theorem dX4_leaveRootInLeft_85 : decode cX4_leaveRootInLeft 85 = .ok (.invokevirtual 100, 3) := by decide +kernel
theorem dX4_leaveRootInLeft_88 : decode cX4_leaveRootInLeft 88 = .ok (.ifCond .ne 7, 3) := by decide +kernel
theorem dX4_leaveRootInLeft_91 : decode cX4_leaveRootInLeft 91 = .ok (.iconst 1, 1) := by decide +kernel
theorem dX4_leaveRootInLeft_92 : decode cX4_leaveRootInLeft 92 = .ok (.goto 4, 3) := by decide +kernel
theorem dX4_leaveRootInLeft_95 : decode cX4_leaveRootInLeft 95 = .ok (.iconst 0, 1) := by decide +kernel
theorem dX4_leaveRootInLeft_96 : decode cX4_leaveRootInLeft 96 = .ok (.ireturn, 1) := by decide +kernel
theorem dX4_leaveFloorOfRootOfRightInLeft_0 : decode cX4_leaveFloorOfRootOfRightInLeft 0 = .ok (.aload_n 0, 1) := by decide +kernel
theorem dX4_leaveFloorOfRootOfRightInLeft_1 : decode cX4_leaveFloorOfRootOfRightInLeft 1 = .ok (.getfield 35, 3) := by decide +kernel
theorem dX4_leaveFloorOfRootOfRightInLeft_4 : decode cX4_leaveFloorOfRootOfRightInLeft 4 = .ok (.aload_n 0, 1) := by decide +kernel
theorem dX4_leaveFloorOfRootOfRightInLeft_5 : decode cX4_leaveFloorOfRootOfRightInLeft 5 = .ok (.getfield 41, 3) := by decide +kernel
theorem dX4_leaveFloorOfRootOfRightInLeft_8 : decode cX4_leaveFloorOfRootOfRightInLeft 8 = .ok (.aload_n 0, 1) := by decide +kernel
theorem dX4_leaveFloorOfRootOfRightInLeft_9 : decode cX4_leaveFloorOfRootOfRightInLeft 9 = .ok (.getfield 38, 3) := by decide +kernel
theorem dX4_leaveFloorOfRootOfRightInLeft_12 : decode cX4_leaveFloorOfRootOfRightInLeft 12 = .ok (.invokevirtual 194, 3) := by decide +kernel
theorem dX4_leaveFloorOfRootOfRightInLeft_15 : decode cX4_leaveFloorOfRootOfRightInLeft 15 = .ok (.iconst 1, 1) := by decide +kernel
theorem dX4_leaveFloorOfRootOfRightInLeft_16 : decode cX4_leaveFloorOfRootOfRightInLeft 16 = .ok (.iadd, 1) := by decide +kernel
theorem dX4_leaveFloorOfRootOfRightInLeft_17 : decode cX4_leaveFloorOfRootOfRightInLeft 17 = .ok (.iconst 2, 1) := by decide +kernel
theorem dX4_leaveFloorOfRootOfRightInLeft_18 : decode cX4_leaveFloorOfRootOfRightInLeft 18 = .ok (.idiv, 1) := by decide +kernel
theorem dX4_leaveFloorOfRootOfRightInLeft_19 : decode cX4_leaveFloorOfRootOfRightInLeft 19 = .ok (.invokevirtual 212, 3) := by decide +kernel
theorem dX4_leaveFloorOfRootOfRightInLeft_22 : decode cX4_leaveFloorOfRootOfRightInLeft 22 = .ok (.iconst 0, 1) := by decide +kernel
theorem dX4_leaveFloorOfRootOfRightInLeft_23 : decode cX4_leaveFloorOfRootOfRightInLeft 23 = .ok (.istore_n 1, 1) := by decide +kernel
theorem dX4_leaveFloorOfRootOfRightInLeft_24 : decode cX4_leaveFloorOfRootOfRightInLeft 24 = .ok (.iload_n 1, 1) := by decide +kernel
theorem dX4_leaveFloorOfRootOfRightInLeft_25 : decode cX4_leaveFloorOfRootOfRightInLeft 25 = .ok (.sipush 1000, 3) := by decide +kernel
theorem dX4_leaveFloorOfRootOfRightInLeft_28 : decode cX4_leaveFloorOfRootOfRightInLeft 28 = .ok (.if_icmp .ge 76, 3) := by decide +kernel
theorem dX4_leaveFloorOfRootOfRightInLeft_31 : decode cX4_leaveFloorOfRootOfRightInLeft 31 = .ok (.aload_n 0, 1) := by decide +kernel
theorem dX4_leaveFloorOfRootOfRightInLeft_32 : decode cX4_leaveFloorOfRootOfRightInLeft 32 = .ok (.getfield 50, 3) := by decide +kernel
theorem dX4_leaveFloorOfRootOfRightInLeft_35 : decode cX4_leaveFloorOfRootOfRightInLeft 35 = .ok (.aload_n 0, 1) := by decide +kernel
theorem dX4_leaveFloorOfRootOfRightInLeft_36 : decode cX4_leaveFloorOfRootOfRightInLeft 36 = .ok (.getfield 38, 3) := by decide +kernel
theorem dX4_leaveFloorOfRootOfRightInLeft_39 : decode cX4_leaveFloorOfRootOfRightInLeft 39 = .ok (.aload_n 0, 1) := by decide +kernel
theorem dX4_leaveFloorOfRootOfRightInLeft_40 : decode cX4_leaveFloorOfRootOfRightInLeft 40 = .ok (.getfield 35, 3) := by decide +kernel
theorem dX4_leaveFloorOfRootOfRightInLeft_43 : decode cX4_leaveFloorOfRootOfRightInLeft 43 = .ok (.invokevirtual 142, 3) := by decide +kernel
theorem dX4_leaveFloorOfRootOfRightInLeft_46 : decode cX4_leaveFloorOfRootOfRightInLeft 46 = .ok (.aload_n 0, 1) := by decide +kernel
theorem dX4_leaveFloorOfRootOfRightInLeft_47 : decode cX4_leaveFloorOfRootOfRightInLeft 47 = .ok (.getfield 28, 3) := by decide +kernel
theorem dX4_leaveFloorOfRootOfRightInLeft_50 : decode cX4_leaveFloorOfRootOfRightInLeft 50 = .ok (.aload_n 0, 1) := by decide +kernel
theorem dX4_leaveFloorOfRootOfRightInLeft_51 : decode cX4_leaveFloorOfRootOfRightInLeft 51 = .ok (.getfield 35, 3) := by decide +kernel
theorem dX4_leaveFloorOfRootOfRightInLeft_54 : decode cX4_leaveFloorOfRootOfRightInLeft 54 = .ok (.aload_n 0, 1) := by decide +kernel
theorem dX4_leaveFloorOfRootOfRightInLeft_55 : decode cX4_leaveFloorOfRootOfRightInLeft 55 = .ok (.getfield 50, 3) := by decide +kernel
theorem dX4_leaveFloorOfRootOfRightInLeft_58 : decode cX4_leaveFloorOfRootOfRightInLeft 58 = .ok (.getfield 145, 3) := by decide +kernel
theorem dX4_leaveFloorOfRootOfRightInLeft_61 : decode cX4_leaveFloorOfRootOfRightInLeft 61 = .ok (.invokevirtual 97, 3) := by decide +kernel
theorem dX4_leaveFloorOfRootOfRightInLeft_64 : decode cX4_leaveFloorOfRootOfRightInLeft 64 = .ok (.aload_n 0, 1) := by decide +kernel
theorem dX4_leaveFloorOfRootOfRightInLeft_65 : decode cX4_leaveFloorOfRootOfRightInLeft 65 = .ok (.getfield 28, 3) := by decide +kernel
theorem dX4_leaveFloorOfRootOfRightInLeft_68 : decode cX4_leaveFloorOfRootOfRightInLeft 68 = .ok (.iconst 1, 1) := by decide +kernel
theorem dX4_leaveFloorOfRootOfRightInLeft_69 : decode cX4_leaveFloorOfRootOfRightInLeft 69 = .ok (.invokevirtual 219, 3) := by decide +kernel
theorem dX4_leaveFloorOfRootOfRightInLeft_72 : decode cX4_leaveFloorOfRootOfRightInLeft 72 = .ok (.aload_n 0, 1) := by decide +kernel
theorem dX4_leaveFloorOfRootOfRightInLeft_73 : decode cX4_leaveFloorOfRootOfRightInLeft 73 = .ok (.getfield 28, 3) := by decide +kernel
theorem dX4_leaveFloorOfRootOfRightInLeft_76 : decode cX4_leaveFloorOfRootOfRightInLeft 76 = .ok (.aload_n 0, 1) := by decide +kernel
theorem dX4_leaveFloorOfRootOfRightInLeft_77 : decode cX4_leaveFloorOfRootOfRightInLeft 77 = .ok (.getfield 35, 3) := by decide +kernel
theorem dX4_leaveFloorOfRootOfRightInLeft_80 : decode cX4_leaveFloorOfRootOfRightInLeft 80 = .ok (.invokevirtual 100, 3) := by decide +kernel
theorem dX4_leaveFloorOfRootOfRightInLeft_83 : decode cX4_leaveFloorOfRootOfRightInLeft 83 = .ok (.ifCond .lt 4, 3) := by decide +kernel
theorem dX4_leaveFloorOfRootOfRightInLeft_86 : decode cX4_leaveFloorOfRootOfRightInLeft 86 = .ok (.return_, 1) := by decide +kernel
theorem dX4_leaveFloorOfRootOfRightInLeft_87 : decode cX4_leaveFloorOfRootOfRightInLeft 87 = .ok (.aload_n 0, 1) := by decide +kernel
theorem dX4_leaveFloorOfRootOfRightInLeft_88 : decode cX4_leaveFloorOfRootOfRightInLeft 88 = .ok (.getfield 35, 3) := by decide +kernel
theorem dX4_leaveFloorOfRootOfRightInLeft_91 : decode cX4_leaveFloorOfRootOfRightInLeft 91 = .ok (.aload_n 0, 1) := by decide +kernel
theorem dX4_leaveFloorOfRootOfRightInLeft_92 : decode cX4_leaveFloorOfRootOfRightInLeft 92 = .ok (.getfield 28, 3) := by decide +kernel
theorem dX4_leaveFloorOfRootOfRightInLeft_95 : decode cX4_leaveFloorOfRootOfRightInLeft 95 = .ok (.invokevirtual 148, 3) := by decide +kernel
theorem dX4_leaveFloorOfRootOfRightInLeft_98 : decode cX4_leaveFloorOfRootOfRightInLeft 98 = .ok (.iinc 1 1, 3) := by decide +kernel
theorem dX4_leaveFloorOfRootOfRightInLeft_101 : decode cX4_leaveFloorOfRootOfRightInLeft 101 = .ok (.goto (-77), 3) := by decide +kernel
theorem dX4_leaveFloorOfRootOfRightInLeft_104 : decode cX4_leaveFloorOfRootOfRightInLeft 104 = .ok (.return_, 1) := by decide +kernel
theorem dX4_growsWhenRounded_0 : decode cX4_growsWhenRounded 0 = .ok (.aload_n 0, 1) := by decide +kernel
theorem dX4_growsWhenRounded_1 : decode cX4_growsWhenRounded 1 = .ok (.getfield 50, 3) := by decide +kernel
theorem dX4_growsWhenRounded_4 : decode cX4_growsWhenRounded 4 = .ok (.getfield 222, 3) := by decide +kernel
theorem dX4_growsWhenRounded_7 : decode cX4_growsWhenRounded 7 = .ok (.invokevirtual 208, 3) := by decide +kernel
theorem dX4_growsWhenRounded_10 : decode cX4_growsWhenRounded 10 = .ok (.ifCond .eq 5, 3) := by decide +kernel
theorem dX4_growsWhenRounded_13 : decode cX4_growsWhenRounded 13 = .ok (.iconst 0, 1) := by decide +kernel
theorem dX4_growsWhenRounded_14 : decode cX4_growsWhenRounded 14 = .ok (.ireturn, 1) := by decide +kernel
theorem dX4_growsWhenRounded_15 : decode cX4_growsWhenRounded 15 = .ok (.iload_n 2, 1) := by decide +kernel
theorem dX4_growsWhenRounded_16 : decode cX4_growsWhenRounded 16 = .ok (.ifCond .ne 13, 3) := by decide +kernel
theorem dX4_growsWhenRounded_19 : decode cX4_growsWhenRounded 19 = .ok (.iload_n 1, 1) := by decide +kernel
theorem dX4_growsWhenRounded_20 : decode cX4_growsWhenRounded 20 = .ok (.ifCond .ge 7, 3) := by decide +kernel
theorem dX4_growsWhenRounded_23 : decode cX4_growsWhenRounded 23 = .ok (.iconst 1, 1) := by decide +kernel
theorem dX4_growsWhenRounded_24 : decode cX4_growsWhenRounded 24 = .ok (.goto 4, 3) := by decide +kernel
theorem dX4_growsWhenRounded_27 : decode cX4_growsWhenRounded 27 = .ok (.iconst 0, 1) := by decide +kernel
theorem dX4_growsWhenRounded_28 : decode cX4_growsWhenRounded 28 = .ok (.ireturn, 1) := by decide +kernel
theorem dX4_growsWhenRounded_29 : decode cX4_growsWhenRounded 29 = .ok (.iload_n 2, 1) := by decide +kernel
theorem dX4_growsWhenRounded_30 : decode cX4_growsWhenRounded 30 = .ok (.iconst 1, 1) := by decide +kernel
theorem dX4_growsWhenRounded_31 : decode cX4_growsWhenRounded 31 = .ok (.if_icmp .ne 13, 3) := by decide +kernel
theorem dX4_growsWhenRounded_34 : decode cX4_growsWhenRounded 34 = .ok (.iload_n 1, 1) := by decide +kernel
theorem dX4_growsWhenRounded_35 : decode cX4_growsWhenRounded 35 = .ok (.ifCond .le 7, 3) := by decide +kernel
theorem dX4_growsWhenRounded_38 : decode cX4_growsWhenRounded 38 = .ok (.iconst 1, 1) := by decide +kernel
theorem dX4_growsWhenRounded_39 : decode cX4_growsWhenRounded 39 = .ok (.goto 4, 3) := by decide +kernel
theorem dX4_growsWhenRounded_42 : decode cX4_growsWhenRounded 42 = .ok (.iconst 0, 1) := by decide +kernel
theorem dX4_growsWhenRounded_43 : decode cX4_growsWhenRounded 43 = .ok (.ireturn, 1) := by decide +kernel
theorem dX4_growsWhenRounded_44 : decode cX4_growsWhenRounded 44 = .ok (.aload_n 0, 1) := by decide +kernel
theorem dX4_growsWhenRounded_45 : decode cX4_growsWhenRounded 45 = .ok (.getfield 28, 3) := by decide +kernel
theorem dX4_growsWhenRounded_48 : decode cX4_growsWhenRounded 48 = .ok (.aload_n 0, 1) := by decide +kernel
theorem dX4_growsWhenRounded_49 : decode cX4_growsWhenRounded 49 = .ok (.getfield 50, 3) := by decide +kernel
theorem dX4_growsWhenRounded_52 : decode cX4_growsWhenRounded 52 = .ok (.getfield 222, 3) := by decide +kernel
theorem dX4_growsWhenRounded_55 : decode cX4_growsWhenRounded 55 = .ok (.aload_n 0, 1) := by decide +kernel
theorem dX4_growsWhenRounded_56 : decode cX4_growsWhenRounded 56 = .ok (.getfield 50, 3) := by decide +kernel
theorem dX4_growsWhenRounded_59 : decode cX4_growsWhenRounded 59 = .ok (.getfield 222, 3) := by decide +kernel
theorem dX4_growsWhenRounded_62 : decode cX4_growsWhenRounded 62 = .ok (.invokevirtual 97, 3) := by decide +kernel
theorem dX4_growsWhenRounded_65 : decode cX4_growsWhenRounded 65 = .ok (.aload_n 0, 1) := by decide +kernel
theorem dX4_growsWhenRounded_66 : decode cX4_growsWhenRounded 66 = .ok (.getfield 28, 3) := by decide +kernel
theorem dX4_growsWhenRounded_69 : decode cX4_growsWhenRounded 69 = .ok (.aload_n 0, 1) := by decide +kernel
theorem dX4_growsWhenRounded_70 : decode cX4_growsWhenRounded 70 = .ok (.getfield 38, 3) := by decide +kernel
theorem dX4_growsWhenRounded_73 : decode cX4_growsWhenRounded 73 = .ok (.invokevirtual 100, 3) := by decide +kernel
theorem dX4_growsWhenRounded_76 : decode cX4_growsWhenRounded 76 = .ok (.istore_n 3, 1) := by decide +kernel
theorem dX4_growsWhenRounded_77 : decode cX4_growsWhenRounded 77 = .ok (.iload_n 3, 1) := by decide +kernel
theorem dX4_growsWhenRounded_78 : decode cX4_growsWhenRounded 78 = .ok (.ifCond .eq 13, 3) := by decide +kernel
theorem dX4_growsWhenRounded_81 : decode cX4_growsWhenRounded 81 = .ok (.iload_n 3, 1) := by decide +kernel
theorem dX4_growsWhenRounded_82 : decode cX4_growsWhenRounded 82 = .ok (.ifCond .le 7, 3) := by decide +kernel
theorem dX4_growsWhenRounded_85 : decode cX4_growsWhenRounded 85 = .ok (.iconst 1, 1) := by decide +kernel
theorem dX4_growsWhenRounded_86 : decode cX4_growsWhenRounded 86 = .ok (.goto 4, 3) := by decide +kernel
theorem dX4_growsWhenRounded_89 : decode cX4_growsWhenRounded 89 = .ok (.iconst 0, 1) := by decide +kernel
theorem dX4_growsWhenRounded_90 : decode cX4_growsWhenRounded 90 = .ok (.ireturn, 1) := by decide +kernel
theorem dX4_growsWhenRounded_91 : decode cX4_growsWhenRounded 91 = .ok (.iload_n 2, 1) := by decide +kernel
theorem dX4_growsWhenRounded_92 : decode cX4_growsWhenRounded 92 = .ok (.iconst 2, 1) := by decide +kernel
theorem dX4_growsWhenRounded_93 : decode cX4_growsWhenRounded 93 = .ok (.if_icmp .ne 15, 3) := by decide +kernel
theorem dX4_growsWhenRounded_96 : decode cX4_growsWhenRounded 96 = .ok (.iload_n 1, 1) := by decide +kernel
theorem dX4_growsWhenRounded_97 : decode cX4_growsWhenRounded 97 = .ok (.ifCond .le 7, 3) := by decide +kernel
theorem dX4_growsWhenRounded_100 : decode cX4_growsWhenRounded 100 = .ok (.iconst 1, 1) := by decide +kernel
theorem dX4_growsWhenRounded_101 : decode cX4_growsWhenRounded 101 = .ok (.goto 14, 3) := by decide +kernel
theorem dX4_growsWhenRounded_104 : decode cX4_growsWhenRounded 104 = .ok (.iconst 0, 1) := by decide +kernel
theorem dX4_growsWhenRounded_105 : decode cX4_growsWhenRounded 105 = .ok (.goto 10, 3) := by decide +kernel
theorem dX4_growsWhenRounded_108 : decode cX4_growsWhenRounded 108 = .ok (.aload_n 0, 1) := by decide +kernel
theorem dX4_growsWhenRounded_109 : decode cX4_growsWhenRounded 109 = .ok (.getfield 35, 3) := by decide +kernel
theorem dX4_growsWhenRounded_112 : decode cX4_growsWhenRounded 112 = .ok (.invokevirtual 225, 3) := by decide +kernel
theorem dX4_growsWhenRounded_115 : decode cX4_growsWhenRounded 115 = .ok (.ireturn, 1) := by decide +kernel
theorem dX4_sumOfWeights_0 : decode cX4_sumOfWeights 0 = .ok (.lconst 0, 1) := by decide +kernel
theorem dX4_sumOfWeights_1 : decode cX4_sumOfWeights 1 = .ok (.lstore_n 1, 1) := by decide +kernel
theorem dX4_sumOfWeights_2 : decode cX4_sumOfWeights 2 = .ok (.aload_n 0, 1) := by decide +kernel
theorem dX4_sumOfWeights_3 : decode cX4_sumOfWeights 3 = .ok (.getfield 19, 3) := by decide +kernel
theorem dX4_sumOfWeights_6 : decode cX4_sumOfWeights 6 = .ok (.astore_n 3, 1) := by decide +kernel
theorem dX4_sumOfWeights_7 : decode cX4_sumOfWeights 7 = .ok (.aload_n 3, 1) := by decide +kernel
theorem dX4_sumOfWeights_8 : decode cX4_sumOfWeights 8 = .ok (.arraylength, 1) := by decide +kernel
theorem dX4_sumOfWeights_9 : decode cX4_sumOfWeights 9 = .ok (.istore 4, 2) := by decide +kernel
theorem dX4_sumOfWeights_11 : decode cX4_sumOfWeights 11 = .ok (.iconst 0, 1) := by decide +kernel
theorem dX4_sumOfWeights_12 : decode cX4_sumOfWeights 12 = .ok (.istore 5, 2) := by decide +kernel
theorem dX4_sumOfWeights_14 : decode cX4_sumOfWeights 14 = .ok (.iload 5, 2) := by decide +kernel
theorem dX4_sumOfWeights_16 : decode cX4_sumOfWeights 16 = .ok (.iload 4, 2) := by decide +kernel
theorem dX4_sumOfWeights_18 : decode cX4_sumOfWeights 18 = .ok (.if_icmp .ge 20, 3) := by decide +kernel
theorem dX4_sumOfWeights_21 : decode cX4_sumOfWeights 21 = .ok (.aload_n 3, 1) := by decide +kernel
theorem dX4_sumOfWeights_22 : decode cX4_sumOfWeights 22 = .ok (.iload 5, 2) := by decide +kernel
theorem dX4_sumOfWeights_24 : decode cX4_sumOfWeights 24 = .ok (.laload, 1) := by decide +kernel
theorem dX4_sumOfWeights_25 : decode cX4_sumOfWeights 25 = .ok (.lstore 6, 2) := by decide +kernel
theorem dX4_sumOfWeights_27 : decode cX4_sumOfWeights 27 = .ok (.lload_n 1, 1) := by decide +kernel
theorem dX4_sumOfWeights_28 : decode cX4_sumOfWeights 28 = .ok (.lload 6, 2) := by decide +kernel
theorem dX4_sumOfWeights_30 : decode cX4_sumOfWeights 30 = .ok (.ladd, 1) := by decide +kernel
theorem dX4_sumOfWeights_31 : decode cX4_sumOfWeights 31 = .ok (.lstore_n 1, 1) := by decide +kernel
theorem dX4_sumOfWeights_32 : decode cX4_sumOfWeights 32 = .ok (.iinc 5 1, 3) := by decide +kernel
theorem dX4_sumOfWeights_35 : decode cX4_sumOfWeights 35 = .ok (.goto (-21), 3) := by decide +kernel
theorem dX4_sumOfWeights_38 : decode cX4_sumOfWeights 38 = .ok (.lload_n 1, 1) := by decide +kernel
theorem dX4_sumOfWeights_39 : decode cX4_sumOfWeights 39 = .ok (.lreturn, 1) := by decide +kernel
theorem dX4_leftOver_0 : decode cX4_leftOver 0 = .ok (.lload_n 1, 1) := by decide +kernel
theorem dX4_leftOver_1 : decode cX4_leftOver 1 = .ok (.lstore 5, 2) := by decide +kernel
theorem dX4_leftOver_3 : decode cX4_leftOver 3 = .ok (.aload_n 0, 1) := by decide +kernel
theorem dX4_leftOver_4 : decode cX4_leftOver 4 = .ok (.getfield 19, 3) := by decide +kernel
theorem dX4_leftOver_7 : decode cX4_leftOver 7 = .ok (.astore 7, 2) := by decide +kernel
theorem dX4_leftOver_9 : decode cX4_leftOver 9 = .ok (.aload 7, 2) := by decide +kernel
theorem dX4_leftOver_11 : decode cX4_leftOver 11 = .ok (.arraylength, 1) := by decide +kernel
theorem dX4_leftOver_12 : decode cX4_leftOver 12 = .ok (.istore 8, 2) := by decide +kernel
theorem dX4_leftOver_14 : decode cX4_leftOver 14 = .ok (.iconst 0, 1) := by decide +kernel
theorem dX4_leftOver_15 : decode cX4_leftOver 15 = .ok (.istore 9, 2) := by decide +kernel
theorem dX4_leftOver_17 : decode cX4_leftOver 17 = .ok (.iload 9, 2) := by decide +kernel
theorem dX4_leftOver_19 : decode cX4_leftOver 19 = .ok (.iload 8, 2) := by decide +kernel
theorem dX4_leftOver_21 : decode cX4_leftOver 21 = .ok (.if_icmp .ge 37, 3) := by decide +kernel
theorem dX4_leftOver_24 : decode cX4_leftOver 24 = .ok (.aload 7, 2) := by decide +kernel
theorem dX4_leftOver_26 : decode cX4_leftOver 26 = .ok (.iload 9, 2) := by decide +kernel
theorem dX4_leftOver_28 : decode cX4_leftOver 28 = .ok (.laload, 1) := by decide +kernel
theorem dX4_leftOver_29 : decode cX4_leftOver 29 = .ok (.lstore 10, 2) := by decide +kernel
theorem dX4_leftOver_31 : decode cX4_leftOver 31 = .ok (.lload 5, 2) := by decide +kernel
theorem dX4_leftOver_33 : decode cX4_leftOver 33 = .ok (.lload_n 3, 1) := by decide +kernel
theorem dX4_leftOver_34 : decode cX4_leftOver 34 = .ok (.lconst 0, 1) := by decide +kernel
theorem dX4_leftOver_35 : decode cX4_leftOver 35 = .ok (.lcmp, 1) := by decide +kernel
theorem dX4_leftOver_36 : decode cX4_leftOver 36 = .ok (.ifCond .le 12, 3) := by decide +kernel
theorem dX4_leftOver_39 : decode cX4_leftOver 39 = .ok (.lload_n 1, 1) := by decide +kernel
theorem dX4_leftOver_40 : decode cX4_leftOver 40 = .ok (.lload 10, 2) := by decide +kernel
theorem dX4_leftOver_42 : decode cX4_leftOver 42 = .ok (.lmul, 1) := by decide +kernel
theorem dX4_leftOver_43 : decode cX4_leftOver 43 = .ok (.lload_n 3, 1) := by decide +kernel
theorem dX4_leftOver_44 : decode cX4_leftOver 44 = .ok (.ldiv, 1) := by decide +kernel
theorem dX4_leftOver_45 : decode cX4_leftOver 45 = .ok (.goto 4, 3) := by decide +kernel
theorem dX4_leftOver_48 : decode cX4_leftOver 48 = .ok (.lconst 0, 1) := by decide +kernel
theorem dX4_leftOver_49 : decode cX4_leftOver 49 = .ok (.lsub, 1) := by decide +kernel
theorem dX4_leftOver_50 : decode cX4_leftOver 50 = .ok (.lstore 5, 2) := by decide +kernel
theorem dX4_leftOver_52 : decode cX4_leftOver 52 = .ok (.iinc 9 1, 3) := by decide +kernel
theorem dX4_leftOver_55 : decode cX4_leftOver 55 = .ok (.goto (-38), 3) := by decide +kernel
theorem dX4_leftOver_58 : decode cX4_leftOver 58 = .ok (.lload 5, 2) := by decide +kernel
theorem dX4_leftOver_60 : decode cX4_leftOver 60 = .ok (.lreturn, 1) := by decide +kernel
theorem dX4_countServedBefore_0 : decode cX4_countServedBefore 0 = .ok (.lload_n 3, 1) := by decide +kernel
theorem dX4_countServedBefore_1 : decode cX4_countServedBefore 1 = .ok (.lconst 0, 1) := by decide +kernel
theorem dX4_countServedBefore_2 : decode cX4_countServedBefore 2 = .ok (.lcmp, 1) := by decide +kernel
theorem dX4_countServedBefore_3 : decode cX4_countServedBefore 3 = .ok (.ifCond .le 18, 3) := by decide +kernel
theorem dX4_countServedBefore_6 : decode cX4_countServedBefore 6 = .ok (.iload 5, 2) := by decide +kernel
theorem dX4_countServedBefore_8 : decode cX4_countServedBefore 8 = .ok (.ifCond .lt 13, 3) := by decide +kernel
theorem dX4_countServedBefore_11 : decode cX4_countServedBefore 11 = .ok (.iload 5, 2) := by decide +kernel
theorem dX4_countServedBefore_13 : decode cX4_countServedBefore 13 = .ok (.aload_n 0, 1) := by decide +kernel
theorem dX4_countServedBefore_14 : decode cX4_countServedBefore 14 = .ok (.getfield 19, 3) := by decide +kernel
theorem dX4_countServedBefore_17 : decode cX4_countServedBefore 17 = .ok (.arraylength, 1) := by decide +kernel
theorem dX4_countServedBefore_18 : decode cX4_countServedBefore 18 = .ok (.if_icmp .lt 5, 3) := by decide +kernel
theorem dX4_countServedBefore_21 : decode cX4_countServedBefore 21 = .ok (.iconst 0, 1) := by decide +kernel
theorem dX4_countServedBefore_22 : decode cX4_countServedBefore 22 = .ok (.ireturn, 1) := by decide +kernel
theorem dX4_countServedBefore_23 : decode cX4_countServedBefore 23 = .ok (.lload_n 1, 1) := by decide +kernel
theorem dX4_countServedBefore_24 : decode cX4_countServedBefore 24 = .ok (.aload_n 0, 1) := by decide +kernel
theorem dX4_countServedBefore_25 : decode cX4_countServedBefore 25 = .ok (.getfield 19, 3) := by decide +kernel
theorem dX4_countServedBefore_28 : decode cX4_countServedBefore 28 = .ok (.iload 5, 2) := by decide +kernel
theorem dX4_countServedBefore_30 : decode cX4_countServedBefore 30 = .ok (.laload, 1) := by decide +kernel
theorem dX4_countServedBefore_31 : decode cX4_countServedBefore 31 = .ok (.lmul, 1) := by decide +kernel
theorem dX4_countServedBefore_32 : decode cX4_countServedBefore 32 = .ok (.lload_n 3, 1) := by decide +kernel
theorem dX4_countServedBefore_33 : decode cX4_countServedBefore 33 = .ok (.lrem, 1) := by decide +kernel
theorem dX4_countServedBefore_34 : decode cX4_countServedBefore 34 = .ok (.lstore 6, 2) := by decide +kernel
theorem dX4_countServedBefore_36 : decode cX4_countServedBefore 36 = .ok (.iconst 0, 1) := by decide +kernel
theorem dX4_countServedBefore_37 : decode cX4_countServedBefore 37 = .ok (.istore 8, 2) := by decide +kernel
theorem dX4_countServedBefore_39 : decode cX4_countServedBefore 39 = .ok (.iconst 0, 1) := by decide +kernel
theorem dX4_countServedBefore_40 : decode cX4_countServedBefore 40 = .ok (.istore 9, 2) := by decide +kernel
theorem dX4_countServedBefore_42 : decode cX4_countServedBefore 42 = .ok (.iload 9, 2) := by decide +kernel
theorem dX4_countServedBefore_44 : decode cX4_countServedBefore 44 = .ok (.aload_n 0, 1) := by decide +kernel
theorem dX4_countServedBefore_45 : decode cX4_countServedBefore 45 = .ok (.getfield 19, 3) := by decide +kernel
theorem dX4_countServedBefore_48 : decode cX4_countServedBefore 48 = .ok (.arraylength, 1) := by decide +kernel
theorem dX4_countServedBefore_49 : decode cX4_countServedBefore 49 = .ok (.if_icmp .ge 48, 3) := by decide +kernel
theorem dX4_countServedBefore_52 : decode cX4_countServedBefore 52 = .ok (.lload_n 1, 1) := by decide +kernel
theorem dX4_countServedBefore_53 : decode cX4_countServedBefore 53 = .ok (.aload_n 0, 1) := by decide +kernel
theorem dX4_countServedBefore_54 : decode cX4_countServedBefore 54 = .ok (.getfield 19, 3) := by decide +kernel
theorem dX4_countServedBefore_57 : decode cX4_countServedBefore 57 = .ok (.iload 9, 2) := by decide +kernel
theorem dX4_countServedBefore_59 : decode cX4_countServedBefore 59 = .ok (.laload, 1) := by decide +kernel
theorem dX4_countServedBefore_60 : decode cX4_countServedBefore 60 = .ok (.lmul, 1) := by decide +kernel
theorem dX4_countServedBefore_61 : decode cX4_countServedBefore 61 = .ok (.lload_n 3, 1) := by decide +kernel
theorem dX4_countServedBefore_62 : decode cX4_countServedBefore 62 = .ok (.lrem, 1) := by decide +kernel
theorem dX4_countServedBefore_63 : decode cX4_countServedBefore 63 = .ok (.lstore 10, 2) := by decide +kernel
theorem dX4_countServedBefore_65 : decode cX4_countServedBefore 65 = .ok (.lload 10, 2) := by decide +kernel
theorem dX4_countServedBefore_67 : decode cX4_countServedBefore 67 = .ok (.lload 6, 2) := by decide +kernel
theorem dX4_countServedBefore_69 : decode cX4_countServedBefore 69 = .ok (.lcmp, 1) := by decide +kernel
theorem dX4_countServedBefore_70 : decode cX4_countServedBefore 70 = .ok (.ifCond .gt 18, 3) := by decide +kernel
theorem dX4_countServedBefore_73 : decode cX4_countServedBefore 73 = .ok (.lload 10, 2) := by decide +kernel
theorem dX4_countServedBefore_75 : decode cX4_countServedBefore 75 = .ok (.lload 6, 2) := by decide +kernel
theorem dX4_countServedBefore_77 : decode cX4_countServedBefore 77 = .ok (.lcmp, 1) := by decide +kernel
theorem dX4_countServedBefore_78 : decode cX4_countServedBefore 78 = .ok (.ifCond .ne 13, 3) := by decide +kernel
theorem dX4_countServedBefore_81 : decode cX4_countServedBefore 81 = .ok (.iload 9, 2) := by decide +kernel
theorem dX4_countServedBefore_83 : decode cX4_countServedBefore 83 = .ok (.iload 5, 2) := by decide +kernel
theorem dX4_countServedBefore_85 : decode cX4_countServedBefore 85 = .ok (.if_icmp .ge 6, 3) := by decide +kernel
theorem dX4_countServedBefore_88 : decode cX4_countServedBefore 88 = .ok (.iinc 8 1, 3) := by decide +kernel
theorem dX4_countServedBefore_91 : decode cX4_countServedBefore 91 = .ok (.iinc 9 1, 3) := by decide +kernel
theorem dX4_countServedBefore_94 : decode cX4_countServedBefore 94 = .ok (.goto (-52), 3) := by decide +kernel
theorem dX4_countServedBefore_97 : decode cX4_countServedBefore 97 = .ok (.iload 8, 2) := by decide +kernel
theorem dX4_countServedBefore_99 : decode cX4_countServedBefore 99 = .ok (.ireturn, 1) := by decide +kernel
theorem dX4_writeDigitsOfLeft_0 : decode cX4_writeDigitsOfLeft 0 = .ok (.iconst 0, 1) := by decide +kernel
theorem dX4_writeDigitsOfLeft_1 : decode cX4_writeDigitsOfLeft 1 = .ok (.istore_n 1, 1) := by decide +kernel
theorem dX4_writeDigitsOfLeft_2 : decode cX4_writeDigitsOfLeft 2 = .ok (.iconst 0, 1) := by decide +kernel
theorem dX4_writeDigitsOfLeft_3 : decode cX4_writeDigitsOfLeft 3 = .ok (.istore_n 2, 1) := by decide +kernel
theorem dX4_writeDigitsOfLeft_4 : decode cX4_writeDigitsOfLeft 4 = .ok (.iload_n 2, 1) := by decide +kernel
theorem dX4_writeDigitsOfLeft_5 : decode cX4_writeDigitsOfLeft 5 = .ok (.bipush 27, 2) := by decide +kernel
theorem dX4_writeDigitsOfLeft_7 : decode cX4_writeDigitsOfLeft 7 = .ok (.if_icmp .ge 66, 3) := by decide +kernel
theorem dX4_writeDigitsOfLeft_10 : decode cX4_writeDigitsOfLeft 10 = .ok (.aload_n 0, 1) := by decide +kernel
theorem dX4_writeDigitsOfLeft_11 : decode cX4_writeDigitsOfLeft 11 = .ok (.getfield 35, 3) := by decide +kernel
theorem dX4_writeDigitsOfLeft_14 : decode cX4_writeDigitsOfLeft 14 = .ok (.invokevirtual 208, 3) := by decide +kernel
theorem dX4_writeDigitsOfLeft_17 : decode cX4_writeDigitsOfLeft 17 = .ok (.ifCond .ne 56, 3) := by decide +kernel
theorem dX4_writeDigitsOfLeft_20 : decode cX4_writeDigitsOfLeft 20 = .ok (.aload_n 0, 1) := by decide +kernel
theorem dX4_writeDigitsOfLeft_21 : decode cX4_writeDigitsOfLeft 21 = .ok (.getfield 35, 3) := by decide +kernel
theorem dX4_writeDigitsOfLeft_24 : decode cX4_writeDigitsOfLeft 24 = .ok (.ldc2_w 163, 3) := by decide +kernel
theorem dX4_writeDigitsOfLeft_27 : decode cX4_writeDigitsOfLeft 27 = .ok (.invokevirtual 228, 3) := by decide +kernel
theorem dX4_writeDigitsOfLeft_30 : decode cX4_writeDigitsOfLeft 30 = .ok (.lstore_n 3, 1) := by decide +kernel
theorem dX4_writeDigitsOfLeft_31 : decode cX4_writeDigitsOfLeft 31 = .ok (.iconst 0, 1) := by decide +kernel
theorem dX4_writeDigitsOfLeft_32 : decode cX4_writeDigitsOfLeft 32 = .ok (.istore 5, 2) := by decide +kernel
theorem dX4_writeDigitsOfLeft_34 : decode cX4_writeDigitsOfLeft 34 = .ok (.iload 5, 2) := by decide +kernel
theorem dX4_writeDigitsOfLeft_36 : decode cX4_writeDigitsOfLeft 36 = .ok (.bipush 9, 2) := by decide +kernel
theorem dX4_writeDigitsOfLeft_38 : decode cX4_writeDigitsOfLeft 38 = .ok (.if_icmp .ge 29, 3) := by decide +kernel
theorem dX4_writeDigitsOfLeft_41 : decode cX4_writeDigitsOfLeft 41 = .ok (.aload_n 0, 1) := by decide +kernel
theorem dX4_writeDigitsOfLeft_42 : decode cX4_writeDigitsOfLeft 42 = .ok (.iload_n 1, 1) := by decide +kernel
theorem dX4_writeDigitsOfLeft_43 : decode cX4_writeDigitsOfLeft 43 = .ok (.lload_n 3, 1) := by decide +kernel
theorem dX4_writeDigitsOfLeft_44 : decode cX4_writeDigitsOfLeft 44 = .ok (.ldc2_w 232, 3) := by decide +kernel
theorem dX4_writeDigitsOfLeft_47 : decode cX4_writeDigitsOfLeft 47 = .ok (.lrem, 1) := by decide +kernel
theorem dX4_writeDigitsOfLeft_48 : decode cX4_writeDigitsOfLeft 48 = .ok (.l2i, 1) := by decide +kernel
theorem dX4_writeDigitsOfLeft_49 : decode cX4_writeDigitsOfLeft 49 = .ok (.invokevirtual 234, 3) := by decide +kernel
theorem dX4_writeDigitsOfLeft_52 : decode cX4_writeDigitsOfLeft 52 = .ok (.lload_n 3, 1) := by decide +kernel
theorem dX4_writeDigitsOfLeft_53 : decode cX4_writeDigitsOfLeft 53 = .ok (.ldc2_w 232, 3) := by decide +kernel
theorem dX4_writeDigitsOfLeft_56 : decode cX4_writeDigitsOfLeft 56 = .ok (.ldiv, 1) := by decide +kernel
theorem dX4_writeDigitsOfLeft_57 : decode cX4_writeDigitsOfLeft 57 = .ok (.lstore_n 3, 1) := by decide +kernel
theorem dX4_writeDigitsOfLeft_58 : decode cX4_writeDigitsOfLeft 58 = .ok (.iinc 1 1, 3) := by decide +kernel
theorem dX4_writeDigitsOfLeft_61 : decode cX4_writeDigitsOfLeft 61 = .ok (.iinc 5 1, 3) := by decide +kernel
theorem dX4_writeDigitsOfLeft_64 : decode cX4_writeDigitsOfLeft 64 = .ok (.goto (-30), 3) := by decide +kernel
theorem dX4_writeDigitsOfLeft_67 : decode cX4_writeDigitsOfLeft 67 = .ok (.iinc 2 1, 3) := by decide +kernel
theorem dX4_writeDigitsOfLeft_70 : decode cX4_writeDigitsOfLeft 70 = .ok (.goto (-66), 3) := by decide +kernel
theorem dX4_writeDigitsOfLeft_73 : decode cX4_writeDigitsOfLeft 73 = .ok (.iload_n 1, 1) := by decide +kernel
theorem dX4_writeDigitsOfLeft_74 : decode cX4_writeDigitsOfLeft 74 = .ok (.ifCond .le 19, 3) := by decide +kernel
theorem dX4_writeDigitsOfLeft_77 : decode cX4_writeDigitsOfLeft 77 = .ok (.aload_n 0, 1) := by decide +kernel
theorem dX4_writeDigitsOfLeft_78 : decode cX4_writeDigitsOfLeft 78 = .ok (.iload_n 1, 1) := by decide +kernel
theorem dX4_writeDigitsOfLeft_79 : decode cX4_writeDigitsOfLeft 79 = .ok (.iconst 1, 1) := by decide +kernel
theorem dX4_writeDigitsOfLeft_80 : decode cX4_writeDigitsOfLeft 80 = .ok (.isub, 1) := by decide +kernel
theorem dX4_writeDigitsOfLeft_81 : decode cX4_writeDigitsOfLeft 81 = .ok (.invokevirtual 191, 3) := by decide +kernel
theorem dX4_writeDigitsOfLeft_84 : decode cX4_writeDigitsOfLeft 84 = .ok (.ifCond .ne 9, 3) := by decide +kernel
theorem dX4_writeDigitsOfLeft_87 : decode cX4_writeDigitsOfLeft 87 = .ok (.iinc 1 (-1), 3) := by decide +kernel
theorem dX4_writeDigitsOfLeft_90 : decode cX4_writeDigitsOfLeft 90 = .ok (.goto (-17), 3) := by decide +kernel
theorem dX4_writeDigitsOfLeft_93 : decode cX4_writeDigitsOfLeft 93 = .ok (.iload_n 1, 1) := by decide +kernel
theorem dX4_writeDigitsOfLeft_94 : decode cX4_writeDigitsOfLeft 94 = .ok (.ifCond .ne 11, 3) := by decide +kernel
theorem dX4_writeDigitsOfLeft_97 : decode cX4_writeDigitsOfLeft 97 = .ok (.aload_n 0, 1) := by decide +kernel
theorem dX4_writeDigitsOfLeft_98 : decode cX4_writeDigitsOfLeft 98 = .ok (.iconst 0, 1) := by decide +kernel
theorem dX4_writeDigitsOfLeft_99 : decode cX4_writeDigitsOfLeft 99 = .ok (.iconst 0, 1) := by decide +kernel
theorem dX4_writeDigitsOfLeft_100 : decode cX4_writeDigitsOfLeft 100 = .ok (.invokevirtual 234, 3) := by decide +kernel
theorem dX4_writeDigitsOfLeft_103 : decode cX4_writeDigitsOfLeft 103 = .ok (.iconst 1, 1) := by decide +kernel
theorem dX4_writeDigitsOfLeft_104 : decode cX4_writeDigitsOfLeft 104 = .ok (.ireturn, 1) := by decide +kernel
theorem dX4_writeDigitsOfLeft_105 : decode cX4_writeDigitsOfLeft 105 = .ok (.iload_n 1, 1) := by decide +kernel
theorem dX4_writeDigitsOfLeft_106 : decode cX4_writeDigitsOfLeft 106 = .ok (.ireturn, 1) := by decide +kernel
theorem dX4_digitFromLowest_0 : decode cX4_digitFromLowest 0 = .ok (.iload_n 1, 1) := by decide +kernel
theorem dX4_digitFromLowest_1 : decode cX4_digitFromLowest 1 = .ok (.ifCond .lt 21, 3) := by decide +kernel
theorem dX4_digitFromLowest_4 : decode cX4_digitFromLowest 4 = .ok (.iload_n 1, 1) := by decide +kernel
theorem dX4_digitFromLowest_5 : decode cX4_digitFromLowest 5 = .ok (.aload_n 0, 1) := by decide +kernel
theorem dX4_digitFromLowest_6 : decode cX4_digitFromLowest 6 = .ok (.getfield 44, 3) := by decide +kernel
theorem dX4_digitFromLowest_9 : decode cX4_digitFromLowest 9 = .ok (.arraylength, 1) := by decide +kernel
theorem dX4_digitFromLowest_10 : decode cX4_digitFromLowest 10 = .ok (.if_icmp .ge 12, 3) := by decide +kernel
theorem dX4_digitFromLowest_13 : decode cX4_digitFromLowest 13 = .ok (.aload_n 0, 1) := by decide +kernel
theorem dX4_digitFromLowest_14 : decode cX4_digitFromLowest 14 = .ok (.getfield 44, 3) := by decide +kernel
theorem dX4_digitFromLowest_17 : decode cX4_digitFromLowest 17 = .ok (.iload_n 1, 1) := by decide +kernel
theorem dX4_digitFromLowest_18 : decode cX4_digitFromLowest 18 = .ok (.iaload, 1) := by decide +kernel
theorem dX4_digitFromLowest_19 : decode cX4_digitFromLowest 19 = .ok (.goto 4, 3) := by decide +kernel
theorem dX4_digitFromLowest_22 : decode cX4_digitFromLowest 22 = .ok (.iconst 0, 1) := by decide +kernel
theorem dX4_digitFromLowest_23 : decode cX4_digitFromLowest 23 = .ok (.ireturn, 1) := by decide +kernel
theorem dX4_setDigitFromLowest_0 : decode cX4_setDigitFromLowest 0 = .ok (.iload_n 1, 1) := by decide +kernel
theorem dX4_setDigitFromLowest_1 : decode cX4_setDigitFromLowest 1 = .ok (.ifCond .lt 19, 3) := by decide +kernel
theorem dX4_setDigitFromLowest_4 : decode cX4_setDigitFromLowest 4 = .ok (.iload_n 1, 1) := by decide +kernel
theorem dX4_setDigitFromLowest_5 : decode cX4_setDigitFromLowest 5 = .ok (.aload_n 0, 1) := by decide +kernel
theorem dX4_setDigitFromLowest_6 : decode cX4_setDigitFromLowest 6 = .ok (.getfield 44, 3) := by decide +kernel
theorem dX4_setDigitFromLowest_9 : decode cX4_setDigitFromLowest 9 = .ok (.arraylength, 1) := by decide +kernel
theorem dX4_setDigitFromLowest_10 : decode cX4_setDigitFromLowest 10 = .ok (.if_icmp .ge 10, 3) := by decide +kernel
theorem dX4_setDigitFromLowest_13 : decode cX4_setDigitFromLowest 13 = .ok (.aload_n 0, 1) := by decide +kernel
theorem dX4_setDigitFromLowest_14 : decode cX4_setDigitFromLowest 14 = .ok (.getfield 44, 3) := by decide +kernel
theorem dX4_setDigitFromLowest_17 : decode cX4_setDigitFromLowest 17 = .ok (.iload_n 1, 1) := by decide +kernel
theorem dX4_setDigitFromLowest_18 : decode cX4_setDigitFromLowest 18 = .ok (.iload_n 2, 1) := by decide +kernel
theorem dX4_setDigitFromLowest_19 : decode cX4_setDigitFromLowest 19 = .ok (.iastore, 1) := by decide +kernel
theorem dX4_setDigitFromLowest_20 : decode cX4_setDigitFromLowest 20 = .ok (.return_, 1) := by decide +kernel
end
section
theorem dX5_init_0 : decode cX5_init 0 = .ok (.aload_n 0, 1) := by decide +kernel
theorem dX5_init_1 : decode cX5_init 1 = .ok (.invokespecial 1, 3) := by decide +kernel
theorem dX5_init_4 : decode cX5_init 4 = .ok (.aload_n 0, 1) := by decide +kernel
theorem dX5_init_5 : decode cX5_init 5 = .ok (.sipush 160, 3) := by decide +kernel
theorem dX5_init_8 : decode cX5_init 8 = .ok (.putfield 9, 3) := by decide +kernel
theorem dX5_init_11 : decode cX5_init 11 = .ok (.aload_n 0, 1) := by decide +kernel
theorem dX5_init_12 : decode cX5_init 12 = .ok (.sipush 1920, 3) := by decide +kernel
theorem dX5_init_15 : decode cX5_init 15 = .ok (.newarray .int, 2) := by decide +kernel
theorem dX5_init_17 : decode cX5_init 17 = .ok (.putfield 13, 3) := by decide +kernel
theorem dX5_init_20 : decode cX5_init 20 = .ok (.aload_n 0, 1) := by decide +kernel
theorem dX5_init_21 : decode cX5_init 21 = .ok (.sipush 150, 3) := by decide +kernel
theorem dX5_init_24 : decode cX5_init 24 = .ok (.newarray .int, 2) := by decide +kernel
theorem dX5_init_26 : decode cX5_init 26 = .ok (.putfield 17, 3) := by decide +kernel
theorem dX5_init_29 : decode cX5_init 29 = .ok (.aload_n 0, 1) := by decide +kernel
theorem dX5_init_30 : decode cX5_init 30 = .ok (.sipush 8100, 3) := by decide +kernel
theorem dX5_init_33 : decode cX5_init 33 = .ok (.newarray .int, 2) := by decide +kernel
theorem dX5_init_35 : decode cX5_init 35 = .ok (.putfield 20, 3) := by decide +kernel
theorem dX5_init_38 : decode cX5_init 38 = .ok (.aload_n 0, 1) := by decide +kernel
theorem dX5_init_39 : decode cX5_init 39 = .ok (.sipush 8100, 3) := by decide +kernel
theorem dX5_init_42 : decode cX5_init 42 = .ok (.newarray .int, 2) := by decide +kernel
theorem dX5_init_44 : decode cX5_init 44 = .ok (.putfield 23, 3) := by decide +kernel
theorem dX5_init_47 : decode cX5_init 47 = .ok (.aload_n 0, 1) := by decide +kernel
theorem dX5_init_48 : decode cX5_init 48 = .ok (.bipush 80, 2) := by decide +kernel
theorem dX5_init_50 : decode cX5_init 50 = .ok (.newarray .int, 2) := by decide +kernel
theorem dX5_init_52 : decode cX5_init 52 = .ok (.putfield 26, 3) := by decide +kernel
theorem dX5_init_55 : decode cX5_init 55 = .ok (.aload_n 0, 1) := by decide +kernel
theorem dX5_init_56 : decode cX5_init 56 = .ok (.bipush 32, 2) := by decide +kernel
theorem dX5_init_58 : decode cX5_init 58 = .ok (.newarray .long, 2) := by decide +kernel
theorem dX5_init_60 : decode cX5_init 60 = .ok (.putfield 29, 3) := by decide +kernel
theorem dX5_init_63 : decode cX5_init 63 = .ok (.iconst 0, 1) := by decide +kernel
theorem dX5_init_64 : decode cX5_init 64 = .ok (.istore_n 1, 1) := by decide +kernel
theorem dX5_init_65 : decode cX5_init 65 = .ok (.iload_n 1, 1) := by decide +kernel
theorem dX5_init_66 : decode cX5_init 66 = .ok (.sipush 150, 3) := by decide +kernel
theorem dX5_init_69 : decode cX5_init 69 = .ok (.if_icmp .ge 19, 3) := by decide +kernel
theorem dX5_init_72 : decode cX5_init 72 = .ok (.aload_n 0, 1) := by decide +kernel
theorem dX5_init_73 : decode cX5_init 73 = .ok (.getfield 23, 3) := by decide +kernel
theorem dX5_init_76 : decode cX5_init 76 = .ok (.bipush 54, 2) := by decide +kernel
theorem dX5_init_78 : decode cX5_init 78 = .ok (.iload_n 1, 1) := by decide +kernel
theorem dX5_init_79 : decode cX5_init 79 = .ok (.imul, 1) := by decide +kernel
theorem dX5_init_80 : decode cX5_init 80 = .ok (.iconst 1, 1) := by decide +kernel
theorem dX5_init_81 : decode cX5_init 81 = .ok (.iastore, 1) := by decide +kernel
theorem dX5_init_82 : decode cX5_init 82 = .ok (.iinc 1 1, 3) := by decide +kernel
theorem dX5_init_85 : decode cX5_init 85 = .ok (.goto (-20), 3) := by decide +kernel
theorem dX5_init_88 : decode cX5_init 88 = .ok (.return_, 1) := by decide +kernel
theorem dX5_thrown_0 : decode cX5_thrown 0 = .ok (.aload_n 0, 1) := by decide +kernel
theorem dX5_thrown_1 : decode cX5_thrown 1 = .ok (.getfield 33, 3) := by decide +kernel
theorem dX5_thrown_4 : decode cX5_thrown 4 = .ok (.ireturn, 1) := by decide +kernel
theorem dX5_set_0 : decode cX5_set 0 = .ok (.iconst 0, 1) := by decide +kernel
theorem dX5_set_1 : decode cX5_set 1 = .ok (.istore 4, 2) := by decide +kernel
theorem dX5_set_3 : decode cX5_set 3 = .ok (.iload 4, 2) := by decide +kernel
theorem dX5_set_5 : decode cX5_set 5 = .ok (.sipush 160, 3) := by decide +kernel
theorem dX5_set_8 : decode cX5_set 8 = .ok (.if_icmp .ge 44, 3) := by decide +kernel
theorem dX5_set_11 : decode cX5_set 11 = .ok (.aload_n 0, 1) := by decide +kernel
theorem dX5_set_12 : decode cX5_set 12 = .ok (.getfield 13, 3) := by decide +kernel
theorem dX5_set_15 : decode cX5_set 15 = .ok (.sipush 160, 3) := by decide +kernel
theorem dX5_set_18 : decode cX5_set 18 = .ok (.iload_n 1, 1) := by decide +kernel
theorem dX5_set_19 : decode cX5_set 19 = .ok (.imul, 1) := by decide +kernel
theorem dX5_set_20 : decode cX5_set 20 = .ok (.iload 4, 2) := by decide +kernel
theorem dX5_set_22 : decode cX5_set 22 = .ok (.iadd, 1) := by decide +kernel
theorem dX5_set_23 : decode cX5_set 23 = .ok (.iload 4, 2) := by decide +kernel
theorem dX5_set_25 : decode cX5_set 25 = .ok (.iconst 5, 1) := by decide +kernel
theorem dX5_set_26 : decode cX5_set 26 = .ok (.if_icmp .ge 18, 3) := by decide +kernel
theorem dX5_set_29 : decode cX5_set 29 = .ok (.lload_n 2, 1) := by decide +kernel
theorem dX5_set_30 : decode cX5_set 30 = .ok (.bipush 15, 2) := by decide +kernel
theorem dX5_set_32 : decode cX5_set 32 = .ok (.iload 4, 2) := by decide +kernel
theorem dX5_set_34 : decode cX5_set 34 = .ok (.imul, 1) := by decide +kernel
theorem dX5_set_35 : decode cX5_set 35 = .ok (.lushr, 1) := by decide +kernel
theorem dX5_set_36 : decode cX5_set 36 = .ok (.l2i, 1) := by decide +kernel
theorem dX5_set_37 : decode cX5_set 37 = .ok (.sipush 32767, 3) := by decide +kernel
theorem dX5_set_40 : decode cX5_set 40 = .ok (.iand, 1) := by decide +kernel
theorem dX5_set_41 : decode cX5_set 41 = .ok (.goto 4, 3) := by decide +kernel
theorem dX5_set_44 : decode cX5_set 44 = .ok (.iconst 0, 1) := by decide +kernel
theorem dX5_set_45 : decode cX5_set 45 = .ok (.iastore, 1) := by decide +kernel
theorem dX5_set_46 : decode cX5_set 46 = .ok (.iinc 4 1, 3) := by decide +kernel
theorem dX5_set_49 : decode cX5_set 49 = .ok (.goto (-46), 3) := by decide +kernel
theorem dX5_set_52 : decode cX5_set 52 = .ok (.return_, 1) := by decide +kernel
theorem dX5_copy_0 : decode cX5_copy 0 = .ok (.iconst 0, 1) := by decide +kernel
theorem dX5_copy_1 : decode cX5_copy 1 = .ok (.istore_n 3, 1) := by decide +kernel
theorem dX5_copy_2 : decode cX5_copy 2 = .ok (.iload_n 3, 1) := by decide +kernel
theorem dX5_copy_3 : decode cX5_copy 3 = .ok (.sipush 160, 3) := by decide +kernel
theorem dX5_copy_6 : decode cX5_copy 6 = .ok (.if_icmp .ge 33, 3) := by decide +kernel
theorem dX5_copy_9 : decode cX5_copy 9 = .ok (.aload_n 0, 1) := by decide +kernel
theorem dX5_copy_10 : decode cX5_copy 10 = .ok (.getfield 13, 3) := by decide +kernel
theorem dX5_copy_13 : decode cX5_copy 13 = .ok (.sipush 160, 3) := by decide +kernel
theorem dX5_copy_16 : decode cX5_copy 16 = .ok (.iload_n 1, 1) := by decide +kernel
theorem dX5_copy_17 : decode cX5_copy 17 = .ok (.imul, 1) := by decide +kernel
theorem dX5_copy_18 : decode cX5_copy 18 = .ok (.iload_n 3, 1) := by decide +kernel
theorem dX5_copy_19 : decode cX5_copy 19 = .ok (.iadd, 1) := by decide +kernel
theorem dX5_copy_20 : decode cX5_copy 20 = .ok (.aload_n 0, 1) := by decide +kernel
theorem dX5_copy_21 : decode cX5_copy 21 = .ok (.getfield 13, 3) := by decide +kernel
theorem dX5_copy_24 : decode cX5_copy 24 = .ok (.sipush 160, 3) := by decide +kernel
theorem dX5_copy_27 : decode cX5_copy 27 = .ok (.iload_n 2, 1) := by decide +kernel
theorem dX5_copy_28 : decode cX5_copy 28 = .ok (.imul, 1) := by decide +kernel
theorem dX5_copy_29 : decode cX5_copy 29 = .ok (.iload_n 3, 1) := by decide +kernel
theorem dX5_copy_30 : decode cX5_copy 30 = .ok (.iadd, 1) := by decide +kernel
theorem dX5_copy_31 : decode cX5_copy 31 = .ok (.iaload, 1) := by decide +kernel
theorem dX5_copy_32 : decode cX5_copy 32 = .ok (.iastore, 1) := by decide +kernel
theorem dX5_copy_33 : decode cX5_copy 33 = .ok (.iinc 3 1, 3) := by decide +kernel
theorem dX5_copy_36 : decode cX5_copy 36 = .ok (.goto (-34), 3) := by decide +kernel
theorem dX5_copy_39 : decode cX5_copy 39 = .ok (.return_, 1) := by decide +kernel
theorem dX5_compare_0 : decode cX5_compare 0 = .ok (.aload_n 0, 1) := by decide +kernel
theorem dX5_compare_1 : decode cX5_compare 1 = .ok (.getfield 9, 3) := by decide +kernel
theorem dX5_compare_4 : decode cX5_compare 4 = .ok (.iconst 1, 1) := by decide +kernel
theorem dX5_compare_5 : decode cX5_compare 5 = .ok (.isub, 1) := by decide +kernel
theorem dX5_compare_6 : decode cX5_compare 6 = .ok (.istore_n 3, 1) := by decide +kernel
theorem dX5_compare_7 : decode cX5_compare 7 = .ok (.iload_n 3, 1) := by decide +kernel
theorem dX5_compare_8 : decode cX5_compare 8 = .ok (.ifCond .lt 52, 3) := by decide +kernel
theorem dX5_compare_11 : decode cX5_compare 11 = .ok (.aload_n 0, 1) := by decide +kernel
theorem dX5_compare_12 : decode cX5_compare 12 = .ok (.getfield 13, 3) := by decide +kernel
theorem dX5_compare_15 : decode cX5_compare 15 = .ok (.sipush 160, 3) := by decide +kernel
theorem dX5_compare_18 : decode cX5_compare 18 = .ok (.iload_n 1, 1) := by decide +kernel
theorem dX5_compare_19 : decode cX5_compare 19 = .ok (.imul, 1) := by decide +kernel
theorem dX5_compare_20 : decode cX5_compare 20 = .ok (.iload_n 3, 1) := by decide +kernel
theorem dX5_compare_21 : decode cX5_compare 21 = .ok (.iadd, 1) := by decide +kernel
theorem dX5_compare_22 : decode cX5_compare 22 = .ok (.iaload, 1) := by decide +kernel
theorem dX5_compare_23 : decode cX5_compare 23 = .ok (.aload_n 0, 1) := by decide +kernel
theorem dX5_compare_24 : decode cX5_compare 24 = .ok (.getfield 13, 3) := by decide +kernel
theorem dX5_compare_27 : decode cX5_compare 27 = .ok (.sipush 160, 3) := by decide +kernel
theorem dX5_compare_30 : decode cX5_compare 30 = .ok (.iload_n 2, 1) := by decide +kernel
theorem dX5_compare_31 : decode cX5_compare 31 = .ok (.imul, 1) := by decide +kernel
theorem dX5_compare_32 : decode cX5_compare 32 = .ok (.iload_n 3, 1) := by decide +kernel
theorem dX5_compare_33 : decode cX5_compare 33 = .ok (.iadd, 1) := by decide +kernel
theorem dX5_compare_34 : decode cX5_compare 34 = .ok (.iaload, 1) := by decide +kernel
theorem dX5_compare_35 : decode cX5_compare 35 = .ok (.isub, 1) := by decide +kernel
theorem dX5_compare_36 : decode cX5_compare 36 = .ok (.istore 4, 2) := by decide +kernel
theorem dX5_compare_38 : decode cX5_compare 38 = .ok (.iload 4, 2) := by decide +kernel
theorem dX5_compare_40 : decode cX5_compare 40 = .ok (.ifCond .eq 14, 3) := by decide +kernel
theorem dX5_compare_43 : decode cX5_compare 43 = .ok (.iload 4, 2) := by decide +kernel
theorem dX5_compare_45 : decode cX5_compare 45 = .ok (.ifCond .ge 7, 3) := by decide +kernel
theorem dX5_compare_48 : decode cX5_compare 48 = .ok (.iconst (-1), 1) := by decide +kernel
theorem dX5_compare_49 : decode cX5_compare 49 = .ok (.goto 4, 3) := by decide +kernel
theorem dX5_compare_52 : decode cX5_compare 52 = .ok (.iconst 1, 1) := by decide +kernel
theorem dX5_compare_53 : decode cX5_compare 53 = .ok (.ireturn, 1) := by decide +kernel
theorem dX5_compare_54 : decode cX5_compare 54 = .ok (.iinc 3 (-1), 3) := by decide +kernel
theorem dX5_compare_57 : decode cX5_compare 57 = .ok (.goto (-50), 3) := by decide +kernel
theorem dX5_compare_60 : decode cX5_compare 60 = .ok (.iconst 0, 1) := by decide +kernel
theorem dX5_compare_61 : decode cX5_compare 61 = .ok (.ireturn, 1) := by decide +kernel
theorem dX5_isZero_0 : decode cX5_isZero 0 = .ok (.iconst 1, 1) := by decide +kernel
theorem dX5_isZero_1 : decode cX5_isZero 1 = .ok (.istore_n 2, 1) := by decide +kernel
theorem dX5_isZero_2 : decode cX5_isZero 2 = .ok (.iconst 0, 1) := by decide +kernel
theorem dX5_isZero_3 : decode cX5_isZero 3 = .ok (.istore_n 3, 1) := by decide +kernel
theorem dX5_isZero_4 : decode cX5_isZero 4 = .ok (.iload_n 3, 1) := by decide +kernel
theorem dX5_isZero_5 : decode cX5_isZero 5 = .ok (.aload_n 0, 1) := by decide +kernel
theorem dX5_isZero_6 : decode cX5_isZero 6 = .ok (.getfield 9, 3) := by decide +kernel
theorem dX5_isZero_9 : decode cX5_isZero 9 = .ok (.if_icmp .ge 38, 3) := by decide +kernel
theorem dX5_isZero_12 : decode cX5_isZero 12 = .ok (.iload_n 2, 1) := by decide +kernel
theorem dX5_isZero_13 : decode cX5_isZero 13 = .ok (.ifCond .eq 34, 3) := by decide +kernel
theorem dX5_isZero_16 : decode cX5_isZero 16 = .ok (.iload_n 2, 1) := by decide +kernel
theorem dX5_isZero_17 : decode cX5_isZero 17 = .ok (.ifCond .eq 22, 3) := by decide +kernel
theorem dX5_isZero_20 : decode cX5_isZero 20 = .ok (.aload_n 0, 1) := by decide +kernel
theorem dX5_isZero_21 : decode cX5_isZero 21 = .ok (.getfield 13, 3) := by decide +kernel
theorem dX5_isZero_24 : decode cX5_isZero 24 = .ok (.sipush 160, 3) := by decide +kernel
theorem dX5_isZero_27 : decode cX5_isZero 27 = .ok (.iload_n 1, 1) := by decide +kernel
theorem dX5_isZero_28 : decode cX5_isZero 28 = .ok (.imul, 1) := by decide +kernel
theorem dX5_isZero_29 : decode cX5_isZero 29 = .ok (.iload_n 3, 1) := by decide +kernel
theorem dX5_isZero_30 : decode cX5_isZero 30 = .ok (.iadd, 1) := by decide +kernel
theorem dX5_isZero_31 : decode cX5_isZero 31 = .ok (.iaload, 1) := by decide +kernel
theorem dX5_isZero_32 : decode cX5_isZero 32 = .ok (.ifCond .ne 7, 3) := by decide +kernel
theorem dX5_isZero_35 : decode cX5_isZero 35 = .ok (.iconst 1, 1) := by decide +kernel
theorem dX5_isZero_36 : decode cX5_isZero 36 = .ok (.goto 4, 3) := by decide +kernel
theorem dX5_isZero_39 : decode cX5_isZero 39 = .ok (.iconst 0, 1) := by decide +kernel
theorem dX5_isZero_40 : decode cX5_isZero 40 = .ok (.istore_n 2, 1) := by decide +kernel
theorem dX5_isZero_41 : decode cX5_isZero 41 = .ok (.iinc 3 1, 3) := by decide +kernel
theorem dX5_isZero_44 : decode cX5_isZero 44 = .ok (.goto (-40), 3) := by decide +kernel
theorem dX5_isZero_47 : decode cX5_isZero 47 = .ok (.iload_n 2, 1) := by decide +kernel
theorem dX5_isZero_48 : decode cX5_isZero 48 = .ok (.ireturn, 1) := by decide +kernel
theorem dX5_size_0 : decode cX5_size 0 = .ok (.bipush 15, 2) := by decide +kernel
theorem dX5_size_2 : decode cX5_size 2 = .ok (.aload_n 0, 1) := by decide +kernel
theorem dX5_size_3 : decode cX5_size 3 = .ok (.getfield 9, 3) := by decide +kernel
theorem dX5_size_6 : decode cX5_size 6 = .ok (.imul, 1) := by decide +kernel
theorem dX5_size_7 : decode cX5_size 7 = .ok (.iconst 1, 1) := by decide +kernel
theorem dX5_size_8 : decode cX5_size 8 = .ok (.isub, 1) := by decide +kernel
theorem dX5_size_9 : decode cX5_size 9 = .ok (.istore_n 2, 1) := by decide +kernel
theorem dX5_size_10 : decode cX5_size 10 = .ok (.iload_n 2, 1) := by decide +kernel
theorem dX5_size_11 : decode cX5_size 11 = .ok (.ifCond .lt 39, 3) := by decide +kernel
theorem dX5_size_14 : decode cX5_size 14 = .ok (.aload_n 0, 1) := by decide +kernel
theorem dX5_size_15 : decode cX5_size 15 = .ok (.getfield 13, 3) := by decide +kernel
theorem dX5_size_18 : decode cX5_size 18 = .ok (.sipush 160, 3) := by decide +kernel
theorem dX5_size_21 : decode cX5_size 21 = .ok (.iload_n 1, 1) := by decide +kernel
theorem dX5_size_22 : decode cX5_size 22 = .ok (.imul, 1) := by decide +kernel
theorem dX5_size_23 : decode cX5_size 23 = .ok (.iload_n 2, 1) := by decide +kernel
theorem dX5_size_24 : decode cX5_size 24 = .ok (.bipush 15, 2) := by decide +kernel
theorem dX5_size_26 : decode cX5_size 26 = .ok (.idiv, 1) := by decide +kernel
theorem dX5_size_27 : decode cX5_size 27 = .ok (.iadd, 1) := by decide +kernel
theorem dX5_size_28 : decode cX5_size 28 = .ok (.iaload, 1) := by decide +kernel
theorem dX5_size_29 : decode cX5_size 29 = .ok (.iload_n 2, 1) := by decide +kernel
theorem dX5_size_30 : decode cX5_size 30 = .ok (.bipush 15, 2) := by decide +kernel
theorem dX5_size_32 : decode cX5_size 32 = .ok (.irem, 1) := by decide +kernel
theorem dX5_size_33 : decode cX5_size 33 = .ok (.ishr, 1) := by decide +kernel
theorem dX5_size_34 : decode cX5_size 34 = .ok (.iconst 1, 1) := by decide +kernel
theorem dX5_size_35 : decode cX5_size 35 = .ok (.iand, 1) := by decide +kernel
theorem dX5_size_36 : decode cX5_size 36 = .ok (.iconst 1, 1) := by decide +kernel
theorem dX5_size_37 : decode cX5_size 37 = .ok (.if_icmp .ne 7, 3) := by decide +kernel
theorem dX5_size_40 : decode cX5_size 40 = .ok (.iload_n 2, 1) := by decide +kernel
theorem dX5_size_41 : decode cX5_size 41 = .ok (.iconst 1, 1) := by decide +kernel
theorem dX5_size_42 : decode cX5_size 42 = .ok (.iadd, 1) := by decide +kernel
theorem dX5_size_43 : decode cX5_size 43 = .ok (.ireturn, 1) := by decide +kernel
theorem dX5_size_44 : decode cX5_size 44 = .ok (.iinc 2 (-1), 3) := by decide +kernel
theorem dX5_size_47 : decode cX5_size 47 = .ok (.goto (-37), 3) := by decide +kernel
theorem dX5_size_50 : decode cX5_size 50 = .ok (.iconst 0, 1) := by decide +kernel
theorem dX5_size_51 : decode cX5_size 51 = .ok (.ireturn, 1) := by decide +kernel
theorem dX5_plus_0 : decode cX5_plus 0 = .ok (.iconst 0, 1) := by decide +kernel
theorem dX5_plus_1 : decode cX5_plus 1 = .ok (.istore_n 3, 1) := by decide +kernel
theorem dX5_plus_2 : decode cX5_plus 2 = .ok (.iconst 0, 1) := by decide +kernel
theorem dX5_plus_3 : decode cX5_plus 3 = .ok (.istore 4, 2) := by decide +kernel
theorem dX5_plus_5 : decode cX5_plus 5 = .ok (.iload 4, 2) := by decide +kernel
theorem dX5_plus_7 : decode cX5_plus 7 = .ok (.aload_n 0, 1) := by decide +kernel
theorem dX5_plus_8 : decode cX5_plus 8 = .ok (.getfield 9, 3) := by decide +kernel
theorem dX5_plus_11 : decode cX5_plus 11 = .ok (.if_icmp .ge 65, 3) := by decide +kernel
theorem dX5_plus_14 : decode cX5_plus 14 = .ok (.aload_n 0, 1) := by decide +kernel
theorem dX5_plus_15 : decode cX5_plus 15 = .ok (.getfield 13, 3) := by decide +kernel
theorem dX5_plus_18 : decode cX5_plus 18 = .ok (.sipush 160, 3) := by decide +kernel
theorem dX5_plus_21 : decode cX5_plus 21 = .ok (.iload_n 1, 1) := by decide +kernel
theorem dX5_plus_22 : decode cX5_plus 22 = .ok (.imul, 1) := by decide +kernel
theorem dX5_plus_23 : decode cX5_plus 23 = .ok (.iload 4, 2) := by decide +kernel
theorem dX5_plus_25 : decode cX5_plus 25 = .ok (.iadd, 1) := by decide +kernel
theorem dX5_plus_26 : decode cX5_plus 26 = .ok (.iaload, 1) := by decide +kernel
theorem dX5_plus_27 : decode cX5_plus 27 = .ok (.aload_n 0, 1) := by decide +kernel
theorem dX5_plus_28 : decode cX5_plus 28 = .ok (.getfield 13, 3) := by decide +kernel
theorem dX5_plus_31 : decode cX5_plus 31 = .ok (.sipush 160, 3) := by decide +kernel
theorem dX5_plus_34 : decode cX5_plus 34 = .ok (.iload_n 2, 1) := by decide +kernel
theorem dX5_plus_35 : decode cX5_plus 35 = .ok (.imul, 1) := by decide +kernel
theorem dX5_plus_36 : decode cX5_plus 36 = .ok (.iload 4, 2) := by decide +kernel
theorem dX5_plus_38 : decode cX5_plus 38 = .ok (.iadd, 1) := by decide +kernel
theorem dX5_plus_39 : decode cX5_plus 39 = .ok (.iaload, 1) := by decide +kernel
theorem dX5_plus_40 : decode cX5_plus 40 = .ok (.iadd, 1) := by decide +kernel
theorem dX5_plus_41 : decode cX5_plus 41 = .ok (.iload_n 3, 1) := by decide +kernel
theorem dX5_plus_42 : decode cX5_plus 42 = .ok (.iadd, 1) := by decide +kernel
theorem dX5_plus_43 : decode cX5_plus 43 = .ok (.istore 5, 2) := by decide +kernel
theorem dX5_plus_45 : decode cX5_plus 45 = .ok (.aload_n 0, 1) := by decide +kernel
theorem dX5_plus_46 : decode cX5_plus 46 = .ok (.getfield 13, 3) := by decide +kernel
theorem dX5_plus_49 : decode cX5_plus 49 = .ok (.sipush 160, 3) := by decide +kernel
theorem dX5_plus_52 : decode cX5_plus 52 = .ok (.iload_n 1, 1) := by decide +kernel
theorem dX5_plus_53 : decode cX5_plus 53 = .ok (.imul, 1) := by decide +kernel
theorem dX5_plus_54 : decode cX5_plus 54 = .ok (.iload 4, 2) := by decide +kernel
theorem dX5_plus_56 : decode cX5_plus 56 = .ok (.iadd, 1) := by decide +kernel
theorem dX5_plus_57 : decode cX5_plus 57 = .ok (.iload 5, 2) := by decide +kernel
theorem dX5_plus_59 : decode cX5_plus 59 = .ok (.sipush 32767, 3) := by decide +kernel
theorem dX5_plus_62 : decode cX5_plus 62 = .ok (.iand, 1) := by decide +kernel
theorem dX5_plus_63 : decode cX5_plus 63 = .ok (.iastore, 1) := by decide +kernel
theorem dX5_plus_64 : decode cX5_plus 64 = .ok (.iload 5, 2) := by decide +kernel
theorem dX5_plus_66 : decode cX5_plus 66 = .ok (.bipush 15, 2) := by decide +kernel
theorem dX5_plus_68 : decode cX5_plus 68 = .ok (.ishr, 1) := by decide +kernel
theorem dX5_plus_69 : decode cX5_plus 69 = .ok (.istore_n 3, 1) := by decide +kernel
theorem dX5_plus_70 : decode cX5_plus 70 = .ok (.iinc 4 1, 3) := by decide +kernel
theorem dX5_plus_73 : decode cX5_plus 73 = .ok (.goto (-68), 3) := by decide +kernel
theorem dX5_plus_76 : decode cX5_plus 76 = .ok (.return_, 1) := by decide +kernel
theorem dX5_minus_0 : decode cX5_minus 0 = .ok (.iconst 0, 1) := by decide +kernel
theorem dX5_minus_1 : decode cX5_minus 1 = .ok (.istore_n 3, 1) := by decide +kernel
theorem dX5_minus_2 : decode cX5_minus 2 = .ok (.iconst 0, 1) := by decide +kernel
theorem dX5_minus_3 : decode cX5_minus 3 = .ok (.istore 4, 2) := by decide +kernel
theorem dX5_minus_5 : decode cX5_minus 5 = .ok (.iload 4, 2) := by decide +kernel
theorem dX5_minus_7 : decode cX5_minus 7 = .ok (.aload_n 0, 1) := by decide +kernel
theorem dX5_minus_8 : decode cX5_minus 8 = .ok (.getfield 9, 3) := by decide +kernel
theorem dX5_minus_11 : decode cX5_minus 11 = .ok (.if_icmp .ge 65, 3) := by decide +kernel
theorem dX5_minus_14 : decode cX5_minus 14 = .ok (.aload_n 0, 1) := by decide +kernel
theorem dX5_minus_15 : decode cX5_minus 15 = .ok (.getfield 13, 3) := by decide +kernel
theorem dX5_minus_18 : decode cX5_minus 18 = .ok (.sipush 160, 3) := by decide +kernel
theorem dX5_minus_21 : decode cX5_minus 21 = .ok (.iload_n 1, 1) := by decide +kernel
theorem dX5_minus_22 : decode cX5_minus 22 = .ok (.imul, 1) := by decide +kernel
theorem dX5_minus_23 : decode cX5_minus 23 = .ok (.iload 4, 2) := by decide +kernel
theorem dX5_minus_25 : decode cX5_minus 25 = .ok (.iadd, 1) := by decide +kernel
theorem dX5_minus_26 : decode cX5_minus 26 = .ok (.iaload, 1) := by decide +kernel
theorem dX5_minus_27 : decode cX5_minus 27 = .ok (.aload_n 0, 1) := by decide +kernel
theorem dX5_minus_28 : decode cX5_minus 28 = .ok (.getfield 13, 3) := by decide +kernel
theorem dX5_minus_31 : decode cX5_minus 31 = .ok (.sipush 160, 3) := by decide +kernel
theorem dX5_minus_34 : decode cX5_minus 34 = .ok (.iload_n 2, 1) := by decide +kernel
theorem dX5_minus_35 : decode cX5_minus 35 = .ok (.imul, 1) := by decide +kernel
theorem dX5_minus_36 : decode cX5_minus 36 = .ok (.iload 4, 2) := by decide +kernel
theorem dX5_minus_38 : decode cX5_minus 38 = .ok (.iadd, 1) := by decide +kernel
theorem dX5_minus_39 : decode cX5_minus 39 = .ok (.iaload, 1) := by decide +kernel
theorem dX5_minus_40 : decode cX5_minus 40 = .ok (.isub, 1) := by decide +kernel
theorem dX5_minus_41 : decode cX5_minus 41 = .ok (.iload_n 3, 1) := by decide +kernel
theorem dX5_minus_42 : decode cX5_minus 42 = .ok (.iadd, 1) := by decide +kernel
theorem dX5_minus_43 : decode cX5_minus 43 = .ok (.istore 5, 2) := by decide +kernel
theorem dX5_minus_45 : decode cX5_minus 45 = .ok (.aload_n 0, 1) := by decide +kernel
theorem dX5_minus_46 : decode cX5_minus 46 = .ok (.getfield 13, 3) := by decide +kernel
theorem dX5_minus_49 : decode cX5_minus 49 = .ok (.sipush 160, 3) := by decide +kernel
theorem dX5_minus_52 : decode cX5_minus 52 = .ok (.iload_n 1, 1) := by decide +kernel
theorem dX5_minus_53 : decode cX5_minus 53 = .ok (.imul, 1) := by decide +kernel
theorem dX5_minus_54 : decode cX5_minus 54 = .ok (.iload 4, 2) := by decide +kernel
theorem dX5_minus_56 : decode cX5_minus 56 = .ok (.iadd, 1) := by decide +kernel
theorem dX5_minus_57 : decode cX5_minus 57 = .ok (.iload 5, 2) := by decide +kernel
theorem dX5_minus_59 : decode cX5_minus 59 = .ok (.sipush 32767, 3) := by decide +kernel
theorem dX5_minus_62 : decode cX5_minus 62 = .ok (.iand, 1) := by decide +kernel
theorem dX5_minus_63 : decode cX5_minus 63 = .ok (.iastore, 1) := by decide +kernel
theorem dX5_minus_64 : decode cX5_minus 64 = .ok (.iload 5, 2) := by decide +kernel
theorem dX5_minus_66 : decode cX5_minus 66 = .ok (.bipush 15, 2) := by decide +kernel
theorem dX5_minus_68 : decode cX5_minus 68 = .ok (.ishr, 1) := by decide +kernel
theorem dX5_minus_69 : decode cX5_minus 69 = .ok (.istore_n 3, 1) := by decide +kernel
theorem dX5_minus_70 : decode cX5_minus 70 = .ok (.iinc 4 1, 3) := by decide +kernel
theorem dX5_minus_73 : decode cX5_minus 73 = .ok (.goto (-68), 3) := by decide +kernel
theorem dX5_minus_76 : decode cX5_minus 76 = .ok (.return_, 1) := by decide +kernel
theorem dX5_product_0 : decode cX5_product 0 = .ok (.aload_n 0, 1) := by decide +kernel
theorem dX5_product_1 : decode cX5_product 1 = .ok (.iload_n 3, 1) := by decide +kernel
theorem dX5_product_2 : decode cX5_product 2 = .ok (.lconst 0, 1) := by decide +kernel
theorem dX5_product_3 : decode cX5_product 3 = .ok (.invokevirtual 36, 3) := by decide +kernel
theorem dX5_product_6 : decode cX5_product 6 = .ok (.iconst 0, 1) := by decide +kernel
theorem dX5_product_7 : decode cX5_product 7 = .ok (.istore 4, 2) := by decide +kernel
theorem dX5_product_9 : decode cX5_product 9 = .ok (.iload 4, 2) := by decide +kernel
theorem dX5_product_11 : decode cX5_product 11 = .ok (.aload_n 0, 1) := by decide +kernel
theorem dX5_product_12 : decode cX5_product 12 = .ok (.getfield 9, 3) := by decide +kernel
theorem dX5_product_15 : decode cX5_product 15 = .ok (.if_icmp .ge 124, 3) := by decide +kernel
theorem dX5_product_18 : decode cX5_product 18 = .ok (.lconst 0, 1) := by decide +kernel
theorem dX5_product_19 : decode cX5_product 19 = .ok (.lstore 5, 2) := by decide +kernel
theorem dX5_product_21 : decode cX5_product 21 = .ok (.aload_n 0, 1) := by decide +kernel
theorem dX5_product_22 : decode cX5_product 22 = .ok (.getfield 13, 3) := by decide +kernel
theorem dX5_product_25 : decode cX5_product 25 = .ok (.sipush 160, 3) := by decide +kernel
theorem dX5_product_28 : decode cX5_product 28 = .ok (.iload_n 1, 1) := by decide +kernel
theorem dX5_product_29 : decode cX5_product 29 = .ok (.imul, 1) := by decide +kernel
theorem dX5_product_30 : decode cX5_product 30 = .ok (.iload 4, 2) := by decide +kernel
theorem dX5_product_32 : decode cX5_product 32 = .ok (.iadd, 1) := by decide +kernel
theorem dX5_product_33 : decode cX5_product 33 = .ok (.iaload, 1) := by decide +kernel
theorem dX5_product_34 : decode cX5_product 34 = .ok (.istore 7, 2) := by decide +kernel
theorem dX5_product_36 : decode cX5_product 36 = .ok (.iconst 0, 1) := by decide +kernel
theorem dX5_product_37 : decode cX5_product 37 = .ok (.istore 8, 2) := by decide +kernel
theorem dX5_product_39 : decode cX5_product 39 = .ok (.iload 4, 2) := by decide +kernel
theorem dX5_product_41 : decode cX5_product 41 = .ok (.iload 8, 2) := by decide +kernel
theorem dX5_product_43 : decode cX5_product 43 = .ok (.iadd, 1) := by decide +kernel
theorem dX5_product_44 : decode cX5_product 44 = .ok (.aload_n 0, 1) := by decide +kernel
theorem dX5_product_45 : decode cX5_product 45 = .ok (.getfield 9, 3) := by decide +kernel
theorem dX5_product_48 : decode cX5_product 48 = .ok (.if_icmp .ge 85, 3) := by decide +kernel
theorem dX5_product_51 : decode cX5_product 51 = .ok (.iload 7, 2) := by decide +kernel
theorem dX5_product_53 : decode cX5_product 53 = .ok (.ifCond .eq 80, 3) := by decide +kernel
theorem dX5_product_56 : decode cX5_product 56 = .ok (.aload_n 0, 1) := by decide +kernel
theorem dX5_product_57 : decode cX5_product 57 = .ok (.getfield 13, 3) := by decide +kernel
theorem dX5_product_60 : decode cX5_product 60 = .ok (.sipush 160, 3) := by decide +kernel
theorem dX5_product_63 : decode cX5_product 63 = .ok (.iload_n 3, 1) := by decide +kernel
theorem dX5_product_64 : decode cX5_product 64 = .ok (.imul, 1) := by decide +kernel
theorem dX5_product_65 : decode cX5_product 65 = .ok (.iload 4, 2) := by decide +kernel
theorem dX5_product_67 : decode cX5_product 67 = .ok (.iadd, 1) := by decide +kernel
theorem dX5_product_68 : decode cX5_product 68 = .ok (.iload 8, 2) := by decide +kernel
theorem dX5_product_70 : decode cX5_product 70 = .ok (.iadd, 1) := by decide +kernel
theorem dX5_product_71 : decode cX5_product 71 = .ok (.iaload, 1) := by decide +kernel
theorem dX5_product_72 : decode cX5_product 72 = .ok (.i2l, 1) := by decide +kernel
theorem dX5_product_73 : decode cX5_product 73 = .ok (.iload 7, 2) := by decide +kernel
theorem dX5_product_75 : decode cX5_product 75 = .ok (.i2l, 1) := by decide +kernel
theorem dX5_product_76 : decode cX5_product 76 = .ok (.aload_n 0, 1) := by decide +kernel
theorem dX5_product_77 : decode cX5_product 77 = .ok (.getfield 13, 3) := by decide +kernel
theorem dX5_product_80 : decode cX5_product 80 = .ok (.sipush 160, 3) := by decide +kernel
theorem dX5_product_83 : decode cX5_product 83 = .ok (.iload_n 2, 1) := by decide +kernel
theorem dX5_product_84 : decode cX5_product 84 = .ok (.imul, 1) := by decide +kernel
theorem dX5_product_85 : decode cX5_product 85 = .ok (.iload 8, 2) := by decide +kernel
theorem dX5_product_87 : decode cX5_product 87 = .ok (.iadd, 1) := by decide +kernel
theorem dX5_product_88 : decode cX5_product 88 = .ok (.iaload, 1) := by decide +kernel
theorem dX5_product_89 : decode cX5_product 89 = .ok (.i2l, 1) := by decide +kernel
theorem dX5_product_90 : decode cX5_product 90 = .ok (.lmul, 1) := by decide +kernel
theorem dX5_product_91 : decode cX5_product 91 = .ok (.ladd, 1) := by decide +kernel
theorem dX5_product_92 : decode cX5_product 92 = .ok (.lload 5, 2) := by decide +kernel
theorem dX5_product_94 : decode cX5_product 94 = .ok (.ladd, 1) := by decide +kernel
theorem dX5_product_95 : decode cX5_product 95 = .ok (.lstore 9, 2) := by decide +kernel
theorem dX5_product_97 : decode cX5_product 97 = .ok (.aload_n 0, 1) := by decide +kernel
theorem dX5_product_98 : decode cX5_product 98 = .ok (.getfield 13, 3) := by decide +kernel
theorem dX5_product_101 : decode cX5_product 101 = .ok (.sipush 160, 3) := by decide +kernel
theorem dX5_product_104 : decode cX5_product 104 = .ok (.iload_n 3, 1) := by decide +kernel
theorem dX5_product_105 : decode cX5_product 105 = .ok (.imul, 1) := by decide +kernel
theorem dX5_product_106 : decode cX5_product 106 = .ok (.iload 4, 2) := by decide +kernel
theorem dX5_product_108 : decode cX5_product 108 = .ok (.iadd, 1) := by decide +kernel
theorem dX5_product_109 : decode cX5_product 109 = .ok (.iload 8, 2) := by decide +kernel
theorem dX5_product_111 : decode cX5_product 111 = .ok (.iadd, 1) := by decide +kernel
theorem dX5_product_112 : decode cX5_product 112 = .ok (.lload 9, 2) := by decide +kernel
theorem dX5_product_114 : decode cX5_product 114 = .ok (.ldc2_w 40, 3) := by decide +kernel
theorem dX5_product_117 : decode cX5_product 117 = .ok (.land, 1) := by decide +kernel
theorem dX5_product_118 : decode cX5_product 118 = .ok (.l2i, 1) := by decide +kernel
theorem dX5_product_119 : decode cX5_product 119 = .ok (.iastore, 1) := by decide +kernel
theorem dX5_product_120 : decode cX5_product 120 = .ok (.lload 9, 2) := by decide +kernel
theorem dX5_product_122 : decode cX5_product 122 = .ok (.bipush 15, 2) := by decide +kernel
theorem dX5_product_124 : decode cX5_product 124 = .ok (.lshr, 1) := by decide +kernel
theorem dX5_product_125 : decode cX5_product 125 = .ok (.lstore 5, 2) := by decide +kernel
theorem dX5_product_127 : decode cX5_product 127 = .ok (.iinc 8 1, 3) := by decide +kernel
theorem dX5_product_130 : decode cX5_product 130 = .ok (.goto (-91), 3) := by decide +kernel
theorem dX5_product_133 : decode cX5_product 133 = .ok (.iinc 4 1, 3) := by decide +kernel
theorem dX5_product_136 : decode cX5_product 136 = .ok (.goto (-127), 3) := by decide +kernel
theorem dX5_product_139 : decode cX5_product 139 = .ok (.return_, 1) := by decide +kernel
theorem dX5_twice_0 : decode cX5_twice 0 = .ok (.iconst 0, 1) := by decide +kernel
theorem dX5_twice_1 : decode cX5_twice 1 = .ok (.istore_n 2, 1) := by decide +kernel
theorem dX5_twice_2 : decode cX5_twice 2 = .ok (.iconst 0, 1) := by decide +kernel
theorem dX5_twice_3 : decode cX5_twice 3 = .ok (.istore_n 3, 1) := by decide +kernel
theorem dX5_twice_4 : decode cX5_twice 4 = .ok (.iload_n 3, 1) := by decide +kernel
theorem dX5_twice_5 : decode cX5_twice 5 = .ok (.aload_n 0, 1) := by decide +kernel
theorem dX5_twice_6 : decode cX5_twice 6 = .ok (.getfield 9, 3) := by decide +kernel
theorem dX5_twice_9 : decode cX5_twice 9 = .ok (.if_icmp .ge 51, 3) := by decide +kernel
theorem dX5_twice_12 : decode cX5_twice 12 = .ok (.aload_n 0, 1) := by decide +kernel
theorem dX5_twice_13 : decode cX5_twice 13 = .ok (.getfield 13, 3) := by decide +kernel
theorem dX5_twice_16 : decode cX5_twice 16 = .ok (.sipush 160, 3) := by decide +kernel
theorem dX5_twice_19 : decode cX5_twice 19 = .ok (.iload_n 1, 1) := by decide +kernel
theorem dX5_twice_20 : decode cX5_twice 20 = .ok (.imul, 1) := by decide +kernel
theorem dX5_twice_21 : decode cX5_twice 21 = .ok (.iload_n 3, 1) := by decide +kernel
theorem dX5_twice_22 : decode cX5_twice 22 = .ok (.iadd, 1) := by decide +kernel
theorem dX5_twice_23 : decode cX5_twice 23 = .ok (.iaload, 1) := by decide +kernel
theorem dX5_twice_24 : decode cX5_twice 24 = .ok (.iconst 2, 1) := by decide +kernel
theorem dX5_twice_25 : decode cX5_twice 25 = .ok (.imul, 1) := by decide +kernel
theorem dX5_twice_26 : decode cX5_twice 26 = .ok (.iload_n 2, 1) := by decide +kernel
theorem dX5_twice_27 : decode cX5_twice 27 = .ok (.iadd, 1) := by decide +kernel
theorem dX5_twice_28 : decode cX5_twice 28 = .ok (.istore 4, 2) := by decide +kernel
theorem dX5_twice_30 : decode cX5_twice 30 = .ok (.aload_n 0, 1) := by decide +kernel
theorem dX5_twice_31 : decode cX5_twice 31 = .ok (.getfield 13, 3) := by decide +kernel
theorem dX5_twice_34 : decode cX5_twice 34 = .ok (.sipush 160, 3) := by decide +kernel
theorem dX5_twice_37 : decode cX5_twice 37 = .ok (.iload_n 1, 1) := by decide +kernel
theorem dX5_twice_38 : decode cX5_twice 38 = .ok (.imul, 1) := by decide +kernel
theorem dX5_twice_39 : decode cX5_twice 39 = .ok (.iload_n 3, 1) := by decide +kernel
theorem dX5_twice_40 : decode cX5_twice 40 = .ok (.iadd, 1) := by decide +kernel
theorem dX5_twice_41 : decode cX5_twice 41 = .ok (.iload 4, 2) := by decide +kernel
theorem dX5_twice_43 : decode cX5_twice 43 = .ok (.sipush 32767, 3) := by decide +kernel
theorem dX5_twice_46 : decode cX5_twice 46 = .ok (.iand, 1) := by decide +kernel
theorem dX5_twice_47 : decode cX5_twice 47 = .ok (.iastore, 1) := by decide +kernel
theorem dX5_twice_48 : decode cX5_twice 48 = .ok (.iload 4, 2) := by decide +kernel
theorem dX5_twice_50 : decode cX5_twice 50 = .ok (.bipush 15, 2) := by decide +kernel
theorem dX5_twice_52 : decode cX5_twice 52 = .ok (.ishr, 1) := by decide +kernel
theorem dX5_twice_53 : decode cX5_twice 53 = .ok (.istore_n 2, 1) := by decide +kernel
theorem dX5_twice_54 : decode cX5_twice 54 = .ok (.iinc 3 1, 3) := by decide +kernel
theorem dX5_twice_57 : decode cX5_twice 57 = .ok (.goto (-53), 3) := by decide +kernel
theorem dX5_twice_60 : decode cX5_twice 60 = .ok (.return_, 1) := by decide +kernel
theorem dX5_half_0 : decode cX5_half 0 = .ok (.iconst 0, 1) := by decide +kernel
theorem dX5_half_1 : decode cX5_half 1 = .ok (.istore_n 2, 1) := by decide +kernel
theorem dX5_half_2 : decode cX5_half 2 = .ok (.iload_n 2, 1) := by decide +kernel
theorem dX5_half_3 : decode cX5_half 3 = .ok (.aload_n 0, 1) := by decide +kernel
theorem dX5_half_4 : decode cX5_half 4 = .ok (.getfield 9, 3) := by decide +kernel
theorem dX5_half_7 : decode cX5_half 7 = .ok (.if_icmp .ge 70, 3) := by decide +kernel
theorem dX5_half_10 : decode cX5_half 10 = .ok (.iload_n 2, 1) := by decide +kernel
theorem dX5_half_11 : decode cX5_half 11 = .ok (.iconst 1, 1) := by decide +kernel
theorem dX5_half_12 : decode cX5_half 12 = .ok (.iadd, 1) := by decide +kernel
theorem dX5_half_13 : decode cX5_half 13 = .ok (.sipush 160, 3) := by decide +kernel
theorem dX5_half_16 : decode cX5_half 16 = .ok (.if_icmp .ge 22, 3) := by decide +kernel
theorem dX5_half_19 : decode cX5_half 19 = .ok (.aload_n 0, 1) := by decide +kernel
theorem dX5_half_20 : decode cX5_half 20 = .ok (.getfield 13, 3) := by decide +kernel
theorem dX5_half_23 : decode cX5_half 23 = .ok (.sipush 160, 3) := by decide +kernel
theorem dX5_half_26 : decode cX5_half 26 = .ok (.iload_n 1, 1) := by decide +kernel
theorem dX5_half_27 : decode cX5_half 27 = .ok (.imul, 1) := by decide +kernel
theorem dX5_half_28 : decode cX5_half 28 = .ok (.iload_n 2, 1) := by decide +kernel
theorem dX5_half_29 : decode cX5_half 29 = .ok (.iadd, 1) := by decide +kernel
theorem dX5_half_30 : decode cX5_half 30 = .ok (.iconst 1, 1) := by decide +kernel
theorem dX5_half_31 : decode cX5_half 31 = .ok (.iadd, 1) := by decide +kernel
theorem dX5_half_32 : decode cX5_half 32 = .ok (.iaload, 1) := by decide +kernel
theorem dX5_half_33 : decode cX5_half 33 = .ok (.iconst 1, 1) := by decide +kernel
theorem dX5_half_34 : decode cX5_half 34 = .ok (.iand, 1) := by decide +kernel
theorem dX5_half_35 : decode cX5_half 35 = .ok (.goto 4, 3) := by decide +kernel
theorem dX5_half_38 : decode cX5_half 38 = .ok (.iconst 0, 1) := by decide +kernel
theorem dX5_half_39 : decode cX5_half 39 = .ok (.istore_n 3, 1) := by decide +kernel
theorem dX5_half_40 : decode cX5_half 40 = .ok (.aload_n 0, 1) := by decide +kernel
theorem dX5_half_41 : decode cX5_half 41 = .ok (.getfield 13, 3) := by decide +kernel
theorem dX5_half_44 : decode cX5_half 44 = .ok (.sipush 160, 3) := by decide +kernel
theorem dX5_half_47 : decode cX5_half 47 = .ok (.iload_n 1, 1) := by decide +kernel
theorem dX5_half_48 : decode cX5_half 48 = .ok (.imul, 1) := by decide +kernel
theorem dX5_half_49 : decode cX5_half 49 = .ok (.iload_n 2, 1) := by decide +kernel
theorem dX5_half_50 : decode cX5_half 50 = .ok (.iadd, 1) := by decide +kernel
theorem dX5_half_51 : decode cX5_half 51 = .ok (.aload_n 0, 1) := by decide +kernel
theorem dX5_half_52 : decode cX5_half 52 = .ok (.getfield 13, 3) := by decide +kernel
theorem dX5_half_55 : decode cX5_half 55 = .ok (.sipush 160, 3) := by decide +kernel
theorem dX5_half_58 : decode cX5_half 58 = .ok (.iload_n 1, 1) := by decide +kernel
theorem dX5_half_59 : decode cX5_half 59 = .ok (.imul, 1) := by decide +kernel
theorem dX5_half_60 : decode cX5_half 60 = .ok (.iload_n 2, 1) := by decide +kernel
theorem dX5_half_61 : decode cX5_half 61 = .ok (.iadd, 1) := by decide +kernel
theorem dX5_half_62 : decode cX5_half 62 = .ok (.iaload, 1) := by decide +kernel
theorem dX5_half_63 : decode cX5_half 63 = .ok (.iconst 1, 1) := by decide +kernel
theorem dX5_half_64 : decode cX5_half 64 = .ok (.ishr, 1) := by decide +kernel
theorem dX5_half_65 : decode cX5_half 65 = .ok (.iload_n 3, 1) := by decide +kernel
theorem dX5_half_66 : decode cX5_half 66 = .ok (.bipush 14, 2) := by decide +kernel
theorem dX5_half_68 : decode cX5_half 68 = .ok (.ishl, 1) := by decide +kernel
theorem dX5_half_69 : decode cX5_half 69 = .ok (.ior, 1) := by decide +kernel
theorem dX5_half_70 : decode cX5_half 70 = .ok (.iastore, 1) := by decide +kernel
theorem dX5_half_71 : decode cX5_half 71 = .ok (.iinc 2 1, 3) := by decide +kernel
theorem dX5_half_74 : decode cX5_half 74 = .ok (.goto (-72), 3) := by decide +kernel
theorem dX5_half_77 : decode cX5_half 77 = .ok (.return_, 1) := by decide +kernel
theorem dX5_isEven_0 : decode cX5_isEven 0 = .ok (.aload_n 0, 1) := by decide +kernel
theorem dX5_isEven_1 : decode cX5_isEven 1 = .ok (.getfield 13, 3) := by decide +kernel
theorem dX5_isEven_4 : decode cX5_isEven 4 = .ok (.sipush 160, 3) := by decide +kernel
theorem dX5_isEven_7 : decode cX5_isEven 7 = .ok (.iload_n 1, 1) := by decide +kernel
theorem dX5_isEven_8 : decode cX5_isEven 8 = .ok (.imul, 1) := by decide +kernel
theorem dX5_isEven_9 : decode cX5_isEven 9 = .ok (.iaload, 1) := by decide +kernel
theorem dX5_isEven_10 : decode cX5_isEven 10 = .ok (.iconst 1, 1) := by decide +kernel
theorem dX5_isEven_11 : decode cX5_isEven 11 = .ok (.iand, 1) := by decide +kernel
theorem dX5_isEven_12 : decode cX5_isEven 12 = .ok (.ifCond .ne 7, 3) := by decide +kernel
theorem dX5_isEven_15 : decode cX5_isEven 15 = .ok (.iconst 1, 1) := by decide +kernel
theorem dX5_isEven_16 : decode cX5_isEven 16 = .ok (.goto 4, 3) := by decide +kernel
theorem dX5_isEven_19 : decode cX5_isEven 19 = .ok (.iconst 0, 1) := by decide +kernel
theorem dX5_isEven_20 : decode cX5_isEven 20 = .ok (.ireturn, 1) := by decide +kernel
theorem dX5_divide_0 : decode cX5_divide 0 = .ok (.aload_n 0, 1) := by decide +kernel
theorem dX5_divide_1 : decode cX5_divide 1 = .ok (.iload_n 3, 1) := by decide +kernel
theorem dX5_divide_2 : decode cX5_divide 2 = .ok (.lconst 0, 1) := by decide +kernel
theorem dX5_divide_3 : decode cX5_divide 3 = .ok (.invokevirtual 36, 3) := by decide +kernel
theorem dX5_divide_6 : decode cX5_divide 6 = .ok (.aload_n 0, 1) := by decide +kernel
theorem dX5_divide_7 : decode cX5_divide 7 = .ok (.iload 4, 2) := by decide +kernel
theorem dX5_divide_9 : decode cX5_divide 9 = .ok (.lconst 0, 1) := by decide +kernel
theorem dX5_divide_10 : decode cX5_divide 10 = .ok (.invokevirtual 36, 3) := by decide +kernel
theorem dX5_divide_13 : decode cX5_divide 13 = .ok (.aload_n 0, 1) := by decide +kernel
theorem dX5_divide_14 : decode cX5_divide 14 = .ok (.iload_n 1, 1) := by decide +kernel
theorem dX5_divide_15 : decode cX5_divide 15 = .ok (.invokevirtual 42, 3) := by decide +kernel
theorem dX5_divide_18 : decode cX5_divide 18 = .ok (.iconst 1, 1) := by decide +kernel
theorem dX5_divide_19 : decode cX5_divide 19 = .ok (.isub, 1) := by decide +kernel
theorem dX5_divide_20 : decode cX5_divide 20 = .ok (.istore 5, 2) := by decide +kernel
theorem dX5_divide_22 : decode cX5_divide 22 = .ok (.iload 5, 2) := by decide +kernel
theorem dX5_divide_24 : decode cX5_divide 24 = .ok (.ifCond .lt 96, 3) := by decide +kernel
theorem dX5_divide_27 : decode cX5_divide 27 = .ok (.aload_n 0, 1) := by decide +kernel
theorem dX5_divide_28 : decode cX5_divide 28 = .ok (.iload 4, 2) := by decide +kernel
theorem dX5_divide_30 : decode cX5_divide 30 = .ok (.invokevirtual 46, 3) := by decide +kernel
theorem dX5_divide_33 : decode cX5_divide 33 = .ok (.aload_n 0, 1) := by decide +kernel
theorem dX5_divide_34 : decode cX5_divide 34 = .ok (.getfield 13, 3) := by decide +kernel
theorem dX5_divide_37 : decode cX5_divide 37 = .ok (.sipush 160, 3) := by decide +kernel
theorem dX5_divide_40 : decode cX5_divide 40 = .ok (.iload 4, 2) := by decide +kernel
theorem dX5_divide_42 : decode cX5_divide 42 = .ok (.imul, 1) := by decide +kernel
theorem dX5_divide_43 : decode cX5_divide 43 = .ok (.dup2, 1) := by decide +kernel
theorem dX5_divide_44 : decode cX5_divide 44 = .ok (.iaload, 1) := by decide +kernel
theorem dX5_divide_45 : decode cX5_divide 45 = .ok (.aload_n 0, 1) := by decide +kernel
theorem dX5_divide_46 : decode cX5_divide 46 = .ok (.getfield 13, 3) := by decide +kernel
theorem dX5_divide_49 : decode cX5_divide 49 = .ok (.sipush 160, 3) := by decide +kernel
theorem dX5_divide_52 : decode cX5_divide 52 = .ok (.iload_n 1, 1) := by decide +kernel
theorem dX5_divide_53 : decode cX5_divide 53 = .ok (.imul, 1) := by decide +kernel
theorem dX5_divide_54 : decode cX5_divide 54 = .ok (.iload 5, 2) := by decide +kernel
theorem dX5_divide_56 : decode cX5_divide 56 = .ok (.bipush 15, 2) := by decide +kernel
theorem dX5_divide_58 : decode cX5_divide 58 = .ok (.idiv, 1) := by decide +kernel
theorem dX5_divide_59 : decode cX5_divide 59 = .ok (.iadd, 1) := by decide +kernel
theorem dX5_divide_60 : decode cX5_divide 60 = .ok (.iaload, 1) := by decide +kernel
theorem dX5_divide_61 : decode cX5_divide 61 = .ok (.iload 5, 2) := by decide +kernel
theorem dX5_divide_63 : decode cX5_divide 63 = .ok (.bipush 15, 2) := by decide +kernel
theorem dX5_divide_65 : decode cX5_divide 65 = .ok (.irem, 1) := by decide +kernel
theorem dX5_divide_66 : decode cX5_divide 66 = .ok (.ishr, 1) := by decide +kernel
theorem dX5_divide_67 : decode cX5_divide 67 = .ok (.iconst 1, 1) := by decide +kernel
theorem dX5_divide_68 : decode cX5_divide 68 = .ok (.iand, 1) := by decide +kernel
theorem dX5_divide_69 : decode cX5_divide 69 = .ok (.iadd, 1) := by decide +kernel
theorem dX5_divide_70 : decode cX5_divide 70 = .ok (.iastore, 1) := by decide +kernel
theorem dX5_divide_71 : decode cX5_divide 71 = .ok (.aload_n 0, 1) := by decide +kernel
theorem dX5_divide_72 : decode cX5_divide 72 = .ok (.iload 4, 2) := by decide +kernel
theorem dX5_divide_74 : decode cX5_divide 74 = .ok (.iload_n 2, 1) := by decide +kernel
theorem dX5_divide_75 : decode cX5_divide 75 = .ok (.invokevirtual 50, 3) := by decide +kernel
theorem dX5_divide_78 : decode cX5_divide 78 = .ok (.ifCond .lt 36, 3) := by decide +kernel
theorem dX5_divide_81 : decode cX5_divide 81 = .ok (.aload_n 0, 1) := by decide +kernel
theorem dX5_divide_82 : decode cX5_divide 82 = .ok (.iload 4, 2) := by decide +kernel
theorem dX5_divide_84 : decode cX5_divide 84 = .ok (.iload_n 2, 1) := by decide +kernel
theorem dX5_divide_85 : decode cX5_divide 85 = .ok (.invokevirtual 54, 3) := by decide +kernel
theorem dX5_divide_88 : decode cX5_divide 88 = .ok (.aload_n 0, 1) := by decide +kernel
theorem dX5_divide_89 : decode cX5_divide 89 = .ok (.getfield 13, 3) := by decide +kernel
theorem dX5_divide_92 : decode cX5_divide 92 = .ok (.sipush 160, 3) := by decide +kernel
theorem dX5_divide_95 : decode cX5_divide 95 = .ok (.iload_n 3, 1) := by decide +kernel
theorem dX5_divide_96 : decode cX5_divide 96 = .ok (.imul, 1) := by decide +kernel
theorem dX5_divide_97 : decode cX5_divide 97 = .ok (.iload 5, 2) := by decide +kernel
theorem dX5_divide_99 : decode cX5_divide 99 = .ok (.bipush 15, 2) := by decide +kernel
theorem dX5_divide_101 : decode cX5_divide 101 = .ok (.idiv, 1) := by decide +kernel
theorem dX5_divide_102 : decode cX5_divide 102 = .ok (.iadd, 1) := by decide +kernel
theorem dX5_divide_103 : decode cX5_divide 103 = .ok (.dup2, 1) := by decide +kernel
theorem dX5_divide_104 : decode cX5_divide 104 = .ok (.iaload, 1) := by decide +kernel
theorem dX5_divide_105 : decode cX5_divide 105 = .ok (.iconst 1, 1) := by decide +kernel
theorem dX5_divide_106 : decode cX5_divide 106 = .ok (.iload 5, 2) := by decide +kernel
theorem dX5_divide_108 : decode cX5_divide 108 = .ok (.bipush 15, 2) := by decide +kernel
theorem dX5_divide_110 : decode cX5_divide 110 = .ok (.irem, 1) := by decide +kernel
theorem dX5_divide_111 : decode cX5_divide 111 = .ok (.ishl, 1) := by decide +kernel
theorem dX5_divide_112 : decode cX5_divide 112 = .ok (.iadd, 1) := by decide +kernel
theorem dX5_divide_113 : decode cX5_divide 113 = .ok (.iastore, 1) := by decide +kernel
theorem dX5_divide_114 : decode cX5_divide 114 = .ok (.iinc 5 (-1), 3) := by decide +kernel
theorem dX5_divide_117 : decode cX5_divide 117 = .ok (.goto (-95), 3) := by decide +kernel
theorem dX5_divide_120 : decode cX5_divide 120 = .ok (.return_, 1) := by decide +kernel
theorem dX5_divisor_0 : decode cX5_divisor 0 = .ok (.iload_n 1, 1) := by decide +kernel
theorem dX5_divisor_1 : decode cX5_divisor 1 = .ok (.istore_n 3, 1) := by decide +kernel
theorem dX5_divisor_2 : decode cX5_divisor 2 = .ok (.iload_n 2, 1) := by decide +kernel
theorem dX5_divisor_3 : decode cX5_divisor 3 = .ok (.istore 4, 2) := by decide +kernel
theorem dX5_divisor_5 : decode cX5_divisor 5 = .ok (.aload_n 0, 1) := by decide +kernel
theorem dX5_divisor_6 : decode cX5_divisor 6 = .ok (.iload_n 3, 1) := by decide +kernel
theorem dX5_divisor_7 : decode cX5_divisor 7 = .ok (.invokevirtual 58, 3) := by decide +kernel
theorem dX5_divisor_10 : decode cX5_divisor 10 = .ok (.ifCond .eq 11, 3) := by decide +kernel
theorem dX5_divisor_13 : decode cX5_divisor 13 = .ok (.aload_n 0, 1) := by decide +kernel
theorem dX5_divisor_14 : decode cX5_divisor 14 = .ok (.iload_n 3, 1) := by decide +kernel
theorem dX5_divisor_15 : decode cX5_divisor 15 = .ok (.iload 4, 2) := by decide +kernel
theorem dX5_divisor_17 : decode cX5_divisor 17 = .ok (.invokevirtual 62, 3) := by decide +kernel
theorem dX5_divisor_20 : decode cX5_divisor 20 = .ok (.return_, 1) := by decide +kernel
theorem dX5_divisor_21 : decode cX5_divisor 21 = .ok (.iconst 0, 1) := by decide +kernel
theorem dX5_divisor_22 : decode cX5_divisor 22 = .ok (.istore 5, 2) := by decide +kernel
theorem dX5_divisor_24 : decode cX5_divisor 24 = .ok (.aload_n 0, 1) := by decide +kernel
theorem dX5_divisor_25 : decode cX5_divisor 25 = .ok (.iload_n 3, 1) := by decide +kernel
theorem dX5_divisor_26 : decode cX5_divisor 26 = .ok (.invokevirtual 65, 3) := by decide +kernel
theorem dX5_divisor_29 : decode cX5_divisor 29 = .ok (.ifCond .eq 29, 3) := by decide +kernel
theorem dX5_divisor_32 : decode cX5_divisor 32 = .ok (.aload_n 0, 1) := by decide +kernel
theorem dX5_divisor_33 : decode cX5_divisor 33 = .ok (.iload 4, 2) := by decide +kernel
theorem dX5_divisor_35 : decode cX5_divisor 35 = .ok (.invokevirtual 65, 3) := by decide +kernel
theorem dX5_divisor_38 : decode cX5_divisor 38 = .ok (.ifCond .eq 20, 3) := by decide +kernel
theorem dX5_divisor_41 : decode cX5_divisor 41 = .ok (.aload_n 0, 1) := by decide +kernel
theorem dX5_divisor_42 : decode cX5_divisor 42 = .ok (.iload_n 3, 1) := by decide +kernel
theorem dX5_divisor_43 : decode cX5_divisor 43 = .ok (.invokevirtual 68, 3) := by decide +kernel
theorem dX5_divisor_46 : decode cX5_divisor 46 = .ok (.aload_n 0, 1) := by decide +kernel
theorem dX5_divisor_47 : decode cX5_divisor 47 = .ok (.iload 4, 2) := by decide +kernel
theorem dX5_divisor_49 : decode cX5_divisor 49 = .ok (.invokevirtual 68, 3) := by decide +kernel
theorem dX5_divisor_52 : decode cX5_divisor 52 = .ok (.iinc 5 1, 3) := by decide +kernel
theorem dX5_divisor_55 : decode cX5_divisor 55 = .ok (.goto (-31), 3) := by decide +kernel
theorem dX5_divisor_58 : decode cX5_divisor 58 = .ok (.aload_n 0, 1) := by decide +kernel
theorem dX5_divisor_59 : decode cX5_divisor 59 = .ok (.iload 4, 2) := by decide +kernel
theorem dX5_divisor_61 : decode cX5_divisor 61 = .ok (.invokevirtual 58, 3) := by decide +kernel
theorem dX5_divisor_64 : decode cX5_divisor 64 = .ok (.ifCond .ne 77, 3) := by decide +kernel
theorem dX5_divisor_67 : decode cX5_divisor 67 = .ok (.aload_n 0, 1) := by decide +kernel
theorem dX5_divisor_68 : decode cX5_divisor 68 = .ok (.iload_n 3, 1) := by decide +kernel
theorem dX5_divisor_69 : decode cX5_divisor 69 = .ok (.invokevirtual 65, 3) := by decide +kernel
theorem dX5_divisor_72 : decode cX5_divisor 72 = .ok (.ifCond .eq 11, 3) := by decide +kernel
theorem dX5_divisor_75 : decode cX5_divisor 75 = .ok (.aload_n 0, 1) := by decide +kernel
theorem dX5_divisor_76 : decode cX5_divisor 76 = .ok (.iload_n 3, 1) := by decide +kernel
theorem dX5_divisor_77 : decode cX5_divisor 77 = .ok (.invokevirtual 68, 3) := by decide +kernel
theorem dX5_divisor_80 : decode cX5_divisor 80 = .ok (.goto (-13), 3) := by decide +kernel
theorem dX5_divisor_83 : decode cX5_divisor 83 = .ok (.aload_n 0, 1) := by decide +kernel
theorem dX5_divisor_84 : decode cX5_divisor 84 = .ok (.iload 4, 2) := by decide +kernel
theorem dX5_divisor_86 : decode cX5_divisor 86 = .ok (.invokevirtual 65, 3) := by decide +kernel
theorem dX5_divisor_89 : decode cX5_divisor 89 = .ok (.ifCond .eq 12, 3) := by decide +kernel
theorem dX5_divisor_92 : decode cX5_divisor 92 = .ok (.aload_n 0, 1) := by decide +kernel
theorem dX5_divisor_93 : decode cX5_divisor 93 = .ok (.iload 4, 2) := by decide +kernel
theorem dX5_divisor_95 : decode cX5_divisor 95 = .ok (.invokevirtual 68, 3) := by decide +kernel
theorem dX5_divisor_98 : decode cX5_divisor 98 = .ok (.goto (-15), 3) := by decide +kernel
theorem dX5_divisor_101 : decode cX5_divisor 101 = .ok (.aload_n 0, 1) := by decide +kernel
theorem dX5_divisor_102 : decode cX5_divisor 102 = .ok (.iload_n 3, 1) := by decide +kernel
theorem dX5_divisor_103 : decode cX5_divisor 103 = .ok (.iload 4, 2) := by decide +kernel
theorem dX5_divisor_105 : decode cX5_divisor 105 = .ok (.invokevirtual 50, 3) := by decide +kernel
theorem dX5_divisor_108 : decode cX5_divisor 108 = .ok (.ifCond .le 23, 3) := by decide +kernel
theorem dX5_divisor_111 : decode cX5_divisor 111 = .ok (.aload_n 0, 1) := by decide +kernel
theorem dX5_divisor_112 : decode cX5_divisor 112 = .ok (.iload_n 3, 1) := by decide +kernel
theorem dX5_divisor_113 : decode cX5_divisor 113 = .ok (.iload 4, 2) := by decide +kernel
theorem dX5_divisor_115 : decode cX5_divisor 115 = .ok (.invokevirtual 54, 3) := by decide +kernel
theorem dX5_divisor_118 : decode cX5_divisor 118 = .ok (.iload_n 3, 1) := by decide +kernel
theorem dX5_divisor_119 : decode cX5_divisor 119 = .ok (.istore 6, 2) := by decide +kernel
theorem dX5_divisor_121 : decode cX5_divisor 121 = .ok (.iload 4, 2) := by decide +kernel
theorem dX5_divisor_123 : decode cX5_divisor 123 = .ok (.istore_n 3, 1) := by decide +kernel
theorem dX5_divisor_124 : decode cX5_divisor 124 = .ok (.iload 6, 2) := by decide +kernel
theorem dX5_divisor_126 : decode cX5_divisor 126 = .ok (.istore 4, 2) := by decide +kernel
theorem dX5_divisor_128 : decode cX5_divisor 128 = .ok (.goto (-70), 3) := by decide +kernel
theorem dX5_divisor_131 : decode cX5_divisor 131 = .ok (.aload_n 0, 1) := by decide +kernel
theorem dX5_divisor_132 : decode cX5_divisor 132 = .ok (.iload 4, 2) := by decide +kernel
theorem dX5_divisor_134 : decode cX5_divisor 134 = .ok (.iload_n 3, 1) := by decide +kernel
theorem dX5_divisor_135 : decode cX5_divisor 135 = .ok (.invokevirtual 54, 3) := by decide +kernel
theorem dX5_divisor_138 : decode cX5_divisor 138 = .ok (.goto (-80), 3) := by decide +kernel
theorem dX5_divisor_141 : decode cX5_divisor 141 = .ok (.iconst 0, 1) := by decide +kernel
theorem dX5_divisor_142 : decode cX5_divisor 142 = .ok (.istore 6, 2) := by decide +kernel
theorem dX5_divisor_144 : decode cX5_divisor 144 = .ok (.iload 6, 2) := by decide +kernel
theorem dX5_divisor_146 : decode cX5_divisor 146 = .ok (.iload 5, 2) := by decide +kernel
theorem dX5_divisor_148 : decode cX5_divisor 148 = .ok (.if_icmp .ge 14, 3) := by decide +kernel
theorem dX5_divisor_151 : decode cX5_divisor 151 = .ok (.aload_n 0, 1) := by decide +kernel
theorem dX5_divisor_152 : decode cX5_divisor 152 = .ok (.iload_n 3, 1) := by decide +kernel
theorem dX5_divisor_153 : decode cX5_divisor 153 = .ok (.invokevirtual 46, 3) := by decide +kernel
theorem dX5_divisor_156 : decode cX5_divisor 156 = .ok (.iinc 6 1, 3) := by decide +kernel
theorem dX5_divisor_159 : decode cX5_divisor 159 = .ok (.goto (-15), 3) := by decide +kernel
theorem dX5_divisor_162 : decode cX5_divisor 162 = .ok (.iload_n 3, 1) := by decide +kernel
theorem dX5_divisor_163 : decode cX5_divisor 163 = .ok (.iload_n 1, 1) := by decide +kernel
theorem dX5_divisor_164 : decode cX5_divisor 164 = .ok (.if_icmp .eq 9, 3) := by decide +kernel
theorem dX5_divisor_167 : decode cX5_divisor 167 = .ok (.aload_n 0, 1) := by decide +kernel
theorem dX5_divisor_168 : decode cX5_divisor 168 = .ok (.iload_n 1, 1) := by decide +kernel
theorem dX5_divisor_169 : decode cX5_divisor 169 = .ok (.iload_n 3, 1) := by decide +kernel
theorem dX5_divisor_170 : decode cX5_divisor 170 = .ok (.invokevirtual 62, 3) := by decide +kernel
theorem dX5_divisor_173 : decode cX5_divisor 173 = .ok (.return_, 1) := by decide +kernel
theorem dX5_rootOf_0 : decode cX5_rootOf 0 = .ok (.aload_n 0, 1) := by decide +kernel
theorem dX5_rootOf_1 : decode cX5_rootOf 1 = .ok (.iload_n 2, 1) := by decide +kernel
theorem dX5_rootOf_2 : decode cX5_rootOf 2 = .ok (.lconst 0, 1) := by decide +kernel
theorem dX5_rootOf_3 : decode cX5_rootOf 3 = .ok (.invokevirtual 36, 3) := by decide +kernel
theorem dX5_rootOf_6 : decode cX5_rootOf 6 = .ok (.aload_n 0, 1) := by decide +kernel
theorem dX5_rootOf_7 : decode cX5_rootOf 7 = .ok (.bipush 10, 2) := by decide +kernel
theorem dX5_rootOf_9 : decode cX5_rootOf 9 = .ok (.lconst 0, 1) := by decide +kernel
theorem dX5_rootOf_10 : decode cX5_rootOf 10 = .ok (.invokevirtual 36, 3) := by decide +kernel
theorem dX5_rootOf_13 : decode cX5_rootOf 13 = .ok (.aload_n 0, 1) := by decide +kernel
theorem dX5_rootOf_14 : decode cX5_rootOf 14 = .ok (.iload_n 1, 1) := by decide +kernel
theorem dX5_rootOf_15 : decode cX5_rootOf 15 = .ok (.invokevirtual 42, 3) := by decide +kernel
theorem dX5_rootOf_18 : decode cX5_rootOf 18 = .ok (.iconst 1, 1) := by decide +kernel
theorem dX5_rootOf_19 : decode cX5_rootOf 19 = .ok (.iadd, 1) := by decide +kernel
theorem dX5_rootOf_20 : decode cX5_rootOf 20 = .ok (.iconst 2, 1) := by decide +kernel
theorem dX5_rootOf_21 : decode cX5_rootOf 21 = .ok (.idiv, 1) := by decide +kernel
theorem dX5_rootOf_22 : decode cX5_rootOf 22 = .ok (.istore_n 3, 1) := by decide +kernel
theorem dX5_rootOf_23 : decode cX5_rootOf 23 = .ok (.iload_n 3, 1) := by decide +kernel
theorem dX5_rootOf_24 : decode cX5_rootOf 24 = .ok (.iconst 1, 1) := by decide +kernel
theorem dX5_rootOf_25 : decode cX5_rootOf 25 = .ok (.isub, 1) := by decide +kernel
theorem dX5_rootOf_26 : decode cX5_rootOf 26 = .ok (.istore 4, 2) := by decide +kernel
theorem dX5_rootOf_28 : decode cX5_rootOf 28 = .ok (.iload 4, 2) := by decide +kernel
theorem dX5_rootOf_30 : decode cX5_rootOf 30 = .ok (.ifCond .lt 132, 3) := by decide +kernel
theorem dX5_rootOf_33 : decode cX5_rootOf 33 = .ok (.aload_n 0, 1) := by decide +kernel
theorem dX5_rootOf_34 : decode cX5_rootOf 34 = .ok (.bipush 10, 2) := by decide +kernel
theorem dX5_rootOf_36 : decode cX5_rootOf 36 = .ok (.invokevirtual 46, 3) := by decide +kernel
theorem dX5_rootOf_39 : decode cX5_rootOf 39 = .ok (.aload_n 0, 1) := by decide +kernel
theorem dX5_rootOf_40 : decode cX5_rootOf 40 = .ok (.getfield 13, 3) := by decide +kernel
theorem dX5_rootOf_43 : decode cX5_rootOf 43 = .ok (.sipush 1600, 3) := by decide +kernel
theorem dX5_rootOf_46 : decode cX5_rootOf 46 = .ok (.dup2, 1) := by decide +kernel
theorem dX5_rootOf_47 : decode cX5_rootOf 47 = .ok (.iaload, 1) := by decide +kernel
theorem dX5_rootOf_48 : decode cX5_rootOf 48 = .ok (.aload_n 0, 1) := by decide +kernel
theorem dX5_rootOf_49 : decode cX5_rootOf 49 = .ok (.iload_n 1, 1) := by decide +kernel
theorem dX5_rootOf_50 : decode cX5_rootOf 50 = .ok (.iconst 2, 1) := by decide +kernel
theorem dX5_rootOf_51 : decode cX5_rootOf 51 = .ok (.iload 4, 2) := by decide +kernel
theorem dX5_rootOf_53 : decode cX5_rootOf 53 = .ok (.imul, 1) := by decide +kernel
theorem dX5_rootOf_54 : decode cX5_rootOf 54 = .ok (.iconst 1, 1) := by decide +kernel
theorem dX5_rootOf_55 : decode cX5_rootOf 55 = .ok (.iadd, 1) := by decide +kernel
theorem dX5_rootOf_56 : decode cX5_rootOf 56 = .ok (.invokevirtual 71, 3) := by decide +kernel
theorem dX5_rootOf_59 : decode cX5_rootOf 59 = .ok (.iadd, 1) := by decide +kernel
theorem dX5_rootOf_60 : decode cX5_rootOf 60 = .ok (.iastore, 1) := by decide +kernel
theorem dX5_rootOf_61 : decode cX5_rootOf 61 = .ok (.aload_n 0, 1) := by decide +kernel
theorem dX5_rootOf_62 : decode cX5_rootOf 62 = .ok (.bipush 10, 2) := by decide +kernel
theorem dX5_rootOf_64 : decode cX5_rootOf 64 = .ok (.invokevirtual 46, 3) := by decide +kernel
theorem dX5_rootOf_67 : decode cX5_rootOf 67 = .ok (.aload_n 0, 1) := by decide +kernel
theorem dX5_rootOf_68 : decode cX5_rootOf 68 = .ok (.getfield 13, 3) := by decide +kernel
theorem dX5_rootOf_71 : decode cX5_rootOf 71 = .ok (.sipush 1600, 3) := by decide +kernel
theorem dX5_rootOf_74 : decode cX5_rootOf 74 = .ok (.dup2, 1) := by decide +kernel
theorem dX5_rootOf_75 : decode cX5_rootOf 75 = .ok (.iaload, 1) := by decide +kernel
theorem dX5_rootOf_76 : decode cX5_rootOf 76 = .ok (.aload_n 0, 1) := by decide +kernel
theorem dX5_rootOf_77 : decode cX5_rootOf 77 = .ok (.iload_n 1, 1) := by decide +kernel
theorem dX5_rootOf_78 : decode cX5_rootOf 78 = .ok (.iconst 2, 1) := by decide +kernel
theorem dX5_rootOf_79 : decode cX5_rootOf 79 = .ok (.iload 4, 2) := by decide +kernel
theorem dX5_rootOf_81 : decode cX5_rootOf 81 = .ok (.imul, 1) := by decide +kernel
theorem dX5_rootOf_82 : decode cX5_rootOf 82 = .ok (.invokevirtual 71, 3) := by decide +kernel
theorem dX5_rootOf_85 : decode cX5_rootOf 85 = .ok (.iadd, 1) := by decide +kernel
theorem dX5_rootOf_86 : decode cX5_rootOf 86 = .ok (.iastore, 1) := by decide +kernel
theorem dX5_rootOf_87 : decode cX5_rootOf 87 = .ok (.aload_n 0, 1) := by decide +kernel
theorem dX5_rootOf_88 : decode cX5_rootOf 88 = .ok (.bipush 11, 2) := by decide +kernel
theorem dX5_rootOf_90 : decode cX5_rootOf 90 = .ok (.iload_n 2, 1) := by decide +kernel
theorem dX5_rootOf_91 : decode cX5_rootOf 91 = .ok (.invokevirtual 62, 3) := by decide +kernel
theorem dX5_rootOf_94 : decode cX5_rootOf 94 = .ok (.aload_n 0, 1) := by decide +kernel
theorem dX5_rootOf_95 : decode cX5_rootOf 95 = .ok (.bipush 11, 2) := by decide +kernel
theorem dX5_rootOf_97 : decode cX5_rootOf 97 = .ok (.invokevirtual 46, 3) := by decide +kernel
theorem dX5_rootOf_100 : decode cX5_rootOf 100 = .ok (.aload_n 0, 1) := by decide +kernel
theorem dX5_rootOf_101 : decode cX5_rootOf 101 = .ok (.bipush 11, 2) := by decide +kernel
theorem dX5_rootOf_103 : decode cX5_rootOf 103 = .ok (.invokevirtual 46, 3) := by decide +kernel
theorem dX5_rootOf_106 : decode cX5_rootOf 106 = .ok (.aload_n 0, 1) := by decide +kernel
theorem dX5_rootOf_107 : decode cX5_rootOf 107 = .ok (.getfield 13, 3) := by decide +kernel
theorem dX5_rootOf_110 : decode cX5_rootOf 110 = .ok (.sipush 1760, 3) := by decide +kernel
theorem dX5_rootOf_113 : decode cX5_rootOf 113 = .ok (.dup2, 1) := by decide +kernel
theorem dX5_rootOf_114 : decode cX5_rootOf 114 = .ok (.iaload, 1) := by decide +kernel
theorem dX5_rootOf_115 : decode cX5_rootOf 115 = .ok (.iconst 1, 1) := by decide +kernel
theorem dX5_rootOf_116 : decode cX5_rootOf 116 = .ok (.iadd, 1) := by decide +kernel
theorem dX5_rootOf_117 : decode cX5_rootOf 117 = .ok (.iastore, 1) := by decide +kernel
theorem dX5_rootOf_118 : decode cX5_rootOf 118 = .ok (.aload_n 0, 1) := by decide +kernel
theorem dX5_rootOf_119 : decode cX5_rootOf 119 = .ok (.iload_n 2, 1) := by decide +kernel
theorem dX5_rootOf_120 : decode cX5_rootOf 120 = .ok (.invokevirtual 46, 3) := by decide +kernel
theorem dX5_rootOf_123 : decode cX5_rootOf 123 = .ok (.aload_n 0, 1) := by decide +kernel
theorem dX5_rootOf_124 : decode cX5_rootOf 124 = .ok (.bipush 10, 2) := by decide +kernel
theorem dX5_rootOf_126 : decode cX5_rootOf 126 = .ok (.bipush 11, 2) := by decide +kernel
theorem dX5_rootOf_128 : decode cX5_rootOf 128 = .ok (.invokevirtual 50, 3) := by decide +kernel
theorem dX5_rootOf_131 : decode cX5_rootOf 131 = .ok (.ifCond .lt 25, 3) := by decide +kernel
theorem dX5_rootOf_134 : decode cX5_rootOf 134 = .ok (.aload_n 0, 1) := by decide +kernel
theorem dX5_rootOf_135 : decode cX5_rootOf 135 = .ok (.bipush 10, 2) := by decide +kernel
theorem dX5_rootOf_137 : decode cX5_rootOf 137 = .ok (.bipush 11, 2) := by decide +kernel
theorem dX5_rootOf_139 : decode cX5_rootOf 139 = .ok (.invokevirtual 54, 3) := by decide +kernel
theorem dX5_rootOf_142 : decode cX5_rootOf 142 = .ok (.aload_n 0, 1) := by decide +kernel
theorem dX5_rootOf_143 : decode cX5_rootOf 143 = .ok (.getfield 13, 3) := by decide +kernel
theorem dX5_rootOf_146 : decode cX5_rootOf 146 = .ok (.sipush 160, 3) := by decide +kernel
theorem dX5_rootOf_149 : decode cX5_rootOf 149 = .ok (.iload_n 2, 1) := by decide +kernel
theorem dX5_rootOf_150 : decode cX5_rootOf 150 = .ok (.imul, 1) := by decide +kernel
theorem dX5_rootOf_151 : decode cX5_rootOf 151 = .ok (.dup2, 1) := by decide +kernel
theorem dX5_rootOf_152 : decode cX5_rootOf 152 = .ok (.iaload, 1) := by decide +kernel
theorem dX5_rootOf_153 : decode cX5_rootOf 153 = .ok (.iconst 1, 1) := by decide +kernel
theorem dX5_rootOf_154 : decode cX5_rootOf 154 = .ok (.iadd, 1) := by decide +kernel
theorem dX5_rootOf_155 : decode cX5_rootOf 155 = .ok (.iastore, 1) := by decide +kernel
theorem dX5_rootOf_156 : decode cX5_rootOf 156 = .ok (.iinc 4 (-1), 3) := by decide +kernel
theorem dX5_rootOf_159 : decode cX5_rootOf 159 = .ok (.goto (-131), 3) := by decide +kernel
theorem dX5_rootOf_162 : decode cX5_rootOf 162 = .ok (.return_, 1) := by decide +kernel
theorem dX5_bit_0 : decode cX5_bit 0 = .ok (.aload_n 0, 1) := by decide +kernel
theorem dX5_bit_1 : decode cX5_bit 1 = .ok (.getfield 13, 3) := by decide +kernel
theorem dX5_bit_4 : decode cX5_bit 4 = .ok (.sipush 160, 3) := by decide +kernel
theorem dX5_bit_7 : decode cX5_bit 7 = .ok (.iload_n 1, 1) := by decide +kernel
theorem dX5_bit_8 : decode cX5_bit 8 = .ok (.imul, 1) := by decide +kernel
theorem dX5_bit_9 : decode cX5_bit 9 = .ok (.iload_n 2, 1) := by decide +kernel
theorem dX5_bit_10 : decode cX5_bit 10 = .ok (.bipush 15, 2) := by decide +kernel
theorem dX5_bit_12 : decode cX5_bit 12 = .ok (.idiv, 1) := by decide +kernel
theorem dX5_bit_13 : decode cX5_bit 13 = .ok (.iadd, 1) := by decide +kernel
theorem dX5_bit_14 : decode cX5_bit 14 = .ok (.iaload, 1) := by decide +kernel
theorem dX5_bit_15 : decode cX5_bit 15 = .ok (.iload_n 2, 1) := by decide +kernel
theorem dX5_bit_16 : decode cX5_bit 16 = .ok (.bipush 15, 2) := by decide +kernel
theorem dX5_bit_18 : decode cX5_bit 18 = .ok (.irem, 1) := by decide +kernel
theorem dX5_bit_19 : decode cX5_bit 19 = .ok (.ishr, 1) := by decide +kernel
theorem dX5_bit_20 : decode cX5_bit 20 = .ok (.iconst 1, 1) := by decide +kernel
theorem dX5_bit_21 : decode cX5_bit 21 = .ok (.iand, 1) := by decide +kernel
theorem dX5_bit_22 : decode cX5_bit 22 = .ok (.ireturn, 1) := by decide +kernel
theorem dX5_pieces_0 : decode cX5_pieces 0 = .ok (.iconst 1, 1) := by decide +kernel
theorem dX5_pieces_1 : decode cX5_pieces 1 = .ok (.istore_n 2, 1) := by decide +kernel
theorem dX5_pieces_2 : decode cX5_pieces 2 = .ok (.iconst 0, 1) := by decide +kernel
theorem dX5_pieces_3 : decode cX5_pieces 3 = .ok (.istore_n 3, 1) := by decide +kernel
theorem dX5_pieces_4 : decode cX5_pieces 4 = .ok (.iload_n 3, 1) := by decide +kernel
theorem dX5_pieces_5 : decode cX5_pieces 5 = .ok (.bipush 54, 2) := by decide +kernel
theorem dX5_pieces_7 : decode cX5_pieces 7 = .ok (.if_icmp .ge 45, 3) := by decide +kernel
theorem dX5_pieces_10 : decode cX5_pieces 10 = .ok (.aload_n 0, 1) := by decide +kernel
theorem dX5_pieces_11 : decode cX5_pieces 11 = .ok (.getfield 20, 3) := by decide +kernel
theorem dX5_pieces_14 : decode cX5_pieces 14 = .ok (.bipush 54, 2) := by decide +kernel
theorem dX5_pieces_16 : decode cX5_pieces 16 = .ok (.iload_n 1, 1) := by decide +kernel
theorem dX5_pieces_17 : decode cX5_pieces 17 = .ok (.imul, 1) := by decide +kernel
theorem dX5_pieces_18 : decode cX5_pieces 18 = .ok (.iload_n 3, 1) := by decide +kernel
theorem dX5_pieces_19 : decode cX5_pieces 19 = .ok (.iadd, 1) := by decide +kernel
theorem dX5_pieces_20 : decode cX5_pieces 20 = .ok (.iaload, 1) := by decide +kernel
theorem dX5_pieces_21 : decode cX5_pieces 21 = .ok (.ifCond .ne 17, 3) := by decide +kernel
theorem dX5_pieces_24 : decode cX5_pieces 24 = .ok (.aload_n 0, 1) := by decide +kernel
theorem dX5_pieces_25 : decode cX5_pieces 25 = .ok (.getfield 23, 3) := by decide +kernel
theorem dX5_pieces_28 : decode cX5_pieces 28 = .ok (.bipush 54, 2) := by decide +kernel
theorem dX5_pieces_30 : decode cX5_pieces 30 = .ok (.iload_n 1, 1) := by decide +kernel
theorem dX5_pieces_31 : decode cX5_pieces 31 = .ok (.imul, 1) := by decide +kernel
theorem dX5_pieces_32 : decode cX5_pieces 32 = .ok (.iload_n 3, 1) := by decide +kernel
theorem dX5_pieces_33 : decode cX5_pieces 33 = .ok (.iadd, 1) := by decide +kernel
theorem dX5_pieces_34 : decode cX5_pieces 34 = .ok (.iaload, 1) := by decide +kernel
theorem dX5_pieces_35 : decode cX5_pieces 35 = .ok (.ifCond .eq 9, 3) := by decide +kernel
theorem dX5_pieces_38 : decode cX5_pieces 38 = .ok (.iload_n 3, 1) := by decide +kernel
theorem dX5_pieces_39 : decode cX5_pieces 39 = .ok (.iconst 1, 1) := by decide +kernel
theorem dX5_pieces_40 : decode cX5_pieces 40 = .ok (.iadd, 1) := by decide +kernel
theorem dX5_pieces_41 : decode cX5_pieces 41 = .ok (.goto 4, 3) := by decide +kernel
theorem dX5_pieces_44 : decode cX5_pieces 44 = .ok (.iload_n 2, 1) := by decide +kernel
theorem dX5_pieces_45 : decode cX5_pieces 45 = .ok (.istore_n 2, 1) := by decide +kernel
theorem dX5_pieces_46 : decode cX5_pieces 46 = .ok (.iinc 3 1, 3) := by decide +kernel
theorem dX5_pieces_49 : decode cX5_pieces 49 = .ok (.goto (-45), 3) := by decide +kernel
theorem dX5_pieces_52 : decode cX5_pieces 52 = .ok (.iload_n 2, 1) := by decide +kernel
theorem dX5_pieces_53 : decode cX5_pieces 53 = .ok (.ireturn, 1) := by decide +kernel
theorem dX5_need_0 : decode cX5_need 0 = .ok (.iconst 2, 1) := by decide +kernel
theorem dX5_need_1 : decode cX5_need 1 = .ok (.aload_n 0, 1) := by decide +kernel
theorem dX5_need_2 : decode cX5_need 2 = .ok (.iload_n 1, 1) := by decide +kernel
theorem dX5_need_3 : decode cX5_need 3 = .ok (.invokevirtual 74, 3) := by decide +kernel
theorem dX5_need_6 : decode cX5_need 6 = .ok (.imul, 1) := by decide +kernel
theorem dX5_need_7 : decode cX5_need 7 = .ok (.iconst 2, 1) := by decide +kernel
theorem dX5_need_8 : decode cX5_need 8 = .ok (.aload_n 0, 1) := by decide +kernel
theorem dX5_need_9 : decode cX5_need 9 = .ok (.iload_n 2, 1) := by decide +kernel
theorem dX5_need_10 : decode cX5_need 10 = .ok (.invokevirtual 74, 3) := by decide +kernel
theorem dX5_need_13 : decode cX5_need 13 = .ok (.imul, 1) := by decide +kernel
theorem dX5_need_14 : decode cX5_need 14 = .ok (.iadd, 1) := by decide +kernel
theorem dX5_need_15 : decode cX5_need 15 = .ok (.iload_n 3, 1) := by decide +kernel
theorem dX5_need_16 : decode cX5_need 16 = .ok (.iadd, 1) := by decide +kernel
theorem dX5_need_17 : decode cX5_need 17 = .ok (.istore 4, 2) := by decide +kernel
theorem dX5_need_19 : decode cX5_need 19 = .ok (.aload_n 0, 1) := by decide +kernel
theorem dX5_need_20 : decode cX5_need 20 = .ok (.iload 4, 2) := by decide +kernel
theorem dX5_need_22 : decode cX5_need 22 = .ok (.sipush 160, 3) := by decide +kernel
theorem dX5_need_25 : decode cX5_need 25 = .ok (.if_icmp .ge 8, 3) := by decide +kernel
theorem dX5_need_28 : decode cX5_need 28 = .ok (.iload 4, 2) := by decide +kernel
theorem dX5_need_30 : decode cX5_need 30 = .ok (.goto 6, 3) := by decide +kernel
theorem dX5_need_33 : decode cX5_need 33 = .ok (.sipush 160, 3) := by decide +kernel
theorem dX5_need_36 : decode cX5_need 36 = .ok (.putfield 9, 3) := by decide +kernel
theorem dX5_need_39 : decode cX5_need 39 = .ok (.return_, 1) := by decide +kernel
theorem dX5_take_0 : decode cX5_take 0 = .ok (.aload_n 0, 1) := by decide +kernel
theorem dX5_take_1 : decode cX5_take 1 = .ok (.iload_n 2, 1) := by decide +kernel
theorem dX5_take_2 : decode cX5_take 2 = .ok (.lconst 0, 1) := by decide +kernel
theorem dX5_take_3 : decode cX5_take 3 = .ok (.invokevirtual 36, 3) := by decide +kernel
theorem dX5_take_6 : decode cX5_take 6 = .ok (.aload_n 0, 1) := by decide +kernel
theorem dX5_take_7 : decode cX5_take 7 = .ok (.iload_n 3, 1) := by decide +kernel
theorem dX5_take_8 : decode cX5_take 8 = .ok (.lconst 0, 1) := by decide +kernel
theorem dX5_take_9 : decode cX5_take 9 = .ok (.invokevirtual 36, 3) := by decide +kernel
theorem dX5_take_12 : decode cX5_take 12 = .ok (.iconst 0, 1) := by decide +kernel
theorem dX5_take_13 : decode cX5_take 13 = .ok (.istore 4, 2) := by decide +kernel
theorem dX5_take_15 : decode cX5_take 15 = .ok (.iload 4, 2) := by decide +kernel
theorem dX5_take_17 : decode cX5_take 17 = .ok (.bipush 54, 2) := by decide +kernel
theorem dX5_take_19 : decode cX5_take 19 = .ok (.if_icmp .ge 59, 3) := by decide +kernel
theorem dX5_take_22 : decode cX5_take 22 = .ok (.aload_n 0, 1) := by decide +kernel
theorem dX5_take_23 : decode cX5_take 23 = .ok (.getfield 13, 3) := by decide +kernel
theorem dX5_take_26 : decode cX5_take 26 = .ok (.sipush 160, 3) := by decide +kernel
theorem dX5_take_29 : decode cX5_take 29 = .ok (.iload_n 2, 1) := by decide +kernel
theorem dX5_take_30 : decode cX5_take 30 = .ok (.imul, 1) := by decide +kernel
theorem dX5_take_31 : decode cX5_take 31 = .ok (.iload 4, 2) := by decide +kernel
theorem dX5_take_33 : decode cX5_take 33 = .ok (.iadd, 1) := by decide +kernel
theorem dX5_take_34 : decode cX5_take 34 = .ok (.aload_n 0, 1) := by decide +kernel
theorem dX5_take_35 : decode cX5_take 35 = .ok (.getfield 20, 3) := by decide +kernel
theorem dX5_take_38 : decode cX5_take 38 = .ok (.bipush 54, 2) := by decide +kernel
theorem dX5_take_40 : decode cX5_take 40 = .ok (.iload_n 1, 1) := by decide +kernel
theorem dX5_take_41 : decode cX5_take 41 = .ok (.imul, 1) := by decide +kernel
theorem dX5_take_42 : decode cX5_take 42 = .ok (.iload 4, 2) := by decide +kernel
theorem dX5_take_44 : decode cX5_take 44 = .ok (.iadd, 1) := by decide +kernel
theorem dX5_take_45 : decode cX5_take 45 = .ok (.iaload, 1) := by decide +kernel
theorem dX5_take_46 : decode cX5_take 46 = .ok (.iastore, 1) := by decide +kernel
theorem dX5_take_47 : decode cX5_take 47 = .ok (.aload_n 0, 1) := by decide +kernel
theorem dX5_take_48 : decode cX5_take 48 = .ok (.getfield 13, 3) := by decide +kernel
theorem dX5_take_51 : decode cX5_take 51 = .ok (.sipush 160, 3) := by decide +kernel
theorem dX5_take_54 : decode cX5_take 54 = .ok (.iload_n 3, 1) := by decide +kernel
theorem dX5_take_55 : decode cX5_take 55 = .ok (.imul, 1) := by decide +kernel
theorem dX5_take_56 : decode cX5_take 56 = .ok (.iload 4, 2) := by decide +kernel
theorem dX5_take_58 : decode cX5_take 58 = .ok (.iadd, 1) := by decide +kernel
theorem dX5_take_59 : decode cX5_take 59 = .ok (.aload_n 0, 1) := by decide +kernel
theorem dX5_take_60 : decode cX5_take 60 = .ok (.getfield 23, 3) := by decide +kernel
theorem dX5_take_63 : decode cX5_take 63 = .ok (.bipush 54, 2) := by decide +kernel
theorem dX5_take_65 : decode cX5_take 65 = .ok (.iload_n 1, 1) := by decide +kernel
theorem dX5_take_66 : decode cX5_take 66 = .ok (.imul, 1) := by decide +kernel
theorem dX5_take_67 : decode cX5_take 67 = .ok (.iload 4, 2) := by decide +kernel
theorem dX5_take_69 : decode cX5_take 69 = .ok (.iadd, 1) := by decide +kernel
theorem dX5_take_70 : decode cX5_take 70 = .ok (.iaload, 1) := by decide +kernel
theorem dX5_take_71 : decode cX5_take 71 = .ok (.iastore, 1) := by decide +kernel
theorem dX5_take_72 : decode cX5_take 72 = .ok (.iinc 4 1, 3) := by decide +kernel
theorem dX5_take_75 : decode cX5_take 75 = .ok (.goto (-60), 3) := by decide +kernel
theorem dX5_take_78 : decode cX5_take 78 = .ok (.return_, 1) := by decide +kernel
theorem dX5_make_0 : decode cX5_make 0 = .ok (.aload_n 0, 1) := by decide +kernel
theorem dX5_make_1 : decode cX5_make 1 = .ok (.bipush 6, 2) := by decide +kernel
theorem dX5_make_3 : decode cX5_make 3 = .ok (.iload_n 2, 1) := by decide +kernel
theorem dX5_make_4 : decode cX5_make 4 = .ok (.invokevirtual 62, 3) := by decide +kernel
theorem dX5_make_7 : decode cX5_make 7 = .ok (.aload_n 0, 1) := by decide +kernel
theorem dX5_make_8 : decode cX5_make 8 = .ok (.bipush 7, 2) := by decide +kernel
theorem dX5_make_10 : decode cX5_make 10 = .ok (.iload_n 3, 1) := by decide +kernel
theorem dX5_make_11 : decode cX5_make 11 = .ok (.invokevirtual 62, 3) := by decide +kernel
theorem dX5_make_14 : decode cX5_make 14 = .ok (.aload_n 0, 1) := by decide +kernel
theorem dX5_make_15 : decode cX5_make 15 = .ok (.bipush 6, 2) := by decide +kernel
theorem dX5_make_17 : decode cX5_make 17 = .ok (.bipush 7, 2) := by decide +kernel
theorem dX5_make_19 : decode cX5_make 19 = .ok (.invokevirtual 77, 3) := by decide +kernel
theorem dX5_make_22 : decode cX5_make 22 = .ok (.aload_n 0, 1) := by decide +kernel
theorem dX5_make_23 : decode cX5_make 23 = .ok (.iload_n 2, 1) := by decide +kernel
theorem dX5_make_24 : decode cX5_make 24 = .ok (.bipush 6, 2) := by decide +kernel
theorem dX5_make_26 : decode cX5_make 26 = .ok (.bipush 8, 2) := by decide +kernel
theorem dX5_make_28 : decode cX5_make 28 = .ok (.bipush 9, 2) := by decide +kernel
theorem dX5_make_30 : decode cX5_make 30 = .ok (.invokevirtual 80, 3) := by decide +kernel
theorem dX5_make_33 : decode cX5_make 33 = .ok (.aload_n 0, 1) := by decide +kernel
theorem dX5_make_34 : decode cX5_make 34 = .ok (.iload_n 3, 1) := by decide +kernel
theorem dX5_make_35 : decode cX5_make 35 = .ok (.bipush 6, 2) := by decide +kernel
theorem dX5_make_37 : decode cX5_make 37 = .ok (.bipush 7, 2) := by decide +kernel
theorem dX5_make_39 : decode cX5_make 39 = .ok (.bipush 9, 2) := by decide +kernel
theorem dX5_make_41 : decode cX5_make 41 = .ok (.invokevirtual 80, 3) := by decide +kernel
theorem dX5_make_44 : decode cX5_make 44 = .ok (.aload_n 0, 1) := by decide +kernel
theorem dX5_make_45 : decode cX5_make 45 = .ok (.bipush 8, 2) := by decide +kernel
theorem dX5_make_47 : decode cX5_make 47 = .ok (.invokevirtual 42, 3) := by decide +kernel
theorem dX5_make_50 : decode cX5_make 50 = .ok (.sipush 800, 3) := by decide +kernel
theorem dX5_make_53 : decode cX5_make 53 = .ok (.if_icmp .gt 25, 3) := by decide +kernel
theorem dX5_make_56 : decode cX5_make 56 = .ok (.aload_n 0, 1) := by decide +kernel
theorem dX5_make_57 : decode cX5_make 57 = .ok (.bipush 7, 2) := by decide +kernel
theorem dX5_make_59 : decode cX5_make 59 = .ok (.invokevirtual 42, 3) := by decide +kernel
theorem dX5_make_62 : decode cX5_make 62 = .ok (.sipush 800, 3) := by decide +kernel
theorem dX5_make_65 : decode cX5_make 65 = .ok (.if_icmp .gt 13, 3) := by decide +kernel
theorem dX5_make_68 : decode cX5_make 68 = .ok (.aload_n 0, 1) := by decide +kernel
theorem dX5_make_69 : decode cX5_make 69 = .ok (.getfield 84, 3) := by decide +kernel
theorem dX5_make_72 : decode cX5_make 72 = .ok (.sipush 150, 3) := by decide +kernel
theorem dX5_make_75 : decode cX5_make 75 = .ok (.if_icmp .ne 5, 3) := by decide +kernel
theorem dX5_make_78 : decode cX5_make 78 = .ok (.iconst (-1), 1) := by decide +kernel
theorem dX5_make_79 : decode cX5_make 79 = .ok (.ireturn, 1) := by decide +kernel
theorem dX5_make_80 : decode cX5_make 80 = .ok (.aload_n 0, 1) := by decide +kernel
theorem dX5_make_81 : decode cX5_make 81 = .ok (.getfield 17, 3) := by decide +kernel
theorem dX5_make_84 : decode cX5_make 84 = .ok (.aload_n 0, 1) := by decide +kernel
theorem dX5_make_85 : decode cX5_make 85 = .ok (.getfield 84, 3) := by decide +kernel
theorem dX5_make_88 : decode cX5_make 88 = .ok (.aload_n 0, 1) := by decide +kernel
theorem dX5_make_89 : decode cX5_make 89 = .ok (.bipush 8, 2) := by decide +kernel
theorem dX5_make_91 : decode cX5_make 91 = .ok (.invokevirtual 58, 3) := by decide +kernel
theorem dX5_make_94 : decode cX5_make 94 = .ok (.ifCond .eq 7, 3) := by decide +kernel
theorem dX5_make_97 : decode cX5_make 97 = .ok (.iconst 0, 1) := by decide +kernel
theorem dX5_make_98 : decode cX5_make 98 = .ok (.goto 4, 3) := by decide +kernel
theorem dX5_make_101 : decode cX5_make 101 = .ok (.iload_n 1, 1) := by decide +kernel
theorem dX5_make_102 : decode cX5_make 102 = .ok (.iastore, 1) := by decide +kernel
theorem dX5_make_103 : decode cX5_make 103 = .ok (.iconst 0, 1) := by decide +kernel
theorem dX5_make_104 : decode cX5_make 104 = .ok (.istore 4, 2) := by decide +kernel
theorem dX5_make_106 : decode cX5_make 106 = .ok (.iload 4, 2) := by decide +kernel
theorem dX5_make_108 : decode cX5_make 108 = .ok (.bipush 54, 2) := by decide +kernel
theorem dX5_make_110 : decode cX5_make 110 = .ok (.if_icmp .ge 61, 3) := by decide +kernel
theorem dX5_make_113 : decode cX5_make 113 = .ok (.aload_n 0, 1) := by decide +kernel
theorem dX5_make_114 : decode cX5_make 114 = .ok (.getfield 20, 3) := by decide +kernel
theorem dX5_make_117 : decode cX5_make 117 = .ok (.bipush 54, 2) := by decide +kernel
theorem dX5_make_119 : decode cX5_make 119 = .ok (.aload_n 0, 1) := by decide +kernel
theorem dX5_make_120 : decode cX5_make 120 = .ok (.getfield 84, 3) := by decide +kernel
theorem dX5_make_123 : decode cX5_make 123 = .ok (.imul, 1) := by decide +kernel
theorem dX5_make_124 : decode cX5_make 124 = .ok (.iload 4, 2) := by decide +kernel
theorem dX5_make_126 : decode cX5_make 126 = .ok (.iadd, 1) := by decide +kernel
theorem dX5_make_127 : decode cX5_make 127 = .ok (.aload_n 0, 1) := by decide +kernel
theorem dX5_make_128 : decode cX5_make 128 = .ok (.getfield 13, 3) := by decide +kernel
theorem dX5_make_131 : decode cX5_make 131 = .ok (.sipush 1280, 3) := by decide +kernel
theorem dX5_make_134 : decode cX5_make 134 = .ok (.iload 4, 2) := by decide +kernel
theorem dX5_make_136 : decode cX5_make 136 = .ok (.iadd, 1) := by decide +kernel
theorem dX5_make_137 : decode cX5_make 137 = .ok (.iaload, 1) := by decide +kernel
theorem dX5_make_138 : decode cX5_make 138 = .ok (.iastore, 1) := by decide +kernel
theorem dX5_make_139 : decode cX5_make 139 = .ok (.aload_n 0, 1) := by decide +kernel
theorem dX5_make_140 : decode cX5_make 140 = .ok (.getfield 23, 3) := by decide +kernel
theorem dX5_make_143 : decode cX5_make 143 = .ok (.bipush 54, 2) := by decide +kernel
theorem dX5_make_145 : decode cX5_make 145 = .ok (.aload_n 0, 1) := by decide +kernel
theorem dX5_make_146 : decode cX5_make 146 = .ok (.getfield 84, 3) := by decide +kernel
theorem dX5_make_149 : decode cX5_make 149 = .ok (.imul, 1) := by decide +kernel
theorem dX5_make_150 : decode cX5_make 150 = .ok (.iload 4, 2) := by decide +kernel
theorem dX5_make_152 : decode cX5_make 152 = .ok (.iadd, 1) := by decide +kernel
theorem dX5_make_153 : decode cX5_make 153 = .ok (.aload_n 0, 1) := by decide +kernel
theorem dX5_make_154 : decode cX5_make 154 = .ok (.getfield 13, 3) := by decide +kernel
theorem dX5_make_157 : decode cX5_make 157 = .ok (.sipush 1120, 3) := by decide +kernel
theorem dX5_make_160 : decode cX5_make 160 = .ok (.iload 4, 2) := by decide +kernel
theorem dX5_make_162 : decode cX5_make 162 = .ok (.iadd, 1) := by decide +kernel
theorem dX5_make_163 : decode cX5_make 163 = .ok (.iaload, 1) := by decide +kernel
theorem dX5_make_164 : decode cX5_make 164 = .ok (.iastore, 1) := by decide +kernel
theorem dX5_make_165 : decode cX5_make 165 = .ok (.iinc 4 1, 3) := by decide +kernel
theorem dX5_make_168 : decode cX5_make 168 = .ok (.goto (-62), 3) := by decide +kernel
theorem dX5_make_171 : decode cX5_make 171 = .ok (.aload_n 0, 1) := by decide +kernel
theorem dX5_make_172 : decode cX5_make 172 = .ok (.dup, 1) := by decide +kernel
theorem dX5_make_173 : decode cX5_make 173 = .ok (.getfield 84, 3) := by decide +kernel
theorem dX5_make_176 : decode cX5_make 176 = .ok (.iconst 1, 1) := by decide +kernel
theorem dX5_make_177 : decode cX5_make 177 = .ok (.iadd, 1) := by decide +kernel
theorem dX5_make_178 : decode cX5_make 178 = .ok (.putfield 84, 3) := by decide +kernel
theorem dX5_make_181 : decode cX5_make 181 = .ok (.aload_n 0, 1) := by decide +kernel
theorem dX5_make_182 : decode cX5_make 182 = .ok (.getfield 84, 3) := by decide +kernel
theorem dX5_make_185 : decode cX5_make 185 = .ok (.iconst 1, 1) := by decide +kernel
theorem dX5_make_186 : decode cX5_make 186 = .ok (.isub, 1) := by decide +kernel
theorem dX5_make_187 : decode cX5_make 187 = .ok (.ireturn, 1) := by decide +kernel
theorem dX5_noValue_0 : decode cX5_noValue 0 = .ok (.iload_n 0, 1) := by decide +kernel
theorem dX5_noValue_1 : decode cX5_noValue 1 = .ok (.ifCond .lt 10, 3) := by decide +kernel
theorem dX5_noValue_4 : decode cX5_noValue 4 = .ok (.iload_n 0, 1) := by decide +kernel
theorem dX5_noValue_5 : decode cX5_noValue 5 = .ok (.sipush 150, 3) := by decide +kernel
theorem dX5_noValue_8 : decode cX5_noValue 8 = .ok (.if_icmp .lt 7, 3) := by decide +kernel
theorem dX5_noValue_11 : decode cX5_noValue 11 = .ok (.iconst 1, 1) := by decide +kernel
theorem dX5_noValue_12 : decode cX5_noValue 12 = .ok (.goto 4, 3) := by decide +kernel
theorem dX5_noValue_15 : decode cX5_noValue 15 = .ok (.iconst 0, 1) := by decide +kernel
theorem dX5_noValue_16 : decode cX5_noValue 16 = .ok (.ireturn, 1) := by decide +kernel
theorem dX5_value_0 : decode cX5_value 0 = .ok (.aload_n 0, 1) := by decide +kernel
theorem dX5_value_1 : decode cX5_value 1 = .ok (.lload_n 3, 1) := by decide +kernel
theorem dX5_value_2 : decode cX5_value 2 = .ok (.lconst 0, 1) := by decide +kernel
theorem dX5_value_3 : decode cX5_value 3 = .ok (.lcmp, 1) := by decide +kernel
theorem dX5_value_4 : decode cX5_value 4 = .ok (.ifCond .ne 7, 3) := by decide +kernel
theorem dX5_value_7 : decode cX5_value 7 = .ok (.iconst 1, 1) := by decide +kernel
theorem dX5_value_8 : decode cX5_value 8 = .ok (.goto 4, 3) := by decide +kernel
theorem dX5_value_11 : decode cX5_value 11 = .ok (.iconst 0, 1) := by decide +kernel
theorem dX5_value_12 : decode cX5_value 12 = .ok (.putfield 33, 3) := by decide +kernel
theorem dX5_value_15 : decode cX5_value 15 = .ok (.aload_n 0, 1) := by decide +kernel
theorem dX5_value_16 : decode cX5_value 16 = .ok (.getfield 33, 3) := by decide +kernel
theorem dX5_value_19 : decode cX5_value 19 = .ok (.ifCond .le 5, 3) := by decide +kernel
theorem dX5_value_22 : decode cX5_value 22 = .ok (.iconst 0, 1) := by decide +kernel
theorem dX5_value_23 : decode cX5_value 23 = .ok (.ireturn, 1) := by decide +kernel
theorem dX5_value_24 : decode cX5_value 24 = .ok (.aload_n 0, 1) := by decide +kernel
theorem dX5_value_25 : decode cX5_value 25 = .ok (.bipush 24, 2) := by decide +kernel
theorem dX5_value_27 : decode cX5_value 27 = .ok (.putfield 9, 3) := by decide +kernel
theorem dX5_value_30 : decode cX5_value 30 = .ok (.aload_n 0, 1) := by decide +kernel
theorem dX5_value_31 : decode cX5_value 31 = .ok (.iconst 0, 1) := by decide +kernel
theorem dX5_value_32 : decode cX5_value 32 = .ok (.lload_n 1, 1) := by decide +kernel
theorem dX5_value_33 : decode cX5_value 33 = .ok (.lconst 0, 1) := by decide +kernel
theorem dX5_value_34 : decode cX5_value 34 = .ok (.lcmp, 1) := by decide +kernel
theorem dX5_value_35 : decode cX5_value 35 = .ok (.ifCond .ge 8, 3) := by decide +kernel
theorem dX5_value_38 : decode cX5_value 38 = .ok (.lload_n 1, 1) := by decide +kernel
theorem dX5_value_39 : decode cX5_value 39 = .ok (.lneg, 1) := by decide +kernel
theorem dX5_value_40 : decode cX5_value 40 = .ok (.goto 4, 3) := by decide +kernel
theorem dX5_value_43 : decode cX5_value 43 = .ok (.lload_n 1, 1) := by decide +kernel
theorem dX5_value_44 : decode cX5_value 44 = .ok (.invokevirtual 36, 3) := by decide +kernel
theorem dX5_value_47 : decode cX5_value 47 = .ok (.aload_n 0, 1) := by decide +kernel
theorem dX5_value_48 : decode cX5_value 48 = .ok (.iconst 1, 1) := by decide +kernel
theorem dX5_value_49 : decode cX5_value 49 = .ok (.lload_n 3, 1) := by decide +kernel
theorem dX5_value_50 : decode cX5_value 50 = .ok (.lconst 0, 1) := by decide +kernel
theorem dX5_value_51 : decode cX5_value 51 = .ok (.lcmp, 1) := by decide +kernel
theorem dX5_value_52 : decode cX5_value 52 = .ok (.ifCond .ge 8, 3) := by decide +kernel
theorem dX5_value_55 : decode cX5_value 55 = .ok (.lload_n 3, 1) := by decide +kernel
theorem dX5_value_56 : decode cX5_value 56 = .ok (.lneg, 1) := by decide +kernel
theorem dX5_value_57 : decode cX5_value 57 = .ok (.goto 4, 3) := by decide +kernel
theorem dX5_value_60 : decode cX5_value 60 = .ok (.lload_n 3, 1) := by decide +kernel
theorem dX5_value_61 : decode cX5_value 61 = .ok (.invokevirtual 36, 3) := by decide +kernel
theorem dX5_value_64 : decode cX5_value 64 = .ok (.aload_n 0, 1) := by decide +kernel
theorem dX5_value_65 : decode cX5_value 65 = .ok (.lload_n 1, 1) := by decide +kernel
theorem dX5_value_66 : decode cX5_value 66 = .ok (.lconst 0, 1) := by decide +kernel
theorem dX5_value_67 : decode cX5_value 67 = .ok (.lcmp, 1) := by decide +kernel
theorem dX5_value_68 : decode cX5_value 68 = .ok (.ifCond .ge 7, 3) := by decide +kernel
theorem dX5_value_71 : decode cX5_value 71 = .ok (.iconst 1, 1) := by decide +kernel
theorem dX5_value_72 : decode cX5_value 72 = .ok (.goto 4, 3) := by decide +kernel
theorem dX5_value_75 : decode cX5_value 75 = .ok (.iconst 0, 1) := by decide +kernel
theorem dX5_value_76 : decode cX5_value 76 = .ok (.lload_n 3, 1) := by decide +kernel
theorem dX5_value_77 : decode cX5_value 77 = .ok (.lconst 0, 1) := by decide +kernel
theorem dX5_value_78 : decode cX5_value 78 = .ok (.lcmp, 1) := by decide +kernel
theorem dX5_value_79 : decode cX5_value 79 = .ok (.ifCond .ge 7, 3) := by decide +kernel
theorem dX5_value_82 : decode cX5_value 82 = .ok (.iconst 1, 1) := by decide +kernel
theorem dX5_value_83 : decode cX5_value 83 = .ok (.goto 4, 3) := by decide +kernel
theorem dX5_value_86 : decode cX5_value 86 = .ok (.iconst 0, 1) := by decide +kernel
theorem dX5_value_87 : decode cX5_value 87 = .ok (.if_icmp .ne 7, 3) := by decide +kernel
theorem dX5_value_90 : decode cX5_value 90 = .ok (.iconst 1, 1) := by decide +kernel
theorem dX5_value_91 : decode cX5_value 91 = .ok (.goto 4, 3) := by decide +kernel
theorem dX5_value_94 : decode cX5_value 94 = .ok (.iconst (-1), 1) := by decide +kernel
theorem dX5_value_95 : decode cX5_value 95 = .ok (.iconst 0, 1) := by decide +kernel
theorem dX5_value_96 : decode cX5_value 96 = .ok (.iconst 1, 1) := by decide +kernel
theorem dX5_value_97 : decode cX5_value 97 = .ok (.invokevirtual 87, 3) := by decide +kernel
theorem dX5_value_100 : decode cX5_value 100 = .ok (.ireturn, 1) := by decide +kernel
theorem dX5_add_0 : decode cX5_add 0 = .ok (.aload_n 0, 1) := by decide +kernel
theorem dX5_add_1 : decode cX5_add 1 = .ok (.iload_n 1, 1) := by decide +kernel
theorem dX5_add_2 : decode cX5_add 2 = .ok (.invokestatic 91, 3) := by decide +kernel
theorem dX5_add_5 : decode cX5_add 5 = .ok (.ifCond .ne 10, 3) := by decide +kernel
theorem dX5_add_8 : decode cX5_add 8 = .ok (.iload_n 2, 1) := by decide +kernel
theorem dX5_add_9 : decode cX5_add 9 = .ok (.invokestatic 91, 3) := by decide +kernel
theorem dX5_add_12 : decode cX5_add 12 = .ok (.ifCond .eq 7, 3) := by decide +kernel
theorem dX5_add_15 : decode cX5_add 15 = .ok (.iconst 1, 1) := by decide +kernel
theorem dX5_add_16 : decode cX5_add 16 = .ok (.goto 4, 3) := by decide +kernel
theorem dX5_add_19 : decode cX5_add 19 = .ok (.iconst 0, 1) := by decide +kernel
theorem dX5_add_20 : decode cX5_add 20 = .ok (.putfield 33, 3) := by decide +kernel
theorem dX5_add_23 : decode cX5_add 23 = .ok (.aload_n 0, 1) := by decide +kernel
theorem dX5_add_24 : decode cX5_add 24 = .ok (.getfield 33, 3) := by decide +kernel
theorem dX5_add_27 : decode cX5_add 27 = .ok (.ifCond .le 5, 3) := by decide +kernel
theorem dX5_add_30 : decode cX5_add 30 = .ok (.iconst 0, 1) := by decide +kernel
theorem dX5_add_31 : decode cX5_add 31 = .ok (.ireturn, 1) := by decide +kernel
theorem dX5_add_32 : decode cX5_add 32 = .ok (.aload_n 0, 1) := by decide +kernel
theorem dX5_add_33 : decode cX5_add 33 = .ok (.iload_n 1, 1) := by decide +kernel
theorem dX5_add_34 : decode cX5_add 34 = .ok (.iload_n 2, 1) := by decide +kernel
theorem dX5_add_35 : decode cX5_add 35 = .ok (.iconst 4, 1) := by decide +kernel
theorem dX5_add_36 : decode cX5_add 36 = .ok (.invokevirtual 94, 3) := by decide +kernel
theorem dX5_add_39 : decode cX5_add 39 = .ok (.aload_n 0, 1) := by decide +kernel
theorem dX5_add_40 : decode cX5_add 40 = .ok (.iload_n 1, 1) := by decide +kernel
theorem dX5_add_41 : decode cX5_add 41 = .ok (.iconst 0, 1) := by decide +kernel
theorem dX5_add_42 : decode cX5_add 42 = .ok (.iconst 1, 1) := by decide +kernel
theorem dX5_add_43 : decode cX5_add 43 = .ok (.invokevirtual 98, 3) := by decide +kernel
theorem dX5_add_46 : decode cX5_add 46 = .ok (.aload_n 0, 1) := by decide +kernel
theorem dX5_add_47 : decode cX5_add 47 = .ok (.iload_n 2, 1) := by decide +kernel
theorem dX5_add_48 : decode cX5_add 48 = .ok (.iconst 2, 1) := by decide +kernel
theorem dX5_add_49 : decode cX5_add 49 = .ok (.iconst 3, 1) := by decide +kernel
theorem dX5_add_50 : decode cX5_add 50 = .ok (.invokevirtual 98, 3) := by decide +kernel
theorem dX5_add_53 : decode cX5_add 53 = .ok (.aload_n 0, 1) := by decide +kernel
theorem dX5_add_54 : decode cX5_add 54 = .ok (.iconst 0, 1) := by decide +kernel
theorem dX5_add_55 : decode cX5_add 55 = .ok (.iconst 3, 1) := by decide +kernel
theorem dX5_add_56 : decode cX5_add 56 = .ok (.iconst 4, 1) := by decide +kernel
theorem dX5_add_57 : decode cX5_add 57 = .ok (.invokevirtual 101, 3) := by decide +kernel
theorem dX5_add_60 : decode cX5_add 60 = .ok (.aload_n 0, 1) := by decide +kernel
theorem dX5_add_61 : decode cX5_add 61 = .ok (.iconst 2, 1) := by decide +kernel
theorem dX5_add_62 : decode cX5_add 62 = .ok (.iconst 1, 1) := by decide +kernel
theorem dX5_add_63 : decode cX5_add 63 = .ok (.iconst 5, 1) := by decide +kernel
theorem dX5_add_64 : decode cX5_add 64 = .ok (.invokevirtual 101, 3) := by decide +kernel
theorem dX5_add_67 : decode cX5_add 67 = .ok (.aload_n 0, 1) := by decide +kernel
theorem dX5_add_68 : decode cX5_add 68 = .ok (.iconst 1, 1) := by decide +kernel
theorem dX5_add_69 : decode cX5_add 69 = .ok (.iconst 3, 1) := by decide +kernel
theorem dX5_add_70 : decode cX5_add 70 = .ok (.iconst 2, 1) := by decide +kernel
theorem dX5_add_71 : decode cX5_add 71 = .ok (.invokevirtual 101, 3) := by decide +kernel
theorem dX5_add_74 : decode cX5_add 74 = .ok (.aload_n 0, 1) := by decide +kernel
theorem dX5_add_75 : decode cX5_add 75 = .ok (.getfield 17, 3) := by decide +kernel
theorem dX5_add_78 : decode cX5_add 78 = .ok (.iload_n 1, 1) := by decide +kernel
theorem dX5_add_79 : decode cX5_add 79 = .ok (.iaload, 1) := by decide +kernel
theorem dX5_add_80 : decode cX5_add 80 = .ok (.istore_n 3, 1) := by decide +kernel
theorem dX5_add_81 : decode cX5_add 81 = .ok (.aload_n 0, 1) := by decide +kernel
theorem dX5_add_82 : decode cX5_add 82 = .ok (.getfield 17, 3) := by decide +kernel
theorem dX5_add_85 : decode cX5_add 85 = .ok (.iload_n 1, 1) := by decide +kernel
theorem dX5_add_86 : decode cX5_add 86 = .ok (.iaload, 1) := by decide +kernel
theorem dX5_add_87 : decode cX5_add 87 = .ok (.aload_n 0, 1) := by decide +kernel
theorem dX5_add_88 : decode cX5_add 88 = .ok (.getfield 17, 3) := by decide +kernel
theorem dX5_add_91 : decode cX5_add 91 = .ok (.iload_n 2, 1) := by decide +kernel
theorem dX5_add_92 : decode cX5_add 92 = .ok (.iaload, 1) := by decide +kernel
theorem dX5_add_93 : decode cX5_add 93 = .ok (.imul, 1) := by decide +kernel
theorem dX5_add_94 : decode cX5_add 94 = .ok (.ifCond .lt 27, 3) := by decide +kernel
theorem dX5_add_97 : decode cX5_add 97 = .ok (.aload_n 0, 1) := by decide +kernel
theorem dX5_add_98 : decode cX5_add 98 = .ok (.iconst 4, 1) := by decide +kernel
theorem dX5_add_99 : decode cX5_add 99 = .ok (.iconst 5, 1) := by decide +kernel
theorem dX5_add_100 : decode cX5_add 100 = .ok (.invokevirtual 104, 3) := by decide +kernel
theorem dX5_add_103 : decode cX5_add 103 = .ok (.iload_n 3, 1) := by decide +kernel
theorem dX5_add_104 : decode cX5_add 104 = .ok (.ifCond .ne 12, 3) := by decide +kernel
theorem dX5_add_107 : decode cX5_add 107 = .ok (.aload_n 0, 1) := by decide +kernel
theorem dX5_add_108 : decode cX5_add 108 = .ok (.getfield 17, 3) := by decide +kernel
theorem dX5_add_111 : decode cX5_add 111 = .ok (.iload_n 2, 1) := by decide +kernel
theorem dX5_add_112 : decode cX5_add 112 = .ok (.iaload, 1) := by decide +kernel
theorem dX5_add_113 : decode cX5_add 113 = .ok (.goto 4, 3) := by decide +kernel
theorem dX5_add_116 : decode cX5_add 116 = .ok (.iload_n 3, 1) := by decide +kernel
theorem dX5_add_117 : decode cX5_add 117 = .ok (.istore_n 3, 1) := by decide +kernel
theorem dX5_add_118 : decode cX5_add 118 = .ok (.goto 40, 3) := by decide +kernel
theorem dX5_add_121 : decode cX5_add 121 = .ok (.aload_n 0, 1) := by decide +kernel
theorem dX5_add_122 : decode cX5_add 122 = .ok (.iconst 4, 1) := by decide +kernel
theorem dX5_add_123 : decode cX5_add 123 = .ok (.iconst 5, 1) := by decide +kernel
theorem dX5_add_124 : decode cX5_add 124 = .ok (.invokevirtual 50, 3) := by decide +kernel
theorem dX5_add_127 : decode cX5_add 127 = .ok (.ifCond .lt 12, 3) := by decide +kernel
theorem dX5_add_130 : decode cX5_add 130 = .ok (.aload_n 0, 1) := by decide +kernel
theorem dX5_add_131 : decode cX5_add 131 = .ok (.iconst 4, 1) := by decide +kernel
theorem dX5_add_132 : decode cX5_add 132 = .ok (.iconst 5, 1) := by decide +kernel
theorem dX5_add_133 : decode cX5_add 133 = .ok (.invokevirtual 54, 3) := by decide +kernel
theorem dX5_add_136 : decode cX5_add 136 = .ok (.goto 22, 3) := by decide +kernel
theorem dX5_add_139 : decode cX5_add 139 = .ok (.aload_n 0, 1) := by decide +kernel
theorem dX5_add_140 : decode cX5_add 140 = .ok (.iconst 5, 1) := by decide +kernel
theorem dX5_add_141 : decode cX5_add 141 = .ok (.iconst 4, 1) := by decide +kernel
theorem dX5_add_142 : decode cX5_add 142 = .ok (.invokevirtual 54, 3) := by decide +kernel
theorem dX5_add_145 : decode cX5_add 145 = .ok (.aload_n 0, 1) := by decide +kernel
theorem dX5_add_146 : decode cX5_add 146 = .ok (.iconst 4, 1) := by decide +kernel
theorem dX5_add_147 : decode cX5_add 147 = .ok (.iconst 5, 1) := by decide +kernel
theorem dX5_add_148 : decode cX5_add 148 = .ok (.invokevirtual 62, 3) := by decide +kernel
theorem dX5_add_151 : decode cX5_add 151 = .ok (.aload_n 0, 1) := by decide +kernel
theorem dX5_add_152 : decode cX5_add 152 = .ok (.getfield 17, 3) := by decide +kernel
theorem dX5_add_155 : decode cX5_add 155 = .ok (.iload_n 2, 1) := by decide +kernel
theorem dX5_add_156 : decode cX5_add 156 = .ok (.iaload, 1) := by decide +kernel
theorem dX5_add_157 : decode cX5_add 157 = .ok (.istore_n 3, 1) := by decide +kernel
theorem dX5_add_158 : decode cX5_add 158 = .ok (.aload_n 0, 1) := by decide +kernel
theorem dX5_add_159 : decode cX5_add 159 = .ok (.iload_n 3, 1) := by decide +kernel
theorem dX5_add_160 : decode cX5_add 160 = .ok (.iconst 4, 1) := by decide +kernel
theorem dX5_add_161 : decode cX5_add 161 = .ok (.iconst 2, 1) := by decide +kernel
theorem dX5_add_162 : decode cX5_add 162 = .ok (.invokevirtual 87, 3) := by decide +kernel
theorem dX5_add_165 : decode cX5_add 165 = .ok (.ireturn, 1) := by decide +kernel
theorem dX5_times_0 : decode cX5_times 0 = .ok (.aload_n 0, 1) := by decide +kernel
theorem dX5_times_1 : decode cX5_times 1 = .ok (.iload_n 1, 1) := by decide +kernel
theorem dX5_times_2 : decode cX5_times 2 = .ok (.invokestatic 91, 3) := by decide +kernel
theorem dX5_times_5 : decode cX5_times 5 = .ok (.ifCond .ne 10, 3) := by decide +kernel
theorem dX5_times_8 : decode cX5_times 8 = .ok (.iload_n 2, 1) := by decide +kernel
theorem dX5_times_9 : decode cX5_times 9 = .ok (.invokestatic 91, 3) := by decide +kernel
theorem dX5_times_12 : decode cX5_times 12 = .ok (.ifCond .eq 7, 3) := by decide +kernel
theorem dX5_times_15 : decode cX5_times 15 = .ok (.iconst 1, 1) := by decide +kernel
theorem dX5_times_16 : decode cX5_times 16 = .ok (.goto 4, 3) := by decide +kernel
theorem dX5_times_19 : decode cX5_times 19 = .ok (.iconst 0, 1) := by decide +kernel
theorem dX5_times_20 : decode cX5_times 20 = .ok (.putfield 33, 3) := by decide +kernel
theorem dX5_times_23 : decode cX5_times 23 = .ok (.aload_n 0, 1) := by decide +kernel
theorem dX5_times_24 : decode cX5_times 24 = .ok (.getfield 33, 3) := by decide +kernel
theorem dX5_times_27 : decode cX5_times 27 = .ok (.ifCond .le 5, 3) := by decide +kernel
theorem dX5_times_30 : decode cX5_times 30 = .ok (.iconst 0, 1) := by decide +kernel
theorem dX5_times_31 : decode cX5_times 31 = .ok (.ireturn, 1) := by decide +kernel
theorem dX5_times_32 : decode cX5_times 32 = .ok (.aload_n 0, 1) := by decide +kernel
theorem dX5_times_33 : decode cX5_times 33 = .ok (.iload_n 1, 1) := by decide +kernel
theorem dX5_times_34 : decode cX5_times 34 = .ok (.iload_n 2, 1) := by decide +kernel
theorem dX5_times_35 : decode cX5_times 35 = .ok (.iconst 4, 1) := by decide +kernel
theorem dX5_times_36 : decode cX5_times 36 = .ok (.invokevirtual 94, 3) := by decide +kernel
theorem dX5_times_39 : decode cX5_times 39 = .ok (.aload_n 0, 1) := by decide +kernel
theorem dX5_times_40 : decode cX5_times 40 = .ok (.iload_n 1, 1) := by decide +kernel
theorem dX5_times_41 : decode cX5_times 41 = .ok (.iconst 0, 1) := by decide +kernel
theorem dX5_times_42 : decode cX5_times 42 = .ok (.iconst 1, 1) := by decide +kernel
theorem dX5_times_43 : decode cX5_times 43 = .ok (.invokevirtual 98, 3) := by decide +kernel
theorem dX5_times_46 : decode cX5_times 46 = .ok (.aload_n 0, 1) := by decide +kernel
theorem dX5_times_47 : decode cX5_times 47 = .ok (.iload_n 2, 1) := by decide +kernel
theorem dX5_times_48 : decode cX5_times 48 = .ok (.iconst 2, 1) := by decide +kernel
theorem dX5_times_49 : decode cX5_times 49 = .ok (.iconst 3, 1) := by decide +kernel
theorem dX5_times_50 : decode cX5_times 50 = .ok (.invokevirtual 98, 3) := by decide +kernel
theorem dX5_times_53 : decode cX5_times 53 = .ok (.aload_n 0, 1) := by decide +kernel
theorem dX5_times_54 : decode cX5_times 54 = .ok (.iconst 0, 1) := by decide +kernel
theorem dX5_times_55 : decode cX5_times 55 = .ok (.iconst 2, 1) := by decide +kernel
theorem dX5_times_56 : decode cX5_times 56 = .ok (.iconst 4, 1) := by decide +kernel
theorem dX5_times_57 : decode cX5_times 57 = .ok (.invokevirtual 101, 3) := by decide +kernel
theorem dX5_times_60 : decode cX5_times 60 = .ok (.aload_n 0, 1) := by decide +kernel
theorem dX5_times_61 : decode cX5_times 61 = .ok (.iconst 1, 1) := by decide +kernel
theorem dX5_times_62 : decode cX5_times 62 = .ok (.iconst 3, 1) := by decide +kernel
theorem dX5_times_63 : decode cX5_times 63 = .ok (.iconst 5, 1) := by decide +kernel
theorem dX5_times_64 : decode cX5_times 64 = .ok (.invokevirtual 101, 3) := by decide +kernel
theorem dX5_times_67 : decode cX5_times 67 = .ok (.aload_n 0, 1) := by decide +kernel
theorem dX5_times_68 : decode cX5_times 68 = .ok (.aload_n 0, 1) := by decide +kernel
theorem dX5_times_69 : decode cX5_times 69 = .ok (.getfield 17, 3) := by decide +kernel
theorem dX5_times_72 : decode cX5_times 72 = .ok (.iload_n 1, 1) := by decide +kernel
theorem dX5_times_73 : decode cX5_times 73 = .ok (.iaload, 1) := by decide +kernel
theorem dX5_times_74 : decode cX5_times 74 = .ok (.aload_n 0, 1) := by decide +kernel
theorem dX5_times_75 : decode cX5_times 75 = .ok (.getfield 17, 3) := by decide +kernel
theorem dX5_times_78 : decode cX5_times 78 = .ok (.iload_n 2, 1) := by decide +kernel
theorem dX5_times_79 : decode cX5_times 79 = .ok (.iaload, 1) := by decide +kernel
theorem dX5_times_80 : decode cX5_times 80 = .ok (.imul, 1) := by decide +kernel
theorem dX5_times_81 : decode cX5_times 81 = .ok (.iconst 4, 1) := by decide +kernel
theorem dX5_times_82 : decode cX5_times 82 = .ok (.iconst 5, 1) := by decide +kernel
theorem dX5_times_83 : decode cX5_times 83 = .ok (.invokevirtual 87, 3) := by decide +kernel
theorem dX5_times_86 : decode cX5_times 86 = .ok (.ireturn, 1) := by decide +kernel
theorem dX5_over_0 : decode cX5_over 0 = .ok (.aload_n 0, 1) := by decide +kernel
theorem dX5_over_1 : decode cX5_over 1 = .ok (.iload_n 1, 1) := by decide +kernel
theorem dX5_over_2 : decode cX5_over 2 = .ok (.invokestatic 91, 3) := by decide +kernel
theorem dX5_over_5 : decode cX5_over 5 = .ok (.ifCond .ne 10, 3) := by decide +kernel
theorem dX5_over_8 : decode cX5_over 8 = .ok (.iload_n 2, 1) := by decide +kernel
theorem dX5_over_9 : decode cX5_over 9 = .ok (.invokestatic 91, 3) := by decide +kernel
theorem dX5_over_12 : decode cX5_over 12 = .ok (.ifCond .eq 7, 3) := by decide +kernel
theorem dX5_over_15 : decode cX5_over 15 = .ok (.iconst 1, 1) := by decide +kernel
theorem dX5_over_16 : decode cX5_over 16 = .ok (.goto 17, 3) := by decide +kernel
theorem dX5_over_19 : decode cX5_over 19 = .ok (.aload_n 0, 1) := by decide +kernel
theorem dX5_over_20 : decode cX5_over 20 = .ok (.getfield 17, 3) := by decide +kernel
theorem dX5_over_23 : decode cX5_over 23 = .ok (.iload_n 2, 1) := by decide +kernel
theorem dX5_over_24 : decode cX5_over 24 = .ok (.iaload, 1) := by decide +kernel
theorem dX5_over_25 : decode cX5_over 25 = .ok (.ifCond .ne 7, 3) := by decide +kernel
theorem dX5_over_28 : decode cX5_over 28 = .ok (.iconst 2, 1) := by decide +kernel
theorem dX5_over_29 : decode cX5_over 29 = .ok (.goto 4, 3) := by decide +kernel
theorem dX5_over_32 : decode cX5_over 32 = .ok (.iconst 0, 1) := by decide +kernel
theorem dX5_over_33 : decode cX5_over 33 = .ok (.putfield 33, 3) := by decide +kernel
theorem dX5_over_36 : decode cX5_over 36 = .ok (.aload_n 0, 1) := by decide +kernel
theorem dX5_over_37 : decode cX5_over 37 = .ok (.getfield 33, 3) := by decide +kernel
theorem dX5_over_40 : decode cX5_over 40 = .ok (.ifCond .le 5, 3) := by decide +kernel
theorem dX5_over_43 : decode cX5_over 43 = .ok (.iconst 0, 1) := by decide +kernel
theorem dX5_over_44 : decode cX5_over 44 = .ok (.ireturn, 1) := by decide +kernel
theorem dX5_over_45 : decode cX5_over 45 = .ok (.aload_n 0, 1) := by decide +kernel
theorem dX5_over_46 : decode cX5_over 46 = .ok (.iload_n 1, 1) := by decide +kernel
theorem dX5_over_47 : decode cX5_over 47 = .ok (.iload_n 2, 1) := by decide +kernel
theorem dX5_over_48 : decode cX5_over 48 = .ok (.iconst 4, 1) := by decide +kernel
theorem dX5_over_49 : decode cX5_over 49 = .ok (.invokevirtual 94, 3) := by decide +kernel
theorem dX5_over_52 : decode cX5_over 52 = .ok (.aload_n 0, 1) := by decide +kernel
theorem dX5_over_53 : decode cX5_over 53 = .ok (.iload_n 1, 1) := by decide +kernel
theorem dX5_over_54 : decode cX5_over 54 = .ok (.iconst 0, 1) := by decide +kernel
theorem dX5_over_55 : decode cX5_over 55 = .ok (.iconst 1, 1) := by decide +kernel
theorem dX5_over_56 : decode cX5_over 56 = .ok (.invokevirtual 98, 3) := by decide +kernel
theorem dX5_over_59 : decode cX5_over 59 = .ok (.aload_n 0, 1) := by decide +kernel
theorem dX5_over_60 : decode cX5_over 60 = .ok (.iload_n 2, 1) := by decide +kernel
theorem dX5_over_61 : decode cX5_over 61 = .ok (.iconst 2, 1) := by decide +kernel
theorem dX5_over_62 : decode cX5_over 62 = .ok (.iconst 3, 1) := by decide +kernel
theorem dX5_over_63 : decode cX5_over 63 = .ok (.invokevirtual 98, 3) := by decide +kernel
theorem dX5_over_66 : decode cX5_over 66 = .ok (.aload_n 0, 1) := by decide +kernel
theorem dX5_over_67 : decode cX5_over 67 = .ok (.iconst 0, 1) := by decide +kernel
theorem dX5_over_68 : decode cX5_over 68 = .ok (.iconst 3, 1) := by decide +kernel
theorem dX5_over_69 : decode cX5_over 69 = .ok (.iconst 4, 1) := by decide +kernel
theorem dX5_over_70 : decode cX5_over 70 = .ok (.invokevirtual 101, 3) := by decide +kernel
theorem dX5_over_73 : decode cX5_over 73 = .ok (.aload_n 0, 1) := by decide +kernel
theorem dX5_over_74 : decode cX5_over 74 = .ok (.iconst 1, 1) := by decide +kernel
theorem dX5_over_75 : decode cX5_over 75 = .ok (.iconst 2, 1) := by decide +kernel
theorem dX5_over_76 : decode cX5_over 76 = .ok (.iconst 5, 1) := by decide +kernel
theorem dX5_over_77 : decode cX5_over 77 = .ok (.invokevirtual 101, 3) := by decide +kernel
theorem dX5_over_80 : decode cX5_over 80 = .ok (.aload_n 0, 1) := by decide +kernel
theorem dX5_over_81 : decode cX5_over 81 = .ok (.aload_n 0, 1) := by decide +kernel
theorem dX5_over_82 : decode cX5_over 82 = .ok (.getfield 17, 3) := by decide +kernel
theorem dX5_over_85 : decode cX5_over 85 = .ok (.iload_n 1, 1) := by decide +kernel
theorem dX5_over_86 : decode cX5_over 86 = .ok (.iaload, 1) := by decide +kernel
theorem dX5_over_87 : decode cX5_over 87 = .ok (.aload_n 0, 1) := by decide +kernel
theorem dX5_over_88 : decode cX5_over 88 = .ok (.getfield 17, 3) := by decide +kernel
theorem dX5_over_91 : decode cX5_over 91 = .ok (.iload_n 2, 1) := by decide +kernel
theorem dX5_over_92 : decode cX5_over 92 = .ok (.iaload, 1) := by decide +kernel
theorem dX5_over_93 : decode cX5_over 93 = .ok (.imul, 1) := by decide +kernel
theorem dX5_over_94 : decode cX5_over 94 = .ok (.iconst 4, 1) := by decide +kernel
theorem dX5_over_95 : decode cX5_over 95 = .ok (.iconst 5, 1) := by decide +kernel
theorem dX5_over_96 : decode cX5_over 96 = .ok (.invokevirtual 87, 3) := by decide +kernel
theorem dX5_over_99 : decode cX5_over 99 = .ok (.ireturn, 1) := by decide +kernel
theorem dX5_order_0 : decode cX5_order 0 = .ok (.aload_n 0, 1) := by decide +kernel
theorem dX5_order_1 : decode cX5_order 1 = .ok (.iload_n 1, 1) := by decide +kernel
theorem dX5_order_2 : decode cX5_order 2 = .ok (.invokestatic 91, 3) := by decide +kernel
theorem dX5_order_5 : decode cX5_order 5 = .ok (.ifCond .ne 10, 3) := by decide +kernel
theorem dX5_order_8 : decode cX5_order 8 = .ok (.iload_n 2, 1) := by decide +kernel
theorem dX5_order_9 : decode cX5_order 9 = .ok (.invokestatic 91, 3) := by decide +kernel
theorem dX5_order_12 : decode cX5_order 12 = .ok (.ifCond .eq 7, 3) := by decide +kernel
theorem dX5_order_15 : decode cX5_order 15 = .ok (.iconst 1, 1) := by decide +kernel
theorem dX5_order_16 : decode cX5_order 16 = .ok (.goto 4, 3) := by decide +kernel
theorem dX5_order_19 : decode cX5_order 19 = .ok (.iconst 0, 1) := by decide +kernel
theorem dX5_order_20 : decode cX5_order 20 = .ok (.putfield 33, 3) := by decide +kernel
theorem dX5_order_23 : decode cX5_order 23 = .ok (.aload_n 0, 1) := by decide +kernel
theorem dX5_order_24 : decode cX5_order 24 = .ok (.getfield 33, 3) := by decide +kernel
theorem dX5_order_27 : decode cX5_order 27 = .ok (.ifCond .le 5, 3) := by decide +kernel
theorem dX5_order_30 : decode cX5_order 30 = .ok (.iconst 0, 1) := by decide +kernel
theorem dX5_order_31 : decode cX5_order 31 = .ok (.ireturn, 1) := by decide +kernel
theorem dX5_order_32 : decode cX5_order 32 = .ok (.aload_n 0, 1) := by decide +kernel
theorem dX5_order_33 : decode cX5_order 33 = .ok (.getfield 17, 3) := by decide +kernel
theorem dX5_order_36 : decode cX5_order 36 = .ok (.iload_n 1, 1) := by decide +kernel
theorem dX5_order_37 : decode cX5_order 37 = .ok (.iaload, 1) := by decide +kernel
theorem dX5_order_38 : decode cX5_order 38 = .ok (.aload_n 0, 1) := by decide +kernel
theorem dX5_order_39 : decode cX5_order 39 = .ok (.getfield 17, 3) := by decide +kernel
theorem dX5_order_42 : decode cX5_order 42 = .ok (.iload_n 2, 1) := by decide +kernel
theorem dX5_order_43 : decode cX5_order 43 = .ok (.iaload, 1) := by decide +kernel
theorem dX5_order_44 : decode cX5_order 44 = .ok (.if_icmp .eq 24, 3) := by decide +kernel
theorem dX5_order_47 : decode cX5_order 47 = .ok (.aload_n 0, 1) := by decide +kernel
theorem dX5_order_48 : decode cX5_order 48 = .ok (.getfield 17, 3) := by decide +kernel
theorem dX5_order_51 : decode cX5_order 51 = .ok (.iload_n 1, 1) := by decide +kernel
theorem dX5_order_52 : decode cX5_order 52 = .ok (.iaload, 1) := by decide +kernel
theorem dX5_order_53 : decode cX5_order 53 = .ok (.aload_n 0, 1) := by decide +kernel
theorem dX5_order_54 : decode cX5_order 54 = .ok (.getfield 17, 3) := by decide +kernel
theorem dX5_order_57 : decode cX5_order 57 = .ok (.iload_n 2, 1) := by decide +kernel
theorem dX5_order_58 : decode cX5_order 58 = .ok (.iaload, 1) := by decide +kernel
theorem dX5_order_59 : decode cX5_order 59 = .ok (.if_icmp .ge 7, 3) := by decide +kernel
theorem dX5_order_62 : decode cX5_order 62 = .ok (.iconst (-1), 1) := by decide +kernel
theorem dX5_order_63 : decode cX5_order 63 = .ok (.goto 4, 3) := by decide +kernel
theorem dX5_order_66 : decode cX5_order 66 = .ok (.iconst 1, 1) := by decide +kernel
theorem dX5_order_67 : decode cX5_order 67 = .ok (.ireturn, 1) := by decide +kernel
theorem dX5_order_68 : decode cX5_order 68 = .ok (.aload_n 0, 1) := by decide +kernel
theorem dX5_order_69 : decode cX5_order 69 = .ok (.iload_n 1, 1) := by decide +kernel
theorem dX5_order_70 : decode cX5_order 70 = .ok (.iload_n 2, 1) := by decide +kernel
theorem dX5_order_71 : decode cX5_order 71 = .ok (.iconst 4, 1) := by decide +kernel
theorem dX5_order_72 : decode cX5_order 72 = .ok (.invokevirtual 94, 3) := by decide +kernel
theorem dX5_order_75 : decode cX5_order 75 = .ok (.aload_n 0, 1) := by decide +kernel
theorem dX5_order_76 : decode cX5_order 76 = .ok (.iload_n 1, 1) := by decide +kernel
theorem dX5_order_77 : decode cX5_order 77 = .ok (.iconst 0, 1) := by decide +kernel
theorem dX5_order_78 : decode cX5_order 78 = .ok (.iconst 1, 1) := by decide +kernel
theorem dX5_order_79 : decode cX5_order 79 = .ok (.invokevirtual 98, 3) := by decide +kernel
theorem dX5_order_82 : decode cX5_order 82 = .ok (.aload_n 0, 1) := by decide +kernel
theorem dX5_order_83 : decode cX5_order 83 = .ok (.iload_n 2, 1) := by decide +kernel
theorem dX5_order_84 : decode cX5_order 84 = .ok (.iconst 2, 1) := by decide +kernel
theorem dX5_order_85 : decode cX5_order 85 = .ok (.iconst 3, 1) := by decide +kernel
theorem dX5_order_86 : decode cX5_order 86 = .ok (.invokevirtual 98, 3) := by decide +kernel
theorem dX5_order_89 : decode cX5_order 89 = .ok (.aload_n 0, 1) := by decide +kernel
theorem dX5_order_90 : decode cX5_order 90 = .ok (.iconst 0, 1) := by decide +kernel
theorem dX5_order_91 : decode cX5_order 91 = .ok (.iconst 3, 1) := by decide +kernel
theorem dX5_order_92 : decode cX5_order 92 = .ok (.iconst 4, 1) := by decide +kernel
theorem dX5_order_93 : decode cX5_order 93 = .ok (.invokevirtual 101, 3) := by decide +kernel
theorem dX5_order_96 : decode cX5_order 96 = .ok (.aload_n 0, 1) := by decide +kernel
theorem dX5_order_97 : decode cX5_order 97 = .ok (.iconst 2, 1) := by decide +kernel
theorem dX5_order_98 : decode cX5_order 98 = .ok (.iconst 1, 1) := by decide +kernel
theorem dX5_order_99 : decode cX5_order 99 = .ok (.iconst 5, 1) := by decide +kernel
theorem dX5_order_100 : decode cX5_order 100 = .ok (.invokevirtual 101, 3) := by decide +kernel
theorem dX5_order_103 : decode cX5_order 103 = .ok (.aload_n 0, 1) := by decide +kernel
theorem dX5_order_104 : decode cX5_order 104 = .ok (.getfield 17, 3) := by decide +kernel
theorem dX5_order_107 : decode cX5_order 107 = .ok (.iload_n 1, 1) := by decide +kernel
theorem dX5_order_108 : decode cX5_order 108 = .ok (.iaload, 1) := by decide +kernel
theorem dX5_order_109 : decode cX5_order 109 = .ok (.ifCond .ge 12, 3) := by decide +kernel
theorem dX5_order_112 : decode cX5_order 112 = .ok (.aload_n 0, 1) := by decide +kernel
theorem dX5_order_113 : decode cX5_order 113 = .ok (.iconst 5, 1) := by decide +kernel
theorem dX5_order_114 : decode cX5_order 114 = .ok (.iconst 4, 1) := by decide +kernel
theorem dX5_order_115 : decode cX5_order 115 = .ok (.invokevirtual 50, 3) := by decide +kernel
theorem dX5_order_118 : decode cX5_order 118 = .ok (.goto 9, 3) := by decide +kernel
theorem dX5_order_121 : decode cX5_order 121 = .ok (.aload_n 0, 1) := by decide +kernel
theorem dX5_order_122 : decode cX5_order 122 = .ok (.iconst 4, 1) := by decide +kernel
theorem dX5_order_123 : decode cX5_order 123 = .ok (.iconst 5, 1) := by decide +kernel
theorem dX5_order_124 : decode cX5_order 124 = .ok (.invokevirtual 50, 3) := by decide +kernel
theorem dX5_order_127 : decode cX5_order 127 = .ok (.ireturn, 1) := by decide +kernel
theorem dX5_root_0 : decode cX5_root 0 = .ok (.aload_n 0, 1) := by decide +kernel
theorem dX5_root_1 : decode cX5_root 1 = .ok (.iload_n 1, 1) := by decide +kernel
theorem dX5_root_2 : decode cX5_root 2 = .ok (.invokestatic 91, 3) := by decide +kernel
theorem dX5_root_5 : decode cX5_root 5 = .ok (.ifCond .eq 7, 3) := by decide +kernel
theorem dX5_root_8 : decode cX5_root 8 = .ok (.iconst 1, 1) := by decide +kernel
theorem dX5_root_9 : decode cX5_root 9 = .ok (.goto 28, 3) := by decide +kernel
theorem dX5_root_12 : decode cX5_root 12 = .ok (.aload_n 0, 1) := by decide +kernel
theorem dX5_root_13 : decode cX5_root 13 = .ok (.getfield 17, 3) := by decide +kernel
theorem dX5_root_16 : decode cX5_root 16 = .ok (.iload_n 1, 1) := by decide +kernel
theorem dX5_root_17 : decode cX5_root 17 = .ok (.iaload, 1) := by decide +kernel
theorem dX5_root_18 : decode cX5_root 18 = .ok (.ifCond .lt 14, 3) := by decide +kernel
theorem dX5_root_21 : decode cX5_root 21 = .ok (.iload_n 2, 1) := by decide +kernel
theorem dX5_root_22 : decode cX5_root 22 = .ok (.ifCond .lt 10, 3) := by decide +kernel
theorem dX5_root_25 : decode cX5_root 25 = .ok (.iload_n 2, 1) := by decide +kernel
theorem dX5_root_26 : decode cX5_root 26 = .ok (.sipush 200, 3) := by decide +kernel
theorem dX5_root_29 : decode cX5_root 29 = .ok (.if_icmp .le 7, 3) := by decide +kernel
theorem dX5_root_32 : decode cX5_root 32 = .ok (.iconst 2, 1) := by decide +kernel
theorem dX5_root_33 : decode cX5_root 33 = .ok (.goto 4, 3) := by decide +kernel
theorem dX5_root_36 : decode cX5_root 36 = .ok (.iconst 0, 1) := by decide +kernel
theorem dX5_root_37 : decode cX5_root 37 = .ok (.putfield 33, 3) := by decide +kernel
theorem dX5_root_40 : decode cX5_root 40 = .ok (.aload_n 0, 1) := by decide +kernel
theorem dX5_root_41 : decode cX5_root 41 = .ok (.getfield 33, 3) := by decide +kernel
theorem dX5_root_44 : decode cX5_root 44 = .ok (.ifCond .le 5, 3) := by decide +kernel
theorem dX5_root_47 : decode cX5_root 47 = .ok (.iconst 0, 1) := by decide +kernel
theorem dX5_root_48 : decode cX5_root 48 = .ok (.ireturn, 1) := by decide +kernel
theorem dX5_root_49 : decode cX5_root 49 = .ok (.aload_n 0, 1) := by decide +kernel
theorem dX5_root_50 : decode cX5_root 50 = .ok (.getfield 107, 3) := by decide +kernel
theorem dX5_root_53 : decode cX5_root 53 = .ok (.bipush 40, 2) := by decide +kernel
theorem dX5_root_55 : decode cX5_root 55 = .ok (.if_icmp .eq 15, 3) := by decide +kernel
theorem dX5_root_58 : decode cX5_root 58 = .ok (.aload_n 0, 1) := by decide +kernel
theorem dX5_root_59 : decode cX5_root 59 = .ok (.getfield 84, 3) := by decide +kernel
theorem dX5_root_62 : decode cX5_root 62 = .ok (.iconst 2, 1) := by decide +kernel
theorem dX5_root_63 : decode cX5_root 63 = .ok (.iadd, 1) := by decide +kernel
theorem dX5_root_64 : decode cX5_root 64 = .ok (.sipush 150, 3) := by decide +kernel
theorem dX5_root_67 : decode cX5_root 67 = .ok (.if_icmp .le 5, 3) := by decide +kernel
theorem dX5_root_70 : decode cX5_root 70 = .ok (.iconst (-1), 1) := by decide +kernel
theorem dX5_root_71 : decode cX5_root 71 = .ok (.ireturn, 1) := by decide +kernel
theorem dX5_root_72 : decode cX5_root 72 = .ok (.aload_n 0, 1) := by decide +kernel
theorem dX5_root_73 : decode cX5_root 73 = .ok (.iload_n 1, 1) := by decide +kernel
theorem dX5_root_74 : decode cX5_root 74 = .ok (.iload_n 1, 1) := by decide +kernel
theorem dX5_root_75 : decode cX5_root 75 = .ok (.iload_n 2, 1) := by decide +kernel
theorem dX5_root_76 : decode cX5_root 76 = .ok (.iconst 5, 1) := by decide +kernel
theorem dX5_root_77 : decode cX5_root 77 = .ok (.idiv, 1) := by decide +kernel
theorem dX5_root_78 : decode cX5_root 78 = .ok (.bipush 8, 2) := by decide +kernel
theorem dX5_root_80 : decode cX5_root 80 = .ok (.iadd, 1) := by decide +kernel
theorem dX5_root_81 : decode cX5_root 81 = .ok (.invokevirtual 94, 3) := by decide +kernel
theorem dX5_root_84 : decode cX5_root 84 = .ok (.aload_n 0, 1) := by decide +kernel
theorem dX5_root_85 : decode cX5_root 85 = .ok (.iload_n 1, 1) := by decide +kernel
theorem dX5_root_86 : decode cX5_root 86 = .ok (.iconst 0, 1) := by decide +kernel
theorem dX5_root_87 : decode cX5_root 87 = .ok (.iconst 1, 1) := by decide +kernel
theorem dX5_root_88 : decode cX5_root 88 = .ok (.invokevirtual 98, 3) := by decide +kernel
theorem dX5_root_91 : decode cX5_root 91 = .ok (.aload_n 0, 1) := by decide +kernel
theorem dX5_root_92 : decode cX5_root 92 = .ok (.iconst 2, 1) := by decide +kernel
theorem dX5_root_93 : decode cX5_root 93 = .ok (.lconst 1, 1) := by decide +kernel
theorem dX5_root_94 : decode cX5_root 94 = .ok (.invokevirtual 36, 3) := by decide +kernel
theorem dX5_root_97 : decode cX5_root 97 = .ok (.iconst 0, 1) := by decide +kernel
theorem dX5_root_98 : decode cX5_root 98 = .ok (.istore_n 3, 1) := by decide +kernel
theorem dX5_root_99 : decode cX5_root 99 = .ok (.iload_n 3, 1) := by decide +kernel
theorem dX5_root_100 : decode cX5_root 100 = .ok (.iload_n 2, 1) := by decide +kernel
theorem dX5_root_101 : decode cX5_root 101 = .ok (.if_icmp .ge 24, 3) := by decide +kernel
theorem dX5_root_104 : decode cX5_root 104 = .ok (.aload_n 0, 1) := by decide +kernel
theorem dX5_root_105 : decode cX5_root 105 = .ok (.iconst 0, 1) := by decide +kernel
theorem dX5_root_106 : decode cX5_root 106 = .ok (.invokevirtual 46, 3) := by decide +kernel
theorem dX5_root_109 : decode cX5_root 109 = .ok (.aload_n 0, 1) := by decide +kernel
theorem dX5_root_110 : decode cX5_root 110 = .ok (.iconst 0, 1) := by decide +kernel
theorem dX5_root_111 : decode cX5_root 111 = .ok (.invokevirtual 46, 3) := by decide +kernel
theorem dX5_root_114 : decode cX5_root 114 = .ok (.aload_n 0, 1) := by decide +kernel
theorem dX5_root_115 : decode cX5_root 115 = .ok (.iconst 2, 1) := by decide +kernel
theorem dX5_root_116 : decode cX5_root 116 = .ok (.invokevirtual 46, 3) := by decide +kernel
theorem dX5_root_119 : decode cX5_root 119 = .ok (.iinc 3 1, 3) := by decide +kernel
theorem dX5_root_122 : decode cX5_root 122 = .ok (.goto (-23), 3) := by decide +kernel
theorem dX5_root_125 : decode cX5_root 125 = .ok (.aload_n 0, 1) := by decide +kernel
theorem dX5_root_126 : decode cX5_root 126 = .ok (.iconst 0, 1) := by decide +kernel
theorem dX5_root_127 : decode cX5_root 127 = .ok (.iconst 1, 1) := by decide +kernel
theorem dX5_root_128 : decode cX5_root 128 = .ok (.iconst 3, 1) := by decide +kernel
theorem dX5_root_129 : decode cX5_root 129 = .ok (.iconst 4, 1) := by decide +kernel
theorem dX5_root_130 : decode cX5_root 130 = .ok (.invokevirtual 80, 3) := by decide +kernel
theorem dX5_root_133 : decode cX5_root 133 = .ok (.aload_n 0, 1) := by decide +kernel
theorem dX5_root_134 : decode cX5_root 134 = .ok (.iconst 3, 1) := by decide +kernel
theorem dX5_root_135 : decode cX5_root 135 = .ok (.iconst 5, 1) := by decide +kernel
theorem dX5_root_136 : decode cX5_root 136 = .ok (.invokevirtual 110, 3) := by decide +kernel
theorem dX5_root_139 : decode cX5_root 139 = .ok (.aload_n 0, 1) := by decide +kernel
theorem dX5_root_140 : decode cX5_root 140 = .ok (.iconst 5, 1) := by decide +kernel
theorem dX5_root_141 : decode cX5_root 141 = .ok (.iconst 5, 1) := by decide +kernel
theorem dX5_root_142 : decode cX5_root 142 = .ok (.iconst 3, 1) := by decide +kernel
theorem dX5_root_143 : decode cX5_root 143 = .ok (.invokevirtual 101, 3) := by decide +kernel
theorem dX5_root_146 : decode cX5_root 146 = .ok (.aload_n 0, 1) := by decide +kernel
theorem dX5_root_147 : decode cX5_root 147 = .ok (.iconst 3, 1) := by decide +kernel
theorem dX5_root_148 : decode cX5_root 148 = .ok (.iconst 1, 1) := by decide +kernel
theorem dX5_root_149 : decode cX5_root 149 = .ok (.iconst 4, 1) := by decide +kernel
theorem dX5_root_150 : decode cX5_root 150 = .ok (.invokevirtual 101, 3) := by decide +kernel
theorem dX5_root_153 : decode cX5_root 153 = .ok (.aload_n 0, 1) := by decide +kernel
theorem dX5_root_154 : decode cX5_root 154 = .ok (.iconst 4, 1) := by decide +kernel
theorem dX5_root_155 : decode cX5_root 155 = .ok (.iconst 0, 1) := by decide +kernel
theorem dX5_root_156 : decode cX5_root 156 = .ok (.invokevirtual 50, 3) := by decide +kernel
theorem dX5_root_159 : decode cX5_root 159 = .ok (.ifCond .ne 7, 3) := by decide +kernel
theorem dX5_root_162 : decode cX5_root 162 = .ok (.iconst 1, 1) := by decide +kernel
theorem dX5_root_163 : decode cX5_root 163 = .ok (.goto 4, 3) := by decide +kernel
theorem dX5_root_166 : decode cX5_root 166 = .ok (.iconst 0, 1) := by decide +kernel
theorem dX5_root_167 : decode cX5_root 167 = .ok (.istore_n 3, 1) := by decide +kernel
theorem dX5_root_168 : decode cX5_root 168 = .ok (.aload_n 0, 1) := by decide +kernel
theorem dX5_root_169 : decode cX5_root 169 = .ok (.iconst 0, 1) := by decide +kernel
theorem dX5_root_170 : decode cX5_root 170 = .ok (.iconst 5, 1) := by decide +kernel
theorem dX5_root_171 : decode cX5_root 171 = .ok (.invokevirtual 62, 3) := by decide +kernel
theorem dX5_root_174 : decode cX5_root 174 = .ok (.aload_n 0, 1) := by decide +kernel
theorem dX5_root_175 : decode cX5_root 175 = .ok (.getfield 26, 3) := by decide +kernel
theorem dX5_root_178 : decode cX5_root 178 = .ok (.iconst 2, 1) := by decide +kernel
theorem dX5_root_179 : decode cX5_root 179 = .ok (.aload_n 0, 1) := by decide +kernel
theorem dX5_root_180 : decode cX5_root 180 = .ok (.getfield 107, 3) := by decide +kernel
theorem dX5_root_183 : decode cX5_root 183 = .ok (.imul, 1) := by decide +kernel
theorem dX5_root_184 : decode cX5_root 184 = .ok (.aload_n 0, 1) := by decide +kernel
theorem dX5_root_185 : decode cX5_root 185 = .ok (.iconst 1, 1) := by decide +kernel
theorem dX5_root_186 : decode cX5_root 186 = .ok (.iconst 0, 1) := by decide +kernel
theorem dX5_root_187 : decode cX5_root 187 = .ok (.iconst 2, 1) := by decide +kernel
theorem dX5_root_188 : decode cX5_root 188 = .ok (.invokevirtual 87, 3) := by decide +kernel
theorem dX5_root_191 : decode cX5_root 191 = .ok (.iastore, 1) := by decide +kernel
theorem dX5_root_192 : decode cX5_root 192 = .ok (.iload_n 3, 1) := by decide +kernel
theorem dX5_root_193 : decode cX5_root 193 = .ok (.ifCond .ne 15, 3) := by decide +kernel
theorem dX5_root_196 : decode cX5_root 196 = .ok (.aload_n 0, 1) := by decide +kernel
theorem dX5_root_197 : decode cX5_root 197 = .ok (.iconst 1, 1) := by decide +kernel
theorem dX5_root_198 : decode cX5_root 198 = .ok (.lconst 1, 1) := by decide +kernel
theorem dX5_root_199 : decode cX5_root 199 = .ok (.invokevirtual 36, 3) := by decide +kernel
theorem dX5_root_202 : decode cX5_root 202 = .ok (.aload_n 0, 1) := by decide +kernel
theorem dX5_root_203 : decode cX5_root 203 = .ok (.iconst 0, 1) := by decide +kernel
theorem dX5_root_204 : decode cX5_root 204 = .ok (.iconst 1, 1) := by decide +kernel
theorem dX5_root_205 : decode cX5_root 205 = .ok (.invokevirtual 104, 3) := by decide +kernel
theorem dX5_root_208 : decode cX5_root 208 = .ok (.aload_n 0, 1) := by decide +kernel
theorem dX5_root_209 : decode cX5_root 209 = .ok (.getfield 26, 3) := by decide +kernel
theorem dX5_root_212 : decode cX5_root 212 = .ok (.iconst 2, 1) := by decide +kernel
theorem dX5_root_213 : decode cX5_root 213 = .ok (.aload_n 0, 1) := by decide +kernel
theorem dX5_root_214 : decode cX5_root 214 = .ok (.getfield 107, 3) := by decide +kernel
theorem dX5_root_217 : decode cX5_root 217 = .ok (.imul, 1) := by decide +kernel
theorem dX5_root_218 : decode cX5_root 218 = .ok (.iconst 1, 1) := by decide +kernel
theorem dX5_root_219 : decode cX5_root 219 = .ok (.iadd, 1) := by decide +kernel
theorem dX5_root_220 : decode cX5_root 220 = .ok (.aload_n 0, 1) := by decide +kernel
theorem dX5_root_221 : decode cX5_root 221 = .ok (.iconst 1, 1) := by decide +kernel
theorem dX5_root_222 : decode cX5_root 222 = .ok (.iconst 0, 1) := by decide +kernel
theorem dX5_root_223 : decode cX5_root 223 = .ok (.iconst 2, 1) := by decide +kernel
theorem dX5_root_224 : decode cX5_root 224 = .ok (.invokevirtual 87, 3) := by decide +kernel
theorem dX5_root_227 : decode cX5_root 227 = .ok (.iastore, 1) := by decide +kernel
theorem dX5_root_228 : decode cX5_root 228 = .ok (.aload_n 0, 1) := by decide +kernel
theorem dX5_root_229 : decode cX5_root 229 = .ok (.dup, 1) := by decide +kernel
theorem dX5_root_230 : decode cX5_root 230 = .ok (.getfield 107, 3) := by decide +kernel
theorem dX5_root_233 : decode cX5_root 233 = .ok (.iconst 1, 1) := by decide +kernel
theorem dX5_root_234 : decode cX5_root 234 = .ok (.iadd, 1) := by decide +kernel
theorem dX5_root_235 : decode cX5_root 235 = .ok (.putfield 107, 3) := by decide +kernel
theorem dX5_root_238 : decode cX5_root 238 = .ok (.aload_n 0, 1) := by decide +kernel
theorem dX5_root_239 : decode cX5_root 239 = .ok (.getfield 107, 3) := by decide +kernel
theorem dX5_root_242 : decode cX5_root 242 = .ok (.iconst 1, 1) := by decide +kernel
theorem dX5_root_243 : decode cX5_root 243 = .ok (.isub, 1) := by decide +kernel
theorem dX5_root_244 : decode cX5_root 244 = .ok (.ireturn, 1) := by decide +kernel
theorem dX5_end_0 : decode cX5_end 0 = .ok (.aload_n 0, 1) := by decide +kernel
theorem dX5_end_1 : decode cX5_end 1 = .ok (.iload_n 1, 1) := by decide +kernel
theorem dX5_end_2 : decode cX5_end 2 = .ok (.ifCond .lt 18, 3) := by decide +kernel
theorem dX5_end_5 : decode cX5_end 5 = .ok (.iload_n 1, 1) := by decide +kernel
theorem dX5_end_6 : decode cX5_end 6 = .ok (.bipush 40, 2) := by decide +kernel
theorem dX5_end_8 : decode cX5_end 8 = .ok (.if_icmp .ge 12, 3) := by decide +kernel
theorem dX5_end_11 : decode cX5_end 11 = .ok (.iload_n 2, 1) := by decide +kernel
theorem dX5_end_12 : decode cX5_end 12 = .ok (.ifCond .lt 8, 3) := by decide +kernel
theorem dX5_end_15 : decode cX5_end 15 = .ok (.iload_n 2, 1) := by decide +kernel
theorem dX5_end_16 : decode cX5_end 16 = .ok (.iconst 1, 1) := by decide +kernel
theorem dX5_end_17 : decode cX5_end 17 = .ok (.if_icmp .le 7, 3) := by decide +kernel
theorem dX5_end_20 : decode cX5_end 20 = .ok (.iconst 1, 1) := by decide +kernel
theorem dX5_end_21 : decode cX5_end 21 = .ok (.goto 4, 3) := by decide +kernel
theorem dX5_end_24 : decode cX5_end 24 = .ok (.iconst 0, 1) := by decide +kernel
theorem dX5_end_25 : decode cX5_end 25 = .ok (.putfield 33, 3) := by decide +kernel
theorem dX5_end_28 : decode cX5_end 28 = .ok (.aload_n 0, 1) := by decide +kernel
theorem dX5_end_29 : decode cX5_end 29 = .ok (.getfield 33, 3) := by decide +kernel
theorem dX5_end_32 : decode cX5_end 32 = .ok (.ifCond .le 7, 3) := by decide +kernel
theorem dX5_end_35 : decode cX5_end 35 = .ok (.iconst 0, 1) := by decide +kernel
theorem dX5_end_36 : decode cX5_end 36 = .ok (.goto 13, 3) := by decide +kernel
theorem dX5_end_39 : decode cX5_end 39 = .ok (.aload_n 0, 1) := by decide +kernel
theorem dX5_end_40 : decode cX5_end 40 = .ok (.getfield 26, 3) := by decide +kernel
theorem dX5_end_43 : decode cX5_end 43 = .ok (.iconst 2, 1) := by decide +kernel
theorem dX5_end_44 : decode cX5_end 44 = .ok (.iload_n 1, 1) := by decide +kernel
theorem dX5_end_45 : decode cX5_end 45 = .ok (.imul, 1) := by decide +kernel
theorem dX5_end_46 : decode cX5_end 46 = .ok (.iload_n 2, 1) := by decide +kernel
theorem dX5_end_47 : decode cX5_end 47 = .ok (.iadd, 1) := by decide +kernel
theorem dX5_end_48 : decode cX5_end 48 = .ok (.iaload, 1) := by decide +kernel
theorem dX5_end_49 : decode cX5_end 49 = .ok (.ireturn, 1) := by decide +kernel
theorem dX5_round_0 : decode cX5_round 0 = .ok (.aload_n 0, 1) := by decide +kernel
theorem dX5_round_1 : decode cX5_round 1 = .ok (.iload_n 1, 1) := by decide +kernel
theorem dX5_round_2 : decode cX5_round 2 = .ok (.invokestatic 91, 3) := by decide +kernel
theorem dX5_round_5 : decode cX5_round 5 = .ok (.ifCond .eq 7, 3) := by decide +kernel
theorem dX5_round_8 : decode cX5_round 8 = .ok (.iconst 1, 1) := by decide +kernel
theorem dX5_round_9 : decode cX5_round 9 = .ok (.goto 23, 3) := by decide +kernel
theorem dX5_round_12 : decode cX5_round 12 = .ok (.iload_n 2, 1) := by decide +kernel
theorem dX5_round_13 : decode cX5_round 13 = .ok (.ifCond .lt 14, 3) := by decide +kernel
theorem dX5_round_16 : decode cX5_round 16 = .ok (.iload_n 2, 1) := by decide +kernel
theorem dX5_round_17 : decode cX5_round 17 = .ok (.iconst 3, 1) := by decide +kernel
theorem dX5_round_18 : decode cX5_round 18 = .ok (.if_icmp .gt 9, 3) := by decide +kernel
theorem dX5_round_21 : decode cX5_round 21 = .ok (.lload_n 3, 1) := by decide +kernel
theorem dX5_round_22 : decode cX5_round 22 = .ok (.lconst 1, 1) := by decide +kernel
theorem dX5_round_23 : decode cX5_round 23 = .ok (.lcmp, 1) := by decide +kernel
theorem dX5_round_24 : decode cX5_round 24 = .ok (.ifCond .ge 7, 3) := by decide +kernel
theorem dX5_round_27 : decode cX5_round 27 = .ok (.iconst 2, 1) := by decide +kernel
theorem dX5_round_28 : decode cX5_round 28 = .ok (.goto 4, 3) := by decide +kernel
theorem dX5_round_31 : decode cX5_round 31 = .ok (.iconst 0, 1) := by decide +kernel
theorem dX5_round_32 : decode cX5_round 32 = .ok (.putfield 33, 3) := by decide +kernel
theorem dX5_round_35 : decode cX5_round 35 = .ok (.aload_n 0, 1) := by decide +kernel
theorem dX5_round_36 : decode cX5_round 36 = .ok (.getfield 33, 3) := by decide +kernel
theorem dX5_round_39 : decode cX5_round 39 = .ok (.ifCond .le 5, 3) := by decide +kernel
theorem dX5_round_42 : decode cX5_round 42 = .ok (.iconst 0, 1) := by decide +kernel
theorem dX5_round_43 : decode cX5_round 43 = .ok (.ireturn, 1) := by decide +kernel
theorem dX5_round_44 : decode cX5_round 44 = .ok (.aload_n 0, 1) := by decide +kernel
theorem dX5_round_45 : decode cX5_round 45 = .ok (.iload_n 1, 1) := by decide +kernel
theorem dX5_round_46 : decode cX5_round 46 = .ok (.iload_n 1, 1) := by decide +kernel
theorem dX5_round_47 : decode cX5_round 47 = .ok (.bipush 16, 2) := by decide +kernel
theorem dX5_round_49 : decode cX5_round 49 = .ok (.invokevirtual 94, 3) := by decide +kernel
theorem dX5_round_52 : decode cX5_round 52 = .ok (.aload_n 0, 1) := by decide +kernel
theorem dX5_round_53 : decode cX5_round 53 = .ok (.iload_n 1, 1) := by decide +kernel
theorem dX5_round_54 : decode cX5_round 54 = .ok (.iconst 0, 1) := by decide +kernel
theorem dX5_round_55 : decode cX5_round 55 = .ok (.iconst 1, 1) := by decide +kernel
theorem dX5_round_56 : decode cX5_round 56 = .ok (.invokevirtual 98, 3) := by decide +kernel
theorem dX5_round_59 : decode cX5_round 59 = .ok (.aload_n 0, 1) := by decide +kernel
theorem dX5_round_60 : decode cX5_round 60 = .ok (.iconst 2, 1) := by decide +kernel
theorem dX5_round_61 : decode cX5_round 61 = .ok (.lload_n 3, 1) := by decide +kernel
theorem dX5_round_62 : decode cX5_round 62 = .ok (.invokevirtual 36, 3) := by decide +kernel
theorem dX5_round_65 : decode cX5_round 65 = .ok (.aload_n 0, 1) := by decide +kernel
theorem dX5_round_66 : decode cX5_round 66 = .ok (.iconst 1, 1) := by decide +kernel
theorem dX5_round_67 : decode cX5_round 67 = .ok (.iconst 2, 1) := by decide +kernel
theorem dX5_round_68 : decode cX5_round 68 = .ok (.iconst 3, 1) := by decide +kernel
theorem dX5_round_69 : decode cX5_round 69 = .ok (.invokevirtual 101, 3) := by decide +kernel
theorem dX5_round_72 : decode cX5_round 72 = .ok (.aload_n 0, 1) := by decide +kernel
theorem dX5_round_73 : decode cX5_round 73 = .ok (.iconst 0, 1) := by decide +kernel
theorem dX5_round_74 : decode cX5_round 74 = .ok (.iconst 3, 1) := by decide +kernel
theorem dX5_round_75 : decode cX5_round 75 = .ok (.iconst 4, 1) := by decide +kernel
theorem dX5_round_76 : decode cX5_round 76 = .ok (.iconst 5, 1) := by decide +kernel
theorem dX5_round_77 : decode cX5_round 77 = .ok (.invokevirtual 80, 3) := by decide +kernel
theorem dX5_round_80 : decode cX5_round 80 = .ok (.aload_n 0, 1) := by decide +kernel
theorem dX5_round_81 : decode cX5_round 81 = .ok (.iconst 5, 1) := by decide +kernel
theorem dX5_round_82 : decode cX5_round 82 = .ok (.invokevirtual 58, 3) := by decide +kernel
theorem dX5_round_85 : decode cX5_round 85 = .ok (.ifCond .ne 7, 3) := by decide +kernel
theorem dX5_round_88 : decode cX5_round 88 = .ok (.iconst 1, 1) := by decide +kernel
theorem dX5_round_89 : decode cX5_round 89 = .ok (.goto 4, 3) := by decide +kernel
theorem dX5_round_92 : decode cX5_round 92 = .ok (.iconst 0, 1) := by decide +kernel
theorem dX5_round_93 : decode cX5_round 93 = .ok (.istore 5, 2) := by decide +kernel
theorem dX5_round_95 : decode cX5_round 95 = .ok (.aload_n 0, 1) := by decide +kernel
theorem dX5_round_96 : decode cX5_round 96 = .ok (.iconst 5, 1) := by decide +kernel
theorem dX5_round_97 : decode cX5_round 97 = .ok (.invokevirtual 46, 3) := by decide +kernel
theorem dX5_round_100 : decode cX5_round 100 = .ok (.aload_n 0, 1) := by decide +kernel
theorem dX5_round_101 : decode cX5_round 101 = .ok (.iconst 5, 1) := by decide +kernel
theorem dX5_round_102 : decode cX5_round 102 = .ok (.iconst 3, 1) := by decide +kernel
theorem dX5_round_103 : decode cX5_round 103 = .ok (.invokevirtual 50, 3) := by decide +kernel
theorem dX5_round_106 : decode cX5_round 106 = .ok (.istore 6, 2) := by decide +kernel
theorem dX5_round_108 : decode cX5_round 108 = .ok (.aload_n 0, 1) := by decide +kernel
theorem dX5_round_109 : decode cX5_round 109 = .ok (.getfield 17, 3) := by decide +kernel
theorem dX5_round_112 : decode cX5_round 112 = .ok (.iload_n 1, 1) := by decide +kernel
theorem dX5_round_113 : decode cX5_round 113 = .ok (.iaload, 1) := by decide +kernel
theorem dX5_round_114 : decode cX5_round 114 = .ok (.ifCond .ge 7, 3) := by decide +kernel
theorem dX5_round_117 : decode cX5_round 117 = .ok (.iconst 1, 1) := by decide +kernel
theorem dX5_round_118 : decode cX5_round 118 = .ok (.goto 4, 3) := by decide +kernel
theorem dX5_round_121 : decode cX5_round 121 = .ok (.iconst 0, 1) := by decide +kernel
theorem dX5_round_122 : decode cX5_round 122 = .ok (.istore 7, 2) := by decide +kernel
theorem dX5_round_124 : decode cX5_round 124 = .ok (.aload_n 0, 1) := by decide +kernel
theorem dX5_round_125 : decode cX5_round 125 = .ok (.iconst 4, 1) := by decide +kernel
theorem dX5_round_126 : decode cX5_round 126 = .ok (.invokevirtual 65, 3) := by decide +kernel
theorem dX5_round_129 : decode cX5_round 129 = .ok (.ifCond .ne 7, 3) := by decide +kernel
theorem dX5_round_132 : decode cX5_round 132 = .ok (.iconst 1, 1) := by decide +kernel
theorem dX5_round_133 : decode cX5_round 133 = .ok (.goto 4, 3) := by decide +kernel
theorem dX5_round_136 : decode cX5_round 136 = .ok (.iconst 0, 1) := by decide +kernel
theorem dX5_round_137 : decode cX5_round 137 = .ok (.istore 8, 2) := by decide +kernel
theorem dX5_round_139 : decode cX5_round 139 = .ok (.iload_n 2, 1) := by decide +kernel
theorem dX5_round_140 : decode cX5_round 140 = .ok (.ifCond .ne 21, 3) := by decide +kernel
theorem dX5_round_143 : decode cX5_round 143 = .ok (.iload 7, 2) := by decide +kernel
theorem dX5_round_145 : decode cX5_round 145 = .ok (.ifCond .eq 12, 3) := by decide +kernel
theorem dX5_round_148 : decode cX5_round 148 = .ok (.iload 5, 2) := by decide +kernel
theorem dX5_round_150 : decode cX5_round 150 = .ok (.ifCond .eq 7, 3) := by decide +kernel
theorem dX5_round_153 : decode cX5_round 153 = .ok (.iconst 1, 1) := by decide +kernel
theorem dX5_round_154 : decode cX5_round 154 = .ok (.goto 63, 3) := by decide +kernel
theorem dX5_round_157 : decode cX5_round 157 = .ok (.iconst 0, 1) := by decide +kernel
theorem dX5_round_158 : decode cX5_round 158 = .ok (.goto 59, 3) := by decide +kernel
theorem dX5_round_161 : decode cX5_round 161 = .ok (.iload_n 2, 1) := by decide +kernel
theorem dX5_round_162 : decode cX5_round 162 = .ok (.iconst 1, 1) := by decide +kernel
theorem dX5_round_163 : decode cX5_round 163 = .ok (.if_icmp .ne 21, 3) := by decide +kernel
theorem dX5_round_166 : decode cX5_round 166 = .ok (.iload 7, 2) := by decide +kernel
theorem dX5_round_168 : decode cX5_round 168 = .ok (.ifCond .ne 12, 3) := by decide +kernel
theorem dX5_round_171 : decode cX5_round 171 = .ok (.iload 5, 2) := by decide +kernel
theorem dX5_round_173 : decode cX5_round 173 = .ok (.ifCond .eq 7, 3) := by decide +kernel
theorem dX5_round_176 : decode cX5_round 176 = .ok (.iconst 1, 1) := by decide +kernel
theorem dX5_round_177 : decode cX5_round 177 = .ok (.goto 40, 3) := by decide +kernel
theorem dX5_round_180 : decode cX5_round 180 = .ok (.iconst 0, 1) := by decide +kernel
theorem dX5_round_181 : decode cX5_round 181 = .ok (.goto 36, 3) := by decide +kernel
theorem dX5_round_184 : decode cX5_round 184 = .ok (.iload 6, 2) := by decide +kernel
theorem dX5_round_186 : decode cX5_round 186 = .ok (.ifCond .gt 26, 3) := by decide +kernel
theorem dX5_round_189 : decode cX5_round 189 = .ok (.iload 6, 2) := by decide +kernel
theorem dX5_round_191 : decode cX5_round 191 = .ok (.ifCond .ne 25, 3) := by decide +kernel
theorem dX5_round_194 : decode cX5_round 194 = .ok (.iload_n 2, 1) := by decide +kernel
theorem dX5_round_195 : decode cX5_round 195 = .ok (.iconst 2, 1) := by decide +kernel
theorem dX5_round_196 : decode cX5_round 196 = .ok (.if_icmp .ne 11, 3) := by decide +kernel
theorem dX5_round_199 : decode cX5_round 199 = .ok (.iload 7, 2) := by decide +kernel
theorem dX5_round_201 : decode cX5_round 201 = .ok (.ifCond .ne 15, 3) := by decide +kernel
theorem dX5_round_204 : decode cX5_round 204 = .ok (.goto 8, 3) := by decide +kernel
theorem dX5_round_207 : decode cX5_round 207 = .ok (.iload 8, 2) := by decide +kernel
theorem dX5_round_209 : decode cX5_round 209 = .ok (.ifCond .eq 7, 3) := by decide +kernel
theorem dX5_round_212 : decode cX5_round 212 = .ok (.iconst 1, 1) := by decide +kernel
theorem dX5_round_213 : decode cX5_round 213 = .ok (.goto 4, 3) := by decide +kernel
theorem dX5_round_216 : decode cX5_round 216 = .ok (.iconst 0, 1) := by decide +kernel
theorem dX5_round_217 : decode cX5_round 217 = .ok (.istore 9, 2) := by decide +kernel
theorem dX5_round_219 : decode cX5_round 219 = .ok (.iload 9, 2) := by decide +kernel
theorem dX5_round_221 : decode cX5_round 221 = .ok (.ifCond .eq 15, 3) := by decide +kernel
theorem dX5_round_224 : decode cX5_round 224 = .ok (.aload_n 0, 1) := by decide +kernel
theorem dX5_round_225 : decode cX5_round 225 = .ok (.iconst 5, 1) := by decide +kernel
theorem dX5_round_226 : decode cX5_round 226 = .ok (.lconst 1, 1) := by decide +kernel
theorem dX5_round_227 : decode cX5_round 227 = .ok (.invokevirtual 36, 3) := by decide +kernel
theorem dX5_round_230 : decode cX5_round 230 = .ok (.aload_n 0, 1) := by decide +kernel
theorem dX5_round_231 : decode cX5_round 231 = .ok (.iconst 4, 1) := by decide +kernel
theorem dX5_round_232 : decode cX5_round 232 = .ok (.iconst 5, 1) := by decide +kernel
theorem dX5_round_233 : decode cX5_round 233 = .ok (.invokevirtual 104, 3) := by decide +kernel
theorem dX5_round_236 : decode cX5_round 236 = .ok (.aload_n 0, 1) := by decide +kernel
theorem dX5_round_237 : decode cX5_round 237 = .ok (.iconst 4, 1) := by decide +kernel
theorem dX5_round_238 : decode cX5_round 238 = .ok (.iconst 2, 1) := by decide +kernel
theorem dX5_round_239 : decode cX5_round 239 = .ok (.iconst 5, 1) := by decide +kernel
theorem dX5_round_240 : decode cX5_round 240 = .ok (.invokevirtual 101, 3) := by decide +kernel
theorem dX5_round_243 : decode cX5_round 243 = .ok (.aload_n 0, 1) := by decide +kernel
theorem dX5_round_244 : decode cX5_round 244 = .ok (.iconst 3, 1) := by decide +kernel
theorem dX5_round_245 : decode cX5_round 245 = .ok (.lconst 1, 1) := by decide +kernel
theorem dX5_round_246 : decode cX5_round 246 = .ok (.invokevirtual 36, 3) := by decide +kernel
theorem dX5_round_249 : decode cX5_round 249 = .ok (.aload_n 0, 1) := by decide +kernel
theorem dX5_round_250 : decode cX5_round 250 = .ok (.aload_n 0, 1) := by decide +kernel
theorem dX5_round_251 : decode cX5_round 251 = .ok (.getfield 17, 3) := by decide +kernel
theorem dX5_round_254 : decode cX5_round 254 = .ok (.iload_n 1, 1) := by decide +kernel
theorem dX5_round_255 : decode cX5_round 255 = .ok (.iaload, 1) := by decide +kernel
theorem dX5_round_256 : decode cX5_round 256 = .ok (.iconst 5, 1) := by decide +kernel
theorem dX5_round_257 : decode cX5_round 257 = .ok (.iconst 3, 1) := by decide +kernel
theorem dX5_round_258 : decode cX5_round 258 = .ok (.invokevirtual 87, 3) := by decide +kernel
theorem dX5_round_261 : decode cX5_round 261 = .ok (.ireturn, 1) := by decide +kernel
theorem dX5_length_0 : decode cX5_length 0 = .ok (.iload_n 0, 1) := by decide +kernel
theorem dX5_length_1 : decode cX5_length 1 = .ok (.ifCond .ne 9, 3) := by decide +kernel
theorem dX5_length_4 : decode cX5_length 4 = .ok (.ldc2_w 113, 3) := by decide +kernel
theorem dX5_length_7 : decode cX5_length 7 = .ok (.goto 50, 3) := by decide +kernel
theorem dX5_length_10 : decode cX5_length 10 = .ok (.iload_n 0, 1) := by decide +kernel
theorem dX5_length_11 : decode cX5_length 11 = .ok (.iconst 1, 1) := by decide +kernel
theorem dX5_length_12 : decode cX5_length 12 = .ok (.if_icmp .ne 9, 3) := by decide +kernel
theorem dX5_length_15 : decode cX5_length 15 = .ok (.ldc2_w 115, 3) := by decide +kernel
theorem dX5_length_18 : decode cX5_length 18 = .ok (.goto 39, 3) := by decide +kernel
theorem dX5_length_21 : decode cX5_length 21 = .ok (.iload_n 0, 1) := by decide +kernel
theorem dX5_length_22 : decode cX5_length 22 = .ok (.iconst 2, 1) := by decide +kernel
theorem dX5_length_23 : decode cX5_length 23 = .ok (.if_icmp .ne 9, 3) := by decide +kernel
theorem dX5_length_26 : decode cX5_length 26 = .ok (.ldc2_w 117, 3) := by decide +kernel
theorem dX5_length_29 : decode cX5_length 29 = .ok (.goto 28, 3) := by decide +kernel
theorem dX5_length_32 : decode cX5_length 32 = .ok (.iload_n 0, 1) := by decide +kernel
theorem dX5_length_33 : decode cX5_length 33 = .ok (.iconst 3, 1) := by decide +kernel
theorem dX5_length_34 : decode cX5_length 34 = .ok (.if_icmp .ne 9, 3) := by decide +kernel
theorem dX5_length_37 : decode cX5_length 37 = .ok (.ldc2_w 119, 3) := by decide +kernel
theorem dX5_length_40 : decode cX5_length 40 = .ok (.goto 17, 3) := by decide +kernel
theorem dX5_length_43 : decode cX5_length 43 = .ok (.iload_n 0, 1) := by decide +kernel
theorem dX5_length_44 : decode cX5_length 44 = .ok (.iconst 4, 1) := by decide +kernel
theorem dX5_length_45 : decode cX5_length 45 = .ok (.if_icmp .ne 9, 3) := by decide +kernel
theorem dX5_length_48 : decode cX5_length 48 = .ok (.ldc2_w 121, 3) := by decide +kernel
theorem dX5_length_51 : decode cX5_length 51 = .ok (.goto 6, 3) := by decide +kernel
theorem dX5_length_54 : decode cX5_length 54 = .ok (.ldc2_w 123, 3) := by decide +kernel
theorem dX5_length_57 : decode cX5_length 57 = .ok (.lreturn, 1) := by decide +kernel
theorem dX5_turn_0 : decode cX5_turn 0 = .ok (.aload_n 0, 1) := by decide +kernel
theorem dX5_turn_1 : decode cX5_turn 1 = .ok (.iload_n 1, 1) := by decide +kernel
theorem dX5_turn_2 : decode cX5_turn 2 = .ok (.invokestatic 91, 3) := by decide +kernel
theorem dX5_turn_5 : decode cX5_turn 5 = .ok (.ifCond .ne 21, 3) := by decide +kernel
theorem dX5_turn_8 : decode cX5_turn 8 = .ok (.iload_n 2, 1) := by decide +kernel
theorem dX5_turn_9 : decode cX5_turn 9 = .ok (.ifCond .lt 17, 3) := by decide +kernel
theorem dX5_turn_12 : decode cX5_turn 12 = .ok (.iload_n 2, 1) := by decide +kernel
theorem dX5_turn_13 : decode cX5_turn 13 = .ok (.iconst 5, 1) := by decide +kernel
theorem dX5_turn_14 : decode cX5_turn 14 = .ok (.if_icmp .gt 12, 3) := by decide +kernel
theorem dX5_turn_17 : decode cX5_turn 17 = .ok (.iload_n 3, 1) := by decide +kernel
theorem dX5_turn_18 : decode cX5_turn 18 = .ok (.ifCond .lt 8, 3) := by decide +kernel
theorem dX5_turn_21 : decode cX5_turn 21 = .ok (.iload_n 3, 1) := by decide +kernel
theorem dX5_turn_22 : decode cX5_turn 22 = .ok (.iconst 5, 1) := by decide +kernel
theorem dX5_turn_23 : decode cX5_turn 23 = .ok (.if_icmp .le 7, 3) := by decide +kernel
theorem dX5_turn_26 : decode cX5_turn 26 = .ok (.iconst 1, 1) := by decide +kernel
theorem dX5_turn_27 : decode cX5_turn 27 = .ok (.goto 4, 3) := by decide +kernel
theorem dX5_turn_30 : decode cX5_turn 30 = .ok (.iconst 0, 1) := by decide +kernel
theorem dX5_turn_31 : decode cX5_turn 31 = .ok (.putfield 33, 3) := by decide +kernel
theorem dX5_turn_34 : decode cX5_turn 34 = .ok (.aload_n 0, 1) := by decide +kernel
theorem dX5_turn_35 : decode cX5_turn 35 = .ok (.getfield 33, 3) := by decide +kernel
theorem dX5_turn_38 : decode cX5_turn 38 = .ok (.ifCond .le 5, 3) := by decide +kernel
theorem dX5_turn_41 : decode cX5_turn 41 = .ok (.iconst 0, 1) := by decide +kernel
theorem dX5_turn_42 : decode cX5_turn 42 = .ok (.ireturn, 1) := by decide +kernel
theorem dX5_turn_43 : decode cX5_turn 43 = .ok (.aload_n 0, 1) := by decide +kernel
theorem dX5_turn_44 : decode cX5_turn 44 = .ok (.iload_n 1, 1) := by decide +kernel
theorem dX5_turn_45 : decode cX5_turn 45 = .ok (.iload_n 1, 1) := by decide +kernel
theorem dX5_turn_46 : decode cX5_turn 46 = .ok (.bipush 8, 2) := by decide +kernel
theorem dX5_turn_48 : decode cX5_turn 48 = .ok (.invokevirtual 94, 3) := by decide +kernel
theorem dX5_turn_51 : decode cX5_turn 51 = .ok (.aload_n 0, 1) := by decide +kernel
theorem dX5_turn_52 : decode cX5_turn 52 = .ok (.iload_n 1, 1) := by decide +kernel
theorem dX5_turn_53 : decode cX5_turn 53 = .ok (.iconst 0, 1) := by decide +kernel
theorem dX5_turn_54 : decode cX5_turn 54 = .ok (.iconst 1, 1) := by decide +kernel
theorem dX5_turn_55 : decode cX5_turn 55 = .ok (.invokevirtual 98, 3) := by decide +kernel
theorem dX5_turn_58 : decode cX5_turn 58 = .ok (.aload_n 0, 1) := by decide +kernel
theorem dX5_turn_59 : decode cX5_turn 59 = .ok (.iconst 2, 1) := by decide +kernel
theorem dX5_turn_60 : decode cX5_turn 60 = .ok (.iload_n 2, 1) := by decide +kernel
theorem dX5_turn_61 : decode cX5_turn 61 = .ok (.invokestatic 125, 3) := by decide +kernel
theorem dX5_turn_64 : decode cX5_turn 64 = .ok (.invokevirtual 36, 3) := by decide +kernel
theorem dX5_turn_67 : decode cX5_turn 67 = .ok (.aload_n 0, 1) := by decide +kernel
theorem dX5_turn_68 : decode cX5_turn 68 = .ok (.iconst 3, 1) := by decide +kernel
theorem dX5_turn_69 : decode cX5_turn 69 = .ok (.iload_n 3, 1) := by decide +kernel
theorem dX5_turn_70 : decode cX5_turn 70 = .ok (.invokestatic 125, 3) := by decide +kernel
theorem dX5_turn_73 : decode cX5_turn 73 = .ok (.invokevirtual 36, 3) := by decide +kernel
theorem dX5_turn_76 : decode cX5_turn 76 = .ok (.aload_n 0, 1) := by decide +kernel
theorem dX5_turn_77 : decode cX5_turn 77 = .ok (.iconst 0, 1) := by decide +kernel
theorem dX5_turn_78 : decode cX5_turn 78 = .ok (.iconst 2, 1) := by decide +kernel
theorem dX5_turn_79 : decode cX5_turn 79 = .ok (.iconst 4, 1) := by decide +kernel
theorem dX5_turn_80 : decode cX5_turn 80 = .ok (.invokevirtual 101, 3) := by decide +kernel
theorem dX5_turn_83 : decode cX5_turn 83 = .ok (.aload_n 0, 1) := by decide +kernel
theorem dX5_turn_84 : decode cX5_turn 84 = .ok (.iconst 1, 1) := by decide +kernel
theorem dX5_turn_85 : decode cX5_turn 85 = .ok (.iconst 3, 1) := by decide +kernel
theorem dX5_turn_86 : decode cX5_turn 86 = .ok (.iconst 5, 1) := by decide +kernel
theorem dX5_turn_87 : decode cX5_turn 87 = .ok (.invokevirtual 101, 3) := by decide +kernel
theorem dX5_turn_90 : decode cX5_turn 90 = .ok (.aload_n 0, 1) := by decide +kernel
theorem dX5_turn_91 : decode cX5_turn 91 = .ok (.aload_n 0, 1) := by decide +kernel
theorem dX5_turn_92 : decode cX5_turn 92 = .ok (.getfield 17, 3) := by decide +kernel
theorem dX5_turn_95 : decode cX5_turn 95 = .ok (.iload_n 1, 1) := by decide +kernel
theorem dX5_turn_96 : decode cX5_turn 96 = .ok (.iaload, 1) := by decide +kernel
theorem dX5_turn_97 : decode cX5_turn 97 = .ok (.iconst 4, 1) := by decide +kernel
theorem dX5_turn_98 : decode cX5_turn 98 = .ok (.iconst 5, 1) := by decide +kernel
theorem dX5_turn_99 : decode cX5_turn 99 = .ok (.invokevirtual 87, 3) := by decide +kernel
theorem dX5_turn_102 : decode cX5_turn 102 = .ok (.ireturn, 1) := by decide +kernel
theorem dX5_weight_0 : decode cX5_weight 0 = .ok (.aload_n 0, 1) := by decide +kernel
theorem dX5_weight_1 : decode cX5_weight 1 = .ok (.iconst 0, 1) := by decide +kernel
theorem dX5_weight_2 : decode cX5_weight 2 = .ok (.putfield 33, 3) := by decide +kernel
theorem dX5_weight_5 : decode cX5_weight 5 = .ok (.aload_n 0, 1) := by decide +kernel
theorem dX5_weight_6 : decode cX5_weight 6 = .ok (.getfield 129, 3) := by decide +kernel
theorem dX5_weight_9 : decode cX5_weight 9 = .ok (.bipush 32, 2) := by decide +kernel
theorem dX5_weight_11 : decode cX5_weight 11 = .ok (.if_icmp .eq 17, 3) := by decide +kernel
theorem dX5_weight_14 : decode cX5_weight 14 = .ok (.lload_n 1, 1) := by decide +kernel
theorem dX5_weight_15 : decode cX5_weight 15 = .ok (.lconst 0, 1) := by decide +kernel
theorem dX5_weight_16 : decode cX5_weight 16 = .ok (.lcmp, 1) := by decide +kernel
theorem dX5_weight_17 : decode cX5_weight 17 = .ok (.ifCond .lt 11, 3) := by decide +kernel
theorem dX5_weight_20 : decode cX5_weight 20 = .ok (.lload_n 1, 1) := by decide +kernel
theorem dX5_weight_21 : decode cX5_weight 21 = .ok (.ldc2_w 132, 3) := by decide +kernel
theorem dX5_weight_24 : decode cX5_weight 24 = .ok (.lcmp, 1) := by decide +kernel
theorem dX5_weight_25 : decode cX5_weight 25 = .ok (.ifCond .le 5, 3) := by decide +kernel
theorem dX5_weight_28 : decode cX5_weight 28 = .ok (.iconst 0, 1) := by decide +kernel
theorem dX5_weight_29 : decode cX5_weight 29 = .ok (.ireturn, 1) := by decide +kernel
theorem dX5_weight_30 : decode cX5_weight 30 = .ok (.aload_n 0, 1) := by decide +kernel
theorem dX5_weight_31 : decode cX5_weight 31 = .ok (.getfield 29, 3) := by decide +kernel
theorem dX5_weight_34 : decode cX5_weight 34 = .ok (.aload_n 0, 1) := by decide +kernel
theorem dX5_weight_35 : decode cX5_weight 35 = .ok (.getfield 129, 3) := by decide +kernel
theorem dX5_weight_38 : decode cX5_weight 38 = .ok (.lload_n 1, 1) := by decide +kernel
theorem dX5_weight_39 : decode cX5_weight 39 = .ok (.lastore, 1) := by decide +kernel
theorem dX5_weight_40 : decode cX5_weight 40 = .ok (.aload_n 0, 1) := by decide +kernel
theorem dX5_weight_41 : decode cX5_weight 41 = .ok (.dup, 1) := by decide +kernel
theorem dX5_weight_42 : decode cX5_weight 42 = .ok (.getfield 129, 3) := by decide +kernel
theorem dX5_weight_45 : decode cX5_weight 45 = .ok (.iconst 1, 1) := by decide +kernel
theorem dX5_weight_46 : decode cX5_weight 46 = .ok (.iadd, 1) := by decide +kernel
theorem dX5_weight_47 : decode cX5_weight 47 = .ok (.putfield 129, 3) := by decide +kernel
theorem dX5_weight_50 : decode cX5_weight 50 = .ok (.iconst 1, 1) := by decide +kernel
theorem dX5_weight_51 : decode cX5_weight 51 = .ok (.ireturn, 1) := by decide +kernel
theorem dX5_clearWeights_0 : decode cX5_clearWeights 0 = .ok (.aload_n 0, 1) := by decide +kernel
theorem dX5_clearWeights_1 : decode cX5_clearWeights 1 = .ok (.iconst 0, 1) := by decide +kernel
theorem dX5_clearWeights_2 : decode cX5_clearWeights 2 = .ok (.putfield 33, 3) := by decide +kernel
theorem dX5_clearWeights_5 : decode cX5_clearWeights 5 = .ok (.aload_n 0, 1) := by decide +kernel
theorem dX5_clearWeights_6 : decode cX5_clearWeights 6 = .ok (.iconst 0, 1) := by decide +kernel
theorem dX5_clearWeights_7 : decode cX5_clearWeights 7 = .ok (.putfield 129, 3) := by decide +kernel
theorem dX5_clearWeights_10 : decode cX5_clearWeights 10 = .ok (.iconst 0, 1) := by decide +kernel
theorem dX5_clearWeights_11 : decode cX5_clearWeights 11 = .ok (.istore_n 1, 1) := by decide +kernel
theorem dX5_clearWeights_12 : decode cX5_clearWeights 12 = .ok (.iload_n 1, 1) := by decide +kernel
theorem dX5_clearWeights_13 : decode cX5_clearWeights 13 = .ok (.bipush 32, 2) := by decide +kernel
theorem dX5_clearWeights_15 : decode cX5_clearWeights 15 = .ok (.if_icmp .ge 16, 3) := by decide +kernel
theorem dX5_clearWeights_18 : decode cX5_clearWeights 18 = .ok (.aload_n 0, 1) := by decide +kernel
theorem dX5_clearWeights_19 : decode cX5_clearWeights 19 = .ok (.getfield 29, 3) := by decide +kernel
theorem dX5_clearWeights_22 : decode cX5_clearWeights 22 = .ok (.iload_n 1, 1) := by decide +kernel
theorem dX5_clearWeights_23 : decode cX5_clearWeights 23 = .ok (.lconst 0, 1) := by decide +kernel
theorem dX5_clearWeights_24 : decode cX5_clearWeights 24 = .ok (.lastore, 1) := by decide +kernel
theorem dX5_clearWeights_25 : decode cX5_clearWeights 25 = .ok (.iinc 1 1, 3) := by decide +kernel
theorem dX5_clearWeights_28 : decode cX5_clearWeights 28 = .ok (.goto (-16), 3) := by decide +kernel
theorem dX5_clearWeights_31 : decode cX5_clearWeights 31 = .ok (.return_, 1) := by decide +kernel
theorem dX5_share_0 : decode cX5_share 0 = .ok (.lconst 0, 1) := by decide +kernel
theorem dX5_share_1 : decode cX5_share 1 = .ok (.lstore 4, 2) := by decide +kernel
theorem dX5_share_3 : decode cX5_share 3 = .ok (.iconst 0, 1) := by decide +kernel
theorem dX5_share_4 : decode cX5_share 4 = .ok (.istore 6, 2) := by decide +kernel
theorem dX5_share_6 : decode cX5_share 6 = .ok (.iload 6, 2) := by decide +kernel
theorem dX5_share_8 : decode cX5_share 8 = .ok (.bipush 32, 2) := by decide +kernel
theorem dX5_share_10 : decode cX5_share 10 = .ok (.if_icmp .ge 21, 3) := by decide +kernel
theorem dX5_share_13 : decode cX5_share 13 = .ok (.lload 4, 2) := by decide +kernel
theorem dX5_share_15 : decode cX5_share 15 = .ok (.aload_n 0, 1) := by decide +kernel
theorem dX5_share_16 : decode cX5_share 16 = .ok (.getfield 29, 3) := by decide +kernel
theorem dX5_share_19 : decode cX5_share 19 = .ok (.iload 6, 2) := by decide +kernel
theorem dX5_share_21 : decode cX5_share 21 = .ok (.laload, 1) := by decide +kernel
theorem dX5_share_22 : decode cX5_share 22 = .ok (.ladd, 1) := by decide +kernel
theorem dX5_share_23 : decode cX5_share 23 = .ok (.lstore 4, 2) := by decide +kernel
theorem dX5_share_25 : decode cX5_share 25 = .ok (.iinc 6 1, 3) := by decide +kernel
theorem dX5_share_28 : decode cX5_share 28 = .ok (.goto (-22), 3) := by decide +kernel
theorem dX5_share_31 : decode cX5_share 31 = .ok (.aload_n 0, 1) := by decide +kernel
theorem dX5_share_32 : decode cX5_share 32 = .ok (.iload_n 3, 1) := by decide +kernel
theorem dX5_share_33 : decode cX5_share 33 = .ok (.ifCond .lt 9, 3) := by decide +kernel
theorem dX5_share_36 : decode cX5_share 36 = .ok (.iload_n 3, 1) := by decide +kernel
theorem dX5_share_37 : decode cX5_share 37 = .ok (.bipush 32, 2) := by decide +kernel
theorem dX5_share_39 : decode cX5_share 39 = .ok (.if_icmp .lt 7, 3) := by decide +kernel
theorem dX5_share_42 : decode cX5_share 42 = .ok (.iconst 1, 1) := by decide +kernel
theorem dX5_share_43 : decode cX5_share 43 = .ok (.goto 33, 3) := by decide +kernel
theorem dX5_share_46 : decode cX5_share 46 = .ok (.lload_n 1, 1) := by decide +kernel
theorem dX5_share_47 : decode cX5_share 47 = .ok (.lconst 0, 1) := by decide +kernel
theorem dX5_share_48 : decode cX5_share 48 = .ok (.lcmp, 1) := by decide +kernel
theorem dX5_share_49 : decode cX5_share 49 = .ok (.ifCond .lt 11, 3) := by decide +kernel
theorem dX5_share_52 : decode cX5_share 52 = .ok (.lload_n 1, 1) := by decide +kernel
theorem dX5_share_53 : decode cX5_share 53 = .ok (.ldc2_w 132, 3) := by decide +kernel
theorem dX5_share_56 : decode cX5_share 56 = .ok (.lcmp, 1) := by decide +kernel
theorem dX5_share_57 : decode cX5_share 57 = .ok (.ifCond .le 7, 3) := by decide +kernel
theorem dX5_share_60 : decode cX5_share 60 = .ok (.iconst 2, 1) := by decide +kernel
theorem dX5_share_61 : decode cX5_share 61 = .ok (.goto 15, 3) := by decide +kernel
theorem dX5_share_64 : decode cX5_share 64 = .ok (.lload 4, 2) := by decide +kernel
theorem dX5_share_66 : decode cX5_share 66 = .ok (.lconst 0, 1) := by decide +kernel
theorem dX5_share_67 : decode cX5_share 67 = .ok (.lcmp, 1) := by decide +kernel
theorem dX5_share_68 : decode cX5_share 68 = .ok (.ifCond .ne 7, 3) := by decide +kernel
theorem dX5_share_71 : decode cX5_share 71 = .ok (.iconst 3, 1) := by decide +kernel
theorem dX5_share_72 : decode cX5_share 72 = .ok (.goto 4, 3) := by decide +kernel
theorem dX5_share_75 : decode cX5_share 75 = .ok (.iconst 0, 1) := by decide +kernel
theorem dX5_share_76 : decode cX5_share 76 = .ok (.putfield 33, 3) := by decide +kernel
theorem dX5_share_79 : decode cX5_share 79 = .ok (.aload_n 0, 1) := by decide +kernel
theorem dX5_share_80 : decode cX5_share 80 = .ok (.getfield 33, 3) := by decide +kernel
theorem dX5_share_83 : decode cX5_share 83 = .ok (.ifCond .le 5, 3) := by decide +kernel
theorem dX5_share_86 : decode cX5_share 86 = .ok (.lconst 0, 1) := by decide +kernel
theorem dX5_share_87 : decode cX5_share 87 = .ok (.lreturn, 1) := by decide +kernel
theorem dX5_share_88 : decode cX5_share 88 = .ok (.lload_n 1, 1) := by decide +kernel
theorem dX5_share_89 : decode cX5_share 89 = .ok (.lstore 6, 2) := by decide +kernel
theorem dX5_share_91 : decode cX5_share 91 = .ok (.iconst 0, 1) := by decide +kernel
theorem dX5_share_92 : decode cX5_share 92 = .ok (.istore 8, 2) := by decide +kernel
theorem dX5_share_94 : decode cX5_share 94 = .ok (.lload_n 1, 1) := by decide +kernel
theorem dX5_share_95 : decode cX5_share 95 = .ok (.aload_n 0, 1) := by decide +kernel
theorem dX5_share_96 : decode cX5_share 96 = .ok (.getfield 29, 3) := by decide +kernel
theorem dX5_share_99 : decode cX5_share 99 = .ok (.iload_n 3, 1) := by decide +kernel
theorem dX5_share_100 : decode cX5_share 100 = .ok (.laload, 1) := by decide +kernel
theorem dX5_share_101 : decode cX5_share 101 = .ok (.lmul, 1) := by decide +kernel
theorem dX5_share_102 : decode cX5_share 102 = .ok (.lload 4, 2) := by decide +kernel
theorem dX5_share_104 : decode cX5_share 104 = .ok (.lrem, 1) := by decide +kernel
theorem dX5_share_105 : decode cX5_share 105 = .ok (.lstore 9, 2) := by decide +kernel
theorem dX5_share_107 : decode cX5_share 107 = .ok (.iconst 0, 1) := by decide +kernel
theorem dX5_share_108 : decode cX5_share 108 = .ok (.istore 11, 2) := by decide +kernel
theorem dX5_share_110 : decode cX5_share 110 = .ok (.iload 11, 2) := by decide +kernel
theorem dX5_share_112 : decode cX5_share 112 = .ok (.bipush 32, 2) := by decide +kernel
theorem dX5_share_114 : decode cX5_share 114 = .ok (.if_icmp .ge 73, 3) := by decide +kernel
theorem dX5_share_117 : decode cX5_share 117 = .ok (.lload_n 1, 1) := by decide +kernel
theorem dX5_share_118 : decode cX5_share 118 = .ok (.aload_n 0, 1) := by decide +kernel
theorem dX5_share_119 : decode cX5_share 119 = .ok (.getfield 29, 3) := by decide +kernel
theorem dX5_share_122 : decode cX5_share 122 = .ok (.iload 11, 2) := by decide +kernel
theorem dX5_share_124 : decode cX5_share 124 = .ok (.laload, 1) := by decide +kernel
theorem dX5_share_125 : decode cX5_share 125 = .ok (.lmul, 1) := by decide +kernel
theorem dX5_share_126 : decode cX5_share 126 = .ok (.lload 4, 2) := by decide +kernel
theorem dX5_share_128 : decode cX5_share 128 = .ok (.lrem, 1) := by decide +kernel
theorem dX5_share_129 : decode cX5_share 129 = .ok (.lstore 12, 2) := by decide +kernel
theorem dX5_share_131 : decode cX5_share 131 = .ok (.lload 6, 2) := by decide +kernel
theorem dX5_share_133 : decode cX5_share 133 = .ok (.lload_n 1, 1) := by decide +kernel
theorem dX5_share_134 : decode cX5_share 134 = .ok (.aload_n 0, 1) := by decide +kernel
theorem dX5_share_135 : decode cX5_share 135 = .ok (.getfield 29, 3) := by decide +kernel
theorem dX5_share_138 : decode cX5_share 138 = .ok (.iload 11, 2) := by decide +kernel
theorem dX5_share_140 : decode cX5_share 140 = .ok (.laload, 1) := by decide +kernel
theorem dX5_share_141 : decode cX5_share 141 = .ok (.lmul, 1) := by decide +kernel
theorem dX5_share_142 : decode cX5_share 142 = .ok (.lload 4, 2) := by decide +kernel
theorem dX5_share_144 : decode cX5_share 144 = .ok (.ldiv, 1) := by decide +kernel
theorem dX5_share_145 : decode cX5_share 145 = .ok (.lsub, 1) := by decide +kernel
theorem dX5_share_146 : decode cX5_share 146 = .ok (.lstore 6, 2) := by decide +kernel
theorem dX5_share_148 : decode cX5_share 148 = .ok (.lload 12, 2) := by decide +kernel
theorem dX5_share_150 : decode cX5_share 150 = .ok (.lload 9, 2) := by decide +kernel
theorem dX5_share_152 : decode cX5_share 152 = .ok (.lcmp, 1) := by decide +kernel
theorem dX5_share_153 : decode cX5_share 153 = .ok (.ifCond .gt 17, 3) := by decide +kernel
theorem dX5_share_156 : decode cX5_share 156 = .ok (.lload 12, 2) := by decide +kernel
theorem dX5_share_158 : decode cX5_share 158 = .ok (.lload 9, 2) := by decide +kernel
theorem dX5_share_160 : decode cX5_share 160 = .ok (.lcmp, 1) := by decide +kernel
theorem dX5_share_161 : decode cX5_share 161 = .ok (.ifCond .ne 16, 3) := by decide +kernel
theorem dX5_share_164 : decode cX5_share 164 = .ok (.iload 11, 2) := by decide +kernel
theorem dX5_share_166 : decode cX5_share 166 = .ok (.iload_n 3, 1) := by decide +kernel
theorem dX5_share_167 : decode cX5_share 167 = .ok (.if_icmp .ge 10, 3) := by decide +kernel
theorem dX5_share_170 : decode cX5_share 170 = .ok (.iload 8, 2) := by decide +kernel
theorem dX5_share_172 : decode cX5_share 172 = .ok (.iconst 1, 1) := by decide +kernel
theorem dX5_share_173 : decode cX5_share 173 = .ok (.iadd, 1) := by decide +kernel
theorem dX5_share_174 : decode cX5_share 174 = .ok (.goto 5, 3) := by decide +kernel
theorem dX5_share_177 : decode cX5_share 177 = .ok (.iload 8, 2) := by decide +kernel
theorem dX5_share_179 : decode cX5_share 179 = .ok (.istore 8, 2) := by decide +kernel
theorem dX5_share_181 : decode cX5_share 181 = .ok (.iinc 11 1, 3) := by decide +kernel
theorem dX5_share_184 : decode cX5_share 184 = .ok (.goto (-74), 3) := by decide +kernel
theorem dX5_share_187 : decode cX5_share 187 = .ok (.lload_n 1, 1) := by decide +kernel
theorem dX5_share_188 : decode cX5_share 188 = .ok (.aload_n 0, 1) := by decide +kernel
theorem dX5_share_189 : decode cX5_share 189 = .ok (.getfield 29, 3) := by decide +kernel
theorem dX5_share_192 : decode cX5_share 192 = .ok (.iload_n 3, 1) := by decide +kernel
theorem dX5_share_193 : decode cX5_share 193 = .ok (.laload, 1) := by decide +kernel
theorem dX5_share_194 : decode cX5_share 194 = .ok (.lmul, 1) := by decide +kernel
theorem dX5_share_195 : decode cX5_share 195 = .ok (.lload 4, 2) := by decide +kernel
theorem dX5_share_197 : decode cX5_share 197 = .ok (.ldiv, 1) := by decide +kernel
theorem dX5_share_198 : decode cX5_share 198 = .ok (.iload 8, 2) := by decide +kernel
theorem dX5_share_200 : decode cX5_share 200 = .ok (.i2l, 1) := by decide +kernel
theorem dX5_share_201 : decode cX5_share 201 = .ok (.lload 6, 2) := by decide +kernel
theorem dX5_share_203 : decode cX5_share 203 = .ok (.lcmp, 1) := by decide +kernel
theorem dX5_share_204 : decode cX5_share 204 = .ok (.ifCond .ge 7, 3) := by decide +kernel
theorem dX5_share_207 : decode cX5_share 207 = .ok (.lconst 1, 1) := by decide +kernel
theorem dX5_share_208 : decode cX5_share 208 = .ok (.goto 4, 3) := by decide +kernel
theorem dX5_share_211 : decode cX5_share 211 = .ok (.lconst 0, 1) := by decide +kernel
theorem dX5_share_212 : decode cX5_share 212 = .ok (.ladd, 1) := by decide +kernel
theorem dX5_share_213 : decode cX5_share 213 = .ok (.lreturn, 1) := by decide +kernel
theorem dX5_digit_0 : decode cX5_digit 0 = .ok (.aload_n 0, 1) := by decide +kernel
theorem dX5_digit_1 : decode cX5_digit 1 = .ok (.iload_n 1, 1) := by decide +kernel
theorem dX5_digit_2 : decode cX5_digit 2 = .ok (.invokestatic 91, 3) := by decide +kernel
theorem dX5_digit_5 : decode cX5_digit 5 = .ok (.ifCond .eq 7, 3) := by decide +kernel
theorem dX5_digit_8 : decode cX5_digit 8 = .ok (.iconst 1, 1) := by decide +kernel
theorem dX5_digit_9 : decode cX5_digit 9 = .ok (.goto 17, 3) := by decide +kernel
theorem dX5_digit_12 : decode cX5_digit 12 = .ok (.iload_n 2, 1) := by decide +kernel
theorem dX5_digit_13 : decode cX5_digit 13 = .ok (.ifCond .lt 8, 3) := by decide +kernel
theorem dX5_digit_16 : decode cX5_digit 16 = .ok (.iload_n 2, 1) := by decide +kernel
theorem dX5_digit_17 : decode cX5_digit 17 = .ok (.iconst 1, 1) := by decide +kernel
theorem dX5_digit_18 : decode cX5_digit 18 = .ok (.if_icmp .le 7, 3) := by decide +kernel
theorem dX5_digit_21 : decode cX5_digit 21 = .ok (.iconst 2, 1) := by decide +kernel
theorem dX5_digit_22 : decode cX5_digit 22 = .ok (.goto 4, 3) := by decide +kernel
theorem dX5_digit_25 : decode cX5_digit 25 = .ok (.iconst 0, 1) := by decide +kernel
theorem dX5_digit_26 : decode cX5_digit 26 = .ok (.putfield 33, 3) := by decide +kernel
theorem dX5_digit_29 : decode cX5_digit 29 = .ok (.aload_n 0, 1) := by decide +kernel
theorem dX5_digit_30 : decode cX5_digit 30 = .ok (.getfield 33, 3) := by decide +kernel
theorem dX5_digit_33 : decode cX5_digit 33 = .ok (.ifCond .le 5, 3) := by decide +kernel
theorem dX5_digit_36 : decode cX5_digit 36 = .ok (.iconst 0, 1) := by decide +kernel
theorem dX5_digit_37 : decode cX5_digit 37 = .ok (.ireturn, 1) := by decide +kernel
theorem dX5_digit_38 : decode cX5_digit 38 = .ok (.aload_n 0, 1) := by decide +kernel
theorem dX5_digit_39 : decode cX5_digit 39 = .ok (.iload_n 1, 1) := by decide +kernel
theorem dX5_digit_40 : decode cX5_digit 40 = .ok (.iload_n 1, 1) := by decide +kernel
theorem dX5_digit_41 : decode cX5_digit 41 = .ok (.iconst 4, 1) := by decide +kernel
theorem dX5_digit_42 : decode cX5_digit 42 = .ok (.invokevirtual 94, 3) := by decide +kernel
theorem dX5_digit_45 : decode cX5_digit 45 = .ok (.aload_n 0, 1) := by decide +kernel
theorem dX5_digit_46 : decode cX5_digit 46 = .ok (.iload_n 1, 1) := by decide +kernel
theorem dX5_digit_47 : decode cX5_digit 47 = .ok (.iconst 0, 1) := by decide +kernel
theorem dX5_digit_48 : decode cX5_digit 48 = .ok (.iconst 1, 1) := by decide +kernel
theorem dX5_digit_49 : decode cX5_digit 49 = .ok (.invokevirtual 98, 3) := by decide +kernel
theorem dX5_digit_52 : decode cX5_digit 52 = .ok (.iload_n 2, 1) := by decide +kernel
theorem dX5_digit_53 : decode cX5_digit 53 = .ok (.iconst 1, 1) := by decide +kernel
theorem dX5_digit_54 : decode cX5_digit 54 = .ok (.if_icmp .ne 9, 3) := by decide +kernel
theorem dX5_digit_57 : decode cX5_digit 57 = .ok (.aload_n 0, 1) := by decide +kernel
theorem dX5_digit_58 : decode cX5_digit 58 = .ok (.iconst 0, 1) := by decide +kernel
theorem dX5_digit_59 : decode cX5_digit 59 = .ok (.iconst 1, 1) := by decide +kernel
theorem dX5_digit_60 : decode cX5_digit 60 = .ok (.invokevirtual 62, 3) := by decide +kernel
theorem dX5_digit_63 : decode cX5_digit 63 = .ok (.aload_n 0, 1) := by decide +kernel
theorem dX5_digit_64 : decode cX5_digit 64 = .ok (.iconst 1, 1) := by decide +kernel
theorem dX5_digit_65 : decode cX5_digit 65 = .ok (.ldc2_w 134, 3) := by decide +kernel
theorem dX5_digit_68 : decode cX5_digit 68 = .ok (.invokevirtual 36, 3) := by decide +kernel
theorem dX5_digit_71 : decode cX5_digit 71 = .ok (.iconst 0, 1) := by decide +kernel
theorem dX5_digit_72 : decode cX5_digit 72 = .ok (.istore 4, 2) := by decide +kernel
theorem dX5_digit_74 : decode cX5_digit 74 = .ok (.aload_n 0, 1) := by decide +kernel
theorem dX5_digit_75 : decode cX5_digit 75 = .ok (.iconst 2, 1) := by decide +kernel
theorem dX5_digit_76 : decode cX5_digit 76 = .ok (.iconst 0, 1) := by decide +kernel
theorem dX5_digit_77 : decode cX5_digit 77 = .ok (.invokevirtual 62, 3) := by decide +kernel
theorem dX5_digit_80 : decode cX5_digit 80 = .ok (.iload 4, 2) := by decide +kernel
theorem dX5_digit_82 : decode cX5_digit 82 = .ok (.ifCond .eq 11, 3) := by decide +kernel
theorem dX5_digit_85 : decode cX5_digit 85 = .ok (.aload_n 0, 1) := by decide +kernel
theorem dX5_digit_86 : decode cX5_digit 86 = .ok (.iconst 2, 1) := by decide +kernel
theorem dX5_digit_87 : decode cX5_digit 87 = .ok (.invokevirtual 58, 3) := by decide +kernel
theorem dX5_digit_90 : decode cX5_digit 90 = .ok (.ifCond .ne 23, 3) := by decide +kernel
theorem dX5_digit_93 : decode cX5_digit 93 = .ok (.aload_n 0, 1) := by decide +kernel
theorem dX5_digit_94 : decode cX5_digit 94 = .ok (.iconst 2, 1) := by decide +kernel
theorem dX5_digit_95 : decode cX5_digit 95 = .ok (.iconst 1, 1) := by decide +kernel
theorem dX5_digit_96 : decode cX5_digit 96 = .ok (.iconst 3, 1) := by decide +kernel
theorem dX5_digit_97 : decode cX5_digit 97 = .ok (.iconst 4, 1) := by decide +kernel
theorem dX5_digit_98 : decode cX5_digit 98 = .ok (.invokevirtual 80, 3) := by decide +kernel
theorem dX5_digit_101 : decode cX5_digit 101 = .ok (.aload_n 0, 1) := by decide +kernel
theorem dX5_digit_102 : decode cX5_digit 102 = .ok (.iconst 2, 1) := by decide +kernel
theorem dX5_digit_103 : decode cX5_digit 103 = .ok (.iconst 3, 1) := by decide +kernel
theorem dX5_digit_104 : decode cX5_digit 104 = .ok (.invokevirtual 62, 3) := by decide +kernel
theorem dX5_digit_107 : decode cX5_digit 107 = .ok (.iinc 4 1, 3) := by decide +kernel
theorem dX5_digit_110 : decode cX5_digit 110 = .ok (.goto (-30), 3) := by decide +kernel
theorem dX5_digit_113 : decode cX5_digit 113 = .ok (.aload_n 0, 1) := by decide +kernel
theorem dX5_digit_114 : decode cX5_digit 114 = .ok (.iload_n 3, 1) := by decide +kernel
theorem dX5_digit_115 : decode cX5_digit 115 = .ok (.ifCond .lt 9, 3) := by decide +kernel
theorem dX5_digit_118 : decode cX5_digit 118 = .ok (.iload_n 3, 1) := by decide +kernel
theorem dX5_digit_119 : decode cX5_digit 119 = .ok (.iload 4, 2) := by decide +kernel
theorem dX5_digit_121 : decode cX5_digit 121 = .ok (.if_icmp .lt 7, 3) := by decide +kernel
theorem dX5_digit_124 : decode cX5_digit 124 = .ok (.iconst 1, 1) := by decide +kernel
theorem dX5_digit_125 : decode cX5_digit 125 = .ok (.goto 4, 3) := by decide +kernel
theorem dX5_digit_128 : decode cX5_digit 128 = .ok (.iconst 0, 1) := by decide +kernel
theorem dX5_digit_129 : decode cX5_digit 129 = .ok (.putfield 33, 3) := by decide +kernel
theorem dX5_digit_132 : decode cX5_digit 132 = .ok (.iconst 0, 1) := by decide +kernel
theorem dX5_digit_133 : decode cX5_digit 133 = .ok (.istore 5, 2) := by decide +kernel
theorem dX5_digit_135 : decode cX5_digit 135 = .ok (.iconst 0, 1) := by decide +kernel
theorem dX5_digit_136 : decode cX5_digit 136 = .ok (.istore 6, 2) := by decide +kernel
theorem dX5_digit_138 : decode cX5_digit 138 = .ok (.iload 6, 2) := by decide +kernel
theorem dX5_digit_140 : decode cX5_digit 140 = .ok (.iload 4, 2) := by decide +kernel
theorem dX5_digit_142 : decode cX5_digit 142 = .ok (.iload_n 3, 1) := by decide +kernel
theorem dX5_digit_143 : decode cX5_digit 143 = .ok (.isub, 1) := by decide +kernel
theorem dX5_digit_144 : decode cX5_digit 144 = .ok (.if_icmp .ge 40, 3) := by decide +kernel
theorem dX5_digit_147 : decode cX5_digit 147 = .ok (.aload_n 0, 1) := by decide +kernel
theorem dX5_digit_148 : decode cX5_digit 148 = .ok (.getfield 33, 3) := by decide +kernel
theorem dX5_digit_151 : decode cX5_digit 151 = .ok (.ifCond .ne 33, 3) := by decide +kernel
theorem dX5_digit_154 : decode cX5_digit 154 = .ok (.aload_n 0, 1) := by decide +kernel
theorem dX5_digit_155 : decode cX5_digit 155 = .ok (.iconst 0, 1) := by decide +kernel
theorem dX5_digit_156 : decode cX5_digit 156 = .ok (.iconst 1, 1) := by decide +kernel
theorem dX5_digit_157 : decode cX5_digit 157 = .ok (.iconst 3, 1) := by decide +kernel
theorem dX5_digit_158 : decode cX5_digit 158 = .ok (.iconst 4, 1) := by decide +kernel
theorem dX5_digit_159 : decode cX5_digit 159 = .ok (.invokevirtual 80, 3) := by decide +kernel
theorem dX5_digit_162 : decode cX5_digit 162 = .ok (.aload_n 0, 1) := by decide +kernel
theorem dX5_digit_163 : decode cX5_digit 163 = .ok (.getfield 13, 3) := by decide +kernel
theorem dX5_digit_166 : decode cX5_digit 166 = .ok (.sipush 640, 3) := by decide +kernel
theorem dX5_digit_169 : decode cX5_digit 169 = .ok (.iaload, 1) := by decide +kernel
theorem dX5_digit_170 : decode cX5_digit 170 = .ok (.istore 5, 2) := by decide +kernel
theorem dX5_digit_172 : decode cX5_digit 172 = .ok (.aload_n 0, 1) := by decide +kernel
theorem dX5_digit_173 : decode cX5_digit 173 = .ok (.iconst 0, 1) := by decide +kernel
theorem dX5_digit_174 : decode cX5_digit 174 = .ok (.iconst 3, 1) := by decide +kernel
theorem dX5_digit_175 : decode cX5_digit 175 = .ok (.invokevirtual 62, 3) := by decide +kernel
theorem dX5_digit_178 : decode cX5_digit 178 = .ok (.iinc 6 1, 3) := by decide +kernel
theorem dX5_digit_181 : decode cX5_digit 181 = .ok (.goto (-43), 3) := by decide +kernel
theorem dX5_digit_184 : decode cX5_digit 184 = .ok (.iload 5, 2) := by decide +kernel
theorem dX5_digit_186 : decode cX5_digit 186 = .ok (.ireturn, 1) := by decide +kernel
theorem dX5_bits_0 : decode cX5_bits 0 = .ok (.aload_n 0, 1) := by decide +kernel
theorem dX5_bits_1 : decode cX5_bits 1 = .ok (.iload_n 1, 1) := by decide +kernel
theorem dX5_bits_2 : decode cX5_bits 2 = .ok (.invokestatic 91, 3) := by decide +kernel
theorem dX5_bits_5 : decode cX5_bits 5 = .ok (.ifCond .eq 7, 3) := by decide +kernel
theorem dX5_bits_8 : decode cX5_bits 8 = .ok (.iconst 1, 1) := by decide +kernel
theorem dX5_bits_9 : decode cX5_bits 9 = .ok (.goto 4, 3) := by decide +kernel
theorem dX5_bits_12 : decode cX5_bits 12 = .ok (.iconst 0, 1) := by decide +kernel
theorem dX5_bits_13 : decode cX5_bits 13 = .ok (.putfield 33, 3) := by decide +kernel
theorem dX5_bits_16 : decode cX5_bits 16 = .ok (.aload_n 0, 1) := by decide +kernel
theorem dX5_bits_17 : decode cX5_bits 17 = .ok (.getfield 33, 3) := by decide +kernel
theorem dX5_bits_20 : decode cX5_bits 20 = .ok (.ifCond .le 5, 3) := by decide +kernel
theorem dX5_bits_23 : decode cX5_bits 23 = .ok (.iconst 0, 1) := by decide +kernel
theorem dX5_bits_24 : decode cX5_bits 24 = .ok (.ireturn, 1) := by decide +kernel
theorem dX5_bits_25 : decode cX5_bits 25 = .ok (.aload_n 0, 1) := by decide +kernel
theorem dX5_bits_26 : decode cX5_bits 26 = .ok (.iload_n 1, 1) := by decide +kernel
theorem dX5_bits_27 : decode cX5_bits 27 = .ok (.iload_n 1, 1) := by decide +kernel
theorem dX5_bits_28 : decode cX5_bits 28 = .ok (.iconst 4, 1) := by decide +kernel
theorem dX5_bits_29 : decode cX5_bits 29 = .ok (.invokevirtual 94, 3) := by decide +kernel
theorem dX5_bits_32 : decode cX5_bits 32 = .ok (.aload_n 0, 1) := by decide +kernel
theorem dX5_bits_33 : decode cX5_bits 33 = .ok (.iload_n 1, 1) := by decide +kernel
theorem dX5_bits_34 : decode cX5_bits 34 = .ok (.iconst 0, 1) := by decide +kernel
theorem dX5_bits_35 : decode cX5_bits 35 = .ok (.iconst 1, 1) := by decide +kernel
theorem dX5_bits_36 : decode cX5_bits 36 = .ok (.invokevirtual 98, 3) := by decide +kernel
theorem dX5_bits_39 : decode cX5_bits 39 = .ok (.aload_n 0, 1) := by decide +kernel
theorem dX5_bits_40 : decode cX5_bits 40 = .ok (.getfield 17, 3) := by decide +kernel
theorem dX5_bits_43 : decode cX5_bits 43 = .ok (.iload_n 1, 1) := by decide +kernel
theorem dX5_bits_44 : decode cX5_bits 44 = .ok (.iaload, 1) := by decide +kernel
theorem dX5_bits_45 : decode cX5_bits 45 = .ok (.ifCond .ne 7, 3) := by decide +kernel
theorem dX5_bits_48 : decode cX5_bits 48 = .ok (.iconst 0, 1) := by decide +kernel
theorem dX5_bits_49 : decode cX5_bits 49 = .ok (.goto 14, 3) := by decide +kernel
theorem dX5_bits_52 : decode cX5_bits 52 = .ok (.aload_n 0, 1) := by decide +kernel
theorem dX5_bits_53 : decode cX5_bits 53 = .ok (.iconst 0, 1) := by decide +kernel
theorem dX5_bits_54 : decode cX5_bits 54 = .ok (.invokevirtual 42, 3) := by decide +kernel
theorem dX5_bits_57 : decode cX5_bits 57 = .ok (.aload_n 0, 1) := by decide +kernel
theorem dX5_bits_58 : decode cX5_bits 58 = .ok (.iconst 1, 1) := by decide +kernel
theorem dX5_bits_59 : decode cX5_bits 59 = .ok (.invokevirtual 42, 3) := by decide +kernel
theorem dX5_bits_62 : decode cX5_bits 62 = .ok (.iadd, 1) := by decide +kernel
theorem dX5_bits_63 : decode cX5_bits 63 = .ok (.ireturn, 1) := by decide +kernel
theorem dX5_sign_0 : decode cX5_sign 0 = .ok (.aload_n 0, 1) := by decide +kernel
theorem dX5_sign_1 : decode cX5_sign 1 = .ok (.iload_n 1, 1) := by decide +kernel
theorem dX5_sign_2 : decode cX5_sign 2 = .ok (.invokestatic 91, 3) := by decide +kernel
theorem dX5_sign_5 : decode cX5_sign 5 = .ok (.ifCond .eq 7, 3) := by decide +kernel
theorem dX5_sign_8 : decode cX5_sign 8 = .ok (.iconst 1, 1) := by decide +kernel
theorem dX5_sign_9 : decode cX5_sign 9 = .ok (.goto 4, 3) := by decide +kernel
theorem dX5_sign_12 : decode cX5_sign 12 = .ok (.iconst 0, 1) := by decide +kernel
theorem dX5_sign_13 : decode cX5_sign 13 = .ok (.putfield 33, 3) := by decide +kernel
theorem dX5_sign_16 : decode cX5_sign 16 = .ok (.aload_n 0, 1) := by decide +kernel
theorem dX5_sign_17 : decode cX5_sign 17 = .ok (.getfield 33, 3) := by decide +kernel
theorem dX5_sign_20 : decode cX5_sign 20 = .ok (.ifCond .le 7, 3) := by decide +kernel
theorem dX5_sign_23 : decode cX5_sign 23 = .ok (.iconst 0, 1) := by decide +kernel
theorem dX5_sign_24 : decode cX5_sign 24 = .ok (.goto 9, 3) := by decide +kernel
theorem dX5_sign_27 : decode cX5_sign 27 = .ok (.aload_n 0, 1) := by decide +kernel
theorem dX5_sign_28 : decode cX5_sign 28 = .ok (.getfield 17, 3) := by decide +kernel
theorem dX5_sign_31 : decode cX5_sign 31 = .ok (.iload_n 1, 1) := by decide +kernel
theorem dX5_sign_32 : decode cX5_sign 32 = .ok (.iaload, 1) := by decide +kernel
theorem dX5_sign_33 : decode cX5_sign 33 = .ok (.ireturn, 1) := by decide +kernel
end
section
theorem dL_value_0 : decode cL_value 0 = .ok (.aload 5, 2) := by decide +kernel
theorem dL_value_2 : decode cL_value 2 = .ok (.iconst 0, 1) := by decide +kernel
theorem dL_value_3 : decode cL_value 3 = .ok (.aload_n 0, 1) := by decide +kernel
theorem dL_value_4 : decode cL_value 4 = .ok (.lload_n 1, 1) := by decide +kernel
theorem dL_value_5 : decode cL_value 5 = .ok (.lload_n 3, 1) := by decide +kernel
theorem dL_value_6 : decode cL_value 6 = .ok (.invokevirtual 7, 3) := by decide +kernel
theorem dL_value_9 : decode cL_value 9 = .ok (.i2l, 1) := by decide +kernel
theorem dL_value_10 : decode cL_value 10 = .ok (.lastore, 1) := by decide +kernel
theorem dL_value_11 : decode cL_value 11 = .ok (.goto 7, 3) := by decide +kernel
theorem dL_value_14 : decode cL_value 14 = .ok (.astore 6, 2) := by decide +kernel
theorem dL_value_16 : decode cL_value 16 = .ok (.iconst 1, 1) := by decide +kernel
theorem dL_value_17 : decode cL_value 17 = .ok (.ireturn, 1) := by decide +kernel
theorem dL_value_18 : decode cL_value 18 = .ok (.iconst 0, 1) := by decide +kernel
theorem dL_value_19 : decode cL_value 19 = .ok (.ireturn, 1) := by decide +kernel
theorem dL_add_0 : decode cL_add 0 = .ok (.aload_n 3, 1) := by decide +kernel
theorem dL_add_1 : decode cL_add 1 = .ok (.iconst 0, 1) := by decide +kernel
theorem dL_add_2 : decode cL_add 2 = .ok (.aload_n 0, 1) := by decide +kernel
theorem dL_add_3 : decode cL_add 3 = .ok (.iload_n 1, 1) := by decide +kernel
theorem dL_add_4 : decode cL_add 4 = .ok (.iload_n 2, 1) := by decide +kernel
theorem dL_add_5 : decode cL_add 5 = .ok (.invokevirtual 15, 3) := by decide +kernel
theorem dL_add_8 : decode cL_add 8 = .ok (.i2l, 1) := by decide +kernel
theorem dL_add_9 : decode cL_add 9 = .ok (.lastore, 1) := by decide +kernel
theorem dL_add_10 : decode cL_add 10 = .ok (.goto 7, 3) := by decide +kernel
theorem dL_add_13 : decode cL_add 13 = .ok (.astore 4, 2) := by decide +kernel
theorem dL_add_15 : decode cL_add 15 = .ok (.iconst 1, 1) := by decide +kernel
theorem dL_add_16 : decode cL_add 16 = .ok (.ireturn, 1) := by decide +kernel
theorem dL_add_17 : decode cL_add 17 = .ok (.iconst 0, 1) := by decide +kernel
theorem dL_add_18 : decode cL_add 18 = .ok (.ireturn, 1) := by decide +kernel
theorem dL_times_0 : decode cL_times 0 = .ok (.aload_n 3, 1) := by decide +kernel
theorem dL_times_1 : decode cL_times 1 = .ok (.iconst 0, 1) := by decide +kernel
theorem dL_times_2 : decode cL_times 2 = .ok (.aload_n 0, 1) := by decide +kernel
theorem dL_times_3 : decode cL_times 3 = .ok (.iload_n 1, 1) := by decide +kernel
theorem dL_times_4 : decode cL_times 4 = .ok (.iload_n 2, 1) := by decide +kernel
theorem dL_times_5 : decode cL_times 5 = .ok (.invokevirtual 21, 3) := by decide +kernel
theorem dL_times_8 : decode cL_times 8 = .ok (.i2l, 1) := by decide +kernel
theorem dL_times_9 : decode cL_times 9 = .ok (.lastore, 1) := by decide +kernel
theorem dL_times_10 : decode cL_times 10 = .ok (.goto 7, 3) := by decide +kernel
theorem dL_times_13 : decode cL_times 13 = .ok (.astore 4, 2) := by decide +kernel
theorem dL_times_15 : decode cL_times 15 = .ok (.iconst 1, 1) := by decide +kernel
theorem dL_times_16 : decode cL_times 16 = .ok (.ireturn, 1) := by decide +kernel
theorem dL_times_17 : decode cL_times 17 = .ok (.iconst 0, 1) := by decide +kernel
theorem dL_times_18 : decode cL_times 18 = .ok (.ireturn, 1) := by decide +kernel
theorem dL_over_0 : decode cL_over 0 = .ok (.aload_n 3, 1) := by decide +kernel
theorem dL_over_1 : decode cL_over 1 = .ok (.iconst 0, 1) := by decide +kernel
theorem dL_over_2 : decode cL_over 2 = .ok (.aload_n 0, 1) := by decide +kernel
theorem dL_over_3 : decode cL_over 3 = .ok (.iload_n 1, 1) := by decide +kernel
theorem dL_over_4 : decode cL_over 4 = .ok (.iload_n 2, 1) := by decide +kernel
theorem dL_over_5 : decode cL_over 5 = .ok (.invokevirtual 24, 3) := by decide +kernel
theorem dL_over_8 : decode cL_over 8 = .ok (.i2l, 1) := by decide +kernel
theorem dL_over_9 : decode cL_over 9 = .ok (.lastore, 1) := by decide +kernel
theorem dL_over_10 : decode cL_over 10 = .ok (.goto 11, 3) := by decide +kernel
theorem dL_over_13 : decode cL_over 13 = .ok (.astore 4, 2) := by decide +kernel
theorem dL_over_15 : decode cL_over 15 = .ok (.iconst 1, 1) := by decide +kernel
theorem dL_over_16 : decode cL_over 16 = .ok (.ireturn, 1) := by decide +kernel
theorem dL_over_17 : decode cL_over 17 = .ok (.astore 4, 2) := by decide +kernel
theorem dL_over_19 : decode cL_over 19 = .ok (.iconst 2, 1) := by decide +kernel
theorem dL_over_20 : decode cL_over 20 = .ok (.ireturn, 1) := by decide +kernel
theorem dL_over_21 : decode cL_over 21 = .ok (.iconst 0, 1) := by decide +kernel
theorem dL_over_22 : decode cL_over 22 = .ok (.ireturn, 1) := by decide +kernel
theorem dL_order_0 : decode cL_order 0 = .ok (.aload_n 3, 1) := by decide +kernel
theorem dL_order_1 : decode cL_order 1 = .ok (.iconst 0, 1) := by decide +kernel
theorem dL_order_2 : decode cL_order 2 = .ok (.aload_n 0, 1) := by decide +kernel
theorem dL_order_3 : decode cL_order 3 = .ok (.iload_n 1, 1) := by decide +kernel
theorem dL_order_4 : decode cL_order 4 = .ok (.iload_n 2, 1) := by decide +kernel
theorem dL_order_5 : decode cL_order 5 = .ok (.invokevirtual 27, 3) := by decide +kernel
theorem dL_order_8 : decode cL_order 8 = .ok (.i2l, 1) := by decide +kernel
theorem dL_order_9 : decode cL_order 9 = .ok (.lastore, 1) := by decide +kernel
theorem dL_order_10 : decode cL_order 10 = .ok (.goto 7, 3) := by decide +kernel
theorem dL_order_13 : decode cL_order 13 = .ok (.astore 4, 2) := by decide +kernel
theorem dL_order_15 : decode cL_order 15 = .ok (.iconst 1, 1) := by decide +kernel
theorem dL_order_16 : decode cL_order 16 = .ok (.ireturn, 1) := by decide +kernel
theorem dL_order_17 : decode cL_order 17 = .ok (.iconst 0, 1) := by decide +kernel
theorem dL_order_18 : decode cL_order 18 = .ok (.ireturn, 1) := by decide +kernel
theorem dL_root_0 : decode cL_root 0 = .ok (.aload_n 3, 1) := by decide +kernel
theorem dL_root_1 : decode cL_root 1 = .ok (.iconst 0, 1) := by decide +kernel
theorem dL_root_2 : decode cL_root 2 = .ok (.aload_n 0, 1) := by decide +kernel
theorem dL_root_3 : decode cL_root 3 = .ok (.iload_n 1, 1) := by decide +kernel
theorem dL_root_4 : decode cL_root 4 = .ok (.iload_n 2, 1) := by decide +kernel
theorem dL_root_5 : decode cL_root 5 = .ok (.invokevirtual 30, 3) := by decide +kernel
theorem dL_root_8 : decode cL_root 8 = .ok (.i2l, 1) := by decide +kernel
theorem dL_root_9 : decode cL_root 9 = .ok (.lastore, 1) := by decide +kernel
theorem dL_root_10 : decode cL_root 10 = .ok (.goto 11, 3) := by decide +kernel
theorem dL_root_13 : decode cL_root 13 = .ok (.astore 4, 2) := by decide +kernel
theorem dL_root_15 : decode cL_root 15 = .ok (.iconst 1, 1) := by decide +kernel
theorem dL_root_16 : decode cL_root 16 = .ok (.ireturn, 1) := by decide +kernel
theorem dL_root_17 : decode cL_root 17 = .ok (.astore 4, 2) := by decide +kernel
theorem dL_root_19 : decode cL_root 19 = .ok (.iconst 2, 1) := by decide +kernel
theorem dL_root_20 : decode cL_root 20 = .ok (.ireturn, 1) := by decide +kernel
theorem dL_root_21 : decode cL_root 21 = .ok (.iconst 0, 1) := by decide +kernel
theorem dL_root_22 : decode cL_root 22 = .ok (.ireturn, 1) := by decide +kernel
theorem dL_end_0 : decode cL_end 0 = .ok (.aload_n 3, 1) := by decide +kernel
theorem dL_end_1 : decode cL_end 1 = .ok (.iconst 0, 1) := by decide +kernel
theorem dL_end_2 : decode cL_end 2 = .ok (.aload_n 0, 1) := by decide +kernel
theorem dL_end_3 : decode cL_end 3 = .ok (.iload_n 1, 1) := by decide +kernel
theorem dL_end_4 : decode cL_end 4 = .ok (.iload_n 2, 1) := by decide +kernel
theorem dL_end_5 : decode cL_end 5 = .ok (.invokevirtual 35, 3) := by decide +kernel
theorem dL_end_8 : decode cL_end 8 = .ok (.i2l, 1) := by decide +kernel
theorem dL_end_9 : decode cL_end 9 = .ok (.lastore, 1) := by decide +kernel
theorem dL_end_10 : decode cL_end 10 = .ok (.goto 7, 3) := by decide +kernel
theorem dL_end_13 : decode cL_end 13 = .ok (.astore 4, 2) := by decide +kernel
theorem dL_end_15 : decode cL_end 15 = .ok (.iconst 1, 1) := by decide +kernel
theorem dL_end_16 : decode cL_end 16 = .ok (.ireturn, 1) := by decide +kernel
theorem dL_end_17 : decode cL_end 17 = .ok (.iconst 0, 1) := by decide +kernel
theorem dL_end_18 : decode cL_end 18 = .ok (.ireturn, 1) := by decide +kernel
theorem dL_round_0 : decode cL_round 0 = .ok (.aload 5, 2) := by decide +kernel
theorem dL_round_2 : decode cL_round 2 = .ok (.iconst 0, 1) := by decide +kernel
theorem dL_round_3 : decode cL_round 3 = .ok (.aload_n 0, 1) := by decide +kernel
theorem dL_round_4 : decode cL_round 4 = .ok (.iload_n 1, 1) := by decide +kernel
theorem dL_round_5 : decode cL_round 5 = .ok (.iload_n 2, 1) := by decide +kernel
theorem dL_round_6 : decode cL_round 6 = .ok (.lload_n 3, 1) := by decide +kernel
theorem dL_round_7 : decode cL_round 7 = .ok (.invokevirtual 38, 3) := by decide +kernel
theorem dL_round_10 : decode cL_round 10 = .ok (.i2l, 1) := by decide +kernel
theorem dL_round_11 : decode cL_round 11 = .ok (.lastore, 1) := by decide +kernel
theorem dL_round_12 : decode cL_round 12 = .ok (.goto 11, 3) := by decide +kernel
theorem dL_round_15 : decode cL_round 15 = .ok (.astore 6, 2) := by decide +kernel
theorem dL_round_17 : decode cL_round 17 = .ok (.iconst 1, 1) := by decide +kernel
theorem dL_round_18 : decode cL_round 18 = .ok (.ireturn, 1) := by decide +kernel
theorem dL_round_19 : decode cL_round 19 = .ok (.astore 6, 2) := by decide +kernel
theorem dL_round_21 : decode cL_round 21 = .ok (.iconst 2, 1) := by decide +kernel
theorem dL_round_22 : decode cL_round 22 = .ok (.ireturn, 1) := by decide +kernel
theorem dL_round_23 : decode cL_round 23 = .ok (.iconst 0, 1) := by decide +kernel
theorem dL_round_24 : decode cL_round 24 = .ok (.ireturn, 1) := by decide +kernel
theorem dL_turn_0 : decode cL_turn 0 = .ok (.aload 4, 2) := by decide +kernel
theorem dL_turn_2 : decode cL_turn 2 = .ok (.iconst 0, 1) := by decide +kernel
theorem dL_turn_3 : decode cL_turn 3 = .ok (.aload_n 0, 1) := by decide +kernel
theorem dL_turn_4 : decode cL_turn 4 = .ok (.iload_n 1, 1) := by decide +kernel
theorem dL_turn_5 : decode cL_turn 5 = .ok (.iload_n 2, 1) := by decide +kernel
theorem dL_turn_6 : decode cL_turn 6 = .ok (.iload_n 3, 1) := by decide +kernel
theorem dL_turn_7 : decode cL_turn 7 = .ok (.invokevirtual 42, 3) := by decide +kernel
theorem dL_turn_10 : decode cL_turn 10 = .ok (.i2l, 1) := by decide +kernel
theorem dL_turn_11 : decode cL_turn 11 = .ok (.lastore, 1) := by decide +kernel
theorem dL_turn_12 : decode cL_turn 12 = .ok (.goto 7, 3) := by decide +kernel
theorem dL_turn_15 : decode cL_turn 15 = .ok (.astore 5, 2) := by decide +kernel
theorem dL_turn_17 : decode cL_turn 17 = .ok (.iconst 1, 1) := by decide +kernel
theorem dL_turn_18 : decode cL_turn 18 = .ok (.ireturn, 1) := by decide +kernel
theorem dL_turn_19 : decode cL_turn 19 = .ok (.iconst 0, 1) := by decide +kernel
theorem dL_turn_20 : decode cL_turn 20 = .ok (.ireturn, 1) := by decide +kernel
theorem dL_share_0 : decode cL_share 0 = .ok (.aload 4, 2) := by decide +kernel
theorem dL_share_2 : decode cL_share 2 = .ok (.iconst 0, 1) := by decide +kernel
theorem dL_share_3 : decode cL_share 3 = .ok (.aload_n 0, 1) := by decide +kernel
theorem dL_share_4 : decode cL_share 4 = .ok (.lload_n 1, 1) := by decide +kernel
theorem dL_share_5 : decode cL_share 5 = .ok (.iload_n 3, 1) := by decide +kernel
theorem dL_share_6 : decode cL_share 6 = .ok (.invokevirtual 46, 3) := by decide +kernel
theorem dL_share_9 : decode cL_share 9 = .ok (.lastore, 1) := by decide +kernel
theorem dL_share_10 : decode cL_share 10 = .ok (.goto 15, 3) := by decide +kernel
theorem dL_share_13 : decode cL_share 13 = .ok (.astore 5, 2) := by decide +kernel
theorem dL_share_15 : decode cL_share 15 = .ok (.iconst 1, 1) := by decide +kernel
theorem dL_share_16 : decode cL_share 16 = .ok (.ireturn, 1) := by decide +kernel
theorem dL_share_17 : decode cL_share 17 = .ok (.astore 5, 2) := by decide +kernel
theorem dL_share_19 : decode cL_share 19 = .ok (.iconst 2, 1) := by decide +kernel
theorem dL_share_20 : decode cL_share 20 = .ok (.ireturn, 1) := by decide +kernel
theorem dL_share_21 : decode cL_share 21 = .ok (.astore 5, 2) := by decide +kernel
theorem dL_share_23 : decode cL_share 23 = .ok (.iconst 3, 1) := by decide +kernel
theorem dL_share_24 : decode cL_share 24 = .ok (.ireturn, 1) := by decide +kernel
theorem dL_share_25 : decode cL_share 25 = .ok (.iconst 0, 1) := by decide +kernel
theorem dL_share_26 : decode cL_share 26 = .ok (.ireturn, 1) := by decide +kernel
theorem dL_digit_0 : decode cL_digit 0 = .ok (.aload 4, 2) := by decide +kernel
theorem dL_digit_2 : decode cL_digit 2 = .ok (.iconst 0, 1) := by decide +kernel
theorem dL_digit_3 : decode cL_digit 3 = .ok (.aload_n 0, 1) := by decide +kernel
theorem dL_digit_4 : decode cL_digit 4 = .ok (.iload_n 1, 1) := by decide +kernel
theorem dL_digit_5 : decode cL_digit 5 = .ok (.iload_n 2, 1) := by decide +kernel
theorem dL_digit_6 : decode cL_digit 6 = .ok (.iload_n 3, 1) := by decide +kernel
theorem dL_digit_7 : decode cL_digit 7 = .ok (.invokevirtual 50, 3) := by decide +kernel
theorem dL_digit_10 : decode cL_digit 10 = .ok (.i2l, 1) := by decide +kernel
theorem dL_digit_11 : decode cL_digit 11 = .ok (.lastore, 1) := by decide +kernel
theorem dL_digit_12 : decode cL_digit 12 = .ok (.goto 11, 3) := by decide +kernel
theorem dL_digit_15 : decode cL_digit 15 = .ok (.astore 5, 2) := by decide +kernel
theorem dL_digit_17 : decode cL_digit 17 = .ok (.iconst 1, 1) := by decide +kernel
theorem dL_digit_18 : decode cL_digit 18 = .ok (.ireturn, 1) := by decide +kernel
theorem dL_digit_19 : decode cL_digit 19 = .ok (.astore 5, 2) := by decide +kernel
theorem dL_digit_21 : decode cL_digit 21 = .ok (.iconst 2, 1) := by decide +kernel
theorem dL_digit_22 : decode cL_digit 22 = .ok (.ireturn, 1) := by decide +kernel
theorem dL_digit_23 : decode cL_digit 23 = .ok (.iconst 0, 1) := by decide +kernel
theorem dL_digit_24 : decode cL_digit 24 = .ok (.ireturn, 1) := by decide +kernel
theorem dL_bits_0 : decode cL_bits 0 = .ok (.aload_n 2, 1) := by decide +kernel
theorem dL_bits_1 : decode cL_bits 1 = .ok (.iconst 0, 1) := by decide +kernel
theorem dL_bits_2 : decode cL_bits 2 = .ok (.aload_n 0, 1) := by decide +kernel
theorem dL_bits_3 : decode cL_bits 3 = .ok (.iload_n 1, 1) := by decide +kernel
theorem dL_bits_4 : decode cL_bits 4 = .ok (.invokevirtual 53, 3) := by decide +kernel
theorem dL_bits_7 : decode cL_bits 7 = .ok (.i2l, 1) := by decide +kernel
theorem dL_bits_8 : decode cL_bits 8 = .ok (.lastore, 1) := by decide +kernel
theorem dL_bits_9 : decode cL_bits 9 = .ok (.goto 6, 3) := by decide +kernel
theorem dL_bits_12 : decode cL_bits 12 = .ok (.astore_n 3, 1) := by decide +kernel
theorem dL_bits_13 : decode cL_bits 13 = .ok (.iconst 1, 1) := by decide +kernel
theorem dL_bits_14 : decode cL_bits 14 = .ok (.ireturn, 1) := by decide +kernel
theorem dL_bits_15 : decode cL_bits 15 = .ok (.iconst 0, 1) := by decide +kernel
theorem dL_bits_16 : decode cL_bits 16 = .ok (.ireturn, 1) := by decide +kernel
theorem dL_sign_0 : decode cL_sign 0 = .ok (.aload_n 2, 1) := by decide +kernel
theorem dL_sign_1 : decode cL_sign 1 = .ok (.iconst 0, 1) := by decide +kernel
theorem dL_sign_2 : decode cL_sign 2 = .ok (.aload_n 0, 1) := by decide +kernel
theorem dL_sign_3 : decode cL_sign 3 = .ok (.iload_n 1, 1) := by decide +kernel
theorem dL_sign_4 : decode cL_sign 4 = .ok (.invokevirtual 57, 3) := by decide +kernel
theorem dL_sign_7 : decode cL_sign 7 = .ok (.i2l, 1) := by decide +kernel
theorem dL_sign_8 : decode cL_sign 8 = .ok (.lastore, 1) := by decide +kernel
theorem dL_sign_9 : decode cL_sign 9 = .ok (.goto 6, 3) := by decide +kernel
theorem dL_sign_12 : decode cL_sign 12 = .ok (.astore_n 3, 1) := by decide +kernel
theorem dL_sign_13 : decode cL_sign 13 = .ok (.iconst 1, 1) := by decide +kernel
theorem dL_sign_14 : decode cL_sign 14 = .ok (.ireturn, 1) := by decide +kernel
theorem dL_sign_15 : decode cL_sign 15 = .ok (.iconst 0, 1) := by decide +kernel
theorem dL_sign_16 : decode cL_sign 16 = .ok (.ireturn, 1) := by decide +kernel
theorem dL_law_0 : decode cL_law 0 = .ok (.new 8, 3) := by decide +kernel
theorem dL_law_3 : decode cL_law 3 = .ok (.dup, 1) := by decide +kernel
theorem dL_law_4 : decode cL_law 4 = .ok (.invokespecial 60, 3) := by decide +kernel
theorem dL_law_7 : decode cL_law 7 = .ok (.astore_n 1, 1) := by decide +kernel
theorem dL_law_8 : decode cL_law 8 = .ok (.new 61, 3) := by decide +kernel
theorem dL_law_11 : decode cL_law 11 = .ok (.dup, 1) := by decide +kernel
theorem dL_law_12 : decode cL_law 12 = .ok (.invokespecial 63, 3) := by decide +kernel
theorem dL_law_15 : decode cL_law 15 = .ok (.astore_n 2, 1) := by decide +kernel
theorem dL_law_16 : decode cL_law 16 = .ok (.iconst 1, 1) := by decide +kernel
theorem dL_law_17 : decode cL_law 17 = .ok (.newarray .long, 2) := by decide +kernel
theorem dL_law_19 : decode cL_law 19 = .ok (.astore_n 3, 1) := by decide +kernel
theorem dL_law_20 : decode cL_law 20 = .ok (.iconst 0, 1) := by decide +kernel
theorem dL_law_21 : decode cL_law 21 = .ok (.istore 4, 2) := by decide +kernel
theorem dL_law_23 : decode cL_law 23 = .ok (.iload 4, 2) := by decide +kernel
theorem dL_law_25 : decode cL_law 25 = .ok (.aload_n 0, 1) := by decide +kernel
theorem dL_law_26 : decode cL_law 26 = .ok (.arraylength, 1) := by decide +kernel
theorem dL_law_27 : decode cL_law 27 = .ok (.iconst 5, 1) := by decide +kernel
theorem dL_law_28 : decode cL_law 28 = .ok (.isub, 1) := by decide +kernel
theorem dL_law_29 : decode cL_law 29 = .ok (.if_icmp .gt 1180, 3) := by decide +kernel
theorem dL_law_32 : decode cL_law 32 = .ok (.aload_n 0, 1) := by decide +kernel
theorem dL_law_33 : decode cL_law 33 = .ok (.iload 4, 2) := by decide +kernel
theorem dL_law_35 : decode cL_law 35 = .ok (.iaload, 1) := by decide +kernel
theorem dL_law_36 : decode cL_law 36 = .ok (.bipush 15, 2) := by decide +kernel
theorem dL_law_38 : decode cL_law 38 = .ok (.iand, 1) := by decide +kernel
theorem dL_law_39 : decode cL_law 39 = .ok (.tableswitch 1164 0 14 #[73, 205, 273, 341, 409, 477, 545, 613, 725, 805, 862, 873, 972, 1052, 1108], 73) := by decide +kernel
theorem dL_law_112 : decode cL_law 112 = .ok (.aload_n 1, 1) := by decide +kernel
theorem dL_law_113 : decode cL_law 113 = .ok (.aload_n 0, 1) := by decide +kernel
theorem dL_law_114 : decode cL_law 114 = .ok (.iload 4, 2) := by decide +kernel
theorem dL_law_116 : decode cL_law 116 = .ok (.iconst 1, 1) := by decide +kernel
theorem dL_law_117 : decode cL_law 117 = .ok (.iadd, 1) := by decide +kernel
theorem dL_law_118 : decode cL_law 118 = .ok (.iaload, 1) := by decide +kernel
theorem dL_law_119 : decode cL_law 119 = .ok (.i2l, 1) := by decide +kernel
theorem dL_law_120 : decode cL_law 120 = .ok (.bipush 32, 2) := by decide +kernel
theorem dL_law_122 : decode cL_law 122 = .ok (.lshl, 1) := by decide +kernel
theorem dL_law_123 : decode cL_law 123 = .ok (.aload_n 0, 1) := by decide +kernel
theorem dL_law_124 : decode cL_law 124 = .ok (.iload 4, 2) := by decide +kernel
theorem dL_law_126 : decode cL_law 126 = .ok (.iconst 2, 1) := by decide +kernel
theorem dL_law_127 : decode cL_law 127 = .ok (.iadd, 1) := by decide +kernel
theorem dL_law_128 : decode cL_law 128 = .ok (.iaload, 1) := by decide +kernel
theorem dL_law_129 : decode cL_law 129 = .ok (.i2l, 1) := by decide +kernel
theorem dL_law_130 : decode cL_law 130 = .ok (.ldc2_w 64, 3) := by decide +kernel
theorem dL_law_133 : decode cL_law 133 = .ok (.land, 1) := by decide +kernel
theorem dL_law_134 : decode cL_law 134 = .ok (.lor, 1) := by decide +kernel
theorem dL_law_135 : decode cL_law 135 = .ok (.aload_n 0, 1) := by decide +kernel
theorem dL_law_136 : decode cL_law 136 = .ok (.iload 4, 2) := by decide +kernel
theorem dL_law_138 : decode cL_law 138 = .ok (.iconst 3, 1) := by decide +kernel
theorem dL_law_139 : decode cL_law 139 = .ok (.iadd, 1) := by decide +kernel
theorem dL_law_140 : decode cL_law 140 = .ok (.iaload, 1) := by decide +kernel
theorem dL_law_141 : decode cL_law 141 = .ok (.i2l, 1) := by decide +kernel
theorem dL_law_142 : decode cL_law 142 = .ok (.bipush 32, 2) := by decide +kernel
theorem dL_law_144 : decode cL_law 144 = .ok (.lshl, 1) := by decide +kernel
theorem dL_law_145 : decode cL_law 145 = .ok (.aload_n 0, 1) := by decide +kernel
theorem dL_law_146 : decode cL_law 146 = .ok (.iload 4, 2) := by decide +kernel
theorem dL_law_148 : decode cL_law 148 = .ok (.iconst 4, 1) := by decide +kernel
theorem dL_law_149 : decode cL_law 149 = .ok (.iadd, 1) := by decide +kernel
theorem dL_law_150 : decode cL_law 150 = .ok (.iaload, 1) := by decide +kernel
theorem dL_law_151 : decode cL_law 151 = .ok (.i2l, 1) := by decide +kernel
theorem dL_law_152 : decode cL_law 152 = .ok (.ldc2_w 64, 3) := by decide +kernel
theorem dL_law_155 : decode cL_law 155 = .ok (.land, 1) := by decide +kernel
theorem dL_law_156 : decode cL_law 156 = .ok (.lor, 1) := by decide +kernel
theorem dL_law_157 : decode cL_law 157 = .ok (.aload_n 3, 1) := by decide +kernel
theorem dL_law_158 : decode cL_law 158 = .ok (.invokestatic 66, 3) := by decide +kernel
theorem dL_law_161 : decode cL_law 161 = .ok (.istore 5, 2) := by decide +kernel
theorem dL_law_163 : decode cL_law 163 = .ok (.aload_n 2, 1) := by decide +kernel
theorem dL_law_164 : decode cL_law 164 = .ok (.aload_n 0, 1) := by decide +kernel
theorem dL_law_165 : decode cL_law 165 = .ok (.iload 4, 2) := by decide +kernel
theorem dL_law_167 : decode cL_law 167 = .ok (.iconst 1, 1) := by decide +kernel
theorem dL_law_168 : decode cL_law 168 = .ok (.iadd, 1) := by decide +kernel
theorem dL_law_169 : decode cL_law 169 = .ok (.iaload, 1) := by decide +kernel
theorem dL_law_170 : decode cL_law 170 = .ok (.i2l, 1) := by decide +kernel
theorem dL_law_171 : decode cL_law 171 = .ok (.bipush 32, 2) := by decide +kernel
theorem dL_law_173 : decode cL_law 173 = .ok (.lshl, 1) := by decide +kernel
theorem dL_law_174 : decode cL_law 174 = .ok (.aload_n 0, 1) := by decide +kernel
theorem dL_law_175 : decode cL_law 175 = .ok (.iload 4, 2) := by decide +kernel
theorem dL_law_177 : decode cL_law 177 = .ok (.iconst 2, 1) := by decide +kernel
theorem dL_law_178 : decode cL_law 178 = .ok (.iadd, 1) := by decide +kernel
theorem dL_law_179 : decode cL_law 179 = .ok (.iaload, 1) := by decide +kernel
theorem dL_law_180 : decode cL_law 180 = .ok (.i2l, 1) := by decide +kernel
theorem dL_law_181 : decode cL_law 181 = .ok (.ldc2_w 64, 3) := by decide +kernel
theorem dL_law_184 : decode cL_law 184 = .ok (.land, 1) := by decide +kernel
theorem dL_law_185 : decode cL_law 185 = .ok (.lor, 1) := by decide +kernel
theorem dL_law_186 : decode cL_law 186 = .ok (.aload_n 0, 1) := by decide +kernel
theorem dL_law_187 : decode cL_law 187 = .ok (.iload 4, 2) := by decide +kernel
theorem dL_law_189 : decode cL_law 189 = .ok (.iconst 3, 1) := by decide +kernel
theorem dL_law_190 : decode cL_law 190 = .ok (.iadd, 1) := by decide +kernel
theorem dL_law_191 : decode cL_law 191 = .ok (.iaload, 1) := by decide +kernel
theorem dL_law_192 : decode cL_law 192 = .ok (.i2l, 1) := by decide +kernel
theorem dL_law_193 : decode cL_law 193 = .ok (.bipush 32, 2) := by decide +kernel
theorem dL_law_195 : decode cL_law 195 = .ok (.lshl, 1) := by decide +kernel
theorem dL_law_196 : decode cL_law 196 = .ok (.aload_n 0, 1) := by decide +kernel
theorem dL_law_197 : decode cL_law 197 = .ok (.iload 4, 2) := by decide +kernel
theorem dL_law_199 : decode cL_law 199 = .ok (.iconst 4, 1) := by decide +kernel
theorem dL_law_200 : decode cL_law 200 = .ok (.iadd, 1) := by decide +kernel
theorem dL_law_201 : decode cL_law 201 = .ok (.iaload, 1) := by decide +kernel
theorem dL_law_202 : decode cL_law 202 = .ok (.i2l, 1) := by decide +kernel
theorem dL_law_203 : decode cL_law 203 = .ok (.ldc2_w 64, 3) := by decide +kernel
theorem dL_law_206 : decode cL_law 206 = .ok (.land, 1) := by decide +kernel
theorem dL_law_207 : decode cL_law 207 = .ok (.lor, 1) := by decide +kernel
theorem dL_law_208 : decode cL_law 208 = .ok (.invokevirtual 71, 3) := by decide +kernel
theorem dL_law_211 : decode cL_law 211 = .ok (.istore 6, 2) := by decide +kernel
theorem dL_law_213 : decode cL_law 213 = .ok (.aload_n 2, 1) := by decide +kernel
theorem dL_law_214 : decode cL_law 214 = .ok (.invokevirtual 72, 3) := by decide +kernel
theorem dL_law_217 : decode cL_law 217 = .ok (.iload 5, 2) := by decide +kernel
theorem dL_law_219 : decode cL_law 219 = .ok (.if_icmp .eq 5, 3) := by decide +kernel
theorem dL_law_222 : decode cL_law 222 = .ok (.iconst 0, 1) := by decide +kernel
theorem dL_law_223 : decode cL_law 223 = .ok (.ireturn, 1) := by decide +kernel
theorem dL_law_224 : decode cL_law 224 = .ok (.iload 5, 2) := by decide +kernel
theorem dL_law_226 : decode cL_law 226 = .ok (.ifCond .ne 15, 3) := by decide +kernel
theorem dL_law_229 : decode cL_law 229 = .ok (.aload_n 3, 1) := by decide +kernel
theorem dL_law_230 : decode cL_law 230 = .ok (.iconst 0, 1) := by decide +kernel
theorem dL_law_231 : decode cL_law 231 = .ok (.laload, 1) := by decide +kernel
theorem dL_law_232 : decode cL_law 232 = .ok (.iload 6, 2) := by decide +kernel
theorem dL_law_234 : decode cL_law 234 = .ok (.i2l, 1) := by decide +kernel
theorem dL_law_235 : decode cL_law 235 = .ok (.lcmp, 1) := by decide +kernel
theorem dL_law_236 : decode cL_law 236 = .ok (.ifCond .eq 5, 3) := by decide +kernel
theorem dL_law_239 : decode cL_law 239 = .ok (.iconst 0, 1) := by decide +kernel
theorem dL_law_240 : decode cL_law 240 = .ok (.ireturn, 1) := by decide +kernel
theorem dL_law_241 : decode cL_law 241 = .ok (.goto 962, 3) := by decide +kernel
theorem dL_law_244 : decode cL_law 244 = .ok (.aload_n 1, 1) := by decide +kernel
theorem dL_law_245 : decode cL_law 245 = .ok (.aload_n 0, 1) := by decide +kernel
theorem dL_law_246 : decode cL_law 246 = .ok (.iload 4, 2) := by decide +kernel
theorem dL_law_248 : decode cL_law 248 = .ok (.iconst 1, 1) := by decide +kernel
theorem dL_law_249 : decode cL_law 249 = .ok (.iadd, 1) := by decide +kernel
theorem dL_law_250 : decode cL_law 250 = .ok (.iaload, 1) := by decide +kernel
theorem dL_law_251 : decode cL_law 251 = .ok (.aload_n 0, 1) := by decide +kernel
theorem dL_law_252 : decode cL_law 252 = .ok (.iload 4, 2) := by decide +kernel
theorem dL_law_254 : decode cL_law 254 = .ok (.iconst 2, 1) := by decide +kernel
theorem dL_law_255 : decode cL_law 255 = .ok (.iadd, 1) := by decide +kernel
theorem dL_law_256 : decode cL_law 256 = .ok (.iaload, 1) := by decide +kernel
theorem dL_law_257 : decode cL_law 257 = .ok (.aload_n 3, 1) := by decide +kernel
theorem dL_law_258 : decode cL_law 258 = .ok (.invokestatic 76, 3) := by decide +kernel
theorem dL_law_261 : decode cL_law 261 = .ok (.istore 5, 2) := by decide +kernel
theorem dL_law_263 : decode cL_law 263 = .ok (.aload_n 2, 1) := by decide +kernel
theorem dL_law_264 : decode cL_law 264 = .ok (.aload_n 0, 1) := by decide +kernel
theorem dL_law_265 : decode cL_law 265 = .ok (.iload 4, 2) := by decide +kernel
theorem dL_law_267 : decode cL_law 267 = .ok (.iconst 1, 1) := by decide +kernel
theorem dL_law_268 : decode cL_law 268 = .ok (.iadd, 1) := by decide +kernel
theorem dL_law_269 : decode cL_law 269 = .ok (.iaload, 1) := by decide +kernel
theorem dL_law_270 : decode cL_law 270 = .ok (.aload_n 0, 1) := by decide +kernel
theorem dL_law_271 : decode cL_law 271 = .ok (.iload 4, 2) := by decide +kernel
theorem dL_law_273 : decode cL_law 273 = .ok (.iconst 2, 1) := by decide +kernel
theorem dL_law_274 : decode cL_law 274 = .ok (.iadd, 1) := by decide +kernel
theorem dL_law_275 : decode cL_law 275 = .ok (.iaload, 1) := by decide +kernel
theorem dL_law_276 : decode cL_law 276 = .ok (.invokevirtual 79, 3) := by decide +kernel
theorem dL_law_279 : decode cL_law 279 = .ok (.istore 6, 2) := by decide +kernel
theorem dL_law_281 : decode cL_law 281 = .ok (.aload_n 2, 1) := by decide +kernel
theorem dL_law_282 : decode cL_law 282 = .ok (.invokevirtual 72, 3) := by decide +kernel
theorem dL_law_285 : decode cL_law 285 = .ok (.iload 5, 2) := by decide +kernel
theorem dL_law_287 : decode cL_law 287 = .ok (.if_icmp .eq 5, 3) := by decide +kernel
theorem dL_law_290 : decode cL_law 290 = .ok (.iconst 0, 1) := by decide +kernel
theorem dL_law_291 : decode cL_law 291 = .ok (.ireturn, 1) := by decide +kernel
theorem dL_law_292 : decode cL_law 292 = .ok (.iload 5, 2) := by decide +kernel
theorem dL_law_294 : decode cL_law 294 = .ok (.ifCond .ne 15, 3) := by decide +kernel
theorem dL_law_297 : decode cL_law 297 = .ok (.aload_n 3, 1) := by decide +kernel
theorem dL_law_298 : decode cL_law 298 = .ok (.iconst 0, 1) := by decide +kernel
theorem dL_law_299 : decode cL_law 299 = .ok (.laload, 1) := by decide +kernel
theorem dL_law_300 : decode cL_law 300 = .ok (.iload 6, 2) := by decide +kernel
theorem dL_law_302 : decode cL_law 302 = .ok (.i2l, 1) := by decide +kernel
theorem dL_law_303 : decode cL_law 303 = .ok (.lcmp, 1) := by decide +kernel
theorem dL_law_304 : decode cL_law 304 = .ok (.ifCond .eq 5, 3) := by decide +kernel
theorem dL_law_307 : decode cL_law 307 = .ok (.iconst 0, 1) := by decide +kernel
theorem dL_law_308 : decode cL_law 308 = .ok (.ireturn, 1) := by decide +kernel
theorem dL_law_309 : decode cL_law 309 = .ok (.goto 894, 3) := by decide +kernel
theorem dL_law_312 : decode cL_law 312 = .ok (.aload_n 1, 1) := by decide +kernel
theorem dL_law_313 : decode cL_law 313 = .ok (.aload_n 0, 1) := by decide +kernel
theorem dL_law_314 : decode cL_law 314 = .ok (.iload 4, 2) := by decide +kernel
theorem dL_law_316 : decode cL_law 316 = .ok (.iconst 1, 1) := by decide +kernel
theorem dL_law_317 : decode cL_law 317 = .ok (.iadd, 1) := by decide +kernel
theorem dL_law_318 : decode cL_law 318 = .ok (.iaload, 1) := by decide +kernel
theorem dL_law_319 : decode cL_law 319 = .ok (.aload_n 0, 1) := by decide +kernel
theorem dL_law_320 : decode cL_law 320 = .ok (.iload 4, 2) := by decide +kernel
theorem dL_law_322 : decode cL_law 322 = .ok (.iconst 2, 1) := by decide +kernel
theorem dL_law_323 : decode cL_law 323 = .ok (.iadd, 1) := by decide +kernel
theorem dL_law_324 : decode cL_law 324 = .ok (.iaload, 1) := by decide +kernel
theorem dL_law_325 : decode cL_law 325 = .ok (.aload_n 3, 1) := by decide +kernel
theorem dL_law_326 : decode cL_law 326 = .ok (.invokestatic 80, 3) := by decide +kernel
theorem dL_law_329 : decode cL_law 329 = .ok (.istore 5, 2) := by decide +kernel
theorem dL_law_331 : decode cL_law 331 = .ok (.aload_n 2, 1) := by decide +kernel
theorem dL_law_332 : decode cL_law 332 = .ok (.aload_n 0, 1) := by decide +kernel
theorem dL_law_333 : decode cL_law 333 = .ok (.iload 4, 2) := by decide +kernel
theorem dL_law_335 : decode cL_law 335 = .ok (.iconst 1, 1) := by decide +kernel
theorem dL_law_336 : decode cL_law 336 = .ok (.iadd, 1) := by decide +kernel
theorem dL_law_337 : decode cL_law 337 = .ok (.iaload, 1) := by decide +kernel
theorem dL_law_338 : decode cL_law 338 = .ok (.aload_n 0, 1) := by decide +kernel
theorem dL_law_339 : decode cL_law 339 = .ok (.iload 4, 2) := by decide +kernel
theorem dL_law_341 : decode cL_law 341 = .ok (.iconst 2, 1) := by decide +kernel
theorem dL_law_342 : decode cL_law 342 = .ok (.iadd, 1) := by decide +kernel
theorem dL_law_343 : decode cL_law 343 = .ok (.iaload, 1) := by decide +kernel
theorem dL_law_344 : decode cL_law 344 = .ok (.invokevirtual 82, 3) := by decide +kernel
theorem dL_law_347 : decode cL_law 347 = .ok (.istore 6, 2) := by decide +kernel
theorem dL_law_349 : decode cL_law 349 = .ok (.aload_n 2, 1) := by decide +kernel
theorem dL_law_350 : decode cL_law 350 = .ok (.invokevirtual 72, 3) := by decide +kernel
theorem dL_law_353 : decode cL_law 353 = .ok (.iload 5, 2) := by decide +kernel
theorem dL_law_355 : decode cL_law 355 = .ok (.if_icmp .eq 5, 3) := by decide +kernel
theorem dL_law_358 : decode cL_law 358 = .ok (.iconst 0, 1) := by decide +kernel
theorem dL_law_359 : decode cL_law 359 = .ok (.ireturn, 1) := by decide +kernel
theorem dL_law_360 : decode cL_law 360 = .ok (.iload 5, 2) := by decide +kernel
theorem dL_law_362 : decode cL_law 362 = .ok (.ifCond .ne 15, 3) := by decide +kernel
theorem dL_law_365 : decode cL_law 365 = .ok (.aload_n 3, 1) := by decide +kernel
theorem dL_law_366 : decode cL_law 366 = .ok (.iconst 0, 1) := by decide +kernel
theorem dL_law_367 : decode cL_law 367 = .ok (.laload, 1) := by decide +kernel
theorem dL_law_368 : decode cL_law 368 = .ok (.iload 6, 2) := by decide +kernel
theorem dL_law_370 : decode cL_law 370 = .ok (.i2l, 1) := by decide +kernel
theorem dL_law_371 : decode cL_law 371 = .ok (.lcmp, 1) := by decide +kernel
theorem dL_law_372 : decode cL_law 372 = .ok (.ifCond .eq 5, 3) := by decide +kernel
theorem dL_law_375 : decode cL_law 375 = .ok (.iconst 0, 1) := by decide +kernel
theorem dL_law_376 : decode cL_law 376 = .ok (.ireturn, 1) := by decide +kernel
theorem dL_law_377 : decode cL_law 377 = .ok (.goto 826, 3) := by decide +kernel
theorem dL_law_380 : decode cL_law 380 = .ok (.aload_n 1, 1) := by decide +kernel
theorem dL_law_381 : decode cL_law 381 = .ok (.aload_n 0, 1) := by decide +kernel
theorem dL_law_382 : decode cL_law 382 = .ok (.iload 4, 2) := by decide +kernel
theorem dL_law_384 : decode cL_law 384 = .ok (.iconst 1, 1) := by decide +kernel
theorem dL_law_385 : decode cL_law 385 = .ok (.iadd, 1) := by decide +kernel
theorem dL_law_386 : decode cL_law 386 = .ok (.iaload, 1) := by decide +kernel
theorem dL_law_387 : decode cL_law 387 = .ok (.aload_n 0, 1) := by decide +kernel
theorem dL_law_388 : decode cL_law 388 = .ok (.iload 4, 2) := by decide +kernel
theorem dL_law_390 : decode cL_law 390 = .ok (.iconst 2, 1) := by decide +kernel
theorem dL_law_391 : decode cL_law 391 = .ok (.iadd, 1) := by decide +kernel
theorem dL_law_392 : decode cL_law 392 = .ok (.iaload, 1) := by decide +kernel
theorem dL_law_393 : decode cL_law 393 = .ok (.aload_n 3, 1) := by decide +kernel
theorem dL_law_394 : decode cL_law 394 = .ok (.invokestatic 83, 3) := by decide +kernel
theorem dL_law_397 : decode cL_law 397 = .ok (.istore 5, 2) := by decide +kernel
theorem dL_law_399 : decode cL_law 399 = .ok (.aload_n 2, 1) := by decide +kernel
theorem dL_law_400 : decode cL_law 400 = .ok (.aload_n 0, 1) := by decide +kernel
theorem dL_law_401 : decode cL_law 401 = .ok (.iload 4, 2) := by decide +kernel
theorem dL_law_403 : decode cL_law 403 = .ok (.iconst 1, 1) := by decide +kernel
theorem dL_law_404 : decode cL_law 404 = .ok (.iadd, 1) := by decide +kernel
theorem dL_law_405 : decode cL_law 405 = .ok (.iaload, 1) := by decide +kernel
theorem dL_law_406 : decode cL_law 406 = .ok (.aload_n 0, 1) := by decide +kernel
theorem dL_law_407 : decode cL_law 407 = .ok (.iload 4, 2) := by decide +kernel
theorem dL_law_409 : decode cL_law 409 = .ok (.iconst 2, 1) := by decide +kernel
theorem dL_law_410 : decode cL_law 410 = .ok (.iadd, 1) := by decide +kernel
theorem dL_law_411 : decode cL_law 411 = .ok (.iaload, 1) := by decide +kernel
theorem dL_law_412 : decode cL_law 412 = .ok (.invokevirtual 85, 3) := by decide +kernel
theorem dL_law_415 : decode cL_law 415 = .ok (.istore 6, 2) := by decide +kernel
theorem dL_law_417 : decode cL_law 417 = .ok (.aload_n 2, 1) := by decide +kernel
theorem dL_law_418 : decode cL_law 418 = .ok (.invokevirtual 72, 3) := by decide +kernel
theorem dL_law_421 : decode cL_law 421 = .ok (.iload 5, 2) := by decide +kernel
theorem dL_law_423 : decode cL_law 423 = .ok (.if_icmp .eq 5, 3) := by decide +kernel
theorem dL_law_426 : decode cL_law 426 = .ok (.iconst 0, 1) := by decide +kernel
theorem dL_law_427 : decode cL_law 427 = .ok (.ireturn, 1) := by decide +kernel
theorem dL_law_428 : decode cL_law 428 = .ok (.iload 5, 2) := by decide +kernel
theorem dL_law_430 : decode cL_law 430 = .ok (.ifCond .ne 15, 3) := by decide +kernel
theorem dL_law_433 : decode cL_law 433 = .ok (.aload_n 3, 1) := by decide +kernel
theorem dL_law_434 : decode cL_law 434 = .ok (.iconst 0, 1) := by decide +kernel
theorem dL_law_435 : decode cL_law 435 = .ok (.laload, 1) := by decide +kernel
theorem dL_law_436 : decode cL_law 436 = .ok (.iload 6, 2) := by decide +kernel
theorem dL_law_438 : decode cL_law 438 = .ok (.i2l, 1) := by decide +kernel
theorem dL_law_439 : decode cL_law 439 = .ok (.lcmp, 1) := by decide +kernel
theorem dL_law_440 : decode cL_law 440 = .ok (.ifCond .eq 5, 3) := by decide +kernel
theorem dL_law_443 : decode cL_law 443 = .ok (.iconst 0, 1) := by decide +kernel
theorem dL_law_444 : decode cL_law 444 = .ok (.ireturn, 1) := by decide +kernel
theorem dL_law_445 : decode cL_law 445 = .ok (.goto 758, 3) := by decide +kernel
theorem dL_law_448 : decode cL_law 448 = .ok (.aload_n 1, 1) := by decide +kernel
theorem dL_law_449 : decode cL_law 449 = .ok (.aload_n 0, 1) := by decide +kernel
theorem dL_law_450 : decode cL_law 450 = .ok (.iload 4, 2) := by decide +kernel
theorem dL_law_452 : decode cL_law 452 = .ok (.iconst 1, 1) := by decide +kernel
theorem dL_law_453 : decode cL_law 453 = .ok (.iadd, 1) := by decide +kernel
theorem dL_law_454 : decode cL_law 454 = .ok (.iaload, 1) := by decide +kernel
theorem dL_law_455 : decode cL_law 455 = .ok (.aload_n 0, 1) := by decide +kernel
theorem dL_law_456 : decode cL_law 456 = .ok (.iload 4, 2) := by decide +kernel
theorem dL_law_458 : decode cL_law 458 = .ok (.iconst 2, 1) := by decide +kernel
theorem dL_law_459 : decode cL_law 459 = .ok (.iadd, 1) := by decide +kernel
theorem dL_law_460 : decode cL_law 460 = .ok (.iaload, 1) := by decide +kernel
theorem dL_law_461 : decode cL_law 461 = .ok (.aload_n 3, 1) := by decide +kernel
theorem dL_law_462 : decode cL_law 462 = .ok (.invokestatic 86, 3) := by decide +kernel
theorem dL_law_465 : decode cL_law 465 = .ok (.istore 5, 2) := by decide +kernel
theorem dL_law_467 : decode cL_law 467 = .ok (.aload_n 2, 1) := by decide +kernel
theorem dL_law_468 : decode cL_law 468 = .ok (.aload_n 0, 1) := by decide +kernel
theorem dL_law_469 : decode cL_law 469 = .ok (.iload 4, 2) := by decide +kernel
theorem dL_law_471 : decode cL_law 471 = .ok (.iconst 1, 1) := by decide +kernel
theorem dL_law_472 : decode cL_law 472 = .ok (.iadd, 1) := by decide +kernel
theorem dL_law_473 : decode cL_law 473 = .ok (.iaload, 1) := by decide +kernel
theorem dL_law_474 : decode cL_law 474 = .ok (.aload_n 0, 1) := by decide +kernel
theorem dL_law_475 : decode cL_law 475 = .ok (.iload 4, 2) := by decide +kernel
theorem dL_law_477 : decode cL_law 477 = .ok (.iconst 2, 1) := by decide +kernel
theorem dL_law_478 : decode cL_law 478 = .ok (.iadd, 1) := by decide +kernel
theorem dL_law_479 : decode cL_law 479 = .ok (.iaload, 1) := by decide +kernel
theorem dL_law_480 : decode cL_law 480 = .ok (.invokevirtual 88, 3) := by decide +kernel
theorem dL_law_483 : decode cL_law 483 = .ok (.istore 6, 2) := by decide +kernel
theorem dL_law_485 : decode cL_law 485 = .ok (.aload_n 2, 1) := by decide +kernel
theorem dL_law_486 : decode cL_law 486 = .ok (.invokevirtual 72, 3) := by decide +kernel
theorem dL_law_489 : decode cL_law 489 = .ok (.iload 5, 2) := by decide +kernel
theorem dL_law_491 : decode cL_law 491 = .ok (.if_icmp .eq 5, 3) := by decide +kernel
theorem dL_law_494 : decode cL_law 494 = .ok (.iconst 0, 1) := by decide +kernel
theorem dL_law_495 : decode cL_law 495 = .ok (.ireturn, 1) := by decide +kernel
theorem dL_law_496 : decode cL_law 496 = .ok (.iload 5, 2) := by decide +kernel
theorem dL_law_498 : decode cL_law 498 = .ok (.ifCond .ne 15, 3) := by decide +kernel
theorem dL_law_501 : decode cL_law 501 = .ok (.aload_n 3, 1) := by decide +kernel
theorem dL_law_502 : decode cL_law 502 = .ok (.iconst 0, 1) := by decide +kernel
theorem dL_law_503 : decode cL_law 503 = .ok (.laload, 1) := by decide +kernel
theorem dL_law_504 : decode cL_law 504 = .ok (.iload 6, 2) := by decide +kernel
theorem dL_law_506 : decode cL_law 506 = .ok (.i2l, 1) := by decide +kernel
theorem dL_law_507 : decode cL_law 507 = .ok (.lcmp, 1) := by decide +kernel
theorem dL_law_508 : decode cL_law 508 = .ok (.ifCond .eq 5, 3) := by decide +kernel
theorem dL_law_511 : decode cL_law 511 = .ok (.iconst 0, 1) := by decide +kernel
theorem dL_law_512 : decode cL_law 512 = .ok (.ireturn, 1) := by decide +kernel
theorem dL_law_513 : decode cL_law 513 = .ok (.goto 690, 3) := by decide +kernel
theorem dL_law_516 : decode cL_law 516 = .ok (.aload_n 1, 1) := by decide +kernel
theorem dL_law_517 : decode cL_law 517 = .ok (.aload_n 0, 1) := by decide +kernel
theorem dL_law_518 : decode cL_law 518 = .ok (.iload 4, 2) := by decide +kernel
theorem dL_law_520 : decode cL_law 520 = .ok (.iconst 1, 1) := by decide +kernel
theorem dL_law_521 : decode cL_law 521 = .ok (.iadd, 1) := by decide +kernel
theorem dL_law_522 : decode cL_law 522 = .ok (.iaload, 1) := by decide +kernel
theorem dL_law_523 : decode cL_law 523 = .ok (.aload_n 0, 1) := by decide +kernel
theorem dL_law_524 : decode cL_law 524 = .ok (.iload 4, 2) := by decide +kernel
theorem dL_law_526 : decode cL_law 526 = .ok (.iconst 2, 1) := by decide +kernel
theorem dL_law_527 : decode cL_law 527 = .ok (.iadd, 1) := by decide +kernel
theorem dL_law_528 : decode cL_law 528 = .ok (.iaload, 1) := by decide +kernel
theorem dL_law_529 : decode cL_law 529 = .ok (.aload_n 3, 1) := by decide +kernel
theorem dL_law_530 : decode cL_law 530 = .ok (.invokestatic 89, 3) := by decide +kernel
theorem dL_law_533 : decode cL_law 533 = .ok (.istore 5, 2) := by decide +kernel
theorem dL_law_535 : decode cL_law 535 = .ok (.aload_n 2, 1) := by decide +kernel
theorem dL_law_536 : decode cL_law 536 = .ok (.aload_n 0, 1) := by decide +kernel
theorem dL_law_537 : decode cL_law 537 = .ok (.iload 4, 2) := by decide +kernel
theorem dL_law_539 : decode cL_law 539 = .ok (.iconst 1, 1) := by decide +kernel
theorem dL_law_540 : decode cL_law 540 = .ok (.iadd, 1) := by decide +kernel
theorem dL_law_541 : decode cL_law 541 = .ok (.iaload, 1) := by decide +kernel
theorem dL_law_542 : decode cL_law 542 = .ok (.aload_n 0, 1) := by decide +kernel
theorem dL_law_543 : decode cL_law 543 = .ok (.iload 4, 2) := by decide +kernel
theorem dL_law_545 : decode cL_law 545 = .ok (.iconst 2, 1) := by decide +kernel
theorem dL_law_546 : decode cL_law 546 = .ok (.iadd, 1) := by decide +kernel
theorem dL_law_547 : decode cL_law 547 = .ok (.iaload, 1) := by decide +kernel
theorem dL_law_548 : decode cL_law 548 = .ok (.invokevirtual 91, 3) := by decide +kernel
theorem dL_law_551 : decode cL_law 551 = .ok (.istore 6, 2) := by decide +kernel
theorem dL_law_553 : decode cL_law 553 = .ok (.aload_n 2, 1) := by decide +kernel
theorem dL_law_554 : decode cL_law 554 = .ok (.invokevirtual 72, 3) := by decide +kernel
theorem dL_law_557 : decode cL_law 557 = .ok (.iload 5, 2) := by decide +kernel
theorem dL_law_559 : decode cL_law 559 = .ok (.if_icmp .eq 5, 3) := by decide +kernel
theorem dL_law_562 : decode cL_law 562 = .ok (.iconst 0, 1) := by decide +kernel
theorem dL_law_563 : decode cL_law 563 = .ok (.ireturn, 1) := by decide +kernel
theorem dL_law_564 : decode cL_law 564 = .ok (.iload 5, 2) := by decide +kernel
theorem dL_law_566 : decode cL_law 566 = .ok (.ifCond .ne 15, 3) := by decide +kernel
theorem dL_law_569 : decode cL_law 569 = .ok (.aload_n 3, 1) := by decide +kernel
theorem dL_law_570 : decode cL_law 570 = .ok (.iconst 0, 1) := by decide +kernel
theorem dL_law_571 : decode cL_law 571 = .ok (.laload, 1) := by decide +kernel
theorem dL_law_572 : decode cL_law 572 = .ok (.iload 6, 2) := by decide +kernel
theorem dL_law_574 : decode cL_law 574 = .ok (.i2l, 1) := by decide +kernel
theorem dL_law_575 : decode cL_law 575 = .ok (.lcmp, 1) := by decide +kernel
theorem dL_law_576 : decode cL_law 576 = .ok (.ifCond .eq 5, 3) := by decide +kernel
theorem dL_law_579 : decode cL_law 579 = .ok (.iconst 0, 1) := by decide +kernel
theorem dL_law_580 : decode cL_law 580 = .ok (.ireturn, 1) := by decide +kernel
theorem dL_law_581 : decode cL_law 581 = .ok (.goto 622, 3) := by decide +kernel
theorem dL_law_584 : decode cL_law 584 = .ok (.aload_n 1, 1) := by decide +kernel
theorem dL_law_585 : decode cL_law 585 = .ok (.aload_n 0, 1) := by decide +kernel
theorem dL_law_586 : decode cL_law 586 = .ok (.iload 4, 2) := by decide +kernel
theorem dL_law_588 : decode cL_law 588 = .ok (.iconst 1, 1) := by decide +kernel
theorem dL_law_589 : decode cL_law 589 = .ok (.iadd, 1) := by decide +kernel
theorem dL_law_590 : decode cL_law 590 = .ok (.iaload, 1) := by decide +kernel
theorem dL_law_591 : decode cL_law 591 = .ok (.aload_n 0, 1) := by decide +kernel
theorem dL_law_592 : decode cL_law 592 = .ok (.iload 4, 2) := by decide +kernel
theorem dL_law_594 : decode cL_law 594 = .ok (.iconst 2, 1) := by decide +kernel
theorem dL_law_595 : decode cL_law 595 = .ok (.iadd, 1) := by decide +kernel
theorem dL_law_596 : decode cL_law 596 = .ok (.iaload, 1) := by decide +kernel
theorem dL_law_597 : decode cL_law 597 = .ok (.aload_n 3, 1) := by decide +kernel
theorem dL_law_598 : decode cL_law 598 = .ok (.invokestatic 92, 3) := by decide +kernel
theorem dL_law_601 : decode cL_law 601 = .ok (.istore 5, 2) := by decide +kernel
theorem dL_law_603 : decode cL_law 603 = .ok (.aload_n 2, 1) := by decide +kernel
theorem dL_law_604 : decode cL_law 604 = .ok (.aload_n 0, 1) := by decide +kernel
theorem dL_law_605 : decode cL_law 605 = .ok (.iload 4, 2) := by decide +kernel
theorem dL_law_607 : decode cL_law 607 = .ok (.iconst 1, 1) := by decide +kernel
theorem dL_law_608 : decode cL_law 608 = .ok (.iadd, 1) := by decide +kernel
theorem dL_law_609 : decode cL_law 609 = .ok (.iaload, 1) := by decide +kernel
theorem dL_law_610 : decode cL_law 610 = .ok (.aload_n 0, 1) := by decide +kernel
theorem dL_law_611 : decode cL_law 611 = .ok (.iload 4, 2) := by decide +kernel
theorem dL_law_613 : decode cL_law 613 = .ok (.iconst 2, 1) := by decide +kernel
theorem dL_law_614 : decode cL_law 614 = .ok (.iadd, 1) := by decide +kernel
theorem dL_law_615 : decode cL_law 615 = .ok (.iaload, 1) := by decide +kernel
theorem dL_law_616 : decode cL_law 616 = .ok (.invokevirtual 94, 3) := by decide +kernel
theorem dL_law_619 : decode cL_law 619 = .ok (.istore 6, 2) := by decide +kernel
theorem dL_law_621 : decode cL_law 621 = .ok (.aload_n 2, 1) := by decide +kernel
theorem dL_law_622 : decode cL_law 622 = .ok (.invokevirtual 72, 3) := by decide +kernel
theorem dL_law_625 : decode cL_law 625 = .ok (.iload 5, 2) := by decide +kernel
theorem dL_law_627 : decode cL_law 627 = .ok (.if_icmp .eq 5, 3) := by decide +kernel
theorem dL_law_630 : decode cL_law 630 = .ok (.iconst 0, 1) := by decide +kernel
theorem dL_law_631 : decode cL_law 631 = .ok (.ireturn, 1) := by decide +kernel
theorem dL_law_632 : decode cL_law 632 = .ok (.iload 5, 2) := by decide +kernel
theorem dL_law_634 : decode cL_law 634 = .ok (.ifCond .ne 15, 3) := by decide +kernel
theorem dL_law_637 : decode cL_law 637 = .ok (.aload_n 3, 1) := by decide +kernel
theorem dL_law_638 : decode cL_law 638 = .ok (.iconst 0, 1) := by decide +kernel
theorem dL_law_639 : decode cL_law 639 = .ok (.laload, 1) := by decide +kernel
theorem dL_law_640 : decode cL_law 640 = .ok (.iload 6, 2) := by decide +kernel
theorem dL_law_642 : decode cL_law 642 = .ok (.i2l, 1) := by decide +kernel
theorem dL_law_643 : decode cL_law 643 = .ok (.lcmp, 1) := by decide +kernel
theorem dL_law_644 : decode cL_law 644 = .ok (.ifCond .eq 5, 3) := by decide +kernel
theorem dL_law_647 : decode cL_law 647 = .ok (.iconst 0, 1) := by decide +kernel
theorem dL_law_648 : decode cL_law 648 = .ok (.ireturn, 1) := by decide +kernel
theorem dL_law_649 : decode cL_law 649 = .ok (.goto 554, 3) := by decide +kernel
theorem dL_law_652 : decode cL_law 652 = .ok (.aload_n 1, 1) := by decide +kernel
theorem dL_law_653 : decode cL_law 653 = .ok (.aload_n 0, 1) := by decide +kernel
theorem dL_law_654 : decode cL_law 654 = .ok (.iload 4, 2) := by decide +kernel
theorem dL_law_656 : decode cL_law 656 = .ok (.iconst 1, 1) := by decide +kernel
theorem dL_law_657 : decode cL_law 657 = .ok (.iadd, 1) := by decide +kernel
theorem dL_law_658 : decode cL_law 658 = .ok (.iaload, 1) := by decide +kernel
theorem dL_law_659 : decode cL_law 659 = .ok (.aload_n 0, 1) := by decide +kernel
theorem dL_law_660 : decode cL_law 660 = .ok (.iload 4, 2) := by decide +kernel
theorem dL_law_662 : decode cL_law 662 = .ok (.iconst 2, 1) := by decide +kernel
theorem dL_law_663 : decode cL_law 663 = .ok (.iadd, 1) := by decide +kernel
theorem dL_law_664 : decode cL_law 664 = .ok (.iaload, 1) := by decide +kernel
theorem dL_law_665 : decode cL_law 665 = .ok (.aload_n 0, 1) := by decide +kernel
theorem dL_law_666 : decode cL_law 666 = .ok (.iload 4, 2) := by decide +kernel
theorem dL_law_668 : decode cL_law 668 = .ok (.iconst 3, 1) := by decide +kernel
theorem dL_law_669 : decode cL_law 669 = .ok (.iadd, 1) := by decide +kernel
theorem dL_law_670 : decode cL_law 670 = .ok (.iaload, 1) := by decide +kernel
theorem dL_law_671 : decode cL_law 671 = .ok (.i2l, 1) := by decide +kernel
theorem dL_law_672 : decode cL_law 672 = .ok (.bipush 32, 2) := by decide +kernel
theorem dL_law_674 : decode cL_law 674 = .ok (.lshl, 1) := by decide +kernel
theorem dL_law_675 : decode cL_law 675 = .ok (.aload_n 0, 1) := by decide +kernel
theorem dL_law_676 : decode cL_law 676 = .ok (.iload 4, 2) := by decide +kernel
theorem dL_law_678 : decode cL_law 678 = .ok (.iconst 4, 1) := by decide +kernel
theorem dL_law_679 : decode cL_law 679 = .ok (.iadd, 1) := by decide +kernel
theorem dL_law_680 : decode cL_law 680 = .ok (.iaload, 1) := by decide +kernel
theorem dL_law_681 : decode cL_law 681 = .ok (.i2l, 1) := by decide +kernel
theorem dL_law_682 : decode cL_law 682 = .ok (.ldc2_w 64, 3) := by decide +kernel
theorem dL_law_685 : decode cL_law 685 = .ok (.land, 1) := by decide +kernel
theorem dL_law_686 : decode cL_law 686 = .ok (.lor, 1) := by decide +kernel
theorem dL_law_687 : decode cL_law 687 = .ok (.aload_n 3, 1) := by decide +kernel
theorem dL_law_688 : decode cL_law 688 = .ok (.invokestatic 95, 3) := by decide +kernel
theorem dL_law_691 : decode cL_law 691 = .ok (.istore 5, 2) := by decide +kernel
theorem dL_law_693 : decode cL_law 693 = .ok (.aload_n 2, 1) := by decide +kernel
theorem dL_law_694 : decode cL_law 694 = .ok (.aload_n 0, 1) := by decide +kernel
theorem dL_law_695 : decode cL_law 695 = .ok (.iload 4, 2) := by decide +kernel
theorem dL_law_697 : decode cL_law 697 = .ok (.iconst 1, 1) := by decide +kernel
theorem dL_law_698 : decode cL_law 698 = .ok (.iadd, 1) := by decide +kernel
theorem dL_law_699 : decode cL_law 699 = .ok (.iaload, 1) := by decide +kernel
theorem dL_law_700 : decode cL_law 700 = .ok (.aload_n 0, 1) := by decide +kernel
theorem dL_law_701 : decode cL_law 701 = .ok (.iload 4, 2) := by decide +kernel
theorem dL_law_703 : decode cL_law 703 = .ok (.iconst 2, 1) := by decide +kernel
theorem dL_law_704 : decode cL_law 704 = .ok (.iadd, 1) := by decide +kernel
theorem dL_law_705 : decode cL_law 705 = .ok (.iaload, 1) := by decide +kernel
theorem dL_law_706 : decode cL_law 706 = .ok (.aload_n 0, 1) := by decide +kernel
theorem dL_law_707 : decode cL_law 707 = .ok (.iload 4, 2) := by decide +kernel
theorem dL_law_709 : decode cL_law 709 = .ok (.iconst 3, 1) := by decide +kernel
theorem dL_law_710 : decode cL_law 710 = .ok (.iadd, 1) := by decide +kernel
theorem dL_law_711 : decode cL_law 711 = .ok (.iaload, 1) := by decide +kernel
theorem dL_law_712 : decode cL_law 712 = .ok (.i2l, 1) := by decide +kernel
theorem dL_law_713 : decode cL_law 713 = .ok (.bipush 32, 2) := by decide +kernel
theorem dL_law_715 : decode cL_law 715 = .ok (.lshl, 1) := by decide +kernel
theorem dL_law_716 : decode cL_law 716 = .ok (.aload_n 0, 1) := by decide +kernel
theorem dL_law_717 : decode cL_law 717 = .ok (.iload 4, 2) := by decide +kernel
theorem dL_law_719 : decode cL_law 719 = .ok (.iconst 4, 1) := by decide +kernel
theorem dL_law_720 : decode cL_law 720 = .ok (.iadd, 1) := by decide +kernel
theorem dL_law_721 : decode cL_law 721 = .ok (.iaload, 1) := by decide +kernel
theorem dL_law_722 : decode cL_law 722 = .ok (.i2l, 1) := by decide +kernel
theorem dL_law_723 : decode cL_law 723 = .ok (.ldc2_w 64, 3) := by decide +kernel
theorem dL_law_726 : decode cL_law 726 = .ok (.land, 1) := by decide +kernel
theorem dL_law_727 : decode cL_law 727 = .ok (.lor, 1) := by decide +kernel
theorem dL_law_728 : decode cL_law 728 = .ok (.invokevirtual 98, 3) := by decide +kernel
theorem dL_law_731 : decode cL_law 731 = .ok (.istore 6, 2) := by decide +kernel
theorem dL_law_733 : decode cL_law 733 = .ok (.aload_n 2, 1) := by decide +kernel
theorem dL_law_734 : decode cL_law 734 = .ok (.invokevirtual 72, 3) := by decide +kernel
theorem dL_law_737 : decode cL_law 737 = .ok (.iload 5, 2) := by decide +kernel
theorem dL_law_739 : decode cL_law 739 = .ok (.if_icmp .eq 5, 3) := by decide +kernel
theorem dL_law_742 : decode cL_law 742 = .ok (.iconst 0, 1) := by decide +kernel
theorem dL_law_743 : decode cL_law 743 = .ok (.ireturn, 1) := by decide +kernel
theorem dL_law_744 : decode cL_law 744 = .ok (.iload 5, 2) := by decide +kernel
theorem dL_law_746 : decode cL_law 746 = .ok (.ifCond .ne 15, 3) := by decide +kernel
theorem dL_law_749 : decode cL_law 749 = .ok (.aload_n 3, 1) := by decide +kernel
theorem dL_law_750 : decode cL_law 750 = .ok (.iconst 0, 1) := by decide +kernel
theorem dL_law_751 : decode cL_law 751 = .ok (.laload, 1) := by decide +kernel
theorem dL_law_752 : decode cL_law 752 = .ok (.iload 6, 2) := by decide +kernel
theorem dL_law_754 : decode cL_law 754 = .ok (.i2l, 1) := by decide +kernel
theorem dL_law_755 : decode cL_law 755 = .ok (.lcmp, 1) := by decide +kernel
theorem dL_law_756 : decode cL_law 756 = .ok (.ifCond .eq 5, 3) := by decide +kernel
theorem dL_law_759 : decode cL_law 759 = .ok (.iconst 0, 1) := by decide +kernel
theorem dL_law_760 : decode cL_law 760 = .ok (.ireturn, 1) := by decide +kernel
theorem dL_law_761 : decode cL_law 761 = .ok (.goto 442, 3) := by decide +kernel
theorem dL_law_764 : decode cL_law 764 = .ok (.aload_n 1, 1) := by decide +kernel
theorem dL_law_765 : decode cL_law 765 = .ok (.aload_n 0, 1) := by decide +kernel
theorem dL_law_766 : decode cL_law 766 = .ok (.iload 4, 2) := by decide +kernel
theorem dL_law_768 : decode cL_law 768 = .ok (.iconst 1, 1) := by decide +kernel
theorem dL_law_769 : decode cL_law 769 = .ok (.iadd, 1) := by decide +kernel
theorem dL_law_770 : decode cL_law 770 = .ok (.iaload, 1) := by decide +kernel
theorem dL_law_771 : decode cL_law 771 = .ok (.aload_n 0, 1) := by decide +kernel
theorem dL_law_772 : decode cL_law 772 = .ok (.iload 4, 2) := by decide +kernel
theorem dL_law_774 : decode cL_law 774 = .ok (.iconst 2, 1) := by decide +kernel
theorem dL_law_775 : decode cL_law 775 = .ok (.iadd, 1) := by decide +kernel
theorem dL_law_776 : decode cL_law 776 = .ok (.iaload, 1) := by decide +kernel
theorem dL_law_777 : decode cL_law 777 = .ok (.aload_n 0, 1) := by decide +kernel
theorem dL_law_778 : decode cL_law 778 = .ok (.iload 4, 2) := by decide +kernel
theorem dL_law_780 : decode cL_law 780 = .ok (.iconst 3, 1) := by decide +kernel
theorem dL_law_781 : decode cL_law 781 = .ok (.iadd, 1) := by decide +kernel
theorem dL_law_782 : decode cL_law 782 = .ok (.iaload, 1) := by decide +kernel
theorem dL_law_783 : decode cL_law 783 = .ok (.aload_n 3, 1) := by decide +kernel
theorem dL_law_784 : decode cL_law 784 = .ok (.invokestatic 99, 3) := by decide +kernel
theorem dL_law_787 : decode cL_law 787 = .ok (.istore 5, 2) := by decide +kernel
theorem dL_law_789 : decode cL_law 789 = .ok (.aload_n 2, 1) := by decide +kernel
theorem dL_law_790 : decode cL_law 790 = .ok (.aload_n 0, 1) := by decide +kernel
theorem dL_law_791 : decode cL_law 791 = .ok (.iload 4, 2) := by decide +kernel
theorem dL_law_793 : decode cL_law 793 = .ok (.iconst 1, 1) := by decide +kernel
theorem dL_law_794 : decode cL_law 794 = .ok (.iadd, 1) := by decide +kernel
theorem dL_law_795 : decode cL_law 795 = .ok (.iaload, 1) := by decide +kernel
theorem dL_law_796 : decode cL_law 796 = .ok (.aload_n 0, 1) := by decide +kernel
theorem dL_law_797 : decode cL_law 797 = .ok (.iload 4, 2) := by decide +kernel
theorem dL_law_799 : decode cL_law 799 = .ok (.iconst 2, 1) := by decide +kernel
theorem dL_law_800 : decode cL_law 800 = .ok (.iadd, 1) := by decide +kernel
theorem dL_law_801 : decode cL_law 801 = .ok (.iaload, 1) := by decide +kernel
theorem dL_law_802 : decode cL_law 802 = .ok (.aload_n 0, 1) := by decide +kernel
theorem dL_law_803 : decode cL_law 803 = .ok (.iload 4, 2) := by decide +kernel
theorem dL_law_805 : decode cL_law 805 = .ok (.iconst 3, 1) := by decide +kernel
theorem dL_law_806 : decode cL_law 806 = .ok (.iadd, 1) := by decide +kernel
theorem dL_law_807 : decode cL_law 807 = .ok (.iaload, 1) := by decide +kernel
theorem dL_law_808 : decode cL_law 808 = .ok (.invokevirtual 102, 3) := by decide +kernel
theorem dL_law_811 : decode cL_law 811 = .ok (.istore 6, 2) := by decide +kernel
theorem dL_law_813 : decode cL_law 813 = .ok (.aload_n 2, 1) := by decide +kernel
theorem dL_law_814 : decode cL_law 814 = .ok (.invokevirtual 72, 3) := by decide +kernel
theorem dL_law_817 : decode cL_law 817 = .ok (.iload 5, 2) := by decide +kernel
theorem dL_law_819 : decode cL_law 819 = .ok (.if_icmp .eq 5, 3) := by decide +kernel
theorem dL_law_822 : decode cL_law 822 = .ok (.iconst 0, 1) := by decide +kernel
theorem dL_law_823 : decode cL_law 823 = .ok (.ireturn, 1) := by decide +kernel
theorem dL_law_824 : decode cL_law 824 = .ok (.iload 5, 2) := by decide +kernel
theorem dL_law_826 : decode cL_law 826 = .ok (.ifCond .ne 15, 3) := by decide +kernel
theorem dL_law_829 : decode cL_law 829 = .ok (.aload_n 3, 1) := by decide +kernel
theorem dL_law_830 : decode cL_law 830 = .ok (.iconst 0, 1) := by decide +kernel
theorem dL_law_831 : decode cL_law 831 = .ok (.laload, 1) := by decide +kernel
theorem dL_law_832 : decode cL_law 832 = .ok (.iload 6, 2) := by decide +kernel
theorem dL_law_834 : decode cL_law 834 = .ok (.i2l, 1) := by decide +kernel
theorem dL_law_835 : decode cL_law 835 = .ok (.lcmp, 1) := by decide +kernel
theorem dL_law_836 : decode cL_law 836 = .ok (.ifCond .eq 5, 3) := by decide +kernel
theorem dL_law_839 : decode cL_law 839 = .ok (.iconst 0, 1) := by decide +kernel
theorem dL_law_840 : decode cL_law 840 = .ok (.ireturn, 1) := by decide +kernel
theorem dL_law_841 : decode cL_law 841 = .ok (.goto 362, 3) := by decide +kernel
theorem dL_law_844 : decode cL_law 844 = .ok (.aload_n 1, 1) := by decide +kernel
theorem dL_law_845 : decode cL_law 845 = .ok (.aload_n 0, 1) := by decide +kernel
theorem dL_law_846 : decode cL_law 846 = .ok (.iload 4, 2) := by decide +kernel
theorem dL_law_848 : decode cL_law 848 = .ok (.iconst 1, 1) := by decide +kernel
theorem dL_law_849 : decode cL_law 849 = .ok (.iadd, 1) := by decide +kernel
theorem dL_law_850 : decode cL_law 850 = .ok (.iaload, 1) := by decide +kernel
theorem dL_law_851 : decode cL_law 851 = .ok (.i2l, 1) := by decide +kernel
theorem dL_law_852 : decode cL_law 852 = .ok (.bipush 32, 2) := by decide +kernel
theorem dL_law_854 : decode cL_law 854 = .ok (.lshl, 1) := by decide +kernel
theorem dL_law_855 : decode cL_law 855 = .ok (.aload_n 0, 1) := by decide +kernel
theorem dL_law_856 : decode cL_law 856 = .ok (.iload 4, 2) := by decide +kernel
theorem dL_law_858 : decode cL_law 858 = .ok (.iconst 2, 1) := by decide +kernel
theorem dL_law_859 : decode cL_law 859 = .ok (.iadd, 1) := by decide +kernel
theorem dL_law_860 : decode cL_law 860 = .ok (.iaload, 1) := by decide +kernel
theorem dL_law_861 : decode cL_law 861 = .ok (.i2l, 1) := by decide +kernel
theorem dL_law_862 : decode cL_law 862 = .ok (.ldc2_w 64, 3) := by decide +kernel
theorem dL_law_865 : decode cL_law 865 = .ok (.land, 1) := by decide +kernel
theorem dL_law_866 : decode cL_law 866 = .ok (.lor, 1) := by decide +kernel
theorem dL_law_867 : decode cL_law 867 = .ok (.invokevirtual 103, 3) := by decide +kernel
theorem dL_law_870 : decode cL_law 870 = .ok (.aload_n 2, 1) := by decide +kernel
theorem dL_law_871 : decode cL_law 871 = .ok (.aload_n 0, 1) := by decide +kernel
theorem dL_law_872 : decode cL_law 872 = .ok (.iload 4, 2) := by decide +kernel
theorem dL_law_874 : decode cL_law 874 = .ok (.iconst 1, 1) := by decide +kernel
theorem dL_law_875 : decode cL_law 875 = .ok (.iadd, 1) := by decide +kernel
theorem dL_law_876 : decode cL_law 876 = .ok (.iaload, 1) := by decide +kernel
theorem dL_law_877 : decode cL_law 877 = .ok (.i2l, 1) := by decide +kernel
theorem dL_law_878 : decode cL_law 878 = .ok (.bipush 32, 2) := by decide +kernel
theorem dL_law_880 : decode cL_law 880 = .ok (.lshl, 1) := by decide +kernel
theorem dL_law_881 : decode cL_law 881 = .ok (.aload_n 0, 1) := by decide +kernel
theorem dL_law_882 : decode cL_law 882 = .ok (.iload 4, 2) := by decide +kernel
theorem dL_law_884 : decode cL_law 884 = .ok (.iconst 2, 1) := by decide +kernel
theorem dL_law_885 : decode cL_law 885 = .ok (.iadd, 1) := by decide +kernel
theorem dL_law_886 : decode cL_law 886 = .ok (.iaload, 1) := by decide +kernel
theorem dL_law_887 : decode cL_law 887 = .ok (.i2l, 1) := by decide +kernel
theorem dL_law_888 : decode cL_law 888 = .ok (.ldc2_w 64, 3) := by decide +kernel
theorem dL_law_891 : decode cL_law 891 = .ok (.land, 1) := by decide +kernel
theorem dL_law_892 : decode cL_law 892 = .ok (.lor, 1) := by decide +kernel
theorem dL_law_893 : decode cL_law 893 = .ok (.invokevirtual 107, 3) := by decide +kernel
theorem dL_law_896 : decode cL_law 896 = .ok (.if_icmp .eq 307, 3) := by decide +kernel
theorem dL_law_899 : decode cL_law 899 = .ok (.iconst 0, 1) := by decide +kernel
theorem dL_law_900 : decode cL_law 900 = .ok (.ireturn, 1) := by decide +kernel
theorem dL_law_901 : decode cL_law 901 = .ok (.aload_n 1, 1) := by decide +kernel
theorem dL_law_902 : decode cL_law 902 = .ok (.invokevirtual 108, 3) := by decide +kernel
theorem dL_law_905 : decode cL_law 905 = .ok (.aload_n 2, 1) := by decide +kernel
theorem dL_law_906 : decode cL_law 906 = .ok (.invokevirtual 111, 3) := by decide +kernel
theorem dL_law_909 : decode cL_law 909 = .ok (.goto 294, 3) := by decide +kernel
theorem dL_law_912 : decode cL_law 912 = .ok (.aload_n 1, 1) := by decide +kernel
theorem dL_law_913 : decode cL_law 913 = .ok (.aload_n 0, 1) := by decide +kernel
theorem dL_law_914 : decode cL_law 914 = .ok (.iload 4, 2) := by decide +kernel
theorem dL_law_916 : decode cL_law 916 = .ok (.iconst 1, 1) := by decide +kernel
theorem dL_law_917 : decode cL_law 917 = .ok (.iadd, 1) := by decide +kernel
theorem dL_law_918 : decode cL_law 918 = .ok (.iaload, 1) := by decide +kernel
theorem dL_law_919 : decode cL_law 919 = .ok (.i2l, 1) := by decide +kernel
theorem dL_law_920 : decode cL_law 920 = .ok (.bipush 32, 2) := by decide +kernel
theorem dL_law_922 : decode cL_law 922 = .ok (.lshl, 1) := by decide +kernel
theorem dL_law_923 : decode cL_law 923 = .ok (.aload_n 0, 1) := by decide +kernel
theorem dL_law_924 : decode cL_law 924 = .ok (.iload 4, 2) := by decide +kernel
theorem dL_law_926 : decode cL_law 926 = .ok (.iconst 2, 1) := by decide +kernel
theorem dL_law_927 : decode cL_law 927 = .ok (.iadd, 1) := by decide +kernel
theorem dL_law_928 : decode cL_law 928 = .ok (.iaload, 1) := by decide +kernel
theorem dL_law_929 : decode cL_law 929 = .ok (.i2l, 1) := by decide +kernel
theorem dL_law_930 : decode cL_law 930 = .ok (.ldc2_w 64, 3) := by decide +kernel
theorem dL_law_933 : decode cL_law 933 = .ok (.land, 1) := by decide +kernel
theorem dL_law_934 : decode cL_law 934 = .ok (.lor, 1) := by decide +kernel
theorem dL_law_935 : decode cL_law 935 = .ok (.aload_n 0, 1) := by decide +kernel
theorem dL_law_936 : decode cL_law 936 = .ok (.iload 4, 2) := by decide +kernel
theorem dL_law_938 : decode cL_law 938 = .ok (.iconst 3, 1) := by decide +kernel
theorem dL_law_939 : decode cL_law 939 = .ok (.iadd, 1) := by decide +kernel
theorem dL_law_940 : decode cL_law 940 = .ok (.iaload, 1) := by decide +kernel
theorem dL_law_941 : decode cL_law 941 = .ok (.aload_n 3, 1) := by decide +kernel
theorem dL_law_942 : decode cL_law 942 = .ok (.invokestatic 112, 3) := by decide +kernel
theorem dL_law_945 : decode cL_law 945 = .ok (.istore 5, 2) := by decide +kernel
theorem dL_law_947 : decode cL_law 947 = .ok (.aload_n 2, 1) := by decide +kernel
theorem dL_law_948 : decode cL_law 948 = .ok (.aload_n 0, 1) := by decide +kernel
theorem dL_law_949 : decode cL_law 949 = .ok (.iload 4, 2) := by decide +kernel
theorem dL_law_951 : decode cL_law 951 = .ok (.iconst 1, 1) := by decide +kernel
theorem dL_law_952 : decode cL_law 952 = .ok (.iadd, 1) := by decide +kernel
theorem dL_law_953 : decode cL_law 953 = .ok (.iaload, 1) := by decide +kernel
theorem dL_law_954 : decode cL_law 954 = .ok (.i2l, 1) := by decide +kernel
theorem dL_law_955 : decode cL_law 955 = .ok (.bipush 32, 2) := by decide +kernel
theorem dL_law_957 : decode cL_law 957 = .ok (.lshl, 1) := by decide +kernel
theorem dL_law_958 : decode cL_law 958 = .ok (.aload_n 0, 1) := by decide +kernel
theorem dL_law_959 : decode cL_law 959 = .ok (.iload 4, 2) := by decide +kernel
theorem dL_law_961 : decode cL_law 961 = .ok (.iconst 2, 1) := by decide +kernel
theorem dL_law_962 : decode cL_law 962 = .ok (.iadd, 1) := by decide +kernel
theorem dL_law_963 : decode cL_law 963 = .ok (.iaload, 1) := by decide +kernel
theorem dL_law_964 : decode cL_law 964 = .ok (.i2l, 1) := by decide +kernel
theorem dL_law_965 : decode cL_law 965 = .ok (.ldc2_w 64, 3) := by decide +kernel
theorem dL_law_968 : decode cL_law 968 = .ok (.land, 1) := by decide +kernel
theorem dL_law_969 : decode cL_law 969 = .ok (.lor, 1) := by decide +kernel
theorem dL_law_970 : decode cL_law 970 = .ok (.aload_n 0, 1) := by decide +kernel
theorem dL_law_971 : decode cL_law 971 = .ok (.iload 4, 2) := by decide +kernel
theorem dL_law_973 : decode cL_law 973 = .ok (.iconst 3, 1) := by decide +kernel
theorem dL_law_974 : decode cL_law 974 = .ok (.iadd, 1) := by decide +kernel
theorem dL_law_975 : decode cL_law 975 = .ok (.iaload, 1) := by decide +kernel
theorem dL_law_976 : decode cL_law 976 = .ok (.invokevirtual 115, 3) := by decide +kernel
theorem dL_law_979 : decode cL_law 979 = .ok (.lstore 6, 2) := by decide +kernel
theorem dL_law_981 : decode cL_law 981 = .ok (.aload_n 2, 1) := by decide +kernel
theorem dL_law_982 : decode cL_law 982 = .ok (.invokevirtual 72, 3) := by decide +kernel
theorem dL_law_985 : decode cL_law 985 = .ok (.iload 5, 2) := by decide +kernel
theorem dL_law_987 : decode cL_law 987 = .ok (.if_icmp .eq 5, 3) := by decide +kernel
theorem dL_law_990 : decode cL_law 990 = .ok (.iconst 0, 1) := by decide +kernel
theorem dL_law_991 : decode cL_law 991 = .ok (.ireturn, 1) := by decide +kernel
theorem dL_law_992 : decode cL_law 992 = .ok (.iload 5, 2) := by decide +kernel
theorem dL_law_994 : decode cL_law 994 = .ok (.ifCond .ne 14, 3) := by decide +kernel
theorem dL_law_997 : decode cL_law 997 = .ok (.aload_n 3, 1) := by decide +kernel
theorem dL_law_998 : decode cL_law 998 = .ok (.iconst 0, 1) := by decide +kernel
theorem dL_law_999 : decode cL_law 999 = .ok (.laload, 1) := by decide +kernel
theorem dL_law_1000 : decode cL_law 1000 = .ok (.lload 6, 2) := by decide +kernel
theorem dL_law_1002 : decode cL_law 1002 = .ok (.lcmp, 1) := by decide +kernel
theorem dL_law_1003 : decode cL_law 1003 = .ok (.ifCond .eq 5, 3) := by decide +kernel
theorem dL_law_1006 : decode cL_law 1006 = .ok (.iconst 0, 1) := by decide +kernel
theorem dL_law_1007 : decode cL_law 1007 = .ok (.ireturn, 1) := by decide +kernel
theorem dL_law_1008 : decode cL_law 1008 = .ok (.goto 195, 3) := by decide +kernel
theorem dL_law_1011 : decode cL_law 1011 = .ok (.aload_n 1, 1) := by decide +kernel
theorem dL_law_1012 : decode cL_law 1012 = .ok (.aload_n 0, 1) := by decide +kernel
theorem dL_law_1013 : decode cL_law 1013 = .ok (.iload 4, 2) := by decide +kernel
theorem dL_law_1015 : decode cL_law 1015 = .ok (.iconst 1, 1) := by decide +kernel
theorem dL_law_1016 : decode cL_law 1016 = .ok (.iadd, 1) := by decide +kernel
theorem dL_law_1017 : decode cL_law 1017 = .ok (.iaload, 1) := by decide +kernel
theorem dL_law_1018 : decode cL_law 1018 = .ok (.aload_n 0, 1) := by decide +kernel
theorem dL_law_1019 : decode cL_law 1019 = .ok (.iload 4, 2) := by decide +kernel
theorem dL_law_1021 : decode cL_law 1021 = .ok (.iconst 2, 1) := by decide +kernel
theorem dL_law_1022 : decode cL_law 1022 = .ok (.iadd, 1) := by decide +kernel
theorem dL_law_1023 : decode cL_law 1023 = .ok (.iaload, 1) := by decide +kernel
theorem dL_law_1024 : decode cL_law 1024 = .ok (.aload_n 0, 1) := by decide +kernel
theorem dL_law_1025 : decode cL_law 1025 = .ok (.iload 4, 2) := by decide +kernel
theorem dL_law_1027 : decode cL_law 1027 = .ok (.iconst 3, 1) := by decide +kernel
theorem dL_law_1028 : decode cL_law 1028 = .ok (.iadd, 1) := by decide +kernel
theorem dL_law_1029 : decode cL_law 1029 = .ok (.iaload, 1) := by decide +kernel
theorem dL_law_1030 : decode cL_law 1030 = .ok (.aload_n 3, 1) := by decide +kernel
theorem dL_law_1031 : decode cL_law 1031 = .ok (.invokestatic 116, 3) := by decide +kernel
theorem dL_law_1034 : decode cL_law 1034 = .ok (.istore 5, 2) := by decide +kernel
theorem dL_law_1036 : decode cL_law 1036 = .ok (.aload_n 2, 1) := by decide +kernel
theorem dL_law_1037 : decode cL_law 1037 = .ok (.aload_n 0, 1) := by decide +kernel
theorem dL_law_1038 : decode cL_law 1038 = .ok (.iload 4, 2) := by decide +kernel
theorem dL_law_1040 : decode cL_law 1040 = .ok (.iconst 1, 1) := by decide +kernel
theorem dL_law_1041 : decode cL_law 1041 = .ok (.iadd, 1) := by decide +kernel
theorem dL_law_1042 : decode cL_law 1042 = .ok (.iaload, 1) := by decide +kernel
theorem dL_law_1043 : decode cL_law 1043 = .ok (.aload_n 0, 1) := by decide +kernel
theorem dL_law_1044 : decode cL_law 1044 = .ok (.iload 4, 2) := by decide +kernel
theorem dL_law_1046 : decode cL_law 1046 = .ok (.iconst 2, 1) := by decide +kernel
theorem dL_law_1047 : decode cL_law 1047 = .ok (.iadd, 1) := by decide +kernel
theorem dL_law_1048 : decode cL_law 1048 = .ok (.iaload, 1) := by decide +kernel
theorem dL_law_1049 : decode cL_law 1049 = .ok (.aload_n 0, 1) := by decide +kernel
theorem dL_law_1050 : decode cL_law 1050 = .ok (.iload 4, 2) := by decide +kernel
theorem dL_law_1052 : decode cL_law 1052 = .ok (.iconst 3, 1) := by decide +kernel
theorem dL_law_1053 : decode cL_law 1053 = .ok (.iadd, 1) := by decide +kernel
theorem dL_law_1054 : decode cL_law 1054 = .ok (.iaload, 1) := by decide +kernel
theorem dL_law_1055 : decode cL_law 1055 = .ok (.invokevirtual 118, 3) := by decide +kernel
theorem dL_law_1058 : decode cL_law 1058 = .ok (.istore 6, 2) := by decide +kernel
theorem dL_law_1060 : decode cL_law 1060 = .ok (.aload_n 2, 1) := by decide +kernel
theorem dL_law_1061 : decode cL_law 1061 = .ok (.invokevirtual 72, 3) := by decide +kernel
theorem dL_law_1064 : decode cL_law 1064 = .ok (.iload 5, 2) := by decide +kernel
theorem dL_law_1066 : decode cL_law 1066 = .ok (.if_icmp .eq 5, 3) := by decide +kernel
theorem dL_law_1069 : decode cL_law 1069 = .ok (.iconst 0, 1) := by decide +kernel
theorem dL_law_1070 : decode cL_law 1070 = .ok (.ireturn, 1) := by decide +kernel
theorem dL_law_1071 : decode cL_law 1071 = .ok (.iload 5, 2) := by decide +kernel
theorem dL_law_1073 : decode cL_law 1073 = .ok (.ifCond .ne 15, 3) := by decide +kernel
theorem dL_law_1076 : decode cL_law 1076 = .ok (.aload_n 3, 1) := by decide +kernel
theorem dL_law_1077 : decode cL_law 1077 = .ok (.iconst 0, 1) := by decide +kernel
theorem dL_law_1078 : decode cL_law 1078 = .ok (.laload, 1) := by decide +kernel
theorem dL_law_1079 : decode cL_law 1079 = .ok (.iload 6, 2) := by decide +kernel
theorem dL_law_1081 : decode cL_law 1081 = .ok (.i2l, 1) := by decide +kernel
theorem dL_law_1082 : decode cL_law 1082 = .ok (.lcmp, 1) := by decide +kernel
theorem dL_law_1083 : decode cL_law 1083 = .ok (.ifCond .eq 5, 3) := by decide +kernel
theorem dL_law_1086 : decode cL_law 1086 = .ok (.iconst 0, 1) := by decide +kernel
theorem dL_law_1087 : decode cL_law 1087 = .ok (.ireturn, 1) := by decide +kernel
theorem dL_law_1088 : decode cL_law 1088 = .ok (.goto 115, 3) := by decide +kernel
theorem dL_law_1091 : decode cL_law 1091 = .ok (.aload_n 1, 1) := by decide +kernel
theorem dL_law_1092 : decode cL_law 1092 = .ok (.aload_n 0, 1) := by decide +kernel
theorem dL_law_1093 : decode cL_law 1093 = .ok (.iload 4, 2) := by decide +kernel
theorem dL_law_1095 : decode cL_law 1095 = .ok (.iconst 1, 1) := by decide +kernel
theorem dL_law_1096 : decode cL_law 1096 = .ok (.iadd, 1) := by decide +kernel
theorem dL_law_1097 : decode cL_law 1097 = .ok (.iaload, 1) := by decide +kernel
theorem dL_law_1098 : decode cL_law 1098 = .ok (.aload_n 3, 1) := by decide +kernel
theorem dL_law_1099 : decode cL_law 1099 = .ok (.invokestatic 119, 3) := by decide +kernel
theorem dL_law_1102 : decode cL_law 1102 = .ok (.istore 5, 2) := by decide +kernel
theorem dL_law_1104 : decode cL_law 1104 = .ok (.aload_n 2, 1) := by decide +kernel
theorem dL_law_1105 : decode cL_law 1105 = .ok (.aload_n 0, 1) := by decide +kernel
theorem dL_law_1106 : decode cL_law 1106 = .ok (.iload 4, 2) := by decide +kernel
theorem dL_law_1108 : decode cL_law 1108 = .ok (.iconst 1, 1) := by decide +kernel
theorem dL_law_1109 : decode cL_law 1109 = .ok (.iadd, 1) := by decide +kernel
theorem dL_law_1110 : decode cL_law 1110 = .ok (.iaload, 1) := by decide +kernel
theorem dL_law_1111 : decode cL_law 1111 = .ok (.invokevirtual 122, 3) := by decide +kernel
theorem dL_law_1114 : decode cL_law 1114 = .ok (.istore 6, 2) := by decide +kernel
theorem dL_law_1116 : decode cL_law 1116 = .ok (.aload_n 2, 1) := by decide +kernel
theorem dL_law_1117 : decode cL_law 1117 = .ok (.invokevirtual 72, 3) := by decide +kernel
theorem dL_law_1120 : decode cL_law 1120 = .ok (.iload 5, 2) := by decide +kernel
theorem dL_law_1122 : decode cL_law 1122 = .ok (.if_icmp .eq 5, 3) := by decide +kernel
theorem dL_law_1125 : decode cL_law 1125 = .ok (.iconst 0, 1) := by decide +kernel
theorem dL_law_1126 : decode cL_law 1126 = .ok (.ireturn, 1) := by decide +kernel
theorem dL_law_1127 : decode cL_law 1127 = .ok (.iload 5, 2) := by decide +kernel
theorem dL_law_1129 : decode cL_law 1129 = .ok (.ifCond .ne 15, 3) := by decide +kernel
theorem dL_law_1132 : decode cL_law 1132 = .ok (.aload_n 3, 1) := by decide +kernel
theorem dL_law_1133 : decode cL_law 1133 = .ok (.iconst 0, 1) := by decide +kernel
theorem dL_law_1134 : decode cL_law 1134 = .ok (.laload, 1) := by decide +kernel
theorem dL_law_1135 : decode cL_law 1135 = .ok (.iload 6, 2) := by decide +kernel
theorem dL_law_1137 : decode cL_law 1137 = .ok (.i2l, 1) := by decide +kernel
theorem dL_law_1138 : decode cL_law 1138 = .ok (.lcmp, 1) := by decide +kernel
theorem dL_law_1139 : decode cL_law 1139 = .ok (.ifCond .eq 5, 3) := by decide +kernel
theorem dL_law_1142 : decode cL_law 1142 = .ok (.iconst 0, 1) := by decide +kernel
theorem dL_law_1143 : decode cL_law 1143 = .ok (.ireturn, 1) := by decide +kernel
theorem dL_law_1144 : decode cL_law 1144 = .ok (.goto 59, 3) := by decide +kernel
theorem dL_law_1147 : decode cL_law 1147 = .ok (.aload_n 1, 1) := by decide +kernel
theorem dL_law_1148 : decode cL_law 1148 = .ok (.aload_n 0, 1) := by decide +kernel
theorem dL_law_1149 : decode cL_law 1149 = .ok (.iload 4, 2) := by decide +kernel
theorem dL_law_1151 : decode cL_law 1151 = .ok (.iconst 1, 1) := by decide +kernel
theorem dL_law_1152 : decode cL_law 1152 = .ok (.iadd, 1) := by decide +kernel
theorem dL_law_1153 : decode cL_law 1153 = .ok (.iaload, 1) := by decide +kernel
theorem dL_law_1154 : decode cL_law 1154 = .ok (.aload_n 3, 1) := by decide +kernel
theorem dL_law_1155 : decode cL_law 1155 = .ok (.invokestatic 123, 3) := by decide +kernel
theorem dL_law_1158 : decode cL_law 1158 = .ok (.istore 5, 2) := by decide +kernel
theorem dL_law_1160 : decode cL_law 1160 = .ok (.aload_n 2, 1) := by decide +kernel
theorem dL_law_1161 : decode cL_law 1161 = .ok (.aload_n 0, 1) := by decide +kernel
theorem dL_law_1162 : decode cL_law 1162 = .ok (.iload 4, 2) := by decide +kernel
theorem dL_law_1164 : decode cL_law 1164 = .ok (.iconst 1, 1) := by decide +kernel
theorem dL_law_1165 : decode cL_law 1165 = .ok (.iadd, 1) := by decide +kernel
theorem dL_law_1166 : decode cL_law 1166 = .ok (.iaload, 1) := by decide +kernel
theorem dL_law_1167 : decode cL_law 1167 = .ok (.invokevirtual 125, 3) := by decide +kernel
theorem dL_law_1170 : decode cL_law 1170 = .ok (.istore 6, 2) := by decide +kernel
theorem dL_law_1172 : decode cL_law 1172 = .ok (.aload_n 2, 1) := by decide +kernel
theorem dL_law_1173 : decode cL_law 1173 = .ok (.invokevirtual 72, 3) := by decide +kernel
theorem dL_law_1176 : decode cL_law 1176 = .ok (.iload 5, 2) := by decide +kernel
theorem dL_law_1178 : decode cL_law 1178 = .ok (.if_icmp .eq 5, 3) := by decide +kernel
theorem dL_law_1181 : decode cL_law 1181 = .ok (.iconst 0, 1) := by decide +kernel
theorem dL_law_1182 : decode cL_law 1182 = .ok (.ireturn, 1) := by decide +kernel
theorem dL_law_1183 : decode cL_law 1183 = .ok (.iload 5, 2) := by decide +kernel
theorem dL_law_1185 : decode cL_law 1185 = .ok (.ifCond .ne 15, 3) := by decide +kernel
theorem dL_law_1188 : decode cL_law 1188 = .ok (.aload_n 3, 1) := by decide +kernel
theorem dL_law_1189 : decode cL_law 1189 = .ok (.iconst 0, 1) := by decide +kernel
theorem dL_law_1190 : decode cL_law 1190 = .ok (.laload, 1) := by decide +kernel
theorem dL_law_1191 : decode cL_law 1191 = .ok (.iload 6, 2) := by decide +kernel
theorem dL_law_1193 : decode cL_law 1193 = .ok (.i2l, 1) := by decide +kernel
theorem dL_law_1194 : decode cL_law 1194 = .ok (.lcmp, 1) := by decide +kernel
theorem dL_law_1195 : decode cL_law 1195 = .ok (.ifCond .eq 5, 3) := by decide +kernel
theorem dL_law_1198 : decode cL_law 1198 = .ok (.iconst 0, 1) := by decide +kernel
theorem dL_law_1199 : decode cL_law 1199 = .ok (.ireturn, 1) := by decide +kernel
theorem dL_law_1200 : decode cL_law 1200 = .ok (.goto 3, 3) := by decide +kernel
theorem dL_law_1203 : decode cL_law 1203 = .ok (.iinc 4 5, 3) := by decide +kernel
theorem dL_law_1206 : decode cL_law 1206 = .ok (.goto (-1183), 3) := by decide +kernel
theorem dL_law_1209 : decode cL_law 1209 = .ok (.iconst 1, 1) := by decide +kernel
theorem dL_law_1210 : decode cL_law 1210 = .ok (.ireturn, 1) := by decide +kernel
end
section
/-! THE ABSTRACT MACHINE: heaps by numbers counted from a base; ints and longs as integers. One law an instruction, said of am_W alone. -/
def vI (z : Int) : Value := .int (Int32.ofInt z)
def vL (z : Int) : Value := .long (Int64.ofInt z)
abbrev vA (i : Nat) : Value := .ref i
def vQ (r : Option Nat) : Value := match r with
  | none => .null
  | some i => .ref i
/-- a value's address is its number behind the base -/
def am_c (b : Nat) (v : Value) : Value := match v with
  | .ref i => .ref (b + i)
  | u => u
theorem am_cI (b : Nat) (z : Int) : am_c b (vI z) = .int (Int32.ofInt z) := rfl
theorem am_cL (b : Nat) (z : Int) : am_c b (vL z) = .long (Int64.ofInt z) := rfl
theorem am_cA (b i : Nat) : am_c b (.ref i) = .ref (b + i) := rfl
theorem am_cQ (b : Nat) (r : Option Nat) : am_c b (vQ r) = va_rf (r.map (b + ·)) := by cases r <;> rfl
theorem am_cat (b : Nat) (v : Value) : (am_c b v).category = v.category := by cases v <;> rfl
abbrev am_E : Type := (Nat × List Value) ⊕ ((Nat × (Nat → Int)) ⊕ ((Nat × (Nat → Int)) ⊕ (Nat × (Nat → Option Nat))))
abbrev eO (ci : Nat) (fs : List Value) : am_E := .inl (ci, fs)
abbrev eI (n : Nat) (f : Nat → Int) : am_E := .inr (.inl (n, f))
abbrev eL (n : Nat) (f : Nat → Int) : am_E := .inr (.inr (.inl (n, f)))
abbrev eR (n : Nat) (f : Nat → Option Nat) : am_E := .inr (.inr (.inr (n, f)))
/-- a heap: how many cells there are behind the base, and what those hold that we speak of -/
abbrev am_H : Type := Nat × (Nat → Option am_E)
def am_up (h : am_H) (i : Nat) (e : am_E) : am_H := (h.1, fun j => if j = i then some e else h.2 j)
def am_push (h : am_H) (e : am_E) : am_H := (h.1 + 1, fun j => if j = h.1 then some e else h.2 j)
/-- base, class numbers and field places, classes of arrays: of int, of long, of Fraction -/
abbrev am_G : Type := Nat × va_G × (Nat × Nat × Nat)
def am_e (g : am_G) (e : am_E) : va_E := match e with
  | .inl q => .inr (q.1, q.2.map (am_c g.1))
  | .inr (.inl a) => .inl (g.2.2.1, a.1, .inl (fun j => Int32.ofInt (a.2 j)))
  | .inr (.inr (.inl a)) => .inl (g.2.2.2.1, a.1, .inr (.inl (fun j => Int64.ofInt (a.2 j))))
  | .inr (.inr (.inr a)) => .inl (g.2.2.2.2, a.1, .inr (.inr (.inr (.inr (fun j => (a.2 j).map (g.1 + ·))))))
abbrev am_cl : List vw_C := [(RX0, TX0, 3), (RX1, TX1, 3), (RX2, TX2, 7), (RX3, TX3, 2), (RX4, TX4, 14), (RX5, TX5, 11)]
def am_ty (g : am_G) : List (ClassId × FieldType) := [(g.2.2.1, .int), (g.2.2.2.1, .long), (g.2.2.2.2, .object RX1)]
def am_R (g : am_G) (h : am_H) (H : Heap) : Prop := H.size = g.1 + h.1 ∧ ∀ (i : Nat) (e : am_E), h.2 i = some e → va_at g.2.1 am_cl (g.1 + i, am_e g e) H
def am_A (g : am_G) : Nat → Prop := fun q => g.1 ≤ q
theorem am_R.lt {g : am_G} {h : am_H} {H : Heap} (q : am_R g h H) {i : Nat} {e : am_E} (hi : h.2 i = some e) : i < h.1 := by
  have h1 := (q.2 i e hi).lt
  have h2 := q.1
  dsimp only at h1
  omega
theorem am_R.one {g : am_G} {h : am_H} {H : Heap} (q : am_R g h H) {i : Nat} {e : am_E} (hi : h.2 i = some e) : va_P g.2.1 am_cl [(g.1 + i, am_e g e)] H := by
  intro k x hk
  match k, hk with
  | 0, hk => cases hk; exact q.2 i e hi
  | k + 1, hk => simp at hk
/-- one cell is written -/
theorem am_R.up {g : am_G} {h : am_H} {H H1 : Heap} (q : am_R g h H) (i : Nat) (e : am_E) (z : H1.size = H.size) (oq : ∀ a : Nat, a ≠ g.1 + i → H1[a]? = H[a]?) (he : va_at g.2.1 am_cl (g.1 + i, am_e g e) H1) : am_R g (am_up h i e) H1 := by
  refine ⟨by rw [z]; exact q.1, fun j x hj => ?_⟩
  by_cases hji : j = i
  · subst hji
    simp only [am_up, if_pos] at hj
    cases hj
    exact he
  · simp only [am_up, if_neg hji] at hj
    exact (q.2 j x hj).kept (oq _ (by dsimp only; omega))
/-- a cell is made -/
theorem am_R.push {g : am_G} {h : am_H} {H H1 : Heap} (q : am_R g h H) (e : am_E) (z : H1.size = H.size + 1) (oq : ∀ a : Nat, a < H.size → H1[a]? = H[a]?) (he : va_at g.2.1 am_cl (H.size, am_e g e) H1) : am_R g (am_push h e) H1 := by
  have hq := q.1
  refine ⟨by rw [z, hq]; simp only [am_push]; omega, fun j x hj => ?_⟩
  by_cases hji : j = h.1
  · subst hji
    simp only [am_push, if_pos] at hj
    cases hj
    rw [← hq]
    exact he
  · simp only [am_push, if_neg hji] at hj
    have hl := q.lt hj
    exact (q.2 j x hj).kept (oq _ (by dsimp only; omega))
/-- cells are made of which nothing is said -/
theorem am_R.grow {g : am_G} {h : am_H} {H H1 : Heap} (q : am_R g h H) (n : Nat) (z : H1.size = g.1 + n) (oq : ∀ a : Nat, a < H.size → H1[a]? = H[a]?) : am_R g (n, h.2) H1 :=
  ⟨z, fun j x hj => (q.2 j x hj).kept (oq _ ((q.2 j x hj).lt))⟩
theorem am_S.push {g : am_G} {H0 H H1 : Heap} {locs : List Loc} (h : va_S (am_A g) H0 H locs) (z : H.size ≤ H1.size) (oq : ∀ a : Nat, a < H.size → H1[a]? = H[a]?) : va_S (am_A g) H0 H1 locs :=
  ⟨Nat.le_trans h.1 z, fun x h1 h2 => (oq x (Nat.lt_of_lt_of_le h1 h.1)).trans (h.2.1 x h1 h2), h.2.2⟩
/-! words: those of the tables that every call keeps -/
def am_ws : List Cond := lw_tbl.filter goodWord
theorem am_in {w : Cond} (h : w ∈ lw_tbl) (hg : goodWord w = true) : w ∈ am_ws := List.mem_filter.mpr ⟨h, hg⟩
theorem am_ws_good : ∀ w ∈ am_ws, goodWord w = true := fun _ h => (List.mem_filter.mp h).2
abbrev am_W1 (y : MethodName) (cc : ByteArray) (maxL : Nat) (ret : Option FieldType) : List Cond := .code y cc maxL ret :: am_ws
abbrev am_WH (y : MethodName) (cc : ByteArray) (maxL : Nat) (ret : Option FieldType) (hh : List (Nat × Nat × Nat × Nat)) : List Cond := .codeWith y cc maxL ret hh :: am_ws
theorem am_good1 {y : MethodName} {cc : ByteArray} {maxL : Nat} {ret : Option FieldType} (h : Cond.code y cc maxL ret ∈ am_ws) : GoodIn am_ws (am_W1 y cc maxL ret) := by
  intro w hw
  have hm : w ∈ am_ws := (List.mem_cons.mp hw).elim (fun q => by rw [q]; exact h) id
  exact ⟨hm, good_of_word (am_ws_good w hm)⟩
theorem am_goodH {y : MethodName} {cc : ByteArray} {maxL : Nat} {ret : Option FieldType} {hh : List (Nat × Nat × Nat × Nat)} (h : Cond.codeWith y cc maxL ret hh ∈ am_ws) : GoodIn am_ws (am_WH y cc maxL ret hh) := by
  intro w hw
  have hm : w ∈ am_ws := (List.mem_cons.mp hw).elim (fun q => by rw [q]; exact h) id
  exact ⟨hm, good_of_word (am_ws_good w hm)⟩
/-! what never changes: of the tables, of the statics -/
def am_tab : Nat → Int := fun j => if j = 0 then 3 else if j = 1 then 300 else if j = 2 then 300000 else if j = 3 then 7620 else if j = 4 then 91440 else 635
abbrev am_AIO : String := "java/lang/ArrayIndexOutOfBoundsException"
abbrev am_IAE : String := "java/lang/IllegalArgumentException"
abbrev am_ARE : String := "java/lang/ArithmeticException"
def am_I (g : am_G) (U : State) : Prop :=
  va_K g.2.1 am_cl (am_ty g) U ∧ vx_Zq Bundle.tN "UNASSIGNED_STACK" Bundle.steD (am_A g) U U.heap ∧ vx_Zq Bundle.tN "SUPPRESSED_SENTINEL" Bundle.listD (am_A g) U U.heap ∧
  (∃ t : Nat, va_Z RX4 "UNIT_LENGTHS" "[J" (.ref t) (am_A g) U U.heap ∧ va_T .long t 6 (fun j => .long (Int64.ofInt (am_tab j))) (am_A g) U U.heap) ∧
  (∀ (a : String) (i : Nat) (b n d q : String), Cond.fieldLinkNest a i b n d q ∈ lw_tbl → va_Nw (.fieldLinkNest a i b n d q) U) ∧
  (∀ (a : String) (i : Nat) (y : MethodName) (q : String), Cond.methodLinkNest a i y q ∈ lw_tbl → va_Nw (.methodLinkNest a i y q) U) ∧
  va_AO RX1 U ∧ (va_Nc am_ARE am_AIO U ∧ va_Nc am_IAE am_AIO U ∧ va_Nc am_ARE am_IAE U) ∧
  (∀ (a : Nat) (tx : String), Cond.stringRef RX4 a tx ∈ lw_tbl → ∃ q : Nat, vk_R RX4 a tx q U) ∧ (∀ a b : String, Cond.castable a b ∈ lw_tbl → va_Nw (.castable a b) U) ∧ g.1 ≤ U.heap.size
theorem am_I.moved {g : am_G} {s U : State} (h : am_I g s) (hW : s.WarmedH U.vm) (hz : s.heap.size ≤ U.heap.size) (hq : ∀ a : Nat, a < s.heap.size → ¬ am_A g a → U.heap[a]? = s.heap[a]?) : am_I g U := by
  obtain ⟨h1, h2, h3, ⟨t, h4, h5⟩, h6, h7, h8, ⟨h9, h10, h11⟩, h13, h14, h12⟩ := h
  have hv := hW.alike
  exact ⟨va_K.moved hv h1, vx_Zq.moved hv (vx_Zq.kept h2 hq), vx_Zq.moved hv (vx_Zq.kept h3 hq), ⟨t, va_Z.moved hv (va_Z.kept h4 hq), va_T.moved hv (va_T.kept h5 hq)⟩,
    fun a i b n d q hm => va_Nw.warmF hW (h6 a i b n d q hm), fun a i y q hm => va_Nw.warmM hW (h7 a i y q hm), va_AO.moved hv h8, ⟨va_Nc.moved hv h9, va_Nc.moved hv h10, va_Nc.moved hv h11⟩, fun a tx hm => (h13 a tx hm).imp fun _ hq => vk_R.warm hW hq, fun a b hm => va_Nw.warmC hW (h14 a b hm), Nat.le_trans h12 hz⟩
theorem am_I.calling {g : am_G} {U : State} (h : am_I g U) (f : JFrame) (mk : MethodId) (a : Array Value) : am_I g (U.calling f mk a) :=
  h.moved (U := U.calling f mk a) (State.WarmedH.refl U) (Nat.le_refl _) (fun _ _ _ => rfl)
/-! contracts -/
abbrev am_Pc (g : am_G) (vs : List Value) (h : am_H) : Array Value → State → Prop := va_Pc (vs.map (am_c g.1)) (fun U => am_I g U ∧ am_R g h U.heap)
def am_Q (g : am_G) (R : Option Value → am_H → Prop) : Array Value → State → Outcome → State → Prop := fun _ st oc t => (∃ (r : Option Value) (h1 : am_H), oc = .returned (r.map (am_c g.1)) ∧ R r h1 ∧ am_R g h1 t.heap) ∧ va_F (am_A g) st t
def am_XC (g : am_G) (X : String → am_H → Prop) : String → State → State → Prop := fun E st t => (∃ h1 : am_H, X E h1 ∧ am_R g h1 t.heap) ∧ va_F (am_A g) st t
/-- level n of calls -/
def am_rm (n mc ms : Nat) : Room := { frames := n, cells := mc, slots := ms, locals := 70 * n }
def am_Met (l : Launch) (g : am_G) (y : MethodName) (ws : List Cond) (n mc ms : Nat) (vs : List Value) (h : am_H) (R : Option Value → am_H → Prop) : Prop :=
  Met l y ws (am_rm n mc ms) (am_Pc g vs h) (am_Q g R) mc ms (am_A g)
def am_MetX (l : Launch) (g : am_G) (y : MethodName) (ws : List Cond) (n mc ms : Nat) (vs : List Value) (h : am_H) (R : Option Value → am_H → Prop) (X : String → am_H → Prop) : Prop :=
  vx_Met l y ws (am_rm n mc ms) (am_Pc g vs h) (am_Q g R) (am_XC g X) mc ms (am_A g)
theorem am_blind (g : am_G) (vs : List Value) (h : am_H) : FrameBlind (am_Pc g vs h) := fun _ _ f mk q => ⟨q.1, q.2.1.calling f mk _, q.2.2⟩
/-! the judgement -/
abbrev am_X : Type := Program × Launch × Env × Room × State × MethodId × Array Value × List Frame × Method × Code × (State → Prop) × am_G × Nat
def am_L (b nL : Nat) (ls : List (Option Value)) (la : Array Slot) : Prop := lv_has la nL [] ∧ ls.length = nL ∧ ∀ (i : Nat) (v : Value), ls[i]? = some (some v) → la[i]? = some (.val (am_c b v))
def am_W (x : am_X) (pc k z : Nat) (h : am_H) (ls : List (Option Value)) (st : List Value) : Prop := match x with
  | (p, l, e, R, s, m, args, below, meth, c, Q, g, nL) => ∀ (H : Heap) (locs : List Loc) (la : Array Slot), am_R g h H → va_S (am_A g) s.heap H locs → am_L g.1 nL ls la → W p l e R s m args below meth c H locs k z Q (F0 m pc la (st.map (am_c g.1)))
/-- what a walk knows: the code, the class, the level, the words -/
def am_C (x : am_X) (cc : ByteArray) (own : String) (n mc ms : Nat) : Prop := match x with
  | (p, l, e, R, s, m, args, below, meth, c, Q, g, nL) => p.tables.exec = Jvm.exec ∧ c.code = cc ∧ c.maxLocals = nL ∧ s.vm.findClass own = some m.cls ∧ (∀ w ∈ am_ws, w.before args s = true) ∧ am_I g s ∧ meth.locks = false ∧ R = am_rm n mc ms
abbrev am_g (x : am_X) : am_G := x.2.2.2.2.2.2.2.2.2.2.2.1
abbrev am_l (x : am_X) : Launch := x.2.1
/-- it returns as R says -/
def am_T (x : am_X) (ret : Option FieldType) (R : Option Value → am_H → Prop) (mc ms : Nat) : Prop := match x with
  | (p, l, e, Rm, s, m, args, below, meth, c, Q, g, nL) => meth.sig.returnType = ret ∧ ∀ (q : State), MQ below (am_Q g R) args s mc ms (am_A g) q → Q q
/-- it throws as X says, out of a table without rows -/
def am_TX (x : am_X) (X : String → am_H → Prop) (mc ms : Nat) : Prop := match x with
  | (p, l, e, Rm, s, m, args, below, meth, c, Q, g, nL) => l.stackTraces = false ∧ (∀ y ∈ c.exceptionTable.toList, False) ∧ ∃ R : Option Value → am_H → Prop, Q = vx_MQ below (am_Q g R) (am_XC g X) args s mc ms (am_A g)
theorem am_entry {b nL : Nat} (vs : List Value) (ls : List (Option Value)) (hn : (lg_sl vs).length ≤ nL) (hl : ls.length = nL) (hv : ∀ (i : Nat) (v : Value), ls[i]? = some (some v) → (i, v) ∈ lv_args 0 vs) :
    am_L b nL ls ((lg_sl (vs.map (am_c b)) ++ List.replicate (nL - (lg_sl (vs.map (am_c b))).length) Slot.unset).toArray) := by
  have e1 : (lg_sl (vs.map (am_c b))).length = (lg_sl vs).length := by
    clear hv hn
    induction vs with
    | nil => rfl
    | cons v vs ih =>
      have h1 : ∀ (u : Value) (us : List Value), lg_sl (u :: us) = lg_sl [u] ++ lg_sl us := fun u us => by simp [lg_sl]
      rw [List.map_cons, h1, h1 v, List.length_append, List.length_append, ih]
      congr 1
      cases v <;> rfl
  have e2 : ∀ (k : Nat) (us : List Value), lv_args k (us.map (am_c b)) = (lv_args k us).map (fun q => (q.1, am_c b q.2)) := by
    intro k us
    induction us generalizing k with
    | nil => rfl
    | cons v us ih =>
      simp only [List.map_cons, lv_args, am_cat]
      split <;> rw [ih]
  have h := lv_entry (vs.map (am_c b)) (n := nL) (by rw [e1]; exact hn)
  refine ⟨⟨h.1, h.2.1, fun q hq => by cases hq⟩, hl, fun i v hi => ?_⟩
  refine h.2.2 (i, am_c b v) ?_
  rw [e2]
  exact List.mem_map.mpr ⟨(i, v), hv i v hi, rfl⟩

theorem am_ofMet {l : Launch} {g : am_G} {y : MethodName} {cc : ByteArray} {maxL : Nat} {ret : Option FieldType} {n mc ms : Nat} {vs : List Value} {h : am_H} {R : Option Value → am_H → Prop} (ls : List (Option Value)) (hy : plainName y.cls = true)
    (hn : (lg_sl vs).length ≤ maxL) (hl : ls.length = maxL) (hv : ∀ (i : Nat) (v : Value), ls[i]? = some (some v) → (i, v) ∈ lv_args 0 vs)
    (body : ∀ x : am_X, am_l x = l → am_g x = g → am_C x cc y.cls n mc ms → (∀ (k z : Nat), k ≤ mc → z ≤ ms → am_T x ret R k z → True) → am_T x ret R mc ms → (y.name = "<init>" → x.2.2.2.2.2.2.2.2.1.name = "<init>") → am_W x 0 0 0 h ls []) : am_Met l g y (am_W1 y cc maxL ret) n mc ms vs h R := by
  refine Met.ofW (cc := cc) (maxL := maxL) (ret := ret) hy rfl ?_
  intro p e s m args below meth c s₁ B hml hp
  obtain ⟨rfl, hI, hR⟩ := hp
  have hts := atoms_spec (ws := am_W1 y cc maxL ret) B.pre
  have hW := body (p, l, e, am_rm n mc ms, s, m, (vs.map (am_c g.1)).toArray, below, meth, c, MQ below (am_Q g R) (vs.map (am_c g.1)).toArray s mc ms (am_A g), g, maxL) rfl rfl
    ⟨B.exec, B.bytes, hml, findClass_of_methodNamed B.named, fun w hw => hts w (List.mem_cons_of_mem _ hw), hI, B.notSynchronized, rfl⟩ (fun _ _ _ _ _ => trivial) ⟨B.returns, fun _ q => q⟩ (fun hi => by have h1 := (name_of_methodNamed B.named B.method).1; rw [h1]; exact hi)
  have h2 := hW s.heap [] _ hR va_S.rf (am_entry vs ls hn hl hv)
  rw [lg_entry_eq]
  exact h2
theorem am_ofMetX {l : Launch} {g : am_G} {y : MethodName} {cc : ByteArray} {maxL : Nat} {ret : Option FieldType} {n mc ms : Nat} {vs : List Value} {h : am_H} {R : Option Value → am_H → Prop} {X : String → am_H → Prop} (ls : List (Option Value)) (hst : l.stackTraces = false) (hy : plainName y.cls = true)
    (hn : (lg_sl vs).length ≤ maxL) (hl : ls.length = maxL) (hv : ∀ (i : Nat) (v : Value), ls[i]? = some (some v) → (i, v) ∈ lv_args 0 vs)
    (body : ∀ x : am_X, am_l x = l → am_g x = g → am_C x cc y.cls n mc ms → am_T x ret R mc ms → am_TX x X mc ms → am_W x 0 0 0 h ls []) : am_MetX l g y (am_W1 y cc maxL ret) n mc ms vs h R X := by
  refine vx_ofW (cc := cc) (maxL := maxL) (ret := ret) hy rfl ?_
  intro p e s m args below meth c s₁ B hml htab hp
  obtain ⟨rfl, hI, hR⟩ := hp
  have hts := atoms_spec (ws := am_W1 y cc maxL ret) B.pre
  have hW := body (p, l, e, am_rm n mc ms, s, m, (vs.map (am_c g.1)).toArray, below, meth, c, vx_MQ below (am_Q g R) (am_XC g X) (vs.map (am_c g.1)).toArray s mc ms (am_A g), g, maxL) rfl rfl
    ⟨B.exec, B.bytes, hml, findClass_of_methodNamed B.named, fun w hw => hts w (List.mem_cons_of_mem _ hw), hI, B.notSynchronized, rfl⟩ ⟨B.returns, fun q ⟨b1, b2, b3, b4, b5⟩ => ⟨b1, b2, b3, Or.inl ⟨b4, b5⟩⟩⟩ ⟨hst, htab, R, rfl⟩
  have h2 := hW s.heap [] _ hR va_S.rf (am_entry vs ls hn hl hv)
  rw [lg_entry_eq]
  exact h2
end
section
theorem am_t32 {a : Int} (h : -2147483648 ≤ a ∧ a ≤ 2147483647) : (Int32.ofInt a).toInt = a := Int32.toInt_ofInt_of_le (by omega) (by omega)
theorem am_t64 {a : Int} (h : -9223372036854775808 ≤ a ∧ a ≤ 9223372036854775807) : (Int64.ofInt a).toInt = a := Int64.toInt_ofInt_of_le (by omega) (by omega)
theorem am_lt32 {a b : Int} (ha : -2147483648 ≤ a ∧ a ≤ 2147483647) (hb : -2147483648 ≤ b ∧ b ≤ 2147483647) : Int32.ofInt a < Int32.ofInt b ↔ a < b := by rw [Int32.lt_iff_toInt_lt, am_t32 ha, am_t32 hb]
theorem am_le32 {a b : Int} (ha : -2147483648 ≤ a ∧ a ≤ 2147483647) (hb : -2147483648 ≤ b ∧ b ≤ 2147483647) : Int32.ofInt a ≤ Int32.ofInt b ↔ a ≤ b := by rw [Int32.le_iff_toInt_le, am_t32 ha, am_t32 hb]
theorem am_eq32 {a b : Int} (ha : -2147483648 ≤ a ∧ a ≤ 2147483647) (hb : -2147483648 ≤ b ∧ b ≤ 2147483647) : Int32.ofInt a = Int32.ofInt b ↔ a = b := by rw [← Int32.toInt_inj, am_t32 ha, am_t32 hb]
theorem am_lt64 {a b : Int} (ha : -9223372036854775808 ≤ a ∧ a ≤ 9223372036854775807) (hb : -9223372036854775808 ≤ b ∧ b ≤ 9223372036854775807) : Int64.ofInt a < Int64.ofInt b ↔ a < b := by rw [Int64.lt_iff_toInt_lt, am_t64 ha, am_t64 hb]
theorem am_eq64 {a b : Int} (ha : -9223372036854775808 ≤ a ∧ a ≤ 9223372036854775807) (hb : -9223372036854775808 ≤ b ∧ b ≤ 9223372036854775807) : Int64.ofInt a = Int64.ofInt b ↔ a = b := by rw [← Int64.toInt_inj, am_t64 ha, am_t64 hb]
theorem am_z32 : (0 : Int32) = Int32.ofInt 0 := rfl
theorem am_mn32 {a : Int} (h : -2147483648 ≤ a ∧ a ≤ 2147483647) : Int32.minValue.toInt ≤ a := h.1
theorem am_mx32 {a : Int} (h : -2147483648 ≤ a ∧ a ≤ 2147483647) : a ≤ Int32.maxValue.toInt := h.2
theorem am_mn64 {a : Int} (h : -9223372036854775808 ≤ a ∧ a ≤ 9223372036854775807) : Int64.minValue.toInt ≤ a := h.1
theorem am_mx64 {a : Int} (h : -9223372036854775808 ≤ a ∧ a ≤ 9223372036854775807) : a ≤ Int64.maxValue.toInt := h.2
theorem am_cl32 {a : Int} (h : 0 ≤ a ∧ a ≤ 2147483647) : (Int32.ofInt a).toNatClampNeg = a.toNat := by
  show (Int32.ofInt a).toInt.toNat = _
  rw [am_t32 (by omega)]
theorem am_in32 {a : Int} {N : Nat} (h : 0 ≤ a ∧ a < N) (hN : N ≤ 2147483647) : vp_in (Int32.ofInt a) N := by
  rw [vp_in_iff, am_t32 (by omega)]; exact h

theorem am_iconst {x : am_X} {cc : ByteArray} {own : String} {n mc ms : Nat} (hC : am_C x cc own n mc ms) {pc k z : Nat} {h : am_H} {ls : List (Option Value)} {st : List Value} {v : Int} (d : decode cc pc = .ok (.iconst v, 1)) (kk : am_W x (pc + 1) k z h ls (vI v :: st)) : am_W x (pc) k z h ls (st) := by
  obtain ⟨p, l, e, R, s, m, args, below, meth, c, Q, g, nL⟩ := x
  obtain ⟨hx, hb, hml, hown, hts, hI, hlk, hR⟩ := hC
  intro H locs la hH hS hL
  exact lv_iconst hx hb d rfl (kk H locs la hH hS hL)

theorem am_bipush {x : am_X} {cc : ByteArray} {own : String} {n mc ms : Nat} (hC : am_C x cc own n mc ms) {pc k z : Nat} {h : am_H} {ls : List (Option Value)} {st : List Value} {v : Int} (d : decode cc pc = .ok (.bipush v, 2)) (hv : (Int8.ofInt v).toInt32 = Int32.ofInt v) (kk : am_W x (pc + 2) k z h ls (vI v :: st)) : am_W x (pc) k z h ls (st) := by
  obtain ⟨p, l, e, R, s, m, args, below, meth, c, Q, g, nL⟩ := x
  obtain ⟨hx, hb, hml, hown, hts, hI, hlk, hR⟩ := hC
  intro H locs la hH hS hL
  exact lv_bipush hx hb d hv (kk H locs la hH hS hL)

theorem am_sipush {x : am_X} {cc : ByteArray} {own : String} {n mc ms : Nat} (hC : am_C x cc own n mc ms) {pc k z : Nat} {h : am_H} {ls : List (Option Value)} {st : List Value} {v : Int} (d : decode cc pc = .ok (.sipush v, 3)) (hv : (Int16.ofInt v).toInt32 = Int32.ofInt v) (kk : am_W x (pc + 3) k z h ls (vI v :: st)) : am_W x (pc) k z h ls (st) := by
  obtain ⟨p, l, e, R, s, m, args, below, meth, c, Q, g, nL⟩ := x
  obtain ⟨hx, hb, hml, hown, hts, hI, hlk, hR⟩ := hC
  intro H locs la hH hS hL
  exact lv_sipush hx hb d hv (kk H locs la hH hS hL)

theorem am_lconst0 {x : am_X} {cc : ByteArray} {own : String} {n mc ms : Nat} (hC : am_C x cc own n mc ms) {pc k z : Nat} {h : am_H} {ls : List (Option Value)} {st : List Value}  (d : decode cc pc = .ok (.lconst 0, 1)) (kk : am_W x (pc + 1) k z h ls (vL 0 :: st)) : am_W x (pc) k z h ls (st) := by
  obtain ⟨p, l, e, R, s, m, args, below, meth, c, Q, g, nL⟩ := x
  obtain ⟨hx, hb, hml, hown, hts, hI, hlk, hR⟩ := hC
  intro H locs la hH hS hL
  exact lv_lconst hx hb d rfl (kk H locs la hH hS hL)

theorem am_lconst1 {x : am_X} {cc : ByteArray} {own : String} {n mc ms : Nat} (hC : am_C x cc own n mc ms) {pc k z : Nat} {h : am_H} {ls : List (Option Value)} {st : List Value}  (d : decode cc pc = .ok (.lconst 1, 1)) (kk : am_W x (pc + 1) k z h ls (vL 1 :: st)) : am_W x (pc) k z h ls (st) := by
  obtain ⟨p, l, e, R, s, m, args, below, meth, c, Q, g, nL⟩ := x
  obtain ⟨hx, hb, hml, hown, hts, hI, hlk, hR⟩ := hC
  intro H locs la hH hS hL
  exact lv_lconst hx hb d rfl (kk H locs la hH hS hL)

theorem am_ldc2 {x : am_X} {cc : ByteArray} {own : String} {n mc ms : Nat} (hC : am_C x cc own n mc ms) {pc k z : Nat} {h : am_H} {ls : List (Option Value)} {st : List Value} {idx : Nat} {u : Int64} (v : Int) (d : decode cc pc = .ok (.ldc2_w idx, 3)) (hw : Cond.constantLong own idx u ∈ am_ws) (hv : u = Int64.ofInt v) (kk : am_W x (pc + 3) k z h ls (vL v :: st)) : am_W x (pc) k z h ls (st) := by
  obtain ⟨p, l, e, R, s, m, args, below, meth, c, Q, g, nL⟩ := x
  obtain ⟨hx, hb, hml, hown, hts, hI, hlk, hR⟩ := hC
  intro H locs la hH hS hL
  subst hv
  exact lv_ldc2 hx hb hown (hts _ hw) d (kk H locs la hH hS hL)

theorem am_ldc {x : am_X} {cc : ByteArray} {own : String} {n mc ms : Nat} (hC : am_C x cc own n mc ms) {pc k z : Nat} {h : am_H} {ls : List (Option Value)} {st : List Value} {idx : Nat} {u : Int32} (v : Int) (d : decode cc pc = .ok (.ldc idx, 2)) (hw : Cond.constant own idx u ∈ am_ws) (hv : u = Int32.ofInt v) (kk : am_W x (pc + 2) k z h ls (vI v :: st)) : am_W x (pc) k z h ls (st) := by
  obtain ⟨p, l, e, R, s, m, args, below, meth, c, Q, g, nL⟩ := x
  obtain ⟨hx, hb, hml, hown, hts, hI, hlk, hR⟩ := hC
  intro H locs la hH hS hL
  subst hv
  exact lv_ldc hx hb hown (hts _ hw) d (kk H locs la hH hS hL)

theorem am_ldcw {x : am_X} {cc : ByteArray} {own : String} {n mc ms : Nat} (hC : am_C x cc own n mc ms) {pc k z : Nat} {h : am_H} {ls : List (Option Value)} {st : List Value} {idx : Nat} {u : Int32} (v : Int) (d : decode cc pc = .ok (.ldc_w idx, 3)) (hw : Cond.constant own idx u ∈ am_ws) (hv : u = Int32.ofInt v) (kk : am_W x (pc + 3) k z h ls (vI v :: st)) : am_W x (pc) k z h ls (st) := by
  obtain ⟨p, l, e, R, s, m, args, below, meth, c, Q, g, nL⟩ := x
  obtain ⟨hx, hb, hml, hown, hts, hI, hlk, hR⟩ := hC
  intro H locs la hH hS hL
  subst hv
  exact lv_ldcw hx hb hown (hts _ hw) d (kk H locs la hH hS hL)

theorem am_null {x : am_X} {cc : ByteArray} {own : String} {n mc ms : Nat} (hC : am_C x cc own n mc ms) {pc k z : Nat} {h : am_H} {ls : List (Option Value)} {st : List Value}  (d : decode cc pc = .ok (.aconst_null, 1)) (kk : am_W x (pc + 1) k z h ls (Value.null :: st)) : am_W x (pc) k z h ls (st) := by
  obtain ⟨p, l, e, R, s, m, args, below, meth, c, Q, g, nL⟩ := x
  obtain ⟨hx, hb, hml, hown, hts, hI, hlk, hR⟩ := hC
  intro H locs la hH hS hL
  exact lv_null hx hb d (kk H locs la hH hS hL)

theorem am_iload0 {x : am_X} {cc : ByteArray} {own : String} {n mc ms : Nat} (hC : am_C x cc own n mc ms) {pc k z : Nat} {h : am_H} {ls : List (Option Value)} {st : List Value} {tl : List (Option Value)} {v : Int} (d : decode cc pc = .ok (.iload_n 0, 1)) (kk : am_W x (pc + 1) k z h (some (vI v) :: tl) (vI v :: st)) : am_W x (pc) k z h (some (vI v) :: tl) (st) := by
  obtain ⟨p, l, e, R, s, m, args, below, meth, c, Q, g, nL⟩ := x
  obtain ⟨hx, hb, hml, hown, hts, hI, hlk, hR⟩ := hC
  intro H locs la hH hS hL
  exact lv_iload_n hx hb d rfl (hL.2.2 0 _ rfl) (kk H locs la hH hS hL)

theorem am_lload0 {x : am_X} {cc : ByteArray} {own : String} {n mc ms : Nat} (hC : am_C x cc own n mc ms) {pc k z : Nat} {h : am_H} {ls : List (Option Value)} {st : List Value} {tl : List (Option Value)} {v : Int} (d : decode cc pc = .ok (.lload_n 0, 1)) (kk : am_W x (pc + 1) k z h (some (vL v) :: tl) (vL v :: st)) : am_W x (pc) k z h (some (vL v) :: tl) (st) := by
  obtain ⟨p, l, e, R, s, m, args, below, meth, c, Q, g, nL⟩ := x
  obtain ⟨hx, hb, hml, hown, hts, hI, hlk, hR⟩ := hC
  intro H locs la hH hS hL
  exact lv_lload_n hx hb d rfl (hL.2.2 0 _ rfl) (kk H locs la hH hS hL)

theorem am_aload0 {x : am_X} {cc : ByteArray} {own : String} {n mc ms : Nat} (hC : am_C x cc own n mc ms) {pc k z : Nat} {h : am_H} {ls : List (Option Value)} {st : List Value} {tl : List (Option Value)} {v : Nat} (d : decode cc pc = .ok (.aload_n 0, 1)) (kk : am_W x (pc + 1) k z h (some (Value.ref v) :: tl) (Value.ref v :: st)) : am_W x (pc) k z h (some (Value.ref v) :: tl) (st) := by
  obtain ⟨p, l, e, R, s, m, args, below, meth, c, Q, g, nL⟩ := x
  obtain ⟨hx, hb, hml, hown, hts, hI, hlk, hR⟩ := hC
  intro H locs la hH hS hL
  exact lv_aload_n hx hb d rfl (hL.2.2 0 _ rfl) (kk H locs la hH hS hL)

theorem am_iload1 {x : am_X} {cc : ByteArray} {own : String} {n mc ms : Nat} (hC : am_C x cc own n mc ms) {pc k z : Nat} {h : am_H} {ls : List (Option Value)} {st : List Value} {y0 : Option Value} {tl : List (Option Value)} {v : Int} (d : decode cc pc = .ok (.iload_n 1, 1)) (kk : am_W x (pc + 1) k z h (y0 :: some (vI v) :: tl) (vI v :: st)) : am_W x (pc) k z h (y0 :: some (vI v) :: tl) (st) := by
  obtain ⟨p, l, e, R, s, m, args, below, meth, c, Q, g, nL⟩ := x
  obtain ⟨hx, hb, hml, hown, hts, hI, hlk, hR⟩ := hC
  intro H locs la hH hS hL
  exact lv_iload_n hx hb d rfl (hL.2.2 1 _ rfl) (kk H locs la hH hS hL)

theorem am_lload1 {x : am_X} {cc : ByteArray} {own : String} {n mc ms : Nat} (hC : am_C x cc own n mc ms) {pc k z : Nat} {h : am_H} {ls : List (Option Value)} {st : List Value} {y0 : Option Value} {tl : List (Option Value)} {v : Int} (d : decode cc pc = .ok (.lload_n 1, 1)) (kk : am_W x (pc + 1) k z h (y0 :: some (vL v) :: tl) (vL v :: st)) : am_W x (pc) k z h (y0 :: some (vL v) :: tl) (st) := by
  obtain ⟨p, l, e, R, s, m, args, below, meth, c, Q, g, nL⟩ := x
  obtain ⟨hx, hb, hml, hown, hts, hI, hlk, hR⟩ := hC
  intro H locs la hH hS hL
  exact lv_lload_n hx hb d rfl (hL.2.2 1 _ rfl) (kk H locs la hH hS hL)

theorem am_aload1 {x : am_X} {cc : ByteArray} {own : String} {n mc ms : Nat} (hC : am_C x cc own n mc ms) {pc k z : Nat} {h : am_H} {ls : List (Option Value)} {st : List Value} {y0 : Option Value} {tl : List (Option Value)} {v : Nat} (d : decode cc pc = .ok (.aload_n 1, 1)) (kk : am_W x (pc + 1) k z h (y0 :: some (Value.ref v) :: tl) (Value.ref v :: st)) : am_W x (pc) k z h (y0 :: some (Value.ref v) :: tl) (st) := by
  obtain ⟨p, l, e, R, s, m, args, below, meth, c, Q, g, nL⟩ := x
  obtain ⟨hx, hb, hml, hown, hts, hI, hlk, hR⟩ := hC
  intro H locs la hH hS hL
  exact lv_aload_n hx hb d rfl (hL.2.2 1 _ rfl) (kk H locs la hH hS hL)

theorem am_iload2 {x : am_X} {cc : ByteArray} {own : String} {n mc ms : Nat} (hC : am_C x cc own n mc ms) {pc k z : Nat} {h : am_H} {ls : List (Option Value)} {st : List Value} {y0 y1 : Option Value} {tl : List (Option Value)} {v : Int} (d : decode cc pc = .ok (.iload_n 2, 1)) (kk : am_W x (pc + 1) k z h (y0 :: y1 :: some (vI v) :: tl) (vI v :: st)) : am_W x (pc) k z h (y0 :: y1 :: some (vI v) :: tl) (st) := by
  obtain ⟨p, l, e, R, s, m, args, below, meth, c, Q, g, nL⟩ := x
  obtain ⟨hx, hb, hml, hown, hts, hI, hlk, hR⟩ := hC
  intro H locs la hH hS hL
  exact lv_iload_n hx hb d rfl (hL.2.2 2 _ rfl) (kk H locs la hH hS hL)

theorem am_lload2 {x : am_X} {cc : ByteArray} {own : String} {n mc ms : Nat} (hC : am_C x cc own n mc ms) {pc k z : Nat} {h : am_H} {ls : List (Option Value)} {st : List Value} {y0 y1 : Option Value} {tl : List (Option Value)} {v : Int} (d : decode cc pc = .ok (.lload_n 2, 1)) (kk : am_W x (pc + 1) k z h (y0 :: y1 :: some (vL v) :: tl) (vL v :: st)) : am_W x (pc) k z h (y0 :: y1 :: some (vL v) :: tl) (st) := by
  obtain ⟨p, l, e, R, s, m, args, below, meth, c, Q, g, nL⟩ := x
  obtain ⟨hx, hb, hml, hown, hts, hI, hlk, hR⟩ := hC
  intro H locs la hH hS hL
  exact lv_lload_n hx hb d rfl (hL.2.2 2 _ rfl) (kk H locs la hH hS hL)

theorem am_aload2 {x : am_X} {cc : ByteArray} {own : String} {n mc ms : Nat} (hC : am_C x cc own n mc ms) {pc k z : Nat} {h : am_H} {ls : List (Option Value)} {st : List Value} {y0 y1 : Option Value} {tl : List (Option Value)} {v : Nat} (d : decode cc pc = .ok (.aload_n 2, 1)) (kk : am_W x (pc + 1) k z h (y0 :: y1 :: some (Value.ref v) :: tl) (Value.ref v :: st)) : am_W x (pc) k z h (y0 :: y1 :: some (Value.ref v) :: tl) (st) := by
  obtain ⟨p, l, e, R, s, m, args, below, meth, c, Q, g, nL⟩ := x
  obtain ⟨hx, hb, hml, hown, hts, hI, hlk, hR⟩ := hC
  intro H locs la hH hS hL
  exact lv_aload_n hx hb d rfl (hL.2.2 2 _ rfl) (kk H locs la hH hS hL)

theorem am_iload3 {x : am_X} {cc : ByteArray} {own : String} {n mc ms : Nat} (hC : am_C x cc own n mc ms) {pc k z : Nat} {h : am_H} {ls : List (Option Value)} {st : List Value} {y0 y1 y2 : Option Value} {tl : List (Option Value)} {v : Int} (d : decode cc pc = .ok (.iload_n 3, 1)) (kk : am_W x (pc + 1) k z h (y0 :: y1 :: y2 :: some (vI v) :: tl) (vI v :: st)) : am_W x (pc) k z h (y0 :: y1 :: y2 :: some (vI v) :: tl) (st) := by
  obtain ⟨p, l, e, R, s, m, args, below, meth, c, Q, g, nL⟩ := x
  obtain ⟨hx, hb, hml, hown, hts, hI, hlk, hR⟩ := hC
  intro H locs la hH hS hL
  exact lv_iload_n hx hb d rfl (hL.2.2 3 _ rfl) (kk H locs la hH hS hL)

theorem am_lload3 {x : am_X} {cc : ByteArray} {own : String} {n mc ms : Nat} (hC : am_C x cc own n mc ms) {pc k z : Nat} {h : am_H} {ls : List (Option Value)} {st : List Value} {y0 y1 y2 : Option Value} {tl : List (Option Value)} {v : Int} (d : decode cc pc = .ok (.lload_n 3, 1)) (kk : am_W x (pc + 1) k z h (y0 :: y1 :: y2 :: some (vL v) :: tl) (vL v :: st)) : am_W x (pc) k z h (y0 :: y1 :: y2 :: some (vL v) :: tl) (st) := by
  obtain ⟨p, l, e, R, s, m, args, below, meth, c, Q, g, nL⟩ := x
  obtain ⟨hx, hb, hml, hown, hts, hI, hlk, hR⟩ := hC
  intro H locs la hH hS hL
  exact lv_lload_n hx hb d rfl (hL.2.2 3 _ rfl) (kk H locs la hH hS hL)

theorem am_aload3 {x : am_X} {cc : ByteArray} {own : String} {n mc ms : Nat} (hC : am_C x cc own n mc ms) {pc k z : Nat} {h : am_H} {ls : List (Option Value)} {st : List Value} {y0 y1 y2 : Option Value} {tl : List (Option Value)} {v : Nat} (d : decode cc pc = .ok (.aload_n 3, 1)) (kk : am_W x (pc + 1) k z h (y0 :: y1 :: y2 :: some (Value.ref v) :: tl) (Value.ref v :: st)) : am_W x (pc) k z h (y0 :: y1 :: y2 :: some (Value.ref v) :: tl) (st) := by
  obtain ⟨p, l, e, R, s, m, args, below, meth, c, Q, g, nL⟩ := x
  obtain ⟨hx, hb, hml, hown, hts, hI, hlk, hR⟩ := hC
  intro H locs la hH hS hL
  exact lv_aload_n hx hb d rfl (hL.2.2 3 _ rfl) (kk H locs la hH hS hL)

theorem am_iload4 {x : am_X} {cc : ByteArray} {own : String} {n mc ms : Nat} (hC : am_C x cc own n mc ms) {pc k z : Nat} {h : am_H} {ls : List (Option Value)} {st : List Value} {y0 y1 y2 y3 : Option Value} {tl : List (Option Value)} {v : Int} (d : decode cc pc = .ok (.iload 4, 2)) (kk : am_W x (pc + 2) k z h (y0 :: y1 :: y2 :: y3 :: some (vI v) :: tl) (vI v :: st)) : am_W x (pc) k z h (y0 :: y1 :: y2 :: y3 :: some (vI v) :: tl) (st) := by
  obtain ⟨p, l, e, R, s, m, args, below, meth, c, Q, g, nL⟩ := x
  obtain ⟨hx, hb, hml, hown, hts, hI, hlk, hR⟩ := hC
  intro H locs la hH hS hL
  exact lv_iload hx hb d (hL.2.2 4 _ rfl) (kk H locs la hH hS hL)

theorem am_lload4 {x : am_X} {cc : ByteArray} {own : String} {n mc ms : Nat} (hC : am_C x cc own n mc ms) {pc k z : Nat} {h : am_H} {ls : List (Option Value)} {st : List Value} {y0 y1 y2 y3 : Option Value} {tl : List (Option Value)} {v : Int} (d : decode cc pc = .ok (.lload 4, 2)) (kk : am_W x (pc + 2) k z h (y0 :: y1 :: y2 :: y3 :: some (vL v) :: tl) (vL v :: st)) : am_W x (pc) k z h (y0 :: y1 :: y2 :: y3 :: some (vL v) :: tl) (st) := by
  obtain ⟨p, l, e, R, s, m, args, below, meth, c, Q, g, nL⟩ := x
  obtain ⟨hx, hb, hml, hown, hts, hI, hlk, hR⟩ := hC
  intro H locs la hH hS hL
  exact lv_lload hx hb d (hL.2.2 4 _ rfl) (kk H locs la hH hS hL)

theorem am_aload4 {x : am_X} {cc : ByteArray} {own : String} {n mc ms : Nat} (hC : am_C x cc own n mc ms) {pc k z : Nat} {h : am_H} {ls : List (Option Value)} {st : List Value} {y0 y1 y2 y3 : Option Value} {tl : List (Option Value)} {v : Nat} (d : decode cc pc = .ok (.aload 4, 2)) (kk : am_W x (pc + 2) k z h (y0 :: y1 :: y2 :: y3 :: some (Value.ref v) :: tl) (Value.ref v :: st)) : am_W x (pc) k z h (y0 :: y1 :: y2 :: y3 :: some (Value.ref v) :: tl) (st) := by
  obtain ⟨p, l, e, R, s, m, args, below, meth, c, Q, g, nL⟩ := x
  obtain ⟨hx, hb, hml, hown, hts, hI, hlk, hR⟩ := hC
  intro H locs la hH hS hL
  exact lv_aload hx hb d (hL.2.2 4 _ rfl) (kk H locs la hH hS hL)

theorem am_iload5 {x : am_X} {cc : ByteArray} {own : String} {n mc ms : Nat} (hC : am_C x cc own n mc ms) {pc k z : Nat} {h : am_H} {ls : List (Option Value)} {st : List Value} {y0 y1 y2 y3 y4 : Option Value} {tl : List (Option Value)} {v : Int} (d : decode cc pc = .ok (.iload 5, 2)) (kk : am_W x (pc + 2) k z h (y0 :: y1 :: y2 :: y3 :: y4 :: some (vI v) :: tl) (vI v :: st)) : am_W x (pc) k z h (y0 :: y1 :: y2 :: y3 :: y4 :: some (vI v) :: tl) (st) := by
  obtain ⟨p, l, e, R, s, m, args, below, meth, c, Q, g, nL⟩ := x
  obtain ⟨hx, hb, hml, hown, hts, hI, hlk, hR⟩ := hC
  intro H locs la hH hS hL
  exact lv_iload hx hb d (hL.2.2 5 _ rfl) (kk H locs la hH hS hL)

theorem am_lload5 {x : am_X} {cc : ByteArray} {own : String} {n mc ms : Nat} (hC : am_C x cc own n mc ms) {pc k z : Nat} {h : am_H} {ls : List (Option Value)} {st : List Value} {y0 y1 y2 y3 y4 : Option Value} {tl : List (Option Value)} {v : Int} (d : decode cc pc = .ok (.lload 5, 2)) (kk : am_W x (pc + 2) k z h (y0 :: y1 :: y2 :: y3 :: y4 :: some (vL v) :: tl) (vL v :: st)) : am_W x (pc) k z h (y0 :: y1 :: y2 :: y3 :: y4 :: some (vL v) :: tl) (st) := by
  obtain ⟨p, l, e, R, s, m, args, below, meth, c, Q, g, nL⟩ := x
  obtain ⟨hx, hb, hml, hown, hts, hI, hlk, hR⟩ := hC
  intro H locs la hH hS hL
  exact lv_lload hx hb d (hL.2.2 5 _ rfl) (kk H locs la hH hS hL)

theorem am_aload5 {x : am_X} {cc : ByteArray} {own : String} {n mc ms : Nat} (hC : am_C x cc own n mc ms) {pc k z : Nat} {h : am_H} {ls : List (Option Value)} {st : List Value} {y0 y1 y2 y3 y4 : Option Value} {tl : List (Option Value)} {v : Nat} (d : decode cc pc = .ok (.aload 5, 2)) (kk : am_W x (pc + 2) k z h (y0 :: y1 :: y2 :: y3 :: y4 :: some (Value.ref v) :: tl) (Value.ref v :: st)) : am_W x (pc) k z h (y0 :: y1 :: y2 :: y3 :: y4 :: some (Value.ref v) :: tl) (st) := by
  obtain ⟨p, l, e, R, s, m, args, below, meth, c, Q, g, nL⟩ := x
  obtain ⟨hx, hb, hml, hown, hts, hI, hlk, hR⟩ := hC
  intro H locs la hH hS hL
  exact lv_aload hx hb d (hL.2.2 5 _ rfl) (kk H locs la hH hS hL)

theorem am_iload6 {x : am_X} {cc : ByteArray} {own : String} {n mc ms : Nat} (hC : am_C x cc own n mc ms) {pc k z : Nat} {h : am_H} {ls : List (Option Value)} {st : List Value} {y0 y1 y2 y3 y4 y5 : Option Value} {tl : List (Option Value)} {v : Int} (d : decode cc pc = .ok (.iload 6, 2)) (kk : am_W x (pc + 2) k z h (y0 :: y1 :: y2 :: y3 :: y4 :: y5 :: some (vI v) :: tl) (vI v :: st)) : am_W x (pc) k z h (y0 :: y1 :: y2 :: y3 :: y4 :: y5 :: some (vI v) :: tl) (st) := by
  obtain ⟨p, l, e, R, s, m, args, below, meth, c, Q, g, nL⟩ := x
  obtain ⟨hx, hb, hml, hown, hts, hI, hlk, hR⟩ := hC
  intro H locs la hH hS hL
  exact lv_iload hx hb d (hL.2.2 6 _ rfl) (kk H locs la hH hS hL)

theorem am_lload6 {x : am_X} {cc : ByteArray} {own : String} {n mc ms : Nat} (hC : am_C x cc own n mc ms) {pc k z : Nat} {h : am_H} {ls : List (Option Value)} {st : List Value} {y0 y1 y2 y3 y4 y5 : Option Value} {tl : List (Option Value)} {v : Int} (d : decode cc pc = .ok (.lload 6, 2)) (kk : am_W x (pc + 2) k z h (y0 :: y1 :: y2 :: y3 :: y4 :: y5 :: some (vL v) :: tl) (vL v :: st)) : am_W x (pc) k z h (y0 :: y1 :: y2 :: y3 :: y4 :: y5 :: some (vL v) :: tl) (st) := by
  obtain ⟨p, l, e, R, s, m, args, below, meth, c, Q, g, nL⟩ := x
  obtain ⟨hx, hb, hml, hown, hts, hI, hlk, hR⟩ := hC
  intro H locs la hH hS hL
  exact lv_lload hx hb d (hL.2.2 6 _ rfl) (kk H locs la hH hS hL)

theorem am_aload6 {x : am_X} {cc : ByteArray} {own : String} {n mc ms : Nat} (hC : am_C x cc own n mc ms) {pc k z : Nat} {h : am_H} {ls : List (Option Value)} {st : List Value} {y0 y1 y2 y3 y4 y5 : Option Value} {tl : List (Option Value)} {v : Nat} (d : decode cc pc = .ok (.aload 6, 2)) (kk : am_W x (pc + 2) k z h (y0 :: y1 :: y2 :: y3 :: y4 :: y5 :: some (Value.ref v) :: tl) (Value.ref v :: st)) : am_W x (pc) k z h (y0 :: y1 :: y2 :: y3 :: y4 :: y5 :: some (Value.ref v) :: tl) (st) := by
  obtain ⟨p, l, e, R, s, m, args, below, meth, c, Q, g, nL⟩ := x
  obtain ⟨hx, hb, hml, hown, hts, hI, hlk, hR⟩ := hC
  intro H locs la hH hS hL
  exact lv_aload hx hb d (hL.2.2 6 _ rfl) (kk H locs la hH hS hL)

theorem am_iload7 {x : am_X} {cc : ByteArray} {own : String} {n mc ms : Nat} (hC : am_C x cc own n mc ms) {pc k z : Nat} {h : am_H} {ls : List (Option Value)} {st : List Value} {y0 y1 y2 y3 y4 y5 y6 : Option Value} {tl : List (Option Value)} {v : Int} (d : decode cc pc = .ok (.iload 7, 2)) (kk : am_W x (pc + 2) k z h (y0 :: y1 :: y2 :: y3 :: y4 :: y5 :: y6 :: some (vI v) :: tl) (vI v :: st)) : am_W x (pc) k z h (y0 :: y1 :: y2 :: y3 :: y4 :: y5 :: y6 :: some (vI v) :: tl) (st) := by
  obtain ⟨p, l, e, R, s, m, args, below, meth, c, Q, g, nL⟩ := x
  obtain ⟨hx, hb, hml, hown, hts, hI, hlk, hR⟩ := hC
  intro H locs la hH hS hL
  exact lv_iload hx hb d (hL.2.2 7 _ rfl) (kk H locs la hH hS hL)

theorem am_lload7 {x : am_X} {cc : ByteArray} {own : String} {n mc ms : Nat} (hC : am_C x cc own n mc ms) {pc k z : Nat} {h : am_H} {ls : List (Option Value)} {st : List Value} {y0 y1 y2 y3 y4 y5 y6 : Option Value} {tl : List (Option Value)} {v : Int} (d : decode cc pc = .ok (.lload 7, 2)) (kk : am_W x (pc + 2) k z h (y0 :: y1 :: y2 :: y3 :: y4 :: y5 :: y6 :: some (vL v) :: tl) (vL v :: st)) : am_W x (pc) k z h (y0 :: y1 :: y2 :: y3 :: y4 :: y5 :: y6 :: some (vL v) :: tl) (st) := by
  obtain ⟨p, l, e, R, s, m, args, below, meth, c, Q, g, nL⟩ := x
  obtain ⟨hx, hb, hml, hown, hts, hI, hlk, hR⟩ := hC
  intro H locs la hH hS hL
  exact lv_lload hx hb d (hL.2.2 7 _ rfl) (kk H locs la hH hS hL)

theorem am_aload7 {x : am_X} {cc : ByteArray} {own : String} {n mc ms : Nat} (hC : am_C x cc own n mc ms) {pc k z : Nat} {h : am_H} {ls : List (Option Value)} {st : List Value} {y0 y1 y2 y3 y4 y5 y6 : Option Value} {tl : List (Option Value)} {v : Nat} (d : decode cc pc = .ok (.aload 7, 2)) (kk : am_W x (pc + 2) k z h (y0 :: y1 :: y2 :: y3 :: y4 :: y5 :: y6 :: some (Value.ref v) :: tl) (Value.ref v :: st)) : am_W x (pc) k z h (y0 :: y1 :: y2 :: y3 :: y4 :: y5 :: y6 :: some (Value.ref v) :: tl) (st) := by
  obtain ⟨p, l, e, R, s, m, args, below, meth, c, Q, g, nL⟩ := x
  obtain ⟨hx, hb, hml, hown, hts, hI, hlk, hR⟩ := hC
  intro H locs la hH hS hL
  exact lv_aload hx hb d (hL.2.2 7 _ rfl) (kk H locs la hH hS hL)

theorem am_iload8 {x : am_X} {cc : ByteArray} {own : String} {n mc ms : Nat} (hC : am_C x cc own n mc ms) {pc k z : Nat} {h : am_H} {ls : List (Option Value)} {st : List Value} {y0 y1 y2 y3 y4 y5 y6 y7 : Option Value} {tl : List (Option Value)} {v : Int} (d : decode cc pc = .ok (.iload 8, 2)) (kk : am_W x (pc + 2) k z h (y0 :: y1 :: y2 :: y3 :: y4 :: y5 :: y6 :: y7 :: some (vI v) :: tl) (vI v :: st)) : am_W x (pc) k z h (y0 :: y1 :: y2 :: y3 :: y4 :: y5 :: y6 :: y7 :: some (vI v) :: tl) (st) := by
  obtain ⟨p, l, e, R, s, m, args, below, meth, c, Q, g, nL⟩ := x
  obtain ⟨hx, hb, hml, hown, hts, hI, hlk, hR⟩ := hC
  intro H locs la hH hS hL
  exact lv_iload hx hb d (hL.2.2 8 _ rfl) (kk H locs la hH hS hL)

theorem am_lload8 {x : am_X} {cc : ByteArray} {own : String} {n mc ms : Nat} (hC : am_C x cc own n mc ms) {pc k z : Nat} {h : am_H} {ls : List (Option Value)} {st : List Value} {y0 y1 y2 y3 y4 y5 y6 y7 : Option Value} {tl : List (Option Value)} {v : Int} (d : decode cc pc = .ok (.lload 8, 2)) (kk : am_W x (pc + 2) k z h (y0 :: y1 :: y2 :: y3 :: y4 :: y5 :: y6 :: y7 :: some (vL v) :: tl) (vL v :: st)) : am_W x (pc) k z h (y0 :: y1 :: y2 :: y3 :: y4 :: y5 :: y6 :: y7 :: some (vL v) :: tl) (st) := by
  obtain ⟨p, l, e, R, s, m, args, below, meth, c, Q, g, nL⟩ := x
  obtain ⟨hx, hb, hml, hown, hts, hI, hlk, hR⟩ := hC
  intro H locs la hH hS hL
  exact lv_lload hx hb d (hL.2.2 8 _ rfl) (kk H locs la hH hS hL)

theorem am_aload8 {x : am_X} {cc : ByteArray} {own : String} {n mc ms : Nat} (hC : am_C x cc own n mc ms) {pc k z : Nat} {h : am_H} {ls : List (Option Value)} {st : List Value} {y0 y1 y2 y3 y4 y5 y6 y7 : Option Value} {tl : List (Option Value)} {v : Nat} (d : decode cc pc = .ok (.aload 8, 2)) (kk : am_W x (pc + 2) k z h (y0 :: y1 :: y2 :: y3 :: y4 :: y5 :: y6 :: y7 :: some (Value.ref v) :: tl) (Value.ref v :: st)) : am_W x (pc) k z h (y0 :: y1 :: y2 :: y3 :: y4 :: y5 :: y6 :: y7 :: some (Value.ref v) :: tl) (st) := by
  obtain ⟨p, l, e, R, s, m, args, below, meth, c, Q, g, nL⟩ := x
  obtain ⟨hx, hb, hml, hown, hts, hI, hlk, hR⟩ := hC
  intro H locs la hH hS hL
  exact lv_aload hx hb d (hL.2.2 8 _ rfl) (kk H locs la hH hS hL)

theorem am_iload9 {x : am_X} {cc : ByteArray} {own : String} {n mc ms : Nat} (hC : am_C x cc own n mc ms) {pc k z : Nat} {h : am_H} {ls : List (Option Value)} {st : List Value} {y0 y1 y2 y3 y4 y5 y6 y7 y8 : Option Value} {tl : List (Option Value)} {v : Int} (d : decode cc pc = .ok (.iload 9, 2)) (kk : am_W x (pc + 2) k z h (y0 :: y1 :: y2 :: y3 :: y4 :: y5 :: y6 :: y7 :: y8 :: some (vI v) :: tl) (vI v :: st)) : am_W x (pc) k z h (y0 :: y1 :: y2 :: y3 :: y4 :: y5 :: y6 :: y7 :: y8 :: some (vI v) :: tl) (st) := by
  obtain ⟨p, l, e, R, s, m, args, below, meth, c, Q, g, nL⟩ := x
  obtain ⟨hx, hb, hml, hown, hts, hI, hlk, hR⟩ := hC
  intro H locs la hH hS hL
  exact lv_iload hx hb d (hL.2.2 9 _ rfl) (kk H locs la hH hS hL)

theorem am_lload9 {x : am_X} {cc : ByteArray} {own : String} {n mc ms : Nat} (hC : am_C x cc own n mc ms) {pc k z : Nat} {h : am_H} {ls : List (Option Value)} {st : List Value} {y0 y1 y2 y3 y4 y5 y6 y7 y8 : Option Value} {tl : List (Option Value)} {v : Int} (d : decode cc pc = .ok (.lload 9, 2)) (kk : am_W x (pc + 2) k z h (y0 :: y1 :: y2 :: y3 :: y4 :: y5 :: y6 :: y7 :: y8 :: some (vL v) :: tl) (vL v :: st)) : am_W x (pc) k z h (y0 :: y1 :: y2 :: y3 :: y4 :: y5 :: y6 :: y7 :: y8 :: some (vL v) :: tl) (st) := by
  obtain ⟨p, l, e, R, s, m, args, below, meth, c, Q, g, nL⟩ := x
  obtain ⟨hx, hb, hml, hown, hts, hI, hlk, hR⟩ := hC
  intro H locs la hH hS hL
  exact lv_lload hx hb d (hL.2.2 9 _ rfl) (kk H locs la hH hS hL)

theorem am_aload9 {x : am_X} {cc : ByteArray} {own : String} {n mc ms : Nat} (hC : am_C x cc own n mc ms) {pc k z : Nat} {h : am_H} {ls : List (Option Value)} {st : List Value} {y0 y1 y2 y3 y4 y5 y6 y7 y8 : Option Value} {tl : List (Option Value)} {v : Nat} (d : decode cc pc = .ok (.aload 9, 2)) (kk : am_W x (pc + 2) k z h (y0 :: y1 :: y2 :: y3 :: y4 :: y5 :: y6 :: y7 :: y8 :: some (Value.ref v) :: tl) (Value.ref v :: st)) : am_W x (pc) k z h (y0 :: y1 :: y2 :: y3 :: y4 :: y5 :: y6 :: y7 :: y8 :: some (Value.ref v) :: tl) (st) := by
  obtain ⟨p, l, e, R, s, m, args, below, meth, c, Q, g, nL⟩ := x
  obtain ⟨hx, hb, hml, hown, hts, hI, hlk, hR⟩ := hC
  intro H locs la hH hS hL
  exact lv_aload hx hb d (hL.2.2 9 _ rfl) (kk H locs la hH hS hL)

theorem am_iload10 {x : am_X} {cc : ByteArray} {own : String} {n mc ms : Nat} (hC : am_C x cc own n mc ms) {pc k z : Nat} {h : am_H} {ls : List (Option Value)} {st : List Value} {y0 y1 y2 y3 y4 y5 y6 y7 y8 y9 : Option Value} {tl : List (Option Value)} {v : Int} (d : decode cc pc = .ok (.iload 10, 2)) (kk : am_W x (pc + 2) k z h (y0 :: y1 :: y2 :: y3 :: y4 :: y5 :: y6 :: y7 :: y8 :: y9 :: some (vI v) :: tl) (vI v :: st)) : am_W x (pc) k z h (y0 :: y1 :: y2 :: y3 :: y4 :: y5 :: y6 :: y7 :: y8 :: y9 :: some (vI v) :: tl) (st) := by
  obtain ⟨p, l, e, R, s, m, args, below, meth, c, Q, g, nL⟩ := x
  obtain ⟨hx, hb, hml, hown, hts, hI, hlk, hR⟩ := hC
  intro H locs la hH hS hL
  exact lv_iload hx hb d (hL.2.2 10 _ rfl) (kk H locs la hH hS hL)

theorem am_lload10 {x : am_X} {cc : ByteArray} {own : String} {n mc ms : Nat} (hC : am_C x cc own n mc ms) {pc k z : Nat} {h : am_H} {ls : List (Option Value)} {st : List Value} {y0 y1 y2 y3 y4 y5 y6 y7 y8 y9 : Option Value} {tl : List (Option Value)} {v : Int} (d : decode cc pc = .ok (.lload 10, 2)) (kk : am_W x (pc + 2) k z h (y0 :: y1 :: y2 :: y3 :: y4 :: y5 :: y6 :: y7 :: y8 :: y9 :: some (vL v) :: tl) (vL v :: st)) : am_W x (pc) k z h (y0 :: y1 :: y2 :: y3 :: y4 :: y5 :: y6 :: y7 :: y8 :: y9 :: some (vL v) :: tl) (st) := by
  obtain ⟨p, l, e, R, s, m, args, below, meth, c, Q, g, nL⟩ := x
  obtain ⟨hx, hb, hml, hown, hts, hI, hlk, hR⟩ := hC
  intro H locs la hH hS hL
  exact lv_lload hx hb d (hL.2.2 10 _ rfl) (kk H locs la hH hS hL)

theorem am_aload10 {x : am_X} {cc : ByteArray} {own : String} {n mc ms : Nat} (hC : am_C x cc own n mc ms) {pc k z : Nat} {h : am_H} {ls : List (Option Value)} {st : List Value} {y0 y1 y2 y3 y4 y5 y6 y7 y8 y9 : Option Value} {tl : List (Option Value)} {v : Nat} (d : decode cc pc = .ok (.aload 10, 2)) (kk : am_W x (pc + 2) k z h (y0 :: y1 :: y2 :: y3 :: y4 :: y5 :: y6 :: y7 :: y8 :: y9 :: some (Value.ref v) :: tl) (Value.ref v :: st)) : am_W x (pc) k z h (y0 :: y1 :: y2 :: y3 :: y4 :: y5 :: y6 :: y7 :: y8 :: y9 :: some (Value.ref v) :: tl) (st) := by
  obtain ⟨p, l, e, R, s, m, args, below, meth, c, Q, g, nL⟩ := x
  obtain ⟨hx, hb, hml, hown, hts, hI, hlk, hR⟩ := hC
  intro H locs la hH hS hL
  exact lv_aload hx hb d (hL.2.2 10 _ rfl) (kk H locs la hH hS hL)

theorem am_iload11 {x : am_X} {cc : ByteArray} {own : String} {n mc ms : Nat} (hC : am_C x cc own n mc ms) {pc k z : Nat} {h : am_H} {ls : List (Option Value)} {st : List Value} {y0 y1 y2 y3 y4 y5 y6 y7 y8 y9 y10 : Option Value} {tl : List (Option Value)} {v : Int} (d : decode cc pc = .ok (.iload 11, 2)) (kk : am_W x (pc + 2) k z h (y0 :: y1 :: y2 :: y3 :: y4 :: y5 :: y6 :: y7 :: y8 :: y9 :: y10 :: some (vI v) :: tl) (vI v :: st)) : am_W x (pc) k z h (y0 :: y1 :: y2 :: y3 :: y4 :: y5 :: y6 :: y7 :: y8 :: y9 :: y10 :: some (vI v) :: tl) (st) := by
  obtain ⟨p, l, e, R, s, m, args, below, meth, c, Q, g, nL⟩ := x
  obtain ⟨hx, hb, hml, hown, hts, hI, hlk, hR⟩ := hC
  intro H locs la hH hS hL
  exact lv_iload hx hb d (hL.2.2 11 _ rfl) (kk H locs la hH hS hL)

theorem am_lload11 {x : am_X} {cc : ByteArray} {own : String} {n mc ms : Nat} (hC : am_C x cc own n mc ms) {pc k z : Nat} {h : am_H} {ls : List (Option Value)} {st : List Value} {y0 y1 y2 y3 y4 y5 y6 y7 y8 y9 y10 : Option Value} {tl : List (Option Value)} {v : Int} (d : decode cc pc = .ok (.lload 11, 2)) (kk : am_W x (pc + 2) k z h (y0 :: y1 :: y2 :: y3 :: y4 :: y5 :: y6 :: y7 :: y8 :: y9 :: y10 :: some (vL v) :: tl) (vL v :: st)) : am_W x (pc) k z h (y0 :: y1 :: y2 :: y3 :: y4 :: y5 :: y6 :: y7 :: y8 :: y9 :: y10 :: some (vL v) :: tl) (st) := by
  obtain ⟨p, l, e, R, s, m, args, below, meth, c, Q, g, nL⟩ := x
  obtain ⟨hx, hb, hml, hown, hts, hI, hlk, hR⟩ := hC
  intro H locs la hH hS hL
  exact lv_lload hx hb d (hL.2.2 11 _ rfl) (kk H locs la hH hS hL)

theorem am_aload11 {x : am_X} {cc : ByteArray} {own : String} {n mc ms : Nat} (hC : am_C x cc own n mc ms) {pc k z : Nat} {h : am_H} {ls : List (Option Value)} {st : List Value} {y0 y1 y2 y3 y4 y5 y6 y7 y8 y9 y10 : Option Value} {tl : List (Option Value)} {v : Nat} (d : decode cc pc = .ok (.aload 11, 2)) (kk : am_W x (pc + 2) k z h (y0 :: y1 :: y2 :: y3 :: y4 :: y5 :: y6 :: y7 :: y8 :: y9 :: y10 :: some (Value.ref v) :: tl) (Value.ref v :: st)) : am_W x (pc) k z h (y0 :: y1 :: y2 :: y3 :: y4 :: y5 :: y6 :: y7 :: y8 :: y9 :: y10 :: some (Value.ref v) :: tl) (st) := by
  obtain ⟨p, l, e, R, s, m, args, below, meth, c, Q, g, nL⟩ := x
  obtain ⟨hx, hb, hml, hown, hts, hI, hlk, hR⟩ := hC
  intro H locs la hH hS hL
  exact lv_aload hx hb d (hL.2.2 11 _ rfl) (kk H locs la hH hS hL)

theorem am_iload12 {x : am_X} {cc : ByteArray} {own : String} {n mc ms : Nat} (hC : am_C x cc own n mc ms) {pc k z : Nat} {h : am_H} {ls : List (Option Value)} {st : List Value} {y0 y1 y2 y3 y4 y5 y6 y7 y8 y9 y10 y11 : Option Value} {tl : List (Option Value)} {v : Int} (d : decode cc pc = .ok (.iload 12, 2)) (kk : am_W x (pc + 2) k z h (y0 :: y1 :: y2 :: y3 :: y4 :: y5 :: y6 :: y7 :: y8 :: y9 :: y10 :: y11 :: some (vI v) :: tl) (vI v :: st)) : am_W x (pc) k z h (y0 :: y1 :: y2 :: y3 :: y4 :: y5 :: y6 :: y7 :: y8 :: y9 :: y10 :: y11 :: some (vI v) :: tl) (st) := by
  obtain ⟨p, l, e, R, s, m, args, below, meth, c, Q, g, nL⟩ := x
  obtain ⟨hx, hb, hml, hown, hts, hI, hlk, hR⟩ := hC
  intro H locs la hH hS hL
  exact lv_iload hx hb d (hL.2.2 12 _ rfl) (kk H locs la hH hS hL)

theorem am_lload12 {x : am_X} {cc : ByteArray} {own : String} {n mc ms : Nat} (hC : am_C x cc own n mc ms) {pc k z : Nat} {h : am_H} {ls : List (Option Value)} {st : List Value} {y0 y1 y2 y3 y4 y5 y6 y7 y8 y9 y10 y11 : Option Value} {tl : List (Option Value)} {v : Int} (d : decode cc pc = .ok (.lload 12, 2)) (kk : am_W x (pc + 2) k z h (y0 :: y1 :: y2 :: y3 :: y4 :: y5 :: y6 :: y7 :: y8 :: y9 :: y10 :: y11 :: some (vL v) :: tl) (vL v :: st)) : am_W x (pc) k z h (y0 :: y1 :: y2 :: y3 :: y4 :: y5 :: y6 :: y7 :: y8 :: y9 :: y10 :: y11 :: some (vL v) :: tl) (st) := by
  obtain ⟨p, l, e, R, s, m, args, below, meth, c, Q, g, nL⟩ := x
  obtain ⟨hx, hb, hml, hown, hts, hI, hlk, hR⟩ := hC
  intro H locs la hH hS hL
  exact lv_lload hx hb d (hL.2.2 12 _ rfl) (kk H locs la hH hS hL)

theorem am_aload12 {x : am_X} {cc : ByteArray} {own : String} {n mc ms : Nat} (hC : am_C x cc own n mc ms) {pc k z : Nat} {h : am_H} {ls : List (Option Value)} {st : List Value} {y0 y1 y2 y3 y4 y5 y6 y7 y8 y9 y10 y11 : Option Value} {tl : List (Option Value)} {v : Nat} (d : decode cc pc = .ok (.aload 12, 2)) (kk : am_W x (pc + 2) k z h (y0 :: y1 :: y2 :: y3 :: y4 :: y5 :: y6 :: y7 :: y8 :: y9 :: y10 :: y11 :: some (Value.ref v) :: tl) (Value.ref v :: st)) : am_W x (pc) k z h (y0 :: y1 :: y2 :: y3 :: y4 :: y5 :: y6 :: y7 :: y8 :: y9 :: y10 :: y11 :: some (Value.ref v) :: tl) (st) := by
  obtain ⟨p, l, e, R, s, m, args, below, meth, c, Q, g, nL⟩ := x
  obtain ⟨hx, hb, hml, hown, hts, hI, hlk, hR⟩ := hC
  intro H locs la hH hS hL
  exact lv_aload hx hb d (hL.2.2 12 _ rfl) (kk H locs la hH hS hL)

theorem am_iload13 {x : am_X} {cc : ByteArray} {own : String} {n mc ms : Nat} (hC : am_C x cc own n mc ms) {pc k z : Nat} {h : am_H} {ls : List (Option Value)} {st : List Value} {y0 y1 y2 y3 y4 y5 y6 y7 y8 y9 y10 y11 y12 : Option Value} {tl : List (Option Value)} {v : Int} (d : decode cc pc = .ok (.iload 13, 2)) (kk : am_W x (pc + 2) k z h (y0 :: y1 :: y2 :: y3 :: y4 :: y5 :: y6 :: y7 :: y8 :: y9 :: y10 :: y11 :: y12 :: some (vI v) :: tl) (vI v :: st)) : am_W x (pc) k z h (y0 :: y1 :: y2 :: y3 :: y4 :: y5 :: y6 :: y7 :: y8 :: y9 :: y10 :: y11 :: y12 :: some (vI v) :: tl) (st) := by
  obtain ⟨p, l, e, R, s, m, args, below, meth, c, Q, g, nL⟩ := x
  obtain ⟨hx, hb, hml, hown, hts, hI, hlk, hR⟩ := hC
  intro H locs la hH hS hL
  exact lv_iload hx hb d (hL.2.2 13 _ rfl) (kk H locs la hH hS hL)

theorem am_lload13 {x : am_X} {cc : ByteArray} {own : String} {n mc ms : Nat} (hC : am_C x cc own n mc ms) {pc k z : Nat} {h : am_H} {ls : List (Option Value)} {st : List Value} {y0 y1 y2 y3 y4 y5 y6 y7 y8 y9 y10 y11 y12 : Option Value} {tl : List (Option Value)} {v : Int} (d : decode cc pc = .ok (.lload 13, 2)) (kk : am_W x (pc + 2) k z h (y0 :: y1 :: y2 :: y3 :: y4 :: y5 :: y6 :: y7 :: y8 :: y9 :: y10 :: y11 :: y12 :: some (vL v) :: tl) (vL v :: st)) : am_W x (pc) k z h (y0 :: y1 :: y2 :: y3 :: y4 :: y5 :: y6 :: y7 :: y8 :: y9 :: y10 :: y11 :: y12 :: some (vL v) :: tl) (st) := by
  obtain ⟨p, l, e, R, s, m, args, below, meth, c, Q, g, nL⟩ := x
  obtain ⟨hx, hb, hml, hown, hts, hI, hlk, hR⟩ := hC
  intro H locs la hH hS hL
  exact lv_lload hx hb d (hL.2.2 13 _ rfl) (kk H locs la hH hS hL)

theorem am_aload13 {x : am_X} {cc : ByteArray} {own : String} {n mc ms : Nat} (hC : am_C x cc own n mc ms) {pc k z : Nat} {h : am_H} {ls : List (Option Value)} {st : List Value} {y0 y1 y2 y3 y4 y5 y6 y7 y8 y9 y10 y11 y12 : Option Value} {tl : List (Option Value)} {v : Nat} (d : decode cc pc = .ok (.aload 13, 2)) (kk : am_W x (pc + 2) k z h (y0 :: y1 :: y2 :: y3 :: y4 :: y5 :: y6 :: y7 :: y8 :: y9 :: y10 :: y11 :: y12 :: some (Value.ref v) :: tl) (Value.ref v :: st)) : am_W x (pc) k z h (y0 :: y1 :: y2 :: y3 :: y4 :: y5 :: y6 :: y7 :: y8 :: y9 :: y10 :: y11 :: y12 :: some (Value.ref v) :: tl) (st) := by
  obtain ⟨p, l, e, R, s, m, args, below, meth, c, Q, g, nL⟩ := x
  obtain ⟨hx, hb, hml, hown, hts, hI, hlk, hR⟩ := hC
  intro H locs la hH hS hL
  exact lv_aload hx hb d (hL.2.2 13 _ rfl) (kk H locs la hH hS hL)

theorem am_iload14 {x : am_X} {cc : ByteArray} {own : String} {n mc ms : Nat} (hC : am_C x cc own n mc ms) {pc k z : Nat} {h : am_H} {ls : List (Option Value)} {st : List Value} {y0 y1 y2 y3 y4 y5 y6 y7 y8 y9 y10 y11 y12 y13 : Option Value} {tl : List (Option Value)} {v : Int} (d : decode cc pc = .ok (.iload 14, 2)) (kk : am_W x (pc + 2) k z h (y0 :: y1 :: y2 :: y3 :: y4 :: y5 :: y6 :: y7 :: y8 :: y9 :: y10 :: y11 :: y12 :: y13 :: some (vI v) :: tl) (vI v :: st)) : am_W x (pc) k z h (y0 :: y1 :: y2 :: y3 :: y4 :: y5 :: y6 :: y7 :: y8 :: y9 :: y10 :: y11 :: y12 :: y13 :: some (vI v) :: tl) (st) := by
  obtain ⟨p, l, e, R, s, m, args, below, meth, c, Q, g, nL⟩ := x
  obtain ⟨hx, hb, hml, hown, hts, hI, hlk, hR⟩ := hC
  intro H locs la hH hS hL
  exact lv_iload hx hb d (hL.2.2 14 _ rfl) (kk H locs la hH hS hL)

theorem am_lload14 {x : am_X} {cc : ByteArray} {own : String} {n mc ms : Nat} (hC : am_C x cc own n mc ms) {pc k z : Nat} {h : am_H} {ls : List (Option Value)} {st : List Value} {y0 y1 y2 y3 y4 y5 y6 y7 y8 y9 y10 y11 y12 y13 : Option Value} {tl : List (Option Value)} {v : Int} (d : decode cc pc = .ok (.lload 14, 2)) (kk : am_W x (pc + 2) k z h (y0 :: y1 :: y2 :: y3 :: y4 :: y5 :: y6 :: y7 :: y8 :: y9 :: y10 :: y11 :: y12 :: y13 :: some (vL v) :: tl) (vL v :: st)) : am_W x (pc) k z h (y0 :: y1 :: y2 :: y3 :: y4 :: y5 :: y6 :: y7 :: y8 :: y9 :: y10 :: y11 :: y12 :: y13 :: some (vL v) :: tl) (st) := by
  obtain ⟨p, l, e, R, s, m, args, below, meth, c, Q, g, nL⟩ := x
  obtain ⟨hx, hb, hml, hown, hts, hI, hlk, hR⟩ := hC
  intro H locs la hH hS hL
  exact lv_lload hx hb d (hL.2.2 14 _ rfl) (kk H locs la hH hS hL)

theorem am_aload14 {x : am_X} {cc : ByteArray} {own : String} {n mc ms : Nat} (hC : am_C x cc own n mc ms) {pc k z : Nat} {h : am_H} {ls : List (Option Value)} {st : List Value} {y0 y1 y2 y3 y4 y5 y6 y7 y8 y9 y10 y11 y12 y13 : Option Value} {tl : List (Option Value)} {v : Nat} (d : decode cc pc = .ok (.aload 14, 2)) (kk : am_W x (pc + 2) k z h (y0 :: y1 :: y2 :: y3 :: y4 :: y5 :: y6 :: y7 :: y8 :: y9 :: y10 :: y11 :: y12 :: y13 :: some (Value.ref v) :: tl) (Value.ref v :: st)) : am_W x (pc) k z h (y0 :: y1 :: y2 :: y3 :: y4 :: y5 :: y6 :: y7 :: y8 :: y9 :: y10 :: y11 :: y12 :: y13 :: some (Value.ref v) :: tl) (st) := by
  obtain ⟨p, l, e, R, s, m, args, below, meth, c, Q, g, nL⟩ := x
  obtain ⟨hx, hb, hml, hown, hts, hI, hlk, hR⟩ := hC
  intro H locs la hH hS hL
  exact lv_aload hx hb d (hL.2.2 14 _ rfl) (kk H locs la hH hS hL)

theorem am_iload15 {x : am_X} {cc : ByteArray} {own : String} {n mc ms : Nat} (hC : am_C x cc own n mc ms) {pc k z : Nat} {h : am_H} {ls : List (Option Value)} {st : List Value} {y0 y1 y2 y3 y4 y5 y6 y7 y8 y9 y10 y11 y12 y13 y14 : Option Value} {tl : List (Option Value)} {v : Int} (d : decode cc pc = .ok (.iload 15, 2)) (kk : am_W x (pc + 2) k z h (y0 :: y1 :: y2 :: y3 :: y4 :: y5 :: y6 :: y7 :: y8 :: y9 :: y10 :: y11 :: y12 :: y13 :: y14 :: some (vI v) :: tl) (vI v :: st)) : am_W x (pc) k z h (y0 :: y1 :: y2 :: y3 :: y4 :: y5 :: y6 :: y7 :: y8 :: y9 :: y10 :: y11 :: y12 :: y13 :: y14 :: some (vI v) :: tl) (st) := by
  obtain ⟨p, l, e, R, s, m, args, below, meth, c, Q, g, nL⟩ := x
  obtain ⟨hx, hb, hml, hown, hts, hI, hlk, hR⟩ := hC
  intro H locs la hH hS hL
  exact lv_iload hx hb d (hL.2.2 15 _ rfl) (kk H locs la hH hS hL)

theorem am_lload15 {x : am_X} {cc : ByteArray} {own : String} {n mc ms : Nat} (hC : am_C x cc own n mc ms) {pc k z : Nat} {h : am_H} {ls : List (Option Value)} {st : List Value} {y0 y1 y2 y3 y4 y5 y6 y7 y8 y9 y10 y11 y12 y13 y14 : Option Value} {tl : List (Option Value)} {v : Int} (d : decode cc pc = .ok (.lload 15, 2)) (kk : am_W x (pc + 2) k z h (y0 :: y1 :: y2 :: y3 :: y4 :: y5 :: y6 :: y7 :: y8 :: y9 :: y10 :: y11 :: y12 :: y13 :: y14 :: some (vL v) :: tl) (vL v :: st)) : am_W x (pc) k z h (y0 :: y1 :: y2 :: y3 :: y4 :: y5 :: y6 :: y7 :: y8 :: y9 :: y10 :: y11 :: y12 :: y13 :: y14 :: some (vL v) :: tl) (st) := by
  obtain ⟨p, l, e, R, s, m, args, below, meth, c, Q, g, nL⟩ := x
  obtain ⟨hx, hb, hml, hown, hts, hI, hlk, hR⟩ := hC
  intro H locs la hH hS hL
  exact lv_lload hx hb d (hL.2.2 15 _ rfl) (kk H locs la hH hS hL)

theorem am_aload15 {x : am_X} {cc : ByteArray} {own : String} {n mc ms : Nat} (hC : am_C x cc own n mc ms) {pc k z : Nat} {h : am_H} {ls : List (Option Value)} {st : List Value} {y0 y1 y2 y3 y4 y5 y6 y7 y8 y9 y10 y11 y12 y13 y14 : Option Value} {tl : List (Option Value)} {v : Nat} (d : decode cc pc = .ok (.aload 15, 2)) (kk : am_W x (pc + 2) k z h (y0 :: y1 :: y2 :: y3 :: y4 :: y5 :: y6 :: y7 :: y8 :: y9 :: y10 :: y11 :: y12 :: y13 :: y14 :: some (Value.ref v) :: tl) (Value.ref v :: st)) : am_W x (pc) k z h (y0 :: y1 :: y2 :: y3 :: y4 :: y5 :: y6 :: y7 :: y8 :: y9 :: y10 :: y11 :: y12 :: y13 :: y14 :: some (Value.ref v) :: tl) (st) := by
  obtain ⟨p, l, e, R, s, m, args, below, meth, c, Q, g, nL⟩ := x
  obtain ⟨hx, hb, hml, hown, hts, hI, hlk, hR⟩ := hC
  intro H locs la hH hS hL
  exact lv_aload hx hb d (hL.2.2 15 _ rfl) (kk H locs la hH hS hL)

/-- what stands ahead of a place isn't a long -/
def am_n2 (o : Option Value) : Bool := match o with
  | some v => v.category != 2
  | none => true
theorem am_hp {ls : List (Option Value)} {i : Nat} {o : Option Value} (h : ls[i]? = some o) (hp : am_n2 o = true) : ∀ (j : Nat) (u : Option Value), j + 1 = i + 1 → ls[j]? = some u → am_n2 u = true := by
  intro j u hj hu
  have e9 : j = i := by omega
  subst e9
  rw [h] at hu
  cases hu
  exact hp
theorem am_st1 {b nL i : Nat} {ls : List (Option Value)} {la : Array Slot} (v : Value) (h : am_L b nL ls la) (hi : i < nL) (hc : v.category = 1) (hp : ∀ (j : Nat) (u : Option Value), j + 1 = i → ls[j]? = some u → am_n2 u = true) : ∃ la' : Array Slot, storeLocals la i (am_c b v) = some la' ∧ am_L b nL (ls.set i (some v)) la' := by
  obtain ⟨la', e1, h1⟩ := lv_store1 (v := am_c b v) h.1 hi (by rw [am_cat]; exact hc)
  refine ⟨la', e1, ⟨h1.1, h1.2.1, fun q hq => by cases hq⟩, by rw [List.length_set]; exact h.2.1, fun j u hj => ?_⟩
  by_cases hji : j = i
  · subst hji
    rw [List.getElem?_set_self (by rw [h.2.1]; exact hi)] at hj
    cases hj
    exact h1.2.2 (j, am_c b v) List.mem_cons_self
  · rw [List.getElem?_set_ne (fun q => hji q.symm)] at hj
    obtain ⟨la2, e2, h2⟩ := lv_store1 (v := am_c b v) (l := [(j, am_c b u)]) ⟨h.1.1, h.1.2.1, fun q hq => by rw [List.mem_singleton.mp hq]; exact h.2.2 j u hj⟩ hi (by rw [am_cat]; exact hc)
    rw [e1] at e2
    cases e2
    refine h2.2.2 (j, am_c b u) (List.mem_cons_of_mem _ (List.mem_filter.mpr ⟨List.mem_cons_self, ?_⟩))
    by_cases hj1 : j + 1 = i
    · have h3 := hp j _ hj1 hj
      simp only [am_n2, bne_iff_ne, ne_eq] at h3
      simp [hji, am_cat, h3]
    · simp [hji, hj1]
theorem am_st2 {b nL i : Nat} {ls : List (Option Value)} {la : Array Slot} (v : Value) (h : am_L b nL ls la) (hi : i + 1 < nL) (hc : v.category = 2) (hp : ∀ (j : Nat) (u : Option Value), j + 1 = i → ls[j]? = some u → am_n2 u = true) : ∃ la' : Array Slot, storeLocals la i (am_c b v) = some la' ∧ am_L b nL ((ls.set i (some v)).set (i + 1) none) la' := by
  obtain ⟨la', e1, h1⟩ := lv_store2 (v := am_c b v) h.1 hi (by rw [am_cat]; exact hc)
  refine ⟨la', e1, ⟨h1.1, h1.2.1, fun q hq => by cases hq⟩, by rw [List.length_set, List.length_set]; exact h.2.1, fun j u hj => ?_⟩
  by_cases hj1 : j = i + 1
  · subst hj1
    rw [List.getElem?_set_self (by rw [List.length_set, h.2.1]; exact hi)] at hj
    cases hj
  rw [List.getElem?_set_ne (fun q => hj1 q.symm)] at hj
  by_cases hji : j = i
  · subst hji
    rw [List.getElem?_set_self (by rw [h.2.1]; omega)] at hj
    cases hj
    exact h1.2.2 (j, am_c b v) List.mem_cons_self
  · rw [List.getElem?_set_ne (fun q => hji q.symm)] at hj
    obtain ⟨la2, e2, h2⟩ := lv_store2 (v := am_c b v) (l := [(j, am_c b u)]) ⟨h.1.1, h.1.2.1, fun q hq => by rw [List.mem_singleton.mp hq]; exact h.2.2 j u hj⟩ hi (by rw [am_cat]; exact hc)
    rw [e1] at e2
    cases e2
    refine h2.2.2 (j, am_c b u) (List.mem_cons_of_mem _ (List.mem_filter.mpr ⟨List.mem_cons_self, ?_⟩))
    by_cases hj2 : j + 1 = i
    · have h3 := hp j _ hj2 hj
      simp only [am_n2, bne_iff_ne, ne_eq] at h3
      simp [hji, hj1, am_cat, h3]
    · simp [hji, hj1, hj2]

theorem am_istore0 {x : am_X} {cc : ByteArray} {own : String} {n mc ms : Nat} (hC : am_C x cc own n mc ms) {pc k z : Nat} {h : am_H} {ls : List (Option Value)} {st : List Value} {o0 : Option Value} {tl : List (Option Value)} {v : Int} (d : decode cc pc = .ok (.istore_n 0, 1)) (kk : am_W x (pc + 1) k z h (some (vI v) :: tl) (st)) : am_W x (pc) k z h (o0 :: tl) (vI v :: st) := by
  obtain ⟨p, l, e, R, s, m, args, below, meth, c, Q, g, nL⟩ := x
  obtain ⟨hx, hb, hml, hown, hts, hI, hlk, hR⟩ := hC
  intro H locs la hH hS hL
  have hlt : 0 < nL := by have := hL.2.1; simp at this; omega
  obtain ⟨la', e1, hL'⟩ := am_st1 (i := 0) (vI v) hL hlt rfl (fun j u hj hu => by omega)
  intro T hT X
  obtain ⟨t, a1, b1⟩ := kk H locs la' hH hS hL' T hT X
  refine ⟨t, ?_, b1⟩
  have e2 : storeLocals la 0 (.int (Int32.ofInt v)) = some la' := e1
  have e3 : (vI v :: st).map (am_c g.1) = .int (Int32.ofInt v) :: st.map (am_c g.1) := rfl
  rw [e3]
  jvm_step X.here [X.here.top, ↓top_set X.here.top, hx, hb, d, e2, Value.isRef]
  exact a1

theorem am_istore1 {x : am_X} {cc : ByteArray} {own : String} {n mc ms : Nat} (hC : am_C x cc own n mc ms) {pc k z : Nat} {h : am_H} {ls : List (Option Value)} {st : List Value} {y0 o0 : Option Value} {tl : List (Option Value)} {v : Int} (d : decode cc pc = .ok (.istore_n 1, 1)) (hp : am_n2 y0 = true) (kk : am_W x (pc + 1) k z h (y0 :: some (vI v) :: tl) (st)) : am_W x (pc) k z h (y0 :: o0 :: tl) (vI v :: st) := by
  obtain ⟨p, l, e, R, s, m, args, below, meth, c, Q, g, nL⟩ := x
  obtain ⟨hx, hb, hml, hown, hts, hI, hlk, hR⟩ := hC
  intro H locs la hH hS hL
  have hlt : 1 < nL := by have := hL.2.1; simp at this; omega
  obtain ⟨la', e1, hL'⟩ := am_st1 (i := 1) (vI v) hL hlt rfl (am_hp (i := 0) rfl hp)
  intro T hT X
  obtain ⟨t, a1, b1⟩ := kk H locs la' hH hS hL' T hT X
  refine ⟨t, ?_, b1⟩
  have e2 : storeLocals la 1 (.int (Int32.ofInt v)) = some la' := e1
  have e3 : (vI v :: st).map (am_c g.1) = .int (Int32.ofInt v) :: st.map (am_c g.1) := rfl
  rw [e3]
  jvm_step X.here [X.here.top, ↓top_set X.here.top, hx, hb, d, e2, Value.isRef]
  exact a1

theorem am_istore2 {x : am_X} {cc : ByteArray} {own : String} {n mc ms : Nat} (hC : am_C x cc own n mc ms) {pc k z : Nat} {h : am_H} {ls : List (Option Value)} {st : List Value} {y0 y1 o0 : Option Value} {tl : List (Option Value)} {v : Int} (d : decode cc pc = .ok (.istore_n 2, 1)) (hp : am_n2 y1 = true) (kk : am_W x (pc + 1) k z h (y0 :: y1 :: some (vI v) :: tl) (st)) : am_W x (pc) k z h (y0 :: y1 :: o0 :: tl) (vI v :: st) := by
  obtain ⟨p, l, e, R, s, m, args, below, meth, c, Q, g, nL⟩ := x
  obtain ⟨hx, hb, hml, hown, hts, hI, hlk, hR⟩ := hC
  intro H locs la hH hS hL
  have hlt : 2 < nL := by have := hL.2.1; simp at this; omega
  obtain ⟨la', e1, hL'⟩ := am_st1 (i := 2) (vI v) hL hlt rfl (am_hp (i := 1) rfl hp)
  intro T hT X
  obtain ⟨t, a1, b1⟩ := kk H locs la' hH hS hL' T hT X
  refine ⟨t, ?_, b1⟩
  have e2 : storeLocals la 2 (.int (Int32.ofInt v)) = some la' := e1
  have e3 : (vI v :: st).map (am_c g.1) = .int (Int32.ofInt v) :: st.map (am_c g.1) := rfl
  rw [e3]
  jvm_step X.here [X.here.top, ↓top_set X.here.top, hx, hb, d, e2, Value.isRef]
  exact a1

theorem am_istore3 {x : am_X} {cc : ByteArray} {own : String} {n mc ms : Nat} (hC : am_C x cc own n mc ms) {pc k z : Nat} {h : am_H} {ls : List (Option Value)} {st : List Value} {y0 y1 y2 o0 : Option Value} {tl : List (Option Value)} {v : Int} (d : decode cc pc = .ok (.istore_n 3, 1)) (hp : am_n2 y2 = true) (kk : am_W x (pc + 1) k z h (y0 :: y1 :: y2 :: some (vI v) :: tl) (st)) : am_W x (pc) k z h (y0 :: y1 :: y2 :: o0 :: tl) (vI v :: st) := by
  obtain ⟨p, l, e, R, s, m, args, below, meth, c, Q, g, nL⟩ := x
  obtain ⟨hx, hb, hml, hown, hts, hI, hlk, hR⟩ := hC
  intro H locs la hH hS hL
  have hlt : 3 < nL := by have := hL.2.1; simp at this; omega
  obtain ⟨la', e1, hL'⟩ := am_st1 (i := 3) (vI v) hL hlt rfl (am_hp (i := 2) rfl hp)
  intro T hT X
  obtain ⟨t, a1, b1⟩ := kk H locs la' hH hS hL' T hT X
  refine ⟨t, ?_, b1⟩
  have e2 : storeLocals la 3 (.int (Int32.ofInt v)) = some la' := e1
  have e3 : (vI v :: st).map (am_c g.1) = .int (Int32.ofInt v) :: st.map (am_c g.1) := rfl
  rw [e3]
  jvm_step X.here [X.here.top, ↓top_set X.here.top, hx, hb, d, e2, Value.isRef]
  exact a1

theorem am_istore4 {x : am_X} {cc : ByteArray} {own : String} {n mc ms : Nat} (hC : am_C x cc own n mc ms) {pc k z : Nat} {h : am_H} {ls : List (Option Value)} {st : List Value} {y0 y1 y2 y3 o0 : Option Value} {tl : List (Option Value)} {v : Int} (d : decode cc pc = .ok (.istore 4, 2)) (hp : am_n2 y3 = true) (kk : am_W x (pc + 2) k z h (y0 :: y1 :: y2 :: y3 :: some (vI v) :: tl) (st)) : am_W x (pc) k z h (y0 :: y1 :: y2 :: y3 :: o0 :: tl) (vI v :: st) := by
  obtain ⟨p, l, e, R, s, m, args, below, meth, c, Q, g, nL⟩ := x
  obtain ⟨hx, hb, hml, hown, hts, hI, hlk, hR⟩ := hC
  intro H locs la hH hS hL
  have hlt : 4 < nL := by have := hL.2.1; simp at this; omega
  obtain ⟨la', e1, hL'⟩ := am_st1 (i := 4) (vI v) hL hlt rfl (am_hp (i := 3) rfl hp)
  intro T hT X
  obtain ⟨t, a1, b1⟩ := kk H locs la' hH hS hL' T hT X
  refine ⟨t, ?_, b1⟩
  have e2 : storeLocals la 4 (.int (Int32.ofInt v)) = some la' := e1
  have e3 : (vI v :: st).map (am_c g.1) = .int (Int32.ofInt v) :: st.map (am_c g.1) := rfl
  rw [e3]
  jvm_step X.here [X.here.top, ↓top_set X.here.top, hx, hb, d, e2, Value.isRef]
  exact a1

theorem am_istore5 {x : am_X} {cc : ByteArray} {own : String} {n mc ms : Nat} (hC : am_C x cc own n mc ms) {pc k z : Nat} {h : am_H} {ls : List (Option Value)} {st : List Value} {y0 y1 y2 y3 y4 o0 : Option Value} {tl : List (Option Value)} {v : Int} (d : decode cc pc = .ok (.istore 5, 2)) (hp : am_n2 y4 = true) (kk : am_W x (pc + 2) k z h (y0 :: y1 :: y2 :: y3 :: y4 :: some (vI v) :: tl) (st)) : am_W x (pc) k z h (y0 :: y1 :: y2 :: y3 :: y4 :: o0 :: tl) (vI v :: st) := by
  obtain ⟨p, l, e, R, s, m, args, below, meth, c, Q, g, nL⟩ := x
  obtain ⟨hx, hb, hml, hown, hts, hI, hlk, hR⟩ := hC
  intro H locs la hH hS hL
  have hlt : 5 < nL := by have := hL.2.1; simp at this; omega
  obtain ⟨la', e1, hL'⟩ := am_st1 (i := 5) (vI v) hL hlt rfl (am_hp (i := 4) rfl hp)
  intro T hT X
  obtain ⟨t, a1, b1⟩ := kk H locs la' hH hS hL' T hT X
  refine ⟨t, ?_, b1⟩
  have e2 : storeLocals la 5 (.int (Int32.ofInt v)) = some la' := e1
  have e3 : (vI v :: st).map (am_c g.1) = .int (Int32.ofInt v) :: st.map (am_c g.1) := rfl
  rw [e3]
  jvm_step X.here [X.here.top, ↓top_set X.here.top, hx, hb, d, e2, Value.isRef]
  exact a1

theorem am_istore6 {x : am_X} {cc : ByteArray} {own : String} {n mc ms : Nat} (hC : am_C x cc own n mc ms) {pc k z : Nat} {h : am_H} {ls : List (Option Value)} {st : List Value} {y0 y1 y2 y3 y4 y5 o0 : Option Value} {tl : List (Option Value)} {v : Int} (d : decode cc pc = .ok (.istore 6, 2)) (hp : am_n2 y5 = true) (kk : am_W x (pc + 2) k z h (y0 :: y1 :: y2 :: y3 :: y4 :: y5 :: some (vI v) :: tl) (st)) : am_W x (pc) k z h (y0 :: y1 :: y2 :: y3 :: y4 :: y5 :: o0 :: tl) (vI v :: st) := by
  obtain ⟨p, l, e, R, s, m, args, below, meth, c, Q, g, nL⟩ := x
  obtain ⟨hx, hb, hml, hown, hts, hI, hlk, hR⟩ := hC
  intro H locs la hH hS hL
  have hlt : 6 < nL := by have := hL.2.1; simp at this; omega
  obtain ⟨la', e1, hL'⟩ := am_st1 (i := 6) (vI v) hL hlt rfl (am_hp (i := 5) rfl hp)
  intro T hT X
  obtain ⟨t, a1, b1⟩ := kk H locs la' hH hS hL' T hT X
  refine ⟨t, ?_, b1⟩
  have e2 : storeLocals la 6 (.int (Int32.ofInt v)) = some la' := e1
  have e3 : (vI v :: st).map (am_c g.1) = .int (Int32.ofInt v) :: st.map (am_c g.1) := rfl
  rw [e3]
  jvm_step X.here [X.here.top, ↓top_set X.here.top, hx, hb, d, e2, Value.isRef]
  exact a1

theorem am_istore7 {x : am_X} {cc : ByteArray} {own : String} {n mc ms : Nat} (hC : am_C x cc own n mc ms) {pc k z : Nat} {h : am_H} {ls : List (Option Value)} {st : List Value} {y0 y1 y2 y3 y4 y5 y6 o0 : Option Value} {tl : List (Option Value)} {v : Int} (d : decode cc pc = .ok (.istore 7, 2)) (hp : am_n2 y6 = true) (kk : am_W x (pc + 2) k z h (y0 :: y1 :: y2 :: y3 :: y4 :: y5 :: y6 :: some (vI v) :: tl) (st)) : am_W x (pc) k z h (y0 :: y1 :: y2 :: y3 :: y4 :: y5 :: y6 :: o0 :: tl) (vI v :: st) := by
  obtain ⟨p, l, e, R, s, m, args, below, meth, c, Q, g, nL⟩ := x
  obtain ⟨hx, hb, hml, hown, hts, hI, hlk, hR⟩ := hC
  intro H locs la hH hS hL
  have hlt : 7 < nL := by have := hL.2.1; simp at this; omega
  obtain ⟨la', e1, hL'⟩ := am_st1 (i := 7) (vI v) hL hlt rfl (am_hp (i := 6) rfl hp)
  intro T hT X
  obtain ⟨t, a1, b1⟩ := kk H locs la' hH hS hL' T hT X
  refine ⟨t, ?_, b1⟩
  have e2 : storeLocals la 7 (.int (Int32.ofInt v)) = some la' := e1
  have e3 : (vI v :: st).map (am_c g.1) = .int (Int32.ofInt v) :: st.map (am_c g.1) := rfl
  rw [e3]
  jvm_step X.here [X.here.top, ↓top_set X.here.top, hx, hb, d, e2, Value.isRef]
  exact a1

theorem am_istore8 {x : am_X} {cc : ByteArray} {own : String} {n mc ms : Nat} (hC : am_C x cc own n mc ms) {pc k z : Nat} {h : am_H} {ls : List (Option Value)} {st : List Value} {y0 y1 y2 y3 y4 y5 y6 y7 o0 : Option Value} {tl : List (Option Value)} {v : Int} (d : decode cc pc = .ok (.istore 8, 2)) (hp : am_n2 y7 = true) (kk : am_W x (pc + 2) k z h (y0 :: y1 :: y2 :: y3 :: y4 :: y5 :: y6 :: y7 :: some (vI v) :: tl) (st)) : am_W x (pc) k z h (y0 :: y1 :: y2 :: y3 :: y4 :: y5 :: y6 :: y7 :: o0 :: tl) (vI v :: st) := by
  obtain ⟨p, l, e, R, s, m, args, below, meth, c, Q, g, nL⟩ := x
  obtain ⟨hx, hb, hml, hown, hts, hI, hlk, hR⟩ := hC
  intro H locs la hH hS hL
  have hlt : 8 < nL := by have := hL.2.1; simp at this; omega
  obtain ⟨la', e1, hL'⟩ := am_st1 (i := 8) (vI v) hL hlt rfl (am_hp (i := 7) rfl hp)
  intro T hT X
  obtain ⟨t, a1, b1⟩ := kk H locs la' hH hS hL' T hT X
  refine ⟨t, ?_, b1⟩
  have e2 : storeLocals la 8 (.int (Int32.ofInt v)) = some la' := e1
  have e3 : (vI v :: st).map (am_c g.1) = .int (Int32.ofInt v) :: st.map (am_c g.1) := rfl
  rw [e3]
  jvm_step X.here [X.here.top, ↓top_set X.here.top, hx, hb, d, e2, Value.isRef]
  exact a1

theorem am_istore9 {x : am_X} {cc : ByteArray} {own : String} {n mc ms : Nat} (hC : am_C x cc own n mc ms) {pc k z : Nat} {h : am_H} {ls : List (Option Value)} {st : List Value} {y0 y1 y2 y3 y4 y5 y6 y7 y8 o0 : Option Value} {tl : List (Option Value)} {v : Int} (d : decode cc pc = .ok (.istore 9, 2)) (hp : am_n2 y8 = true) (kk : am_W x (pc + 2) k z h (y0 :: y1 :: y2 :: y3 :: y4 :: y5 :: y6 :: y7 :: y8 :: some (vI v) :: tl) (st)) : am_W x (pc) k z h (y0 :: y1 :: y2 :: y3 :: y4 :: y5 :: y6 :: y7 :: y8 :: o0 :: tl) (vI v :: st) := by
  obtain ⟨p, l, e, R, s, m, args, below, meth, c, Q, g, nL⟩ := x
  obtain ⟨hx, hb, hml, hown, hts, hI, hlk, hR⟩ := hC
  intro H locs la hH hS hL
  have hlt : 9 < nL := by have := hL.2.1; simp at this; omega
  obtain ⟨la', e1, hL'⟩ := am_st1 (i := 9) (vI v) hL hlt rfl (am_hp (i := 8) rfl hp)
  intro T hT X
  obtain ⟨t, a1, b1⟩ := kk H locs la' hH hS hL' T hT X
  refine ⟨t, ?_, b1⟩
  have e2 : storeLocals la 9 (.int (Int32.ofInt v)) = some la' := e1
  have e3 : (vI v :: st).map (am_c g.1) = .int (Int32.ofInt v) :: st.map (am_c g.1) := rfl
  rw [e3]
  jvm_step X.here [X.here.top, ↓top_set X.here.top, hx, hb, d, e2, Value.isRef]
  exact a1

theorem am_istore10 {x : am_X} {cc : ByteArray} {own : String} {n mc ms : Nat} (hC : am_C x cc own n mc ms) {pc k z : Nat} {h : am_H} {ls : List (Option Value)} {st : List Value} {y0 y1 y2 y3 y4 y5 y6 y7 y8 y9 o0 : Option Value} {tl : List (Option Value)} {v : Int} (d : decode cc pc = .ok (.istore 10, 2)) (hp : am_n2 y9 = true) (kk : am_W x (pc + 2) k z h (y0 :: y1 :: y2 :: y3 :: y4 :: y5 :: y6 :: y7 :: y8 :: y9 :: some (vI v) :: tl) (st)) : am_W x (pc) k z h (y0 :: y1 :: y2 :: y3 :: y4 :: y5 :: y6 :: y7 :: y8 :: y9 :: o0 :: tl) (vI v :: st) := by
  obtain ⟨p, l, e, R, s, m, args, below, meth, c, Q, g, nL⟩ := x
  obtain ⟨hx, hb, hml, hown, hts, hI, hlk, hR⟩ := hC
  intro H locs la hH hS hL
  have hlt : 10 < nL := by have := hL.2.1; simp at this; omega
  obtain ⟨la', e1, hL'⟩ := am_st1 (i := 10) (vI v) hL hlt rfl (am_hp (i := 9) rfl hp)
  intro T hT X
  obtain ⟨t, a1, b1⟩ := kk H locs la' hH hS hL' T hT X
  refine ⟨t, ?_, b1⟩
  have e2 : storeLocals la 10 (.int (Int32.ofInt v)) = some la' := e1
  have e3 : (vI v :: st).map (am_c g.1) = .int (Int32.ofInt v) :: st.map (am_c g.1) := rfl
  rw [e3]
  jvm_step X.here [X.here.top, ↓top_set X.here.top, hx, hb, d, e2, Value.isRef]
  exact a1

theorem am_istore11 {x : am_X} {cc : ByteArray} {own : String} {n mc ms : Nat} (hC : am_C x cc own n mc ms) {pc k z : Nat} {h : am_H} {ls : List (Option Value)} {st : List Value} {y0 y1 y2 y3 y4 y5 y6 y7 y8 y9 y10 o0 : Option Value} {tl : List (Option Value)} {v : Int} (d : decode cc pc = .ok (.istore 11, 2)) (hp : am_n2 y10 = true) (kk : am_W x (pc + 2) k z h (y0 :: y1 :: y2 :: y3 :: y4 :: y5 :: y6 :: y7 :: y8 :: y9 :: y10 :: some (vI v) :: tl) (st)) : am_W x (pc) k z h (y0 :: y1 :: y2 :: y3 :: y4 :: y5 :: y6 :: y7 :: y8 :: y9 :: y10 :: o0 :: tl) (vI v :: st) := by
  obtain ⟨p, l, e, R, s, m, args, below, meth, c, Q, g, nL⟩ := x
  obtain ⟨hx, hb, hml, hown, hts, hI, hlk, hR⟩ := hC
  intro H locs la hH hS hL
  have hlt : 11 < nL := by have := hL.2.1; simp at this; omega
  obtain ⟨la', e1, hL'⟩ := am_st1 (i := 11) (vI v) hL hlt rfl (am_hp (i := 10) rfl hp)
  intro T hT X
  obtain ⟨t, a1, b1⟩ := kk H locs la' hH hS hL' T hT X
  refine ⟨t, ?_, b1⟩
  have e2 : storeLocals la 11 (.int (Int32.ofInt v)) = some la' := e1
  have e3 : (vI v :: st).map (am_c g.1) = .int (Int32.ofInt v) :: st.map (am_c g.1) := rfl
  rw [e3]
  jvm_step X.here [X.here.top, ↓top_set X.here.top, hx, hb, d, e2, Value.isRef]
  exact a1

theorem am_istore12 {x : am_X} {cc : ByteArray} {own : String} {n mc ms : Nat} (hC : am_C x cc own n mc ms) {pc k z : Nat} {h : am_H} {ls : List (Option Value)} {st : List Value} {y0 y1 y2 y3 y4 y5 y6 y7 y8 y9 y10 y11 o0 : Option Value} {tl : List (Option Value)} {v : Int} (d : decode cc pc = .ok (.istore 12, 2)) (hp : am_n2 y11 = true) (kk : am_W x (pc + 2) k z h (y0 :: y1 :: y2 :: y3 :: y4 :: y5 :: y6 :: y7 :: y8 :: y9 :: y10 :: y11 :: some (vI v) :: tl) (st)) : am_W x (pc) k z h (y0 :: y1 :: y2 :: y3 :: y4 :: y5 :: y6 :: y7 :: y8 :: y9 :: y10 :: y11 :: o0 :: tl) (vI v :: st) := by
  obtain ⟨p, l, e, R, s, m, args, below, meth, c, Q, g, nL⟩ := x
  obtain ⟨hx, hb, hml, hown, hts, hI, hlk, hR⟩ := hC
  intro H locs la hH hS hL
  have hlt : 12 < nL := by have := hL.2.1; simp at this; omega
  obtain ⟨la', e1, hL'⟩ := am_st1 (i := 12) (vI v) hL hlt rfl (am_hp (i := 11) rfl hp)
  intro T hT X
  obtain ⟨t, a1, b1⟩ := kk H locs la' hH hS hL' T hT X
  refine ⟨t, ?_, b1⟩
  have e2 : storeLocals la 12 (.int (Int32.ofInt v)) = some la' := e1
  have e3 : (vI v :: st).map (am_c g.1) = .int (Int32.ofInt v) :: st.map (am_c g.1) := rfl
  rw [e3]
  jvm_step X.here [X.here.top, ↓top_set X.here.top, hx, hb, d, e2, Value.isRef]
  exact a1

theorem am_istore13 {x : am_X} {cc : ByteArray} {own : String} {n mc ms : Nat} (hC : am_C x cc own n mc ms) {pc k z : Nat} {h : am_H} {ls : List (Option Value)} {st : List Value} {y0 y1 y2 y3 y4 y5 y6 y7 y8 y9 y10 y11 y12 o0 : Option Value} {tl : List (Option Value)} {v : Int} (d : decode cc pc = .ok (.istore 13, 2)) (hp : am_n2 y12 = true) (kk : am_W x (pc + 2) k z h (y0 :: y1 :: y2 :: y3 :: y4 :: y5 :: y6 :: y7 :: y8 :: y9 :: y10 :: y11 :: y12 :: some (vI v) :: tl) (st)) : am_W x (pc) k z h (y0 :: y1 :: y2 :: y3 :: y4 :: y5 :: y6 :: y7 :: y8 :: y9 :: y10 :: y11 :: y12 :: o0 :: tl) (vI v :: st) := by
  obtain ⟨p, l, e, R, s, m, args, below, meth, c, Q, g, nL⟩ := x
  obtain ⟨hx, hb, hml, hown, hts, hI, hlk, hR⟩ := hC
  intro H locs la hH hS hL
  have hlt : 13 < nL := by have := hL.2.1; simp at this; omega
  obtain ⟨la', e1, hL'⟩ := am_st1 (i := 13) (vI v) hL hlt rfl (am_hp (i := 12) rfl hp)
  intro T hT X
  obtain ⟨t, a1, b1⟩ := kk H locs la' hH hS hL' T hT X
  refine ⟨t, ?_, b1⟩
  have e2 : storeLocals la 13 (.int (Int32.ofInt v)) = some la' := e1
  have e3 : (vI v :: st).map (am_c g.1) = .int (Int32.ofInt v) :: st.map (am_c g.1) := rfl
  rw [e3]
  jvm_step X.here [X.here.top, ↓top_set X.here.top, hx, hb, d, e2, Value.isRef]
  exact a1

theorem am_istore14 {x : am_X} {cc : ByteArray} {own : String} {n mc ms : Nat} (hC : am_C x cc own n mc ms) {pc k z : Nat} {h : am_H} {ls : List (Option Value)} {st : List Value} {y0 y1 y2 y3 y4 y5 y6 y7 y8 y9 y10 y11 y12 y13 o0 : Option Value} {tl : List (Option Value)} {v : Int} (d : decode cc pc = .ok (.istore 14, 2)) (hp : am_n2 y13 = true) (kk : am_W x (pc + 2) k z h (y0 :: y1 :: y2 :: y3 :: y4 :: y5 :: y6 :: y7 :: y8 :: y9 :: y10 :: y11 :: y12 :: y13 :: some (vI v) :: tl) (st)) : am_W x (pc) k z h (y0 :: y1 :: y2 :: y3 :: y4 :: y5 :: y6 :: y7 :: y8 :: y9 :: y10 :: y11 :: y12 :: y13 :: o0 :: tl) (vI v :: st) := by
  obtain ⟨p, l, e, R, s, m, args, below, meth, c, Q, g, nL⟩ := x
  obtain ⟨hx, hb, hml, hown, hts, hI, hlk, hR⟩ := hC
  intro H locs la hH hS hL
  have hlt : 14 < nL := by have := hL.2.1; simp at this; omega
  obtain ⟨la', e1, hL'⟩ := am_st1 (i := 14) (vI v) hL hlt rfl (am_hp (i := 13) rfl hp)
  intro T hT X
  obtain ⟨t, a1, b1⟩ := kk H locs la' hH hS hL' T hT X
  refine ⟨t, ?_, b1⟩
  have e2 : storeLocals la 14 (.int (Int32.ofInt v)) = some la' := e1
  have e3 : (vI v :: st).map (am_c g.1) = .int (Int32.ofInt v) :: st.map (am_c g.1) := rfl
  rw [e3]
  jvm_step X.here [X.here.top, ↓top_set X.here.top, hx, hb, d, e2, Value.isRef]
  exact a1

theorem am_istore15 {x : am_X} {cc : ByteArray} {own : String} {n mc ms : Nat} (hC : am_C x cc own n mc ms) {pc k z : Nat} {h : am_H} {ls : List (Option Value)} {st : List Value} {y0 y1 y2 y3 y4 y5 y6 y7 y8 y9 y10 y11 y12 y13 y14 o0 : Option Value} {tl : List (Option Value)} {v : Int} (d : decode cc pc = .ok (.istore 15, 2)) (hp : am_n2 y14 = true) (kk : am_W x (pc + 2) k z h (y0 :: y1 :: y2 :: y3 :: y4 :: y5 :: y6 :: y7 :: y8 :: y9 :: y10 :: y11 :: y12 :: y13 :: y14 :: some (vI v) :: tl) (st)) : am_W x (pc) k z h (y0 :: y1 :: y2 :: y3 :: y4 :: y5 :: y6 :: y7 :: y8 :: y9 :: y10 :: y11 :: y12 :: y13 :: y14 :: o0 :: tl) (vI v :: st) := by
  obtain ⟨p, l, e, R, s, m, args, below, meth, c, Q, g, nL⟩ := x
  obtain ⟨hx, hb, hml, hown, hts, hI, hlk, hR⟩ := hC
  intro H locs la hH hS hL
  have hlt : 15 < nL := by have := hL.2.1; simp at this; omega
  obtain ⟨la', e1, hL'⟩ := am_st1 (i := 15) (vI v) hL hlt rfl (am_hp (i := 14) rfl hp)
  intro T hT X
  obtain ⟨t, a1, b1⟩ := kk H locs la' hH hS hL' T hT X
  refine ⟨t, ?_, b1⟩
  have e2 : storeLocals la 15 (.int (Int32.ofInt v)) = some la' := e1
  have e3 : (vI v :: st).map (am_c g.1) = .int (Int32.ofInt v) :: st.map (am_c g.1) := rfl
  rw [e3]
  jvm_step X.here [X.here.top, ↓top_set X.here.top, hx, hb, d, e2, Value.isRef]
  exact a1

theorem am_lstore0 {x : am_X} {cc : ByteArray} {own : String} {n mc ms : Nat} (hC : am_C x cc own n mc ms) {pc k z : Nat} {h : am_H} {ls : List (Option Value)} {st : List Value} {o0 o1 : Option Value} {tl : List (Option Value)} {v : Int} (d : decode cc pc = .ok (.lstore_n 0, 1)) (kk : am_W x (pc + 1) k z h (some (vL v) :: none :: tl) (st)) : am_W x (pc) k z h (o0 :: o1 :: tl) (vL v :: st) := by
  obtain ⟨p, l, e, R, s, m, args, below, meth, c, Q, g, nL⟩ := x
  obtain ⟨hx, hb, hml, hown, hts, hI, hlk, hR⟩ := hC
  intro H locs la hH hS hL
  have hlt : 1 < nL := by have := hL.2.1; simp at this; omega
  obtain ⟨la', e1, hL'⟩ := am_st2 (i := 0) (vL v) hL hlt rfl (fun j u hj hu => by omega)
  intro T hT X
  obtain ⟨t, a1, b1⟩ := kk H locs la' hH hS hL' T hT X
  refine ⟨t, ?_, b1⟩
  have e2 : storeLocals la 0 (.long (Int64.ofInt v)) = some la' := e1
  have e3 : (vL v :: st).map (am_c g.1) = .long (Int64.ofInt v) :: st.map (am_c g.1) := rfl
  rw [e3]
  jvm_step X.here [X.here.top, ↓top_set X.here.top, hx, hb, d, e2, Value.isRef]
  exact a1

theorem am_lstore1 {x : am_X} {cc : ByteArray} {own : String} {n mc ms : Nat} (hC : am_C x cc own n mc ms) {pc k z : Nat} {h : am_H} {ls : List (Option Value)} {st : List Value} {y0 o0 o1 : Option Value} {tl : List (Option Value)} {v : Int} (d : decode cc pc = .ok (.lstore_n 1, 1)) (hp : am_n2 y0 = true) (kk : am_W x (pc + 1) k z h (y0 :: some (vL v) :: none :: tl) (st)) : am_W x (pc) k z h (y0 :: o0 :: o1 :: tl) (vL v :: st) := by
  obtain ⟨p, l, e, R, s, m, args, below, meth, c, Q, g, nL⟩ := x
  obtain ⟨hx, hb, hml, hown, hts, hI, hlk, hR⟩ := hC
  intro H locs la hH hS hL
  have hlt : 2 < nL := by have := hL.2.1; simp at this; omega
  obtain ⟨la', e1, hL'⟩ := am_st2 (i := 1) (vL v) hL hlt rfl (am_hp (i := 0) rfl hp)
  intro T hT X
  obtain ⟨t, a1, b1⟩ := kk H locs la' hH hS hL' T hT X
  refine ⟨t, ?_, b1⟩
  have e2 : storeLocals la 1 (.long (Int64.ofInt v)) = some la' := e1
  have e3 : (vL v :: st).map (am_c g.1) = .long (Int64.ofInt v) :: st.map (am_c g.1) := rfl
  rw [e3]
  jvm_step X.here [X.here.top, ↓top_set X.here.top, hx, hb, d, e2, Value.isRef]
  exact a1

theorem am_lstore2 {x : am_X} {cc : ByteArray} {own : String} {n mc ms : Nat} (hC : am_C x cc own n mc ms) {pc k z : Nat} {h : am_H} {ls : List (Option Value)} {st : List Value} {y0 y1 o0 o1 : Option Value} {tl : List (Option Value)} {v : Int} (d : decode cc pc = .ok (.lstore_n 2, 1)) (hp : am_n2 y1 = true) (kk : am_W x (pc + 1) k z h (y0 :: y1 :: some (vL v) :: none :: tl) (st)) : am_W x (pc) k z h (y0 :: y1 :: o0 :: o1 :: tl) (vL v :: st) := by
  obtain ⟨p, l, e, R, s, m, args, below, meth, c, Q, g, nL⟩ := x
  obtain ⟨hx, hb, hml, hown, hts, hI, hlk, hR⟩ := hC
  intro H locs la hH hS hL
  have hlt : 3 < nL := by have := hL.2.1; simp at this; omega
  obtain ⟨la', e1, hL'⟩ := am_st2 (i := 2) (vL v) hL hlt rfl (am_hp (i := 1) rfl hp)
  intro T hT X
  obtain ⟨t, a1, b1⟩ := kk H locs la' hH hS hL' T hT X
  refine ⟨t, ?_, b1⟩
  have e2 : storeLocals la 2 (.long (Int64.ofInt v)) = some la' := e1
  have e3 : (vL v :: st).map (am_c g.1) = .long (Int64.ofInt v) :: st.map (am_c g.1) := rfl
  rw [e3]
  jvm_step X.here [X.here.top, ↓top_set X.here.top, hx, hb, d, e2, Value.isRef]
  exact a1

theorem am_lstore3 {x : am_X} {cc : ByteArray} {own : String} {n mc ms : Nat} (hC : am_C x cc own n mc ms) {pc k z : Nat} {h : am_H} {ls : List (Option Value)} {st : List Value} {y0 y1 y2 o0 o1 : Option Value} {tl : List (Option Value)} {v : Int} (d : decode cc pc = .ok (.lstore_n 3, 1)) (hp : am_n2 y2 = true) (kk : am_W x (pc + 1) k z h (y0 :: y1 :: y2 :: some (vL v) :: none :: tl) (st)) : am_W x (pc) k z h (y0 :: y1 :: y2 :: o0 :: o1 :: tl) (vL v :: st) := by
  obtain ⟨p, l, e, R, s, m, args, below, meth, c, Q, g, nL⟩ := x
  obtain ⟨hx, hb, hml, hown, hts, hI, hlk, hR⟩ := hC
  intro H locs la hH hS hL
  have hlt : 4 < nL := by have := hL.2.1; simp at this; omega
  obtain ⟨la', e1, hL'⟩ := am_st2 (i := 3) (vL v) hL hlt rfl (am_hp (i := 2) rfl hp)
  intro T hT X
  obtain ⟨t, a1, b1⟩ := kk H locs la' hH hS hL' T hT X
  refine ⟨t, ?_, b1⟩
  have e2 : storeLocals la 3 (.long (Int64.ofInt v)) = some la' := e1
  have e3 : (vL v :: st).map (am_c g.1) = .long (Int64.ofInt v) :: st.map (am_c g.1) := rfl
  rw [e3]
  jvm_step X.here [X.here.top, ↓top_set X.here.top, hx, hb, d, e2, Value.isRef]
  exact a1

theorem am_lstore4 {x : am_X} {cc : ByteArray} {own : String} {n mc ms : Nat} (hC : am_C x cc own n mc ms) {pc k z : Nat} {h : am_H} {ls : List (Option Value)} {st : List Value} {y0 y1 y2 y3 o0 o1 : Option Value} {tl : List (Option Value)} {v : Int} (d : decode cc pc = .ok (.lstore 4, 2)) (hp : am_n2 y3 = true) (kk : am_W x (pc + 2) k z h (y0 :: y1 :: y2 :: y3 :: some (vL v) :: none :: tl) (st)) : am_W x (pc) k z h (y0 :: y1 :: y2 :: y3 :: o0 :: o1 :: tl) (vL v :: st) := by
  obtain ⟨p, l, e, R, s, m, args, below, meth, c, Q, g, nL⟩ := x
  obtain ⟨hx, hb, hml, hown, hts, hI, hlk, hR⟩ := hC
  intro H locs la hH hS hL
  have hlt : 5 < nL := by have := hL.2.1; simp at this; omega
  obtain ⟨la', e1, hL'⟩ := am_st2 (i := 4) (vL v) hL hlt rfl (am_hp (i := 3) rfl hp)
  intro T hT X
  obtain ⟨t, a1, b1⟩ := kk H locs la' hH hS hL' T hT X
  refine ⟨t, ?_, b1⟩
  have e2 : storeLocals la 4 (.long (Int64.ofInt v)) = some la' := e1
  have e3 : (vL v :: st).map (am_c g.1) = .long (Int64.ofInt v) :: st.map (am_c g.1) := rfl
  rw [e3]
  jvm_step X.here [X.here.top, ↓top_set X.here.top, hx, hb, d, e2, Value.isRef]
  exact a1

theorem am_lstore5 {x : am_X} {cc : ByteArray} {own : String} {n mc ms : Nat} (hC : am_C x cc own n mc ms) {pc k z : Nat} {h : am_H} {ls : List (Option Value)} {st : List Value} {y0 y1 y2 y3 y4 o0 o1 : Option Value} {tl : List (Option Value)} {v : Int} (d : decode cc pc = .ok (.lstore 5, 2)) (hp : am_n2 y4 = true) (kk : am_W x (pc + 2) k z h (y0 :: y1 :: y2 :: y3 :: y4 :: some (vL v) :: none :: tl) (st)) : am_W x (pc) k z h (y0 :: y1 :: y2 :: y3 :: y4 :: o0 :: o1 :: tl) (vL v :: st) := by
  obtain ⟨p, l, e, R, s, m, args, below, meth, c, Q, g, nL⟩ := x
  obtain ⟨hx, hb, hml, hown, hts, hI, hlk, hR⟩ := hC
  intro H locs la hH hS hL
  have hlt : 6 < nL := by have := hL.2.1; simp at this; omega
  obtain ⟨la', e1, hL'⟩ := am_st2 (i := 5) (vL v) hL hlt rfl (am_hp (i := 4) rfl hp)
  intro T hT X
  obtain ⟨t, a1, b1⟩ := kk H locs la' hH hS hL' T hT X
  refine ⟨t, ?_, b1⟩
  have e2 : storeLocals la 5 (.long (Int64.ofInt v)) = some la' := e1
  have e3 : (vL v :: st).map (am_c g.1) = .long (Int64.ofInt v) :: st.map (am_c g.1) := rfl
  rw [e3]
  jvm_step X.here [X.here.top, ↓top_set X.here.top, hx, hb, d, e2, Value.isRef]
  exact a1

theorem am_lstore6 {x : am_X} {cc : ByteArray} {own : String} {n mc ms : Nat} (hC : am_C x cc own n mc ms) {pc k z : Nat} {h : am_H} {ls : List (Option Value)} {st : List Value} {y0 y1 y2 y3 y4 y5 o0 o1 : Option Value} {tl : List (Option Value)} {v : Int} (d : decode cc pc = .ok (.lstore 6, 2)) (hp : am_n2 y5 = true) (kk : am_W x (pc + 2) k z h (y0 :: y1 :: y2 :: y3 :: y4 :: y5 :: some (vL v) :: none :: tl) (st)) : am_W x (pc) k z h (y0 :: y1 :: y2 :: y3 :: y4 :: y5 :: o0 :: o1 :: tl) (vL v :: st) := by
  obtain ⟨p, l, e, R, s, m, args, below, meth, c, Q, g, nL⟩ := x
  obtain ⟨hx, hb, hml, hown, hts, hI, hlk, hR⟩ := hC
  intro H locs la hH hS hL
  have hlt : 7 < nL := by have := hL.2.1; simp at this; omega
  obtain ⟨la', e1, hL'⟩ := am_st2 (i := 6) (vL v) hL hlt rfl (am_hp (i := 5) rfl hp)
  intro T hT X
  obtain ⟨t, a1, b1⟩ := kk H locs la' hH hS hL' T hT X
  refine ⟨t, ?_, b1⟩
  have e2 : storeLocals la 6 (.long (Int64.ofInt v)) = some la' := e1
  have e3 : (vL v :: st).map (am_c g.1) = .long (Int64.ofInt v) :: st.map (am_c g.1) := rfl
  rw [e3]
  jvm_step X.here [X.here.top, ↓top_set X.here.top, hx, hb, d, e2, Value.isRef]
  exact a1

theorem am_lstore7 {x : am_X} {cc : ByteArray} {own : String} {n mc ms : Nat} (hC : am_C x cc own n mc ms) {pc k z : Nat} {h : am_H} {ls : List (Option Value)} {st : List Value} {y0 y1 y2 y3 y4 y5 y6 o0 o1 : Option Value} {tl : List (Option Value)} {v : Int} (d : decode cc pc = .ok (.lstore 7, 2)) (hp : am_n2 y6 = true) (kk : am_W x (pc + 2) k z h (y0 :: y1 :: y2 :: y3 :: y4 :: y5 :: y6 :: some (vL v) :: none :: tl) (st)) : am_W x (pc) k z h (y0 :: y1 :: y2 :: y3 :: y4 :: y5 :: y6 :: o0 :: o1 :: tl) (vL v :: st) := by
  obtain ⟨p, l, e, R, s, m, args, below, meth, c, Q, g, nL⟩ := x
  obtain ⟨hx, hb, hml, hown, hts, hI, hlk, hR⟩ := hC
  intro H locs la hH hS hL
  have hlt : 8 < nL := by have := hL.2.1; simp at this; omega
  obtain ⟨la', e1, hL'⟩ := am_st2 (i := 7) (vL v) hL hlt rfl (am_hp (i := 6) rfl hp)
  intro T hT X
  obtain ⟨t, a1, b1⟩ := kk H locs la' hH hS hL' T hT X
  refine ⟨t, ?_, b1⟩
  have e2 : storeLocals la 7 (.long (Int64.ofInt v)) = some la' := e1
  have e3 : (vL v :: st).map (am_c g.1) = .long (Int64.ofInt v) :: st.map (am_c g.1) := rfl
  rw [e3]
  jvm_step X.here [X.here.top, ↓top_set X.here.top, hx, hb, d, e2, Value.isRef]
  exact a1

theorem am_lstore8 {x : am_X} {cc : ByteArray} {own : String} {n mc ms : Nat} (hC : am_C x cc own n mc ms) {pc k z : Nat} {h : am_H} {ls : List (Option Value)} {st : List Value} {y0 y1 y2 y3 y4 y5 y6 y7 o0 o1 : Option Value} {tl : List (Option Value)} {v : Int} (d : decode cc pc = .ok (.lstore 8, 2)) (hp : am_n2 y7 = true) (kk : am_W x (pc + 2) k z h (y0 :: y1 :: y2 :: y3 :: y4 :: y5 :: y6 :: y7 :: some (vL v) :: none :: tl) (st)) : am_W x (pc) k z h (y0 :: y1 :: y2 :: y3 :: y4 :: y5 :: y6 :: y7 :: o0 :: o1 :: tl) (vL v :: st) := by
  obtain ⟨p, l, e, R, s, m, args, below, meth, c, Q, g, nL⟩ := x
  obtain ⟨hx, hb, hml, hown, hts, hI, hlk, hR⟩ := hC
  intro H locs la hH hS hL
  have hlt : 9 < nL := by have := hL.2.1; simp at this; omega
  obtain ⟨la', e1, hL'⟩ := am_st2 (i := 8) (vL v) hL hlt rfl (am_hp (i := 7) rfl hp)
  intro T hT X
  obtain ⟨t, a1, b1⟩ := kk H locs la' hH hS hL' T hT X
  refine ⟨t, ?_, b1⟩
  have e2 : storeLocals la 8 (.long (Int64.ofInt v)) = some la' := e1
  have e3 : (vL v :: st).map (am_c g.1) = .long (Int64.ofInt v) :: st.map (am_c g.1) := rfl
  rw [e3]
  jvm_step X.here [X.here.top, ↓top_set X.here.top, hx, hb, d, e2, Value.isRef]
  exact a1

theorem am_lstore9 {x : am_X} {cc : ByteArray} {own : String} {n mc ms : Nat} (hC : am_C x cc own n mc ms) {pc k z : Nat} {h : am_H} {ls : List (Option Value)} {st : List Value} {y0 y1 y2 y3 y4 y5 y6 y7 y8 o0 o1 : Option Value} {tl : List (Option Value)} {v : Int} (d : decode cc pc = .ok (.lstore 9, 2)) (hp : am_n2 y8 = true) (kk : am_W x (pc + 2) k z h (y0 :: y1 :: y2 :: y3 :: y4 :: y5 :: y6 :: y7 :: y8 :: some (vL v) :: none :: tl) (st)) : am_W x (pc) k z h (y0 :: y1 :: y2 :: y3 :: y4 :: y5 :: y6 :: y7 :: y8 :: o0 :: o1 :: tl) (vL v :: st) := by
  obtain ⟨p, l, e, R, s, m, args, below, meth, c, Q, g, nL⟩ := x
  obtain ⟨hx, hb, hml, hown, hts, hI, hlk, hR⟩ := hC
  intro H locs la hH hS hL
  have hlt : 10 < nL := by have := hL.2.1; simp at this; omega
  obtain ⟨la', e1, hL'⟩ := am_st2 (i := 9) (vL v) hL hlt rfl (am_hp (i := 8) rfl hp)
  intro T hT X
  obtain ⟨t, a1, b1⟩ := kk H locs la' hH hS hL' T hT X
  refine ⟨t, ?_, b1⟩
  have e2 : storeLocals la 9 (.long (Int64.ofInt v)) = some la' := e1
  have e3 : (vL v :: st).map (am_c g.1) = .long (Int64.ofInt v) :: st.map (am_c g.1) := rfl
  rw [e3]
  jvm_step X.here [X.here.top, ↓top_set X.here.top, hx, hb, d, e2, Value.isRef]
  exact a1

theorem am_lstore10 {x : am_X} {cc : ByteArray} {own : String} {n mc ms : Nat} (hC : am_C x cc own n mc ms) {pc k z : Nat} {h : am_H} {ls : List (Option Value)} {st : List Value} {y0 y1 y2 y3 y4 y5 y6 y7 y8 y9 o0 o1 : Option Value} {tl : List (Option Value)} {v : Int} (d : decode cc pc = .ok (.lstore 10, 2)) (hp : am_n2 y9 = true) (kk : am_W x (pc + 2) k z h (y0 :: y1 :: y2 :: y3 :: y4 :: y5 :: y6 :: y7 :: y8 :: y9 :: some (vL v) :: none :: tl) (st)) : am_W x (pc) k z h (y0 :: y1 :: y2 :: y3 :: y4 :: y5 :: y6 :: y7 :: y8 :: y9 :: o0 :: o1 :: tl) (vL v :: st) := by
  obtain ⟨p, l, e, R, s, m, args, below, meth, c, Q, g, nL⟩ := x
  obtain ⟨hx, hb, hml, hown, hts, hI, hlk, hR⟩ := hC
  intro H locs la hH hS hL
  have hlt : 11 < nL := by have := hL.2.1; simp at this; omega
  obtain ⟨la', e1, hL'⟩ := am_st2 (i := 10) (vL v) hL hlt rfl (am_hp (i := 9) rfl hp)
  intro T hT X
  obtain ⟨t, a1, b1⟩ := kk H locs la' hH hS hL' T hT X
  refine ⟨t, ?_, b1⟩
  have e2 : storeLocals la 10 (.long (Int64.ofInt v)) = some la' := e1
  have e3 : (vL v :: st).map (am_c g.1) = .long (Int64.ofInt v) :: st.map (am_c g.1) := rfl
  rw [e3]
  jvm_step X.here [X.here.top, ↓top_set X.here.top, hx, hb, d, e2, Value.isRef]
  exact a1

theorem am_lstore11 {x : am_X} {cc : ByteArray} {own : String} {n mc ms : Nat} (hC : am_C x cc own n mc ms) {pc k z : Nat} {h : am_H} {ls : List (Option Value)} {st : List Value} {y0 y1 y2 y3 y4 y5 y6 y7 y8 y9 y10 o0 o1 : Option Value} {tl : List (Option Value)} {v : Int} (d : decode cc pc = .ok (.lstore 11, 2)) (hp : am_n2 y10 = true) (kk : am_W x (pc + 2) k z h (y0 :: y1 :: y2 :: y3 :: y4 :: y5 :: y6 :: y7 :: y8 :: y9 :: y10 :: some (vL v) :: none :: tl) (st)) : am_W x (pc) k z h (y0 :: y1 :: y2 :: y3 :: y4 :: y5 :: y6 :: y7 :: y8 :: y9 :: y10 :: o0 :: o1 :: tl) (vL v :: st) := by
  obtain ⟨p, l, e, R, s, m, args, below, meth, c, Q, g, nL⟩ := x
  obtain ⟨hx, hb, hml, hown, hts, hI, hlk, hR⟩ := hC
  intro H locs la hH hS hL
  have hlt : 12 < nL := by have := hL.2.1; simp at this; omega
  obtain ⟨la', e1, hL'⟩ := am_st2 (i := 11) (vL v) hL hlt rfl (am_hp (i := 10) rfl hp)
  intro T hT X
  obtain ⟨t, a1, b1⟩ := kk H locs la' hH hS hL' T hT X
  refine ⟨t, ?_, b1⟩
  have e2 : storeLocals la 11 (.long (Int64.ofInt v)) = some la' := e1
  have e3 : (vL v :: st).map (am_c g.1) = .long (Int64.ofInt v) :: st.map (am_c g.1) := rfl
  rw [e3]
  jvm_step X.here [X.here.top, ↓top_set X.here.top, hx, hb, d, e2, Value.isRef]
  exact a1

theorem am_lstore12 {x : am_X} {cc : ByteArray} {own : String} {n mc ms : Nat} (hC : am_C x cc own n mc ms) {pc k z : Nat} {h : am_H} {ls : List (Option Value)} {st : List Value} {y0 y1 y2 y3 y4 y5 y6 y7 y8 y9 y10 y11 o0 o1 : Option Value} {tl : List (Option Value)} {v : Int} (d : decode cc pc = .ok (.lstore 12, 2)) (hp : am_n2 y11 = true) (kk : am_W x (pc + 2) k z h (y0 :: y1 :: y2 :: y3 :: y4 :: y5 :: y6 :: y7 :: y8 :: y9 :: y10 :: y11 :: some (vL v) :: none :: tl) (st)) : am_W x (pc) k z h (y0 :: y1 :: y2 :: y3 :: y4 :: y5 :: y6 :: y7 :: y8 :: y9 :: y10 :: y11 :: o0 :: o1 :: tl) (vL v :: st) := by
  obtain ⟨p, l, e, R, s, m, args, below, meth, c, Q, g, nL⟩ := x
  obtain ⟨hx, hb, hml, hown, hts, hI, hlk, hR⟩ := hC
  intro H locs la hH hS hL
  have hlt : 13 < nL := by have := hL.2.1; simp at this; omega
  obtain ⟨la', e1, hL'⟩ := am_st2 (i := 12) (vL v) hL hlt rfl (am_hp (i := 11) rfl hp)
  intro T hT X
  obtain ⟨t, a1, b1⟩ := kk H locs la' hH hS hL' T hT X
  refine ⟨t, ?_, b1⟩
  have e2 : storeLocals la 12 (.long (Int64.ofInt v)) = some la' := e1
  have e3 : (vL v :: st).map (am_c g.1) = .long (Int64.ofInt v) :: st.map (am_c g.1) := rfl
  rw [e3]
  jvm_step X.here [X.here.top, ↓top_set X.here.top, hx, hb, d, e2, Value.isRef]
  exact a1

theorem am_lstore13 {x : am_X} {cc : ByteArray} {own : String} {n mc ms : Nat} (hC : am_C x cc own n mc ms) {pc k z : Nat} {h : am_H} {ls : List (Option Value)} {st : List Value} {y0 y1 y2 y3 y4 y5 y6 y7 y8 y9 y10 y11 y12 o0 o1 : Option Value} {tl : List (Option Value)} {v : Int} (d : decode cc pc = .ok (.lstore 13, 2)) (hp : am_n2 y12 = true) (kk : am_W x (pc + 2) k z h (y0 :: y1 :: y2 :: y3 :: y4 :: y5 :: y6 :: y7 :: y8 :: y9 :: y10 :: y11 :: y12 :: some (vL v) :: none :: tl) (st)) : am_W x (pc) k z h (y0 :: y1 :: y2 :: y3 :: y4 :: y5 :: y6 :: y7 :: y8 :: y9 :: y10 :: y11 :: y12 :: o0 :: o1 :: tl) (vL v :: st) := by
  obtain ⟨p, l, e, R, s, m, args, below, meth, c, Q, g, nL⟩ := x
  obtain ⟨hx, hb, hml, hown, hts, hI, hlk, hR⟩ := hC
  intro H locs la hH hS hL
  have hlt : 14 < nL := by have := hL.2.1; simp at this; omega
  obtain ⟨la', e1, hL'⟩ := am_st2 (i := 13) (vL v) hL hlt rfl (am_hp (i := 12) rfl hp)
  intro T hT X
  obtain ⟨t, a1, b1⟩ := kk H locs la' hH hS hL' T hT X
  refine ⟨t, ?_, b1⟩
  have e2 : storeLocals la 13 (.long (Int64.ofInt v)) = some la' := e1
  have e3 : (vL v :: st).map (am_c g.1) = .long (Int64.ofInt v) :: st.map (am_c g.1) := rfl
  rw [e3]
  jvm_step X.here [X.here.top, ↓top_set X.here.top, hx, hb, d, e2, Value.isRef]
  exact a1

theorem am_lstore14 {x : am_X} {cc : ByteArray} {own : String} {n mc ms : Nat} (hC : am_C x cc own n mc ms) {pc k z : Nat} {h : am_H} {ls : List (Option Value)} {st : List Value} {y0 y1 y2 y3 y4 y5 y6 y7 y8 y9 y10 y11 y12 y13 o0 o1 : Option Value} {tl : List (Option Value)} {v : Int} (d : decode cc pc = .ok (.lstore 14, 2)) (hp : am_n2 y13 = true) (kk : am_W x (pc + 2) k z h (y0 :: y1 :: y2 :: y3 :: y4 :: y5 :: y6 :: y7 :: y8 :: y9 :: y10 :: y11 :: y12 :: y13 :: some (vL v) :: none :: tl) (st)) : am_W x (pc) k z h (y0 :: y1 :: y2 :: y3 :: y4 :: y5 :: y6 :: y7 :: y8 :: y9 :: y10 :: y11 :: y12 :: y13 :: o0 :: o1 :: tl) (vL v :: st) := by
  obtain ⟨p, l, e, R, s, m, args, below, meth, c, Q, g, nL⟩ := x
  obtain ⟨hx, hb, hml, hown, hts, hI, hlk, hR⟩ := hC
  intro H locs la hH hS hL
  have hlt : 15 < nL := by have := hL.2.1; simp at this; omega
  obtain ⟨la', e1, hL'⟩ := am_st2 (i := 14) (vL v) hL hlt rfl (am_hp (i := 13) rfl hp)
  intro T hT X
  obtain ⟨t, a1, b1⟩ := kk H locs la' hH hS hL' T hT X
  refine ⟨t, ?_, b1⟩
  have e2 : storeLocals la 14 (.long (Int64.ofInt v)) = some la' := e1
  have e3 : (vL v :: st).map (am_c g.1) = .long (Int64.ofInt v) :: st.map (am_c g.1) := rfl
  rw [e3]
  jvm_step X.here [X.here.top, ↓top_set X.here.top, hx, hb, d, e2, Value.isRef]
  exact a1

theorem am_lstore15 {x : am_X} {cc : ByteArray} {own : String} {n mc ms : Nat} (hC : am_C x cc own n mc ms) {pc k z : Nat} {h : am_H} {ls : List (Option Value)} {st : List Value} {y0 y1 y2 y3 y4 y5 y6 y7 y8 y9 y10 y11 y12 y13 y14 o0 o1 : Option Value} {tl : List (Option Value)} {v : Int} (d : decode cc pc = .ok (.lstore 15, 2)) (hp : am_n2 y14 = true) (kk : am_W x (pc + 2) k z h (y0 :: y1 :: y2 :: y3 :: y4 :: y5 :: y6 :: y7 :: y8 :: y9 :: y10 :: y11 :: y12 :: y13 :: y14 :: some (vL v) :: none :: tl) (st)) : am_W x (pc) k z h (y0 :: y1 :: y2 :: y3 :: y4 :: y5 :: y6 :: y7 :: y8 :: y9 :: y10 :: y11 :: y12 :: y13 :: y14 :: o0 :: o1 :: tl) (vL v :: st) := by
  obtain ⟨p, l, e, R, s, m, args, below, meth, c, Q, g, nL⟩ := x
  obtain ⟨hx, hb, hml, hown, hts, hI, hlk, hR⟩ := hC
  intro H locs la hH hS hL
  have hlt : 16 < nL := by have := hL.2.1; simp at this; omega
  obtain ⟨la', e1, hL'⟩ := am_st2 (i := 15) (vL v) hL hlt rfl (am_hp (i := 14) rfl hp)
  intro T hT X
  obtain ⟨t, a1, b1⟩ := kk H locs la' hH hS hL' T hT X
  refine ⟨t, ?_, b1⟩
  have e2 : storeLocals la 15 (.long (Int64.ofInt v)) = some la' := e1
  have e3 : (vL v :: st).map (am_c g.1) = .long (Int64.ofInt v) :: st.map (am_c g.1) := rfl
  rw [e3]
  jvm_step X.here [X.here.top, ↓top_set X.here.top, hx, hb, d, e2, Value.isRef]
  exact a1

theorem am_astore0 {x : am_X} {cc : ByteArray} {own : String} {n mc ms : Nat} (hC : am_C x cc own n mc ms) {pc k z : Nat} {h : am_H} {ls : List (Option Value)} {st : List Value} {o0 : Option Value} {tl : List (Option Value)} {v : Nat} (d : decode cc pc = .ok (.astore_n 0, 1)) (kk : am_W x (pc + 1) k z h (some (Value.ref v) :: tl) (st)) : am_W x (pc) k z h (o0 :: tl) (Value.ref v :: st) := by
  obtain ⟨p, l, e, R, s, m, args, below, meth, c, Q, g, nL⟩ := x
  obtain ⟨hx, hb, hml, hown, hts, hI, hlk, hR⟩ := hC
  intro H locs la hH hS hL
  have hlt : 0 < nL := by have := hL.2.1; simp at this; omega
  obtain ⟨la', e1, hL'⟩ := am_st1 (i := 0) (Value.ref v) hL hlt rfl (fun j u hj hu => by omega)
  intro T hT X
  obtain ⟨t, a1, b1⟩ := kk H locs la' hH hS hL' T hT X
  refine ⟨t, ?_, b1⟩
  have e2 : storeLocals la 0 (.ref (g.1 + v)) = some la' := e1
  have e3 : (Value.ref v :: st).map (am_c g.1) = .ref (g.1 + v) :: st.map (am_c g.1) := rfl
  rw [e3]
  jvm_step X.here [X.here.top, ↓top_set X.here.top, hx, hb, d, e2, Value.isRef]
  exact a1

theorem am_astore1 {x : am_X} {cc : ByteArray} {own : String} {n mc ms : Nat} (hC : am_C x cc own n mc ms) {pc k z : Nat} {h : am_H} {ls : List (Option Value)} {st : List Value} {y0 o0 : Option Value} {tl : List (Option Value)} {v : Nat} (d : decode cc pc = .ok (.astore_n 1, 1)) (hp : am_n2 y0 = true) (kk : am_W x (pc + 1) k z h (y0 :: some (Value.ref v) :: tl) (st)) : am_W x (pc) k z h (y0 :: o0 :: tl) (Value.ref v :: st) := by
  obtain ⟨p, l, e, R, s, m, args, below, meth, c, Q, g, nL⟩ := x
  obtain ⟨hx, hb, hml, hown, hts, hI, hlk, hR⟩ := hC
  intro H locs la hH hS hL
  have hlt : 1 < nL := by have := hL.2.1; simp at this; omega
  obtain ⟨la', e1, hL'⟩ := am_st1 (i := 1) (Value.ref v) hL hlt rfl (am_hp (i := 0) rfl hp)
  intro T hT X
  obtain ⟨t, a1, b1⟩ := kk H locs la' hH hS hL' T hT X
  refine ⟨t, ?_, b1⟩
  have e2 : storeLocals la 1 (.ref (g.1 + v)) = some la' := e1
  have e3 : (Value.ref v :: st).map (am_c g.1) = .ref (g.1 + v) :: st.map (am_c g.1) := rfl
  rw [e3]
  jvm_step X.here [X.here.top, ↓top_set X.here.top, hx, hb, d, e2, Value.isRef]
  exact a1

theorem am_astore2 {x : am_X} {cc : ByteArray} {own : String} {n mc ms : Nat} (hC : am_C x cc own n mc ms) {pc k z : Nat} {h : am_H} {ls : List (Option Value)} {st : List Value} {y0 y1 o0 : Option Value} {tl : List (Option Value)} {v : Nat} (d : decode cc pc = .ok (.astore_n 2, 1)) (hp : am_n2 y1 = true) (kk : am_W x (pc + 1) k z h (y0 :: y1 :: some (Value.ref v) :: tl) (st)) : am_W x (pc) k z h (y0 :: y1 :: o0 :: tl) (Value.ref v :: st) := by
  obtain ⟨p, l, e, R, s, m, args, below, meth, c, Q, g, nL⟩ := x
  obtain ⟨hx, hb, hml, hown, hts, hI, hlk, hR⟩ := hC
  intro H locs la hH hS hL
  have hlt : 2 < nL := by have := hL.2.1; simp at this; omega
  obtain ⟨la', e1, hL'⟩ := am_st1 (i := 2) (Value.ref v) hL hlt rfl (am_hp (i := 1) rfl hp)
  intro T hT X
  obtain ⟨t, a1, b1⟩ := kk H locs la' hH hS hL' T hT X
  refine ⟨t, ?_, b1⟩
  have e2 : storeLocals la 2 (.ref (g.1 + v)) = some la' := e1
  have e3 : (Value.ref v :: st).map (am_c g.1) = .ref (g.1 + v) :: st.map (am_c g.1) := rfl
  rw [e3]
  jvm_step X.here [X.here.top, ↓top_set X.here.top, hx, hb, d, e2, Value.isRef]
  exact a1

theorem am_astore3 {x : am_X} {cc : ByteArray} {own : String} {n mc ms : Nat} (hC : am_C x cc own n mc ms) {pc k z : Nat} {h : am_H} {ls : List (Option Value)} {st : List Value} {y0 y1 y2 o0 : Option Value} {tl : List (Option Value)} {v : Nat} (d : decode cc pc = .ok (.astore_n 3, 1)) (hp : am_n2 y2 = true) (kk : am_W x (pc + 1) k z h (y0 :: y1 :: y2 :: some (Value.ref v) :: tl) (st)) : am_W x (pc) k z h (y0 :: y1 :: y2 :: o0 :: tl) (Value.ref v :: st) := by
  obtain ⟨p, l, e, R, s, m, args, below, meth, c, Q, g, nL⟩ := x
  obtain ⟨hx, hb, hml, hown, hts, hI, hlk, hR⟩ := hC
  intro H locs la hH hS hL
  have hlt : 3 < nL := by have := hL.2.1; simp at this; omega
  obtain ⟨la', e1, hL'⟩ := am_st1 (i := 3) (Value.ref v) hL hlt rfl (am_hp (i := 2) rfl hp)
  intro T hT X
  obtain ⟨t, a1, b1⟩ := kk H locs la' hH hS hL' T hT X
  refine ⟨t, ?_, b1⟩
  have e2 : storeLocals la 3 (.ref (g.1 + v)) = some la' := e1
  have e3 : (Value.ref v :: st).map (am_c g.1) = .ref (g.1 + v) :: st.map (am_c g.1) := rfl
  rw [e3]
  jvm_step X.here [X.here.top, ↓top_set X.here.top, hx, hb, d, e2, Value.isRef]
  exact a1

theorem am_astore4 {x : am_X} {cc : ByteArray} {own : String} {n mc ms : Nat} (hC : am_C x cc own n mc ms) {pc k z : Nat} {h : am_H} {ls : List (Option Value)} {st : List Value} {y0 y1 y2 y3 o0 : Option Value} {tl : List (Option Value)} {v : Nat} (d : decode cc pc = .ok (.astore 4, 2)) (hp : am_n2 y3 = true) (kk : am_W x (pc + 2) k z h (y0 :: y1 :: y2 :: y3 :: some (Value.ref v) :: tl) (st)) : am_W x (pc) k z h (y0 :: y1 :: y2 :: y3 :: o0 :: tl) (Value.ref v :: st) := by
  obtain ⟨p, l, e, R, s, m, args, below, meth, c, Q, g, nL⟩ := x
  obtain ⟨hx, hb, hml, hown, hts, hI, hlk, hR⟩ := hC
  intro H locs la hH hS hL
  have hlt : 4 < nL := by have := hL.2.1; simp at this; omega
  obtain ⟨la', e1, hL'⟩ := am_st1 (i := 4) (Value.ref v) hL hlt rfl (am_hp (i := 3) rfl hp)
  intro T hT X
  obtain ⟨t, a1, b1⟩ := kk H locs la' hH hS hL' T hT X
  refine ⟨t, ?_, b1⟩
  have e2 : storeLocals la 4 (.ref (g.1 + v)) = some la' := e1
  have e3 : (Value.ref v :: st).map (am_c g.1) = .ref (g.1 + v) :: st.map (am_c g.1) := rfl
  rw [e3]
  jvm_step X.here [X.here.top, ↓top_set X.here.top, hx, hb, d, e2, Value.isRef]
  exact a1

theorem am_astore5 {x : am_X} {cc : ByteArray} {own : String} {n mc ms : Nat} (hC : am_C x cc own n mc ms) {pc k z : Nat} {h : am_H} {ls : List (Option Value)} {st : List Value} {y0 y1 y2 y3 y4 o0 : Option Value} {tl : List (Option Value)} {v : Nat} (d : decode cc pc = .ok (.astore 5, 2)) (hp : am_n2 y4 = true) (kk : am_W x (pc + 2) k z h (y0 :: y1 :: y2 :: y3 :: y4 :: some (Value.ref v) :: tl) (st)) : am_W x (pc) k z h (y0 :: y1 :: y2 :: y3 :: y4 :: o0 :: tl) (Value.ref v :: st) := by
  obtain ⟨p, l, e, R, s, m, args, below, meth, c, Q, g, nL⟩ := x
  obtain ⟨hx, hb, hml, hown, hts, hI, hlk, hR⟩ := hC
  intro H locs la hH hS hL
  have hlt : 5 < nL := by have := hL.2.1; simp at this; omega
  obtain ⟨la', e1, hL'⟩ := am_st1 (i := 5) (Value.ref v) hL hlt rfl (am_hp (i := 4) rfl hp)
  intro T hT X
  obtain ⟨t, a1, b1⟩ := kk H locs la' hH hS hL' T hT X
  refine ⟨t, ?_, b1⟩
  have e2 : storeLocals la 5 (.ref (g.1 + v)) = some la' := e1
  have e3 : (Value.ref v :: st).map (am_c g.1) = .ref (g.1 + v) :: st.map (am_c g.1) := rfl
  rw [e3]
  jvm_step X.here [X.here.top, ↓top_set X.here.top, hx, hb, d, e2, Value.isRef]
  exact a1

theorem am_astore6 {x : am_X} {cc : ByteArray} {own : String} {n mc ms : Nat} (hC : am_C x cc own n mc ms) {pc k z : Nat} {h : am_H} {ls : List (Option Value)} {st : List Value} {y0 y1 y2 y3 y4 y5 o0 : Option Value} {tl : List (Option Value)} {v : Nat} (d : decode cc pc = .ok (.astore 6, 2)) (hp : am_n2 y5 = true) (kk : am_W x (pc + 2) k z h (y0 :: y1 :: y2 :: y3 :: y4 :: y5 :: some (Value.ref v) :: tl) (st)) : am_W x (pc) k z h (y0 :: y1 :: y2 :: y3 :: y4 :: y5 :: o0 :: tl) (Value.ref v :: st) := by
  obtain ⟨p, l, e, R, s, m, args, below, meth, c, Q, g, nL⟩ := x
  obtain ⟨hx, hb, hml, hown, hts, hI, hlk, hR⟩ := hC
  intro H locs la hH hS hL
  have hlt : 6 < nL := by have := hL.2.1; simp at this; omega
  obtain ⟨la', e1, hL'⟩ := am_st1 (i := 6) (Value.ref v) hL hlt rfl (am_hp (i := 5) rfl hp)
  intro T hT X
  obtain ⟨t, a1, b1⟩ := kk H locs la' hH hS hL' T hT X
  refine ⟨t, ?_, b1⟩
  have e2 : storeLocals la 6 (.ref (g.1 + v)) = some la' := e1
  have e3 : (Value.ref v :: st).map (am_c g.1) = .ref (g.1 + v) :: st.map (am_c g.1) := rfl
  rw [e3]
  jvm_step X.here [X.here.top, ↓top_set X.here.top, hx, hb, d, e2, Value.isRef]
  exact a1

theorem am_astore7 {x : am_X} {cc : ByteArray} {own : String} {n mc ms : Nat} (hC : am_C x cc own n mc ms) {pc k z : Nat} {h : am_H} {ls : List (Option Value)} {st : List Value} {y0 y1 y2 y3 y4 y5 y6 o0 : Option Value} {tl : List (Option Value)} {v : Nat} (d : decode cc pc = .ok (.astore 7, 2)) (hp : am_n2 y6 = true) (kk : am_W x (pc + 2) k z h (y0 :: y1 :: y2 :: y3 :: y4 :: y5 :: y6 :: some (Value.ref v) :: tl) (st)) : am_W x (pc) k z h (y0 :: y1 :: y2 :: y3 :: y4 :: y5 :: y6 :: o0 :: tl) (Value.ref v :: st) := by
  obtain ⟨p, l, e, R, s, m, args, below, meth, c, Q, g, nL⟩ := x
  obtain ⟨hx, hb, hml, hown, hts, hI, hlk, hR⟩ := hC
  intro H locs la hH hS hL
  have hlt : 7 < nL := by have := hL.2.1; simp at this; omega
  obtain ⟨la', e1, hL'⟩ := am_st1 (i := 7) (Value.ref v) hL hlt rfl (am_hp (i := 6) rfl hp)
  intro T hT X
  obtain ⟨t, a1, b1⟩ := kk H locs la' hH hS hL' T hT X
  refine ⟨t, ?_, b1⟩
  have e2 : storeLocals la 7 (.ref (g.1 + v)) = some la' := e1
  have e3 : (Value.ref v :: st).map (am_c g.1) = .ref (g.1 + v) :: st.map (am_c g.1) := rfl
  rw [e3]
  jvm_step X.here [X.here.top, ↓top_set X.here.top, hx, hb, d, e2, Value.isRef]
  exact a1

theorem am_astore8 {x : am_X} {cc : ByteArray} {own : String} {n mc ms : Nat} (hC : am_C x cc own n mc ms) {pc k z : Nat} {h : am_H} {ls : List (Option Value)} {st : List Value} {y0 y1 y2 y3 y4 y5 y6 y7 o0 : Option Value} {tl : List (Option Value)} {v : Nat} (d : decode cc pc = .ok (.astore 8, 2)) (hp : am_n2 y7 = true) (kk : am_W x (pc + 2) k z h (y0 :: y1 :: y2 :: y3 :: y4 :: y5 :: y6 :: y7 :: some (Value.ref v) :: tl) (st)) : am_W x (pc) k z h (y0 :: y1 :: y2 :: y3 :: y4 :: y5 :: y6 :: y7 :: o0 :: tl) (Value.ref v :: st) := by
  obtain ⟨p, l, e, R, s, m, args, below, meth, c, Q, g, nL⟩ := x
  obtain ⟨hx, hb, hml, hown, hts, hI, hlk, hR⟩ := hC
  intro H locs la hH hS hL
  have hlt : 8 < nL := by have := hL.2.1; simp at this; omega
  obtain ⟨la', e1, hL'⟩ := am_st1 (i := 8) (Value.ref v) hL hlt rfl (am_hp (i := 7) rfl hp)
  intro T hT X
  obtain ⟨t, a1, b1⟩ := kk H locs la' hH hS hL' T hT X
  refine ⟨t, ?_, b1⟩
  have e2 : storeLocals la 8 (.ref (g.1 + v)) = some la' := e1
  have e3 : (Value.ref v :: st).map (am_c g.1) = .ref (g.1 + v) :: st.map (am_c g.1) := rfl
  rw [e3]
  jvm_step X.here [X.here.top, ↓top_set X.here.top, hx, hb, d, e2, Value.isRef]
  exact a1

theorem am_astore9 {x : am_X} {cc : ByteArray} {own : String} {n mc ms : Nat} (hC : am_C x cc own n mc ms) {pc k z : Nat} {h : am_H} {ls : List (Option Value)} {st : List Value} {y0 y1 y2 y3 y4 y5 y6 y7 y8 o0 : Option Value} {tl : List (Option Value)} {v : Nat} (d : decode cc pc = .ok (.astore 9, 2)) (hp : am_n2 y8 = true) (kk : am_W x (pc + 2) k z h (y0 :: y1 :: y2 :: y3 :: y4 :: y5 :: y6 :: y7 :: y8 :: some (Value.ref v) :: tl) (st)) : am_W x (pc) k z h (y0 :: y1 :: y2 :: y3 :: y4 :: y5 :: y6 :: y7 :: y8 :: o0 :: tl) (Value.ref v :: st) := by
  obtain ⟨p, l, e, R, s, m, args, below, meth, c, Q, g, nL⟩ := x
  obtain ⟨hx, hb, hml, hown, hts, hI, hlk, hR⟩ := hC
  intro H locs la hH hS hL
  have hlt : 9 < nL := by have := hL.2.1; simp at this; omega
  obtain ⟨la', e1, hL'⟩ := am_st1 (i := 9) (Value.ref v) hL hlt rfl (am_hp (i := 8) rfl hp)
  intro T hT X
  obtain ⟨t, a1, b1⟩ := kk H locs la' hH hS hL' T hT X
  refine ⟨t, ?_, b1⟩
  have e2 : storeLocals la 9 (.ref (g.1 + v)) = some la' := e1
  have e3 : (Value.ref v :: st).map (am_c g.1) = .ref (g.1 + v) :: st.map (am_c g.1) := rfl
  rw [e3]
  jvm_step X.here [X.here.top, ↓top_set X.here.top, hx, hb, d, e2, Value.isRef]
  exact a1

theorem am_astore10 {x : am_X} {cc : ByteArray} {own : String} {n mc ms : Nat} (hC : am_C x cc own n mc ms) {pc k z : Nat} {h : am_H} {ls : List (Option Value)} {st : List Value} {y0 y1 y2 y3 y4 y5 y6 y7 y8 y9 o0 : Option Value} {tl : List (Option Value)} {v : Nat} (d : decode cc pc = .ok (.astore 10, 2)) (hp : am_n2 y9 = true) (kk : am_W x (pc + 2) k z h (y0 :: y1 :: y2 :: y3 :: y4 :: y5 :: y6 :: y7 :: y8 :: y9 :: some (Value.ref v) :: tl) (st)) : am_W x (pc) k z h (y0 :: y1 :: y2 :: y3 :: y4 :: y5 :: y6 :: y7 :: y8 :: y9 :: o0 :: tl) (Value.ref v :: st) := by
  obtain ⟨p, l, e, R, s, m, args, below, meth, c, Q, g, nL⟩ := x
  obtain ⟨hx, hb, hml, hown, hts, hI, hlk, hR⟩ := hC
  intro H locs la hH hS hL
  have hlt : 10 < nL := by have := hL.2.1; simp at this; omega
  obtain ⟨la', e1, hL'⟩ := am_st1 (i := 10) (Value.ref v) hL hlt rfl (am_hp (i := 9) rfl hp)
  intro T hT X
  obtain ⟨t, a1, b1⟩ := kk H locs la' hH hS hL' T hT X
  refine ⟨t, ?_, b1⟩
  have e2 : storeLocals la 10 (.ref (g.1 + v)) = some la' := e1
  have e3 : (Value.ref v :: st).map (am_c g.1) = .ref (g.1 + v) :: st.map (am_c g.1) := rfl
  rw [e3]
  jvm_step X.here [X.here.top, ↓top_set X.here.top, hx, hb, d, e2, Value.isRef]
  exact a1

theorem am_astore11 {x : am_X} {cc : ByteArray} {own : String} {n mc ms : Nat} (hC : am_C x cc own n mc ms) {pc k z : Nat} {h : am_H} {ls : List (Option Value)} {st : List Value} {y0 y1 y2 y3 y4 y5 y6 y7 y8 y9 y10 o0 : Option Value} {tl : List (Option Value)} {v : Nat} (d : decode cc pc = .ok (.astore 11, 2)) (hp : am_n2 y10 = true) (kk : am_W x (pc + 2) k z h (y0 :: y1 :: y2 :: y3 :: y4 :: y5 :: y6 :: y7 :: y8 :: y9 :: y10 :: some (Value.ref v) :: tl) (st)) : am_W x (pc) k z h (y0 :: y1 :: y2 :: y3 :: y4 :: y5 :: y6 :: y7 :: y8 :: y9 :: y10 :: o0 :: tl) (Value.ref v :: st) := by
  obtain ⟨p, l, e, R, s, m, args, below, meth, c, Q, g, nL⟩ := x
  obtain ⟨hx, hb, hml, hown, hts, hI, hlk, hR⟩ := hC
  intro H locs la hH hS hL
  have hlt : 11 < nL := by have := hL.2.1; simp at this; omega
  obtain ⟨la', e1, hL'⟩ := am_st1 (i := 11) (Value.ref v) hL hlt rfl (am_hp (i := 10) rfl hp)
  intro T hT X
  obtain ⟨t, a1, b1⟩ := kk H locs la' hH hS hL' T hT X
  refine ⟨t, ?_, b1⟩
  have e2 : storeLocals la 11 (.ref (g.1 + v)) = some la' := e1
  have e3 : (Value.ref v :: st).map (am_c g.1) = .ref (g.1 + v) :: st.map (am_c g.1) := rfl
  rw [e3]
  jvm_step X.here [X.here.top, ↓top_set X.here.top, hx, hb, d, e2, Value.isRef]
  exact a1

theorem am_astore12 {x : am_X} {cc : ByteArray} {own : String} {n mc ms : Nat} (hC : am_C x cc own n mc ms) {pc k z : Nat} {h : am_H} {ls : List (Option Value)} {st : List Value} {y0 y1 y2 y3 y4 y5 y6 y7 y8 y9 y10 y11 o0 : Option Value} {tl : List (Option Value)} {v : Nat} (d : decode cc pc = .ok (.astore 12, 2)) (hp : am_n2 y11 = true) (kk : am_W x (pc + 2) k z h (y0 :: y1 :: y2 :: y3 :: y4 :: y5 :: y6 :: y7 :: y8 :: y9 :: y10 :: y11 :: some (Value.ref v) :: tl) (st)) : am_W x (pc) k z h (y0 :: y1 :: y2 :: y3 :: y4 :: y5 :: y6 :: y7 :: y8 :: y9 :: y10 :: y11 :: o0 :: tl) (Value.ref v :: st) := by
  obtain ⟨p, l, e, R, s, m, args, below, meth, c, Q, g, nL⟩ := x
  obtain ⟨hx, hb, hml, hown, hts, hI, hlk, hR⟩ := hC
  intro H locs la hH hS hL
  have hlt : 12 < nL := by have := hL.2.1; simp at this; omega
  obtain ⟨la', e1, hL'⟩ := am_st1 (i := 12) (Value.ref v) hL hlt rfl (am_hp (i := 11) rfl hp)
  intro T hT X
  obtain ⟨t, a1, b1⟩ := kk H locs la' hH hS hL' T hT X
  refine ⟨t, ?_, b1⟩
  have e2 : storeLocals la 12 (.ref (g.1 + v)) = some la' := e1
  have e3 : (Value.ref v :: st).map (am_c g.1) = .ref (g.1 + v) :: st.map (am_c g.1) := rfl
  rw [e3]
  jvm_step X.here [X.here.top, ↓top_set X.here.top, hx, hb, d, e2, Value.isRef]
  exact a1

theorem am_astore13 {x : am_X} {cc : ByteArray} {own : String} {n mc ms : Nat} (hC : am_C x cc own n mc ms) {pc k z : Nat} {h : am_H} {ls : List (Option Value)} {st : List Value} {y0 y1 y2 y3 y4 y5 y6 y7 y8 y9 y10 y11 y12 o0 : Option Value} {tl : List (Option Value)} {v : Nat} (d : decode cc pc = .ok (.astore 13, 2)) (hp : am_n2 y12 = true) (kk : am_W x (pc + 2) k z h (y0 :: y1 :: y2 :: y3 :: y4 :: y5 :: y6 :: y7 :: y8 :: y9 :: y10 :: y11 :: y12 :: some (Value.ref v) :: tl) (st)) : am_W x (pc) k z h (y0 :: y1 :: y2 :: y3 :: y4 :: y5 :: y6 :: y7 :: y8 :: y9 :: y10 :: y11 :: y12 :: o0 :: tl) (Value.ref v :: st) := by
  obtain ⟨p, l, e, R, s, m, args, below, meth, c, Q, g, nL⟩ := x
  obtain ⟨hx, hb, hml, hown, hts, hI, hlk, hR⟩ := hC
  intro H locs la hH hS hL
  have hlt : 13 < nL := by have := hL.2.1; simp at this; omega
  obtain ⟨la', e1, hL'⟩ := am_st1 (i := 13) (Value.ref v) hL hlt rfl (am_hp (i := 12) rfl hp)
  intro T hT X
  obtain ⟨t, a1, b1⟩ := kk H locs la' hH hS hL' T hT X
  refine ⟨t, ?_, b1⟩
  have e2 : storeLocals la 13 (.ref (g.1 + v)) = some la' := e1
  have e3 : (Value.ref v :: st).map (am_c g.1) = .ref (g.1 + v) :: st.map (am_c g.1) := rfl
  rw [e3]
  jvm_step X.here [X.here.top, ↓top_set X.here.top, hx, hb, d, e2, Value.isRef]
  exact a1

theorem am_astore14 {x : am_X} {cc : ByteArray} {own : String} {n mc ms : Nat} (hC : am_C x cc own n mc ms) {pc k z : Nat} {h : am_H} {ls : List (Option Value)} {st : List Value} {y0 y1 y2 y3 y4 y5 y6 y7 y8 y9 y10 y11 y12 y13 o0 : Option Value} {tl : List (Option Value)} {v : Nat} (d : decode cc pc = .ok (.astore 14, 2)) (hp : am_n2 y13 = true) (kk : am_W x (pc + 2) k z h (y0 :: y1 :: y2 :: y3 :: y4 :: y5 :: y6 :: y7 :: y8 :: y9 :: y10 :: y11 :: y12 :: y13 :: some (Value.ref v) :: tl) (st)) : am_W x (pc) k z h (y0 :: y1 :: y2 :: y3 :: y4 :: y5 :: y6 :: y7 :: y8 :: y9 :: y10 :: y11 :: y12 :: y13 :: o0 :: tl) (Value.ref v :: st) := by
  obtain ⟨p, l, e, R, s, m, args, below, meth, c, Q, g, nL⟩ := x
  obtain ⟨hx, hb, hml, hown, hts, hI, hlk, hR⟩ := hC
  intro H locs la hH hS hL
  have hlt : 14 < nL := by have := hL.2.1; simp at this; omega
  obtain ⟨la', e1, hL'⟩ := am_st1 (i := 14) (Value.ref v) hL hlt rfl (am_hp (i := 13) rfl hp)
  intro T hT X
  obtain ⟨t, a1, b1⟩ := kk H locs la' hH hS hL' T hT X
  refine ⟨t, ?_, b1⟩
  have e2 : storeLocals la 14 (.ref (g.1 + v)) = some la' := e1
  have e3 : (Value.ref v :: st).map (am_c g.1) = .ref (g.1 + v) :: st.map (am_c g.1) := rfl
  rw [e3]
  jvm_step X.here [X.here.top, ↓top_set X.here.top, hx, hb, d, e2, Value.isRef]
  exact a1

theorem am_astore15 {x : am_X} {cc : ByteArray} {own : String} {n mc ms : Nat} (hC : am_C x cc own n mc ms) {pc k z : Nat} {h : am_H} {ls : List (Option Value)} {st : List Value} {y0 y1 y2 y3 y4 y5 y6 y7 y8 y9 y10 y11 y12 y13 y14 o0 : Option Value} {tl : List (Option Value)} {v : Nat} (d : decode cc pc = .ok (.astore 15, 2)) (hp : am_n2 y14 = true) (kk : am_W x (pc + 2) k z h (y0 :: y1 :: y2 :: y3 :: y4 :: y5 :: y6 :: y7 :: y8 :: y9 :: y10 :: y11 :: y12 :: y13 :: y14 :: some (Value.ref v) :: tl) (st)) : am_W x (pc) k z h (y0 :: y1 :: y2 :: y3 :: y4 :: y5 :: y6 :: y7 :: y8 :: y9 :: y10 :: y11 :: y12 :: y13 :: y14 :: o0 :: tl) (Value.ref v :: st) := by
  obtain ⟨p, l, e, R, s, m, args, below, meth, c, Q, g, nL⟩ := x
  obtain ⟨hx, hb, hml, hown, hts, hI, hlk, hR⟩ := hC
  intro H locs la hH hS hL
  have hlt : 15 < nL := by have := hL.2.1; simp at this; omega
  obtain ⟨la', e1, hL'⟩ := am_st1 (i := 15) (Value.ref v) hL hlt rfl (am_hp (i := 14) rfl hp)
  intro T hT X
  obtain ⟨t, a1, b1⟩ := kk H locs la' hH hS hL' T hT X
  refine ⟨t, ?_, b1⟩
  have e2 : storeLocals la 15 (.ref (g.1 + v)) = some la' := e1
  have e3 : (Value.ref v :: st).map (am_c g.1) = .ref (g.1 + v) :: st.map (am_c g.1) := rfl
  rw [e3]
  jvm_step X.here [X.here.top, ↓top_set X.here.top, hx, hb, d, e2, Value.isRef]
  exact a1

theorem am_iinc0 {x : am_X} {cc : ByteArray} {own : String} {n mc ms : Nat} (hC : am_C x cc own n mc ms) {pc k z : Nat} {h : am_H} {ls : List (Option Value)} {st : List Value} {tl : List (Option Value)} {v c0 : Int} (d : decode cc pc = .ok (.iinc 0 c0, 3)) (kk : am_W x (pc + 3) k z h (some (vI (v + c0)) :: tl) (st)) : am_W x (pc) k z h (some (vI v) :: tl) (st) := by
  obtain ⟨p, l, e, R, s, m, args, below, meth, c, Q, g, nL⟩ := x
  obtain ⟨hx, hb, hml, hown, hts, hI, hlk, hR⟩ := hC
  intro H locs la hH hS hL
  have hlt : 0 < nL := by have := hL.2.1; simp at this; omega
  obtain ⟨la', e1, hL'⟩ := am_st1 (i := 0) (vI (v + c0)) hL hlt rfl (fun j u hj hu => by omega)
  have hg : la[0]? = some (.val (.int (Int32.ofInt v))) := hL.2.2 0 _ rfl
  intro T hT X
  obtain ⟨t, a1, b1⟩ := kk H locs la' hH hS hL' T hT X
  refine ⟨t, ?_, b1⟩
  have e2 : storeLocals la 0 (.int (Int32.ofInt v + Int32.ofInt c0)) = some la' := by rw [← Int32.ofInt_add]; exact e1
  jvm_step X.here [X.here.top, ↓top_set X.here.top, hx, hb, d, hg, e2]
  exact a1

theorem am_iinc1 {x : am_X} {cc : ByteArray} {own : String} {n mc ms : Nat} (hC : am_C x cc own n mc ms) {pc k z : Nat} {h : am_H} {ls : List (Option Value)} {st : List Value} {y0 : Option Value} {tl : List (Option Value)} {v c0 : Int} (d : decode cc pc = .ok (.iinc 1 c0, 3)) (hp : am_n2 y0 = true) (kk : am_W x (pc + 3) k z h (y0 :: some (vI (v + c0)) :: tl) (st)) : am_W x (pc) k z h (y0 :: some (vI v) :: tl) (st) := by
  obtain ⟨p, l, e, R, s, m, args, below, meth, c, Q, g, nL⟩ := x
  obtain ⟨hx, hb, hml, hown, hts, hI, hlk, hR⟩ := hC
  intro H locs la hH hS hL
  have hlt : 1 < nL := by have := hL.2.1; simp at this; omega
  obtain ⟨la', e1, hL'⟩ := am_st1 (i := 1) (vI (v + c0)) hL hlt rfl (am_hp (i := 0) rfl hp)
  have hg : la[1]? = some (.val (.int (Int32.ofInt v))) := hL.2.2 1 _ rfl
  intro T hT X
  obtain ⟨t, a1, b1⟩ := kk H locs la' hH hS hL' T hT X
  refine ⟨t, ?_, b1⟩
  have e2 : storeLocals la 1 (.int (Int32.ofInt v + Int32.ofInt c0)) = some la' := by rw [← Int32.ofInt_add]; exact e1
  jvm_step X.here [X.here.top, ↓top_set X.here.top, hx, hb, d, hg, e2]
  exact a1

theorem am_iinc2 {x : am_X} {cc : ByteArray} {own : String} {n mc ms : Nat} (hC : am_C x cc own n mc ms) {pc k z : Nat} {h : am_H} {ls : List (Option Value)} {st : List Value} {y0 y1 : Option Value} {tl : List (Option Value)} {v c0 : Int} (d : decode cc pc = .ok (.iinc 2 c0, 3)) (hp : am_n2 y1 = true) (kk : am_W x (pc + 3) k z h (y0 :: y1 :: some (vI (v + c0)) :: tl) (st)) : am_W x (pc) k z h (y0 :: y1 :: some (vI v) :: tl) (st) := by
  obtain ⟨p, l, e, R, s, m, args, below, meth, c, Q, g, nL⟩ := x
  obtain ⟨hx, hb, hml, hown, hts, hI, hlk, hR⟩ := hC
  intro H locs la hH hS hL
  have hlt : 2 < nL := by have := hL.2.1; simp at this; omega
  obtain ⟨la', e1, hL'⟩ := am_st1 (i := 2) (vI (v + c0)) hL hlt rfl (am_hp (i := 1) rfl hp)
  have hg : la[2]? = some (.val (.int (Int32.ofInt v))) := hL.2.2 2 _ rfl
  intro T hT X
  obtain ⟨t, a1, b1⟩ := kk H locs la' hH hS hL' T hT X
  refine ⟨t, ?_, b1⟩
  have e2 : storeLocals la 2 (.int (Int32.ofInt v + Int32.ofInt c0)) = some la' := by rw [← Int32.ofInt_add]; exact e1
  jvm_step X.here [X.here.top, ↓top_set X.here.top, hx, hb, d, hg, e2]
  exact a1

theorem am_iinc3 {x : am_X} {cc : ByteArray} {own : String} {n mc ms : Nat} (hC : am_C x cc own n mc ms) {pc k z : Nat} {h : am_H} {ls : List (Option Value)} {st : List Value} {y0 y1 y2 : Option Value} {tl : List (Option Value)} {v c0 : Int} (d : decode cc pc = .ok (.iinc 3 c0, 3)) (hp : am_n2 y2 = true) (kk : am_W x (pc + 3) k z h (y0 :: y1 :: y2 :: some (vI (v + c0)) :: tl) (st)) : am_W x (pc) k z h (y0 :: y1 :: y2 :: some (vI v) :: tl) (st) := by
  obtain ⟨p, l, e, R, s, m, args, below, meth, c, Q, g, nL⟩ := x
  obtain ⟨hx, hb, hml, hown, hts, hI, hlk, hR⟩ := hC
  intro H locs la hH hS hL
  have hlt : 3 < nL := by have := hL.2.1; simp at this; omega
  obtain ⟨la', e1, hL'⟩ := am_st1 (i := 3) (vI (v + c0)) hL hlt rfl (am_hp (i := 2) rfl hp)
  have hg : la[3]? = some (.val (.int (Int32.ofInt v))) := hL.2.2 3 _ rfl
  intro T hT X
  obtain ⟨t, a1, b1⟩ := kk H locs la' hH hS hL' T hT X
  refine ⟨t, ?_, b1⟩
  have e2 : storeLocals la 3 (.int (Int32.ofInt v + Int32.ofInt c0)) = some la' := by rw [← Int32.ofInt_add]; exact e1
  jvm_step X.here [X.here.top, ↓top_set X.here.top, hx, hb, d, hg, e2]
  exact a1

theorem am_iinc4 {x : am_X} {cc : ByteArray} {own : String} {n mc ms : Nat} (hC : am_C x cc own n mc ms) {pc k z : Nat} {h : am_H} {ls : List (Option Value)} {st : List Value} {y0 y1 y2 y3 : Option Value} {tl : List (Option Value)} {v c0 : Int} (d : decode cc pc = .ok (.iinc 4 c0, 3)) (hp : am_n2 y3 = true) (kk : am_W x (pc + 3) k z h (y0 :: y1 :: y2 :: y3 :: some (vI (v + c0)) :: tl) (st)) : am_W x (pc) k z h (y0 :: y1 :: y2 :: y3 :: some (vI v) :: tl) (st) := by
  obtain ⟨p, l, e, R, s, m, args, below, meth, c, Q, g, nL⟩ := x
  obtain ⟨hx, hb, hml, hown, hts, hI, hlk, hR⟩ := hC
  intro H locs la hH hS hL
  have hlt : 4 < nL := by have := hL.2.1; simp at this; omega
  obtain ⟨la', e1, hL'⟩ := am_st1 (i := 4) (vI (v + c0)) hL hlt rfl (am_hp (i := 3) rfl hp)
  have hg : la[4]? = some (.val (.int (Int32.ofInt v))) := hL.2.2 4 _ rfl
  intro T hT X
  obtain ⟨t, a1, b1⟩ := kk H locs la' hH hS hL' T hT X
  refine ⟨t, ?_, b1⟩
  have e2 : storeLocals la 4 (.int (Int32.ofInt v + Int32.ofInt c0)) = some la' := by rw [← Int32.ofInt_add]; exact e1
  jvm_step X.here [X.here.top, ↓top_set X.here.top, hx, hb, d, hg, e2]
  exact a1

theorem am_iinc5 {x : am_X} {cc : ByteArray} {own : String} {n mc ms : Nat} (hC : am_C x cc own n mc ms) {pc k z : Nat} {h : am_H} {ls : List (Option Value)} {st : List Value} {y0 y1 y2 y3 y4 : Option Value} {tl : List (Option Value)} {v c0 : Int} (d : decode cc pc = .ok (.iinc 5 c0, 3)) (hp : am_n2 y4 = true) (kk : am_W x (pc + 3) k z h (y0 :: y1 :: y2 :: y3 :: y4 :: some (vI (v + c0)) :: tl) (st)) : am_W x (pc) k z h (y0 :: y1 :: y2 :: y3 :: y4 :: some (vI v) :: tl) (st) := by
  obtain ⟨p, l, e, R, s, m, args, below, meth, c, Q, g, nL⟩ := x
  obtain ⟨hx, hb, hml, hown, hts, hI, hlk, hR⟩ := hC
  intro H locs la hH hS hL
  have hlt : 5 < nL := by have := hL.2.1; simp at this; omega
  obtain ⟨la', e1, hL'⟩ := am_st1 (i := 5) (vI (v + c0)) hL hlt rfl (am_hp (i := 4) rfl hp)
  have hg : la[5]? = some (.val (.int (Int32.ofInt v))) := hL.2.2 5 _ rfl
  intro T hT X
  obtain ⟨t, a1, b1⟩ := kk H locs la' hH hS hL' T hT X
  refine ⟨t, ?_, b1⟩
  have e2 : storeLocals la 5 (.int (Int32.ofInt v + Int32.ofInt c0)) = some la' := by rw [← Int32.ofInt_add]; exact e1
  jvm_step X.here [X.here.top, ↓top_set X.here.top, hx, hb, d, hg, e2]
  exact a1

theorem am_iinc6 {x : am_X} {cc : ByteArray} {own : String} {n mc ms : Nat} (hC : am_C x cc own n mc ms) {pc k z : Nat} {h : am_H} {ls : List (Option Value)} {st : List Value} {y0 y1 y2 y3 y4 y5 : Option Value} {tl : List (Option Value)} {v c0 : Int} (d : decode cc pc = .ok (.iinc 6 c0, 3)) (hp : am_n2 y5 = true) (kk : am_W x (pc + 3) k z h (y0 :: y1 :: y2 :: y3 :: y4 :: y5 :: some (vI (v + c0)) :: tl) (st)) : am_W x (pc) k z h (y0 :: y1 :: y2 :: y3 :: y4 :: y5 :: some (vI v) :: tl) (st) := by
  obtain ⟨p, l, e, R, s, m, args, below, meth, c, Q, g, nL⟩ := x
  obtain ⟨hx, hb, hml, hown, hts, hI, hlk, hR⟩ := hC
  intro H locs la hH hS hL
  have hlt : 6 < nL := by have := hL.2.1; simp at this; omega
  obtain ⟨la', e1, hL'⟩ := am_st1 (i := 6) (vI (v + c0)) hL hlt rfl (am_hp (i := 5) rfl hp)
  have hg : la[6]? = some (.val (.int (Int32.ofInt v))) := hL.2.2 6 _ rfl
  intro T hT X
  obtain ⟨t, a1, b1⟩ := kk H locs la' hH hS hL' T hT X
  refine ⟨t, ?_, b1⟩
  have e2 : storeLocals la 6 (.int (Int32.ofInt v + Int32.ofInt c0)) = some la' := by rw [← Int32.ofInt_add]; exact e1
  jvm_step X.here [X.here.top, ↓top_set X.here.top, hx, hb, d, hg, e2]
  exact a1

theorem am_iinc7 {x : am_X} {cc : ByteArray} {own : String} {n mc ms : Nat} (hC : am_C x cc own n mc ms) {pc k z : Nat} {h : am_H} {ls : List (Option Value)} {st : List Value} {y0 y1 y2 y3 y4 y5 y6 : Option Value} {tl : List (Option Value)} {v c0 : Int} (d : decode cc pc = .ok (.iinc 7 c0, 3)) (hp : am_n2 y6 = true) (kk : am_W x (pc + 3) k z h (y0 :: y1 :: y2 :: y3 :: y4 :: y5 :: y6 :: some (vI (v + c0)) :: tl) (st)) : am_W x (pc) k z h (y0 :: y1 :: y2 :: y3 :: y4 :: y5 :: y6 :: some (vI v) :: tl) (st) := by
  obtain ⟨p, l, e, R, s, m, args, below, meth, c, Q, g, nL⟩ := x
  obtain ⟨hx, hb, hml, hown, hts, hI, hlk, hR⟩ := hC
  intro H locs la hH hS hL
  have hlt : 7 < nL := by have := hL.2.1; simp at this; omega
  obtain ⟨la', e1, hL'⟩ := am_st1 (i := 7) (vI (v + c0)) hL hlt rfl (am_hp (i := 6) rfl hp)
  have hg : la[7]? = some (.val (.int (Int32.ofInt v))) := hL.2.2 7 _ rfl
  intro T hT X
  obtain ⟨t, a1, b1⟩ := kk H locs la' hH hS hL' T hT X
  refine ⟨t, ?_, b1⟩
  have e2 : storeLocals la 7 (.int (Int32.ofInt v + Int32.ofInt c0)) = some la' := by rw [← Int32.ofInt_add]; exact e1
  jvm_step X.here [X.here.top, ↓top_set X.here.top, hx, hb, d, hg, e2]
  exact a1

theorem am_iinc8 {x : am_X} {cc : ByteArray} {own : String} {n mc ms : Nat} (hC : am_C x cc own n mc ms) {pc k z : Nat} {h : am_H} {ls : List (Option Value)} {st : List Value} {y0 y1 y2 y3 y4 y5 y6 y7 : Option Value} {tl : List (Option Value)} {v c0 : Int} (d : decode cc pc = .ok (.iinc 8 c0, 3)) (hp : am_n2 y7 = true) (kk : am_W x (pc + 3) k z h (y0 :: y1 :: y2 :: y3 :: y4 :: y5 :: y6 :: y7 :: some (vI (v + c0)) :: tl) (st)) : am_W x (pc) k z h (y0 :: y1 :: y2 :: y3 :: y4 :: y5 :: y6 :: y7 :: some (vI v) :: tl) (st) := by
  obtain ⟨p, l, e, R, s, m, args, below, meth, c, Q, g, nL⟩ := x
  obtain ⟨hx, hb, hml, hown, hts, hI, hlk, hR⟩ := hC
  intro H locs la hH hS hL
  have hlt : 8 < nL := by have := hL.2.1; simp at this; omega
  obtain ⟨la', e1, hL'⟩ := am_st1 (i := 8) (vI (v + c0)) hL hlt rfl (am_hp (i := 7) rfl hp)
  have hg : la[8]? = some (.val (.int (Int32.ofInt v))) := hL.2.2 8 _ rfl
  intro T hT X
  obtain ⟨t, a1, b1⟩ := kk H locs la' hH hS hL' T hT X
  refine ⟨t, ?_, b1⟩
  have e2 : storeLocals la 8 (.int (Int32.ofInt v + Int32.ofInt c0)) = some la' := by rw [← Int32.ofInt_add]; exact e1
  jvm_step X.here [X.here.top, ↓top_set X.here.top, hx, hb, d, hg, e2]
  exact a1

theorem am_iinc9 {x : am_X} {cc : ByteArray} {own : String} {n mc ms : Nat} (hC : am_C x cc own n mc ms) {pc k z : Nat} {h : am_H} {ls : List (Option Value)} {st : List Value} {y0 y1 y2 y3 y4 y5 y6 y7 y8 : Option Value} {tl : List (Option Value)} {v c0 : Int} (d : decode cc pc = .ok (.iinc 9 c0, 3)) (hp : am_n2 y8 = true) (kk : am_W x (pc + 3) k z h (y0 :: y1 :: y2 :: y3 :: y4 :: y5 :: y6 :: y7 :: y8 :: some (vI (v + c0)) :: tl) (st)) : am_W x (pc) k z h (y0 :: y1 :: y2 :: y3 :: y4 :: y5 :: y6 :: y7 :: y8 :: some (vI v) :: tl) (st) := by
  obtain ⟨p, l, e, R, s, m, args, below, meth, c, Q, g, nL⟩ := x
  obtain ⟨hx, hb, hml, hown, hts, hI, hlk, hR⟩ := hC
  intro H locs la hH hS hL
  have hlt : 9 < nL := by have := hL.2.1; simp at this; omega
  obtain ⟨la', e1, hL'⟩ := am_st1 (i := 9) (vI (v + c0)) hL hlt rfl (am_hp (i := 8) rfl hp)
  have hg : la[9]? = some (.val (.int (Int32.ofInt v))) := hL.2.2 9 _ rfl
  intro T hT X
  obtain ⟨t, a1, b1⟩ := kk H locs la' hH hS hL' T hT X
  refine ⟨t, ?_, b1⟩
  have e2 : storeLocals la 9 (.int (Int32.ofInt v + Int32.ofInt c0)) = some la' := by rw [← Int32.ofInt_add]; exact e1
  jvm_step X.here [X.here.top, ↓top_set X.here.top, hx, hb, d, hg, e2]
  exact a1

theorem am_iinc10 {x : am_X} {cc : ByteArray} {own : String} {n mc ms : Nat} (hC : am_C x cc own n mc ms) {pc k z : Nat} {h : am_H} {ls : List (Option Value)} {st : List Value} {y0 y1 y2 y3 y4 y5 y6 y7 y8 y9 : Option Value} {tl : List (Option Value)} {v c0 : Int} (d : decode cc pc = .ok (.iinc 10 c0, 3)) (hp : am_n2 y9 = true) (kk : am_W x (pc + 3) k z h (y0 :: y1 :: y2 :: y3 :: y4 :: y5 :: y6 :: y7 :: y8 :: y9 :: some (vI (v + c0)) :: tl) (st)) : am_W x (pc) k z h (y0 :: y1 :: y2 :: y3 :: y4 :: y5 :: y6 :: y7 :: y8 :: y9 :: some (vI v) :: tl) (st) := by
  obtain ⟨p, l, e, R, s, m, args, below, meth, c, Q, g, nL⟩ := x
  obtain ⟨hx, hb, hml, hown, hts, hI, hlk, hR⟩ := hC
  intro H locs la hH hS hL
  have hlt : 10 < nL := by have := hL.2.1; simp at this; omega
  obtain ⟨la', e1, hL'⟩ := am_st1 (i := 10) (vI (v + c0)) hL hlt rfl (am_hp (i := 9) rfl hp)
  have hg : la[10]? = some (.val (.int (Int32.ofInt v))) := hL.2.2 10 _ rfl
  intro T hT X
  obtain ⟨t, a1, b1⟩ := kk H locs la' hH hS hL' T hT X
  refine ⟨t, ?_, b1⟩
  have e2 : storeLocals la 10 (.int (Int32.ofInt v + Int32.ofInt c0)) = some la' := by rw [← Int32.ofInt_add]; exact e1
  jvm_step X.here [X.here.top, ↓top_set X.here.top, hx, hb, d, hg, e2]
  exact a1

theorem am_iinc11 {x : am_X} {cc : ByteArray} {own : String} {n mc ms : Nat} (hC : am_C x cc own n mc ms) {pc k z : Nat} {h : am_H} {ls : List (Option Value)} {st : List Value} {y0 y1 y2 y3 y4 y5 y6 y7 y8 y9 y10 : Option Value} {tl : List (Option Value)} {v c0 : Int} (d : decode cc pc = .ok (.iinc 11 c0, 3)) (hp : am_n2 y10 = true) (kk : am_W x (pc + 3) k z h (y0 :: y1 :: y2 :: y3 :: y4 :: y5 :: y6 :: y7 :: y8 :: y9 :: y10 :: some (vI (v + c0)) :: tl) (st)) : am_W x (pc) k z h (y0 :: y1 :: y2 :: y3 :: y4 :: y5 :: y6 :: y7 :: y8 :: y9 :: y10 :: some (vI v) :: tl) (st) := by
  obtain ⟨p, l, e, R, s, m, args, below, meth, c, Q, g, nL⟩ := x
  obtain ⟨hx, hb, hml, hown, hts, hI, hlk, hR⟩ := hC
  intro H locs la hH hS hL
  have hlt : 11 < nL := by have := hL.2.1; simp at this; omega
  obtain ⟨la', e1, hL'⟩ := am_st1 (i := 11) (vI (v + c0)) hL hlt rfl (am_hp (i := 10) rfl hp)
  have hg : la[11]? = some (.val (.int (Int32.ofInt v))) := hL.2.2 11 _ rfl
  intro T hT X
  obtain ⟨t, a1, b1⟩ := kk H locs la' hH hS hL' T hT X
  refine ⟨t, ?_, b1⟩
  have e2 : storeLocals la 11 (.int (Int32.ofInt v + Int32.ofInt c0)) = some la' := by rw [← Int32.ofInt_add]; exact e1
  jvm_step X.here [X.here.top, ↓top_set X.here.top, hx, hb, d, hg, e2]
  exact a1

theorem am_iinc12 {x : am_X} {cc : ByteArray} {own : String} {n mc ms : Nat} (hC : am_C x cc own n mc ms) {pc k z : Nat} {h : am_H} {ls : List (Option Value)} {st : List Value} {y0 y1 y2 y3 y4 y5 y6 y7 y8 y9 y10 y11 : Option Value} {tl : List (Option Value)} {v c0 : Int} (d : decode cc pc = .ok (.iinc 12 c0, 3)) (hp : am_n2 y11 = true) (kk : am_W x (pc + 3) k z h (y0 :: y1 :: y2 :: y3 :: y4 :: y5 :: y6 :: y7 :: y8 :: y9 :: y10 :: y11 :: some (vI (v + c0)) :: tl) (st)) : am_W x (pc) k z h (y0 :: y1 :: y2 :: y3 :: y4 :: y5 :: y6 :: y7 :: y8 :: y9 :: y10 :: y11 :: some (vI v) :: tl) (st) := by
  obtain ⟨p, l, e, R, s, m, args, below, meth, c, Q, g, nL⟩ := x
  obtain ⟨hx, hb, hml, hown, hts, hI, hlk, hR⟩ := hC
  intro H locs la hH hS hL
  have hlt : 12 < nL := by have := hL.2.1; simp at this; omega
  obtain ⟨la', e1, hL'⟩ := am_st1 (i := 12) (vI (v + c0)) hL hlt rfl (am_hp (i := 11) rfl hp)
  have hg : la[12]? = some (.val (.int (Int32.ofInt v))) := hL.2.2 12 _ rfl
  intro T hT X
  obtain ⟨t, a1, b1⟩ := kk H locs la' hH hS hL' T hT X
  refine ⟨t, ?_, b1⟩
  have e2 : storeLocals la 12 (.int (Int32.ofInt v + Int32.ofInt c0)) = some la' := by rw [← Int32.ofInt_add]; exact e1
  jvm_step X.here [X.here.top, ↓top_set X.here.top, hx, hb, d, hg, e2]
  exact a1

theorem am_iinc13 {x : am_X} {cc : ByteArray} {own : String} {n mc ms : Nat} (hC : am_C x cc own n mc ms) {pc k z : Nat} {h : am_H} {ls : List (Option Value)} {st : List Value} {y0 y1 y2 y3 y4 y5 y6 y7 y8 y9 y10 y11 y12 : Option Value} {tl : List (Option Value)} {v c0 : Int} (d : decode cc pc = .ok (.iinc 13 c0, 3)) (hp : am_n2 y12 = true) (kk : am_W x (pc + 3) k z h (y0 :: y1 :: y2 :: y3 :: y4 :: y5 :: y6 :: y7 :: y8 :: y9 :: y10 :: y11 :: y12 :: some (vI (v + c0)) :: tl) (st)) : am_W x (pc) k z h (y0 :: y1 :: y2 :: y3 :: y4 :: y5 :: y6 :: y7 :: y8 :: y9 :: y10 :: y11 :: y12 :: some (vI v) :: tl) (st) := by
  obtain ⟨p, l, e, R, s, m, args, below, meth, c, Q, g, nL⟩ := x
  obtain ⟨hx, hb, hml, hown, hts, hI, hlk, hR⟩ := hC
  intro H locs la hH hS hL
  have hlt : 13 < nL := by have := hL.2.1; simp at this; omega
  obtain ⟨la', e1, hL'⟩ := am_st1 (i := 13) (vI (v + c0)) hL hlt rfl (am_hp (i := 12) rfl hp)
  have hg : la[13]? = some (.val (.int (Int32.ofInt v))) := hL.2.2 13 _ rfl
  intro T hT X
  obtain ⟨t, a1, b1⟩ := kk H locs la' hH hS hL' T hT X
  refine ⟨t, ?_, b1⟩
  have e2 : storeLocals la 13 (.int (Int32.ofInt v + Int32.ofInt c0)) = some la' := by rw [← Int32.ofInt_add]; exact e1
  jvm_step X.here [X.here.top, ↓top_set X.here.top, hx, hb, d, hg, e2]
  exact a1

theorem am_iinc14 {x : am_X} {cc : ByteArray} {own : String} {n mc ms : Nat} (hC : am_C x cc own n mc ms) {pc k z : Nat} {h : am_H} {ls : List (Option Value)} {st : List Value} {y0 y1 y2 y3 y4 y5 y6 y7 y8 y9 y10 y11 y12 y13 : Option Value} {tl : List (Option Value)} {v c0 : Int} (d : decode cc pc = .ok (.iinc 14 c0, 3)) (hp : am_n2 y13 = true) (kk : am_W x (pc + 3) k z h (y0 :: y1 :: y2 :: y3 :: y4 :: y5 :: y6 :: y7 :: y8 :: y9 :: y10 :: y11 :: y12 :: y13 :: some (vI (v + c0)) :: tl) (st)) : am_W x (pc) k z h (y0 :: y1 :: y2 :: y3 :: y4 :: y5 :: y6 :: y7 :: y8 :: y9 :: y10 :: y11 :: y12 :: y13 :: some (vI v) :: tl) (st) := by
  obtain ⟨p, l, e, R, s, m, args, below, meth, c, Q, g, nL⟩ := x
  obtain ⟨hx, hb, hml, hown, hts, hI, hlk, hR⟩ := hC
  intro H locs la hH hS hL
  have hlt : 14 < nL := by have := hL.2.1; simp at this; omega
  obtain ⟨la', e1, hL'⟩ := am_st1 (i := 14) (vI (v + c0)) hL hlt rfl (am_hp (i := 13) rfl hp)
  have hg : la[14]? = some (.val (.int (Int32.ofInt v))) := hL.2.2 14 _ rfl
  intro T hT X
  obtain ⟨t, a1, b1⟩ := kk H locs la' hH hS hL' T hT X
  refine ⟨t, ?_, b1⟩
  have e2 : storeLocals la 14 (.int (Int32.ofInt v + Int32.ofInt c0)) = some la' := by rw [← Int32.ofInt_add]; exact e1
  jvm_step X.here [X.here.top, ↓top_set X.here.top, hx, hb, d, hg, e2]
  exact a1

theorem am_iinc15 {x : am_X} {cc : ByteArray} {own : String} {n mc ms : Nat} (hC : am_C x cc own n mc ms) {pc k z : Nat} {h : am_H} {ls : List (Option Value)} {st : List Value} {y0 y1 y2 y3 y4 y5 y6 y7 y8 y9 y10 y11 y12 y13 y14 : Option Value} {tl : List (Option Value)} {v c0 : Int} (d : decode cc pc = .ok (.iinc 15 c0, 3)) (hp : am_n2 y14 = true) (kk : am_W x (pc + 3) k z h (y0 :: y1 :: y2 :: y3 :: y4 :: y5 :: y6 :: y7 :: y8 :: y9 :: y10 :: y11 :: y12 :: y13 :: y14 :: some (vI (v + c0)) :: tl) (st)) : am_W x (pc) k z h (y0 :: y1 :: y2 :: y3 :: y4 :: y5 :: y6 :: y7 :: y8 :: y9 :: y10 :: y11 :: y12 :: y13 :: y14 :: some (vI v) :: tl) (st) := by
  obtain ⟨p, l, e, R, s, m, args, below, meth, c, Q, g, nL⟩ := x
  obtain ⟨hx, hb, hml, hown, hts, hI, hlk, hR⟩ := hC
  intro H locs la hH hS hL
  have hlt : 15 < nL := by have := hL.2.1; simp at this; omega
  obtain ⟨la', e1, hL'⟩ := am_st1 (i := 15) (vI (v + c0)) hL hlt rfl (am_hp (i := 14) rfl hp)
  have hg : la[15]? = some (.val (.int (Int32.ofInt v))) := hL.2.2 15 _ rfl
  intro T hT X
  obtain ⟨t, a1, b1⟩ := kk H locs la' hH hS hL' T hT X
  refine ⟨t, ?_, b1⟩
  have e2 : storeLocals la 15 (.int (Int32.ofInt v + Int32.ofInt c0)) = some la' := by rw [← Int32.ofInt_add]; exact e1
  jvm_step X.here [X.here.top, ↓top_set X.here.top, hx, hb, d, hg, e2]
  exact a1

theorem am_iadd {x : am_X} {cc : ByteArray} {own : String} {n mc ms : Nat} (hC : am_C x cc own n mc ms) {pc k z : Nat} {h : am_H} {ls : List (Option Value)} {st : List Value} {a b : Int} (d : decode cc pc = .ok (.iadd, 1)) (kk : am_W x (pc + 1) k z h ls (vI (a + b) :: st)) : am_W x (pc) k z h ls (vI b :: vI a :: st) := by
  obtain ⟨p, l, e, R, s, m, args, below, meth, c, Q, g, nL⟩ := x
  obtain ⟨hx, hb, hml, hown, hts, hI, hlk, hR⟩ := hC
  intro H locs la hH hS hL
  have h1 := kk H locs la hH hS hL
  refine lv_iadd hx hb d ?_
  rw [← Int32.ofInt_add]
  exact h1

theorem am_isub {x : am_X} {cc : ByteArray} {own : String} {n mc ms : Nat} (hC : am_C x cc own n mc ms) {pc k z : Nat} {h : am_H} {ls : List (Option Value)} {st : List Value} {a b : Int} (d : decode cc pc = .ok (.isub, 1)) (kk : am_W x (pc + 1) k z h ls (vI (a - b) :: st)) : am_W x (pc) k z h ls (vI b :: vI a :: st) := by
  obtain ⟨p, l, e, R, s, m, args, below, meth, c, Q, g, nL⟩ := x
  obtain ⟨hx, hb, hml, hown, hts, hI, hlk, hR⟩ := hC
  intro H locs la hH hS hL
  have h1 := kk H locs la hH hS hL
  refine lv_isub hx hb d ?_
  rw [← Int32.ofInt_sub]
  exact h1

theorem am_imul {x : am_X} {cc : ByteArray} {own : String} {n mc ms : Nat} (hC : am_C x cc own n mc ms) {pc k z : Nat} {h : am_H} {ls : List (Option Value)} {st : List Value} {a b : Int} (d : decode cc pc = .ok (.imul, 1)) (kk : am_W x (pc + 1) k z h ls (vI (a * b) :: st)) : am_W x (pc) k z h ls (vI b :: vI a :: st) := by
  obtain ⟨p, l, e, R, s, m, args, below, meth, c, Q, g, nL⟩ := x
  obtain ⟨hx, hb, hml, hown, hts, hI, hlk, hR⟩ := hC
  intro H locs la hH hS hL
  have h1 := kk H locs la hH hS hL
  refine lv_imul hx hb d ?_
  rw [← Int32.ofInt_mul]
  exact h1

theorem am_ladd {x : am_X} {cc : ByteArray} {own : String} {n mc ms : Nat} (hC : am_C x cc own n mc ms) {pc k z : Nat} {h : am_H} {ls : List (Option Value)} {st : List Value} {a b : Int} (d : decode cc pc = .ok (.ladd, 1)) (kk : am_W x (pc + 1) k z h ls (vL (a + b) :: st)) : am_W x (pc) k z h ls (vL b :: vL a :: st) := by
  obtain ⟨p, l, e, R, s, m, args, below, meth, c, Q, g, nL⟩ := x
  obtain ⟨hx, hb, hml, hown, hts, hI, hlk, hR⟩ := hC
  intro H locs la hH hS hL
  have h1 := kk H locs la hH hS hL
  refine lv_ladd hx hb d ?_
  rw [← Int64.ofInt_add]
  exact h1

theorem am_lsub {x : am_X} {cc : ByteArray} {own : String} {n mc ms : Nat} (hC : am_C x cc own n mc ms) {pc k z : Nat} {h : am_H} {ls : List (Option Value)} {st : List Value} {a b : Int} (d : decode cc pc = .ok (.lsub, 1)) (kk : am_W x (pc + 1) k z h ls (vL (a - b) :: st)) : am_W x (pc) k z h ls (vL b :: vL a :: st) := by
  obtain ⟨p, l, e, R, s, m, args, below, meth, c, Q, g, nL⟩ := x
  obtain ⟨hx, hb, hml, hown, hts, hI, hlk, hR⟩ := hC
  intro H locs la hH hS hL
  have h1 := kk H locs la hH hS hL
  refine lv_lsub hx hb d ?_
  rw [← Int64.ofInt_sub]
  exact h1

theorem am_lmul {x : am_X} {cc : ByteArray} {own : String} {n mc ms : Nat} (hC : am_C x cc own n mc ms) {pc k z : Nat} {h : am_H} {ls : List (Option Value)} {st : List Value} {a b : Int} (d : decode cc pc = .ok (.lmul, 1)) (kk : am_W x (pc + 1) k z h ls (vL (a * b) :: st)) : am_W x (pc) k z h ls (vL b :: vL a :: st) := by
  obtain ⟨p, l, e, R, s, m, args, below, meth, c, Q, g, nL⟩ := x
  obtain ⟨hx, hb, hml, hown, hts, hI, hlk, hR⟩ := hC
  intro H locs la hH hS hL
  have h1 := kk H locs la hH hS hL
  refine lv_lmul hx hb d ?_
  rw [← Int64.ofInt_mul]
  exact h1

theorem am_lneg {x : am_X} {cc : ByteArray} {own : String} {n mc ms : Nat} (hC : am_C x cc own n mc ms) {pc k z : Nat} {h : am_H} {ls : List (Option Value)} {st : List Value} {a : Int} (d : decode cc pc = .ok (.lneg, 1)) (kk : am_W x (pc + 1) k z h ls (vL (-a) :: st)) : am_W x (pc) k z h ls (vL a :: st) := by
  obtain ⟨p, l, e, R, s, m, args, below, meth, c, Q, g, nL⟩ := x
  obtain ⟨hx, hb, hml, hown, hts, hI, hlk, hR⟩ := hC
  intro H locs la hH hS hL
  have h1 := kk H locs la hH hS hL
  refine lv_lneg hx hb d ?_
  rw [← Int64.ofInt_neg]
  exact h1

theorem am_ineg {x : am_X} {cc : ByteArray} {own : String} {n mc ms : Nat} (hC : am_C x cc own n mc ms) {pc k z : Nat} {h : am_H} {ls : List (Option Value)} {st : List Value} {a : Int} (d : decode cc pc = .ok (.ineg, 1)) (kk : am_W x (pc + 1) k z h ls (vI (-a) :: st)) : am_W x (pc) k z h ls (vI a :: st) := by
  obtain ⟨p, l, e, R, s, m, args, below, meth, c, Q, g, nL⟩ := x
  obtain ⟨hx, hb, hml, hown, hts, hI, hlk, hR⟩ := hC
  intro H locs la hH hS hL
  have h1 := kk H locs la hH hS hL
  refine lv_ineg hx hb d ?_
  rw [← Int32.ofInt_neg]
  exact h1

theorem am_idiv {x : am_X} {cc : ByteArray} {own : String} {n mc ms : Nat} (hC : am_C x cc own n mc ms) {pc k z : Nat} {h : am_H} {ls : List (Option Value)} {st : List Value} {a b : Int} (d : decode cc pc = .ok (.idiv, 1)) (ha : -2147483648 ≤ a ∧ a ≤ 2147483647) (hb2 : -2147483648 ≤ b ∧ b ≤ 2147483647) (h0 : b ≠ 0) (kk : am_W x (pc + 1) k z h ls (vI (a.tdiv b) :: st)) : am_W x (pc) k z h ls (vI b :: vI a :: st) := by
  obtain ⟨p, l, e, R, s, m, args, below, meth, c, Q, g, nL⟩ := x
  obtain ⟨hx, hb, hml, hown, hts, hI, hlk, hR⟩ := hC
  intro H locs la hH hS hL
  have h1 := kk H locs la hH hS hL
  refine lv_idiv hx hb d (fun q => h0 ((am_eq32 hb2 (by omega)).mp q)) ?_
  rw [show Int32.ofInt a / Int32.ofInt b = Int32.ofInt (a.tdiv b) from (Int32.ofInt_tdiv (am_mn32 ha) (am_mx32 ha) (am_mn32 hb2) (am_mx32 hb2)).symm]
  exact h1

theorem am_ldiv {x : am_X} {cc : ByteArray} {own : String} {n mc ms : Nat} (hC : am_C x cc own n mc ms) {pc k z : Nat} {h : am_H} {ls : List (Option Value)} {st : List Value} {a b : Int} (d : decode cc pc = .ok (.ldiv, 1)) (ha : -9223372036854775808 ≤ a ∧ a ≤ 9223372036854775807) (hb2 : -9223372036854775808 ≤ b ∧ b ≤ 9223372036854775807) (h0 : b ≠ 0) (kk : am_W x (pc + 1) k z h ls (vL (a.tdiv b) :: st)) : am_W x (pc) k z h ls (vL b :: vL a :: st) := by
  obtain ⟨p, l, e, R, s, m, args, below, meth, c, Q, g, nL⟩ := x
  obtain ⟨hx, hb, hml, hown, hts, hI, hlk, hR⟩ := hC
  intro H locs la hH hS hL
  have h1 := kk H locs la hH hS hL
  refine lv_ldiv hx hb d (fun q => h0 ((am_eq64 hb2 (by omega)).mp q)) ?_
  rw [show Int64.ofInt a / Int64.ofInt b = Int64.ofInt (a.tdiv b) from (Int64.ofInt_tdiv (am_mn64 ha) (am_mx64 ha) (am_mn64 hb2) (am_mx64 hb2)).symm]
  exact h1

theorem am_irem {x : am_X} {cc : ByteArray} {own : String} {n mc ms : Nat} (hC : am_C x cc own n mc ms) {pc k z : Nat} {h : am_H} {ls : List (Option Value)} {st : List Value} {a b : Int} (d : decode cc pc = .ok (.irem, 1)) (ha : -2147483648 ≤ a ∧ a ≤ 2147483647) (hb2 : -2147483648 ≤ b ∧ b ≤ 2147483647) (h0 : b ≠ 0) (kk : am_W x (pc + 1) k z h ls (vI (a.tmod b) :: st)) : am_W x (pc) k z h ls (vI b :: vI a :: st) := by
  obtain ⟨p, l, e, R, s, m, args, below, meth, c, Q, g, nL⟩ := x
  obtain ⟨hx, hb, hml, hown, hts, hI, hlk, hR⟩ := hC
  intro H locs la hH hS hL
  have h1 := kk H locs la hH hS hL
  refine lv_irem hx hb d (fun q => h0 ((am_eq32 hb2 (by omega)).mp q)) ?_
  rw [show Int32.ofInt a / Int32.ofInt b = Int32.ofInt (a.tdiv b) from (Int32.ofInt_tdiv (am_mn32 ha) (am_mx32 ha) (am_mn32 hb2) (am_mx32 hb2)).symm, ← Int32.ofInt_mul, ← Int32.ofInt_sub, show a - a.tdiv b * b = a.tmod b by rw [Int.mul_comm, Int.tmod_def]]
  exact h1

theorem am_lrem {x : am_X} {cc : ByteArray} {own : String} {n mc ms : Nat} (hC : am_C x cc own n mc ms) {pc k z : Nat} {h : am_H} {ls : List (Option Value)} {st : List Value} {a b : Int} (d : decode cc pc = .ok (.lrem, 1)) (ha : -9223372036854775808 ≤ a ∧ a ≤ 9223372036854775807) (hb2 : -9223372036854775808 ≤ b ∧ b ≤ 9223372036854775807) (h0 : b ≠ 0) (kk : am_W x (pc + 1) k z h ls (vL (a.tmod b) :: st)) : am_W x (pc) k z h ls (vL b :: vL a :: st) := by
  obtain ⟨p, l, e, R, s, m, args, below, meth, c, Q, g, nL⟩ := x
  obtain ⟨hx, hb, hml, hown, hts, hI, hlk, hR⟩ := hC
  intro H locs la hH hS hL
  have h1 := kk H locs la hH hS hL
  refine lv_lrem hx hb d (fun q => h0 ((am_eq64 hb2 (by omega)).mp q)) ?_
  rw [show Int64.ofInt a / Int64.ofInt b = Int64.ofInt (a.tdiv b) from (Int64.ofInt_tdiv (am_mn64 ha) (am_mx64 ha) (am_mn64 hb2) (am_mx64 hb2)).symm, ← Int64.ofInt_mul, ← Int64.ofInt_sub, show a - a.tdiv b * b = a.tmod b by rw [Int.mul_comm, Int.tmod_def]]
  exact h1

theorem am_bv32 (a : Int) : (Int32.ofInt a).toBitVec = BitVec.ofInt 32 a := rfl
theorem am_bv64 (a : Int) : (Int64.ofInt a).toBitVec = BitVec.ofInt 64 a := rfl
theorem am_bvmask (n : Nat) (a : Int) (j : Nat) (hj : j ≤ n) : BitVec.ofInt n a &&& BitVec.ofInt n (2 ^ j - 1) = BitVec.ofInt n (a % 2 ^ j) := by
  have h2 : (0 : Int) < 2 ^ n := by exact_mod_cast Nat.two_pow_pos n
  have hj2 : (0 : Int) < 2 ^ j := by exact_mod_cast Nat.two_pow_pos j
  have hle : (2 : Int) ^ j ≤ 2 ^ n := by exact_mod_cast Nat.pow_le_pow_right (by omega) hj
  apply BitVec.eq_of_toNat_eq
  rw [BitVec.toNat_and, BitVec.toNat_ofInt, BitVec.toNat_ofInt, BitVec.toNat_ofInt]
  have e1 : ((2 ^ j - 1 : Int) % ((2 ^ n : Nat) : Int)).toNat = 2 ^ j - 1 := by
    have e0 : ((2 ^ n : Nat) : Int) = 2 ^ n := by push_cast; rfl
    rw [e0, Int.emod_eq_of_lt (by omega) (by omega)]
    have : ((2 ^ j : Nat) : Int) = 2 ^ j := by push_cast; rfl
    omega
  rw [e1, Nat.and_two_pow_sub_one_eq_mod]
  have e0 : ((2 ^ n : Nat) : Int) = 2 ^ n := by push_cast; rfl
  have ej : ((2 ^ j : Nat) : Int) = 2 ^ j := by push_cast; rfl
  rw [e0]
  have h3 : 0 ≤ a % 2 ^ n := Int.emod_nonneg _ (by omega)
  have h4 : 0 ≤ a % 2 ^ j := Int.emod_nonneg _ (by omega)
  have h5 : a % 2 ^ j < 2 ^ j := Int.emod_lt_of_pos _ hj2
  rw [Int.emod_eq_of_lt h4 (by omega)]
  apply Int.ofNat.inj
  show ((_ : Nat) : Int) = ((_ : Nat) : Int)
  rw [Int.natCast_emod, Int.toNat_of_nonneg h3, Int.toNat_of_nonneg h4, ej]
  exact Int.emod_emod_of_dvd a (by exact_mod_cast Nat.pow_dvd_pow 2 hj)
theorem am_mask32 (a : Int) (j : Nat) (hj : j ≤ 32) : Int32.ofInt a &&& Int32.ofInt (2 ^ j - 1) = Int32.ofInt (a % 2 ^ j) := by
  apply Int32.toBitVec_inj.mp
  rw [Int32.toBitVec_and]
  exact am_bvmask 32 a j hj
theorem am_mask64 (a : Int) (j : Nat) (hj : j ≤ 64) : Int64.ofInt a &&& Int64.ofInt (2 ^ j - 1) = Int64.ofInt (a % 2 ^ j) := by
  apply Int64.toBitVec_inj.mp
  rw [Int64.toBitVec_and]
  exact am_bvmask 64 a j hj

theorem am_iand {x : am_X} {cc : ByteArray} {own : String} {n mc ms : Nat} (hC : am_C x cc own n mc ms) {pc k z : Nat} {h : am_H} {ls : List (Option Value)} {st : List Value} {a b : Int} (j : Nat) (b2 : Int) (d : decode cc pc = .ok (.iand, 1)) (hj : j ≤ 32) (hm : b = 2 ^ j - 1) (hm2 : b2 = 2 ^ j) (kk : am_W x (pc + 1) k z h ls (vI (a % b2) :: st)) : am_W x (pc) k z h ls (vI b :: vI a :: st) := by
  obtain ⟨p, l, e, R, s, m, args, below, meth, c, Q, g, nL⟩ := x
  obtain ⟨hx, hb, hml, hown, hts, hI, hlk, hR⟩ := hC
  intro H locs la hH hS hL
  subst hm
  subst hm2
  have h1 := kk H locs la hH hS hL
  refine lv_iand hx hb d ?_
  rw [am_mask32 a j hj]
  exact h1

theorem am_land {x : am_X} {cc : ByteArray} {own : String} {n mc ms : Nat} (hC : am_C x cc own n mc ms) {pc k z : Nat} {h : am_H} {ls : List (Option Value)} {st : List Value} {a b : Int} (j : Nat) (b2 : Int) (d : decode cc pc = .ok (.land, 1)) (hj : j ≤ 64) (hm : b = 2 ^ j - 1) (hm2 : b2 = 2 ^ j) (kk : am_W x (pc + 1) k z h ls (vL (a % b2) :: st)) : am_W x (pc) k z h ls (vL b :: vL a :: st) := by
  obtain ⟨p, l, e, R, s, m, args, below, meth, c, Q, g, nL⟩ := x
  obtain ⟨hx, hb, hml, hown, hts, hI, hlk, hR⟩ := hC
  intro H locs la hH hS hL
  subst hm
  subst hm2
  have h1 := kk H locs la hH hS hL
  refine lv_land hx hb d ?_
  rw [am_mask64 a j hj]
  exact h1

theorem am_bvor (n : Nat) (a b : Int) (j : Nat) (hj : j ≤ n) (ha : 0 ≤ a ∧ a < 2 ^ j) (hb : b % 2 ^ j = 0) : BitVec.ofInt n a ||| BitVec.ofInt n b = BitVec.ofInt n (a + b) := by
  have hn : (0 : Int) < 2 ^ n := by exact_mod_cast Nat.two_pow_pos n
  have hj2 : (0 : Int) < 2 ^ j := by exact_mod_cast Nat.two_pow_pos j
  have hle : (2 : Int) ^ j ≤ 2 ^ n := by exact_mod_cast Nat.pow_le_pow_right (by omega) hj
  have hd : (2 : Int) ^ j ∣ 2 ^ n := by exact_mod_cast Nat.pow_dvd_pow 2 hj
  have e0 : ((2 ^ n : Nat) : Int) = 2 ^ n := by push_cast; rfl
  have ej : ((2 ^ j : Nat) : Int) = 2 ^ j := by push_cast; rfl
  rw [← BitVec.add_eq_or_of_and_eq_zero, ← BitVec.ofInt_add]
  apply BitVec.eq_of_toNat_eq
  rw [BitVec.toNat_and, BitVec.toNat_ofInt, BitVec.toNat_ofInt, e0, BitVec.toNat_ofNat, Nat.zero_mod]
  apply Nat.eq_of_testBit_eq
  intro i
  rw [Nat.testBit_and, Nat.zero_testBit]
  have h3 : 0 ≤ b % 2 ^ n := Int.emod_nonneg _ (by omega)
  by_cases hi : i < j
  · have h4 : (b % 2 ^ n).toNat % 2 ^ j = 0 := by
      apply Int.ofNat.inj
      show ((_ : Nat) : Int) = ((_ : Nat) : Int)
      rw [Int.natCast_emod, Int.toNat_of_nonneg h3, ej, Int.emod_emod_of_dvd b hd, hb]
      rfl
    have h5 : ((b % 2 ^ n).toNat % 2 ^ j).testBit i = (b % 2 ^ n).toNat.testBit i := by rw [Nat.testBit_mod_two_pow]; simp [hi]
    rw [h4, Nat.zero_testBit] at h5
    rw [← h5, Bool.and_false]
  · have h6 : (a % 2 ^ n).toNat < 2 ^ i := by
      rw [Int.emod_eq_of_lt ha.1 (by omega)]
      have h7 : a.toNat < 2 ^ j := by omega
      exact Nat.lt_of_lt_of_le h7 (Nat.pow_le_pow_right (by omega) (by omega))
    rw [Nat.testBit_lt_two_pow h6, Bool.false_and]
theorem am_or32 {a b : Int} (j : Nat) (hj : j ≤ 32) (ha : 0 ≤ a ∧ a < 2 ^ j) (hb : b % 2 ^ j = 0) : Int32.ofInt a ||| Int32.ofInt b = Int32.ofInt (a + b) := by
  apply Int32.toBitVec_inj.mp
  rw [Int32.toBitVec_or]
  exact am_bvor 32 a b j hj ha hb
theorem am_or64 {a b : Int} (j : Nat) (hj : j ≤ 64) (ha : 0 ≤ a ∧ a < 2 ^ j) (hb : b % 2 ^ j = 0) : Int64.ofInt a ||| Int64.ofInt b = Int64.ofInt (a + b) := by
  apply Int64.toBitVec_inj.mp
  rw [Int64.toBitVec_or]
  exact am_bvor 64 a b j hj ha hb
theorem am_or64' {a b : Int} (j : Nat) (hj : j ≤ 64) (ha : 0 ≤ a ∧ a < 2 ^ j) (hb : b % 2 ^ j = 0) : Int64.ofInt b ||| Int64.ofInt a = Int64.ofInt (b + a) := by
  have e : Int64.ofInt b ||| Int64.ofInt a = Int64.ofInt a ||| Int64.ofInt b := Int64.or_comm _ _
  rw [e, am_or64 j hj ha hb, Int.add_comm]

theorem am_ior {x : am_X} {cc : ByteArray} {own : String} {n mc ms : Nat} (hC : am_C x cc own n mc ms) {pc k z : Nat} {h : am_H} {ls : List (Option Value)} {st : List Value} {a b : Int} (j : Nat) (d : decode cc pc = .ok (.ior, 1)) (hj : j ≤ 32) (ha : 0 ≤ a ∧ a < 2 ^ j) (hb2 : b % 2 ^ j = 0) (kk : am_W x (pc + 1) k z h ls (vI (a + b) :: st)) : am_W x (pc) k z h ls (vI b :: vI a :: st) := by
  obtain ⟨p, l, e, R, s, m, args, below, meth, c, Q, g, nL⟩ := x
  obtain ⟨hx, hb, hml, hown, hts, hI, hlk, hR⟩ := hC
  intro H locs la hH hS hL
  have h1 := kk H locs la hH hS hL
  refine lv_ior hx hb d ?_
  rw [am_or32 j hj ha hb2]
  exact h1

theorem am_lor {x : am_X} {cc : ByteArray} {own : String} {n mc ms : Nat} (hC : am_C x cc own n mc ms) {pc k z : Nat} {h : am_H} {ls : List (Option Value)} {st : List Value} {a b : Int} (j : Nat) (d : decode cc pc = .ok (.lor, 1)) (hj : j ≤ 64) (ha : 0 ≤ a ∧ a < 2 ^ j) (hb2 : b % 2 ^ j = 0) (kk : am_W x (pc + 1) k z h ls (vL (a + b) :: st)) : am_W x (pc) k z h ls (vL b :: vL a :: st) := by
  obtain ⟨p, l, e, R, s, m, args, below, meth, c, Q, g, nL⟩ := x
  obtain ⟨hx, hb, hml, hown, hts, hI, hlk, hR⟩ := hC
  intro H locs la hH hS hL
  have h1 := kk H locs la hH hS hL
  refine lv_lor hx hb d ?_
  rw [am_or64 j hj ha hb2]
  exact h1

theorem am_lor2 {x : am_X} {cc : ByteArray} {own : String} {n mc ms : Nat} (hC : am_C x cc own n mc ms) {pc k z : Nat} {h : am_H} {ls : List (Option Value)} {st : List Value} {a b : Int} (j : Nat) (d : decode cc pc = .ok (.lor, 1)) (hj : j ≤ 64) (ha : 0 ≤ a ∧ a < 2 ^ j) (hb2 : b % 2 ^ j = 0) (kk : am_W x (pc + 1) k z h ls (vL (b + a) :: st)) : am_W x (pc) k z h ls (vL a :: vL b :: st) := by
  obtain ⟨p, l, e, R, s, m, args, below, meth, c, Q, g, nL⟩ := x
  obtain ⟨hx, hb, hml, hown, hts, hI, hlk, hR⟩ := hC
  intro H locs la hH hS hL
  have h1 := kk H locs la hH hS hL
  refine lv_lor hx hb d ?_
  rw [am_or64' j hj ha hb2]
  exact h1

theorem am_smod32 {s : Int} {j : Nat} (hs : s = j) (hj : j < 32) : ((Int32.ofInt s).toBitVec.smod 32).toNat = j := by
  subst hs
  have : ∀ j : Fin 32, ((Int32.ofInt ((j : Nat) : Int)).toBitVec.smod 32).toNat = (j : Nat) := by decide +kernel
  exact this ⟨j, hj⟩
theorem am_l31 {s : Int} {j : Nat} (hs : s = j) (hj : j < 32) : (Int32.ofInt s &&& 31) = Int32.ofInt (j : Int) := by
  subst hs
  have : ∀ j : Fin 32, (Int32.ofInt ((j : Nat) : Int) &&& 31) = Int32.ofInt ((j : Nat) : Int) := by decide +kernel
  exact this ⟨j, hj⟩
theorem am_l63 {s : Int} {j : Nat} (hs : s = j) (hj : j < 64) : ((Int32.ofInt s).toInt64 &&& 63) = Int64.ofInt (j : Int) := by
  subst hs
  have : ∀ j : Fin 64, ((Int32.ofInt ((j : Nat) : Int)).toInt64 &&& 63) = Int64.ofInt ((j : Nat) : Int) := by decide +kernel
  exact this ⟨j, hj⟩
theorem am_smod64 {j : Nat} (hj : j < 64) : ((Int64.ofInt (j : Int)).toBitVec.smod 64).toNat = j := by
  have : ∀ j : Fin 64, ((Int64.ofInt ((j : Nat) : Int)).toBitVec.smod 64).toNat = (j : Nat) := by decide +kernel
  exact this ⟨j, hj⟩
theorem am_bvshl (n : Nat) (a : Int) (j : Nat) : BitVec.ofInt n a <<< j = BitVec.ofInt n (a * 2 ^ j) := by
  rw [BitVec.shiftLeft_eq_mul_twoPow, BitVec.ofInt_mul]
  congr 1
  apply BitVec.eq_of_toNat_eq
  rw [BitVec.toNat_twoPow, BitVec.toNat_ofInt]
  have ej : ((2 ^ j : Nat) : Int) = 2 ^ j := by push_cast; rfl
  rw [← ej, ← Int.natCast_emod, Int.toNat_natCast]
theorem am_bvsshr {n : Nat} (a : Int) (j : Nat) (h : (BitVec.ofInt n a).toInt = a) (h2 : (BitVec.ofInt n (a / 2 ^ j)).toInt = a / 2 ^ j) : (BitVec.ofInt n a).sshiftRight j = BitVec.ofInt n (a / 2 ^ j) := by
  apply BitVec.eq_of_toInt_eq
  rw [BitVec.toInt_sshiftRight, h, h2, Int.shiftRight_eq_div_pow]
  push_cast
  rfl
theorem am_divr {a : Int} (j : Nat) {M : Int} (h : -M ≤ a ∧ a ≤ M - 1) : -M ≤ a / 2 ^ j ∧ a / 2 ^ j ≤ M - 1 := by
  have hj2 : (1 : Int) ≤ 2 ^ j := by exact_mod_cast Nat.two_pow_pos j
  have h1 : (2 : Int) ^ j * (a / 2 ^ j) ≤ a := Int.mul_ediv_self_le (by omega)
  have h2 : a < 2 ^ j * (a / 2 ^ j) + 2 ^ j := Int.lt_mul_ediv_self_add (by omega)
  generalize a / 2 ^ j = q at h1 h2
  generalize (2 : Int) ^ j = t at *
  constructor
  · rcases Int.lt_or_le q (-M) with c | c
    · exfalso
      have c1 : q + 1 ≤ -M := by omega
      by_cases hM : 0 ≤ M
      · have h3 : t * (q + 1) ≤ t * (-M) := Int.mul_le_mul_of_nonneg_left c1 (by omega)
        have h4 : t * (-M) ≤ 1 * (-M) := by
          rw [Int.mul_neg, Int.mul_neg]
          have := Int.mul_le_mul_of_nonneg_right hj2 hM
          omega
        rw [Int.mul_add] at h3
        omega
      · omega
    · exact c
  · rcases Int.lt_or_le (M - 1) q with c | c
    · exfalso
      by_cases hM : 0 ≤ M
      · have h3 : t * M ≤ t * q := Int.mul_le_mul_of_nonneg_left (by omega) (by omega)
        have h4 : 1 * M ≤ t * M := Int.mul_le_mul_of_nonneg_right hj2 hM
        omega
      · omega
    · exact c

theorem am_ishl {x : am_X} {cc : ByteArray} {own : String} {n mc ms : Nat} (hC : am_C x cc own n mc ms) {pc k z : Nat} {h : am_H} {ls : List (Option Value)} {st : List Value} {a s0 : Int} (j : Nat) (d : decode cc pc = .ok (.ishl, 1)) (hs : s0 = j) (hj : j < 32) (kk : am_W x (pc + 1) k z h ls (vI (a * 2 ^ j) :: st)) : am_W x (pc) k z h ls (vI s0 :: vI a :: st) := by
  obtain ⟨p, l, e, R, s, m, args, below, meth, c, Q, g, nL⟩ := x
  obtain ⟨hx, hb, hml, hown, hts, hI, hlk, hR⟩ := hC
  intro H locs la hH hS hL
  have h1 := kk H locs la hH hS hL
  refine lv_ishl hx hb d ?_
  rw [am_l31 hs hj, show Int32.ofInt a <<< Int32.ofInt (j : Int) = Int32.ofInt (a * 2 ^ j) from by
    apply Int32.toBitVec_inj.mp
    rw [Int32.toBitVec_shiftLeft, BitVec.shiftLeft_eq', am_smod32 rfl hj]
    exact am_bvshl 32 a j]
  exact h1

theorem am_lshl {x : am_X} {cc : ByteArray} {own : String} {n mc ms : Nat} (hC : am_C x cc own n mc ms) {pc k z : Nat} {h : am_H} {ls : List (Option Value)} {st : List Value} {a s0 : Int} (j : Nat) (d : decode cc pc = .ok (.lshl, 1)) (hs : s0 = j) (hj : j < 64) (kk : am_W x (pc + 1) k z h ls (vL (a * 2 ^ j) :: st)) : am_W x (pc) k z h ls (vI s0 :: vL a :: st) := by
  obtain ⟨p, l, e, R, s, m, args, below, meth, c, Q, g, nL⟩ := x
  obtain ⟨hx, hb, hml, hown, hts, hI, hlk, hR⟩ := hC
  intro H locs la hH hS hL
  have h1 := kk H locs la hH hS hL
  refine lv_lshl hx hb d (v := Int64.ofInt (a * 2 ^ j)) ?_ h1
  rw [am_l63 hs hj]
  apply Int64.toBitVec_inj.mp
  rw [Int64.toBitVec_shiftLeft, BitVec.shiftLeft_eq', am_smod64 hj]
  exact am_bvshl 64 a j

theorem am_ishr {x : am_X} {cc : ByteArray} {own : String} {n mc ms : Nat} (hC : am_C x cc own n mc ms) {pc k z : Nat} {h : am_H} {ls : List (Option Value)} {st : List Value} {a s0 : Int} (j : Nat) (d : decode cc pc = .ok (.ishr, 1)) (ha : -2147483648 ≤ a ∧ a ≤ 2147483647) (hs : s0 = j) (hj : j < 32) (kk : am_W x (pc + 1) k z h ls (vI (a / 2 ^ j) :: st)) : am_W x (pc) k z h ls (vI s0 :: vI a :: st) := by
  obtain ⟨p, l, e, R, s, m, args, below, meth, c, Q, g, nL⟩ := x
  obtain ⟨hx, hb, hml, hown, hts, hI, hlk, hR⟩ := hC
  intro H locs la hH hS hL
  have h1 := kk H locs la hH hS hL
  have h2 := am_divr j (M := 2147483648) (a := a) (by omega)
  refine lv_ishr hx hb d ?_
  rw [am_l31 hs hj, show Int32.ofInt a >>> Int32.ofInt (j : Int) = Int32.ofInt (a / 2 ^ j) from by
    apply Int32.toBitVec_inj.mp
    rw [Int32.toBitVec_shiftRight, BitVec.sshiftRight_eq', am_smod32 rfl hj]
    exact am_bvsshr a j (am_t32 ha) (am_t32 (by omega))]
  exact h1

theorem am_lshr {x : am_X} {cc : ByteArray} {own : String} {n mc ms : Nat} (hC : am_C x cc own n mc ms) {pc k z : Nat} {h : am_H} {ls : List (Option Value)} {st : List Value} {a s0 : Int} (j : Nat) (d : decode cc pc = .ok (.lshr, 1)) (ha : -9223372036854775808 ≤ a ∧ a ≤ 9223372036854775807) (hs : s0 = j) (hj : j < 64) (kk : am_W x (pc + 1) k z h ls (vL (a / 2 ^ j) :: st)) : am_W x (pc) k z h ls (vI s0 :: vL a :: st) := by
  obtain ⟨p, l, e, R, s, m, args, below, meth, c, Q, g, nL⟩ := x
  obtain ⟨hx, hb, hml, hown, hts, hI, hlk, hR⟩ := hC
  intro H locs la hH hS hL
  have h1 := kk H locs la hH hS hL
  have h2 := am_divr j (M := 9223372036854775808) (a := a) (by omega)
  refine lv_lshr hx hb d (v := Int64.ofInt (a / 2 ^ j)) ?_ h1
  rw [am_l63 hs hj]
  apply Int64.toBitVec_inj.mp
  rw [Int64.toBitVec_shiftRight, BitVec.sshiftRight_eq', am_smod64 hj]
  exact am_bvsshr a j (am_t64 ha) (am_t64 (by omega))

theorem am_i2l {x : am_X} {cc : ByteArray} {own : String} {n mc ms : Nat} (hC : am_C x cc own n mc ms) {pc k z : Nat} {h : am_H} {ls : List (Option Value)} {st : List Value} {a : Int} (d : decode cc pc = .ok (.i2l, 1)) (ha : -2147483648 ≤ a ∧ a ≤ 2147483647) (kk : am_W x (pc + 1) k z h ls (vL a :: st)) : am_W x (pc) k z h ls (vI a :: st) := by
  obtain ⟨p, l, e, R, s, m, args, below, meth, c, Q, g, nL⟩ := x
  obtain ⟨hx, hb, hml, hown, hts, hI, hlk, hR⟩ := hC
  intro H locs la hH hS hL
  have h1 := kk H locs la hH hS hL
  refine lv_i2l hx hb d (v := Int64.ofInt a) ?_ h1
  apply Int64.toInt_inj.mp
  rw [Int32.toInt_toInt64, am_t32 ha, am_t64 (by omega)]

theorem am_l2i {x : am_X} {cc : ByteArray} {own : String} {n mc ms : Nat} (hC : am_C x cc own n mc ms) {pc k z : Nat} {h : am_H} {ls : List (Option Value)} {st : List Value} {a : Int} (d : decode cc pc = .ok (.l2i, 1)) (kk : am_W x (pc + 1) k z h ls (vI a :: st)) : am_W x (pc) k z h ls (vL a :: st) := by
  obtain ⟨p, l, e, R, s, m, args, below, meth, c, Q, g, nL⟩ := x
  obtain ⟨hx, hb, hml, hown, hts, hI, hlk, hR⟩ := hC
  intro H locs la hH hS hL
  have h1 := kk H locs la hH hS hL
  refine lv_l2i hx hb d (v := Int32.ofInt a) ?_ h1
  exact Int64.toInt32_ofInt

theorem am_dup {x : am_X} {cc : ByteArray} {own : String} {n mc ms : Nat} (hC : am_C x cc own n mc ms) {pc k z : Nat} {h : am_H} {ls : List (Option Value)} {st : List Value} {v : Value} (d : decode cc pc = .ok (.dup, 1)) (hv : v.category = 1) (kk : am_W x (pc + 1) k z h ls (v :: v :: st)) : am_W x (pc) k z h ls (v :: st) := by
  obtain ⟨p, l, e, R, s, m, args, below, meth, c, Q, g, nL⟩ := x
  obtain ⟨hx, hb, hml, hown, hts, hI, hlk, hR⟩ := hC
  intro H locs la hH hS hL
  exact lv_dup hx hb d (by rw [am_cat]; exact hv) (kk H locs la hH hS hL)

theorem am_pop {x : am_X} {cc : ByteArray} {own : String} {n mc ms : Nat} (hC : am_C x cc own n mc ms) {pc k z : Nat} {h : am_H} {ls : List (Option Value)} {st : List Value} {v : Value} (d : decode cc pc = .ok (.pop, 1)) (hv : v.category = 1) (kk : am_W x (pc + 1) k z h ls (st)) : am_W x (pc) k z h ls (v :: st) := by
  obtain ⟨p, l, e, R, s, m, args, below, meth, c, Q, g, nL⟩ := x
  obtain ⟨hx, hb, hml, hown, hts, hI, hlk, hR⟩ := hC
  intro H locs la hH hS hL
  exact lv_pop hx hb d (by rw [am_cat]; exact hv) (kk H locs la hH hS hL)

theorem am_pop2 {x : am_X} {cc : ByteArray} {own : String} {n mc ms : Nat} (hC : am_C x cc own n mc ms) {pc k z : Nat} {h : am_H} {ls : List (Option Value)} {st : List Value} {v : Value} (d : decode cc pc = .ok (.pop2, 1)) (hv : v.category = 2) (kk : am_W x (pc + 1) k z h ls (st)) : am_W x (pc) k z h ls (v :: st) := by
  obtain ⟨p, l, e, R, s, m, args, below, meth, c, Q, g, nL⟩ := x
  obtain ⟨hx, hb, hml, hown, hts, hI, hlk, hR⟩ := hC
  intro H locs la hH hS hL
  exact lv_pop2_2 hx hb d (by rw [am_cat]; exact hv) (kk H locs la hH hS hL)

theorem am_dup2 {x : am_X} {cc : ByteArray} {own : String} {n mc ms : Nat} (hC : am_C x cc own n mc ms) {pc k z : Nat} {h : am_H} {ls : List (Option Value)} {st : List Value} {v u : Value} (d : decode cc pc = .ok (.dup2, 1)) (hv : v.category = 1) (hu : u.category = 1) (kk : am_W x (pc + 1) k z h ls (v :: u :: v :: u :: st)) : am_W x (pc) k z h ls (v :: u :: st) := by
  obtain ⟨p, l, e, R, s, m, args, below, meth, c, Q, g, nL⟩ := x
  obtain ⟨hx, hb, hml, hown, hts, hI, hlk, hR⟩ := hC
  intro H locs la hH hS hL
  exact lv_dup2_11 hx hb d (by rw [am_cat]; exact hv) (by rw [am_cat]; exact hu) (kk H locs la hH hS hL)

theorem am_dup2l {x : am_X} {cc : ByteArray} {own : String} {n mc ms : Nat} (hC : am_C x cc own n mc ms) {pc k z : Nat} {h : am_H} {ls : List (Option Value)} {st : List Value} {v : Value} (d : decode cc pc = .ok (.dup2, 1)) (hv : v.category = 2) (kk : am_W x (pc + 1) k z h ls (v :: v :: st)) : am_W x (pc) k z h ls (v :: st) := by
  obtain ⟨p, l, e, R, s, m, args, below, meth, c, Q, g, nL⟩ := x
  obtain ⟨hx, hb, hml, hown, hts, hI, hlk, hR⟩ := hC
  intro H locs la hH hS hL
  exact lv_dup2_2 hx hb d (by rw [am_cat]; exact hv) (kk H locs la hH hS hL)

theorem am_dup_x1 {x : am_X} {cc : ByteArray} {own : String} {n mc ms : Nat} (hC : am_C x cc own n mc ms) {pc k z : Nat} {h : am_H} {ls : List (Option Value)} {st : List Value} {v u : Value} (d : decode cc pc = .ok (.dup_x1, 1)) (hv : v.category = 1) (hu : u.category = 1) (kk : am_W x (pc + 1) k z h ls (v :: u :: v :: st)) : am_W x (pc) k z h ls (v :: u :: st) := by
  obtain ⟨p, l, e, R, s, m, args, below, meth, c, Q, g, nL⟩ := x
  obtain ⟨hx, hb, hml, hown, hts, hI, hlk, hR⟩ := hC
  intro H locs la hH hS hL
  exact lv_dup_x1 hx hb d (by rw [am_cat]; exact hv) (by rw [am_cat]; exact hu) (kk H locs la hH hS hL)

theorem am_goto {x : am_X} {cc : ByteArray} {own : String} {n mc ms : Nat} (hC : am_C x cc own n mc ms) {pc k z : Nat} {h : am_H} {ls : List (Option Value)} {st : List Value} {off : Int} (tgt : Nat) (d : decode cc pc = .ok (.goto off, 3)) (ht : (pc : Int) + off = (tgt : Int)) (kk : am_W x (tgt) k z h ls (st)) : am_W x (pc) k z h ls (st) := by
  obtain ⟨p, l, e, R, s, m, args, below, meth, c, Q, g, nL⟩ := x
  obtain ⟨hx, hb, hml, hown, hts, hI, hlk, hR⟩ := hC
  intro H locs la hH hS hL
  exact lv_goto hx hb d ht (kk H locs la hH hS hL)

theorem am_icmp_eq {x : am_X} {cc : ByteArray} {own : String} {n mc ms : Nat} (hC : am_C x cc own n mc ms) {pc k z : Nat} {h : am_H} {ls : List (Option Value)} {st : List Value} {a b off : Int} (tgt : Nat) (d : decode cc pc = .ok (.if_icmp .eq off, 3)) (ht : (pc : Int) + off = (tgt : Int)) (ha : -2147483648 ≤ a ∧ a ≤ 2147483647) (hb2 : -2147483648 ≤ b ∧ b ≤ 2147483647) (kt : a = b → am_W x (tgt) k z h ls (st)) (kf : ¬ a = b → am_W x (pc + 3) k z h ls (st)) : am_W x (pc) k z h ls (vI b :: vI a :: st) := by
  obtain ⟨p, l, e, R, s, m, args, below, meth, c, Q, g, nL⟩ := x
  obtain ⟨hx, hb, hml, hown, hts, hI, hlk, hR⟩ := hC
  intro H locs la hH hS hL
  exact lv_icmp_eq hx hb d ht (fun q => kt (by rw [am_eq32 ha hb2] at q; omega) H locs la hH hS hL) (fun q => kf (by rw [am_eq32 ha hb2] at q; omega) H locs la hH hS hL)

theorem am_if_eq {x : am_X} {cc : ByteArray} {own : String} {n mc ms : Nat} (hC : am_C x cc own n mc ms) {pc k z : Nat} {h : am_H} {ls : List (Option Value)} {st : List Value} {a off : Int} (tgt : Nat) (d : decode cc pc = .ok (.ifCond .eq off, 3)) (ht : (pc : Int) + off = (tgt : Int)) (ha : -2147483648 ≤ a ∧ a ≤ 2147483647) (kt : a = 0 → am_W x (tgt) k z h ls (st)) (kf : ¬ a = 0 → am_W x (pc + 3) k z h ls (st)) : am_W x (pc) k z h ls (vI a :: st) := by
  obtain ⟨p, l, e, R, s, m, args, below, meth, c, Q, g, nL⟩ := x
  obtain ⟨hx, hb, hml, hown, hts, hI, hlk, hR⟩ := hC
  intro H locs la hH hS hL
  exact lv_if_eq hx hb d ht (fun q => kt (by rw [am_z32, am_eq32 ha (by omega)] at q; omega) H locs la hH hS hL) (fun q => kf (by rw [am_z32, am_eq32 ha (by omega)] at q; omega) H locs la hH hS hL)

theorem am_icmp_ne {x : am_X} {cc : ByteArray} {own : String} {n mc ms : Nat} (hC : am_C x cc own n mc ms) {pc k z : Nat} {h : am_H} {ls : List (Option Value)} {st : List Value} {a b off : Int} (tgt : Nat) (d : decode cc pc = .ok (.if_icmp .ne off, 3)) (ht : (pc : Int) + off = (tgt : Int)) (ha : -2147483648 ≤ a ∧ a ≤ 2147483647) (hb2 : -2147483648 ≤ b ∧ b ≤ 2147483647) (kt : ¬ a = b → am_W x (tgt) k z h ls (st)) (kf : a = b → am_W x (pc + 3) k z h ls (st)) : am_W x (pc) k z h ls (vI b :: vI a :: st) := by
  obtain ⟨p, l, e, R, s, m, args, below, meth, c, Q, g, nL⟩ := x
  obtain ⟨hx, hb, hml, hown, hts, hI, hlk, hR⟩ := hC
  intro H locs la hH hS hL
  exact lv_icmp_ne hx hb d ht (fun q => kt (by rw [am_eq32 ha hb2] at q; omega) H locs la hH hS hL) (fun q => kf (by rw [am_eq32 ha hb2] at q; omega) H locs la hH hS hL)

theorem am_if_ne {x : am_X} {cc : ByteArray} {own : String} {n mc ms : Nat} (hC : am_C x cc own n mc ms) {pc k z : Nat} {h : am_H} {ls : List (Option Value)} {st : List Value} {a off : Int} (tgt : Nat) (d : decode cc pc = .ok (.ifCond .ne off, 3)) (ht : (pc : Int) + off = (tgt : Int)) (ha : -2147483648 ≤ a ∧ a ≤ 2147483647) (kt : ¬ a = 0 → am_W x (tgt) k z h ls (st)) (kf : a = 0 → am_W x (pc + 3) k z h ls (st)) : am_W x (pc) k z h ls (vI a :: st) := by
  obtain ⟨p, l, e, R, s, m, args, below, meth, c, Q, g, nL⟩ := x
  obtain ⟨hx, hb, hml, hown, hts, hI, hlk, hR⟩ := hC
  intro H locs la hH hS hL
  exact lv_if_ne hx hb d ht (fun q => kt (by rw [am_z32, am_eq32 ha (by omega)] at q; omega) H locs la hH hS hL) (fun q => kf (by rw [am_z32, am_eq32 ha (by omega)] at q; omega) H locs la hH hS hL)

theorem am_icmp_lt {x : am_X} {cc : ByteArray} {own : String} {n mc ms : Nat} (hC : am_C x cc own n mc ms) {pc k z : Nat} {h : am_H} {ls : List (Option Value)} {st : List Value} {a b off : Int} (tgt : Nat) (d : decode cc pc = .ok (.if_icmp .lt off, 3)) (ht : (pc : Int) + off = (tgt : Int)) (ha : -2147483648 ≤ a ∧ a ≤ 2147483647) (hb2 : -2147483648 ≤ b ∧ b ≤ 2147483647) (kt : a < b → am_W x (tgt) k z h ls (st)) (kf : ¬ a < b → am_W x (pc + 3) k z h ls (st)) : am_W x (pc) k z h ls (vI b :: vI a :: st) := by
  obtain ⟨p, l, e, R, s, m, args, below, meth, c, Q, g, nL⟩ := x
  obtain ⟨hx, hb, hml, hown, hts, hI, hlk, hR⟩ := hC
  intro H locs la hH hS hL
  exact lv_icmp_lt hx hb d ht (fun q => kt (by first | (rw [am_lt32 ha hb2] at q; omega) | (rw [am_le32 ha hb2] at q; omega) | (rw [am_lt32 hb2 ha] at q; omega) | (rw [am_le32 hb2 ha] at q; omega)) H locs la hH hS hL) (fun q => kf (by first | (rw [am_lt32 ha hb2] at q; omega) | (rw [am_le32 ha hb2] at q; omega) | (rw [am_lt32 hb2 ha] at q; omega) | (rw [am_le32 hb2 ha] at q; omega)) H locs la hH hS hL)

theorem am_if_lt {x : am_X} {cc : ByteArray} {own : String} {n mc ms : Nat} (hC : am_C x cc own n mc ms) {pc k z : Nat} {h : am_H} {ls : List (Option Value)} {st : List Value} {a off : Int} (tgt : Nat) (d : decode cc pc = .ok (.ifCond .lt off, 3)) (ht : (pc : Int) + off = (tgt : Int)) (ha : -2147483648 ≤ a ∧ a ≤ 2147483647) (kt : a < 0 → am_W x (tgt) k z h ls (st)) (kf : ¬ a < 0 → am_W x (pc + 3) k z h ls (st)) : am_W x (pc) k z h ls (vI a :: st) := by
  obtain ⟨p, l, e, R, s, m, args, below, meth, c, Q, g, nL⟩ := x
  obtain ⟨hx, hb, hml, hown, hts, hI, hlk, hR⟩ := hC
  intro H locs la hH hS hL
  exact lv_if_lt hx hb d ht (fun q => kt (by first | (rw [am_z32, am_lt32 ha (by omega)] at q; omega) | (rw [am_z32, am_le32 ha (by omega)] at q; omega) | (rw [am_z32, am_lt32 (by omega) ha] at q; omega) | (rw [am_z32, am_le32 (by omega) ha] at q; omega)) H locs la hH hS hL) (fun q => kf (by first | (rw [am_z32, am_lt32 ha (by omega)] at q; omega) | (rw [am_z32, am_le32 ha (by omega)] at q; omega) | (rw [am_z32, am_lt32 (by omega) ha] at q; omega) | (rw [am_z32, am_le32 (by omega) ha] at q; omega)) H locs la hH hS hL)

theorem am_icmp_ge {x : am_X} {cc : ByteArray} {own : String} {n mc ms : Nat} (hC : am_C x cc own n mc ms) {pc k z : Nat} {h : am_H} {ls : List (Option Value)} {st : List Value} {a b off : Int} (tgt : Nat) (d : decode cc pc = .ok (.if_icmp .ge off, 3)) (ht : (pc : Int) + off = (tgt : Int)) (ha : -2147483648 ≤ a ∧ a ≤ 2147483647) (hb2 : -2147483648 ≤ b ∧ b ≤ 2147483647) (kt : ¬ a < b → am_W x (tgt) k z h ls (st)) (kf : a < b → am_W x (pc + 3) k z h ls (st)) : am_W x (pc) k z h ls (vI b :: vI a :: st) := by
  obtain ⟨p, l, e, R, s, m, args, below, meth, c, Q, g, nL⟩ := x
  obtain ⟨hx, hb, hml, hown, hts, hI, hlk, hR⟩ := hC
  intro H locs la hH hS hL
  exact lv_icmp_ge hx hb d ht (fun q => kt (by first | (rw [am_lt32 ha hb2] at q; omega) | (rw [am_le32 ha hb2] at q; omega) | (rw [am_lt32 hb2 ha] at q; omega) | (rw [am_le32 hb2 ha] at q; omega)) H locs la hH hS hL) (fun q => kf (by first | (rw [am_lt32 ha hb2] at q; omega) | (rw [am_le32 ha hb2] at q; omega) | (rw [am_lt32 hb2 ha] at q; omega) | (rw [am_le32 hb2 ha] at q; omega)) H locs la hH hS hL)

theorem am_if_ge {x : am_X} {cc : ByteArray} {own : String} {n mc ms : Nat} (hC : am_C x cc own n mc ms) {pc k z : Nat} {h : am_H} {ls : List (Option Value)} {st : List Value} {a off : Int} (tgt : Nat) (d : decode cc pc = .ok (.ifCond .ge off, 3)) (ht : (pc : Int) + off = (tgt : Int)) (ha : -2147483648 ≤ a ∧ a ≤ 2147483647) (kt : ¬ a < 0 → am_W x (tgt) k z h ls (st)) (kf : a < 0 → am_W x (pc + 3) k z h ls (st)) : am_W x (pc) k z h ls (vI a :: st) := by
  obtain ⟨p, l, e, R, s, m, args, below, meth, c, Q, g, nL⟩ := x
  obtain ⟨hx, hb, hml, hown, hts, hI, hlk, hR⟩ := hC
  intro H locs la hH hS hL
  exact lv_if_ge hx hb d ht (fun q => kt (by first | (rw [am_z32, am_lt32 ha (by omega)] at q; omega) | (rw [am_z32, am_le32 ha (by omega)] at q; omega) | (rw [am_z32, am_lt32 (by omega) ha] at q; omega) | (rw [am_z32, am_le32 (by omega) ha] at q; omega)) H locs la hH hS hL) (fun q => kf (by first | (rw [am_z32, am_lt32 ha (by omega)] at q; omega) | (rw [am_z32, am_le32 ha (by omega)] at q; omega) | (rw [am_z32, am_lt32 (by omega) ha] at q; omega) | (rw [am_z32, am_le32 (by omega) ha] at q; omega)) H locs la hH hS hL)

theorem am_icmp_gt {x : am_X} {cc : ByteArray} {own : String} {n mc ms : Nat} (hC : am_C x cc own n mc ms) {pc k z : Nat} {h : am_H} {ls : List (Option Value)} {st : List Value} {a b off : Int} (tgt : Nat) (d : decode cc pc = .ok (.if_icmp .gt off, 3)) (ht : (pc : Int) + off = (tgt : Int)) (ha : -2147483648 ≤ a ∧ a ≤ 2147483647) (hb2 : -2147483648 ≤ b ∧ b ≤ 2147483647) (kt : b < a → am_W x (tgt) k z h ls (st)) (kf : ¬ b < a → am_W x (pc + 3) k z h ls (st)) : am_W x (pc) k z h ls (vI b :: vI a :: st) := by
  obtain ⟨p, l, e, R, s, m, args, below, meth, c, Q, g, nL⟩ := x
  obtain ⟨hx, hb, hml, hown, hts, hI, hlk, hR⟩ := hC
  intro H locs la hH hS hL
  exact lv_icmp_gt hx hb d ht (fun q => kt (by first | (rw [am_lt32 ha hb2] at q; omega) | (rw [am_le32 ha hb2] at q; omega) | (rw [am_lt32 hb2 ha] at q; omega) | (rw [am_le32 hb2 ha] at q; omega)) H locs la hH hS hL) (fun q => kf (by first | (rw [am_lt32 ha hb2] at q; omega) | (rw [am_le32 ha hb2] at q; omega) | (rw [am_lt32 hb2 ha] at q; omega) | (rw [am_le32 hb2 ha] at q; omega)) H locs la hH hS hL)

theorem am_if_gt {x : am_X} {cc : ByteArray} {own : String} {n mc ms : Nat} (hC : am_C x cc own n mc ms) {pc k z : Nat} {h : am_H} {ls : List (Option Value)} {st : List Value} {a off : Int} (tgt : Nat) (d : decode cc pc = .ok (.ifCond .gt off, 3)) (ht : (pc : Int) + off = (tgt : Int)) (ha : -2147483648 ≤ a ∧ a ≤ 2147483647) (kt : 0 < a → am_W x (tgt) k z h ls (st)) (kf : ¬ 0 < a → am_W x (pc + 3) k z h ls (st)) : am_W x (pc) k z h ls (vI a :: st) := by
  obtain ⟨p, l, e, R, s, m, args, below, meth, c, Q, g, nL⟩ := x
  obtain ⟨hx, hb, hml, hown, hts, hI, hlk, hR⟩ := hC
  intro H locs la hH hS hL
  exact lv_if_gt hx hb d ht (fun q => kt (by first | (rw [am_z32, am_lt32 ha (by omega)] at q; omega) | (rw [am_z32, am_le32 ha (by omega)] at q; omega) | (rw [am_z32, am_lt32 (by omega) ha] at q; omega) | (rw [am_z32, am_le32 (by omega) ha] at q; omega)) H locs la hH hS hL) (fun q => kf (by first | (rw [am_z32, am_lt32 ha (by omega)] at q; omega) | (rw [am_z32, am_le32 ha (by omega)] at q; omega) | (rw [am_z32, am_lt32 (by omega) ha] at q; omega) | (rw [am_z32, am_le32 (by omega) ha] at q; omega)) H locs la hH hS hL)

theorem am_icmp_le {x : am_X} {cc : ByteArray} {own : String} {n mc ms : Nat} (hC : am_C x cc own n mc ms) {pc k z : Nat} {h : am_H} {ls : List (Option Value)} {st : List Value} {a b off : Int} (tgt : Nat) (d : decode cc pc = .ok (.if_icmp .le off, 3)) (ht : (pc : Int) + off = (tgt : Int)) (ha : -2147483648 ≤ a ∧ a ≤ 2147483647) (hb2 : -2147483648 ≤ b ∧ b ≤ 2147483647) (kt : ¬ b < a → am_W x (tgt) k z h ls (st)) (kf : b < a → am_W x (pc + 3) k z h ls (st)) : am_W x (pc) k z h ls (vI b :: vI a :: st) := by
  obtain ⟨p, l, e, R, s, m, args, below, meth, c, Q, g, nL⟩ := x
  obtain ⟨hx, hb, hml, hown, hts, hI, hlk, hR⟩ := hC
  intro H locs la hH hS hL
  exact lv_icmp_le hx hb d ht (fun q => kt (by first | (rw [am_lt32 ha hb2] at q; omega) | (rw [am_le32 ha hb2] at q; omega) | (rw [am_lt32 hb2 ha] at q; omega) | (rw [am_le32 hb2 ha] at q; omega)) H locs la hH hS hL) (fun q => kf (by first | (rw [am_lt32 ha hb2] at q; omega) | (rw [am_le32 ha hb2] at q; omega) | (rw [am_lt32 hb2 ha] at q; omega) | (rw [am_le32 hb2 ha] at q; omega)) H locs la hH hS hL)

theorem am_if_le {x : am_X} {cc : ByteArray} {own : String} {n mc ms : Nat} (hC : am_C x cc own n mc ms) {pc k z : Nat} {h : am_H} {ls : List (Option Value)} {st : List Value} {a off : Int} (tgt : Nat) (d : decode cc pc = .ok (.ifCond .le off, 3)) (ht : (pc : Int) + off = (tgt : Int)) (ha : -2147483648 ≤ a ∧ a ≤ 2147483647) (kt : ¬ 0 < a → am_W x (tgt) k z h ls (st)) (kf : 0 < a → am_W x (pc + 3) k z h ls (st)) : am_W x (pc) k z h ls (vI a :: st) := by
  obtain ⟨p, l, e, R, s, m, args, below, meth, c, Q, g, nL⟩ := x
  obtain ⟨hx, hb, hml, hown, hts, hI, hlk, hR⟩ := hC
  intro H locs la hH hS hL
  exact lv_if_le hx hb d ht (fun q => kt (by first | (rw [am_z32, am_lt32 ha (by omega)] at q; omega) | (rw [am_z32, am_le32 ha (by omega)] at q; omega) | (rw [am_z32, am_lt32 (by omega) ha] at q; omega) | (rw [am_z32, am_le32 (by omega) ha] at q; omega)) H locs la hH hS hL) (fun q => kf (by first | (rw [am_z32, am_lt32 ha (by omega)] at q; omega) | (rw [am_z32, am_le32 ha (by omega)] at q; omega) | (rw [am_z32, am_lt32 (by omega) ha] at q; omega) | (rw [am_z32, am_le32 (by omega) ha] at q; omega)) H locs la hH hS hL)

/-- a long compared, its answer used at once -/
def am_cmp (a b : Int) : Int := if b < a then 1 else if a = b then 0 else -1
theorem am_lgcmp {a b : Int} (ha : -9223372036854775808 ≤ a ∧ a ≤ 9223372036854775807) (hb : -9223372036854775808 ≤ b ∧ b ≤ 9223372036854775807) : lg_cmp (Int64.ofInt a) (Int64.ofInt b) = Int32.ofInt (am_cmp a b) := by
  unfold lg_cmp am_cmp
  by_cases h1 : b < a
  · simp only [(am_lt64 hb ha).mpr h1, h1, if_true]
    try rfl
  · have h2 : ¬ Int64.ofInt b < Int64.ofInt a := fun q => h1 ((am_lt64 hb ha).mp q)
    by_cases h3 : a = b
    · subst h3
      simp [h1, h2]
    · have h4 : ¬ Int64.ofInt a = Int64.ofInt b := fun q => h3 ((am_eq64 ha hb).mp q)
      simp [h1, h2, h3, h4]
theorem am_cmpr (a b : Int) : -1 ≤ am_cmp a b ∧ am_cmp a b ≤ 1 := by unfold am_cmp; split <;> (try split) <;> omega

theorem am_lcmp {x : am_X} {cc : ByteArray} {own : String} {n mc ms : Nat} (hC : am_C x cc own n mc ms) {pc k z : Nat} {h : am_H} {ls : List (Option Value)} {st : List Value} {a b : Int} (d : decode cc pc = .ok (.lcmp, 1)) (ha : -9223372036854775808 ≤ a ∧ a ≤ 9223372036854775807) (hb2 : -9223372036854775808 ≤ b ∧ b ≤ 9223372036854775807) (kk : am_W x (pc + 1) k z h ls (vI (am_cmp a b) :: st)) : am_W x (pc) k z h ls (vL b :: vL a :: st) := by
  obtain ⟨p, l, e, R, s, m, args, below, meth, c, Q, g, nL⟩ := x
  obtain ⟨hx, hb, hml, hown, hts, hI, hlk, hR⟩ := hC
  intro H locs la hH hS hL
  have h1 := kk H locs la hH hS hL
  refine W.lcmp hx hb d ?_
  rw [am_lgcmp ha hb2]
  exact h1

theorem am_lif_eq {x : am_X} {cc : ByteArray} {own : String} {n mc ms : Nat} (hC : am_C x cc own n mc ms) {pc k z : Nat} {h : am_H} {ls : List (Option Value)} {st : List Value} {a b off : Int} (tgt : Nat) (d : decode cc pc = .ok (.lcmp, 1)) (d2 : decode cc (pc + 1) = .ok (.ifCond .eq off, 3)) (ht : (pc : Int) + 1 + off = (tgt : Int)) (ha : -9223372036854775808 ≤ a ∧ a ≤ 9223372036854775807) (hb2 : -9223372036854775808 ≤ b ∧ b ≤ 9223372036854775807) (kt : a = b → am_W x (tgt) k z h ls (st)) (kf : ¬ a = b → am_W x (pc + 4) k z h ls (st)) : am_W x (pc) k z h ls (vL b :: vL a :: st) := by
  have hr := am_cmpr a b
  refine am_lcmp hC d ha hb2 (am_if_eq hC tgt d2 (by omega) (by omega) (fun q => kt ?_) (fun q => kf ?_)) <;> (unfold am_cmp at q; revert q; split <;> (try split) <;> omega)

theorem am_lif_ne {x : am_X} {cc : ByteArray} {own : String} {n mc ms : Nat} (hC : am_C x cc own n mc ms) {pc k z : Nat} {h : am_H} {ls : List (Option Value)} {st : List Value} {a b off : Int} (tgt : Nat) (d : decode cc pc = .ok (.lcmp, 1)) (d2 : decode cc (pc + 1) = .ok (.ifCond .ne off, 3)) (ht : (pc : Int) + 1 + off = (tgt : Int)) (ha : -9223372036854775808 ≤ a ∧ a ≤ 9223372036854775807) (hb2 : -9223372036854775808 ≤ b ∧ b ≤ 9223372036854775807) (kt : ¬ a = b → am_W x (tgt) k z h ls (st)) (kf : a = b → am_W x (pc + 4) k z h ls (st)) : am_W x (pc) k z h ls (vL b :: vL a :: st) := by
  have hr := am_cmpr a b
  refine am_lcmp hC d ha hb2 (am_if_ne hC tgt d2 (by omega) (by omega) (fun q => kt ?_) (fun q => kf ?_)) <;> (unfold am_cmp at q; revert q; split <;> (try split) <;> omega)

theorem am_lif_lt {x : am_X} {cc : ByteArray} {own : String} {n mc ms : Nat} (hC : am_C x cc own n mc ms) {pc k z : Nat} {h : am_H} {ls : List (Option Value)} {st : List Value} {a b off : Int} (tgt : Nat) (d : decode cc pc = .ok (.lcmp, 1)) (d2 : decode cc (pc + 1) = .ok (.ifCond .lt off, 3)) (ht : (pc : Int) + 1 + off = (tgt : Int)) (ha : -9223372036854775808 ≤ a ∧ a ≤ 9223372036854775807) (hb2 : -9223372036854775808 ≤ b ∧ b ≤ 9223372036854775807) (kt : a < b → am_W x (tgt) k z h ls (st)) (kf : ¬ a < b → am_W x (pc + 4) k z h ls (st)) : am_W x (pc) k z h ls (vL b :: vL a :: st) := by
  have hr := am_cmpr a b
  refine am_lcmp hC d ha hb2 (am_if_lt hC tgt d2 (by omega) (by omega) (fun q => kt ?_) (fun q => kf ?_)) <;> (unfold am_cmp at q; revert q; split <;> (try split) <;> omega)

theorem am_lif_ge {x : am_X} {cc : ByteArray} {own : String} {n mc ms : Nat} (hC : am_C x cc own n mc ms) {pc k z : Nat} {h : am_H} {ls : List (Option Value)} {st : List Value} {a b off : Int} (tgt : Nat) (d : decode cc pc = .ok (.lcmp, 1)) (d2 : decode cc (pc + 1) = .ok (.ifCond .ge off, 3)) (ht : (pc : Int) + 1 + off = (tgt : Int)) (ha : -9223372036854775808 ≤ a ∧ a ≤ 9223372036854775807) (hb2 : -9223372036854775808 ≤ b ∧ b ≤ 9223372036854775807) (kt : ¬ a < b → am_W x (tgt) k z h ls (st)) (kf : a < b → am_W x (pc + 4) k z h ls (st)) : am_W x (pc) k z h ls (vL b :: vL a :: st) := by
  have hr := am_cmpr a b
  refine am_lcmp hC d ha hb2 (am_if_ge hC tgt d2 (by omega) (by omega) (fun q => kt ?_) (fun q => kf ?_)) <;> (unfold am_cmp at q; revert q; split <;> (try split) <;> omega)

theorem am_lif_gt {x : am_X} {cc : ByteArray} {own : String} {n mc ms : Nat} (hC : am_C x cc own n mc ms) {pc k z : Nat} {h : am_H} {ls : List (Option Value)} {st : List Value} {a b off : Int} (tgt : Nat) (d : decode cc pc = .ok (.lcmp, 1)) (d2 : decode cc (pc + 1) = .ok (.ifCond .gt off, 3)) (ht : (pc : Int) + 1 + off = (tgt : Int)) (ha : -9223372036854775808 ≤ a ∧ a ≤ 9223372036854775807) (hb2 : -9223372036854775808 ≤ b ∧ b ≤ 9223372036854775807) (kt : b < a → am_W x (tgt) k z h ls (st)) (kf : ¬ b < a → am_W x (pc + 4) k z h ls (st)) : am_W x (pc) k z h ls (vL b :: vL a :: st) := by
  have hr := am_cmpr a b
  refine am_lcmp hC d ha hb2 (am_if_gt hC tgt d2 (by omega) (by omega) (fun q => kt ?_) (fun q => kf ?_)) <;> (unfold am_cmp at q; revert q; split <;> (try split) <;> omega)

theorem am_lif_le {x : am_X} {cc : ByteArray} {own : String} {n mc ms : Nat} (hC : am_C x cc own n mc ms) {pc k z : Nat} {h : am_H} {ls : List (Option Value)} {st : List Value} {a b off : Int} (tgt : Nat) (d : decode cc pc = .ok (.lcmp, 1)) (d2 : decode cc (pc + 1) = .ok (.ifCond .le off, 3)) (ht : (pc : Int) + 1 + off = (tgt : Int)) (ha : -9223372036854775808 ≤ a ∧ a ≤ 9223372036854775807) (hb2 : -9223372036854775808 ≤ b ∧ b ≤ 9223372036854775807) (kt : ¬ b < a → am_W x (tgt) k z h ls (st)) (kf : b < a → am_W x (pc + 4) k z h ls (st)) : am_W x (pc) k z h ls (vL b :: vL a :: st) := by
  have hr := am_cmpr a b
  refine am_lcmp hC d ha hb2 (am_if_le hC tgt d2 (by omega) (by omega) (fun q => kt ?_) (fun q => kf ?_)) <;> (unfold am_cmp at q; revert q; split <;> (try split) <;> omega)
end
section
/-! fields -/
theorem am_cl_in : ∀ (ci : Nat) (q : vw_C), am_cl[ci]? = some q → ∀ w ∈ u_ws q.1 q.2.1 q.2.2, w ∈ am_ws := by
  intro ci q hq
  match ci, hq with
  | 0, hq => cases hq; decide +kernel
  | 1, hq => cases hq; decide +kernel
  | 2, hq => cases hq; decide +kernel
  | 3, hq => cases hq; decide +kernel
  | 4, hq => cases hq; decide +kernel
  | 5, hq => cases hq; decide +kernel
  | ci + 6, hq => simp at hq
/-- the pool's entry idx of class own names the field k of class ci -/
def am_F (own : String) (idx ci k : Nat) : Prop := ∃ q : vw_C, am_cl[ci]? = some q ∧ k < q.2.2 ∧ (q.2.1 k).1 = q.1 ∧
  (Cond.fieldLink own idx q.1 (q.2.1 k).2.1 (q.2.1 k).2.2.1 ∈ am_ws ∨ ∃ host : String, Cond.fieldLinkNest own idx q.1 (q.2.1 k).2.1 (q.2.1 k).2.2.1 host ∈ lw_tbl)
theorem am_getf {x : am_X} {cc : ByteArray} {own : String} {n mc ms : Nat} (hC : am_C x cc own n mc ms) {pc k z : Nat} {h : am_H} {ls : List (Option Value)} {st : List Value} {idx ci k0 i : Nat} {fs : List Value} {v : Value} (d : decode cc pc = .ok (.getfield idx, 3)) (hF : am_F own idx ci k0) (ho : h.2 i = some (eO ci fs)) (hv : fs[k0]? = some v) (kk : am_W x (pc + 3) k z h ls (v :: st)) : am_W x pc k z h ls (.ref i :: st) := by
  obtain ⟨p, l, e, R, s, m, args, below, meth, c, Q, g, nL⟩ := x
  obtain ⟨hx, hb, hml, hown, hts, hI, hlk, hR⟩ := hC
  intro H locs la hH hS hL
  obtain ⟨q, hq, hk, hdc, hlink⟩ := hF
  have hv2 : (fs.map (am_c g.1))[k0]? = some (am_c g.1 v) := by rw [List.getElem?_map, hv]; rfl
  have hkk := kk H locs la hH hS hL
  rcases hlink with hl | ⟨host, hl⟩
  · exact va_get (own := own) (ref := q.1) (C := q.1) (T := q.2.1) (N := q.2.2) (ci := ci) hx hb hts (am_cl_in ci q hq) hown hI.1 (hH.one ho) 0 rfl hq k0 hk (hts _ hl) (fun y hy => by rw [hdc] at hy; exact hy) hv2 d hkk
  · exact va_getN (own := own) (ref := q.1) (C := q.1) (host := host) (T := q.2.1) (N := q.2.2) (ci := ci) hx hb hts (am_cl_in ci q hq) hown hI.1 (hH.one ho) 0 rfl hq k0 hk (va_Nw.use rfl (hI.2.2.2.2.1 _ _ _ _ _ _ hl)) (fun y hy => by rw [hdc] at hy; exact hy) hv2 d hkk

/-- what a field of that type may hold -/
def am_fit (ty : FieldType) (v : Value) : Prop := ∀ b : Nat, narrow ty (am_c b v) = am_c b v ∧ fits ty (am_c b v) = true
theorem am_fitI (v : Int) : am_fit .int (vI v) := fun _ => ⟨rfl, rfl⟩
theorem am_fitL (v : Int) : am_fit .long (vL v) := fun _ => ⟨rfl, rfl⟩
theorem am_fitO (C : String) (i : Nat) : am_fit (.object C) (.ref i) := fun _ => ⟨rfl, rfl⟩
theorem am_fitA (t : FieldType) (i : Nat) : am_fit (.array t) (.ref i) := fun _ => ⟨rfl, rfl⟩
/-- .. and it is one that may be written (by a constructor of its class: final) -/
def am_FW (own : String) (idx ci k : Nat) (ty : FieldType) (fin : Bool) : Prop := ∃ (q : vw_C) (tys : Nat → FieldType), am_cl[ci]? = some q ∧ k < q.2.2 ∧ (q.2.1 k).1 = q.1 ∧ tys k = ty ∧ (q.2.1 k).2.2.2 = fin ∧
  (∀ j, j < q.2.2 → parseFieldDescriptor (q.2.1 j).2.2.1 = some (tys j)) ∧ (∀ a, a < q.2.2 → ∀ b, b < q.2.2 → a ≠ b → (q.2.1 a).2.1 ≠ (q.2.1 b).2.1) ∧ Cond.fieldLink own idx q.1 (q.2.1 k).2.1 (q.2.1 k).2.2.1 ∈ am_ws ∧ (fin = true → q.1 = own)
theorem am_putf0 {p : Program} {l : Launch} {e : Env} {R : Room} {s : State} {m : MethodId} {args : Array Value} {below : List Frame} {meth : Method} {c : Code} {H : Heap} {locs : List Loc} {cells slots : Nat} {Q : State → Prop} {cc : ByteArray} {pc : Nat} {la : Array Slot} {rest : List Value} {own : String} {fin : Bool}
    (hx : p.tables.exec = Jvm.exec) (hb : c.code = cc) (hts : ∀ w ∈ am_ws, w.before args s = true) (hown : s.vm.findClass own = some m.cls) {g : am_G} (hK : va_K g.2.1 am_cl (am_ty g) s) {idx ci k0 a : Nat} {ty : FieldType} {fs : List Value} {u : Value} (hF : am_FW own idx ci k0 ty fin) (hin : fin = true → meth.name = "<init>")
    (hat : va_at g.2.1 am_cl (a, .inr (ci, fs)) H) (hn : narrow ty u = u) (hfit : fits ty u = true) (hl : k0 < fs.length) (d : decode cc pc = .ok (.putfield idx, 3))
    (kk : ∀ (H1 : Heap) (f : Nat), va_at g.2.1 am_cl (a, .inr (ci, fs.set k0 u)) H1 → H1.size = H.size → (∀ q, q ≠ a → H1[q]? = H[q]?) → W p l e R s m args below meth c H1 (locs ++ [⟨a, f⟩]) cells slots Q (F0 m (pc + 3) la rest)) : W p l e R s m args below meth c H locs cells slots Q (F0 m pc la (u :: .ref a :: rest)) := by
  obtain ⟨q, tys, hq, hk, hdc, hty, hfi, htys, hnm, hlw, hfo⟩ := hF
  have hap := va_apart (own := own) (C := q.1) (T := q.2.1) (N := q.2.2) (ci := ci) hts (am_cl_in ci q hq) tys htys hnm hK hq
  obtain ⟨r, h1, cell, q1, q2, q3, q4⟩ := hat
  have hr : r = q := Option.some.inj (h1.symm.trans hq)
  subst hr
  obtain ⟨hSl, hfc, kC, hkC, hkind⟩ := hK.1 ci _ hq
  obtain ⟨cf, kf, fi, f, hi, hsl⟩ := hSl k0 hk
  rw [hdc] at hi
  have hd : parseFieldDescriptor (r.2.1 k0).2.2.1 = some ty := by rw [htys k0 hk, hty]
  have hst := (u_facts hfc hkC (u_lays hts (am_cl_in ci r hq) hk) (by rw [hdc]; exact hi)).1
  cases fin with
  | false =>
    have hlay := hts _ (am_cl_in ci r hq _ (u_in_lay hk))
    unfold u_lay at hlay
    rw [if_neg (by rw [hfi]; decide)] at hlay
    rw [hdc] at hlay
    have h6 := u_store hfc hkC hkind hlay hi hd hn hfit
    refine W.putK hx hb (f := f) ⟨hown, hts _ hlw, ⟨_, _, _, hi⟩, hst⟩ (by rw [q2]; exact h6) q1 q3 (by rw [hsl]; exact k2_hasslot (q4 k0 hk)) rfl rfl d fun H' e1 e2 e3 => ?_
    rw [hsl] at e1 ⊢
    exact kk H' _ ⟨_, hq, t_OB.to (V := updV (vp_V fs) k0 u) ⟨_, e1, q2, q3, t_set q4 hap hk u⟩ (fun j _ => vp_updV_set hl u j)⟩ e2 e3
  | true =>
    have hlay := hts _ (am_cl_in ci r hq _ (u_in_lay hk))
    unfold u_lay at hlay
    rw [if_pos hfi] at hlay
    rw [hdc] at hlay
    have hcf : m.cls = cf := by
      obtain ⟨_, _, c', _, _, _, -, -, hf', -, -, -, hown2, -⟩ := Cond.laysFinal_spec hlay
      have e1 : c' = cf := by have := hi.symm.trans hf'; simp at this; exact this.1.symm
      rw [hfo rfl] at hown2
      rw [← e1]; exact Option.some.inj (hown.symm.trans hown2)
    have h6 := u_fits hfc hkC hkind (Or.inr hlay) hi hd hn hfit
    refine W.putFinK hx hb hown (hts _ hlw) hi hst hcf (hin rfl) (by rw [q2]; exact h6) q1 q3 (by rw [hsl]; exact k2_hasslot (q4 k0 hk)) rfl rfl d fun H' e1 e2 e3 => ?_
    rw [hsl] at e1 ⊢
    exact kk H' _ ⟨_, hq, t_OB.to (V := updV (vp_V fs) k0 u) ⟨_, e1, q2, q3, t_set q4 hap hk u⟩ (fun j _ => vp_updV_set hl u j)⟩ e2 e3
theorem am_putf {x : am_X} {cc : ByteArray} {own : String} {n mc ms : Nat} (hC : am_C x cc own n mc ms) {pc k z : Nat} {h : am_H} {ls : List (Option Value)} {st : List Value} {idx ci k0 i : Nat} {ty : FieldType} {fin : Bool} {fs : List Value} {v : Value} (d : decode cc pc = .ok (.putfield idx, 3)) (hF : am_FW own idx ci k0 ty fin) (hin : fin = true → x.2.2.2.2.2.2.2.2.1.name = "<init>") (ho : h.2 i = some (eO ci fs)) (hv : am_fit ty v) (hl : k0 < fs.length) (kk : am_W x (pc + 3) k z (am_up h i (eO ci (fs.set k0 v))) ls st) : am_W x pc k z h ls (v :: .ref i :: st) := by
  obtain ⟨p, l, e, R, s, m, args, below, meth, c, Q, g, nL⟩ := x
  obtain ⟨hx, hb, hml, hown, hts, hI, hlk, hR⟩ := hC
  intro H locs la hH hS hL
  refine am_putf0 (fs := fs.map (am_c g.1)) hx hb hts hown hI.1 hF hin (hH.2 i _ ho) (hv g.1).1 (hv g.1).2 (by rw [List.length_map]; exact hl) d fun H1 f e1 e2 e3 => ?_
  refine kk H1 _ la (hH.up i _ e2 e3 ?_) (hS.put e2 e3 (Nat.le_add_right _ _)) hL
  rw [← List.map_set] at e1
  exact e1

/-! arrays -/
theorem am_tys0 (g : am_G) : (am_ty g)[0]? = some (g.2.2.1, .int) := rfl
theorem am_tys1 (g : am_G) : (am_ty g)[1]? = some (g.2.2.2.1, .long) := rfl
theorem am_tys2 (g : am_G) : (am_ty g)[2]? = some (g.2.2.2.2, .object RX1) := rfl
theorem am_iald {x : am_X} {cc : ByteArray} {own : String} {n mc ms : Nat} (hC : am_C x cc own n mc ms) {pc k z : Nat} {h : am_H} {ls : List (Option Value)} {st : List Value} {i N : Nat} {f : Nat → Int} {j : Int} (d : decode cc pc = .ok (.iaload, 1)) (ho : h.2 i = some (eI N f)) (hj : 0 ≤ j ∧ j < N) (hN : N ≤ 2147483647) (kk : am_W x (pc + 1) k z h ls (vI (f j.toNat) :: st)) : am_W x pc k z h ls (vI j :: .ref i :: st) := by
  obtain ⟨p, l, e, R, s, m, args, below, meth, c, Q, g, nL⟩ := x
  obtain ⟨hx, hb, hml, hown, hts, hI, hlk, hR⟩ := hC
  intro H locs la hH hS hL
  refine va_iald hx hb hI.1 (hH.one ho) 0 0 rfl (am_tys0 g) (am_in32 hj hN) d ?_
  rw [am_cl32 (by omega)]
  exact kk H locs la hH hS hL
theorem am_lald {x : am_X} {cc : ByteArray} {own : String} {n mc ms : Nat} (hC : am_C x cc own n mc ms) {pc k z : Nat} {h : am_H} {ls : List (Option Value)} {st : List Value} {i N : Nat} {f : Nat → Int} {j : Int} (d : decode cc pc = .ok (.laload, 1)) (ho : h.2 i = some (eL N f)) (hj : 0 ≤ j ∧ j < N) (hN : N ≤ 2147483647) (kk : am_W x (pc + 1) k z h ls (vL (f j.toNat) :: st)) : am_W x pc k z h ls (vI j :: .ref i :: st) := by
  obtain ⟨p, l, e, R, s, m, args, below, meth, c, Q, g, nL⟩ := x
  obtain ⟨hx, hb, hml, hown, hts, hI, hlk, hR⟩ := hC
  intro H locs la hH hS hL
  refine va_lald hx hb hI.1 (hH.one ho) 0 1 rfl (am_tys1 g) (am_in32 hj hN) d ?_
  rw [am_cl32 (by omega)]
  exact kk H locs la hH hS hL
theorem am_aald {x : am_X} {cc : ByteArray} {own : String} {n mc ms : Nat} (hC : am_C x cc own n mc ms) {pc k z : Nat} {h : am_H} {ls : List (Option Value)} {st : List Value} {i N : Nat} {f : Nat → Option Nat} {j : Int} (d : decode cc pc = .ok (.aaload, 1)) (ho : h.2 i = some (eR N f)) (hj : 0 ≤ j ∧ j < N) (hN : N ≤ 2147483647) (kk : am_W x (pc + 1) k z h ls (vQ (f j.toNat) :: st)) : am_W x pc k z h ls (vI j :: .ref i :: st) := by
  obtain ⟨p, l, e, R, s, m, args, below, meth, c, Q, g, nL⟩ := x
  obtain ⟨hx, hb, hml, hown, hts, hI, hlk, hR⟩ := hC
  intro H locs la hH hS hL
  refine va_aldq hx hb hI.1 (hH.one ho) 0 2 rfl (am_tys2 g) (am_in32 hj hN) d ?_
  have h1 := kk H locs la hH hS hL
  rw [List.map_cons, am_cQ] at h1
  rw [am_cl32 (by omega)]
  exact h1
theorem am_alenI {x : am_X} {cc : ByteArray} {own : String} {n mc ms : Nat} (hC : am_C x cc own n mc ms) {pc k z : Nat} {h : am_H} {ls : List (Option Value)} {st : List Value} {i N : Nat} {f : Nat → Int} (d : decode cc pc = .ok (.arraylength, 1)) (ho : h.2 i = some (eI N f)) (kk : am_W x (pc + 1) k z h ls (vI N :: st)) : am_W x pc k z h ls (.ref i :: st) := by
  obtain ⟨p, l, e, R, s, m, args, below, meth, c, Q, g, nL⟩ := x
  obtain ⟨hx, hb, hml, hown, hts, hI, hlk, hR⟩ := hC
  intro H locs la hH hS hL
  exact va_alen hx hb hI.1 (hH.one ho) 0 0 rfl (am_tys0 g) (v := Int32.ofInt N) (by first | rfl | exact (Int32.ofInt_eq_ofNat).symm) d (kk H locs la hH hS hL)
theorem am_alenL {x : am_X} {cc : ByteArray} {own : String} {n mc ms : Nat} (hC : am_C x cc own n mc ms) {pc k z : Nat} {h : am_H} {ls : List (Option Value)} {st : List Value} {i N : Nat} {f : Nat → Int} (d : decode cc pc = .ok (.arraylength, 1)) (ho : h.2 i = some (eL N f)) (kk : am_W x (pc + 1) k z h ls (vI N :: st)) : am_W x pc k z h ls (.ref i :: st) := by
  obtain ⟨p, l, e, R, s, m, args, below, meth, c, Q, g, nL⟩ := x
  obtain ⟨hx, hb, hml, hown, hts, hI, hlk, hR⟩ := hC
  intro H locs la hH hS hL
  exact va_alen hx hb hI.1 (hH.one ho) 0 1 rfl (am_tys1 g) (v := Int32.ofInt N) (by first | rfl | exact (Int32.ofInt_eq_ofNat).symm) d (kk H locs la hH hS hL)
theorem am_alenR {x : am_X} {cc : ByteArray} {own : String} {n mc ms : Nat} (hC : am_C x cc own n mc ms) {pc k z : Nat} {h : am_H} {ls : List (Option Value)} {st : List Value} {i N : Nat} {f : Nat → Option Nat} (d : decode cc pc = .ok (.arraylength, 1)) (ho : h.2 i = some (eR N f)) (kk : am_W x (pc + 1) k z h ls (vI N :: st)) : am_W x pc k z h ls (.ref i :: st) := by
  obtain ⟨p, l, e, R, s, m, args, below, meth, c, Q, g, nL⟩ := x
  obtain ⟨hx, hb, hml, hown, hts, hI, hlk, hR⟩ := hC
  intro H locs la hH hS hL
  exact va_alen hx hb hI.1 (hH.one ho) 0 2 rfl (am_tys2 g) (v := Int32.ofInt N) (by first | rfl | exact (Int32.ofInt_eq_ofNat).symm) d (kk H locs la hH hS hL)
def am_fu (f : Nat → Int) (j : Nat) (v : Int) : Nat → Int := fun q => if q = j then v else f q
def am_fq (f : Nat → Option Nat) (j : Nat) (v : Option Nat) : Nat → Option Nat := fun q => if q = j then v else f q
theorem am_iast {x : am_X} {cc : ByteArray} {own : String} {n mc ms : Nat} (hC : am_C x cc own n mc ms) {pc k z : Nat} {h : am_H} {ls : List (Option Value)} {st : List Value} {i N : Nat} {f : Nat → Int} {j v : Int} (d : decode cc pc = .ok (.iastore, 1)) (ho : h.2 i = some (eI N f)) (hj : 0 ≤ j ∧ j < N) (hN : N ≤ 2147483647) (kk : am_W x (pc + 1) k z (am_up h i (eI N (am_fu f j.toNat v))) ls st) : am_W x pc k z h ls (vI v :: vI j :: .ref i :: st) := by
  obtain ⟨p, l, e, R, s, m, args, below, meth, c, Q, g, nL⟩ := x
  obtain ⟨hx, hb, hml, hown, hts, hI, hlk, hR⟩ := hC
  intro H locs la hH hS hL
  refine W.iast hx hb (hH.2 i _ ho) ((hI.1.2 0 _ (am_tys0 g)).1 N (fun j => .int (Int32.ofInt (f j)))) (fun q => by cases q) (by show ¬ (_ ∨ (arrV _ _ _).slots.size ≤ _); rw [arrV_size]; exact am_in32 hj hN) rfl rfl d fun H1 e1 e2 e3 => ?_
  refine kk H1 _ la (hH.up i _ e2 e3 ?_) (hS.put e2 e3 (Nat.le_add_right _ _)) hL
  show H1[g.1 + i]? = some (vp_cell _ _)
  rw [e1]
  dsimp only [am_e]
  rw [vp_cell_i, vp_cell_i, arrV_store, am_cl32 (by omega)]
  congr 2
  funext q
  by_cases hq : q = j.toNat
  · subst hq
    simp [updV, am_fu]
  · simp [updV, am_fu, hq]
theorem am_last {x : am_X} {cc : ByteArray} {own : String} {n mc ms : Nat} (hC : am_C x cc own n mc ms) {pc k z : Nat} {h : am_H} {ls : List (Option Value)} {st : List Value} {i N : Nat} {f : Nat → Int} {j v : Int} (d : decode cc pc = .ok (.lastore, 1)) (ho : h.2 i = some (eL N f)) (hj : 0 ≤ j ∧ j < N) (hN : N ≤ 2147483647) (kk : am_W x (pc + 1) k z (am_up h i (eL N (am_fu f j.toNat v))) ls st) : am_W x pc k z h ls (vL v :: vI j :: .ref i :: st) := by
  obtain ⟨p, l, e, R, s, m, args, below, meth, c, Q, g, nL⟩ := x
  obtain ⟨hx, hb, hml, hown, hts, hI, hlk, hR⟩ := hC
  intro H locs la hH hS hL
  refine W.last hx hb (hH.2 i _ ho) ((hI.1.2 1 _ (am_tys1 g)).1 N (fun j => .long (Int64.ofInt (f j)))) (fun q => by cases q) (by show ¬ (_ ∨ (arrV _ _ _).slots.size ≤ _); rw [arrV_size]; exact am_in32 hj hN) rfl rfl d fun H1 e1 e2 e3 => ?_
  refine kk H1 _ la (hH.up i _ e2 e3 ?_) (hS.put e2 e3 (Nat.le_add_right _ _)) hL
  show H1[g.1 + i]? = some (vp_cell _ _)
  rw [e1]
  dsimp only [am_e]
  rw [vp_cell_l, vp_cell_l, arrV_store, am_cl32 (by omega)]
  congr 2
  funext q
  by_cases hq : q = j.toNat
  · subst hq
    simp [updV, am_fu]
  · simp [updV, am_fu, hq]
theorem am_aast {x : am_X} {cc : ByteArray} {own : String} {n mc ms : Nat} (hC : am_C x cc own n mc ms) {pc k z : Nat} {h : am_H} {ls : List (Option Value)} {st : List Value} {i N a : Nat} {vs : List Value} {f : Nat → Option Nat} {j : Int} (d : decode cc pc = .ok (.aastore, 1)) (ho : h.2 i = some (eR N f)) (ha : h.2 a = some (eO 1 vs)) (hj : 0 ≤ j ∧ j < N) (hN : N ≤ 2147483647) (kk : am_W x (pc + 1) k z (am_up h i (eR N (am_fq f j.toNat (some a)))) ls st) : am_W x pc k z h ls (.ref a :: vI j :: .ref i :: st) := by
  obtain ⟨p, l, e, R, s, m, args, below, meth, c, Q, g, nL⟩ := x
  obtain ⟨hx, hb, hml, hown, hts, hI, hlk, hR⟩ := hC
  intro H locs la hH hS hL
  have h0 := am_in32 hj hN
  obtain ⟨r', hr', cellV, g1, g2, g3, -⟩ := hH.2 a _ ha
  have hcls := (hI.1.1 1 (RX1, TX1, 3) rfl).2
  obtain ⟨kA, comp, k1, k2, k3, -⟩ := (hI.1.2 2 _ (am_tys2 g)).2
  have hcomp : comp = g.2.1.1 1 := Option.some.inj (k3.symm.trans hcls.1)
  subst hcomp
  obtain ⟨kC, hkC, -⟩ := id hcls.2
  refine W.aast hx hb (hH.2 i _ ho) (fun q h => by cases h) (fun h => by cases h) k1 k2 rfl hkC ⟨fun q => h0 (Or.inl q), by show _ < (arrV _ _ _).slots.size; rw [arrV_size]; exact Nat.not_le.mp fun q => h0 (Or.inr q)⟩ g1 (fun q h => by rw [g3] at h; cases h) (by rw [g2]; exact hkC) (by rw [g2]; exact va_assign hcls) rfl rfl d fun H1 e1 e2 e3 => ?_
  refine kk H1 _ la (hH.up i _ e2 e3 ?_) (hS.put e2 e3 (Nat.le_add_right _ _)) hL
  show H1[g.1 + i]? = some (vp_cell _ _)
  rw [e1]
  dsimp only [am_e]
  rw [vp_cell_q, vp_cell_q, arrV_store, am_cl32 (by omega)]
  congr 2
  funext q
  by_cases hq : q = j.toNat
  · subst hq
    simp [updV, am_fq, va_rf]
  · simp [updV, am_fq, hq]
/-! new -/
theorem am_newI {x : am_X} {cc : ByteArray} {own : String} {n mc ms : Nat} (hC : am_C x cc own n mc ms) {pc k z : Nat} {h : am_H} {ls : List (Option Value)} {st : List Value} {a : Int} (N : Nat) (d : decode cc pc = .ok (.newarray .int, 2)) (ha : a = N) (hN : N ≤ 100000) (hc : k + 1 ≤ mc) (hs : z + N ≤ ms) (kk : am_W x (pc + 2) (k + 1) (z + N) (am_push h (eI N (fun _ => 0))) ls (.ref h.1 :: st)) : am_W x pc k z h ls (vI a :: st) := by
  obtain ⟨p, l, e, R, s, m, args, below, meth, c, Q, g, nL⟩ := x
  obtain ⟨hx, hb, hml, hown, hts, hI, hlk, hR⟩ := hC
  intro H locs la hH hS hL
  subst ha; subst hR
  refine va_newaK (N := N) hx hb (hts _ (am_in (by decide +kernel) rfl)) rfl d rfl (fun q => by rw [am_z32, am_lt32 (by omega) (by omega)] at q; omega) (by rw [am_cl32 (by omega)]; omega) (by show N * 4 ≤ _; omega) hc hs hH.1 fun H1 cA e1 e2 e3 e4 e5 => ?_
  have e6 : cA = g.2.2.1 := Option.some.inj (e5.symm.trans (hI.1.2 0 _ (am_tys0 g)).2)
  subst e6
  refine kk H1 locs la (hH.push _ (by rw [e2, hH.1]) (fun a ha => e3 a (by rw [← hH.1]; exact ha)) ?_) (am_S.push hS (by rw [e2, hH.1]; omega) (fun a ha => e3 a (by rw [← hH.1]; exact ha))) hL
  rw [hH.1]
  exact e1
theorem am_newL {x : am_X} {cc : ByteArray} {own : String} {n mc ms : Nat} (hC : am_C x cc own n mc ms) {pc k z : Nat} {h : am_H} {ls : List (Option Value)} {st : List Value} {a : Int} (N : Nat) (d : decode cc pc = .ok (.newarray .long, 2)) (ha : a = N) (hN : N ≤ 100000) (hc : k + 1 ≤ mc) (hs : z + N ≤ ms) (kk : am_W x (pc + 2) (k + 1) (z + N) (am_push h (eL N (fun _ => 0))) ls (.ref h.1 :: st)) : am_W x pc k z h ls (vI a :: st) := by
  obtain ⟨p, l, e, R, s, m, args, below, meth, c, Q, g, nL⟩ := x
  obtain ⟨hx, hb, hml, hown, hts, hI, hlk, hR⟩ := hC
  intro H locs la hH hS hL
  subst ha; subst hR
  refine va_newaK (N := N) hx hb (hts _ (am_in (by decide +kernel) rfl)) rfl d rfl (fun q => by rw [am_z32, am_lt32 (by omega) (by omega)] at q; omega) (by rw [am_cl32 (by omega)]; omega) (by show N * 8 ≤ _; omega) hc hs hH.1 fun H1 cA e1 e2 e3 e4 e5 => ?_
  have e6 : cA = g.2.2.2.1 := Option.some.inj (e5.symm.trans (hI.1.2 1 _ (am_tys1 g)).2)
  subst e6
  refine kk H1 locs la (hH.push _ (by rw [e2, hH.1]) (fun a ha => e3 a (by rw [← hH.1]; exact ha)) ?_) (am_S.push hS (by rw [e2, hH.1]; omega) (fun a ha => e3 a (by rw [← hH.1]; exact ha))) hL
  rw [hH.1]
  exact e1
theorem am_newR {x : am_X} {cc : ByteArray} {own : String} {n mc ms : Nat} (hC : am_C x cc own n mc ms) {pc k z : Nat} {h : am_H} {ls : List (Option Value)} {st : List Value} {a : Int} {idx : Nat} (N : Nat) (d : decode cc pc = .ok (.anewarray idx, 3)) (hw : Cond.classLink own idx RX1 ∈ am_ws) (ha : a = N) (hN : N ≤ 100000) (hc : k + 1 ≤ mc) (hs : z + N ≤ ms) (kk : am_W x (pc + 3) (k + 1) (z + N) (am_push h (eR N (fun _ => none))) ls (.ref h.1 :: st)) : am_W x pc k z h ls (vI a :: st) := by
  obtain ⟨p, l, e, R, s, m, args, below, meth, c, Q, g, nL⟩ := x
  obtain ⟨hx, hb, hml, hown, hts, hI, hlk, hR⟩ := hC
  intro H locs la hH hS hL
  subst ha; subst hR
  have hcl := am_cl32 (a := (N : Int)) (by omega)
  refine W.anew hx hb hown (hts _ hw) (va_AO.use hI.2.2.2.2.2.2.1) rfl d rfl (fun q => by rw [am_z32, am_lt32 (by omega) (by omega)] at q; omega) (by rw [hcl]; omega) hc (by rw [hcl]; exact hs) fun cA kA comp f1 f2 f3 f4 => ?_
  rw [hcl, Int.toNat_natCast]
  generalize hH1 : H.push ({ cls := cA, slots := Array.replicate N .null, vm := .none } : Cell) = H1
  have z1 : H1.size = H.size + 1 := by rw [← hH1, Array.size_push]
  have e1 : H1[H.size]? = some (arrV cA N (fun _ => .null)) := by rw [← hH1, Array.getElem?_push_size, ← arrV_new]
  have o1 : ∀ q : Nat, q < H.size → H1[q]? = H[q]? := fun q hq => by rw [← hH1, Array.getElem?_push, if_neg (Nat.ne_of_lt hq)]
  have e6 : cA = g.2.2.2.2 := by
    obtain ⟨kA', comp', k1, k2, k3, k4⟩ := (hI.1.2 2 _ (am_tys2 g)).2
    exact Option.some.inj (f1.symm.trans k4)
  subst e6
  have h9 := kk H1 locs la (hH.push _ z1 o1 e1) (am_S.push hS (by omega) o1) hL
  rw [List.map_cons, am_cA, ← hH.1] at h9
  exact h9
theorem am_new {x : am_X} {cc : ByteArray} {own : String} {n mc ms : Nat} (hC : am_C x cc own n mc ms) {pc k z : Nat} {h : am_H} {ls : List (Option Value)} {st : List Value} {idx ci : Nat} (q : vw_C) (tys : Nat → FieldType) (fs : List Value) (d : decode cc pc = .ok (.new idx, 3)) (hq : am_cl[ci]? = some q) (htys : ∀ j, j < q.2.2 → parseFieldDescriptor (q.2.1 j).2.2.1 = some (tys j)) (hfs : ∀ (b j : Nat), j < q.2.2 → defaultValue (tys j) = vp_V (fs.map (am_c b)) j)
    (h1 : Cond.classLink own idx q.1 ∈ am_ws) (h2 : Cond.instantiable q.1 q.2.2 ∈ am_ws) (h3 : Cond.initialized q.1 ∈ am_ws) (hc : k + 1 ≤ mc) (hs : z + q.2.2 ≤ ms) (kk : am_W x (pc + 3) (k + 1) (z + q.2.2) (am_push h (eO ci fs)) ls (.ref h.1 :: st)) : am_W x pc k z h ls st := by
  obtain ⟨p, l, e, R, s, m, args, below, meth, c, Q, g, nL⟩ := x
  obtain ⟨hx, hb, hml, hown, hts, hI, hlk, hR⟩ := hC
  intro H locs la hH hS hL
  subst hR
  have hKn := hI.1.1 ci _ hq
  refine W.newcK hx hb hown (hts _ h1) (hts _ h2) (hts _ h3) rfl d hc hs hKn.2.1 rfl fun H1 kC hkC e1 z1 o1 => ?_
  have h9 := kk H1 locs la (hH.push _ z1 o1 ⟨_, hq, (u_born tys hts (am_cl_in ci q hq) hKn hkC e1 htys).to (hfs g.1)⟩) (am_S.push hS (by omega) o1) hL
  rw [List.map_cons, am_cA, ← hH.1] at h9
  exact h9

theorem am_objInit {x : am_X} {cc : ByteArray} {own : String} {n mc ms : Nat} (hC : am_C x cc own n mc ms) {pc k z : Nat} {h : am_H} {ls : List (Option Value)} {st : List Value} {idx i : Nat} (d : decode cc pc = .ok (.invokespecial idx, 3)) (hw : Cond.methodLink own idx Lib.objectInit ∈ am_ws) (hn : 1 ≤ n) (hst : (st.map fun v => v.category).sum ≤ 8) (kk : am_W x (pc + 3) k z h ls st) : am_W x pc k z h ls (.ref i :: st) := by
  obtain ⟨p, l, e, R, s, m, args, below, meth, c, Q, g, nL⟩ := x
  obtain ⟨hx, hb, hml, hown, hts, hI, hlk, hR⟩ := hC
  intro H locs la hH hS hL
  subst hR
  have e9 : ((st.map (am_c g.1)).map fun v => v.category).sum = (st.map fun v => v.category).sum := by
    rw [List.map_map]; congr 2; funext v; exact am_cat _ _
  refine W.objInit hx hb hown (hts _ hw) (hts _ (am_in (by decide +kernel) rfl)) (hts _ (am_in (by decide +kernel) rfl)) rfl (by rw [hml]; exact hL.1.1) rfl d hn ?_ ?_
  · show 2 * 0 + _ + 12 ≤ 70 * n
    rw [e9]; omega
  · exact kk H locs la hH hS hL
end
section
theorem am_wid {x : am_X} {cc : ByteArray} {own : String} {n mc ms : Nat} (hC : am_C x cc own n mc ms) {pc k z : Nat} {h : am_H} {ls : List (Option Value)} {st : List Value} {k2 z2 : Nat} (hk : k ≤ k2) (hz : z ≤ z2) (kk : am_W x pc k2 z2 h ls st) : am_W x pc k z h ls st := by
  obtain ⟨p, l, e, R, s, m, args, below, meth, c, Q, g, nL⟩ := x
  obtain ⟨hx, hb, hml, hown, hts, hI, hlk, hR⟩ := hC
  intro H locs la hH hS hL
  exact W.widen hk hz (kk H locs la hH hS hL)
theorem am_catsum (b : Nat) (st : List Value) : ((st.map (am_c b)).map fun v => v.category).sum = (st.map fun v => v.category).sum := by
  rw [List.map_map]; congr 2; funext v; exact am_cat _ _
theorem am_monoQ {p : Program} {l : Launch} {e : Env} {R : Room} {s : State} {m : MethodId} {args : Array Value} {below : List Frame} {meth : Method} {c : Code} {H : Heap} {locs : List Loc} {cells slots : Nat} {Q Q2 : State → Prop} {f : JFrame} (hq : ∀ t, Q2 t → Q t) (h : W p l e R s m args below meth c H locs cells slots Q2 f) : W p l e R s m args below meth c H locs cells slots Q f := by
  intro T hT X
  obtain ⟨t, a, b⟩ := h T hT X
  exact ⟨t, a, hq t b⟩
/-! returns -/

theorem am_iret {x : am_X} {cc : ByteArray} {own : String} {n mc ms : Nat} (hC : am_C x cc own n mc ms) {pc k z : Nat} {h : am_H} {ls : List (Option Value)} {st : List Value} {v : Int} {R0 : Option Value → am_H → Prop} (hT : am_T x (some .int) R0 mc ms) (d : decode cc pc = .ok (.ireturn, 1)) (hk : k ≤ mc) (hz : z ≤ ms) (hr : R0 (some (vI v)) h) : am_W x pc k z h ls [vI v] := by
  obtain ⟨p, l, e, R, s, m, args, below, meth, c, Q, g, nL⟩ := x
  obtain ⟨hx, hb, hml, hown, hts, hI, hlk, hR⟩ := hC
  obtain ⟨hrt, hQ⟩ := hT
  intro H locs la hH hS hL
  refine W.widen hk hz (am_monoQ hQ ?_)
  exact W.iret hx hb hrt (fun t ht hW => ⟨⟨some (vI v), h, rfl, hr, by rw [ht]; exact hH⟩, hS.F ht⟩) hS.2.2 d hlk

theorem am_zret {x : am_X} {cc : ByteArray} {own : String} {n mc ms : Nat} (hC : am_C x cc own n mc ms) {pc k z : Nat} {h : am_H} {ls : List (Option Value)} {st : List Value} {v : Int} {R0 : Option Value → am_H → Prop} (hT : am_T x (some .boolean) R0 mc ms) (d : decode cc pc = .ok (.ireturn, 1)) (hv : v = 0 ∨ v = 1) (hk : k ≤ mc) (hz : z ≤ ms) (hr : R0 (some (vI v)) h) : am_W x pc k z h ls [vI v] := by
  obtain ⟨p, l, e, R, s, m, args, below, meth, c, Q, g, nL⟩ := x
  obtain ⟨hx, hb, hml, hown, hts, hI, hlk, hR⟩ := hC
  obtain ⟨hrt, hQ⟩ := hT
  intro H locs la hH hS hL
  refine W.widen hk hz (am_monoQ hQ ?_)
  exact W.zret hx hb hrt (by rcases hv with rfl | rfl <;> rfl) (fun t ht hW => ⟨⟨some (vI v), h, rfl, hr, by rw [ht]; exact hH⟩, hS.F ht⟩) hS.2.2 d hlk

theorem am_lret {x : am_X} {cc : ByteArray} {own : String} {n mc ms : Nat} (hC : am_C x cc own n mc ms) {pc k z : Nat} {h : am_H} {ls : List (Option Value)} {st : List Value} {v : Int} {R0 : Option Value → am_H → Prop} (hT : am_T x (some .long) R0 mc ms) (d : decode cc pc = .ok (.lreturn, 1)) (hk : k ≤ mc) (hz : z ≤ ms) (hr : R0 (some (vL v)) h) : am_W x pc k z h ls [vL v] := by
  obtain ⟨p, l, e, R, s, m, args, below, meth, c, Q, g, nL⟩ := x
  obtain ⟨hx, hb, hml, hown, hts, hI, hlk, hR⟩ := hC
  obtain ⟨hrt, hQ⟩ := hT
  intro H locs la hH hS hL
  refine W.widen hk hz (am_monoQ hQ ?_)
  exact W.lret hx hb hrt (fun t ht hW => ⟨⟨some (vL v), h, rfl, hr, by rw [ht]; exact hH⟩, hS.F ht⟩) hS.2.2 d hlk

theorem am_vret {x : am_X} {cc : ByteArray} {own : String} {n mc ms : Nat} (hC : am_C x cc own n mc ms) {pc k z : Nat} {h : am_H} {ls : List (Option Value)} {st : List Value} {R0 : Option Value → am_H → Prop} (hT : am_T x none R0 mc ms) (d : decode cc pc = .ok (.return_, 1)) (hk : k ≤ mc) (hz : z ≤ ms) (hr : R0 none h) : am_W x pc k z h ls [] := by
  obtain ⟨p, l, e, R, s, m, args, below, meth, c, Q, g, nL⟩ := x
  obtain ⟨hx, hb, hml, hown, hts, hI, hlk, hR⟩ := hC
  obtain ⟨hrt, hQ⟩ := hT
  intro H locs la hH hS hL
  refine W.widen hk hz (am_monoQ hQ ?_)
  exact W.vret hx hb hrt (fun t ht hW => ⟨⟨none, h, rfl, hr, by rw [ht]; exact hH⟩, hS.F ht⟩) hS.2.2 d hlk
theorem am_aret {x : am_X} {cc : ByteArray} {own : String} {n mc ms : Nat} (hC : am_C x cc own n mc ms) {pc k z : Nat} {h : am_H} {ls : List (Option Value)} {st : List Value} {i : Nat} {C : String} {R0 : Option Value → am_H → Prop} (hT : am_T x (some (.object C)) R0 mc ms) (d : decode cc pc = .ok (.areturn, 1)) (hk : k ≤ mc) (hz : z ≤ ms) (hr : R0 (some (.ref i)) h) : am_W x pc k z h ls [.ref i] := by
  obtain ⟨p, l, e, R, s, m, args, below, meth, c, Q, g, nL⟩ := x
  obtain ⟨hx, hb, hml, hown, hts, hI, hlk, hR⟩ := hC
  obtain ⟨hrt, hQ⟩ := hT
  intro H locs la hH hS hL
  refine W.widen hk hz (am_monoQ hQ ?_)
  exact W.aret hx hb hrt (Or.inl ⟨_, rfl⟩) (Or.inr ⟨_, rfl⟩) (fun t ht hW => ⟨⟨some (.ref i), h, rfl, hr, by rw [ht]; exact hH⟩, hS.F ht⟩) hS.2.2 d hlk
/-! calls -/
/-- what the words say of a call -/
def am_K (y : MethodName) (cc : ByteArray) (maxL : Nat) (ret : Option FieldType) (na : Nat) : Prop := Cond.initialized y.cls ∈ am_ws ∧ Cond.code y cc maxL ret ∈ am_ws ∧ (y.cls ≠ "java/lang/invoke/MethodHandle" ∧ y.cls ≠ "java/lang/invoke/VarHandle" ∧ (parseMethodDescriptor y.desc).map (fun d => d.parameters.length) = some na) ∧ maxL ≤ 50
def am_KV (own : String) (idx : Nat) (y : MethodName) (cc : ByteArray) (maxL : Nat) (ret : Option FieldType) (na : Nat) : Prop := am_K y cc maxL ret na ∧ Cond.methodLink own idx y ∈ am_ws ∧ Cond.instanceMethod y ∈ am_ws ∧ Cond.selects y.cls y y ∈ am_ws
def am_KS (own : String) (idx : Nat) (y : MethodName) (cc : ByteArray) (maxL : Nat) (ret : Option FieldType) (na : Nat) : Prop := am_K y cc maxL ret na ∧ Cond.methodLink own idx y ∈ am_ws ∧ Cond.static y ∈ am_ws
def am_KI (own : String) (idx : Nat) (y : MethodName) (cc : ByteArray) (maxL : Nat) (na : Nat) : Prop := am_K y cc maxL none na ∧ y.name = "<init>" ∧ Cond.instanceMethod y ∈ am_ws ∧ (Cond.methodLink own idx y ∈ am_ws ∨ ∃ host : String, Cond.methodLinkNest own idx y host ∈ lw_tbl)
theorem am_pre {s U : State} {g : am_G} {h : am_H} {H : Heap} {locs : List Loc} {vs : List Value} (hI : am_I g s) (hH : am_R g h H) (hS : va_S (am_A g) s.heap H locs) (hU : U.heap = H) (hW : s.WarmedH U.vm) : am_Pc g vs h (vs.map (am_c g.1)).toArray U :=
  ⟨rfl, hI.moved hW (by rw [hU]; exact hS.1) (fun q h1 h2 => by rw [hU]; exact hS.2.1 q h1 h2), by rw [hU]; exact hH⟩
theorem am_after {x : am_X} {p : Program} {l : Launch} {e : Env} {R : Room} {s : State} {m : MethodId} {args : Array Value} {below : List Frame} {meth : Method} {c : Code} {Q : State → Prop} {g : am_G} {nL : Nat} {H : Heap} {locs : List Loc} {k z mc2 ms2 pc : Nat} {la : Array Slot} {st0 rest : List Value} {ls : List (Option Value)} {a : Array Value} {R1 : Option Value → am_H → Prop}
    (hS : va_S (am_A g) s.heap H locs) (hL : am_L g.1 nL ls la) (hr : va_Run p l e R s m args below meth c H locs k z mc2 ms2 (F0 m pc la st0) (rest.map (am_c g.1)) (am_Q g R1 a) (am_A g))
    (kk : ∀ (r : Option Value) (h1 : am_H), R1 r h1 → am_W (p, l, e, R, s, m, args, below, meth, c, Q, g, nL) (pc + 3) (k + mc2) (z + ms2) h1 ls (r.toList ++ rest)) : W p l e R s m args below meth c H locs k z Q (F0 m pc la st0) := by
  intro T hT X
  obtain ⟨v, st₀, t, T', L, h0, X', hL1, e1, e2, ⟨⟨r, h1, hv, hp, hb⟩, hz, hk⟩, st⟩ := hr T hT X
  cases hv
  rw [h0] at hz hk
  have hS1 : va_S (am_A g) s.heap T'.heap (locs ++ L) := ⟨Nat.le_trans hS.1 (by rw [e1]; exact hz), fun q h1 h2 => by rw [e1, hk q (Nat.lt_of_lt_of_le h1 hS.1) h2]; exact hS.2.1 q h1 h2, fun q hq => by
      rcases List.mem_append.mp hq with h | h
      · exact hS.2.2 q h
      · exact hL1 q h⟩
  have e9 : (r.map (am_c g.1)).toList ++ rest.map (am_c g.1) = (r.toList ++ rest).map (am_c g.1) := by cases r <;> simp
  obtain ⟨t2, a1, b1⟩ := kk r h1 hp T'.heap (locs ++ L) la (by rw [e1]; exact hb) hS1 hL T' rfl X'
  rw [← e9] at a1
  exact ⟨t2, st t2 a1, b1⟩

theorem am_callV {x : am_X} {cc : ByteArray} {own : String} {n mc ms : Nat} (hC : am_C x cc own n mc ms) {pc k z : Nat} {h : am_H} {ls : List (Option Value)} {st : List Value} {idx n2 mc2 ms2 maxL na : Nat} {y : MethodName} {cc2 : ByteArray} {R1 : Option Value → am_H → Prop} {ret : Option FieldType} {i ci : Nat} {fs vs sk : List Value} (d : decode cc pc = .ok (.invokevirtual idx, 3)) (hK : am_KV own idx y cc2 maxL ret na) (hM : am_Met (am_l x) (am_g x) y (am_W1 y cc2 maxL ret) n2 mc2 ms2 (.ref i :: vs) h R1) (hsk : sk = vs.reverse ++ .ref i :: st)
    (ho : h.2 i = some (eO ci fs)) (hq : (am_cl[ci]?).map (·.1) = some y.cls) (hna : vs.length = na) (hst : (st.map fun v => v.category).sum ≤ 8) (hn : n2 + 1 ≤ n) (hc : k + mc2 ≤ mc) (hs : z + ms2 ≤ ms)
    (kk : ∀ (r : Option Value) (h1 : am_H), R1 r h1 → am_W x (pc + 3) (k + mc2) (z + ms2) h1 ls (r.toList ++ st)) : am_W x pc k z h ls sk := by
  obtain ⟨p, l, e, R, s, m, args, below, meth, c, Q, g, nL⟩ := x
  obtain ⟨hx, hb, hml, hown, hts, hI, hlk, hR⟩ := hC
  obtain ⟨⟨k1, k2, k3, k4⟩, k5, k6, k7⟩ := hK
  intro H locs la hH hS hL
  subst hR
  subst hsk
  obtain ⟨q, hq1, hq2⟩ := Option.map_eq_some_iff.mp hq
  have cw := cwV (args := args) (s := s) (R := am_rm n mc ms) (own := own) (C := y.cls) (index := idx) (y := y) (bytes := cc2) (maxL := maxL) (ret := ret) (Ts := am_ws) (ws := am_W1 y cc2 maxL ret) (rm := am_rm n2 mc2 ms2) na hts (goodIn_app (fun w hw => by
      have hm : w ∈ am_ws := by
        simp only [List.mem_cons, List.not_mem_nil, or_false] at hw
        rcases hw with rfl | rfl | rfl | rfl <;> assumption
      exact ⟨hm, good_of_word (am_ws_good w hm)⟩) (am_good1 k2)) rfl rfl rfl ⟨rfl, k3.1, k3.2.1, k3.2.2⟩ ⟨hn, by show 8 + (maxL + 11) + 70 * n2 ≤ 70 * n; omega⟩
  have hrun := va_runV (e := e) (meth := meth) (below := below) (As := vs.map (am_c g.1)) (rest := st.map (am_c g.1)) (b := g.1 + i) (H := H) (locs := locs) (cells := k) (slots := z) (g := F0 m pc la ((vs.reverse ++ .ref i :: st).map (am_c g.1))) ⟨hx, hb, hml, hown, hts⟩ hM cw ⟨am_blind g _ h, by
      have := va_recv hI.1 (hH.one ho) hq1 (q0 := 0) rfl
      rw [hq2] at this
      exact this, fun U hU hW => am_pre (vs := .ref i :: vs) hI hH hS hU hW⟩ rfl (by rw [List.length_map]; exact hna) hL.1.1 (by rw [List.map_append, List.map_reverse]; rfl) (lv_room (by rw [am_catsum]; exact hst)) d ⟨hc, hs⟩
  exact am_after (x := (p, l, e, am_rm n mc ms, s, m, args, below, meth, c, Q, g, nL)) hS hL hrun kk
theorem am_callS {x : am_X} {cc : ByteArray} {own : String} {n mc ms : Nat} (hC : am_C x cc own n mc ms) {pc k z : Nat} {h : am_H} {ls : List (Option Value)} {st : List Value} {idx n2 mc2 ms2 maxL na : Nat} {y : MethodName} {cc2 : ByteArray} {R1 : Option Value → am_H → Prop} {ret : Option FieldType} {vs sk : List Value} (d : decode cc pc = .ok (.invokestatic idx, 3)) (hK : am_KS own idx y cc2 maxL ret na) (hM : am_Met (am_l x) (am_g x) y (am_W1 y cc2 maxL ret) n2 mc2 ms2 vs h R1) (hsk : sk = vs.reverse ++ st)
    (hna : vs.length = na) (hst : (st.map fun v => v.category).sum ≤ 8) (hn : n2 + 1 ≤ n) (hc : k + mc2 ≤ mc) (hs : z + ms2 ≤ ms)
    (kk : ∀ (r : Option Value) (h1 : am_H), R1 r h1 → am_W x (pc + 3) (k + mc2) (z + ms2) h1 ls (r.toList ++ st)) : am_W x pc k z h ls sk := by
  obtain ⟨p, l, e, R, s, m, args, below, meth, c, Q, g, nL⟩ := x
  obtain ⟨hx, hb, hml, hown, hts, hI, hlk, hR⟩ := hC
  obtain ⟨⟨k1, k2, k3, k4⟩, k5, k6⟩ := hK
  intro H locs la hH hS hL
  subst hR
  subst hsk
  have cw := va_cwS (args := args) (s := s) (R := am_rm n mc ms) (own := own) (index := idx) (y := y) (bytes := cc2) (maxL := maxL) (ret := ret) (Ts := am_ws) (ws := am_W1 y cc2 maxL ret) (rm := am_rm n2 mc2 ms2) na hts (goodIn_app (fun w hw => by
      have hm : w ∈ am_ws := by
        simp only [List.mem_cons, List.not_mem_nil, or_false] at hw
        rcases hw with rfl | rfl | rfl <;> assumption
      exact ⟨hm, good_of_word (am_ws_good w hm)⟩) (am_good1 k2)) rfl rfl rfl k3 ⟨hn, by show 8 + (maxL + 11) + 70 * n2 ≤ 70 * n; omega⟩
  have hrun := va_runS (e := e) (meth := meth) (below := below) (As := vs.map (am_c g.1)) (rest := st.map (am_c g.1)) (H := H) (locs := locs) (cells := k) (slots := z) (g := F0 m pc la ((vs.reverse ++ st).map (am_c g.1))) ⟨hx, hb, hml, hown, hts⟩ hM cw ⟨am_blind g _ h, fun U hU hW => am_pre (vs := vs) hI hH hS hU hW⟩ rfl (by rw [List.length_map]; exact hna) hL.1.1 (by rw [List.map_append, List.map_reverse]) (lv_room (by rw [am_catsum]; exact hst)) d ⟨hc, hs⟩
  exact am_after (x := (p, l, e, am_rm n mc ms, s, m, args, below, meth, c, Q, g, nL)) hS hL hrun kk
theorem am_callI {x : am_X} {cc : ByteArray} {own : String} {n mc ms : Nat} (hC : am_C x cc own n mc ms) {pc k z : Nat} {h : am_H} {ls : List (Option Value)} {st : List Value} {idx n2 mc2 ms2 maxL na : Nat} {y : MethodName} {cc2 : ByteArray} {R1 : Option Value → am_H → Prop} {i : Nat} {vs sk : List Value} (d : decode cc pc = .ok (.invokespecial idx, 3)) (hK : am_KI own idx y cc2 maxL na) (hM : am_Met (am_l x) (am_g x) y (am_W1 y cc2 maxL none) n2 mc2 ms2 (.ref i :: vs) h R1) (hsk : sk = vs.reverse ++ .ref i :: st)
    (hna : vs.length = na) (hst : (st.map fun v => v.category).sum ≤ 8) (hn : n2 + 1 ≤ n) (hc : k + mc2 ≤ mc) (hs : z + ms2 ≤ ms)
    (kk : ∀ (r : Option Value) (h1 : am_H), R1 r h1 → am_W x (pc + 3) (k + mc2) (z + ms2) h1 ls (r.toList ++ st)) : am_W x pc k z h ls sk := by
  obtain ⟨p, l, e, R, s, m, args, below, meth, c, Q, g, nL⟩ := x
  obtain ⟨hx, hb, hml, hown, hts, hI, hlk, hR⟩ := hC
  obtain ⟨⟨k1, k2, k3, k4⟩, k5, k6, k7⟩ := hK
  intro H locs la hH hS hL
  subst hR
  subst hsk
  rcases k7 with k7 | ⟨host, k7⟩
  · have cw := cwI (args := args) (s := s) (R := am_rm n mc ms) (own := own) (index := idx) (y := y) (bytes := cc2) (maxL := maxL) (Ts := am_ws) (ws := am_W1 y cc2 maxL none) (rm := am_rm n2 mc2 ms2) na hts (am_good1 k2) rfl rfl rfl (hts _ k1) (hts _ k7) (hts _ k6) k5 k3 ⟨hn, by show 8 + (maxL + 11) + 70 * n2 ≤ 70 * n; omega⟩
    have hrun := va_runI (e := e) (meth := meth) (below := below) (As := vs.map (am_c g.1)) (b := g.1 + i) (rest := st.map (am_c g.1)) (H := H) (locs := locs) (cells := k) (slots := z) (g := F0 m pc la ((vs.reverse ++ .ref i :: st).map (am_c g.1))) ⟨hx, hb, hml, hown, hts⟩ hM cw ⟨am_blind g _ h, fun U hU hW => am_pre (vs := .ref i :: vs) hI hH hS hU hW⟩ rfl (by rw [List.length_map]; exact hna) hL.1.1 (by rw [List.map_append, List.map_reverse]; rfl) (lv_room (by rw [am_catsum]; exact hst)) d ⟨hc, hs⟩
    exact am_after (x := (p, l, e, am_rm n mc ms, s, m, args, below, meth, c, Q, g, nL)) hS hL hrun kk
  · have cw := va_cnB (args := args) (s := s) (R := am_rm n mc ms) (own := own) (host := host) (index := idx) (y := y) (bytes := cc2) (maxL := maxL) (ret := none) (Ts := am_ws) (ws := am_W1 y cc2 maxL none) (rm := am_rm n2 mc2 ms2) na hts (am_good1 k2) rfl rfl rfl (hI.2.2.2.2.2.1 _ _ _ _ k7) (hts _ k1) k3 ⟨hn, by show 8 + (maxL + 11) + 70 * n2 ≤ 70 * n; omega⟩
    have hrun := va_runIN (e := e) (meth := meth) (below := below) (As := vs.map (am_c g.1)) (b := g.1 + i) (rest := st.map (am_c g.1)) (H := H) (locs := locs) (cells := k) (slots := z) (g := F0 m pc la ((vs.reverse ++ .ref i :: st).map (am_c g.1))) ⟨hx, hb, hml, hown, hts⟩ hM ⟨cw, k5, hts _ k6⟩ ⟨am_blind g _ h, fun U hU hW => am_pre (vs := .ref i :: vs) hI hH hS hU hW⟩ rfl (by rw [List.length_map]; exact hna) hL.1.1 (by rw [List.map_append, List.map_reverse]; rfl) (lv_room (by rw [am_catsum]; exact hst)) d ⟨hc, hs⟩
    exact am_after (x := (p, l, e, am_rm n mc ms, s, m, args, below, meth, c, Q, g, nL)) hS hL hrun kk

/-! throws -/
/-- "throw new E(text)" out of class own: its words -/
def am_KT (own : String) (ik is ic : Nat) (E text : String) (names : List String) : Prop := Bundle.fit E = true ∧ (∀ q ∈ names, Bundle.fit q = true) ∧ Cond.classLink own ik E ∈ am_ws ∧ Cond.initialized E ∈ am_ws ∧ own = RX4 ∧ Cond.stringRef RX4 is text ∈ lw_tbl ∧
  (∀ w ∈ vx_atS own ic E names, w ∈ am_ws ∨ (w = .castable E E)) ∧ Cond.castable E E ∈ lw_tbl ∧ (∀ w ∈ Cond.classLink own ik E :: Cond.initialized E :: vx_atS own ic E names, vx_ot w = true)
theorem am_throw {x : am_X} {cc : ByteArray} {own : String} {n mc ms : Nat} (hC : am_C x cc own n mc ms) {pc k z : Nat} {h : am_H} {ls : List (Option Value)} {st : List Value} {ik is ic : Nat} {E text : String} {names : List String} {X : String → am_H → Prop} (hTX : am_TX x X mc ms) (hK : am_KT own ik is ic E text names)
    (d0 : decode cc pc = .ok (.new ik, 3)) (d3 : decode cc (pc + 3) = .ok (.dup, 1)) (d4 : decode cc (pc + 4) = .ok (.ldc is, 2)) (d6 : decode cc (pc + 6) = .ok (.invokespecial ic, 3)) (d9 : decode cc (pc + 9) = .ok (.athrow, 1))
    (hn : names.length + 3 < n) (hst : (st.map fun v => v.category).sum ≤ 8) (hc : k + 1 ≤ mc) (hs : z + 6 ≤ ms) (hX : ∀ n1 : Nat, h.1 ≤ n1 → X E (n1, h.2)) : am_W x pc k z h ls st := by
  obtain ⟨p, l, e, R, s, m, args, below, meth, c, Q, g, nL⟩ := x
  obtain ⟨hx, hb, hml, hown, hts, hI, hlk, hR⟩ := hC
  obtain ⟨hl, htab, R0, hQ⟩ := hTX
  intro H locs la hH hS hL
  subst hR
  subst hQ
  obtain ⟨t1, t2, t3, t4, t5, t6, t7, t8, t9⟩ := hK
  obtain ⟨sa, hsa⟩ := hI.2.2.2.2.2.2.2.2.1 _ _ t6
  rw [← t5] at hsa
  refine vx_throwS (XC := am_XC g X) hx hb hl hown t1 t2 (hts _ t3) (hts _ t4) hsa (fun w hw => ?_) t9 hI.2.1 hI.2.2.1 hS (by rw [hml]; exact hL.1.1) d0 d3 d4 d6 d9 (fun y hy => (htab y hy).elim) hn ?_ hc hs hlk (fun t hv hz hq => ?_) hS.2.2 hc hs
  · rcases t7 w hw with q | q
    · exact hts w q
    · subst q
      exact va_Nw.use rfl (hI.2.2.2.2.2.2.2.2.2.1 _ _ t8)
  · show _ ≤ 70 * n
    rw [am_catsum]
    omega
  · have hzz : H.size ≤ t.heap.size := hz
    have hb1 := hH.1
    refine ⟨⟨(t.heap.size - g.1, h.2), hX _ (by omega), hH.grow _ (by omega) hq⟩, Nat.le_trans hS.1 hz, fun q h1 h2 => ?_⟩
    rw [hq q (Nat.lt_of_lt_of_le h1 hS.1)]
    exact hS.2.1 q h1 h2
/-- a callee that may throw: what it throws goes on to the caller -/
theorem am_afterX {p : Program} {l : Launch} {e : Env} {R : Room} {s : State} {m : MethodId} {args : Array Value} {below : List Frame} {meth : Method} {c : Code} {Q : State → Prop} {g : am_G} {nL : Nat} {H : Heap} {locs : List Loc} {k z mc ms mc2 ms2 pc : Nat} {la : Array Slot} {st0 rest : List Value} {ls : List (Option Value)} {a : Array Value} {R0 R1 : Option Value → am_H → Prop} {X X1 : String → am_H → Prop}
    (hS : va_S (am_A g) s.heap H locs) (hL : am_L g.1 nL ls la) (hlk : meth.locks = false) (htab : ∀ y ∈ c.exceptionTable.toList, False) (hQ : Q = vx_MQ below (am_Q g R0) (am_XC g X) args s mc ms (am_A g)) (hc : k + mc2 ≤ mc) (hs : z + ms2 ≤ ms) (hX : ∀ E h1, X1 E h1 → X E h1)
    (hr : vx_Run p l e R s m args below meth c H locs k z mc2 ms2 (F0 m pc la st0) (rest.map (am_c g.1)) (am_Q g R1 a) (am_XC g X1) (am_A g))
    (kk : ∀ (r : Option Value) (h1 : am_H), R1 r h1 → am_W (p, l, e, R, s, m, args, below, meth, c, Q, g, nL) (pc + 3) (k + mc2) (z + ms2) h1 ls (r.toList ++ rest)) : W p l e R s m args below meth c H locs k z Q (F0 m pc la st0) := by
  intro T hT X0
  have keep : ∀ {st₀ t T' : State} {L : List Loc}, st₀.heap = H → T'.heap = t.heap → (∀ q ∈ L, am_A g q.base) → va_F (am_A g) st₀ t → va_S (am_A g) s.heap T'.heap (locs ++ L) := by
    intro st₀ t T' L h0 e1 hL1 hF
    obtain ⟨hz, hk⟩ := hF
    rw [h0] at hz hk
    exact ⟨Nat.le_trans hS.1 (by rw [e1]; exact hz), fun q h1 h2 => by rw [e1, hk q (Nat.lt_of_lt_of_le h1 hS.1) h2]; exact hS.2.1 q h1 h2, fun q hq => by
      rcases List.mem_append.mp hq with h | h
      · exact hS.2.2 q h
      · exact hL1 q h⟩
  rcases hr T hT X0 with ⟨v, st₀, t, T', L, h0, X', hL1, e1, e2, ⟨⟨r, h1, hv, hp, hb⟩, hF⟩, st⟩ | ⟨q, st₀, t, T', L, E, ce, h0, X', hL1, e1, e2, ⟨⟨h1, hp, hb⟩, hF⟩, hce, hcv, hcl, st⟩
  · cases hv
    have e9 : (r.map (am_c g.1)).toList ++ rest.map (am_c g.1) = (r.toList ++ rest).map (am_c g.1) := by cases r <;> simp
    obtain ⟨t2, a1, b1⟩ := kk r h1 hp T'.heap (locs ++ L) la (by rw [e1]; exact hb) (keep h0 e1 hL1 hF) hL T' rfl X'
    rw [← e9] at a1
    exact ⟨t2, st t2 a1, b1⟩
  · subst hQ
    have hS1 := keep h0 e1 hL1 hF
    obtain ⟨t2, a1, b1⟩ := vx_out (Qc := am_Q g R0) (XC := am_XC g X) (rest := rest.map (am_c g.1)) (ls := la) (pc := pc) (H := T'.heap) (fun y hy => (htab y hy).elim) hlk (by rw [e1]; exact hce) hcv hcl (fun t9 ht9 hv9 => ⟨⟨h1, hX _ _ hp, by rw [ht9, e1]; exact hb⟩, hS1.F ht9⟩) hS1.2.2 hc hs T' rfl X'
    exact ⟨t2, st.trans a1, b1⟩
theorem am_xcallV {x : am_X} {cc : ByteArray} {own : String} {n mc ms : Nat} (hC : am_C x cc own n mc ms) {pc k z : Nat} {h : am_H} {ls : List (Option Value)} {st : List Value} {idx n2 mc2 ms2 maxL na : Nat} {y : MethodName} {cc2 : ByteArray} {R1 : Option Value → am_H → Prop} {ret : Option FieldType} {X X1 : String → am_H → Prop} {i ci : Nat} {fs vs sk : List Value} (hTX : am_TX x X mc ms) (d : decode cc pc = .ok (.invokevirtual idx, 3)) (hK : am_KV own idx y cc2 maxL ret na) (hM : am_MetX (am_l x) (am_g x) y (am_W1 y cc2 maxL ret) n2 mc2 ms2 (.ref i :: vs) h R1 X1) (hsk : sk = vs.reverse ++ .ref i :: st)
    (ho : h.2 i = some (eO ci fs)) (hq : (am_cl[ci]?).map (·.1) = some y.cls) (hna : vs.length = na) (hst : (st.map fun v => v.category).sum ≤ 8) (hn : n2 + 1 ≤ n) (hc : k + mc2 ≤ mc) (hs : z + ms2 ≤ ms) (hX : ∀ E h1, X1 E h1 → X E h1)
    (kk : ∀ (r : Option Value) (h1 : am_H), R1 r h1 → am_W x (pc + 3) (k + mc2) (z + ms2) h1 ls (r.toList ++ st)) : am_W x pc k z h ls sk := by
  obtain ⟨p, l, e, R, s, m, args, below, meth, c, Q, g, nL⟩ := x
  obtain ⟨hx, hb, hml, hown, hts, hI, hlk, hR⟩ := hC
  obtain ⟨⟨k1, k2, k3, k4⟩, k5, k6, k7⟩ := hK
  obtain ⟨hl, htab, R0, hQ⟩ := hTX
  intro H locs la hH hS hL
  subst hR
  subst hsk
  obtain ⟨q, hq1, hq2⟩ := Option.map_eq_some_iff.mp hq
  have cw := cwV (args := args) (s := s) (R := am_rm n mc ms) (own := own) (C := y.cls) (index := idx) (y := y) (bytes := cc2) (maxL := maxL) (ret := ret) (Ts := am_ws) (ws := am_W1 y cc2 maxL ret) (rm := am_rm n2 mc2 ms2) na hts (goodIn_app (fun w hw => by
      have hm : w ∈ am_ws := by
        simp only [List.mem_cons, List.not_mem_nil, or_false] at hw
        rcases hw with rfl | rfl | rfl | rfl <;> assumption
      exact ⟨hm, good_of_word (am_ws_good w hm)⟩) (am_good1 k2)) rfl rfl rfl ⟨rfl, k3.1, k3.2.1, k3.2.2⟩ ⟨hn, by show 8 + (maxL + 11) + 70 * n2 ≤ 70 * n; omega⟩
  have hrun := vx_runV (e := e) (meth := meth) (below := below) (As := vs.map (am_c g.1)) (rest := st.map (am_c g.1)) (b := g.1 + i) (H := H) (locs := locs) (cells := k) (slots := z) (g := F0 m pc la ((vs.reverse ++ .ref i :: st).map (am_c g.1))) ⟨hx, hb, hml, hown, hts⟩ hM cw ⟨am_blind g _ h, by
      have := va_recv hI.1 (hH.one ho) hq1 (q0 := 0) rfl
      rw [hq2] at this
      exact this, fun U hU hW => am_pre (vs := .ref i :: vs) hI hH hS hU hW⟩ rfl (by rw [List.length_map]; exact hna) hL.1.1 (by rw [List.map_append, List.map_reverse]; rfl) (lv_room (by rw [am_catsum]; exact hst)) d ⟨hc, hs⟩
  exact am_afterX hS hL hlk htab hQ hc hs hX hrun kk
theorem am_xcallS {x : am_X} {cc : ByteArray} {own : String} {n mc ms : Nat} (hC : am_C x cc own n mc ms) {pc k z : Nat} {h : am_H} {ls : List (Option Value)} {st : List Value} {idx n2 mc2 ms2 maxL na : Nat} {y : MethodName} {cc2 : ByteArray} {R1 : Option Value → am_H → Prop} {ret : Option FieldType} {X X1 : String → am_H → Prop} {vs sk : List Value} (hTX : am_TX x X mc ms) (d : decode cc pc = .ok (.invokestatic idx, 3)) (hK : am_KS own idx y cc2 maxL ret na) (hM : am_MetX (am_l x) (am_g x) y (am_W1 y cc2 maxL ret) n2 mc2 ms2 vs h R1 X1) (hsk : sk = vs.reverse ++ st)
    (hna : vs.length = na) (hst : (st.map fun v => v.category).sum ≤ 8) (hn : n2 + 1 ≤ n) (hc : k + mc2 ≤ mc) (hs : z + ms2 ≤ ms) (hX : ∀ E h1, X1 E h1 → X E h1)
    (kk : ∀ (r : Option Value) (h1 : am_H), R1 r h1 → am_W x (pc + 3) (k + mc2) (z + ms2) h1 ls (r.toList ++ st)) : am_W x pc k z h ls sk := by
  obtain ⟨p, l, e, R, s, m, args, below, meth, c, Q, g, nL⟩ := x
  obtain ⟨hx, hb, hml, hown, hts, hI, hlk, hR⟩ := hC
  obtain ⟨⟨k1, k2, k3, k4⟩, k5, k6⟩ := hK
  obtain ⟨hl, htab, R0, hQ⟩ := hTX
  intro H locs la hH hS hL
  subst hR
  subst hsk
  have cw := va_cwS (args := args) (s := s) (R := am_rm n mc ms) (own := own) (index := idx) (y := y) (bytes := cc2) (maxL := maxL) (ret := ret) (Ts := am_ws) (ws := am_W1 y cc2 maxL ret) (rm := am_rm n2 mc2 ms2) na hts (goodIn_app (fun w hw => by
      have hm : w ∈ am_ws := by
        simp only [List.mem_cons, List.not_mem_nil, or_false] at hw
        rcases hw with rfl | rfl | rfl <;> assumption
      exact ⟨hm, good_of_word (am_ws_good w hm)⟩) (am_good1 k2)) rfl rfl rfl k3 ⟨hn, by show 8 + (maxL + 11) + 70 * n2 ≤ 70 * n; omega⟩
  have hrun := vx_runS (e := e) (meth := meth) (below := below) (As := vs.map (am_c g.1)) (rest := st.map (am_c g.1)) (H := H) (locs := locs) (cells := k) (slots := z) (g := F0 m pc la ((vs.reverse ++ st).map (am_c g.1))) ⟨hx, hb, hml, hown, hts⟩ hM cw ⟨am_blind g _ h, fun U hU hW => am_pre (vs := vs) hI hH hS hU hW⟩ rfl (by rw [List.length_map]; exact hna) hL.1.1 (by rw [List.map_append, List.map_reverse]) (lv_room (by rw [am_catsum]; exact hst)) d ⟨hc, hs⟩
  exact am_afterX hS hL hlk htab hQ hc hs hX hrun kk
end

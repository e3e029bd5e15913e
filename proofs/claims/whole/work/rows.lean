section
-- ===== PART A: goes FIRST, ahead of the names: the tables' words, and 'selects' of the private methods out of them =====
/-- a private method of a class that the tables say can be made, by its rows of tables_1 -/
def lw_okq (q : MethodName × Nat) : Prop := (q.1.cls ≠ "java/lang/invoke/MethodHandle" ∧ q.1.cls ≠ "java/lang/invoke/VarHandle") ∧ Cond.instantiable q.1.cls q.2 ∈ tables_1 ∧ Cond.privateMethod q.1 ∈ tables_1 ∧ Cond.instanceMethod q.1 ∈ tables_1
theorem lw_p0 : lw_okq (⟨"EditFinder$Reader", "fail", "(II)V"⟩, 7) := ⟨⟨by decide +kernel, by decide +kernel⟩, List.mem_of_getElem? (i := 86) (by decide +kernel), List.mem_of_getElem? (i := 370) (by decide +kernel), List.mem_of_getElem? (i := 371) (by decide +kernel)⟩
theorem lw_p1 : lw_okq (⟨"EditFinder$Reader", "readElement", "()V"⟩, 7) := ⟨⟨by decide +kernel, by decide +kernel⟩, List.mem_of_getElem? (i := 86) (by decide +kernel), List.mem_of_getElem? (i := 374) (by decide +kernel), List.mem_of_getElem? (i := 375) (by decide +kernel)⟩
theorem lw_p2 : lw_okq (⟨"EditFinder$Reader", "readItems", "()V"⟩, 7) := ⟨⟨by decide +kernel, by decide +kernel⟩, List.mem_of_getElem? (i := 86) (by decide +kernel), List.mem_of_getElem? (i := 382) (by decide +kernel), List.mem_of_getElem? (i := 383) (by decide +kernel)⟩
theorem lw_p3 : lw_okq (⟨"EditFinder$Reader", "readItem", "()V"⟩, 7) := ⟨⟨by decide +kernel, by decide +kernel⟩, List.mem_of_getElem? (i := 86) (by decide +kernel), List.mem_of_getElem? (i := 386) (by decide +kernel), List.mem_of_getElem? (i := 387) (by decide +kernel)⟩
theorem lw_p4 : lw_okq (⟨"EditFinder$Reader", "takeByte", "()I"⟩, 7) := ⟨⟨by decide +kernel, by decide +kernel⟩, List.mem_of_getElem? (i := 86) (by decide +kernel), List.mem_of_getElem? (i := 390) (by decide +kernel), List.mem_of_getElem? (i := 391) (by decide +kernel)⟩
theorem lw_p5 : lw_okq (⟨"EditFinder$Reader", "addRange", "(II)V"⟩, 7) := ⟨⟨by decide +kernel, by decide +kernel⟩, List.mem_of_getElem? (i := 86) (by decide +kernel), List.mem_of_getElem? (i := 394) (by decide +kernel), List.mem_of_getElem? (i := 395) (by decide +kernel)⟩
theorem lw_p6 : lw_okq (⟨"EditFinder$Reader", "turnRound", "()V"⟩, 7) := ⟨⟨by decide +kernel, by decide +kernel⟩, List.mem_of_getElem? (i := 86) (by decide +kernel), List.mem_of_getElem? (i := 400) (by decide +kernel), List.mem_of_getElem? (i := 401) (by decide +kernel)⟩
theorem lw_p7 : lw_okq (⟨"EditFinder", "isPattern", "(I)Z"⟩, 11) := ⟨⟨by decide +kernel, by decide +kernel⟩, List.mem_of_getElem? (i := 16) (by decide +kernel), List.mem_of_getElem? (i := 429) (by decide +kernel), List.mem_of_getElem? (i := 430) (by decide +kernel)⟩
theorem lw_p8 : lw_okq (⟨"EditFinder$Search", "closeAbove", "(I)V"⟩, 11) := ⟨⟨by decide +kernel, by decide +kernel⟩, List.mem_of_getElem? (i := 121) (by decide +kernel), List.mem_of_getElem? (i := 524) (by decide +kernel), List.mem_of_getElem? (i := 525) (by decide +kernel)⟩
theorem lw_p9 : lw_okq (⟨"EditFinder$Search", "fillColumn", "(II)V"⟩, 11) := ⟨⟨by decide +kernel, by decide +kernel⟩, List.mem_of_getElem? (i := 121) (by decide +kernel), List.mem_of_getElem? (i := 533) (by decide +kernel), List.mem_of_getElem? (i := 534) (by decide +kernel)⟩
theorem lw_p10 : lw_okq (⟨"EditFinder$Search", "lowerTop", "(I)V"⟩, 11) := ⟨⟨by decide +kernel, by decide +kernel⟩, List.mem_of_getElem? (i := 121) (by decide +kernel), List.mem_of_getElem? (i := 538) (by decide +kernel), List.mem_of_getElem? (i := 539) (by decide +kernel)⟩
theorem lw_p11 : lw_okq (⟨"EditFinder$Ruler", "lay", "(LEditFinder$SetRow;LEditFinder$ByteRow;IIZ)V"⟩, 16) := ⟨⟨by decide +kernel, by decide +kernel⟩, List.mem_of_getElem? (i := 164) (by decide +kernel), List.mem_of_getElem? (i := 570) (by decide +kernel), List.mem_of_getElem? (i := 571) (by decide +kernel)⟩
theorem lw_p12 : lw_okq (⟨"EditFinder$Ruler", "measure", "(I)I"⟩, 16) := ⟨⟨by decide +kernel, by decide +kernel⟩, List.mem_of_getElem? (i := 164) (by decide +kernel), List.mem_of_getElem? (i := 575) (by decide +kernel), List.mem_of_getElem? (i := 576) (by decide +kernel)⟩
theorem lw_p13 : lw_okq (⟨"EditFinder$Ruler", "fillFirstColumn", "()V"⟩, 16) := ⟨⟨by decide +kernel, by decide +kernel⟩, List.mem_of_getElem? (i := 164) (by decide +kernel), List.mem_of_getElem? (i := 588) (by decide +kernel), List.mem_of_getElem? (i := 589) (by decide +kernel)⟩
theorem lw_p14 : lw_okq (⟨"EditFinder$Ruler", "closeAbove", "(I)V"⟩, 16) := ⟨⟨by decide +kernel, by decide +kernel⟩, List.mem_of_getElem? (i := 164) (by decide +kernel), List.mem_of_getElem? (i := 592) (by decide +kernel), List.mem_of_getElem? (i := 593) (by decide +kernel)⟩
theorem lw_p15 : lw_okq (⟨"EditFinder$Ruler", "fillColumn", "(I)I"⟩, 16) := ⟨⟨by decide +kernel, by decide +kernel⟩, List.mem_of_getElem? (i := 164) (by decide +kernel), List.mem_of_getElem? (i := 597) (by decide +kernel), List.mem_of_getElem? (i := 598) (by decide +kernel)⟩
def lw_privs_1 : List (MethodName × Nat) := [(⟨"EditFinder$Reader", "fail", "(II)V"⟩, 7), (⟨"EditFinder$Reader", "readElement", "()V"⟩, 7), (⟨"EditFinder$Reader", "readItems", "()V"⟩, 7), (⟨"EditFinder$Reader", "readItem", "()V"⟩, 7), (⟨"EditFinder$Reader", "takeByte", "()I"⟩, 7), (⟨"EditFinder$Reader", "addRange", "(II)V"⟩, 7), (⟨"EditFinder$Reader", "turnRound", "()V"⟩, 7), (⟨"EditFinder", "isPattern", "(I)Z"⟩, 11), (⟨"EditFinder$Search", "closeAbove", "(I)V"⟩, 11), (⟨"EditFinder$Search", "fillColumn", "(II)V"⟩, 11), (⟨"EditFinder$Search", "lowerTop", "(I)V"⟩, 11), (⟨"EditFinder$Ruler", "lay", "(LEditFinder$SetRow;LEditFinder$ByteRow;IIZ)V"⟩, 16), (⟨"EditFinder$Ruler", "measure", "(I)I"⟩, 16), (⟨"EditFinder$Ruler", "fillFirstColumn", "()V"⟩, 16), (⟨"EditFinder$Ruler", "closeAbove", "(I)V"⟩, 16), (⟨"EditFinder$Ruler", "fillColumn", "(I)I"⟩, 16)]
theorem lw_r1 : ∀ q ∈ lw_privs_1, lw_okq q := List.forall_mem_cons.mpr ⟨lw_p0, List.forall_mem_cons.mpr ⟨lw_p1, List.forall_mem_cons.mpr ⟨lw_p2, List.forall_mem_cons.mpr ⟨lw_p3, List.forall_mem_cons.mpr ⟨lw_p4, List.forall_mem_cons.mpr ⟨lw_p5, List.forall_mem_cons.mpr ⟨lw_p6, List.forall_mem_cons.mpr ⟨lw_p7, List.forall_mem_cons.mpr ⟨lw_p8, List.forall_mem_cons.mpr ⟨lw_p9, List.forall_mem_cons.mpr ⟨lw_p10, List.forall_mem_cons.mpr ⟨lw_p11, List.forall_mem_cons.mpr ⟨lw_p12, List.forall_mem_cons.mpr ⟨lw_p13, List.forall_mem_cons.mpr ⟨lw_p14, List.forall_mem_cons.mpr ⟨lw_p15, fun _ h => absurd h List.not_mem_nil⟩⟩⟩⟩⟩⟩⟩⟩⟩⟩⟩⟩⟩⟩⟩⟩
theorem lw_p16 : lw_okq (⟨"EditFinder$Ruler", "turnColumns", "(I)V"⟩, 16) := ⟨⟨by decide +kernel, by decide +kernel⟩, List.mem_of_getElem? (i := 164) (by decide +kernel), List.mem_of_getElem? (i := 602) (by decide +kernel), List.mem_of_getElem? (i := 603) (by decide +kernel)⟩
theorem lw_p17 : lw_okq (⟨"EditFinder$Ruler", "best", "(II)I"⟩, 16) := ⟨⟨by decide +kernel, by decide +kernel⟩, List.mem_of_getElem? (i := 164) (by decide +kernel), List.mem_of_getElem? (i := 607) (by decide +kernel), List.mem_of_getElem? (i := 608) (by decide +kernel)⟩
theorem lw_p18 : lw_okq (⟨"EditFinder$Ruler", "isSwap", "(I)Z"⟩, 16) := ⟨⟨by decide +kernel, by decide +kernel⟩, List.mem_of_getElem? (i := 164) (by decide +kernel), List.mem_of_getElem? (i := 611) (by decide +kernel), List.mem_of_getElem? (i := 612) (by decide +kernel)⟩
theorem lw_p19 : lw_okq (⟨"EditFinder$StepTable", "cellOf", "(II)I"⟩, 3) := ⟨⟨by decide +kernel, by decide +kernel⟩, List.mem_of_getElem? (i := 174) (by decide +kernel), List.mem_of_getElem? (i := 619) (by decide +kernel), List.mem_of_getElem? (i := 620) (by decide +kernel)⟩
theorem lw_p20 : lw_okq (⟨"EditFinder$Ruler", "walkBack", "(LEditFinder$Way;)V"⟩, 16) := ⟨⟨by decide +kernel, by decide +kernel⟩, List.mem_of_getElem? (i := 164) (by decide +kernel), List.mem_of_getElem? (i := 625) (by decide +kernel), List.mem_of_getElem? (i := 626) (by decide +kernel)⟩
theorem lw_p21 : lw_okq (⟨"EditFinder", "draftReplaced", "()I"⟩, 11) := ⟨⟨by decide +kernel, by decide +kernel⟩, List.mem_of_getElem? (i := 16) (by decide +kernel), List.mem_of_getElem? (i := 681) (by decide +kernel), List.mem_of_getElem? (i := 682) (by decide +kernel)⟩
theorem lw_p22 : lw_okq (⟨"EditFinderModel", "blame", "(II)I"⟩, 46) := ⟨⟨by decide +kernel, by decide +kernel⟩, List.mem_of_getElem? (i := 711) (by decide +kernel), List.mem_of_getElem? (i := 872) (by decide +kernel), List.mem_of_getElem? (i := 873) (by decide +kernel)⟩
theorem lw_p23 : lw_okq (⟨"EditFinderModel", "element", "()V"⟩, 46) := ⟨⟨by decide +kernel, by decide +kernel⟩, List.mem_of_getElem? (i := 711) (by decide +kernel), List.mem_of_getElem? (i := 876) (by decide +kernel), List.mem_of_getElem? (i := 877) (by decide +kernel)⟩
theorem lw_p24 : lw_okq (⟨"EditFinderModel", "putAll", "(II)V"⟩, 46) := ⟨⟨by decide +kernel, by decide +kernel⟩, List.mem_of_getElem? (i := 711) (by decide +kernel), List.mem_of_getElem? (i := 880) (by decide +kernel), List.mem_of_getElem? (i := 881) (by decide +kernel)⟩
theorem lw_p25 : lw_okq (⟨"EditFinderModel", "put", "(I)V"⟩, 46) := ⟨⟨by decide +kernel, by decide +kernel⟩, List.mem_of_getElem? (i := 711) (by decide +kernel), List.mem_of_getElem? (i := 884) (by decide +kernel), List.mem_of_getElem? (i := 885) (by decide +kernel)⟩
theorem lw_p26 : lw_okq (⟨"EditFinderModel", "bracket", "()V"⟩, 46) := ⟨⟨by decide +kernel, by decide +kernel⟩, List.mem_of_getElem? (i := 711) (by decide +kernel), List.mem_of_getElem? (i := 888) (by decide +kernel), List.mem_of_getElem? (i := 889) (by decide +kernel)⟩
theorem lw_p27 : lw_okq (⟨"EditFinderModel", "itemByte", "()I"⟩, 46) := ⟨⟨by decide +kernel, by decide +kernel⟩, List.mem_of_getElem? (i := 711) (by decide +kernel), List.mem_of_getElem? (i := 892) (by decide +kernel), List.mem_of_getElem? (i := 893) (by decide +kernel)⟩
theorem lw_p28 : lw_okq (⟨"EditFinderModel", "isThere", "(I)Z"⟩, 46) := ⟨⟨by decide +kernel, by decide +kernel⟩, List.mem_of_getElem? (i := 711) (by decide +kernel), List.mem_of_getElem? (i := 905) (by decide +kernel), List.mem_of_getElem? (i := 906) (by decide +kernel)⟩
theorem lw_p29 : lw_okq (⟨"EditFinderModel", "remember", "()V"⟩, 46) := ⟨⟨by decide +kernel, by decide +kernel⟩, List.mem_of_getElem? (i := 711) (by decide +kernel), List.mem_of_getElem? (i := 913) (by decide +kernel), List.mem_of_getElem? (i := 914) (by decide +kernel)⟩
theorem lw_p30 : lw_okq (⟨"EditFinderModel", "isPart", "(II)Z"⟩, 46) := ⟨⟨by decide +kernel, by decide +kernel⟩, List.mem_of_getElem? (i := 711) (by decide +kernel), List.mem_of_getElem? (i := 921) (by decide +kernel), List.mem_of_getElem? (i := 922) (by decide +kernel)⟩
theorem lw_p31 : lw_okq (⟨"EditFinderModel", "loadPattern", "(I)V"⟩, 46) := ⟨⟨by decide +kernel, by decide +kernel⟩, List.mem_of_getElem? (i := 711) (by decide +kernel), List.mem_of_getElem? (i := 944) (by decide +kernel), List.mem_of_getElem? (i := 945) (by decide +kernel)⟩
def lw_privs_2 : List (MethodName × Nat) := [(⟨"EditFinder$Ruler", "turnColumns", "(I)V"⟩, 16), (⟨"EditFinder$Ruler", "best", "(II)I"⟩, 16), (⟨"EditFinder$Ruler", "isSwap", "(I)Z"⟩, 16), (⟨"EditFinder$StepTable", "cellOf", "(II)I"⟩, 3), (⟨"EditFinder$Ruler", "walkBack", "(LEditFinder$Way;)V"⟩, 16), (⟨"EditFinder", "draftReplaced", "()I"⟩, 11), (⟨"EditFinderModel", "blame", "(II)I"⟩, 46), (⟨"EditFinderModel", "element", "()V"⟩, 46), (⟨"EditFinderModel", "putAll", "(II)V"⟩, 46), (⟨"EditFinderModel", "put", "(I)V"⟩, 46), (⟨"EditFinderModel", "bracket", "()V"⟩, 46), (⟨"EditFinderModel", "itemByte", "()I"⟩, 46), (⟨"EditFinderModel", "isThere", "(I)Z"⟩, 46), (⟨"EditFinderModel", "remember", "()V"⟩, 46), (⟨"EditFinderModel", "isPart", "(II)Z"⟩, 46), (⟨"EditFinderModel", "loadPattern", "(I)V"⟩, 46)]
theorem lw_r2 : ∀ q ∈ lw_privs_2, lw_okq q := List.forall_mem_cons.mpr ⟨lw_p16, List.forall_mem_cons.mpr ⟨lw_p17, List.forall_mem_cons.mpr ⟨lw_p18, List.forall_mem_cons.mpr ⟨lw_p19, List.forall_mem_cons.mpr ⟨lw_p20, List.forall_mem_cons.mpr ⟨lw_p21, List.forall_mem_cons.mpr ⟨lw_p22, List.forall_mem_cons.mpr ⟨lw_p23, List.forall_mem_cons.mpr ⟨lw_p24, List.forall_mem_cons.mpr ⟨lw_p25, List.forall_mem_cons.mpr ⟨lw_p26, List.forall_mem_cons.mpr ⟨lw_p27, List.forall_mem_cons.mpr ⟨lw_p28, List.forall_mem_cons.mpr ⟨lw_p29, List.forall_mem_cons.mpr ⟨lw_p30, List.forall_mem_cons.mpr ⟨lw_p31, fun _ h => absurd h List.not_mem_nil⟩⟩⟩⟩⟩⟩⟩⟩⟩⟩⟩⟩⟩⟩⟩⟩
theorem lw_p32 : lw_okq (⟨"EditFinderModel", "loadBytes", "(II)V"⟩, 46) := ⟨⟨by decide +kernel, by decide +kernel⟩, List.mem_of_getElem? (i := 711) (by decide +kernel), List.mem_of_getElem? (i := 948) (by decide +kernel), List.mem_of_getElem? (i := 949) (by decide +kernel)⟩
theorem lw_p33 : lw_okq (⟨"EditFinderModel", "firstColumn", "()V"⟩, 46) := ⟨⟨by decide +kernel, by decide +kernel⟩, List.mem_of_getElem? (i := 711) (by decide +kernel), List.mem_of_getElem? (i := 952) (by decide +kernel), List.mem_of_getElem? (i := 953) (by decide +kernel)⟩
theorem lw_p34 : lw_okq (⟨"EditFinderModel", "column", "(IZ)V"⟩, 46) := ⟨⟨by decide +kernel, by decide +kernel⟩, List.mem_of_getElem? (i := 711) (by decide +kernel), List.mem_of_getElem? (i := 956) (by decide +kernel), List.mem_of_getElem? (i := 957) (by decide +kernel)⟩
theorem lw_p35 : lw_okq (⟨"EditFinderModel", "fits", "(II)Z"⟩, 46) := ⟨⟨by decide +kernel, by decide +kernel⟩, List.mem_of_getElem? (i := 711) (by decide +kernel), List.mem_of_getElem? (i := 960) (by decide +kernel), List.mem_of_getElem? (i := 961) (by decide +kernel)⟩
theorem lw_p36 : lw_okq (⟨"EditFinderModel", "better", "(III)V"⟩, 46) := ⟨⟨by decide +kernel, by decide +kernel⟩, List.mem_of_getElem? (i := 711) (by decide +kernel), List.mem_of_getElem? (i := 964) (by decide +kernel), List.mem_of_getElem? (i := 965) (by decide +kernel)⟩
theorem lw_p37 : lw_okq (⟨"EditFinderModel", "findSteps", "(I)V"⟩, 46) := ⟨⟨by decide +kernel, by decide +kernel⟩, List.mem_of_getElem? (i := 711) (by decide +kernel), List.mem_of_getElem? (i := 972) (by decide +kernel), List.mem_of_getElem? (i := 973) (by decide +kernel)⟩
theorem lw_p38 : lw_okq (⟨"EditFinderModel", "firstHit", "(IZ)I"⟩, 46) := ⟨⟨by decide +kernel, by decide +kernel⟩, List.mem_of_getElem? (i := 711) (by decide +kernel), List.mem_of_getElem? (i := 988) (by decide +kernel), List.mem_of_getElem? (i := 989) (by decide +kernel)⟩
theorem lw_p39 : lw_okq (⟨"EditFinderModel", "distance", "()I"⟩, 46) := ⟨⟨by decide +kernel, by decide +kernel⟩, List.mem_of_getElem? (i := 711) (by decide +kernel), List.mem_of_getElem? (i := 1004) (by decide +kernel), List.mem_of_getElem? (i := 1005) (by decide +kernel)⟩
def lw_privs_3 : List (MethodName × Nat) := [(⟨"EditFinderModel", "loadBytes", "(II)V"⟩, 46), (⟨"EditFinderModel", "firstColumn", "()V"⟩, 46), (⟨"EditFinderModel", "column", "(IZ)V"⟩, 46), (⟨"EditFinderModel", "fits", "(II)Z"⟩, 46), (⟨"EditFinderModel", "better", "(III)V"⟩, 46), (⟨"EditFinderModel", "findSteps", "(I)V"⟩, 46), (⟨"EditFinderModel", "firstHit", "(IZ)I"⟩, 46), (⟨"EditFinderModel", "distance", "()I"⟩, 46)]
theorem lw_r3 : ∀ q ∈ lw_privs_3, lw_okq q := List.forall_mem_cons.mpr ⟨lw_p32, List.forall_mem_cons.mpr ⟨lw_p33, List.forall_mem_cons.mpr ⟨lw_p34, List.forall_mem_cons.mpr ⟨lw_p35, List.forall_mem_cons.mpr ⟨lw_p36, List.forall_mem_cons.mpr ⟨lw_p37, List.forall_mem_cons.mpr ⟨lw_p38, List.forall_mem_cons.mpr ⟨lw_p39, fun _ h => absurd h List.not_mem_nil⟩⟩⟩⟩⟩⟩⟩⟩
def lw_privs : List (MethodName × Nat) := lw_privs_1 ++ (lw_privs_2 ++ (lw_privs_3))
def lw_tbl : List Cond := k2_sels lw_privs ++ tables_1
theorem lw_privs_ok : ∀ q ∈ lw_privs, lw_okq q := by
  show ∀ q ∈ lw_privs_1 ++ (lw_privs_2 ++ (lw_privs_3)), lw_okq q
  exact List.forall_mem_append.mpr ⟨lw_r1, List.forall_mem_append.mpr ⟨lw_r2, lw_r3⟩⟩
end
section
def RX0 : String := "EditFinder$ByteRow"
def TX0 : u_T := fun k => match k with
  | 0 => ("EditFinder$ByteRow", "cells", "[B", true)
  | _ => ("EditFinder$ByteRow", "size", "I", false)
def tyX0 : Nat → FieldType := fun k => match k with
  | 0 => .array .byte
  | _ => .int
abbrev wsX00 : List Cond := u_ws RX0 TX0 2
theorem nmX0 : ∀ a, a < 2 → ∀ b, b < 2 → a ≠ b → (TX0 a).2.1 ≠ (TX0 b).2.1 := by decide +kernel
theorem tyX0_ok : ∀ k, k < 2 → parseFieldDescriptor (TX0 k).2.2.1 = some (tyX0 k) := by decide +kernel
abbrev cX0_init : ByteArray := prog_2_method_1_code
def yX0_init : MethodName := ⟨RX0, "<init>", "(I)V"⟩
abbrev cX0_clear : ByteArray := prog_2_method_2_code
def yX0_clear : MethodName := ⟨RX0, "clear", "()V"⟩
abbrev cX0_get : ByteArray := prog_2_method_3_code
def yX0_get : MethodName := ⟨RX0, "get", "(I)I"⟩
abbrev cX0_isPart : ByteArray := prog_2_method_4_code
def yX0_isPart : MethodName := ⟨RX0, "isPart", "(II)Z"⟩
abbrev cX0_add : ByteArray := prog_2_method_5_code
def yX0_add : MethodName := ⟨RX0, "add", "(I)V"⟩
abbrev cX0_addPart : ByteArray := prog_2_method_6_code
def yX0_addPart : MethodName := ⟨RX0, "addPart", "(LEditFinder$ByteRow;II)Z"⟩
abbrev cX0_copyFrom : ByteArray := prog_2_method_7_code
def yX0_copyFrom : MethodName := ⟨RX0, "copyFrom", "(LEditFinder$ByteRow;)V"⟩
abbrev cX0_putIn : ByteArray := prog_2_method_8_code
def yX0_putIn : MethodName := ⟨RX0, "putIn", "(ILEditFinder$ByteRow;)V"⟩
abbrev cX0_takeOut : ByteArray := prog_2_method_9_code
def yX0_takeOut : MethodName := ⟨RX0, "takeOut", "(II)V"⟩
def RX1 : String := "EditFinder$History"
def TX1 : u_T := fun k => match k with
  | 0 => ("EditFinder$History", "rows", "[LEditFinder$ByteRow;", true)
  | 1 => ("EditFinder$History", "newest", "I", false)
  | _ => ("EditFinder$History", "count", "I", false)
def tyX1 : Nat → FieldType := fun k => match k with
  | 0 => .array (.object "EditFinder$ByteRow")
  | 1 => .int
  | _ => .int
abbrev wsX10 : List Cond := u_ws RX1 TX1 3
theorem nmX1 : ∀ a, a < 3 → ∀ b, b < 3 → a ≠ b → (TX1 a).2.1 ≠ (TX1 b).2.1 := by decide +kernel
theorem tyX1_ok : ∀ k, k < 3 → parseFieldDescriptor (TX1 k).2.2.1 = some (tyX1 k) := by decide +kernel
abbrev cX1_init : ByteArray := prog_3_method_1_code
def yX1_init : MethodName := ⟨RX1, "<init>", "()V"⟩
abbrev cX1_keep : ByteArray := prog_3_method_2_code
def yX1_keep : MethodName := ⟨RX1, "keep", "(LEditFinder$ByteRow;)V"⟩
abbrev cX1_takeBack : ByteArray := prog_3_method_3_code
def yX1_takeBack : MethodName := ⟨RX1, "takeBack", "(LEditFinder$ByteRow;)Z"⟩
def RX2 : String := "EditFinder$Hits"
def TX2 : u_T := fun k => match k with
  | 0 => ("EditFinder$Hits", "text", "LEditFinder$ByteRow;", true)
  | 1 => ("EditFinder$Hits", "sets", "LEditFinder$SetRow;", true)
  | 2 => ("EditFinder$Hits", "swaps", "Z", false)
  | 3 => ("EditFinder$Hits", "traced", "I", false)
  | 4 => ("EditFinder$Hits", "way", "LEditFinder$Way;", true)
  | 5 => ("EditFinder$Hits", "places", "[I", true)
  | 6 => ("EditFinder$Hits", "edits", "[I", true)
  | 7 => ("EditFinder$Hits", "beginnings", "[I", true)
  | _ => ("EditFinder$Hits", "count", "I", false)
def tyX2 : Nat → FieldType := fun k => match k with
  | 0 => .object "EditFinder$ByteRow"
  | 1 => .object "EditFinder$SetRow"
  | 2 => .boolean
  | 3 => .int
  | 4 => .object "EditFinder$Way"
  | 5 => .array .int
  | 6 => .array .int
  | 7 => .array .int
  | _ => .int
abbrev wsX20 : List Cond := u_ws RX2 TX2 9
theorem nmX2 : ∀ a, a < 9 → ∀ b, b < 9 → a ≠ b → (TX2 a).2.1 ≠ (TX2 b).2.1 := by decide +kernel
theorem tyX2_ok : ∀ k, k < 9 → parseFieldDescriptor (TX2 k).2.2.1 = some (tyX2 k) := by decide +kernel
abbrev cX2_init : ByteArray := prog_4_method_1_code
def yX2_init : MethodName := ⟨RX2, "<init>", "()V"⟩
abbrev cX2_reset : ByteArray := prog_4_method_2_code
def yX2_reset : MethodName := ⟨RX2, "reset", "(LEditFinder$SetRow;LEditFinder$ByteRow;Z)V"⟩
abbrev cX2_add : ByteArray := prog_4_method_3_code
def yX2_add : MethodName := ⟨RX2, "add", "(III)V"⟩
abbrev cX2_trace : ByteArray := prog_4_method_4_code
def yX2_trace : MethodName := ⟨RX2, "trace", "(ILEditFinder$Ruler;)V"⟩
def RX3 : String := "EditFinder$LineList"
def TX3 : u_T := fun k => match k with
  | 0 => ("EditFinder$LineList", "numbers", "[I", true)
  | _ => ("EditFinder$LineList", "count", "I", false)
def tyX3 : Nat → FieldType := fun k => match k with
  | 0 => .array .int
  | _ => .int
abbrev wsX30 : List Cond := u_ws RX3 TX3 2
theorem nmX3 : ∀ a, a < 2 → ∀ b, b < 2 → a ≠ b → (TX3 a).2.1 ≠ (TX3 b).2.1 := by decide +kernel
theorem tyX3_ok : ∀ k, k < 2 → parseFieldDescriptor (TX3 k).2.2.1 = some (tyX3 k) := by decide +kernel
abbrev cX3_init : ByteArray := prog_5_method_1_code
def yX3_init : MethodName := ⟨RX3, "<init>", "()V"⟩
abbrev cX3_clear : ByteArray := prog_5_method_2_code
def yX3_clear : MethodName := ⟨RX3, "clear", "()V"⟩
abbrev cX3_add : ByteArray := prog_5_method_3_code
def yX3_add : MethodName := ⟨RX3, "add", "(I)V"⟩
abbrev cX3_get : ByteArray := prog_5_method_4_code
def yX3_get : MethodName := ⟨RX3, "get", "(I)I"⟩
def RX4 : String := "EditFinder$Reader"
def TX4 : u_T := fun k => match k with
  | 0 => ("EditFinder$Reader", "row", "LEditFinder$ByteRow;", false)
  | 1 => ("EditFinder$Reader", "at", "I", false)
  | 2 => ("EditFinder$Reader", "low", "J", false)
  | 3 => ("EditFinder$Reader", "high", "J", false)
  | 4 => ("EditFinder$Reader", "sets", "LEditFinder$SetRow;", true)
  | 5 => ("EditFinder$Reader", "fault", "I", false)
  | _ => ("EditFinder$Reader", "faultPlace", "I", false)
def tyX4 : Nat → FieldType := fun k => match k with
  | 0 => .object "EditFinder$ByteRow"
  | 1 => .int
  | 2 => .long
  | 3 => .long
  | 4 => .object "EditFinder$SetRow"
  | 5 => .int
  | _ => .int
abbrev wsX40 : List Cond := u_ws RX4 TX4 7
theorem nmX4 : ∀ a, a < 7 → ∀ b, b < 7 → a ≠ b → (TX4 a).2.1 ≠ (TX4 b).2.1 := by decide +kernel
theorem tyX4_ok : ∀ k, k < 7 → parseFieldDescriptor (TX4 k).2.2.1 = some (tyX4 k) := by decide +kernel
abbrev cX4_init : ByteArray := prog_6_method_1_code
def yX4_init : MethodName := ⟨RX4, "<init>", "()V"⟩
abbrev cX4_read : ByteArray := prog_6_method_2_code
def yX4_read : MethodName := ⟨RX4, "read", "(LEditFinder$ByteRow;)V"⟩
abbrev cX4_fail : ByteArray := prog_6_method_3_code
def yX4_fail : MethodName := ⟨RX4, "fail", "(II)V"⟩
abbrev cX4_readElement : ByteArray := prog_6_method_4_code
def yX4_readElement : MethodName := ⟨RX4, "readElement", "()V"⟩
abbrev cX4_readItems : ByteArray := prog_6_method_5_code
def yX4_readItems : MethodName := ⟨RX4, "readItems", "()V"⟩
abbrev cX4_readItem : ByteArray := prog_6_method_6_code
def yX4_readItem : MethodName := ⟨RX4, "readItem", "()V"⟩
abbrev cX4_takeByte : ByteArray := prog_6_method_7_code
def yX4_takeByte : MethodName := ⟨RX4, "takeByte", "()I"⟩
abbrev cX4_addRange : ByteArray := prog_6_method_8_code
def yX4_addRange : MethodName := ⟨RX4, "addRange", "(II)V"⟩
abbrev cX4_turnRound : ByteArray := prog_6_method_9_code
def yX4_turnRound : MethodName := ⟨RX4, "turnRound", "()V"⟩
def RX5 : String := "EditFinder$Ruler"
def TX5 : u_T := fun k => match k with
  | 0 => ("EditFinder$Ruler", "sets", "LEditFinder$SetRow;", false)
  | 1 => ("EditFinder$Ruler", "bytes", "LEditFinder$ByteRow;", false)
  | 2 => ("EditFinder$Ruler", "from", "I", false)
  | 3 => ("EditFinder$Ruler", "span", "I", false)
  | 4 => ("EditFinder$Ruler", "swaps", "Z", false)
  | 5 => ("EditFinder$Ruler", "lowest", "I", false)
  | 6 => ("EditFinder$Ruler", "highest", "I", false)
  | 7 => ("EditFinder$Ruler", "now", "[I", false)
  | 8 => ("EditFinder$Ruler", "last", "[I", false)
  | 9 => ("EditFinder$Ruler", "older", "[I", false)
  | 10 => ("EditFinder$Ruler", "thisByte", "I", false)
  | 11 => ("EditFinder$Ruler", "lastByte", "I", false)
  | 12 => ("EditFinder$Ruler", "thisHalf", "[J", false)
  | 13 => ("EditFinder$Ruler", "lastHalf", "[J", false)
  | 14 => ("EditFinder$Ruler", "tracing", "Z", false)
  | _ => ("EditFinder$Ruler", "table", "LEditFinder$StepTable;", true)
def tyX5 : Nat → FieldType := fun k => match k with
  | 0 => .object "EditFinder$SetRow"
  | 1 => .object "EditFinder$ByteRow"
  | 2 => .int
  | 3 => .int
  | 4 => .boolean
  | 5 => .int
  | 6 => .int
  | 7 => .array .int
  | 8 => .array .int
  | 9 => .array .int
  | 10 => .int
  | 11 => .int
  | 12 => .array .long
  | 13 => .array .long
  | 14 => .boolean
  | _ => .object "EditFinder$StepTable"
abbrev wsX50 : List Cond := u_ws RX5 TX5 16
theorem nmX5 : ∀ a, a < 16 → ∀ b, b < 16 → a ≠ b → (TX5 a).2.1 ≠ (TX5 b).2.1 := by decide +kernel
theorem tyX5_ok : ∀ k, k < 16 → parseFieldDescriptor (TX5 k).2.2.1 = some (tyX5 k) := by decide +kernel
abbrev cX5_init : ByteArray := prog_7_method_1_code
def yX5_init : MethodName := ⟨RX5, "<init>", "()V"⟩
abbrev cX5_distance : ByteArray := prog_7_method_2_code
def yX5_distance : MethodName := ⟨RX5, "distance", "(LEditFinder$SetRow;LEditFinder$ByteRow;IIZI)I"⟩
abbrev cX5_trace : ByteArray := prog_7_method_3_code
def yX5_trace : MethodName := ⟨RX5, "trace", "(LEditFinder$SetRow;LEditFinder$ByteRow;IIZILEditFinder$Way;)V"⟩
abbrev cX5_lay : ByteArray := prog_7_method_4_code
def yX5_lay : MethodName := ⟨RX5, "lay", "(LEditFinder$SetRow;LEditFinder$ByteRow;IIZ)V"⟩
abbrev cX5_measure : ByteArray := prog_7_method_5_code
def yX5_measure : MethodName := ⟨RX5, "measure", "(I)I"⟩
abbrev cX5_fillFirstColumn : ByteArray := prog_7_method_6_code
def yX5_fillFirstColumn : MethodName := ⟨RX5, "fillFirstColumn", "()V"⟩
abbrev cX5_fillColumn : ByteArray := prog_7_method_7_code
def yX5_fillColumn : MethodName := ⟨RX5, "fillColumn", "(I)I"⟩
abbrev cX5_turnColumns : ByteArray := prog_7_method_8_code
def yX5_turnColumns : MethodName := ⟨RX5, "turnColumns", "(I)V"⟩
abbrev cX5_closeAbove : ByteArray := prog_7_method_9_code
def yX5_closeAbove : MethodName := ⟨RX5, "closeAbove", "(I)V"⟩
abbrev cX5_best : ByteArray := prog_7_method_10_code
def yX5_best : MethodName := ⟨RX5, "best", "(II)I"⟩
abbrev cX5_isSwap : ByteArray := prog_7_method_11_code
def yX5_isSwap : MethodName := ⟨RX5, "isSwap", "(I)Z"⟩
abbrev cX5_walkBack : ByteArray := prog_7_method_12_code
def yX5_walkBack : MethodName := ⟨RX5, "walkBack", "(LEditFinder$Way;)V"⟩
def RX6 : String := "EditFinder$Search"
def TX6 : u_T := fun k => match k with
  | 0 => ("EditFinder$Search", "sets", "LEditFinder$SetRow;", false)
  | 1 => ("EditFinder$Search", "setCount", "I", false)
  | 2 => ("EditFinder$Search", "bound", "I", false)
  | 3 => ("EditFinder$Search", "swaps", "Z", false)
  | 4 => ("EditFinder$Search", "now", "[I", false)
  | 5 => ("EditFinder$Search", "last", "[I", false)
  | 6 => ("EditFinder$Search", "older", "[I", false)
  | 7 => ("EditFinder$Search", "top", "I", false)
  | 8 => ("EditFinder$Search", "place", "I", false)
  | 9 => ("EditFinder$Search", "fed", "I", false)
  | _ => ("EditFinder$Search", "lastByte", "I", false)
def tyX6 : Nat → FieldType := fun k => match k with
  | 0 => .object "EditFinder$SetRow"
  | 1 => .int
  | 2 => .int
  | 3 => .boolean
  | 4 => .array .int
  | 5 => .array .int
  | 6 => .array .int
  | 7 => .int
  | 8 => .int
  | 9 => .int
  | _ => .int
abbrev wsX60 : List Cond := u_ws RX6 TX6 11
theorem nmX6 : ∀ a, a < 11 → ∀ b, b < 11 → a ≠ b → (TX6 a).2.1 ≠ (TX6 b).2.1 := by decide +kernel
theorem tyX6_ok : ∀ k, k < 11 → parseFieldDescriptor (TX6 k).2.2.1 = some (tyX6 k) := by decide +kernel
abbrev cX6_init : ByteArray := prog_8_method_1_code
def yX6_init : MethodName := ⟨RX6, "<init>", "()V"⟩
abbrev cX6_aim : ByteArray := prog_8_method_2_code
def yX6_aim : MethodName := ⟨RX6, "aim", "(LEditFinder$SetRow;IZ)V"⟩
abbrev cX6_tighten : ByteArray := prog_8_method_3_code
def yX6_tighten : MethodName := ⟨RX6, "tighten", "(I)V"⟩
abbrev cX6_restart : ByteArray := prog_8_method_4_code
def yX6_restart : MethodName := ⟨RX6, "restart", "(I)V"⟩
abbrev cX6_feed : ByteArray := prog_8_method_5_code
def yX6_feed : MethodName := ⟨RX6, "feed", "(I)V"⟩
abbrev cX6_isHit : ByteArray := prog_8_method_6_code
def yX6_isHit : MethodName := ⟨RX6, "isHit", "()Z"⟩
abbrev cX6_edits : ByteArray := prog_8_method_7_code
def yX6_edits : MethodName := ⟨RX6, "edits", "()I"⟩
abbrev cX6_beginning : ByteArray := prog_8_method_8_code
def yX6_beginning : MethodName := ⟨RX6, "beginning", "()I"⟩
abbrev cX6_number : ByteArray := prog_8_method_9_code
def yX6_number : MethodName := ⟨RX6, "number", "(II)I"⟩
abbrev cX6_fillColumn : ByteArray := prog_8_method_10_code
def yX6_fillColumn : MethodName := ⟨RX6, "fillColumn", "(II)V"⟩
abbrev cX6_closeAbove : ByteArray := prog_8_method_11_code
def yX6_closeAbove : MethodName := ⟨RX6, "closeAbove", "(I)V"⟩
abbrev cX6_lowerTop : ByteArray := prog_8_method_12_code
def yX6_lowerTop : MethodName := ⟨RX6, "lowerTop", "(I)V"⟩
def RX7 : String := "EditFinder$SetRow"
def TX7 : u_T := fun k => match k with
  | 0 => ("EditFinder$SetRow", "low", "[J", true)
  | 1 => ("EditFinder$SetRow", "high", "[J", true)
  | _ => ("EditFinder$SetRow", "size", "I", false)
def tyX7 : Nat → FieldType := fun k => match k with
  | 0 => .array .long
  | 1 => .array .long
  | _ => .int
abbrev wsX70 : List Cond := u_ws RX7 TX7 3
theorem nmX7 : ∀ a, a < 3 → ∀ b, b < 3 → a ≠ b → (TX7 a).2.1 ≠ (TX7 b).2.1 := by decide +kernel
theorem tyX7_ok : ∀ k, k < 3 → parseFieldDescriptor (TX7 k).2.2.1 = some (tyX7 k) := by decide +kernel
abbrev cX7_init : ByteArray := prog_9_method_1_code
def yX7_init : MethodName := ⟨RX7, "<init>", "(I)V"⟩
abbrev cX7_clear : ByteArray := prog_9_method_2_code
def yX7_clear : MethodName := ⟨RX7, "clear", "()V"⟩
abbrev cX7_add : ByteArray := prog_9_method_3_code
def yX7_add : MethodName := ⟨RX7, "add", "(JJ)V"⟩
abbrev cX7_holds : ByteArray := prog_9_method_4_code
def yX7_holds : MethodName := ⟨RX7, "holds", "(II)Z"⟩
abbrev cX7_half : ByteArray := prog_9_method_5_code
def yX7_half : MethodName := ⟨RX7, "half", "(I)[J"⟩
abbrev cX7_copyFrom : ByteArray := prog_9_method_6_code
def yX7_copyFrom : MethodName := ⟨RX7, "copyFrom", "(LEditFinder$SetRow;)V"⟩
abbrev cX7_copyBytes : ByteArray := prog_9_method_7_code
def yX7_copyBytes : MethodName := ⟨RX7, "copyBytes", "(LEditFinder$ByteRow;II)V"⟩
def RX8 : String := "EditFinder$StepTable"
def TX8 : u_T := fun k => match k with
  | 0 => ("EditFinder$StepTable", "words", "[J", true)
  | 1 => ("EditFinder$StepTable", "lowest", "I", false)
  | _ => ("EditFinder$StepTable", "width", "I", false)
def tyX8 : Nat → FieldType := fun k => match k with
  | 0 => .array .long
  | 1 => .int
  | _ => .int
abbrev wsX80 : List Cond := u_ws RX8 TX8 3
theorem nmX8 : ∀ a, a < 3 → ∀ b, b < 3 → a ≠ b → (TX8 a).2.1 ≠ (TX8 b).2.1 := by decide +kernel
theorem tyX8_ok : ∀ k, k < 3 → parseFieldDescriptor (TX8 k).2.2.1 = some (tyX8 k) := by decide +kernel
abbrev cX8_init : ByteArray := prog_10_method_1_code
def yX8_init : MethodName := ⟨RX8, "<init>", "()V"⟩
abbrev cX8_widen : ByteArray := prog_10_method_2_code
def yX8_widen : MethodName := ⟨RX8, "widen", "(II)V"⟩
abbrev cX8_put : ByteArray := prog_10_method_3_code
def yX8_put : MethodName := ⟨RX8, "put", "(III)V"⟩
abbrev cX8_get : ByteArray := prog_10_method_4_code
def yX8_get : MethodName := ⟨RX8, "get", "(II)I"⟩
abbrev cX8_cellOf : ByteArray := prog_10_method_5_code
def yX8_cellOf : MethodName := ⟨RX8, "cellOf", "(II)I"⟩
def RX9 : String := "EditFinder$Way"
def TX9 : u_T := fun k => match k with
  | 0 => ("EditFinder$Way", "steps", "[B", true)
  | _ => ("EditFinder$Way", "size", "I", false)
def tyX9 : Nat → FieldType := fun k => match k with
  | 0 => .array .byte
  | _ => .int
abbrev wsX90 : List Cond := u_ws RX9 TX9 2
theorem nmX9 : ∀ a, a < 2 → ∀ b, b < 2 → a ≠ b → (TX9 a).2.1 ≠ (TX9 b).2.1 := by decide +kernel
theorem tyX9_ok : ∀ k, k < 2 → parseFieldDescriptor (TX9 k).2.2.1 = some (tyX9 k) := by decide +kernel
abbrev cX9_init : ByteArray := prog_11_method_1_code
def yX9_init : MethodName := ⟨RX9, "<init>", "()V"⟩
abbrev cX9_clear : ByteArray := prog_11_method_2_code
def yX9_clear : MethodName := ⟨RX9, "clear", "()V"⟩
abbrev cX9_addBefore : ByteArray := prog_11_method_3_code
def yX9_addBefore : MethodName := ⟨RX9, "addBefore", "(I)V"⟩
abbrev cX9_get : ByteArray := prog_11_method_4_code
def yX9_get : MethodName := ⟨RX9, "get", "(I)I"⟩
def RX10 : String := "EditFinder"
def TX10 : u_T := fun k => match k with
  | 0 => ("EditFinder", "tape", "LEditFinder$ByteRow;", true)
  | 1 => ("EditFinder", "text", "LEditFinder$ByteRow;", true)
  | 2 => ("EditFinder", "draft", "LEditFinder$ByteRow;", true)
  | 3 => ("EditFinder", "history", "LEditFinder$History;", true)
  | 4 => ("EditFinder", "patterns", "[LEditFinder$SetRow;", true)
  | 5 => ("EditFinder", "scratch", "LEditFinder$SetRow;", true)
  | 6 => ("EditFinder", "reader", "LEditFinder$Reader;", true)
  | 7 => ("EditFinder", "search", "LEditFinder$Search;", true)
  | 8 => ("EditFinder", "ruler", "LEditFinder$Ruler;", true)
  | 9 => ("EditFinder", "hits", "LEditFinder$Hits;", true)
  | _ => ("EditFinder", "lineList", "LEditFinder$LineList;", true)
def tyX10 : Nat → FieldType := fun k => match k with
  | 0 => .object "EditFinder$ByteRow"
  | 1 => .object "EditFinder$ByteRow"
  | 2 => .object "EditFinder$ByteRow"
  | 3 => .object "EditFinder$History"
  | 4 => .array (.object "EditFinder$SetRow")
  | 5 => .object "EditFinder$SetRow"
  | 6 => .object "EditFinder$Reader"
  | 7 => .object "EditFinder$Search"
  | 8 => .object "EditFinder$Ruler"
  | 9 => .object "EditFinder$Hits"
  | _ => .object "EditFinder$LineList"
abbrev wsX100 : List Cond := u_ws RX10 TX10 11
theorem nmX10 : ∀ a, a < 11 → ∀ b, b < 11 → a ≠ b → (TX10 a).2.1 ≠ (TX10 b).2.1 := by decide +kernel
theorem tyX10_ok : ∀ k, k < 11 → parseFieldDescriptor (TX10 k).2.2.1 = some (tyX10 k) := by decide +kernel
abbrev cX10_init : ByteArray := prog_1_method_1_code
def yX10_init : MethodName := ⟨RX10, "<init>", "()V"⟩
abbrev cX10_type : ByteArray := prog_1_method_2_code
def yX10_type : MethodName := ⟨RX10, "type", "(JI)I"⟩
abbrev cX10_pattern : ByteArray := prog_1_method_3_code
def yX10_pattern : MethodName := ⟨RX10, "pattern", "(I)I"⟩
abbrev cX10_place : ByteArray := prog_1_method_4_code
def yX10_place : MethodName := ⟨RX10, "place", "()I"⟩
abbrev cX10_has : ByteArray := prog_1_method_5_code
def yX10_has : MethodName := ⟨RX10, "has", "(III)I"⟩
abbrev cX10_insert : ByteArray := prog_1_method_6_code
def yX10_insert : MethodName := ⟨RX10, "insert", "(I)I"⟩
abbrev cX10_cut : ByteArray := prog_1_method_7_code
def yX10_cut : MethodName := ⟨RX10, "cut", "(II)I"⟩
abbrev cX10_undo : ByteArray := prog_1_method_8_code
def yX10_undo : MethodName := ⟨RX10, "undo", "()I"⟩
abbrev cX10_byteAt : ByteArray := prog_1_method_9_code
def yX10_byteAt : MethodName := ⟨RX10, "byteAt", "(I)I"⟩
abbrev cX10_length : ByteArray := prog_1_method_10_code
def yX10_length : MethodName := ⟨RX10, "length", "()I"⟩
abbrev cX10_find : ByteArray := prog_1_method_11_code
def yX10_find : MethodName := ⟨RX10, "find", "(IIZ)I"⟩
abbrev cX10_hit : ByteArray := prog_1_method_12_code
def yX10_hit : MethodName := ⟨RX10, "hit", "(II)I"⟩
abbrev cX10_step : ByteArray := prog_1_method_13_code
def yX10_step : MethodName := ⟨RX10, "step", "(II)I"⟩
abbrev cX10_nearest : ByteArray := prog_1_method_14_code
def yX10_nearest : MethodName := ⟨RX10, "nearest", "(IZI)I"⟩
abbrev cX10_lines : ByteArray := prog_1_method_15_code
def yX10_lines : MethodName := ⟨RX10, "lines", "(IIZ)I"⟩
abbrev cX10_line : ByteArray := prog_1_method_16_code
def yX10_line : MethodName := ⟨RX10, "line", "(I)I"⟩
abbrev cX10_replace : ByteArray := prog_1_method_17_code
def yX10_replace : MethodName := ⟨RX10, "replace", "(IIZ)I"⟩
abbrev cX10_whole : ByteArray := prog_1_method_18_code
def yX10_whole : MethodName := ⟨RX10, "whole", "(IIIZI)I"⟩
abbrev cX10_which : ByteArray := prog_1_method_19_code
def yX10_which : MethodName := ⟨RX10, "which", "(IIZ)I"⟩
abbrev cX10_apart : ByteArray := prog_1_method_20_code
def yX10_apart : MethodName := ⟨RX10, "apart", "(IIIIZI)I"⟩
abbrev cX10_isPattern : ByteArray := prog_1_method_21_code
def yX10_isPattern : MethodName := ⟨RX10, "isPattern", "(I)Z"⟩
abbrev cX10_isEdits : ByteArray := prog_1_method_22_code
def yX10_isEdits : MethodName := ⟨RX10, "isEdits", "(I)Z"⟩
abbrev cX10_isLimit : ByteArray := prog_1_method_23_code
def yX10_isLimit : MethodName := ⟨RX10, "isLimit", "(I)Z"⟩
abbrev cX10_isByte : ByteArray := prog_1_method_24_code
def yX10_isByte : MethodName := ⟨RX10, "isByte", "(I)Z"⟩
abbrev cX10_byteOfWord : ByteArray := prog_1_method_25_code
def yX10_byteOfWord : MethodName := ⟨RX10, "byteOfWord", "(JI)I"⟩
abbrev cX10_draftReplaced : ByteArray := prog_1_method_26_code
def yX10_draftReplaced : MethodName := ⟨RX10, "draftReplaced", "()I"⟩
def RX11 : String := "EditFinderModel"
def TX11 : u_T := fun k => match k with
  | 0 => ("EditFinderModel", "tape", "[I", true)
  | 1 => ("EditFinderModel", "tapeSize", "I", false)
  | 2 => ("EditFinderModel", "text", "[I", true)
  | 3 => ("EditFinderModel", "textSize", "I", false)
  | 4 => ("EditFinderModel", "olds", "[I", true)
  | 5 => ("EditFinderModel", "oldSizes", "[I", true)
  | 6 => ("EditFinderModel", "oldCount", "I", false)
  | 7 => ("EditFinderModel", "lows", "[J", true)
  | 8 => ("EditFinderModel", "highs", "[J", true)
  | 9 => ("EditFinderModel", "setCount", "[I", true)
  | 10 => ("EditFinderModel", "place", "I", false)
  | 11 => ("EditFinderModel", "at", "I", false)
  | 12 => ("EditFinderModel", "fault", "I", false)
  | 13 => ("EditFinderModel", "faultAt", "I", false)
  | 14 => ("EditFinderModel", "newLows", "[J", true)
  | 15 => ("EditFinderModel", "newHighs", "[J", true)
  | 16 => ("EditFinderModel", "newCount", "I", false)
  | 17 => ("EditFinderModel", "low", "J", false)
  | 18 => ("EditFinderModel", "high", "J", false)
  | 19 => ("EditFinderModel", "rowLows", "[J", true)
  | 20 => ("EditFinderModel", "rowHighs", "[J", true)
  | 21 => ("EditFinderModel", "sets", "I", false)
  | 22 => ("EditFinderModel", "bytes", "[I", true)
  | 23 => ("EditFinderModel", "many", "I", false)
  | 24 => ("EditFinderModel", "swapping", "Z", false)
  | 25 => ("EditFinderModel", "cost", "[I", true)
  | 26 => ("EditFinderModel", "cost1", "[I", true)
  | 27 => ("EditFinderModel", "cost2", "[I", true)
  | 28 => ("EditFinderModel", "begin", "[I", true)
  | 29 => ("EditFinderModel", "begin1", "[I", true)
  | 30 => ("EditFinderModel", "begin2", "[I", true)
  | 31 => ("EditFinderModel", "hits", "I", false)
  | 32 => ("EditFinderModel", "hitAt", "[I", true)
  | 33 => ("EditFinderModel", "hitCost", "[I", true)
  | 34 => ("EditFinderModel", "hitBegin", "[I", true)
  | 35 => ("EditFinderModel", "hitText", "[I", true)
  | 36 => ("EditFinderModel", "hitLows", "[J", true)
  | 37 => ("EditFinderModel", "hitHighs", "[J", true)
  | 38 => ("EditFinderModel", "hitSets", "I", false)
  | 39 => ("EditFinderModel", "hitSwaps", "Z", false)
  | 40 => ("EditFinderModel", "table", "[I", true)
  | 41 => ("EditFinderModel", "steps", "[I", true)
  | 42 => ("EditFinderModel", "stepCount", "I", false)
  | 43 => ("EditFinderModel", "lineNumbers", "[I", true)
  | 44 => ("EditFinderModel", "lineCount", "I", false)
  | _ => ("EditFinderModel", "built", "[I", true)
def tyX11 : Nat → FieldType := fun k => match k with
  | 0 => .array .int
  | 1 => .int
  | 2 => .array .int
  | 3 => .int
  | 4 => .array .int
  | 5 => .array .int
  | 6 => .int
  | 7 => .array .long
  | 8 => .array .long
  | 9 => .array .int
  | 10 => .int
  | 11 => .int
  | 12 => .int
  | 13 => .int
  | 14 => .array .long
  | 15 => .array .long
  | 16 => .int
  | 17 => .long
  | 18 => .long
  | 19 => .array .long
  | 20 => .array .long
  | 21 => .int
  | 22 => .array .int
  | 23 => .int
  | 24 => .boolean
  | 25 => .array .int
  | 26 => .array .int
  | 27 => .array .int
  | 28 => .array .int
  | 29 => .array .int
  | 30 => .array .int
  | 31 => .int
  | 32 => .array .int
  | 33 => .array .int
  | 34 => .array .int
  | 35 => .array .int
  | 36 => .array .long
  | 37 => .array .long
  | 38 => .int
  | 39 => .boolean
  | 40 => .array .int
  | 41 => .array .int
  | 42 => .int
  | 43 => .array .int
  | 44 => .int
  | _ => .array .int
abbrev wsX110 : List Cond := u_ws RX11 TX11 46
theorem nmX11 : ∀ a, a < 46 → ∀ b, b < 46 → a ≠ b → (TX11 a).2.1 ≠ (TX11 b).2.1 := by decide +kernel
theorem tyX11_ok : ∀ k, k < 46 → parseFieldDescriptor (TX11 k).2.2.1 = some (tyX11 k) := by decide +kernel
abbrev cX11_init : ByteArray := prog_13_method_1_code
def yX11_init : MethodName := ⟨RX11, "<init>", "()V"⟩
abbrev cX11_in : ByteArray := prog_13_method_2_code
def yX11_in : MethodName := ⟨RX11, "in", "(III)Z"⟩
abbrev cX11_isByte : ByteArray := prog_13_method_3_code
def yX11_isByte : MethodName := ⟨RX11, "isByte", "(I)Z"⟩
abbrev cX11_type : ByteArray := prog_13_method_4_code
def yX11_type : MethodName := ⟨RX11, "type", "(JI)I"⟩
abbrev cX11_blame : ByteArray := prog_13_method_5_code
def yX11_blame : MethodName := ⟨RX11, "blame", "(II)I"⟩
abbrev cX11_put : ByteArray := prog_13_method_6_code
def yX11_put : MethodName := ⟨RX11, "put", "(I)V"⟩
abbrev cX11_putAll : ByteArray := prog_13_method_7_code
def yX11_putAll : MethodName := ⟨RX11, "putAll", "(II)V"⟩
abbrev cX11_itemByte : ByteArray := prog_13_method_8_code
def yX11_itemByte : MethodName := ⟨RX11, "itemByte", "()I"⟩
abbrev cX11_bracket : ByteArray := prog_13_method_9_code
def yX11_bracket : MethodName := ⟨RX11, "bracket", "()V"⟩
abbrev cX11_element : ByteArray := prog_13_method_10_code
def yX11_element : MethodName := ⟨RX11, "element", "()V"⟩
abbrev cX11_pattern : ByteArray := prog_13_method_11_code
def yX11_pattern : MethodName := ⟨RX11, "pattern", "(I)I"⟩
abbrev cX11_place : ByteArray := prog_13_method_12_code
def yX11_place : MethodName := ⟨RX11, "place", "()I"⟩
abbrev cX11_isThere : ByteArray := prog_13_method_13_code
def yX11_isThere : MethodName := ⟨RX11, "isThere", "(I)Z"⟩
abbrev cX11_has : ByteArray := prog_13_method_14_code
def yX11_has : MethodName := ⟨RX11, "has", "(III)I"⟩
abbrev cX11_remember : ByteArray := prog_13_method_15_code
def yX11_remember : MethodName := ⟨RX11, "remember", "()V"⟩
abbrev cX11_insert : ByteArray := prog_13_method_16_code
def yX11_insert : MethodName := ⟨RX11, "insert", "(I)I"⟩
abbrev cX11_isPart : ByteArray := prog_13_method_17_code
def yX11_isPart : MethodName := ⟨RX11, "isPart", "(II)Z"⟩
abbrev cX11_cut : ByteArray := prog_13_method_18_code
def yX11_cut : MethodName := ⟨RX11, "cut", "(II)I"⟩
abbrev cX11_undo : ByteArray := prog_13_method_19_code
def yX11_undo : MethodName := ⟨RX11, "undo", "()I"⟩
abbrev cX11_byteAt : ByteArray := prog_13_method_20_code
def yX11_byteAt : MethodName := ⟨RX11, "byteAt", "(I)I"⟩
abbrev cX11_length : ByteArray := prog_13_method_21_code
def yX11_length : MethodName := ⟨RX11, "length", "()I"⟩
abbrev cX11_loadPattern : ByteArray := prog_13_method_22_code
def yX11_loadPattern : MethodName := ⟨RX11, "loadPattern", "(I)V"⟩
abbrev cX11_loadBytes : ByteArray := prog_13_method_23_code
def yX11_loadBytes : MethodName := ⟨RX11, "loadBytes", "(II)V"⟩
abbrev cX11_fits : ByteArray := prog_13_method_24_code
def yX11_fits : MethodName := ⟨RX11, "fits", "(II)Z"⟩
abbrev cX11_firstColumn : ByteArray := prog_13_method_25_code
def yX11_firstColumn : MethodName := ⟨RX11, "firstColumn", "()V"⟩
abbrev cX11_better : ByteArray := prog_13_method_26_code
def yX11_better : MethodName := ⟨RX11, "better", "(III)V"⟩
abbrev cX11_column : ByteArray := prog_13_method_27_code
def yX11_column : MethodName := ⟨RX11, "column", "(IZ)V"⟩
abbrev cX11_distance : ByteArray := prog_13_method_28_code
def yX11_distance : MethodName := ⟨RX11, "distance", "()I"⟩
abbrev cX11_firstHit : ByteArray := prog_13_method_29_code
def yX11_firstHit : MethodName := ⟨RX11, "firstHit", "(IZ)I"⟩
abbrev cX11_isEdits : ByteArray := prog_13_method_30_code
def yX11_isEdits : MethodName := ⟨RX11, "isEdits", "(I)Z"⟩
abbrev cX11_find : ByteArray := prog_13_method_31_code
def yX11_find : MethodName := ⟨RX11, "find", "(IIZ)I"⟩
abbrev cX11_findSteps : ByteArray := prog_13_method_32_code
def yX11_findSteps : MethodName := ⟨RX11, "findSteps", "(I)V"⟩
abbrev cX11_hit : ByteArray := prog_13_method_33_code
def yX11_hit : MethodName := ⟨RX11, "hit", "(II)I"⟩
abbrev cX11_step : ByteArray := prog_13_method_34_code
def yX11_step : MethodName := ⟨RX11, "step", "(II)I"⟩
abbrev cX11_nearest : ByteArray := prog_13_method_35_code
def yX11_nearest : MethodName := ⟨RX11, "nearest", "(IZI)I"⟩
abbrev cX11_lines : ByteArray := prog_13_method_36_code
def yX11_lines : MethodName := ⟨RX11, "lines", "(IIZ)I"⟩
abbrev cX11_line : ByteArray := prog_13_method_37_code
def yX11_line : MethodName := ⟨RX11, "line", "(I)I"⟩
abbrev cX11_replace : ByteArray := prog_13_method_38_code
def yX11_replace : MethodName := ⟨RX11, "replace", "(IIZ)I"⟩
abbrev cX11_whole : ByteArray := prog_13_method_39_code
def yX11_whole : MethodName := ⟨RX11, "whole", "(IIIZI)I"⟩
abbrev cX11_which : ByteArray := prog_13_method_40_code
def yX11_which : MethodName := ⟨RX11, "which", "(IIZ)I"⟩
abbrev cX11_apart : ByteArray := prog_13_method_41_code
def yX11_apart : MethodName := ⟨RX11, "apart", "(IIIIZI)I"⟩
def RJ9 : String := "java/lang/Math"
def TJ9 : u_T := fun k => match k with
  | _ => ("", "", "", false)
def tyJ9 : Nat → FieldType := fun k => match k with
  | _ => .int
abbrev wsJ90 : List Cond := u_ws RJ9 TJ9 0
theorem nmJ9 : ∀ a, a < 0 → ∀ b, b < 0 → a ≠ b → (TJ9 a).2.1 ≠ (TJ9 b).2.1 := by decide +kernel
theorem tyJ9_ok : ∀ k, k < 0 → parseFieldDescriptor (TJ9 k).2.2.1 = some (tyJ9 k) := by decide +kernel
abbrev cJ9_abs_0f7a4 : ByteArray := prog_14_method_59_code
def yJ9_abs_0f7a4 : MethodName := ⟨RJ9, "abs", "(I)I"⟩
abbrev cJ9_max_7cf53 : ByteArray := prog_14_method_65_code
def yJ9_max_7cf53 : MethodName := ⟨RJ9, "max", "(II)I"⟩
abbrev cJ9_min_7cf53 : ByteArray := prog_14_method_69_code
def yJ9_min_7cf53 : MethodName := ⟨RJ9, "min", "(II)I"⟩
def RJ10 : String := "java/lang/System"
def TJ10 : u_T := fun k => match k with
  | _ => ("", "", "", false)
def tyJ10 : Nat → FieldType := fun k => match k with
  | _ => .int
abbrev wsJ100 : List Cond := u_ws RJ10 TJ10 0
theorem nmJ10 : ∀ a, a < 0 → ∀ b, b < 0 → a ≠ b → (TJ10 a).2.1 ≠ (TJ10 b).2.1 := by decide +kernel
theorem tyJ10_ok : ∀ k, k < 0 → parseFieldDescriptor (TJ10 k).2.2.1 = some (tyJ10 k) := by decide +kernel
def RL : String := "EditFinderLaw"
abbrev cL_law : ByteArray := code
def yL_law : MethodName := ⟨RL, "law", "([I)Z"⟩
abbrev vwCl : List vw_C := [(RX0, TX0, 2), (RX1, TX1, 3), (RX2, TX2, 9), (RX3, TX3, 2), (RX4, TX4, 7), (RX5, TX5, 16), (RX6, TX6, 11), (RX7, TX7, 3), (RX8, TX8, 3), (RX9, TX9, 2), (RX10, TX10, 11), (RX11, TX11, 46)]
set_option maxRecDepth 20000 in
theorem inX0 : ∀ w ∈ u_ws RX0 TX0 2, w ∈ lw_tbl := by decide +kernel
set_option maxRecDepth 20000 in
theorem inX1 : ∀ w ∈ u_ws RX1 TX1 3, w ∈ lw_tbl := by decide +kernel
set_option maxRecDepth 20000 in
theorem inX2 : ∀ w ∈ u_ws RX2 TX2 9, w ∈ lw_tbl := by decide +kernel
set_option maxRecDepth 20000 in
theorem inX3 : ∀ w ∈ u_ws RX3 TX3 2, w ∈ lw_tbl := by decide +kernel
set_option maxRecDepth 20000 in
theorem inX4 : ∀ w ∈ u_ws RX4 TX4 7, w ∈ lw_tbl := by decide +kernel
set_option maxRecDepth 20000 in
theorem inX5 : ∀ w ∈ u_ws RX5 TX5 16, w ∈ lw_tbl := by decide +kernel
set_option maxRecDepth 20000 in
theorem inX6 : ∀ w ∈ u_ws RX6 TX6 11, w ∈ lw_tbl := by decide +kernel
set_option maxRecDepth 20000 in
theorem inX7 : ∀ w ∈ u_ws RX7 TX7 3, w ∈ lw_tbl := by decide +kernel
set_option maxRecDepth 20000 in
theorem inX8 : ∀ w ∈ u_ws RX8 TX8 3, w ∈ lw_tbl := by decide +kernel
set_option maxRecDepth 20000 in
theorem inX9 : ∀ w ∈ u_ws RX9 TX9 2, w ∈ lw_tbl := by decide +kernel
set_option maxRecDepth 20000 in
theorem inX10 : ∀ w ∈ u_ws RX10 TX10 11, w ∈ lw_tbl := by decide +kernel
set_option maxRecDepth 20000 in
theorem inX11 : ∀ w ∈ u_ws RX11 TX11 46, w ∈ lw_tbl := by decide +kernel
end
section
theorem dX0_init_0 : decode cX0_init 0 = .ok (.aload_n 0, 1) := by decide +kernel
theorem dX0_init_1 : decode cX0_init 1 = .ok (.invokespecial 3, 3) := by decide +kernel
theorem dX0_init_4 : decode cX0_init 4 = .ok (.aload_n 0, 1) := by decide +kernel
theorem dX0_init_5 : decode cX0_init 5 = .ok (.iload_n 1, 1) := by decide +kernel
theorem dX0_init_6 : decode cX0_init 6 = .ok (.iconst 0, 1) := by decide +kernel
theorem dX0_init_7 : decode cX0_init 7 = .ok (.invokestatic 9, 3) := by decide +kernel
theorem dX0_init_10 : decode cX0_init 10 = .ok (.newarray .byte, 2) := by decide +kernel
theorem dX0_init_12 : decode cX0_init 12 = .ok (.putfield 15, 3) := by decide +kernel
theorem dX0_init_15 : decode cX0_init 15 = .ok (.return_, 1) := by decide +kernel
theorem dX0_clear_0 : decode cX0_clear 0 = .ok (.aload_n 0, 1) := by decide +kernel
theorem dX0_clear_1 : decode cX0_clear 1 = .ok (.iconst 0, 1) := by decide +kernel
theorem dX0_clear_2 : decode cX0_clear 2 = .ok (.putfield 21, 3) := by decide +kernel
theorem dX0_clear_5 : decode cX0_clear 5 = .ok (.return_, 1) := by decide +kernel
theorem dX0_get_0 : decode cX0_get 0 = .ok (.iload_n 1, 1) := by decide +kernel
theorem dX0_get_1 : decode cX0_get 1 = .ok (.ifCond .lt 20, 3) := by decide +kernel
theorem dX0_get_4 : decode cX0_get 4 = .ok (.iload_n 1, 1) := by decide +kernel
theorem dX0_get_5 : decode cX0_get 5 = .ok (.aload_n 0, 1) := by decide +kernel
theorem dX0_get_6 : decode cX0_get 6 = .ok (.getfield 21, 3) := by decide +kernel
theorem dX0_get_9 : decode cX0_get 9 = .ok (.if_icmp .ge 12, 3) := by decide +kernel
theorem dX0_get_12 : decode cX0_get 12 = .ok (.aload_n 0, 1) := by decide +kernel
theorem dX0_get_13 : decode cX0_get 13 = .ok (.getfield 15, 3) := by decide +kernel
theorem dX0_get_16 : decode cX0_get 16 = .ok (.iload_n 1, 1) := by decide +kernel
theorem dX0_get_17 : decode cX0_get 17 = .ok (.baload, 1) := by decide +kernel
theorem dX0_get_18 : decode cX0_get 18 = .ok (.goto 4, 3) := by decide +kernel
theorem dX0_get_21 : decode cX0_get 21 = .ok (.iconst (-1), 1) := by decide +kernel
theorem dX0_get_22 : decode cX0_get 22 = .ok (.ireturn, 1) := by decide +kernel
theorem dX0_isPart_0 : decode cX0_isPart 0 = .ok (.iload_n 1, 1) := by decide +kernel
theorem dX0_isPart_1 : decode cX0_isPart 1 = .ok (.ifCond .lt 20, 3) := by decide +kernel
theorem dX0_isPart_4 : decode cX0_isPart 4 = .ok (.iload_n 1, 1) := by decide +kernel
theorem dX0_isPart_5 : decode cX0_isPart 5 = .ok (.iload_n 2, 1) := by decide +kernel
theorem dX0_isPart_6 : decode cX0_isPart 6 = .ok (.if_icmp .gt 15, 3) := by decide +kernel
theorem dX0_isPart_9 : decode cX0_isPart 9 = .ok (.iload_n 2, 1) := by decide +kernel
theorem dX0_isPart_10 : decode cX0_isPart 10 = .ok (.aload_n 0, 1) := by decide +kernel
theorem dX0_isPart_11 : decode cX0_isPart 11 = .ok (.getfield 21, 3) := by decide +kernel
theorem dX0_isPart_14 : decode cX0_isPart 14 = .ok (.if_icmp .gt 7, 3) := by decide +kernel
theorem dX0_isPart_17 : decode cX0_isPart 17 = .ok (.iconst 1, 1) := by decide +kernel
theorem dX0_isPart_18 : decode cX0_isPart 18 = .ok (.goto 4, 3) := by decide +kernel
theorem dX0_isPart_21 : decode cX0_isPart 21 = .ok (.iconst 0, 1) := by decide +kernel
theorem dX0_isPart_22 : decode cX0_isPart 22 = .ok (.ireturn, 1) := by decide +kernel
theorem dX0_add_0 : decode cX0_add 0 = .ok (.aload_n 0, 1) := by decide +kernel
theorem dX0_add_1 : decode cX0_add 1 = .ok (.getfield 21, 3) := by decide +kernel
theorem dX0_add_4 : decode cX0_add 4 = .ok (.aload_n 0, 1) := by decide +kernel
theorem dX0_add_5 : decode cX0_add 5 = .ok (.getfield 15, 3) := by decide +kernel
theorem dX0_add_8 : decode cX0_add 8 = .ok (.arraylength, 1) := by decide +kernel
theorem dX0_add_9 : decode cX0_add 9 = .ok (.if_icmp .ge 24, 3) := by decide +kernel
theorem dX0_add_12 : decode cX0_add 12 = .ok (.aload_n 0, 1) := by decide +kernel
theorem dX0_add_13 : decode cX0_add 13 = .ok (.getfield 15, 3) := by decide +kernel
theorem dX0_add_16 : decode cX0_add 16 = .ok (.aload_n 0, 1) := by decide +kernel
theorem dX0_add_17 : decode cX0_add 17 = .ok (.getfield 21, 3) := by decide +kernel
theorem dX0_add_20 : decode cX0_add 20 = .ok (.iload_n 1, 1) := by decide +kernel
theorem dX0_add_21 : decode cX0_add 21 = .ok (.i2b, 1) := by decide +kernel
theorem dX0_add_22 : decode cX0_add 22 = .ok (.bastore, 1) := by decide +kernel
theorem dX0_add_23 : decode cX0_add 23 = .ok (.aload_n 0, 1) := by decide +kernel
theorem dX0_add_24 : decode cX0_add 24 = .ok (.dup, 1) := by decide +kernel
theorem dX0_add_25 : decode cX0_add 25 = .ok (.getfield 21, 3) := by decide +kernel
theorem dX0_add_28 : decode cX0_add 28 = .ok (.iconst 1, 1) := by decide +kernel
theorem dX0_add_29 : decode cX0_add 29 = .ok (.iadd, 1) := by decide +kernel
theorem dX0_add_30 : decode cX0_add 30 = .ok (.putfield 21, 3) := by decide +kernel
theorem dX0_add_33 : decode cX0_add 33 = .ok (.return_, 1) := by decide +kernel
theorem dX0_addPart_0 : decode cX0_addPart 0 = .ok (.aload_n 1, 1) := by decide +kernel
theorem dX0_addPart_1 : decode cX0_addPart 1 = .ok (.iload_n 2, 1) := by decide +kernel
theorem dX0_addPart_2 : decode cX0_addPart 2 = .ok (.iload_n 3, 1) := by decide +kernel
theorem dX0_addPart_3 : decode cX0_addPart 3 = .ok (.invokevirtual 25, 3) := by decide +kernel
theorem dX0_addPart_6 : decode cX0_addPart 6 = .ok (.ifCond .eq 19, 3) := by decide +kernel
theorem dX0_addPart_9 : decode cX0_addPart 9 = .ok (.iload_n 3, 1) := by decide +kernel
theorem dX0_addPart_10 : decode cX0_addPart 10 = .ok (.iload_n 2, 1) := by decide +kernel
theorem dX0_addPart_11 : decode cX0_addPart 11 = .ok (.isub, 1) := by decide +kernel
theorem dX0_addPart_12 : decode cX0_addPart 12 = .ok (.aload_n 0, 1) := by decide +kernel
theorem dX0_addPart_13 : decode cX0_addPart 13 = .ok (.getfield 15, 3) := by decide +kernel
theorem dX0_addPart_16 : decode cX0_addPart 16 = .ok (.arraylength, 1) := by decide +kernel
theorem dX0_addPart_17 : decode cX0_addPart 17 = .ok (.aload_n 0, 1) := by decide +kernel
theorem dX0_addPart_18 : decode cX0_addPart 18 = .ok (.getfield 21, 3) := by decide +kernel
theorem dX0_addPart_21 : decode cX0_addPart 21 = .ok (.isub, 1) := by decide +kernel
theorem dX0_addPart_22 : decode cX0_addPart 22 = .ok (.if_icmp .le 5, 3) := by decide +kernel
theorem dX0_addPart_25 : decode cX0_addPart 25 = .ok (.iconst 0, 1) := by decide +kernel
theorem dX0_addPart_26 : decode cX0_addPart 26 = .ok (.ireturn, 1) := by decide +kernel
theorem dX0_addPart_27 : decode cX0_addPart 27 = .ok (.aload_n 1, 1) := by decide +kernel
theorem dX0_addPart_28 : decode cX0_addPart 28 = .ok (.getfield 15, 3) := by decide +kernel
theorem dX0_addPart_31 : decode cX0_addPart 31 = .ok (.iload_n 2, 1) := by decide +kernel
theorem dX0_addPart_32 : decode cX0_addPart 32 = .ok (.aload_n 0, 1) := by decide +kernel
theorem dX0_addPart_33 : decode cX0_addPart 33 = .ok (.getfield 15, 3) := by decide +kernel
theorem dX0_addPart_36 : decode cX0_addPart 36 = .ok (.aload_n 0, 1) := by decide +kernel
theorem dX0_addPart_37 : decode cX0_addPart 37 = .ok (.getfield 21, 3) := by decide +kernel
theorem dX0_addPart_40 : decode cX0_addPart 40 = .ok (.iload_n 3, 1) := by decide +kernel
theorem dX0_addPart_41 : decode cX0_addPart 41 = .ok (.iload_n 2, 1) := by decide +kernel
theorem dX0_addPart_42 : decode cX0_addPart 42 = .ok (.isub, 1) := by decide +kernel
theorem dX0_addPart_43 : decode cX0_addPart 43 = .ok (.invokestatic 29, 3) := by decide +kernel
theorem dX0_addPart_46 : decode cX0_addPart 46 = .ok (.aload_n 0, 1) := by decide +kernel
theorem dX0_addPart_47 : decode cX0_addPart 47 = .ok (.dup, 1) := by decide +kernel
theorem dX0_addPart_48 : decode cX0_addPart 48 = .ok (.getfield 21, 3) := by decide +kernel
theorem dX0_addPart_51 : decode cX0_addPart 51 = .ok (.iload_n 3, 1) := by decide +kernel
theorem dX0_addPart_52 : decode cX0_addPart 52 = .ok (.iload_n 2, 1) := by decide +kernel
theorem dX0_addPart_53 : decode cX0_addPart 53 = .ok (.isub, 1) := by decide +kernel
theorem dX0_addPart_54 : decode cX0_addPart 54 = .ok (.iadd, 1) := by decide +kernel
theorem dX0_addPart_55 : decode cX0_addPart 55 = .ok (.putfield 21, 3) := by decide +kernel
theorem dX0_addPart_58 : decode cX0_addPart 58 = .ok (.iconst 1, 1) := by decide +kernel
theorem dX0_addPart_59 : decode cX0_addPart 59 = .ok (.ireturn, 1) := by decide +kernel
theorem dX0_copyFrom_0 : decode cX0_copyFrom 0 = .ok (.aload_n 0, 1) := by decide +kernel
theorem dX0_copyFrom_1 : decode cX0_copyFrom 1 = .ok (.invokevirtual 35, 3) := by decide +kernel
theorem dX0_copyFrom_4 : decode cX0_copyFrom 4 = .ok (.aload_n 0, 1) := by decide +kernel
theorem dX0_copyFrom_5 : decode cX0_copyFrom 5 = .ok (.aload_n 1, 1) := by decide +kernel
theorem dX0_copyFrom_6 : decode cX0_copyFrom 6 = .ok (.iconst 0, 1) := by decide +kernel
theorem dX0_copyFrom_7 : decode cX0_copyFrom 7 = .ok (.aload_n 1, 1) := by decide +kernel
theorem dX0_copyFrom_8 : decode cX0_copyFrom 8 = .ok (.getfield 21, 3) := by decide +kernel
theorem dX0_copyFrom_11 : decode cX0_copyFrom 11 = .ok (.invokevirtual 38, 3) := by decide +kernel
theorem dX0_copyFrom_14 : decode cX0_copyFrom 14 = .ok (.pop, 1) := by decide +kernel
theorem dX0_copyFrom_15 : decode cX0_copyFrom 15 = .ok (.return_, 1) := by decide +kernel
theorem dX0_putIn_0 : decode cX0_putIn 0 = .ok (.iload_n 1, 1) := by decide +kernel
theorem dX0_putIn_1 : decode cX0_putIn 1 = .ok (.ifCond .lt 82, 3) := by decide +kernel
theorem dX0_putIn_4 : decode cX0_putIn 4 = .ok (.iload_n 1, 1) := by decide +kernel
theorem dX0_putIn_5 : decode cX0_putIn 5 = .ok (.aload_n 0, 1) := by decide +kernel
theorem dX0_putIn_6 : decode cX0_putIn 6 = .ok (.getfield 21, 3) := by decide +kernel
theorem dX0_putIn_9 : decode cX0_putIn 9 = .ok (.if_icmp .gt 74, 3) := by decide +kernel
theorem dX0_putIn_12 : decode cX0_putIn 12 = .ok (.aload_n 2, 1) := by decide +kernel
theorem dX0_putIn_13 : decode cX0_putIn 13 = .ok (.getfield 21, 3) := by decide +kernel
theorem dX0_putIn_16 : decode cX0_putIn 16 = .ok (.aload_n 0, 1) := by decide +kernel
theorem dX0_putIn_17 : decode cX0_putIn 17 = .ok (.getfield 15, 3) := by decide +kernel
theorem dX0_putIn_20 : decode cX0_putIn 20 = .ok (.arraylength, 1) := by decide +kernel
theorem dX0_putIn_21 : decode cX0_putIn 21 = .ok (.aload_n 0, 1) := by decide +kernel
theorem dX0_putIn_22 : decode cX0_putIn 22 = .ok (.getfield 21, 3) := by decide +kernel
theorem dX0_putIn_25 : decode cX0_putIn 25 = .ok (.isub, 1) := by decide +kernel
theorem dX0_putIn_26 : decode cX0_putIn 26 = .ok (.if_icmp .gt 57, 3) := by decide +kernel
theorem dX0_putIn_29 : decode cX0_putIn 29 = .ok (.aload_n 0, 1) := by decide +kernel
theorem dX0_putIn_30 : decode cX0_putIn 30 = .ok (.getfield 15, 3) := by decide +kernel
theorem dX0_putIn_33 : decode cX0_putIn 33 = .ok (.iload_n 1, 1) := by decide +kernel
theorem dX0_putIn_34 : decode cX0_putIn 34 = .ok (.aload_n 0, 1) := by decide +kernel
theorem dX0_putIn_35 : decode cX0_putIn 35 = .ok (.getfield 15, 3) := by decide +kernel
theorem dX0_putIn_38 : decode cX0_putIn 38 = .ok (.iload_n 1, 1) := by decide +kernel
theorem dX0_putIn_39 : decode cX0_putIn 39 = .ok (.aload_n 2, 1) := by decide +kernel
theorem dX0_putIn_40 : decode cX0_putIn 40 = .ok (.getfield 21, 3) := by decide +kernel
theorem dX0_putIn_43 : decode cX0_putIn 43 = .ok (.iadd, 1) := by decide +kernel
theorem dX0_putIn_44 : decode cX0_putIn 44 = .ok (.aload_n 0, 1) := by decide +kernel
theorem dX0_putIn_45 : decode cX0_putIn 45 = .ok (.getfield 21, 3) := by decide +kernel
theorem dX0_putIn_48 : decode cX0_putIn 48 = .ok (.iload_n 1, 1) := by decide +kernel
theorem dX0_putIn_49 : decode cX0_putIn 49 = .ok (.isub, 1) := by decide +kernel
theorem dX0_putIn_50 : decode cX0_putIn 50 = .ok (.invokestatic 29, 3) := by decide +kernel
theorem dX0_putIn_53 : decode cX0_putIn 53 = .ok (.aload_n 2, 1) := by decide +kernel
theorem dX0_putIn_54 : decode cX0_putIn 54 = .ok (.getfield 15, 3) := by decide +kernel
theorem dX0_putIn_57 : decode cX0_putIn 57 = .ok (.iconst 0, 1) := by decide +kernel
theorem dX0_putIn_58 : decode cX0_putIn 58 = .ok (.aload_n 0, 1) := by decide +kernel
theorem dX0_putIn_59 : decode cX0_putIn 59 = .ok (.getfield 15, 3) := by decide +kernel
theorem dX0_putIn_62 : decode cX0_putIn 62 = .ok (.iload_n 1, 1) := by decide +kernel
theorem dX0_putIn_63 : decode cX0_putIn 63 = .ok (.aload_n 2, 1) := by decide +kernel
theorem dX0_putIn_64 : decode cX0_putIn 64 = .ok (.getfield 21, 3) := by decide +kernel
theorem dX0_putIn_67 : decode cX0_putIn 67 = .ok (.invokestatic 29, 3) := by decide +kernel
theorem dX0_putIn_70 : decode cX0_putIn 70 = .ok (.aload_n 0, 1) := by decide +kernel
theorem dX0_putIn_71 : decode cX0_putIn 71 = .ok (.dup, 1) := by decide +kernel
theorem dX0_putIn_72 : decode cX0_putIn 72 = .ok (.getfield 21, 3) := by decide +kernel
theorem dX0_putIn_75 : decode cX0_putIn 75 = .ok (.aload_n 2, 1) := by decide +kernel
theorem dX0_putIn_76 : decode cX0_putIn 76 = .ok (.getfield 21, 3) := by decide +kernel
theorem dX0_putIn_79 : decode cX0_putIn 79 = .ok (.iadd, 1) := by decide +kernel
theorem dX0_putIn_80 : decode cX0_putIn 80 = .ok (.putfield 21, 3) := by decide +kernel
theorem dX0_putIn_83 : decode cX0_putIn 83 = .ok (.return_, 1) := by decide +kernel
theorem dX0_takeOut_0 : decode cX0_takeOut 0 = .ok (.aload_n 0, 1) := by decide +kernel
theorem dX0_takeOut_1 : decode cX0_takeOut 1 = .ok (.iload_n 1, 1) := by decide +kernel
theorem dX0_takeOut_2 : decode cX0_takeOut 2 = .ok (.iload_n 2, 1) := by decide +kernel
theorem dX0_takeOut_3 : decode cX0_takeOut 3 = .ok (.invokevirtual 25, 3) := by decide +kernel
theorem dX0_takeOut_6 : decode cX0_takeOut 6 = .ok (.ifCond .eq 34, 3) := by decide +kernel
theorem dX0_takeOut_9 : decode cX0_takeOut 9 = .ok (.aload_n 0, 1) := by decide +kernel
theorem dX0_takeOut_10 : decode cX0_takeOut 10 = .ok (.getfield 15, 3) := by decide +kernel
theorem dX0_takeOut_13 : decode cX0_takeOut 13 = .ok (.iload_n 2, 1) := by decide +kernel
theorem dX0_takeOut_14 : decode cX0_takeOut 14 = .ok (.aload_n 0, 1) := by decide +kernel
theorem dX0_takeOut_15 : decode cX0_takeOut 15 = .ok (.getfield 15, 3) := by decide +kernel
theorem dX0_takeOut_18 : decode cX0_takeOut 18 = .ok (.iload_n 1, 1) := by decide +kernel
theorem dX0_takeOut_19 : decode cX0_takeOut 19 = .ok (.aload_n 0, 1) := by decide +kernel
theorem dX0_takeOut_20 : decode cX0_takeOut 20 = .ok (.getfield 21, 3) := by decide +kernel
theorem dX0_takeOut_23 : decode cX0_takeOut 23 = .ok (.iload_n 2, 1) := by decide +kernel
theorem dX0_takeOut_24 : decode cX0_takeOut 24 = .ok (.isub, 1) := by decide +kernel
theorem dX0_takeOut_25 : decode cX0_takeOut 25 = .ok (.invokestatic 29, 3) := by decide +kernel
theorem dX0_takeOut_28 : decode cX0_takeOut 28 = .ok (.aload_n 0, 1) := by decide +kernel
theorem dX0_takeOut_29 : decode cX0_takeOut 29 = .ok (.dup, 1) := by decide +kernel
theorem dX0_takeOut_30 : decode cX0_takeOut 30 = .ok (.getfield 21, 3) := by decide +kernel
theorem dX0_takeOut_33 : decode cX0_takeOut 33 = .ok (.iload_n 2, 1) := by decide +kernel
theorem dX0_takeOut_34 : decode cX0_takeOut 34 = .ok (.iload_n 1, 1) := by decide +kernel
theorem dX0_takeOut_35 : decode cX0_takeOut 35 = .ok (.isub, 1) := by decide +kernel
theorem dX0_takeOut_36 : decode cX0_takeOut 36 = .ok (.isub, 1) := by decide +kernel
theorem dX0_takeOut_37 : decode cX0_takeOut 37 = .ok (.putfield 21, 3) := by decide +kernel
theorem dX0_takeOut_40 : decode cX0_takeOut 40 = .ok (.return_, 1) := by decide +kernel
theorem dX1_init_0 : decode cX1_init 0 = .ok (.aload_n 0, 1) := by decide +kernel
theorem dX1_init_1 : decode cX1_init 1 = .ok (.invokespecial 3, 3) := by decide +kernel
theorem dX1_init_4 : decode cX1_init 4 = .ok (.aload_n 0, 1) := by decide +kernel
theorem dX1_init_5 : decode cX1_init 5 = .ok (.iconst 5, 1) := by decide +kernel
theorem dX1_init_6 : decode cX1_init 6 = .ok (.anewarray 9, 3) := by decide +kernel
theorem dX1_init_9 : decode cX1_init 9 = .ok (.putfield 11, 3) := by decide +kernel
theorem dX1_init_12 : decode cX1_init 12 = .ok (.iconst 0, 1) := by decide +kernel
theorem dX1_init_13 : decode cX1_init 13 = .ok (.istore_n 1, 1) := by decide +kernel
theorem dX1_init_14 : decode cX1_init 14 = .ok (.iload_n 1, 1) := by decide +kernel
theorem dX1_init_15 : decode cX1_init 15 = .ok (.iconst 5, 1) := by decide +kernel
theorem dX1_init_16 : decode cX1_init 16 = .ok (.if_icmp .ge 25, 3) := by decide +kernel
theorem dX1_init_19 : decode cX1_init 19 = .ok (.aload_n 0, 1) := by decide +kernel
theorem dX1_init_20 : decode cX1_init 20 = .ok (.getfield 11, 3) := by decide +kernel
theorem dX1_init_23 : decode cX1_init 23 = .ok (.iload_n 1, 1) := by decide +kernel
theorem dX1_init_24 : decode cX1_init 24 = .ok (.new 9, 3) := by decide +kernel
theorem dX1_init_27 : decode cX1_init 27 = .ok (.dup, 1) := by decide +kernel
theorem dX1_init_28 : decode cX1_init 28 = .ok (.sipush 1500, 3) := by decide +kernel
theorem dX1_init_31 : decode cX1_init 31 = .ok (.invokespecial 17, 3) := by decide +kernel
theorem dX1_init_34 : decode cX1_init 34 = .ok (.aastore, 1) := by decide +kernel
theorem dX1_init_35 : decode cX1_init 35 = .ok (.iinc 1 1, 3) := by decide +kernel
theorem dX1_init_38 : decode cX1_init 38 = .ok (.goto (-24), 3) := by decide +kernel
theorem dX1_init_41 : decode cX1_init 41 = .ok (.return_, 1) := by decide +kernel
theorem dX1_keep_0 : decode cX1_keep 0 = .ok (.aload_n 0, 1) := by decide +kernel
theorem dX1_keep_1 : decode cX1_keep 1 = .ok (.aload_n 0, 1) := by decide +kernel
theorem dX1_keep_2 : decode cX1_keep 2 = .ok (.getfield 20, 3) := by decide +kernel
theorem dX1_keep_5 : decode cX1_keep 5 = .ok (.iconst 1, 1) := by decide +kernel
theorem dX1_keep_6 : decode cX1_keep 6 = .ok (.iadd, 1) := by decide +kernel
theorem dX1_keep_7 : decode cX1_keep 7 = .ok (.iconst 5, 1) := by decide +kernel
theorem dX1_keep_8 : decode cX1_keep 8 = .ok (.if_icmp .ge 12, 3) := by decide +kernel
theorem dX1_keep_11 : decode cX1_keep 11 = .ok (.aload_n 0, 1) := by decide +kernel
theorem dX1_keep_12 : decode cX1_keep 12 = .ok (.getfield 20, 3) := by decide +kernel
theorem dX1_keep_15 : decode cX1_keep 15 = .ok (.iconst 1, 1) := by decide +kernel
theorem dX1_keep_16 : decode cX1_keep 16 = .ok (.iadd, 1) := by decide +kernel
theorem dX1_keep_17 : decode cX1_keep 17 = .ok (.goto 4, 3) := by decide +kernel
theorem dX1_keep_20 : decode cX1_keep 20 = .ok (.iconst 0, 1) := by decide +kernel
theorem dX1_keep_21 : decode cX1_keep 21 = .ok (.putfield 20, 3) := by decide +kernel
theorem dX1_keep_24 : decode cX1_keep 24 = .ok (.aload_n 0, 1) := by decide +kernel
theorem dX1_keep_25 : decode cX1_keep 25 = .ok (.getfield 11, 3) := by decide +kernel
theorem dX1_keep_28 : decode cX1_keep 28 = .ok (.aload_n 0, 1) := by decide +kernel
theorem dX1_keep_29 : decode cX1_keep 29 = .ok (.getfield 20, 3) := by decide +kernel
theorem dX1_keep_32 : decode cX1_keep 32 = .ok (.aaload, 1) := by decide +kernel
theorem dX1_keep_33 : decode cX1_keep 33 = .ok (.aload_n 1, 1) := by decide +kernel
theorem dX1_keep_34 : decode cX1_keep 34 = .ok (.invokevirtual 24, 3) := by decide +kernel
theorem dX1_keep_37 : decode cX1_keep 37 = .ok (.aload_n 0, 1) := by decide +kernel
theorem dX1_keep_38 : decode cX1_keep 38 = .ok (.aload_n 0, 1) := by decide +kernel
theorem dX1_keep_39 : decode cX1_keep 39 = .ok (.getfield 28, 3) := by decide +kernel
theorem dX1_keep_42 : decode cX1_keep 42 = .ok (.iconst 1, 1) := by decide +kernel
theorem dX1_keep_43 : decode cX1_keep 43 = .ok (.iadd, 1) := by decide +kernel
theorem dX1_keep_44 : decode cX1_keep 44 = .ok (.iconst 5, 1) := by decide +kernel
theorem dX1_keep_45 : decode cX1_keep 45 = .ok (.invokestatic 31, 3) := by decide +kernel
theorem dX1_keep_48 : decode cX1_keep 48 = .ok (.putfield 28, 3) := by decide +kernel
theorem dX1_keep_51 : decode cX1_keep 51 = .ok (.return_, 1) := by decide +kernel
theorem dX1_takeBack_0 : decode cX1_takeBack 0 = .ok (.aload_n 0, 1) := by decide +kernel
theorem dX1_takeBack_1 : decode cX1_takeBack 1 = .ok (.getfield 28, 3) := by decide +kernel
theorem dX1_takeBack_4 : decode cX1_takeBack 4 = .ok (.ifCond .ne 5, 3) := by decide +kernel
theorem dX1_takeBack_7 : decode cX1_takeBack 7 = .ok (.iconst 0, 1) := by decide +kernel
theorem dX1_takeBack_8 : decode cX1_takeBack 8 = .ok (.ireturn, 1) := by decide +kernel
theorem dX1_takeBack_9 : decode cX1_takeBack 9 = .ok (.aload_n 1, 1) := by decide +kernel
theorem dX1_takeBack_10 : decode cX1_takeBack 10 = .ok (.aload_n 0, 1) := by decide +kernel
theorem dX1_takeBack_11 : decode cX1_takeBack 11 = .ok (.getfield 11, 3) := by decide +kernel
theorem dX1_takeBack_14 : decode cX1_takeBack 14 = .ok (.aload_n 0, 1) := by decide +kernel
theorem dX1_takeBack_15 : decode cX1_takeBack 15 = .ok (.getfield 20, 3) := by decide +kernel
theorem dX1_takeBack_18 : decode cX1_takeBack 18 = .ok (.aaload, 1) := by decide +kernel
theorem dX1_takeBack_19 : decode cX1_takeBack 19 = .ok (.invokevirtual 24, 3) := by decide +kernel
theorem dX1_takeBack_22 : decode cX1_takeBack 22 = .ok (.aload_n 0, 1) := by decide +kernel
theorem dX1_takeBack_23 : decode cX1_takeBack 23 = .ok (.aload_n 0, 1) := by decide +kernel
theorem dX1_takeBack_24 : decode cX1_takeBack 24 = .ok (.getfield 20, 3) := by decide +kernel
theorem dX1_takeBack_27 : decode cX1_takeBack 27 = .ok (.ifCond .le 12, 3) := by decide +kernel
theorem dX1_takeBack_30 : decode cX1_takeBack 30 = .ok (.aload_n 0, 1) := by decide +kernel
theorem dX1_takeBack_31 : decode cX1_takeBack 31 = .ok (.getfield 20, 3) := by decide +kernel
theorem dX1_takeBack_34 : decode cX1_takeBack 34 = .ok (.iconst 1, 1) := by decide +kernel
theorem dX1_takeBack_35 : decode cX1_takeBack 35 = .ok (.isub, 1) := by decide +kernel
theorem dX1_takeBack_36 : decode cX1_takeBack 36 = .ok (.goto 4, 3) := by decide +kernel
theorem dX1_takeBack_39 : decode cX1_takeBack 39 = .ok (.iconst 4, 1) := by decide +kernel
theorem dX1_takeBack_40 : decode cX1_takeBack 40 = .ok (.putfield 20, 3) := by decide +kernel
theorem dX1_takeBack_43 : decode cX1_takeBack 43 = .ok (.aload_n 0, 1) := by decide +kernel
theorem dX1_takeBack_44 : decode cX1_takeBack 44 = .ok (.dup, 1) := by decide +kernel
theorem dX1_takeBack_45 : decode cX1_takeBack 45 = .ok (.getfield 28, 3) := by decide +kernel
theorem dX1_takeBack_48 : decode cX1_takeBack 48 = .ok (.iconst 1, 1) := by decide +kernel
theorem dX1_takeBack_49 : decode cX1_takeBack 49 = .ok (.isub, 1) := by decide +kernel
theorem dX1_takeBack_50 : decode cX1_takeBack 50 = .ok (.putfield 28, 3) := by decide +kernel
theorem dX1_takeBack_53 : decode cX1_takeBack 53 = .ok (.iconst 1, 1) := by decide +kernel
theorem dX1_takeBack_54 : decode cX1_takeBack 54 = .ok (.ireturn, 1) := by decide +kernel
theorem dX2_init_0 : decode cX2_init 0 = .ok (.aload_n 0, 1) := by decide +kernel
theorem dX2_init_1 : decode cX2_init 1 = .ok (.invokespecial 3, 3) := by decide +kernel
theorem dX2_init_4 : decode cX2_init 4 = .ok (.aload_n 0, 1) := by decide +kernel
theorem dX2_init_5 : decode cX2_init 5 = .ok (.new 9, 3) := by decide +kernel
theorem dX2_init_8 : decode cX2_init 8 = .ok (.dup, 1) := by decide +kernel
theorem dX2_init_9 : decode cX2_init 9 = .ok (.sipush 1500, 3) := by decide +kernel
theorem dX2_init_12 : decode cX2_init 12 = .ok (.invokespecial 11, 3) := by decide +kernel
theorem dX2_init_15 : decode cX2_init 15 = .ok (.putfield 14, 3) := by decide +kernel
theorem dX2_init_18 : decode cX2_init 18 = .ok (.aload_n 0, 1) := by decide +kernel
theorem dX2_init_19 : decode cX2_init 19 = .ok (.new 20, 3) := by decide +kernel
theorem dX2_init_22 : decode cX2_init 22 = .ok (.dup, 1) := by decide +kernel
theorem dX2_init_23 : decode cX2_init 23 = .ok (.sipush 200, 3) := by decide +kernel
theorem dX2_init_26 : decode cX2_init 26 = .ok (.invokespecial 22, 3) := by decide +kernel
theorem dX2_init_29 : decode cX2_init 29 = .ok (.putfield 23, 3) := by decide +kernel
theorem dX2_init_32 : decode cX2_init 32 = .ok (.aload_n 0, 1) := by decide +kernel
theorem dX2_init_33 : decode cX2_init 33 = .ok (.iconst (-1), 1) := by decide +kernel
theorem dX2_init_34 : decode cX2_init 34 = .ok (.putfield 27, 3) := by decide +kernel
theorem dX2_init_37 : decode cX2_init 37 = .ok (.aload_n 0, 1) := by decide +kernel
theorem dX2_init_38 : decode cX2_init 38 = .ok (.new 31, 3) := by decide +kernel
theorem dX2_init_41 : decode cX2_init 41 = .ok (.dup, 1) := by decide +kernel
theorem dX2_init_42 : decode cX2_init 42 = .ok (.invokespecial 33, 3) := by decide +kernel
theorem dX2_init_45 : decode cX2_init 45 = .ok (.putfield 34, 3) := by decide +kernel
theorem dX2_init_48 : decode cX2_init 48 = .ok (.aload_n 0, 1) := by decide +kernel
theorem dX2_init_49 : decode cX2_init 49 = .ok (.sipush 1500, 3) := by decide +kernel
theorem dX2_init_52 : decode cX2_init 52 = .ok (.newarray .int, 2) := by decide +kernel
theorem dX2_init_54 : decode cX2_init 54 = .ok (.putfield 38, 3) := by decide +kernel
theorem dX2_init_57 : decode cX2_init 57 = .ok (.aload_n 0, 1) := by decide +kernel
theorem dX2_init_58 : decode cX2_init 58 = .ok (.sipush 1500, 3) := by decide +kernel
theorem dX2_init_61 : decode cX2_init 61 = .ok (.newarray .int, 2) := by decide +kernel
theorem dX2_init_63 : decode cX2_init 63 = .ok (.putfield 42, 3) := by decide +kernel
theorem dX2_init_66 : decode cX2_init 66 = .ok (.aload_n 0, 1) := by decide +kernel
theorem dX2_init_67 : decode cX2_init 67 = .ok (.sipush 1500, 3) := by decide +kernel
theorem dX2_init_70 : decode cX2_init 70 = .ok (.newarray .int, 2) := by decide +kernel
theorem dX2_init_72 : decode cX2_init 72 = .ok (.putfield 45, 3) := by decide +kernel
theorem dX2_init_75 : decode cX2_init 75 = .ok (.return_, 1) := by decide +kernel
theorem dX2_reset_0 : decode cX2_reset 0 = .ok (.aload_n 0, 1) := by decide +kernel
theorem dX2_reset_1 : decode cX2_reset 1 = .ok (.getfield 23, 3) := by decide +kernel
theorem dX2_reset_4 : decode cX2_reset 4 = .ok (.aload_n 1, 1) := by decide +kernel
theorem dX2_reset_5 : decode cX2_reset 5 = .ok (.invokevirtual 48, 3) := by decide +kernel
theorem dX2_reset_8 : decode cX2_reset 8 = .ok (.aload_n 0, 1) := by decide +kernel
theorem dX2_reset_9 : decode cX2_reset 9 = .ok (.getfield 14, 3) := by decide +kernel
theorem dX2_reset_12 : decode cX2_reset 12 = .ok (.aload_n 2, 1) := by decide +kernel
theorem dX2_reset_13 : decode cX2_reset 13 = .ok (.invokevirtual 52, 3) := by decide +kernel
theorem dX2_reset_16 : decode cX2_reset 16 = .ok (.aload_n 0, 1) := by decide +kernel
theorem dX2_reset_17 : decode cX2_reset 17 = .ok (.iload_n 3, 1) := by decide +kernel
theorem dX2_reset_18 : decode cX2_reset 18 = .ok (.putfield 55, 3) := by decide +kernel
theorem dX2_reset_21 : decode cX2_reset 21 = .ok (.aload_n 0, 1) := by decide +kernel
theorem dX2_reset_22 : decode cX2_reset 22 = .ok (.iconst (-1), 1) := by decide +kernel
theorem dX2_reset_23 : decode cX2_reset 23 = .ok (.putfield 27, 3) := by decide +kernel
theorem dX2_reset_26 : decode cX2_reset 26 = .ok (.aload_n 0, 1) := by decide +kernel
theorem dX2_reset_27 : decode cX2_reset 27 = .ok (.iconst 0, 1) := by decide +kernel
theorem dX2_reset_28 : decode cX2_reset 28 = .ok (.putfield 59, 3) := by decide +kernel
theorem dX2_reset_31 : decode cX2_reset 31 = .ok (.return_, 1) := by decide +kernel
theorem dX2_add_0 : decode cX2_add 0 = .ok (.aload_n 0, 1) := by decide +kernel
theorem dX2_add_1 : decode cX2_add 1 = .ok (.getfield 59, 3) := by decide +kernel
theorem dX2_add_4 : decode cX2_add 4 = .ok (.sipush 1500, 3) := by decide +kernel
theorem dX2_add_7 : decode cX2_add 7 = .ok (.if_icmp .ge 43, 3) := by decide +kernel
theorem dX2_add_10 : decode cX2_add 10 = .ok (.aload_n 0, 1) := by decide +kernel
theorem dX2_add_11 : decode cX2_add 11 = .ok (.getfield 38, 3) := by decide +kernel
theorem dX2_add_14 : decode cX2_add 14 = .ok (.aload_n 0, 1) := by decide +kernel
theorem dX2_add_15 : decode cX2_add 15 = .ok (.getfield 59, 3) := by decide +kernel
theorem dX2_add_18 : decode cX2_add 18 = .ok (.iload_n 1, 1) := by decide +kernel
theorem dX2_add_19 : decode cX2_add 19 = .ok (.iastore, 1) := by decide +kernel
theorem dX2_add_20 : decode cX2_add 20 = .ok (.aload_n 0, 1) := by decide +kernel
theorem dX2_add_21 : decode cX2_add 21 = .ok (.getfield 42, 3) := by decide +kernel
theorem dX2_add_24 : decode cX2_add 24 = .ok (.aload_n 0, 1) := by decide +kernel
theorem dX2_add_25 : decode cX2_add 25 = .ok (.getfield 59, 3) := by decide +kernel
theorem dX2_add_28 : decode cX2_add 28 = .ok (.iload_n 2, 1) := by decide +kernel
theorem dX2_add_29 : decode cX2_add 29 = .ok (.iastore, 1) := by decide +kernel
theorem dX2_add_30 : decode cX2_add 30 = .ok (.aload_n 0, 1) := by decide +kernel
theorem dX2_add_31 : decode cX2_add 31 = .ok (.getfield 45, 3) := by decide +kernel
theorem dX2_add_34 : decode cX2_add 34 = .ok (.aload_n 0, 1) := by decide +kernel
theorem dX2_add_35 : decode cX2_add 35 = .ok (.getfield 59, 3) := by decide +kernel
theorem dX2_add_38 : decode cX2_add 38 = .ok (.iload_n 3, 1) := by decide +kernel
theorem dX2_add_39 : decode cX2_add 39 = .ok (.iastore, 1) := by decide +kernel
theorem dX2_add_40 : decode cX2_add 40 = .ok (.aload_n 0, 1) := by decide +kernel
theorem dX2_add_41 : decode cX2_add 41 = .ok (.dup, 1) := by decide +kernel
theorem dX2_add_42 : decode cX2_add 42 = .ok (.getfield 59, 3) := by decide +kernel
theorem dX2_add_45 : decode cX2_add 45 = .ok (.iconst 1, 1) := by decide +kernel
theorem dX2_add_46 : decode cX2_add 46 = .ok (.iadd, 1) := by decide +kernel
theorem dX2_add_47 : decode cX2_add 47 = .ok (.putfield 59, 3) := by decide +kernel
theorem dX2_add_50 : decode cX2_add 50 = .ok (.return_, 1) := by decide +kernel
theorem dX2_trace_0 : decode cX2_trace 0 = .ok (.iload_n 1, 1) := by decide +kernel
theorem dX2_trace_1 : decode cX2_trace 1 = .ok (.aload_n 0, 1) := by decide +kernel
theorem dX2_trace_2 : decode cX2_trace 2 = .ok (.getfield 27, 3) := by decide +kernel
theorem dX2_trace_5 : decode cX2_trace 5 = .ok (.if_icmp .eq 58, 3) := by decide +kernel
theorem dX2_trace_8 : decode cX2_trace 8 = .ok (.iload_n 1, 1) := by decide +kernel
theorem dX2_trace_9 : decode cX2_trace 9 = .ok (.ifCond .lt 54, 3) := by decide +kernel
theorem dX2_trace_12 : decode cX2_trace 12 = .ok (.iload_n 1, 1) := by decide +kernel
theorem dX2_trace_13 : decode cX2_trace 13 = .ok (.aload_n 0, 1) := by decide +kernel
theorem dX2_trace_14 : decode cX2_trace 14 = .ok (.getfield 59, 3) := by decide +kernel
theorem dX2_trace_17 : decode cX2_trace 17 = .ok (.if_icmp .ge 46, 3) := by decide +kernel
theorem dX2_trace_20 : decode cX2_trace 20 = .ok (.aload_n 2, 1) := by decide +kernel
theorem dX2_trace_21 : decode cX2_trace 21 = .ok (.aload_n 0, 1) := by decide +kernel
theorem dX2_trace_22 : decode cX2_trace 22 = .ok (.getfield 23, 3) := by decide +kernel
theorem dX2_trace_25 : decode cX2_trace 25 = .ok (.aload_n 0, 1) := by decide +kernel
theorem dX2_trace_26 : decode cX2_trace 26 = .ok (.getfield 14, 3) := by decide +kernel
theorem dX2_trace_29 : decode cX2_trace 29 = .ok (.aload_n 0, 1) := by decide +kernel
theorem dX2_trace_30 : decode cX2_trace 30 = .ok (.getfield 45, 3) := by decide +kernel
theorem dX2_trace_33 : decode cX2_trace 33 = .ok (.iload_n 1, 1) := by decide +kernel
theorem dX2_trace_34 : decode cX2_trace 34 = .ok (.iaload, 1) := by decide +kernel
theorem dX2_trace_35 : decode cX2_trace 35 = .ok (.aload_n 0, 1) := by decide +kernel
theorem dX2_trace_36 : decode cX2_trace 36 = .ok (.getfield 38, 3) := by decide +kernel
theorem dX2_trace_39 : decode cX2_trace 39 = .ok (.iload_n 1, 1) := by decide +kernel
theorem dX2_trace_40 : decode cX2_trace 40 = .ok (.iaload, 1) := by decide +kernel
theorem dX2_trace_41 : decode cX2_trace 41 = .ok (.aload_n 0, 1) := by decide +kernel
theorem dX2_trace_42 : decode cX2_trace 42 = .ok (.getfield 55, 3) := by decide +kernel
theorem dX2_trace_45 : decode cX2_trace 45 = .ok (.aload_n 0, 1) := by decide +kernel
theorem dX2_trace_46 : decode cX2_trace 46 = .ok (.getfield 42, 3) := by decide +kernel
theorem dX2_trace_49 : decode cX2_trace 49 = .ok (.iload_n 1, 1) := by decide +kernel
theorem dX2_trace_50 : decode cX2_trace 50 = .ok (.iaload, 1) := by decide +kernel
theorem dX2_trace_51 : decode cX2_trace 51 = .ok (.aload_n 0, 1) := by decide +kernel
theorem dX2_trace_52 : decode cX2_trace 52 = .ok (.getfield 34, 3) := by decide +kernel
theorem dX2_trace_55 : decode cX2_trace 55 = .ok (.invokevirtual 62, 3) := by decide +kernel
theorem dX2_trace_58 : decode cX2_trace 58 = .ok (.aload_n 0, 1) := by decide +kernel
theorem dX2_trace_59 : decode cX2_trace 59 = .ok (.iload_n 1, 1) := by decide +kernel
theorem dX2_trace_60 : decode cX2_trace 60 = .ok (.putfield 27, 3) := by decide +kernel
theorem dX2_trace_63 : decode cX2_trace 63 = .ok (.return_, 1) := by decide +kernel
theorem dX3_init_0 : decode cX3_init 0 = .ok (.aload_n 0, 1) := by decide +kernel
theorem dX3_init_1 : decode cX3_init 1 = .ok (.invokespecial 3, 3) := by decide +kernel
theorem dX3_init_4 : decode cX3_init 4 = .ok (.aload_n 0, 1) := by decide +kernel
theorem dX3_init_5 : decode cX3_init 5 = .ok (.sipush 751, 3) := by decide +kernel
theorem dX3_init_8 : decode cX3_init 8 = .ok (.newarray .int, 2) := by decide +kernel
theorem dX3_init_10 : decode cX3_init 10 = .ok (.putfield 9, 3) := by decide +kernel
theorem dX3_init_13 : decode cX3_init 13 = .ok (.return_, 1) := by decide +kernel
theorem dX3_clear_0 : decode cX3_clear 0 = .ok (.aload_n 0, 1) := by decide +kernel
theorem dX3_clear_1 : decode cX3_clear 1 = .ok (.iconst 0, 1) := by decide +kernel
theorem dX3_clear_2 : decode cX3_clear 2 = .ok (.putfield 15, 3) := by decide +kernel
theorem dX3_clear_5 : decode cX3_clear 5 = .ok (.return_, 1) := by decide +kernel
theorem dX3_add_0 : decode cX3_add 0 = .ok (.aload_n 0, 1) := by decide +kernel
theorem dX3_add_1 : decode cX3_add 1 = .ok (.getfield 15, 3) := by decide +kernel
theorem dX3_add_4 : decode cX3_add 4 = .ok (.aload_n 0, 1) := by decide +kernel
theorem dX3_add_5 : decode cX3_add 5 = .ok (.getfield 9, 3) := by decide +kernel
theorem dX3_add_8 : decode cX3_add 8 = .ok (.arraylength, 1) := by decide +kernel
theorem dX3_add_9 : decode cX3_add 9 = .ok (.if_icmp .ge 23, 3) := by decide +kernel
theorem dX3_add_12 : decode cX3_add 12 = .ok (.aload_n 0, 1) := by decide +kernel
theorem dX3_add_13 : decode cX3_add 13 = .ok (.getfield 9, 3) := by decide +kernel
theorem dX3_add_16 : decode cX3_add 16 = .ok (.aload_n 0, 1) := by decide +kernel
theorem dX3_add_17 : decode cX3_add 17 = .ok (.getfield 15, 3) := by decide +kernel
theorem dX3_add_20 : decode cX3_add 20 = .ok (.iload_n 1, 1) := by decide +kernel
theorem dX3_add_21 : decode cX3_add 21 = .ok (.iastore, 1) := by decide +kernel
theorem dX3_add_22 : decode cX3_add 22 = .ok (.aload_n 0, 1) := by decide +kernel
theorem dX3_add_23 : decode cX3_add 23 = .ok (.dup, 1) := by decide +kernel
theorem dX3_add_24 : decode cX3_add 24 = .ok (.getfield 15, 3) := by decide +kernel
theorem dX3_add_27 : decode cX3_add 27 = .ok (.iconst 1, 1) := by decide +kernel
theorem dX3_add_28 : decode cX3_add 28 = .ok (.iadd, 1) := by decide +kernel
theorem dX3_add_29 : decode cX3_add 29 = .ok (.putfield 15, 3) := by decide +kernel
theorem dX3_add_32 : decode cX3_add 32 = .ok (.return_, 1) := by decide +kernel
theorem dX3_get_0 : decode cX3_get 0 = .ok (.iload_n 1, 1) := by decide +kernel
theorem dX3_get_1 : decode cX3_get 1 = .ok (.ifCond .lt 20, 3) := by decide +kernel
theorem dX3_get_4 : decode cX3_get 4 = .ok (.iload_n 1, 1) := by decide +kernel
theorem dX3_get_5 : decode cX3_get 5 = .ok (.aload_n 0, 1) := by decide +kernel
theorem dX3_get_6 : decode cX3_get 6 = .ok (.getfield 15, 3) := by decide +kernel
theorem dX3_get_9 : decode cX3_get 9 = .ok (.if_icmp .ge 12, 3) := by decide +kernel
theorem dX3_get_12 : decode cX3_get 12 = .ok (.aload_n 0, 1) := by decide +kernel
theorem dX3_get_13 : decode cX3_get 13 = .ok (.getfield 9, 3) := by decide +kernel
theorem dX3_get_16 : decode cX3_get 16 = .ok (.iload_n 1, 1) := by decide +kernel
theorem dX3_get_17 : decode cX3_get 17 = .ok (.iaload, 1) := by decide +kernel
theorem dX3_get_18 : decode cX3_get 18 = .ok (.goto 4, 3) := by decide +kernel
theorem dX3_get_21 : decode cX3_get 21 = .ok (.iconst (-1), 1) := by decide +kernel
theorem dX3_get_22 : decode cX3_get 22 = .ok (.ireturn, 1) := by decide +kernel
theorem dX4_init_0 : decode cX4_init 0 = .ok (.aload_n 0, 1) := by decide +kernel
theorem dX4_init_1 : decode cX4_init 1 = .ok (.invokespecial 3, 3) := by decide +kernel
theorem dX4_init_4 : decode cX4_init 4 = .ok (.aload_n 0, 1) := by decide +kernel
theorem dX4_init_5 : decode cX4_init 5 = .ok (.new 9, 3) := by decide +kernel
theorem dX4_init_8 : decode cX4_init 8 = .ok (.dup, 1) := by decide +kernel
theorem dX4_init_9 : decode cX4_init 9 = .ok (.iconst 0, 1) := by decide +kernel
theorem dX4_init_10 : decode cX4_init 10 = .ok (.invokespecial 11, 3) := by decide +kernel
theorem dX4_init_13 : decode cX4_init 13 = .ok (.putfield 14, 3) := by decide +kernel
theorem dX4_init_16 : decode cX4_init 16 = .ok (.aload_n 0, 1) := by decide +kernel
theorem dX4_init_17 : decode cX4_init 17 = .ok (.new 20, 3) := by decide +kernel
theorem dX4_init_20 : decode cX4_init 20 = .ok (.dup, 1) := by decide +kernel
theorem dX4_init_21 : decode cX4_init 21 = .ok (.sipush 200, 3) := by decide +kernel
theorem dX4_init_24 : decode cX4_init 24 = .ok (.invokespecial 22, 3) := by decide +kernel
theorem dX4_init_27 : decode cX4_init 27 = .ok (.putfield 23, 3) := by decide +kernel
theorem dX4_init_30 : decode cX4_init 30 = .ok (.aload_n 0, 1) := by decide +kernel
theorem dX4_init_31 : decode cX4_init 31 = .ok (.iconst (-1), 1) := by decide +kernel
theorem dX4_init_32 : decode cX4_init 32 = .ok (.putfield 27, 3) := by decide +kernel
theorem dX4_init_35 : decode cX4_init 35 = .ok (.return_, 1) := by decide +kernel
theorem dX4_read_0 : decode cX4_read 0 = .ok (.aload_n 0, 1) := by decide +kernel
theorem dX4_read_1 : decode cX4_read 1 = .ok (.aload_n 1, 1) := by decide +kernel
theorem dX4_read_2 : decode cX4_read 2 = .ok (.putfield 14, 3) := by decide +kernel
theorem dX4_read_5 : decode cX4_read 5 = .ok (.aload_n 0, 1) := by decide +kernel
theorem dX4_read_6 : decode cX4_read 6 = .ok (.iconst 0, 1) := by decide +kernel
theorem dX4_read_7 : decode cX4_read 7 = .ok (.putfield 31, 3) := by decide +kernel
theorem dX4_read_10 : decode cX4_read 10 = .ok (.aload_n 0, 1) := by decide +kernel
theorem dX4_read_11 : decode cX4_read 11 = .ok (.iconst 0, 1) := by decide +kernel
theorem dX4_read_12 : decode cX4_read 12 = .ok (.putfield 34, 3) := by decide +kernel
theorem dX4_read_15 : decode cX4_read 15 = .ok (.aload_n 0, 1) := by decide +kernel
theorem dX4_read_16 : decode cX4_read 16 = .ok (.iconst (-1), 1) := by decide +kernel
theorem dX4_read_17 : decode cX4_read 17 = .ok (.putfield 27, 3) := by decide +kernel
theorem dX4_read_20 : decode cX4_read 20 = .ok (.aload_n 0, 1) := by decide +kernel
theorem dX4_read_21 : decode cX4_read 21 = .ok (.getfield 23, 3) := by decide +kernel
theorem dX4_read_24 : decode cX4_read 24 = .ok (.invokevirtual 37, 3) := by decide +kernel
theorem dX4_read_27 : decode cX4_read 27 = .ok (.aload_n 0, 1) := by decide +kernel
theorem dX4_read_28 : decode cX4_read 28 = .ok (.getfield 14, 3) := by decide +kernel
theorem dX4_read_31 : decode cX4_read 31 = .ok (.getfield 40, 3) := by decide +kernel
theorem dX4_read_34 : decode cX4_read 34 = .ok (.ifCond .ne 9, 3) := by decide +kernel
theorem dX4_read_37 : decode cX4_read 37 = .ok (.aload_n 0, 1) := by decide +kernel
theorem dX4_read_38 : decode cX4_read 38 = .ok (.iconst 3, 1) := by decide +kernel
theorem dX4_read_39 : decode cX4_read 39 = .ok (.iconst 0, 1) := by decide +kernel
theorem dX4_read_40 : decode cX4_read 40 = .ok (.invokevirtual 43, 3) := by decide +kernel
theorem dX4_read_43 : decode cX4_read 43 = .ok (.iconst 0, 1) := by decide +kernel
theorem dX4_read_44 : decode cX4_read 44 = .ok (.istore_n 2, 1) := by decide +kernel
theorem dX4_read_45 : decode cX4_read 45 = .ok (.iload_n 2, 1) := by decide +kernel
theorem dX4_read_46 : decode cX4_read 46 = .ok (.aload_n 0, 1) := by decide +kernel
theorem dX4_read_47 : decode cX4_read 47 = .ok (.getfield 14, 3) := by decide +kernel
theorem dX4_read_50 : decode cX4_read 50 = .ok (.getfield 40, 3) := by decide +kernel
theorem dX4_read_53 : decode cX4_read 53 = .ok (.if_icmp .ge 34, 3) := by decide +kernel
theorem dX4_read_56 : decode cX4_read 56 = .ok (.aload_n 0, 1) := by decide +kernel
theorem dX4_read_57 : decode cX4_read 57 = .ok (.getfield 31, 3) := by decide +kernel
theorem dX4_read_60 : decode cX4_read 60 = .ok (.aload_n 0, 1) := by decide +kernel
theorem dX4_read_61 : decode cX4_read 61 = .ok (.getfield 14, 3) := by decide +kernel
theorem dX4_read_64 : decode cX4_read 64 = .ok (.getfield 40, 3) := by decide +kernel
theorem dX4_read_67 : decode cX4_read 67 = .ok (.if_icmp .ge 20, 3) := by decide +kernel
theorem dX4_read_70 : decode cX4_read 70 = .ok (.aload_n 0, 1) := by decide +kernel
theorem dX4_read_71 : decode cX4_read 71 = .ok (.getfield 34, 3) := by decide +kernel
theorem dX4_read_74 : decode cX4_read 74 = .ok (.ifCond .ne 13, 3) := by decide +kernel
theorem dX4_read_77 : decode cX4_read 77 = .ok (.aload_n 0, 1) := by decide +kernel
theorem dX4_read_78 : decode cX4_read 78 = .ok (.invokevirtual 47, 3) := by decide +kernel
theorem dX4_read_81 : decode cX4_read 81 = .ok (.iinc 2 1, 3) := by decide +kernel
theorem dX4_read_84 : decode cX4_read 84 = .ok (.goto (-39), 3) := by decide +kernel
theorem dX4_read_87 : decode cX4_read 87 = .ok (.return_, 1) := by decide +kernel
theorem dX4_fail_0 : decode cX4_fail 0 = .ok (.aload_n 0, 1) := by decide +kernel
theorem dX4_fail_1 : decode cX4_fail 1 = .ok (.getfield 34, 3) := by decide +kernel
theorem dX4_fail_4 : decode cX4_fail 4 = .ok (.ifCond .ne 13, 3) := by decide +kernel
theorem dX4_fail_7 : decode cX4_fail 7 = .ok (.aload_n 0, 1) := by decide +kernel
theorem dX4_fail_8 : decode cX4_fail 8 = .ok (.iload_n 1, 1) := by decide +kernel
theorem dX4_fail_9 : decode cX4_fail 9 = .ok (.putfield 34, 3) := by decide +kernel
theorem dX4_fail_12 : decode cX4_fail 12 = .ok (.aload_n 0, 1) := by decide +kernel
theorem dX4_fail_13 : decode cX4_fail 13 = .ok (.iload_n 2, 1) := by decide +kernel
theorem dX4_fail_14 : decode cX4_fail 14 = .ok (.putfield 27, 3) := by decide +kernel
theorem dX4_fail_17 : decode cX4_fail 17 = .ok (.return_, 1) := by decide +kernel
theorem dX4_readElement_0 : decode cX4_readElement 0 = .ok (.aload_n 0, 1) := by decide +kernel
theorem dX4_readElement_1 : decode cX4_readElement 1 = .ok (.getfield 14, 3) := by decide +kernel
theorem dX4_readElement_4 : decode cX4_readElement 4 = .ok (.aload_n 0, 1) := by decide +kernel
theorem dX4_readElement_5 : decode cX4_readElement 5 = .ok (.getfield 31, 3) := by decide +kernel
theorem dX4_readElement_8 : decode cX4_readElement 8 = .ok (.invokevirtual 50, 3) := by decide +kernel
theorem dX4_readElement_11 : decode cX4_readElement 11 = .ok (.istore_n 1, 1) := by decide +kernel
theorem dX4_readElement_12 : decode cX4_readElement 12 = .ok (.aload_n 0, 1) := by decide +kernel
theorem dX4_readElement_13 : decode cX4_readElement 13 = .ok (.lconst 0, 1) := by decide +kernel
theorem dX4_readElement_14 : decode cX4_readElement 14 = .ok (.putfield 54, 3) := by decide +kernel
theorem dX4_readElement_17 : decode cX4_readElement 17 = .ok (.aload_n 0, 1) := by decide +kernel
theorem dX4_readElement_18 : decode cX4_readElement 18 = .ok (.lconst 0, 1) := by decide +kernel
theorem dX4_readElement_19 : decode cX4_readElement 19 = .ok (.putfield 58, 3) := by decide +kernel
theorem dX4_readElement_22 : decode cX4_readElement 22 = .ok (.iload_n 1, 1) := by decide +kernel
theorem dX4_readElement_23 : decode cX4_readElement 23 = .ok (.bipush 93, 2) := by decide +kernel
theorem dX4_readElement_25 : decode cX4_readElement 25 = .ok (.if_icmp .ne 15, 3) := by decide +kernel
theorem dX4_readElement_28 : decode cX4_readElement 28 = .ok (.aload_n 0, 1) := by decide +kernel
theorem dX4_readElement_29 : decode cX4_readElement 29 = .ok (.iconst 1, 1) := by decide +kernel
theorem dX4_readElement_30 : decode cX4_readElement 30 = .ok (.aload_n 0, 1) := by decide +kernel
theorem dX4_readElement_31 : decode cX4_readElement 31 = .ok (.getfield 31, 3) := by decide +kernel
theorem dX4_readElement_34 : decode cX4_readElement 34 = .ok (.invokevirtual 43, 3) := by decide +kernel
theorem dX4_readElement_37 : decode cX4_readElement 37 = .ok (.goto 93, 3) := by decide +kernel
theorem dX4_readElement_40 : decode cX4_readElement 40 = .ok (.aload_n 0, 1) := by decide +kernel
theorem dX4_readElement_41 : decode cX4_readElement 41 = .ok (.getfield 23, 3) := by decide +kernel
theorem dX4_readElement_44 : decode cX4_readElement 44 = .ok (.getfield 61, 3) := by decide +kernel
theorem dX4_readElement_47 : decode cX4_readElement 47 = .ok (.sipush 200, 3) := by decide +kernel
theorem dX4_readElement_50 : decode cX4_readElement 50 = .ok (.if_icmp .lt 15, 3) := by decide +kernel
theorem dX4_readElement_53 : decode cX4_readElement 53 = .ok (.aload_n 0, 1) := by decide +kernel
theorem dX4_readElement_54 : decode cX4_readElement 54 = .ok (.iconst 4, 1) := by decide +kernel
theorem dX4_readElement_55 : decode cX4_readElement 55 = .ok (.aload_n 0, 1) := by decide +kernel
theorem dX4_readElement_56 : decode cX4_readElement 56 = .ok (.getfield 31, 3) := by decide +kernel
theorem dX4_readElement_59 : decode cX4_readElement 59 = .ok (.invokevirtual 43, 3) := by decide +kernel
theorem dX4_readElement_62 : decode cX4_readElement 62 = .ok (.goto 68, 3) := by decide +kernel
theorem dX4_readElement_65 : decode cX4_readElement 65 = .ok (.iload_n 1, 1) := by decide +kernel
theorem dX4_readElement_66 : decode cX4_readElement 66 = .ok (.bipush 91, 2) := by decide +kernel
theorem dX4_readElement_68 : decode cX4_readElement 68 = .ok (.if_icmp .ne 20, 3) := by decide +kernel
theorem dX4_readElement_71 : decode cX4_readElement 71 = .ok (.aload_n 0, 1) := by decide +kernel
theorem dX4_readElement_72 : decode cX4_readElement 72 = .ok (.dup, 1) := by decide +kernel
theorem dX4_readElement_73 : decode cX4_readElement 73 = .ok (.getfield 31, 3) := by decide +kernel
theorem dX4_readElement_76 : decode cX4_readElement 76 = .ok (.iconst 1, 1) := by decide +kernel
theorem dX4_readElement_77 : decode cX4_readElement 77 = .ok (.iadd, 1) := by decide +kernel
theorem dX4_readElement_78 : decode cX4_readElement 78 = .ok (.putfield 31, 3) := by decide +kernel
theorem dX4_readElement_81 : decode cX4_readElement 81 = .ok (.aload_n 0, 1) := by decide +kernel
theorem dX4_readElement_82 : decode cX4_readElement 82 = .ok (.invokevirtual 62, 3) := by decide +kernel
theorem dX4_readElement_85 : decode cX4_readElement 85 = .ok (.goto 45, 3) := by decide +kernel
theorem dX4_readElement_88 : decode cX4_readElement 88 = .ok (.iload_n 1, 1) := by decide +kernel
theorem dX4_readElement_89 : decode cX4_readElement 89 = .ok (.bipush 46, 2) := by decide +kernel
theorem dX4_readElement_91 : decode cX4_readElement 91 = .ok (.if_icmp .ne 28, 3) := by decide +kernel
theorem dX4_readElement_94 : decode cX4_readElement 94 = .ok (.aload_n 0, 1) := by decide +kernel
theorem dX4_readElement_95 : decode cX4_readElement 95 = .ok (.dup, 1) := by decide +kernel
theorem dX4_readElement_96 : decode cX4_readElement 96 = .ok (.getfield 31, 3) := by decide +kernel
theorem dX4_readElement_99 : decode cX4_readElement 99 = .ok (.iconst 1, 1) := by decide +kernel
theorem dX4_readElement_100 : decode cX4_readElement 100 = .ok (.iadd, 1) := by decide +kernel
theorem dX4_readElement_101 : decode cX4_readElement 101 = .ok (.putfield 31, 3) := by decide +kernel
theorem dX4_readElement_104 : decode cX4_readElement 104 = .ok (.aload_n 0, 1) := by decide +kernel
theorem dX4_readElement_105 : decode cX4_readElement 105 = .ok (.bipush 10, 2) := by decide +kernel
theorem dX4_readElement_107 : decode cX4_readElement 107 = .ok (.bipush 10, 2) := by decide +kernel
theorem dX4_readElement_109 : decode cX4_readElement 109 = .ok (.invokevirtual 65, 3) := by decide +kernel
theorem dX4_readElement_112 : decode cX4_readElement 112 = .ok (.aload_n 0, 1) := by decide +kernel
theorem dX4_readElement_113 : decode cX4_readElement 113 = .ok (.invokevirtual 68, 3) := by decide +kernel
theorem dX4_readElement_116 : decode cX4_readElement 116 = .ok (.goto 14, 3) := by decide +kernel
theorem dX4_readElement_119 : decode cX4_readElement 119 = .ok (.aload_n 0, 1) := by decide +kernel
theorem dX4_readElement_120 : decode cX4_readElement 120 = .ok (.invokevirtual 71, 3) := by decide +kernel
theorem dX4_readElement_123 : decode cX4_readElement 123 = .ok (.istore_n 2, 1) := by decide +kernel
theorem dX4_readElement_124 : decode cX4_readElement 124 = .ok (.aload_n 0, 1) := by decide +kernel
theorem dX4_readElement_125 : decode cX4_readElement 125 = .ok (.iload_n 2, 1) := by decide +kernel
theorem dX4_readElement_126 : decode cX4_readElement 126 = .ok (.iload_n 2, 1) := by decide +kernel
theorem dX4_readElement_127 : decode cX4_readElement 127 = .ok (.invokevirtual 65, 3) := by decide +kernel
theorem dX4_readElement_130 : decode cX4_readElement 130 = .ok (.aload_n 0, 1) := by decide +kernel
theorem dX4_readElement_131 : decode cX4_readElement 131 = .ok (.getfield 34, 3) := by decide +kernel
theorem dX4_readElement_134 : decode cX4_readElement 134 = .ok (.ifCond .ne 18, 3) := by decide +kernel
theorem dX4_readElement_137 : decode cX4_readElement 137 = .ok (.aload_n 0, 1) := by decide +kernel
theorem dX4_readElement_138 : decode cX4_readElement 138 = .ok (.getfield 23, 3) := by decide +kernel
theorem dX4_readElement_141 : decode cX4_readElement 141 = .ok (.aload_n 0, 1) := by decide +kernel
theorem dX4_readElement_142 : decode cX4_readElement 142 = .ok (.getfield 54, 3) := by decide +kernel
theorem dX4_readElement_145 : decode cX4_readElement 145 = .ok (.aload_n 0, 1) := by decide +kernel
theorem dX4_readElement_146 : decode cX4_readElement 146 = .ok (.getfield 58, 3) := by decide +kernel
theorem dX4_readElement_149 : decode cX4_readElement 149 = .ok (.invokevirtual 75, 3) := by decide +kernel
theorem dX4_readElement_152 : decode cX4_readElement 152 = .ok (.return_, 1) := by decide +kernel
theorem dX4_readItems_0 : decode cX4_readItems 0 = .ok (.aload_n 0, 1) := by decide +kernel
theorem dX4_readItems_1 : decode cX4_readItems 1 = .ok (.getfield 14, 3) := by decide +kernel
theorem dX4_readItems_4 : decode cX4_readItems 4 = .ok (.aload_n 0, 1) := by decide +kernel
theorem dX4_readItems_5 : decode cX4_readItems 5 = .ok (.getfield 31, 3) := by decide +kernel
theorem dX4_readItems_8 : decode cX4_readItems 8 = .ok (.invokevirtual 50, 3) := by decide +kernel
theorem dX4_readItems_11 : decode cX4_readItems 11 = .ok (.bipush 94, 2) := by decide +kernel
theorem dX4_readItems_13 : decode cX4_readItems 13 = .ok (.if_icmp .ne 7, 3) := by decide +kernel
theorem dX4_readItems_16 : decode cX4_readItems 16 = .ok (.iconst 1, 1) := by decide +kernel
theorem dX4_readItems_17 : decode cX4_readItems 17 = .ok (.goto 4, 3) := by decide +kernel
theorem dX4_readItems_20 : decode cX4_readItems 20 = .ok (.iconst 0, 1) := by decide +kernel
theorem dX4_readItems_21 : decode cX4_readItems 21 = .ok (.istore_n 1, 1) := by decide +kernel
theorem dX4_readItems_22 : decode cX4_readItems 22 = .ok (.iload_n 1, 1) := by decide +kernel
theorem dX4_readItems_23 : decode cX4_readItems 23 = .ok (.ifCond .eq 13, 3) := by decide +kernel
theorem dX4_readItems_26 : decode cX4_readItems 26 = .ok (.aload_n 0, 1) := by decide +kernel
theorem dX4_readItems_27 : decode cX4_readItems 27 = .ok (.dup, 1) := by decide +kernel
theorem dX4_readItems_28 : decode cX4_readItems 28 = .ok (.getfield 31, 3) := by decide +kernel
theorem dX4_readItems_31 : decode cX4_readItems 31 = .ok (.iconst 1, 1) := by decide +kernel
theorem dX4_readItems_32 : decode cX4_readItems 32 = .ok (.iadd, 1) := by decide +kernel
theorem dX4_readItems_33 : decode cX4_readItems 33 = .ok (.putfield 31, 3) := by decide +kernel
theorem dX4_readItems_36 : decode cX4_readItems 36 = .ok (.aload_n 0, 1) := by decide +kernel
theorem dX4_readItems_37 : decode cX4_readItems 37 = .ok (.getfield 14, 3) := by decide +kernel
theorem dX4_readItems_40 : decode cX4_readItems 40 = .ok (.aload_n 0, 1) := by decide +kernel
theorem dX4_readItems_41 : decode cX4_readItems 41 = .ok (.getfield 31, 3) := by decide +kernel
theorem dX4_readItems_44 : decode cX4_readItems 44 = .ok (.invokevirtual 50, 3) := by decide +kernel
theorem dX4_readItems_47 : decode cX4_readItems 47 = .ok (.bipush 93, 2) := by decide +kernel
theorem dX4_readItems_49 : decode cX4_readItems 49 = .ok (.if_icmp .ne 12, 3) := by decide +kernel
theorem dX4_readItems_52 : decode cX4_readItems 52 = .ok (.aload_n 0, 1) := by decide +kernel
theorem dX4_readItems_53 : decode cX4_readItems 53 = .ok (.iconst 2, 1) := by decide +kernel
theorem dX4_readItems_54 : decode cX4_readItems 54 = .ok (.aload_n 0, 1) := by decide +kernel
theorem dX4_readItems_55 : decode cX4_readItems 55 = .ok (.getfield 31, 3) := by decide +kernel
theorem dX4_readItems_58 : decode cX4_readItems 58 = .ok (.invokevirtual 43, 3) := by decide +kernel
theorem dX4_readItems_61 : decode cX4_readItems 61 = .ok (.iconst 0, 1) := by decide +kernel
theorem dX4_readItems_62 : decode cX4_readItems 62 = .ok (.istore_n 2, 1) := by decide +kernel
theorem dX4_readItems_63 : decode cX4_readItems 63 = .ok (.iload_n 2, 1) := by decide +kernel
theorem dX4_readItems_64 : decode cX4_readItems 64 = .ok (.aload_n 0, 1) := by decide +kernel
theorem dX4_readItems_65 : decode cX4_readItems 65 = .ok (.getfield 14, 3) := by decide +kernel
theorem dX4_readItems_68 : decode cX4_readItems 68 = .ok (.getfield 40, 3) := by decide +kernel
theorem dX4_readItems_71 : decode cX4_readItems 71 = .ok (.if_icmp .gt 36, 3) := by decide +kernel
theorem dX4_readItems_74 : decode cX4_readItems 74 = .ok (.aload_n 0, 1) := by decide +kernel
theorem dX4_readItems_75 : decode cX4_readItems 75 = .ok (.getfield 34, 3) := by decide +kernel
theorem dX4_readItems_78 : decode cX4_readItems 78 = .ok (.ifCond .ne 29, 3) := by decide +kernel
theorem dX4_readItems_81 : decode cX4_readItems 81 = .ok (.aload_n 0, 1) := by decide +kernel
theorem dX4_readItems_82 : decode cX4_readItems 82 = .ok (.getfield 14, 3) := by decide +kernel
theorem dX4_readItems_85 : decode cX4_readItems 85 = .ok (.aload_n 0, 1) := by decide +kernel
theorem dX4_readItems_86 : decode cX4_readItems 86 = .ok (.getfield 31, 3) := by decide +kernel
theorem dX4_readItems_89 : decode cX4_readItems 89 = .ok (.invokevirtual 50, 3) := by decide +kernel
theorem dX4_readItems_92 : decode cX4_readItems 92 = .ok (.bipush 93, 2) := by decide +kernel
theorem dX4_readItems_94 : decode cX4_readItems 94 = .ok (.if_icmp .eq 13, 3) := by decide +kernel
theorem dX4_readItems_97 : decode cX4_readItems 97 = .ok (.aload_n 0, 1) := by decide +kernel
theorem dX4_readItems_98 : decode cX4_readItems 98 = .ok (.invokevirtual 79, 3) := by decide +kernel
theorem dX4_readItems_101 : decode cX4_readItems 101 = .ok (.iinc 2 1, 3) := by decide +kernel
theorem dX4_readItems_104 : decode cX4_readItems 104 = .ok (.goto (-41), 3) := by decide +kernel
theorem dX4_readItems_107 : decode cX4_readItems 107 = .ok (.aload_n 0, 1) := by decide +kernel
theorem dX4_readItems_108 : decode cX4_readItems 108 = .ok (.dup, 1) := by decide +kernel
theorem dX4_readItems_109 : decode cX4_readItems 109 = .ok (.getfield 31, 3) := by decide +kernel
theorem dX4_readItems_112 : decode cX4_readItems 112 = .ok (.iconst 1, 1) := by decide +kernel
theorem dX4_readItems_113 : decode cX4_readItems 113 = .ok (.iadd, 1) := by decide +kernel
theorem dX4_readItems_114 : decode cX4_readItems 114 = .ok (.putfield 31, 3) := by decide +kernel
theorem dX4_readItems_117 : decode cX4_readItems 117 = .ok (.iload_n 1, 1) := by decide +kernel
theorem dX4_readItems_118 : decode cX4_readItems 118 = .ok (.ifCond .eq 7, 3) := by decide +kernel
theorem dX4_readItems_121 : decode cX4_readItems 121 = .ok (.aload_n 0, 1) := by decide +kernel
theorem dX4_readItems_122 : decode cX4_readItems 122 = .ok (.invokevirtual 68, 3) := by decide +kernel
theorem dX4_readItems_125 : decode cX4_readItems 125 = .ok (.return_, 1) := by decide +kernel
theorem dX4_readItem_0 : decode cX4_readItem 0 = .ok (.aload_n 0, 1) := by decide +kernel
theorem dX4_readItem_1 : decode cX4_readItem 1 = .ok (.invokevirtual 71, 3) := by decide +kernel
theorem dX4_readItem_4 : decode cX4_readItem 4 = .ok (.istore_n 1, 1) := by decide +kernel
theorem dX4_readItem_5 : decode cX4_readItem 5 = .ok (.iload_n 1, 1) := by decide +kernel
theorem dX4_readItem_6 : decode cX4_readItem 6 = .ok (.istore_n 2, 1) := by decide +kernel
theorem dX4_readItem_7 : decode cX4_readItem 7 = .ok (.aload_n 0, 1) := by decide +kernel
theorem dX4_readItem_8 : decode cX4_readItem 8 = .ok (.getfield 14, 3) := by decide +kernel
theorem dX4_readItem_11 : decode cX4_readItem 11 = .ok (.aload_n 0, 1) := by decide +kernel
theorem dX4_readItem_12 : decode cX4_readItem 12 = .ok (.getfield 31, 3) := by decide +kernel
theorem dX4_readItem_15 : decode cX4_readItem 15 = .ok (.invokevirtual 50, 3) := by decide +kernel
theorem dX4_readItem_18 : decode cX4_readItem 18 = .ok (.bipush 45, 2) := by decide +kernel
theorem dX4_readItem_20 : decode cX4_readItem 20 = .ok (.if_icmp .ne 36, 3) := by decide +kernel
theorem dX4_readItem_23 : decode cX4_readItem 23 = .ok (.aload_n 0, 1) := by decide +kernel
theorem dX4_readItem_24 : decode cX4_readItem 24 = .ok (.getfield 14, 3) := by decide +kernel
theorem dX4_readItem_27 : decode cX4_readItem 27 = .ok (.aload_n 0, 1) := by decide +kernel
theorem dX4_readItem_28 : decode cX4_readItem 28 = .ok (.getfield 31, 3) := by decide +kernel
theorem dX4_readItem_31 : decode cX4_readItem 31 = .ok (.iconst 1, 1) := by decide +kernel
theorem dX4_readItem_32 : decode cX4_readItem 32 = .ok (.iadd, 1) := by decide +kernel
theorem dX4_readItem_33 : decode cX4_readItem 33 = .ok (.invokevirtual 50, 3) := by decide +kernel
theorem dX4_readItem_36 : decode cX4_readItem 36 = .ok (.bipush 93, 2) := by decide +kernel
theorem dX4_readItem_38 : decode cX4_readItem 38 = .ok (.if_icmp .eq 18, 3) := by decide +kernel
theorem dX4_readItem_41 : decode cX4_readItem 41 = .ok (.aload_n 0, 1) := by decide +kernel
theorem dX4_readItem_42 : decode cX4_readItem 42 = .ok (.dup, 1) := by decide +kernel
theorem dX4_readItem_43 : decode cX4_readItem 43 = .ok (.getfield 31, 3) := by decide +kernel
theorem dX4_readItem_46 : decode cX4_readItem 46 = .ok (.iconst 1, 1) := by decide +kernel
theorem dX4_readItem_47 : decode cX4_readItem 47 = .ok (.iadd, 1) := by decide +kernel
theorem dX4_readItem_48 : decode cX4_readItem 48 = .ok (.putfield 31, 3) := by decide +kernel
theorem dX4_readItem_51 : decode cX4_readItem 51 = .ok (.aload_n 0, 1) := by decide +kernel
theorem dX4_readItem_52 : decode cX4_readItem 52 = .ok (.invokevirtual 71, 3) := by decide +kernel
theorem dX4_readItem_55 : decode cX4_readItem 55 = .ok (.istore_n 2, 1) := by decide +kernel
theorem dX4_readItem_56 : decode cX4_readItem 56 = .ok (.aload_n 0, 1) := by decide +kernel
theorem dX4_readItem_57 : decode cX4_readItem 57 = .ok (.iload_n 1, 1) := by decide +kernel
theorem dX4_readItem_58 : decode cX4_readItem 58 = .ok (.iload_n 2, 1) := by decide +kernel
theorem dX4_readItem_59 : decode cX4_readItem 59 = .ok (.invokevirtual 65, 3) := by decide +kernel
theorem dX4_readItem_62 : decode cX4_readItem 62 = .ok (.return_, 1) := by decide +kernel
theorem dX4_takeByte_0 : decode cX4_takeByte 0 = .ok (.aload_n 0, 1) := by decide +kernel
theorem dX4_takeByte_1 : decode cX4_takeByte 1 = .ok (.getfield 14, 3) := by decide +kernel
theorem dX4_takeByte_4 : decode cX4_takeByte 4 = .ok (.aload_n 0, 1) := by decide +kernel
theorem dX4_takeByte_5 : decode cX4_takeByte 5 = .ok (.getfield 31, 3) := by decide +kernel
theorem dX4_takeByte_8 : decode cX4_takeByte 8 = .ok (.invokevirtual 50, 3) := by decide +kernel
theorem dX4_takeByte_11 : decode cX4_takeByte 11 = .ok (.bipush 92, 2) := by decide +kernel
theorem dX4_takeByte_13 : decode cX4_takeByte 13 = .ok (.if_icmp .ne 13, 3) := by decide +kernel
theorem dX4_takeByte_16 : decode cX4_takeByte 16 = .ok (.aload_n 0, 1) := by decide +kernel
theorem dX4_takeByte_17 : decode cX4_takeByte 17 = .ok (.dup, 1) := by decide +kernel
theorem dX4_takeByte_18 : decode cX4_takeByte 18 = .ok (.getfield 31, 3) := by decide +kernel
theorem dX4_takeByte_21 : decode cX4_takeByte 21 = .ok (.iconst 1, 1) := by decide +kernel
theorem dX4_takeByte_22 : decode cX4_takeByte 22 = .ok (.iadd, 1) := by decide +kernel
theorem dX4_takeByte_23 : decode cX4_takeByte 23 = .ok (.putfield 31, 3) := by decide +kernel
theorem dX4_takeByte_26 : decode cX4_takeByte 26 = .ok (.aload_n 0, 1) := by decide +kernel
theorem dX4_takeByte_27 : decode cX4_takeByte 27 = .ok (.getfield 14, 3) := by decide +kernel
theorem dX4_takeByte_30 : decode cX4_takeByte 30 = .ok (.aload_n 0, 1) := by decide +kernel
theorem dX4_takeByte_31 : decode cX4_takeByte 31 = .ok (.getfield 31, 3) := by decide +kernel
theorem dX4_takeByte_34 : decode cX4_takeByte 34 = .ok (.invokevirtual 50, 3) := by decide +kernel
theorem dX4_takeByte_37 : decode cX4_takeByte 37 = .ok (.istore_n 1, 1) := by decide +kernel
theorem dX4_takeByte_38 : decode cX4_takeByte 38 = .ok (.iload_n 1, 1) := by decide +kernel
theorem dX4_takeByte_39 : decode cX4_takeByte 39 = .ok (.iconst (-1), 1) := by decide +kernel
theorem dX4_takeByte_40 : decode cX4_takeByte 40 = .ok (.if_icmp .ne 15, 3) := by decide +kernel
theorem dX4_takeByte_43 : decode cX4_takeByte 43 = .ok (.aload_n 0, 1) := by decide +kernel
theorem dX4_takeByte_44 : decode cX4_takeByte 44 = .ok (.iconst 3, 1) := by decide +kernel
theorem dX4_takeByte_45 : decode cX4_takeByte 45 = .ok (.aload_n 0, 1) := by decide +kernel
theorem dX4_takeByte_46 : decode cX4_takeByte 46 = .ok (.getfield 14, 3) := by decide +kernel
theorem dX4_takeByte_49 : decode cX4_takeByte 49 = .ok (.getfield 40, 3) := by decide +kernel
theorem dX4_takeByte_52 : decode cX4_takeByte 52 = .ok (.invokevirtual 43, 3) := by decide +kernel
theorem dX4_takeByte_55 : decode cX4_takeByte 55 = .ok (.aload_n 0, 1) := by decide +kernel
theorem dX4_takeByte_56 : decode cX4_takeByte 56 = .ok (.dup, 1) := by decide +kernel
theorem dX4_takeByte_57 : decode cX4_takeByte 57 = .ok (.getfield 31, 3) := by decide +kernel
theorem dX4_takeByte_60 : decode cX4_takeByte 60 = .ok (.iconst 1, 1) := by decide +kernel
theorem dX4_takeByte_61 : decode cX4_takeByte 61 = .ok (.iadd, 1) := by decide +kernel
theorem dX4_takeByte_62 : decode cX4_takeByte 62 = .ok (.putfield 31, 3) := by decide +kernel
theorem dX4_takeByte_65 : decode cX4_takeByte 65 = .ok (.iload_n 1, 1) := by decide +kernel
theorem dX4_takeByte_66 : decode cX4_takeByte 66 = .ok (.ireturn, 1) := by decide +kernel
theorem dX4_addRange_0 : decode cX4_addRange 0 = .ok (.iload_n 1, 1) := by decide +kernel
theorem dX4_addRange_1 : decode cX4_addRange 1 = .ok (.iconst 0, 1) := by decide +kernel
theorem dX4_addRange_2 : decode cX4_addRange 2 = .ok (.invokestatic 82, 3) := by decide +kernel
theorem dX4_addRange_5 : decode cX4_addRange 5 = .ok (.istore_n 3, 1) := by decide +kernel
theorem dX4_addRange_6 : decode cX4_addRange 6 = .ok (.iload_n 3, 1) := by decide +kernel
theorem dX4_addRange_7 : decode cX4_addRange 7 = .ok (.iload_n 2, 1) := by decide +kernel
theorem dX4_addRange_8 : decode cX4_addRange 8 = .ok (.if_icmp .gt 49, 3) := by decide +kernel
theorem dX4_addRange_11 : decode cX4_addRange 11 = .ok (.iload_n 3, 1) := by decide +kernel
theorem dX4_addRange_12 : decode cX4_addRange 12 = .ok (.invokestatic 88, 3) := by decide +kernel
theorem dX4_addRange_15 : decode cX4_addRange 15 = .ok (.ifCond .eq 36, 3) := by decide +kernel
theorem dX4_addRange_18 : decode cX4_addRange 18 = .ok (.iload_n 3, 1) := by decide +kernel
theorem dX4_addRange_19 : decode cX4_addRange 19 = .ok (.bipush 64, 2) := by decide +kernel
theorem dX4_addRange_21 : decode cX4_addRange 21 = .ok (.if_icmp .ge 18, 3) := by decide +kernel
theorem dX4_addRange_24 : decode cX4_addRange 24 = .ok (.aload_n 0, 1) := by decide +kernel
theorem dX4_addRange_25 : decode cX4_addRange 25 = .ok (.dup, 1) := by decide +kernel
theorem dX4_addRange_26 : decode cX4_addRange 26 = .ok (.getfield 54, 3) := by decide +kernel
theorem dX4_addRange_29 : decode cX4_addRange 29 = .ok (.lconst 1, 1) := by decide +kernel
theorem dX4_addRange_30 : decode cX4_addRange 30 = .ok (.iload_n 3, 1) := by decide +kernel
theorem dX4_addRange_31 : decode cX4_addRange 31 = .ok (.lshl, 1) := by decide +kernel
theorem dX4_addRange_32 : decode cX4_addRange 32 = .ok (.lor, 1) := by decide +kernel
theorem dX4_addRange_33 : decode cX4_addRange 33 = .ok (.putfield 54, 3) := by decide +kernel
theorem dX4_addRange_36 : decode cX4_addRange 36 = .ok (.goto 15, 3) := by decide +kernel
theorem dX4_addRange_39 : decode cX4_addRange 39 = .ok (.aload_n 0, 1) := by decide +kernel
theorem dX4_addRange_40 : decode cX4_addRange 40 = .ok (.dup, 1) := by decide +kernel
theorem dX4_addRange_41 : decode cX4_addRange 41 = .ok (.getfield 58, 3) := by decide +kernel
theorem dX4_addRange_44 : decode cX4_addRange 44 = .ok (.lconst 1, 1) := by decide +kernel
theorem dX4_addRange_45 : decode cX4_addRange 45 = .ok (.iload_n 3, 1) := by decide +kernel
theorem dX4_addRange_46 : decode cX4_addRange 46 = .ok (.lshl, 1) := by decide +kernel
theorem dX4_addRange_47 : decode cX4_addRange 47 = .ok (.lor, 1) := by decide +kernel
theorem dX4_addRange_48 : decode cX4_addRange 48 = .ok (.putfield 58, 3) := by decide +kernel
theorem dX4_addRange_51 : decode cX4_addRange 51 = .ok (.iinc 3 1, 3) := by decide +kernel
theorem dX4_addRange_54 : decode cX4_addRange 54 = .ok (.goto (-48), 3) := by decide +kernel
theorem dX4_addRange_57 : decode cX4_addRange 57 = .ok (.return_, 1) := by decide +kernel
theorem dX4_turnRound_0 : decode cX4_turnRound 0 = .ok (.aload_n 0, 1) := by decide +kernel
theorem dX4_turnRound_1 : decode cX4_turnRound 1 = .ok (.ldc2_w 92, 3) := by decide +kernel
theorem dX4_turnRound_4 : decode cX4_turnRound 4 = .ok (.aload_n 0, 1) := by decide +kernel
theorem dX4_turnRound_5 : decode cX4_turnRound 5 = .ok (.getfield 54, 3) := by decide +kernel
theorem dX4_turnRound_8 : decode cX4_turnRound 8 = .ok (.ldc2_w 94, 3) := by decide +kernel
theorem dX4_turnRound_11 : decode cX4_turnRound 11 = .ok (.lxor, 1) := by decide +kernel
theorem dX4_turnRound_12 : decode cX4_turnRound 12 = .ok (.land, 1) := by decide +kernel
theorem dX4_turnRound_13 : decode cX4_turnRound 13 = .ok (.putfield 54, 3) := by decide +kernel
theorem dX4_turnRound_16 : decode cX4_turnRound 16 = .ok (.aload_n 0, 1) := by decide +kernel
theorem dX4_turnRound_17 : decode cX4_turnRound 17 = .ok (.ldc2_w 96, 3) := by decide +kernel
theorem dX4_turnRound_20 : decode cX4_turnRound 20 = .ok (.aload_n 0, 1) := by decide +kernel
theorem dX4_turnRound_21 : decode cX4_turnRound 21 = .ok (.getfield 58, 3) := by decide +kernel
theorem dX4_turnRound_24 : decode cX4_turnRound 24 = .ok (.ldc2_w 94, 3) := by decide +kernel
theorem dX4_turnRound_27 : decode cX4_turnRound 27 = .ok (.lxor, 1) := by decide +kernel
theorem dX4_turnRound_28 : decode cX4_turnRound 28 = .ok (.land, 1) := by decide +kernel
theorem dX4_turnRound_29 : decode cX4_turnRound 29 = .ok (.putfield 58, 3) := by decide +kernel
theorem dX4_turnRound_32 : decode cX4_turnRound 32 = .ok (.return_, 1) := by decide +kernel
theorem dX5_init_0 : decode cX5_init 0 = .ok (.aload_n 0, 1) := by decide +kernel
theorem dX5_init_1 : decode cX5_init 1 = .ok (.invokespecial 3, 3) := by decide +kernel
theorem dX5_init_4 : decode cX5_init 4 = .ok (.aload_n 0, 1) := by decide +kernel
theorem dX5_init_5 : decode cX5_init 5 = .ok (.new 9, 3) := by decide +kernel
theorem dX5_init_8 : decode cX5_init 8 = .ok (.dup, 1) := by decide +kernel
theorem dX5_init_9 : decode cX5_init 9 = .ok (.iconst 0, 1) := by decide +kernel
theorem dX5_init_10 : decode cX5_init 10 = .ok (.invokespecial 11, 3) := by decide +kernel
theorem dX5_init_13 : decode cX5_init 13 = .ok (.putfield 14, 3) := by decide +kernel
theorem dX5_init_16 : decode cX5_init 16 = .ok (.aload_n 0, 1) := by decide +kernel
theorem dX5_init_17 : decode cX5_init 17 = .ok (.new 20, 3) := by decide +kernel
theorem dX5_init_20 : decode cX5_init 20 = .ok (.dup, 1) := by decide +kernel
theorem dX5_init_21 : decode cX5_init 21 = .ok (.iconst 0, 1) := by decide +kernel
theorem dX5_init_22 : decode cX5_init 22 = .ok (.invokespecial 22, 3) := by decide +kernel
theorem dX5_init_25 : decode cX5_init 25 = .ok (.putfield 23, 3) := by decide +kernel
theorem dX5_init_28 : decode cX5_init 28 = .ok (.aload_n 0, 1) := by decide +kernel
theorem dX5_init_29 : decode cX5_init 29 = .ok (.sipush 1501, 3) := by decide +kernel
theorem dX5_init_32 : decode cX5_init 32 = .ok (.newarray .int, 2) := by decide +kernel
theorem dX5_init_34 : decode cX5_init 34 = .ok (.putfield 27, 3) := by decide +kernel
theorem dX5_init_37 : decode cX5_init 37 = .ok (.aload_n 0, 1) := by decide +kernel
theorem dX5_init_38 : decode cX5_init 38 = .ok (.sipush 1501, 3) := by decide +kernel
theorem dX5_init_41 : decode cX5_init 41 = .ok (.newarray .int, 2) := by decide +kernel
theorem dX5_init_43 : decode cX5_init 43 = .ok (.putfield 31, 3) := by decide +kernel
theorem dX5_init_46 : decode cX5_init 46 = .ok (.aload_n 0, 1) := by decide +kernel
theorem dX5_init_47 : decode cX5_init 47 = .ok (.sipush 1501, 3) := by decide +kernel
theorem dX5_init_50 : decode cX5_init 50 = .ok (.newarray .int, 2) := by decide +kernel
theorem dX5_init_52 : decode cX5_init 52 = .ok (.putfield 34, 3) := by decide +kernel
theorem dX5_init_55 : decode cX5_init 55 = .ok (.aload_n 0, 1) := by decide +kernel
theorem dX5_init_56 : decode cX5_init 56 = .ok (.bipush 10, 2) := by decide +kernel
theorem dX5_init_58 : decode cX5_init 58 = .ok (.putfield 37, 3) := by decide +kernel
theorem dX5_init_61 : decode cX5_init 61 = .ok (.aload_n 0, 1) := by decide +kernel
theorem dX5_init_62 : decode cX5_init 62 = .ok (.bipush 10, 2) := by decide +kernel
theorem dX5_init_64 : decode cX5_init 64 = .ok (.putfield 41, 3) := by decide +kernel
theorem dX5_init_67 : decode cX5_init 67 = .ok (.aload_n 0, 1) := by decide +kernel
theorem dX5_init_68 : decode cX5_init 68 = .ok (.aload_n 0, 1) := by decide +kernel
theorem dX5_init_69 : decode cX5_init 69 = .ok (.getfield 14, 3) := by decide +kernel
theorem dX5_init_72 : decode cX5_init 72 = .ok (.getfield 44, 3) := by decide +kernel
theorem dX5_init_75 : decode cX5_init 75 = .ok (.putfield 48, 3) := by decide +kernel
theorem dX5_init_78 : decode cX5_init 78 = .ok (.aload_n 0, 1) := by decide +kernel
theorem dX5_init_79 : decode cX5_init 79 = .ok (.aload_n 0, 1) := by decide +kernel
theorem dX5_init_80 : decode cX5_init 80 = .ok (.getfield 14, 3) := by decide +kernel
theorem dX5_init_83 : decode cX5_init 83 = .ok (.getfield 44, 3) := by decide +kernel
theorem dX5_init_86 : decode cX5_init 86 = .ok (.putfield 51, 3) := by decide +kernel
theorem dX5_init_89 : decode cX5_init 89 = .ok (.aload_n 0, 1) := by decide +kernel
theorem dX5_init_90 : decode cX5_init 90 = .ok (.new 54, 3) := by decide +kernel
theorem dX5_init_93 : decode cX5_init 93 = .ok (.dup, 1) := by decide +kernel
theorem dX5_init_94 : decode cX5_init 94 = .ok (.invokespecial 56, 3) := by decide +kernel
theorem dX5_init_97 : decode cX5_init 97 = .ok (.putfield 57, 3) := by decide +kernel
theorem dX5_init_100 : decode cX5_init 100 = .ok (.return_, 1) := by decide +kernel
theorem dX5_distance_0 : decode cX5_distance 0 = .ok (.aload_n 0, 1) := by decide +kernel
theorem dX5_distance_1 : decode cX5_distance 1 = .ok (.aload_n 1, 1) := by decide +kernel
theorem dX5_distance_2 : decode cX5_distance 2 = .ok (.aload_n 2, 1) := by decide +kernel
theorem dX5_distance_3 : decode cX5_distance 3 = .ok (.iload_n 3, 1) := by decide +kernel
theorem dX5_distance_4 : decode cX5_distance 4 = .ok (.iload 4, 2) := by decide +kernel
theorem dX5_distance_6 : decode cX5_distance 6 = .ok (.iload 5, 2) := by decide +kernel
theorem dX5_distance_8 : decode cX5_distance 8 = .ok (.invokevirtual 61, 3) := by decide +kernel
theorem dX5_distance_11 : decode cX5_distance 11 = .ok (.aload_n 0, 1) := by decide +kernel
theorem dX5_distance_12 : decode cX5_distance 12 = .ok (.iconst 0, 1) := by decide +kernel
theorem dX5_distance_13 : decode cX5_distance 13 = .ok (.putfield 65, 3) := by decide +kernel
theorem dX5_distance_16 : decode cX5_distance 16 = .ok (.bipush 16, 2) := by decide +kernel
theorem dX5_distance_18 : decode cX5_distance 18 = .ok (.istore 7, 2) := by decide +kernel
theorem dX5_distance_20 : decode cX5_distance 20 = .ok (.iload 7, 2) := by decide +kernel
theorem dX5_distance_22 : decode cX5_distance 22 = .ok (.iload 6, 2) := by decide +kernel
theorem dX5_distance_24 : decode cX5_distance 24 = .ok (.if_icmp .ge 30, 3) := by decide +kernel
theorem dX5_distance_27 : decode cX5_distance 27 = .ok (.aload_n 0, 1) := by decide +kernel
theorem dX5_distance_28 : decode cX5_distance 28 = .ok (.iload 7, 2) := by decide +kernel
theorem dX5_distance_30 : decode cX5_distance 30 = .ok (.invokevirtual 69, 3) := by decide +kernel
theorem dX5_distance_33 : decode cX5_distance 33 = .ok (.istore 8, 2) := by decide +kernel
theorem dX5_distance_35 : decode cX5_distance 35 = .ok (.iload 8, 2) := by decide +kernel
theorem dX5_distance_37 : decode cX5_distance 37 = .ok (.iload 7, 2) := by decide +kernel
theorem dX5_distance_39 : decode cX5_distance 39 = .ok (.if_icmp .gt 6, 3) := by decide +kernel
theorem dX5_distance_42 : decode cX5_distance 42 = .ok (.iload 8, 2) := by decide +kernel
theorem dX5_distance_44 : decode cX5_distance 44 = .ok (.ireturn, 1) := by decide +kernel
theorem dX5_distance_45 : decode cX5_distance 45 = .ok (.iload 7, 2) := by decide +kernel
theorem dX5_distance_47 : decode cX5_distance 47 = .ok (.iconst 4, 1) := by decide +kernel
theorem dX5_distance_48 : decode cX5_distance 48 = .ok (.imul, 1) := by decide +kernel
theorem dX5_distance_49 : decode cX5_distance 49 = .ok (.istore 7, 2) := by decide +kernel
theorem dX5_distance_51 : decode cX5_distance 51 = .ok (.goto (-31), 3) := by decide +kernel
theorem dX5_distance_54 : decode cX5_distance 54 = .ok (.aload_n 0, 1) := by decide +kernel
theorem dX5_distance_55 : decode cX5_distance 55 = .ok (.iload 6, 2) := by decide +kernel
theorem dX5_distance_57 : decode cX5_distance 57 = .ok (.invokevirtual 69, 3) := by decide +kernel
theorem dX5_distance_60 : decode cX5_distance 60 = .ok (.ireturn, 1) := by decide +kernel
theorem dX5_trace_0 : decode cX5_trace 0 = .ok (.aload_n 0, 1) := by decide +kernel
theorem dX5_trace_1 : decode cX5_trace 1 = .ok (.aload_n 1, 1) := by decide +kernel
theorem dX5_trace_2 : decode cX5_trace 2 = .ok (.aload_n 2, 1) := by decide +kernel
theorem dX5_trace_3 : decode cX5_trace 3 = .ok (.iload_n 3, 1) := by decide +kernel
theorem dX5_trace_4 : decode cX5_trace 4 = .ok (.iload 4, 2) := by decide +kernel
theorem dX5_trace_6 : decode cX5_trace 6 = .ok (.iload 5, 2) := by decide +kernel
theorem dX5_trace_8 : decode cX5_trace 8 = .ok (.invokevirtual 61, 3) := by decide +kernel
theorem dX5_trace_11 : decode cX5_trace 11 = .ok (.aload_n 0, 1) := by decide +kernel
theorem dX5_trace_12 : decode cX5_trace 12 = .ok (.iconst 1, 1) := by decide +kernel
theorem dX5_trace_13 : decode cX5_trace 13 = .ok (.putfield 65, 3) := by decide +kernel
theorem dX5_trace_16 : decode cX5_trace 16 = .ok (.aload_n 0, 1) := by decide +kernel
theorem dX5_trace_17 : decode cX5_trace 17 = .ok (.iload 6, 2) := by decide +kernel
theorem dX5_trace_19 : decode cX5_trace 19 = .ok (.invokevirtual 69, 3) := by decide +kernel
theorem dX5_trace_22 : decode cX5_trace 22 = .ok (.pop, 1) := by decide +kernel
theorem dX5_trace_23 : decode cX5_trace 23 = .ok (.aload_n 0, 1) := by decide +kernel
theorem dX5_trace_24 : decode cX5_trace 24 = .ok (.aload 7, 2) := by decide +kernel
theorem dX5_trace_26 : decode cX5_trace 26 = .ok (.invokevirtual 73, 3) := by decide +kernel
theorem dX5_trace_29 : decode cX5_trace 29 = .ok (.return_, 1) := by decide +kernel
theorem dX5_lay_0 : decode cX5_lay 0 = .ok (.aload_n 0, 1) := by decide +kernel
theorem dX5_lay_1 : decode cX5_lay 1 = .ok (.aload_n 1, 1) := by decide +kernel
theorem dX5_lay_2 : decode cX5_lay 2 = .ok (.putfield 14, 3) := by decide +kernel
theorem dX5_lay_5 : decode cX5_lay 5 = .ok (.aload_n 0, 1) := by decide +kernel
theorem dX5_lay_6 : decode cX5_lay 6 = .ok (.aload_n 2, 1) := by decide +kernel
theorem dX5_lay_7 : decode cX5_lay 7 = .ok (.putfield 23, 3) := by decide +kernel
theorem dX5_lay_10 : decode cX5_lay 10 = .ok (.aload_n 0, 1) := by decide +kernel
theorem dX5_lay_11 : decode cX5_lay 11 = .ok (.iload_n 3, 1) := by decide +kernel
theorem dX5_lay_12 : decode cX5_lay 12 = .ok (.putfield 77, 3) := by decide +kernel
theorem dX5_lay_15 : decode cX5_lay 15 = .ok (.aload_n 0, 1) := by decide +kernel
theorem dX5_lay_16 : decode cX5_lay 16 = .ok (.aload_n 2, 1) := by decide +kernel
theorem dX5_lay_17 : decode cX5_lay 17 = .ok (.iload_n 3, 1) := by decide +kernel
theorem dX5_lay_18 : decode cX5_lay 18 = .ok (.iload 4, 2) := by decide +kernel
theorem dX5_lay_20 : decode cX5_lay 20 = .ok (.invokevirtual 80, 3) := by decide +kernel
theorem dX5_lay_23 : decode cX5_lay 23 = .ok (.ifCond .eq 10, 3) := by decide +kernel
theorem dX5_lay_26 : decode cX5_lay 26 = .ok (.iload 4, 2) := by decide +kernel
theorem dX5_lay_28 : decode cX5_lay 28 = .ok (.iload_n 3, 1) := by decide +kernel
theorem dX5_lay_29 : decode cX5_lay 29 = .ok (.isub, 1) := by decide +kernel
theorem dX5_lay_30 : decode cX5_lay 30 = .ok (.goto 4, 3) := by decide +kernel
theorem dX5_lay_33 : decode cX5_lay 33 = .ok (.iconst 0, 1) := by decide +kernel
theorem dX5_lay_34 : decode cX5_lay 34 = .ok (.putfield 84, 3) := by decide +kernel
theorem dX5_lay_37 : decode cX5_lay 37 = .ok (.aload_n 0, 1) := by decide +kernel
theorem dX5_lay_38 : decode cX5_lay 38 = .ok (.iload 5, 2) := by decide +kernel
theorem dX5_lay_40 : decode cX5_lay 40 = .ok (.putfield 87, 3) := by decide +kernel
theorem dX5_lay_43 : decode cX5_lay 43 = .ok (.return_, 1) := by decide +kernel
theorem dX5_measure_0 : decode cX5_measure 0 = .ok (.aload_n 0, 1) := by decide +kernel
theorem dX5_measure_1 : decode cX5_measure 1 = .ok (.getfield 14, 3) := by decide +kernel
theorem dX5_measure_4 : decode cX5_measure 4 = .ok (.getfield 90, 3) := by decide +kernel
theorem dX5_measure_7 : decode cX5_measure 7 = .ok (.aload_n 0, 1) := by decide +kernel
theorem dX5_measure_8 : decode cX5_measure 8 = .ok (.getfield 84, 3) := by decide +kernel
theorem dX5_measure_11 : decode cX5_measure 11 = .ok (.isub, 1) := by decide +kernel
theorem dX5_measure_12 : decode cX5_measure 12 = .ok (.istore_n 2, 1) := by decide +kernel
theorem dX5_measure_13 : decode cX5_measure 13 = .ok (.iload_n 1, 1) := by decide +kernel
theorem dX5_measure_14 : decode cX5_measure 14 = .ok (.iload_n 2, 1) := by decide +kernel
theorem dX5_measure_15 : decode cX5_measure 15 = .ok (.invokestatic 93, 3) := by decide +kernel
theorem dX5_measure_18 : decode cX5_measure 18 = .ok (.isub, 1) := by decide +kernel
theorem dX5_measure_19 : decode cX5_measure 19 = .ok (.istore_n 3, 1) := by decide +kernel
theorem dX5_measure_20 : decode cX5_measure 20 = .ok (.iload_n 3, 1) := by decide +kernel
theorem dX5_measure_21 : decode cX5_measure 21 = .ok (.ifCond .ge 7, 3) := by decide +kernel
theorem dX5_measure_24 : decode cX5_measure 24 = .ok (.iload_n 1, 1) := by decide +kernel
theorem dX5_measure_25 : decode cX5_measure 25 = .ok (.iconst 1, 1) := by decide +kernel
theorem dX5_measure_26 : decode cX5_measure 26 = .ok (.iadd, 1) := by decide +kernel
theorem dX5_measure_27 : decode cX5_measure 27 = .ok (.ireturn, 1) := by decide +kernel
theorem dX5_measure_28 : decode cX5_measure 28 = .ok (.aload_n 0, 1) := by decide +kernel
theorem dX5_measure_29 : decode cX5_measure 29 = .ok (.iload_n 2, 1) := by decide +kernel
theorem dX5_measure_30 : decode cX5_measure 30 = .ok (.iconst 0, 1) := by decide +kernel
theorem dX5_measure_31 : decode cX5_measure 31 = .ok (.invokestatic 98, 3) := by decide +kernel
theorem dX5_measure_34 : decode cX5_measure 34 = .ok (.iload_n 3, 1) := by decide +kernel
theorem dX5_measure_35 : decode cX5_measure 35 = .ok (.iconst 2, 1) := by decide +kernel
theorem dX5_measure_36 : decode cX5_measure 36 = .ok (.idiv, 1) := by decide +kernel
theorem dX5_measure_37 : decode cX5_measure 37 = .ok (.isub, 1) := by decide +kernel
theorem dX5_measure_38 : decode cX5_measure 38 = .ok (.putfield 102, 3) := by decide +kernel
theorem dX5_measure_41 : decode cX5_measure 41 = .ok (.aload_n 0, 1) := by decide +kernel
theorem dX5_measure_42 : decode cX5_measure 42 = .ok (.iload_n 2, 1) := by decide +kernel
theorem dX5_measure_43 : decode cX5_measure 43 = .ok (.iconst 0, 1) := by decide +kernel
theorem dX5_measure_44 : decode cX5_measure 44 = .ok (.invokestatic 105, 3) := by decide +kernel
theorem dX5_measure_47 : decode cX5_measure 47 = .ok (.iload_n 3, 1) := by decide +kernel
theorem dX5_measure_48 : decode cX5_measure 48 = .ok (.iconst 2, 1) := by decide +kernel
theorem dX5_measure_49 : decode cX5_measure 49 = .ok (.idiv, 1) := by decide +kernel
theorem dX5_measure_50 : decode cX5_measure 50 = .ok (.iadd, 1) := by decide +kernel
theorem dX5_measure_51 : decode cX5_measure 51 = .ok (.putfield 108, 3) := by decide +kernel
theorem dX5_measure_54 : decode cX5_measure 54 = .ok (.aload_n 0, 1) := by decide +kernel
theorem dX5_measure_55 : decode cX5_measure 55 = .ok (.getfield 57, 3) := by decide +kernel
theorem dX5_measure_58 : decode cX5_measure 58 = .ok (.aload_n 0, 1) := by decide +kernel
theorem dX5_measure_59 : decode cX5_measure 59 = .ok (.getfield 102, 3) := by decide +kernel
theorem dX5_measure_62 : decode cX5_measure 62 = .ok (.aload_n 0, 1) := by decide +kernel
theorem dX5_measure_63 : decode cX5_measure 63 = .ok (.getfield 108, 3) := by decide +kernel
theorem dX5_measure_66 : decode cX5_measure 66 = .ok (.invokevirtual 111, 3) := by decide +kernel
theorem dX5_measure_69 : decode cX5_measure 69 = .ok (.aload_n 0, 1) := by decide +kernel
theorem dX5_measure_70 : decode cX5_measure 70 = .ok (.invokevirtual 115, 3) := by decide +kernel
theorem dX5_measure_73 : decode cX5_measure 73 = .ok (.iconst 1, 1) := by decide +kernel
theorem dX5_measure_74 : decode cX5_measure 74 = .ok (.istore 4, 2) := by decide +kernel
theorem dX5_measure_76 : decode cX5_measure 76 = .ok (.iload 4, 2) := by decide +kernel
theorem dX5_measure_78 : decode cX5_measure 78 = .ok (.aload_n 0, 1) := by decide +kernel
theorem dX5_measure_79 : decode cX5_measure 79 = .ok (.getfield 84, 3) := by decide +kernel
theorem dX5_measure_82 : decode cX5_measure 82 = .ok (.if_icmp .gt 23, 3) := by decide +kernel
theorem dX5_measure_85 : decode cX5_measure 85 = .ok (.aload_n 0, 1) := by decide +kernel
theorem dX5_measure_86 : decode cX5_measure 86 = .ok (.iload 4, 2) := by decide +kernel
theorem dX5_measure_88 : decode cX5_measure 88 = .ok (.invokevirtual 118, 3) := by decide +kernel
theorem dX5_measure_91 : decode cX5_measure 91 = .ok (.iload_n 1, 1) := by decide +kernel
theorem dX5_measure_92 : decode cX5_measure 92 = .ok (.if_icmp .le 7, 3) := by decide +kernel
theorem dX5_measure_95 : decode cX5_measure 95 = .ok (.iload_n 1, 1) := by decide +kernel
theorem dX5_measure_96 : decode cX5_measure 96 = .ok (.iconst 1, 1) := by decide +kernel
theorem dX5_measure_97 : decode cX5_measure 97 = .ok (.iadd, 1) := by decide +kernel
theorem dX5_measure_98 : decode cX5_measure 98 = .ok (.ireturn, 1) := by decide +kernel
theorem dX5_measure_99 : decode cX5_measure 99 = .ok (.iinc 4 1, 3) := by decide +kernel
theorem dX5_measure_102 : decode cX5_measure 102 = .ok (.goto (-26), 3) := by decide +kernel
theorem dX5_measure_105 : decode cX5_measure 105 = .ok (.aload_n 0, 1) := by decide +kernel
theorem dX5_measure_106 : decode cX5_measure 106 = .ok (.getfield 27, 3) := by decide +kernel
theorem dX5_measure_109 : decode cX5_measure 109 = .ok (.aload_n 0, 1) := by decide +kernel
theorem dX5_measure_110 : decode cX5_measure 110 = .ok (.getfield 14, 3) := by decide +kernel
theorem dX5_measure_113 : decode cX5_measure 113 = .ok (.getfield 90, 3) := by decide +kernel
theorem dX5_measure_116 : decode cX5_measure 116 = .ok (.iaload, 1) := by decide +kernel
theorem dX5_measure_117 : decode cX5_measure 117 = .ok (.ireturn, 1) := by decide +kernel
theorem dX5_fillFirstColumn_0 : decode cX5_fillFirstColumn 0 = .ok (.aload_n 0, 1) := by decide +kernel
theorem dX5_fillFirstColumn_1 : decode cX5_fillFirstColumn 1 = .ok (.getfield 14, 3) := by decide +kernel
theorem dX5_fillFirstColumn_4 : decode cX5_fillFirstColumn 4 = .ok (.getfield 90, 3) := by decide +kernel
theorem dX5_fillFirstColumn_7 : decode cX5_fillFirstColumn 7 = .ok (.aload_n 0, 1) := by decide +kernel
theorem dX5_fillFirstColumn_8 : decode cX5_fillFirstColumn 8 = .ok (.getfield 108, 3) := by decide +kernel
theorem dX5_fillFirstColumn_11 : decode cX5_fillFirstColumn 11 = .ok (.invokestatic 98, 3) := by decide +kernel
theorem dX5_fillFirstColumn_14 : decode cX5_fillFirstColumn 14 = .ok (.istore_n 1, 1) := by decide +kernel
theorem dX5_fillFirstColumn_15 : decode cX5_fillFirstColumn 15 = .ok (.iconst 0, 1) := by decide +kernel
theorem dX5_fillFirstColumn_16 : decode cX5_fillFirstColumn 16 = .ok (.istore_n 2, 1) := by decide +kernel
theorem dX5_fillFirstColumn_17 : decode cX5_fillFirstColumn 17 = .ok (.iload_n 2, 1) := by decide +kernel
theorem dX5_fillFirstColumn_18 : decode cX5_fillFirstColumn 18 = .ok (.iload_n 1, 1) := by decide +kernel
theorem dX5_fillFirstColumn_19 : decode cX5_fillFirstColumn 19 = .ok (.if_icmp .gt 16, 3) := by decide +kernel
theorem dX5_fillFirstColumn_22 : decode cX5_fillFirstColumn 22 = .ok (.aload_n 0, 1) := by decide +kernel
theorem dX5_fillFirstColumn_23 : decode cX5_fillFirstColumn 23 = .ok (.getfield 27, 3) := by decide +kernel
theorem dX5_fillFirstColumn_26 : decode cX5_fillFirstColumn 26 = .ok (.iload_n 2, 1) := by decide +kernel
theorem dX5_fillFirstColumn_27 : decode cX5_fillFirstColumn 27 = .ok (.iload_n 2, 1) := by decide +kernel
theorem dX5_fillFirstColumn_28 : decode cX5_fillFirstColumn 28 = .ok (.iastore, 1) := by decide +kernel
theorem dX5_fillFirstColumn_29 : decode cX5_fillFirstColumn 29 = .ok (.iinc 2 1, 3) := by decide +kernel
theorem dX5_fillFirstColumn_32 : decode cX5_fillFirstColumn 32 = .ok (.goto (-15), 3) := by decide +kernel
theorem dX5_fillFirstColumn_35 : decode cX5_fillFirstColumn 35 = .ok (.aload_n 0, 1) := by decide +kernel
theorem dX5_fillFirstColumn_36 : decode cX5_fillFirstColumn 36 = .ok (.iload_n 1, 1) := by decide +kernel
theorem dX5_fillFirstColumn_37 : decode cX5_fillFirstColumn 37 = .ok (.invokevirtual 121, 3) := by decide +kernel
theorem dX5_fillFirstColumn_40 : decode cX5_fillFirstColumn 40 = .ok (.return_, 1) := by decide +kernel
theorem dX5_fillColumn_0 : decode cX5_fillColumn 0 = .ok (.aload_n 0, 1) := by decide +kernel
theorem dX5_fillColumn_1 : decode cX5_fillColumn 1 = .ok (.aload_n 0, 1) := by decide +kernel
theorem dX5_fillColumn_2 : decode cX5_fillColumn 2 = .ok (.getfield 23, 3) := by decide +kernel
theorem dX5_fillColumn_5 : decode cX5_fillColumn 5 = .ok (.aload_n 0, 1) := by decide +kernel
theorem dX5_fillColumn_6 : decode cX5_fillColumn 6 = .ok (.getfield 77, 3) := by decide +kernel
theorem dX5_fillColumn_9 : decode cX5_fillColumn 9 = .ok (.iload_n 1, 1) := by decide +kernel
theorem dX5_fillColumn_10 : decode cX5_fillColumn 10 = .ok (.iadd, 1) := by decide +kernel
theorem dX5_fillColumn_11 : decode cX5_fillColumn 11 = .ok (.iconst 1, 1) := by decide +kernel
theorem dX5_fillColumn_12 : decode cX5_fillColumn 12 = .ok (.isub, 1) := by decide +kernel
theorem dX5_fillColumn_13 : decode cX5_fillColumn 13 = .ok (.invokevirtual 124, 3) := by decide +kernel
theorem dX5_fillColumn_16 : decode cX5_fillColumn 16 = .ok (.invokevirtual 127, 3) := by decide +kernel
theorem dX5_fillColumn_19 : decode cX5_fillColumn 19 = .ok (.iconst 0, 1) := by decide +kernel
theorem dX5_fillColumn_20 : decode cX5_fillColumn 20 = .ok (.iload_n 1, 1) := by decide +kernel
theorem dX5_fillColumn_21 : decode cX5_fillColumn 21 = .ok (.aload_n 0, 1) := by decide +kernel
theorem dX5_fillColumn_22 : decode cX5_fillColumn 22 = .ok (.getfield 102, 3) := by decide +kernel
theorem dX5_fillColumn_25 : decode cX5_fillColumn 25 = .ok (.iadd, 1) := by decide +kernel
theorem dX5_fillColumn_26 : decode cX5_fillColumn 26 = .ok (.invokestatic 105, 3) := by decide +kernel
theorem dX5_fillColumn_29 : decode cX5_fillColumn 29 = .ok (.istore_n 2, 1) := by decide +kernel
theorem dX5_fillColumn_30 : decode cX5_fillColumn 30 = .ok (.aload_n 0, 1) := by decide +kernel
theorem dX5_fillColumn_31 : decode cX5_fillColumn 31 = .ok (.getfield 14, 3) := by decide +kernel
theorem dX5_fillColumn_34 : decode cX5_fillColumn 34 = .ok (.getfield 90, 3) := by decide +kernel
theorem dX5_fillColumn_37 : decode cX5_fillColumn 37 = .ok (.iload_n 1, 1) := by decide +kernel
theorem dX5_fillColumn_38 : decode cX5_fillColumn 38 = .ok (.aload_n 0, 1) := by decide +kernel
theorem dX5_fillColumn_39 : decode cX5_fillColumn 39 = .ok (.getfield 108, 3) := by decide +kernel
theorem dX5_fillColumn_42 : decode cX5_fillColumn 42 = .ok (.iadd, 1) := by decide +kernel
theorem dX5_fillColumn_43 : decode cX5_fillColumn 43 = .ok (.invokestatic 98, 3) := by decide +kernel
theorem dX5_fillColumn_46 : decode cX5_fillColumn 46 = .ok (.istore_n 3, 1) := by decide +kernel
theorem dX5_fillColumn_47 : decode cX5_fillColumn 47 = .ok (.ldc 130, 2) := by decide +kernel
theorem dX5_fillColumn_49 : decode cX5_fillColumn 49 = .ok (.istore 4, 2) := by decide +kernel
theorem dX5_fillColumn_51 : decode cX5_fillColumn 51 = .ok (.iload_n 2, 1) := by decide +kernel
theorem dX5_fillColumn_52 : decode cX5_fillColumn 52 = .ok (.ifCond .le 13, 3) := by decide +kernel
theorem dX5_fillColumn_55 : decode cX5_fillColumn 55 = .ok (.aload_n 0, 1) := by decide +kernel
theorem dX5_fillColumn_56 : decode cX5_fillColumn 56 = .ok (.getfield 27, 3) := by decide +kernel
theorem dX5_fillColumn_59 : decode cX5_fillColumn 59 = .ok (.iload_n 2, 1) := by decide +kernel
theorem dX5_fillColumn_60 : decode cX5_fillColumn 60 = .ok (.iconst 1, 1) := by decide +kernel
theorem dX5_fillColumn_61 : decode cX5_fillColumn 61 = .ok (.isub, 1) := by decide +kernel
theorem dX5_fillColumn_62 : decode cX5_fillColumn 62 = .ok (.ldc 130, 2) := by decide +kernel
theorem dX5_fillColumn_64 : decode cX5_fillColumn 64 = .ok (.iastore, 1) := by decide +kernel
theorem dX5_fillColumn_65 : decode cX5_fillColumn 65 = .ok (.iload_n 2, 1) := by decide +kernel
theorem dX5_fillColumn_66 : decode cX5_fillColumn 66 = .ok (.istore 5, 2) := by decide +kernel
theorem dX5_fillColumn_68 : decode cX5_fillColumn 68 = .ok (.iload 5, 2) := by decide +kernel
theorem dX5_fillColumn_70 : decode cX5_fillColumn 70 = .ok (.iload_n 3, 1) := by decide +kernel
theorem dX5_fillColumn_71 : decode cX5_fillColumn 71 = .ok (.if_icmp .gt 46, 3) := by decide +kernel
theorem dX5_fillColumn_74 : decode cX5_fillColumn 74 = .ok (.aload_n 0, 1) := by decide +kernel
theorem dX5_fillColumn_75 : decode cX5_fillColumn 75 = .ok (.getfield 27, 3) := by decide +kernel
theorem dX5_fillColumn_78 : decode cX5_fillColumn 78 = .ok (.iload 5, 2) := by decide +kernel
theorem dX5_fillColumn_80 : decode cX5_fillColumn 80 = .ok (.iload 5, 2) := by decide +kernel
theorem dX5_fillColumn_82 : decode cX5_fillColumn 82 = .ok (.ifCond .ne 7, 3) := by decide +kernel
theorem dX5_fillColumn_85 : decode cX5_fillColumn 85 = .ok (.iload_n 1, 1) := by decide +kernel
theorem dX5_fillColumn_86 : decode cX5_fillColumn 86 = .ok (.goto 10, 3) := by decide +kernel
theorem dX5_fillColumn_89 : decode cX5_fillColumn 89 = .ok (.aload_n 0, 1) := by decide +kernel
theorem dX5_fillColumn_90 : decode cX5_fillColumn 90 = .ok (.iload 5, 2) := by decide +kernel
theorem dX5_fillColumn_92 : decode cX5_fillColumn 92 = .ok (.iload_n 1, 1) := by decide +kernel
theorem dX5_fillColumn_93 : decode cX5_fillColumn 93 = .ok (.invokevirtual 131, 3) := by decide +kernel
theorem dX5_fillColumn_96 : decode cX5_fillColumn 96 = .ok (.iastore, 1) := by decide +kernel
theorem dX5_fillColumn_97 : decode cX5_fillColumn 97 = .ok (.iload 4, 2) := by decide +kernel
theorem dX5_fillColumn_99 : decode cX5_fillColumn 99 = .ok (.aload_n 0, 1) := by decide +kernel
theorem dX5_fillColumn_100 : decode cX5_fillColumn 100 = .ok (.getfield 27, 3) := by decide +kernel
theorem dX5_fillColumn_103 : decode cX5_fillColumn 103 = .ok (.iload 5, 2) := by decide +kernel
theorem dX5_fillColumn_105 : decode cX5_fillColumn 105 = .ok (.iaload, 1) := by decide +kernel
theorem dX5_fillColumn_106 : decode cX5_fillColumn 106 = .ok (.invokestatic 98, 3) := by decide +kernel
theorem dX5_fillColumn_109 : decode cX5_fillColumn 109 = .ok (.istore 4, 2) := by decide +kernel
theorem dX5_fillColumn_111 : decode cX5_fillColumn 111 = .ok (.iinc 5 1, 3) := by decide +kernel
theorem dX5_fillColumn_114 : decode cX5_fillColumn 114 = .ok (.goto (-46), 3) := by decide +kernel
theorem dX5_fillColumn_117 : decode cX5_fillColumn 117 = .ok (.aload_n 0, 1) := by decide +kernel
theorem dX5_fillColumn_118 : decode cX5_fillColumn 118 = .ok (.iload_n 3, 1) := by decide +kernel
theorem dX5_fillColumn_119 : decode cX5_fillColumn 119 = .ok (.invokevirtual 121, 3) := by decide +kernel
theorem dX5_fillColumn_122 : decode cX5_fillColumn 122 = .ok (.iload 4, 2) := by decide +kernel
theorem dX5_fillColumn_124 : decode cX5_fillColumn 124 = .ok (.ireturn, 1) := by decide +kernel
theorem dX5_turnColumns_0 : decode cX5_turnColumns 0 = .ok (.aload_n 0, 1) := by decide +kernel
theorem dX5_turnColumns_1 : decode cX5_turnColumns 1 = .ok (.getfield 34, 3) := by decide +kernel
theorem dX5_turnColumns_4 : decode cX5_turnColumns 4 = .ok (.astore_n 2, 1) := by decide +kernel
theorem dX5_turnColumns_5 : decode cX5_turnColumns 5 = .ok (.aload_n 0, 1) := by decide +kernel
theorem dX5_turnColumns_6 : decode cX5_turnColumns 6 = .ok (.aload_n 0, 1) := by decide +kernel
theorem dX5_turnColumns_7 : decode cX5_turnColumns 7 = .ok (.getfield 31, 3) := by decide +kernel
theorem dX5_turnColumns_10 : decode cX5_turnColumns 10 = .ok (.putfield 34, 3) := by decide +kernel
theorem dX5_turnColumns_13 : decode cX5_turnColumns 13 = .ok (.aload_n 0, 1) := by decide +kernel
theorem dX5_turnColumns_14 : decode cX5_turnColumns 14 = .ok (.aload_n 0, 1) := by decide +kernel
theorem dX5_turnColumns_15 : decode cX5_turnColumns 15 = .ok (.getfield 27, 3) := by decide +kernel
theorem dX5_turnColumns_18 : decode cX5_turnColumns 18 = .ok (.putfield 31, 3) := by decide +kernel
theorem dX5_turnColumns_21 : decode cX5_turnColumns 21 = .ok (.aload_n 0, 1) := by decide +kernel
theorem dX5_turnColumns_22 : decode cX5_turnColumns 22 = .ok (.aload_n 2, 1) := by decide +kernel
theorem dX5_turnColumns_23 : decode cX5_turnColumns 23 = .ok (.putfield 27, 3) := by decide +kernel
theorem dX5_turnColumns_26 : decode cX5_turnColumns 26 = .ok (.aload_n 0, 1) := by decide +kernel
theorem dX5_turnColumns_27 : decode cX5_turnColumns 27 = .ok (.aload_n 0, 1) := by decide +kernel
theorem dX5_turnColumns_28 : decode cX5_turnColumns 28 = .ok (.getfield 37, 3) := by decide +kernel
theorem dX5_turnColumns_31 : decode cX5_turnColumns 31 = .ok (.putfield 41, 3) := by decide +kernel
theorem dX5_turnColumns_34 : decode cX5_turnColumns 34 = .ok (.aload_n 0, 1) := by decide +kernel
theorem dX5_turnColumns_35 : decode cX5_turnColumns 35 = .ok (.aload_n 0, 1) := by decide +kernel
theorem dX5_turnColumns_36 : decode cX5_turnColumns 36 = .ok (.getfield 48, 3) := by decide +kernel
theorem dX5_turnColumns_39 : decode cX5_turnColumns 39 = .ok (.putfield 51, 3) := by decide +kernel
theorem dX5_turnColumns_42 : decode cX5_turnColumns 42 = .ok (.aload_n 0, 1) := by decide +kernel
theorem dX5_turnColumns_43 : decode cX5_turnColumns 43 = .ok (.iload_n 1, 1) := by decide +kernel
theorem dX5_turnColumns_44 : decode cX5_turnColumns 44 = .ok (.putfield 37, 3) := by decide +kernel
theorem dX5_turnColumns_47 : decode cX5_turnColumns 47 = .ok (.aload_n 0, 1) := by decide +kernel
theorem dX5_turnColumns_48 : decode cX5_turnColumns 48 = .ok (.aload_n 0, 1) := by decide +kernel
theorem dX5_turnColumns_49 : decode cX5_turnColumns 49 = .ok (.getfield 14, 3) := by decide +kernel
theorem dX5_turnColumns_52 : decode cX5_turnColumns 52 = .ok (.iload_n 1, 1) := by decide +kernel
theorem dX5_turnColumns_53 : decode cX5_turnColumns 53 = .ok (.invokevirtual 134, 3) := by decide +kernel
theorem dX5_turnColumns_56 : decode cX5_turnColumns 56 = .ok (.putfield 48, 3) := by decide +kernel
theorem dX5_turnColumns_59 : decode cX5_turnColumns 59 = .ok (.return_, 1) := by decide +kernel
theorem dX5_closeAbove_0 : decode cX5_closeAbove 0 = .ok (.iload_n 1, 1) := by decide +kernel
theorem dX5_closeAbove_1 : decode cX5_closeAbove 1 = .ok (.aload_n 0, 1) := by decide +kernel
theorem dX5_closeAbove_2 : decode cX5_closeAbove 2 = .ok (.getfield 14, 3) := by decide +kernel
theorem dX5_closeAbove_5 : decode cX5_closeAbove 5 = .ok (.getfield 90, 3) := by decide +kernel
theorem dX5_closeAbove_8 : decode cX5_closeAbove 8 = .ok (.if_icmp .ge 13, 3) := by decide +kernel
theorem dX5_closeAbove_11 : decode cX5_closeAbove 11 = .ok (.aload_n 0, 1) := by decide +kernel
theorem dX5_closeAbove_12 : decode cX5_closeAbove 12 = .ok (.getfield 27, 3) := by decide +kernel
theorem dX5_closeAbove_15 : decode cX5_closeAbove 15 = .ok (.iload_n 1, 1) := by decide +kernel
theorem dX5_closeAbove_16 : decode cX5_closeAbove 16 = .ok (.iconst 1, 1) := by decide +kernel
theorem dX5_closeAbove_17 : decode cX5_closeAbove 17 = .ok (.iadd, 1) := by decide +kernel
theorem dX5_closeAbove_18 : decode cX5_closeAbove 18 = .ok (.ldc 130, 2) := by decide +kernel
theorem dX5_closeAbove_20 : decode cX5_closeAbove 20 = .ok (.iastore, 1) := by decide +kernel
theorem dX5_closeAbove_21 : decode cX5_closeAbove 21 = .ok (.return_, 1) := by decide +kernel
theorem dX5_best_0 : decode cX5_best 0 = .ok (.aload_n 0, 1) := by decide +kernel
theorem dX5_best_1 : decode cX5_best 1 = .ok (.getfield 48, 3) := by decide +kernel
theorem dX5_best_4 : decode cX5_best 4 = .ok (.iload_n 1, 1) := by decide +kernel
theorem dX5_best_5 : decode cX5_best 5 = .ok (.iconst 1, 1) := by decide +kernel
theorem dX5_best_6 : decode cX5_best 6 = .ok (.isub, 1) := by decide +kernel
theorem dX5_best_7 : decode cX5_best 7 = .ok (.laload, 1) := by decide +kernel
theorem dX5_best_8 : decode cX5_best 8 = .ok (.aload_n 0, 1) := by decide +kernel
theorem dX5_best_9 : decode cX5_best 9 = .ok (.getfield 37, 3) := by decide +kernel
theorem dX5_best_12 : decode cX5_best 12 = .ok (.lushr, 1) := by decide +kernel
theorem dX5_best_13 : decode cX5_best 13 = .ok (.lconst 1, 1) := by decide +kernel
theorem dX5_best_14 : decode cX5_best 14 = .ok (.land, 1) := by decide +kernel
theorem dX5_best_15 : decode cX5_best 15 = .ok (.lconst 0, 1) := by decide +kernel
theorem dX5_best_16 : decode cX5_best 16 = .ok (.lcmp, 1) := by decide +kernel
theorem dX5_best_17 : decode cX5_best 17 = .ok (.ifCond .eq 7, 3) := by decide +kernel
theorem dX5_best_20 : decode cX5_best 20 = .ok (.iconst 1, 1) := by decide +kernel
theorem dX5_best_21 : decode cX5_best 21 = .ok (.goto 4, 3) := by decide +kernel
theorem dX5_best_24 : decode cX5_best 24 = .ok (.iconst 0, 1) := by decide +kernel
theorem dX5_best_25 : decode cX5_best 25 = .ok (.istore_n 3, 1) := by decide +kernel
theorem dX5_best_26 : decode cX5_best 26 = .ok (.iload_n 3, 1) := by decide +kernel
theorem dX5_best_27 : decode cX5_best 27 = .ok (.ifCond .eq 14, 3) := by decide +kernel
theorem dX5_best_30 : decode cX5_best 30 = .ok (.aload_n 0, 1) := by decide +kernel
theorem dX5_best_31 : decode cX5_best 31 = .ok (.getfield 31, 3) := by decide +kernel
theorem dX5_best_34 : decode cX5_best 34 = .ok (.iload_n 1, 1) := by decide +kernel
theorem dX5_best_35 : decode cX5_best 35 = .ok (.iconst 1, 1) := by decide +kernel
theorem dX5_best_36 : decode cX5_best 36 = .ok (.isub, 1) := by decide +kernel
theorem dX5_best_37 : decode cX5_best 37 = .ok (.iaload, 1) := by decide +kernel
theorem dX5_best_38 : decode cX5_best 38 = .ok (.goto 13, 3) := by decide +kernel
theorem dX5_best_41 : decode cX5_best 41 = .ok (.aload_n 0, 1) := by decide +kernel
theorem dX5_best_42 : decode cX5_best 42 = .ok (.getfield 31, 3) := by decide +kernel
theorem dX5_best_45 : decode cX5_best 45 = .ok (.iload_n 1, 1) := by decide +kernel
theorem dX5_best_46 : decode cX5_best 46 = .ok (.iconst 1, 1) := by decide +kernel
theorem dX5_best_47 : decode cX5_best 47 = .ok (.isub, 1) := by decide +kernel
theorem dX5_best_48 : decode cX5_best 48 = .ok (.iaload, 1) := by decide +kernel
theorem dX5_best_49 : decode cX5_best 49 = .ok (.iconst 1, 1) := by decide +kernel
theorem dX5_best_50 : decode cX5_best 50 = .ok (.iadd, 1) := by decide +kernel
theorem dX5_best_51 : decode cX5_best 51 = .ok (.istore 4, 2) := by decide +kernel
theorem dX5_best_53 : decode cX5_best 53 = .ok (.iload_n 3, 1) := by decide +kernel
theorem dX5_best_54 : decode cX5_best 54 = .ok (.ifCond .eq 7, 3) := by decide +kernel
theorem dX5_best_57 : decode cX5_best 57 = .ok (.iconst 0, 1) := by decide +kernel
theorem dX5_best_58 : decode cX5_best 58 = .ok (.goto 4, 3) := by decide +kernel
theorem dX5_best_61 : decode cX5_best 61 = .ok (.iconst 1, 1) := by decide +kernel
theorem dX5_best_62 : decode cX5_best 62 = .ok (.istore 5, 2) := by decide +kernel
theorem dX5_best_64 : decode cX5_best 64 = .ok (.aload_n 0, 1) := by decide +kernel
theorem dX5_best_65 : decode cX5_best 65 = .ok (.getfield 87, 3) := by decide +kernel
theorem dX5_best_68 : decode cX5_best 68 = .ok (.ifCond .eq 51, 3) := by decide +kernel
theorem dX5_best_71 : decode cX5_best 71 = .ok (.iload_n 1, 1) := by decide +kernel
theorem dX5_best_72 : decode cX5_best 72 = .ok (.iconst 1, 1) := by decide +kernel
theorem dX5_best_73 : decode cX5_best 73 = .ok (.if_icmp .le 46, 3) := by decide +kernel
theorem dX5_best_76 : decode cX5_best 76 = .ok (.iload_n 2, 1) := by decide +kernel
theorem dX5_best_77 : decode cX5_best 77 = .ok (.iconst 1, 1) := by decide +kernel
theorem dX5_best_78 : decode cX5_best 78 = .ok (.if_icmp .le 41, 3) := by decide +kernel
theorem dX5_best_81 : decode cX5_best 81 = .ok (.aload_n 0, 1) := by decide +kernel
theorem dX5_best_82 : decode cX5_best 82 = .ok (.getfield 34, 3) := by decide +kernel
theorem dX5_best_85 : decode cX5_best 85 = .ok (.iload_n 1, 1) := by decide +kernel
theorem dX5_best_86 : decode cX5_best 86 = .ok (.iconst 2, 1) := by decide +kernel
theorem dX5_best_87 : decode cX5_best 87 = .ok (.isub, 1) := by decide +kernel
theorem dX5_best_88 : decode cX5_best 88 = .ok (.iaload, 1) := by decide +kernel
theorem dX5_best_89 : decode cX5_best 89 = .ok (.iconst 1, 1) := by decide +kernel
theorem dX5_best_90 : decode cX5_best 90 = .ok (.iadd, 1) := by decide +kernel
theorem dX5_best_91 : decode cX5_best 91 = .ok (.iload 4, 2) := by decide +kernel
theorem dX5_best_93 : decode cX5_best 93 = .ok (.if_icmp .ge 26, 3) := by decide +kernel
theorem dX5_best_96 : decode cX5_best 96 = .ok (.aload_n 0, 1) := by decide +kernel
theorem dX5_best_97 : decode cX5_best 97 = .ok (.iload_n 1, 1) := by decide +kernel
theorem dX5_best_98 : decode cX5_best 98 = .ok (.invokevirtual 138, 3) := by decide +kernel
theorem dX5_best_101 : decode cX5_best 101 = .ok (.ifCond .eq 18, 3) := by decide +kernel
theorem dX5_best_104 : decode cX5_best 104 = .ok (.aload_n 0, 1) := by decide +kernel
theorem dX5_best_105 : decode cX5_best 105 = .ok (.getfield 34, 3) := by decide +kernel
theorem dX5_best_108 : decode cX5_best 108 = .ok (.iload_n 1, 1) := by decide +kernel
theorem dX5_best_109 : decode cX5_best 109 = .ok (.iconst 2, 1) := by decide +kernel
theorem dX5_best_110 : decode cX5_best 110 = .ok (.isub, 1) := by decide +kernel
theorem dX5_best_111 : decode cX5_best 111 = .ok (.iaload, 1) := by decide +kernel
theorem dX5_best_112 : decode cX5_best 112 = .ok (.iconst 1, 1) := by decide +kernel
theorem dX5_best_113 : decode cX5_best 113 = .ok (.iadd, 1) := by decide +kernel
theorem dX5_best_114 : decode cX5_best 114 = .ok (.istore 4, 2) := by decide +kernel
theorem dX5_best_116 : decode cX5_best 116 = .ok (.iconst 4, 1) := by decide +kernel
theorem dX5_best_117 : decode cX5_best 117 = .ok (.istore 5, 2) := by decide +kernel
theorem dX5_best_119 : decode cX5_best 119 = .ok (.aload_n 0, 1) := by decide +kernel
theorem dX5_best_120 : decode cX5_best 120 = .ok (.getfield 31, 3) := by decide +kernel
theorem dX5_best_123 : decode cX5_best 123 = .ok (.iload_n 1, 1) := by decide +kernel
theorem dX5_best_124 : decode cX5_best 124 = .ok (.iaload, 1) := by decide +kernel
theorem dX5_best_125 : decode cX5_best 125 = .ok (.iconst 1, 1) := by decide +kernel
theorem dX5_best_126 : decode cX5_best 126 = .ok (.iadd, 1) := by decide +kernel
theorem dX5_best_127 : decode cX5_best 127 = .ok (.iload 4, 2) := by decide +kernel
theorem dX5_best_129 : decode cX5_best 129 = .ok (.if_icmp .ge 16, 3) := by decide +kernel
theorem dX5_best_132 : decode cX5_best 132 = .ok (.aload_n 0, 1) := by decide +kernel
theorem dX5_best_133 : decode cX5_best 133 = .ok (.getfield 31, 3) := by decide +kernel
theorem dX5_best_136 : decode cX5_best 136 = .ok (.iload_n 1, 1) := by decide +kernel
theorem dX5_best_137 : decode cX5_best 137 = .ok (.iaload, 1) := by decide +kernel
theorem dX5_best_138 : decode cX5_best 138 = .ok (.iconst 1, 1) := by decide +kernel
theorem dX5_best_139 : decode cX5_best 139 = .ok (.iadd, 1) := by decide +kernel
theorem dX5_best_140 : decode cX5_best 140 = .ok (.istore 4, 2) := by decide +kernel
theorem dX5_best_142 : decode cX5_best 142 = .ok (.iconst 2, 1) := by decide +kernel
theorem dX5_best_143 : decode cX5_best 143 = .ok (.istore 5, 2) := by decide +kernel
theorem dX5_best_145 : decode cX5_best 145 = .ok (.aload_n 0, 1) := by decide +kernel
theorem dX5_best_146 : decode cX5_best 146 = .ok (.getfield 27, 3) := by decide +kernel
theorem dX5_best_149 : decode cX5_best 149 = .ok (.iload_n 1, 1) := by decide +kernel
theorem dX5_best_150 : decode cX5_best 150 = .ok (.iconst 1, 1) := by decide +kernel
theorem dX5_best_151 : decode cX5_best 151 = .ok (.isub, 1) := by decide +kernel
theorem dX5_best_152 : decode cX5_best 152 = .ok (.iaload, 1) := by decide +kernel
theorem dX5_best_153 : decode cX5_best 153 = .ok (.iconst 1, 1) := by decide +kernel
theorem dX5_best_154 : decode cX5_best 154 = .ok (.iadd, 1) := by decide +kernel
theorem dX5_best_155 : decode cX5_best 155 = .ok (.iload 4, 2) := by decide +kernel
theorem dX5_best_157 : decode cX5_best 157 = .ok (.if_icmp .ge 18, 3) := by decide +kernel
theorem dX5_best_160 : decode cX5_best 160 = .ok (.aload_n 0, 1) := by decide +kernel
theorem dX5_best_161 : decode cX5_best 161 = .ok (.getfield 27, 3) := by decide +kernel
theorem dX5_best_164 : decode cX5_best 164 = .ok (.iload_n 1, 1) := by decide +kernel
theorem dX5_best_165 : decode cX5_best 165 = .ok (.iconst 1, 1) := by decide +kernel
theorem dX5_best_166 : decode cX5_best 166 = .ok (.isub, 1) := by decide +kernel
theorem dX5_best_167 : decode cX5_best 167 = .ok (.iaload, 1) := by decide +kernel
theorem dX5_best_168 : decode cX5_best 168 = .ok (.iconst 1, 1) := by decide +kernel
theorem dX5_best_169 : decode cX5_best 169 = .ok (.iadd, 1) := by decide +kernel
theorem dX5_best_170 : decode cX5_best 170 = .ok (.istore 4, 2) := by decide +kernel
theorem dX5_best_172 : decode cX5_best 172 = .ok (.iconst 3, 1) := by decide +kernel
theorem dX5_best_173 : decode cX5_best 173 = .ok (.istore 5, 2) := by decide +kernel
end
section
theorem dX5_best_175 : decode cX5_best 175 = .ok (.aload_n 0, 1) := by decide +kernel
theorem dX5_best_176 : decode cX5_best 176 = .ok (.getfield 65, 3) := by decide +kernel
theorem dX5_best_179 : decode cX5_best 179 = .ok (.ifCond .eq 14, 3) := by decide +kernel
theorem dX5_best_182 : decode cX5_best 182 = .ok (.aload_n 0, 1) := by decide +kernel
theorem dX5_best_183 : decode cX5_best 183 = .ok (.getfield 57, 3) := by decide +kernel
theorem dX5_best_186 : decode cX5_best 186 = .ok (.iload_n 1, 1) := by decide +kernel
theorem dX5_best_187 : decode cX5_best 187 = .ok (.iload_n 2, 1) := by decide +kernel
theorem dX5_best_188 : decode cX5_best 188 = .ok (.iload 5, 2) := by decide +kernel
theorem dX5_best_190 : decode cX5_best 190 = .ok (.invokevirtual 142, 3) := by decide +kernel
theorem dX5_best_193 : decode cX5_best 193 = .ok (.iload 4, 2) := by decide +kernel
theorem dX5_best_195 : decode cX5_best 195 = .ok (.ireturn, 1) := by decide +kernel
theorem dX5_isSwap_0 : decode cX5_isSwap 0 = .ok (.aload_n 0, 1) := by decide +kernel
theorem dX5_isSwap_1 : decode cX5_isSwap 1 = .ok (.getfield 48, 3) := by decide +kernel
theorem dX5_isSwap_4 : decode cX5_isSwap 4 = .ok (.iload_n 1, 1) := by decide +kernel
theorem dX5_isSwap_5 : decode cX5_isSwap 5 = .ok (.iconst 2, 1) := by decide +kernel
theorem dX5_isSwap_6 : decode cX5_isSwap 6 = .ok (.isub, 1) := by decide +kernel
theorem dX5_isSwap_7 : decode cX5_isSwap 7 = .ok (.laload, 1) := by decide +kernel
theorem dX5_isSwap_8 : decode cX5_isSwap 8 = .ok (.aload_n 0, 1) := by decide +kernel
theorem dX5_isSwap_9 : decode cX5_isSwap 9 = .ok (.getfield 37, 3) := by decide +kernel
theorem dX5_isSwap_12 : decode cX5_isSwap 12 = .ok (.lushr, 1) := by decide +kernel
theorem dX5_isSwap_13 : decode cX5_isSwap 13 = .ok (.lconst 1, 1) := by decide +kernel
theorem dX5_isSwap_14 : decode cX5_isSwap 14 = .ok (.land, 1) := by decide +kernel
theorem dX5_isSwap_15 : decode cX5_isSwap 15 = .ok (.lconst 0, 1) := by decide +kernel
theorem dX5_isSwap_16 : decode cX5_isSwap 16 = .ok (.lcmp, 1) := by decide +kernel
theorem dX5_isSwap_17 : decode cX5_isSwap 17 = .ok (.ifCond .eq 27, 3) := by decide +kernel
theorem dX5_isSwap_20 : decode cX5_isSwap 20 = .ok (.aload_n 0, 1) := by decide +kernel
theorem dX5_isSwap_21 : decode cX5_isSwap 21 = .ok (.getfield 51, 3) := by decide +kernel
theorem dX5_isSwap_24 : decode cX5_isSwap 24 = .ok (.iload_n 1, 1) := by decide +kernel
theorem dX5_isSwap_25 : decode cX5_isSwap 25 = .ok (.iconst 1, 1) := by decide +kernel
theorem dX5_isSwap_26 : decode cX5_isSwap 26 = .ok (.isub, 1) := by decide +kernel
theorem dX5_isSwap_27 : decode cX5_isSwap 27 = .ok (.laload, 1) := by decide +kernel
theorem dX5_isSwap_28 : decode cX5_isSwap 28 = .ok (.aload_n 0, 1) := by decide +kernel
theorem dX5_isSwap_29 : decode cX5_isSwap 29 = .ok (.getfield 41, 3) := by decide +kernel
theorem dX5_isSwap_32 : decode cX5_isSwap 32 = .ok (.lushr, 1) := by decide +kernel
theorem dX5_isSwap_33 : decode cX5_isSwap 33 = .ok (.lconst 1, 1) := by decide +kernel
theorem dX5_isSwap_34 : decode cX5_isSwap 34 = .ok (.land, 1) := by decide +kernel
theorem dX5_isSwap_35 : decode cX5_isSwap 35 = .ok (.lconst 0, 1) := by decide +kernel
theorem dX5_isSwap_36 : decode cX5_isSwap 36 = .ok (.lcmp, 1) := by decide +kernel
theorem dX5_isSwap_37 : decode cX5_isSwap 37 = .ok (.ifCond .eq 7, 3) := by decide +kernel
theorem dX5_isSwap_40 : decode cX5_isSwap 40 = .ok (.iconst 1, 1) := by decide +kernel
theorem dX5_isSwap_41 : decode cX5_isSwap 41 = .ok (.goto 4, 3) := by decide +kernel
theorem dX5_isSwap_44 : decode cX5_isSwap 44 = .ok (.iconst 0, 1) := by decide +kernel
theorem dX5_isSwap_45 : decode cX5_isSwap 45 = .ok (.ireturn, 1) := by decide +kernel
theorem dX5_walkBack_0 : decode cX5_walkBack 0 = .ok (.aload_n 1, 1) := by decide +kernel
theorem dX5_walkBack_1 : decode cX5_walkBack 1 = .ok (.invokevirtual 146, 3) := by decide +kernel
theorem dX5_walkBack_4 : decode cX5_walkBack 4 = .ok (.aload_n 0, 1) := by decide +kernel
theorem dX5_walkBack_5 : decode cX5_walkBack 5 = .ok (.getfield 14, 3) := by decide +kernel
theorem dX5_walkBack_8 : decode cX5_walkBack 8 = .ok (.getfield 90, 3) := by decide +kernel
theorem dX5_walkBack_11 : decode cX5_walkBack 11 = .ok (.istore_n 2, 1) := by decide +kernel
theorem dX5_walkBack_12 : decode cX5_walkBack 12 = .ok (.aload_n 0, 1) := by decide +kernel
theorem dX5_walkBack_13 : decode cX5_walkBack 13 = .ok (.getfield 84, 3) := by decide +kernel
theorem dX5_walkBack_16 : decode cX5_walkBack 16 = .ok (.istore_n 3, 1) := by decide +kernel
theorem dX5_walkBack_17 : decode cX5_walkBack 17 = .ok (.iconst 0, 1) := by decide +kernel
theorem dX5_walkBack_18 : decode cX5_walkBack 18 = .ok (.istore 4, 2) := by decide +kernel
theorem dX5_walkBack_20 : decode cX5_walkBack 20 = .ok (.iload 4, 2) := by decide +kernel
theorem dX5_walkBack_22 : decode cX5_walkBack 22 = .ok (.sipush 400, 3) := by decide +kernel
theorem dX5_walkBack_25 : decode cX5_walkBack 25 = .ok (.if_icmp .ge 85, 3) := by decide +kernel
theorem dX5_walkBack_28 : decode cX5_walkBack 28 = .ok (.iload_n 2, 1) := by decide +kernel
theorem dX5_walkBack_29 : decode cX5_walkBack 29 = .ok (.ifCond .gt 7, 3) := by decide +kernel
theorem dX5_walkBack_32 : decode cX5_walkBack 32 = .ok (.iload_n 3, 1) := by decide +kernel
theorem dX5_walkBack_33 : decode cX5_walkBack 33 = .ok (.ifCond .le 77, 3) := by decide +kernel
theorem dX5_walkBack_36 : decode cX5_walkBack 36 = .ok (.iload_n 2, 1) := by decide +kernel
theorem dX5_walkBack_37 : decode cX5_walkBack 37 = .ok (.ifCond .gt 7, 3) := by decide +kernel
theorem dX5_walkBack_40 : decode cX5_walkBack 40 = .ok (.iconst 2, 1) := by decide +kernel
theorem dX5_walkBack_41 : decode cX5_walkBack 41 = .ok (.goto 20, 3) := by decide +kernel
theorem dX5_walkBack_44 : decode cX5_walkBack 44 = .ok (.iload_n 3, 1) := by decide +kernel
theorem dX5_walkBack_45 : decode cX5_walkBack 45 = .ok (.ifCond .gt 7, 3) := by decide +kernel
theorem dX5_walkBack_48 : decode cX5_walkBack 48 = .ok (.iconst 3, 1) := by decide +kernel
theorem dX5_walkBack_49 : decode cX5_walkBack 49 = .ok (.goto 12, 3) := by decide +kernel
theorem dX5_walkBack_52 : decode cX5_walkBack 52 = .ok (.aload_n 0, 1) := by decide +kernel
theorem dX5_walkBack_53 : decode cX5_walkBack 53 = .ok (.getfield 57, 3) := by decide +kernel
theorem dX5_walkBack_56 : decode cX5_walkBack 56 = .ok (.iload_n 2, 1) := by decide +kernel
theorem dX5_walkBack_57 : decode cX5_walkBack 57 = .ok (.iload_n 3, 1) := by decide +kernel
theorem dX5_walkBack_58 : decode cX5_walkBack 58 = .ok (.invokevirtual 151, 3) := by decide +kernel
theorem dX5_walkBack_61 : decode cX5_walkBack 61 = .ok (.istore 5, 2) := by decide +kernel
theorem dX5_walkBack_63 : decode cX5_walkBack 63 = .ok (.iload 5, 2) := by decide +kernel
theorem dX5_walkBack_65 : decode cX5_walkBack 65 = .ok (.iconst 4, 1) := by decide +kernel
theorem dX5_walkBack_66 : decode cX5_walkBack 66 = .ok (.if_icmp .ne 7, 3) := by decide +kernel
theorem dX5_walkBack_69 : decode cX5_walkBack 69 = .ok (.iconst 2, 1) := by decide +kernel
theorem dX5_walkBack_70 : decode cX5_walkBack 70 = .ok (.goto 4, 3) := by decide +kernel
theorem dX5_walkBack_73 : decode cX5_walkBack 73 = .ok (.iconst 1, 1) := by decide +kernel
theorem dX5_walkBack_74 : decode cX5_walkBack 74 = .ok (.istore 6, 2) := by decide +kernel
theorem dX5_walkBack_76 : decode cX5_walkBack 76 = .ok (.iload 5, 2) := by decide +kernel
theorem dX5_walkBack_78 : decode cX5_walkBack 78 = .ok (.iconst 2, 1) := by decide +kernel
theorem dX5_walkBack_79 : decode cX5_walkBack 79 = .ok (.if_icmp .eq 8, 3) := by decide +kernel
theorem dX5_walkBack_82 : decode cX5_walkBack 82 = .ok (.iload_n 2, 1) := by decide +kernel
theorem dX5_walkBack_83 : decode cX5_walkBack 83 = .ok (.iload 6, 2) := by decide +kernel
theorem dX5_walkBack_85 : decode cX5_walkBack 85 = .ok (.isub, 1) := by decide +kernel
theorem dX5_walkBack_86 : decode cX5_walkBack 86 = .ok (.istore_n 2, 1) := by decide +kernel
theorem dX5_walkBack_87 : decode cX5_walkBack 87 = .ok (.iload 5, 2) := by decide +kernel
theorem dX5_walkBack_89 : decode cX5_walkBack 89 = .ok (.iconst 3, 1) := by decide +kernel
theorem dX5_walkBack_90 : decode cX5_walkBack 90 = .ok (.if_icmp .eq 8, 3) := by decide +kernel
theorem dX5_walkBack_93 : decode cX5_walkBack 93 = .ok (.iload_n 3, 1) := by decide +kernel
theorem dX5_walkBack_94 : decode cX5_walkBack 94 = .ok (.iload 6, 2) := by decide +kernel
theorem dX5_walkBack_96 : decode cX5_walkBack 96 = .ok (.isub, 1) := by decide +kernel
theorem dX5_walkBack_97 : decode cX5_walkBack 97 = .ok (.istore_n 3, 1) := by decide +kernel
theorem dX5_walkBack_98 : decode cX5_walkBack 98 = .ok (.aload_n 1, 1) := by decide +kernel
theorem dX5_walkBack_99 : decode cX5_walkBack 99 = .ok (.iload 5, 2) := by decide +kernel
theorem dX5_walkBack_101 : decode cX5_walkBack 101 = .ok (.invokevirtual 153, 3) := by decide +kernel
theorem dX5_walkBack_104 : decode cX5_walkBack 104 = .ok (.iinc 4 1, 3) := by decide +kernel
theorem dX5_walkBack_107 : decode cX5_walkBack 107 = .ok (.goto (-87), 3) := by decide +kernel
theorem dX5_walkBack_110 : decode cX5_walkBack 110 = .ok (.return_, 1) := by decide +kernel
theorem dX6_init_0 : decode cX6_init 0 = .ok (.aload_n 0, 1) := by decide +kernel
theorem dX6_init_1 : decode cX6_init 1 = .ok (.invokespecial 3, 3) := by decide +kernel
theorem dX6_init_4 : decode cX6_init 4 = .ok (.aload_n 0, 1) := by decide +kernel
theorem dX6_init_5 : decode cX6_init 5 = .ok (.new 9, 3) := by decide +kernel
theorem dX6_init_8 : decode cX6_init 8 = .ok (.dup, 1) := by decide +kernel
theorem dX6_init_9 : decode cX6_init 9 = .ok (.iconst 0, 1) := by decide +kernel
theorem dX6_init_10 : decode cX6_init 10 = .ok (.invokespecial 11, 3) := by decide +kernel
theorem dX6_init_13 : decode cX6_init 13 = .ok (.putfield 14, 3) := by decide +kernel
theorem dX6_init_16 : decode cX6_init 16 = .ok (.aload_n 0, 1) := by decide +kernel
theorem dX6_init_17 : decode cX6_init 17 = .ok (.sipush 201, 3) := by decide +kernel
theorem dX6_init_20 : decode cX6_init 20 = .ok (.newarray .int, 2) := by decide +kernel
theorem dX6_init_22 : decode cX6_init 22 = .ok (.putfield 20, 3) := by decide +kernel
theorem dX6_init_25 : decode cX6_init 25 = .ok (.aload_n 0, 1) := by decide +kernel
theorem dX6_init_26 : decode cX6_init 26 = .ok (.sipush 201, 3) := by decide +kernel
theorem dX6_init_29 : decode cX6_init 29 = .ok (.newarray .int, 2) := by decide +kernel
theorem dX6_init_31 : decode cX6_init 31 = .ok (.putfield 24, 3) := by decide +kernel
theorem dX6_init_34 : decode cX6_init 34 = .ok (.aload_n 0, 1) := by decide +kernel
theorem dX6_init_35 : decode cX6_init 35 = .ok (.sipush 201, 3) := by decide +kernel
theorem dX6_init_38 : decode cX6_init 38 = .ok (.newarray .int, 2) := by decide +kernel
theorem dX6_init_40 : decode cX6_init 40 = .ok (.putfield 27, 3) := by decide +kernel
theorem dX6_init_43 : decode cX6_init 43 = .ok (.aload_n 0, 1) := by decide +kernel
theorem dX6_init_44 : decode cX6_init 44 = .ok (.bipush 10, 2) := by decide +kernel
theorem dX6_init_46 : decode cX6_init 46 = .ok (.putfield 30, 3) := by decide +kernel
theorem dX6_init_49 : decode cX6_init 49 = .ok (.return_, 1) := by decide +kernel
theorem dX6_aim_0 : decode cX6_aim 0 = .ok (.aload_n 0, 1) := by decide +kernel
theorem dX6_aim_1 : decode cX6_aim 1 = .ok (.aload_n 1, 1) := by decide +kernel
theorem dX6_aim_2 : decode cX6_aim 2 = .ok (.putfield 14, 3) := by decide +kernel
theorem dX6_aim_5 : decode cX6_aim 5 = .ok (.aload_n 0, 1) := by decide +kernel
theorem dX6_aim_6 : decode cX6_aim 6 = .ok (.aload_n 1, 1) := by decide +kernel
theorem dX6_aim_7 : decode cX6_aim 7 = .ok (.getfield 34, 3) := by decide +kernel
theorem dX6_aim_10 : decode cX6_aim 10 = .ok (.sipush 200, 3) := by decide +kernel
theorem dX6_aim_13 : decode cX6_aim 13 = .ok (.invokestatic 37, 3) := by decide +kernel
theorem dX6_aim_16 : decode cX6_aim 16 = .ok (.putfield 43, 3) := by decide +kernel
theorem dX6_aim_19 : decode cX6_aim 19 = .ok (.aload_n 0, 1) := by decide +kernel
theorem dX6_aim_20 : decode cX6_aim 20 = .ok (.iload_n 2, 1) := by decide +kernel
theorem dX6_aim_21 : decode cX6_aim 21 = .ok (.putfield 46, 3) := by decide +kernel
theorem dX6_aim_24 : decode cX6_aim 24 = .ok (.aload_n 0, 1) := by decide +kernel
theorem dX6_aim_25 : decode cX6_aim 25 = .ok (.iload_n 3, 1) := by decide +kernel
theorem dX6_aim_26 : decode cX6_aim 26 = .ok (.putfield 49, 3) := by decide +kernel
theorem dX6_aim_29 : decode cX6_aim 29 = .ok (.return_, 1) := by decide +kernel
theorem dX6_tighten_0 : decode cX6_tighten 0 = .ok (.aload_n 0, 1) := by decide +kernel
theorem dX6_tighten_1 : decode cX6_tighten 1 = .ok (.iload_n 1, 1) := by decide +kernel
theorem dX6_tighten_2 : decode cX6_tighten 2 = .ok (.putfield 46, 3) := by decide +kernel
theorem dX6_tighten_5 : decode cX6_tighten 5 = .ok (.return_, 1) := by decide +kernel
theorem dX6_restart_0 : decode cX6_restart 0 = .ok (.aload_n 0, 1) := by decide +kernel
theorem dX6_restart_1 : decode cX6_restart 1 = .ok (.iload_n 1, 1) := by decide +kernel
theorem dX6_restart_2 : decode cX6_restart 2 = .ok (.putfield 53, 3) := by decide +kernel
theorem dX6_restart_5 : decode cX6_restart 5 = .ok (.aload_n 0, 1) := by decide +kernel
theorem dX6_restart_6 : decode cX6_restart 6 = .ok (.iconst 0, 1) := by decide +kernel
theorem dX6_restart_7 : decode cX6_restart 7 = .ok (.putfield 56, 3) := by decide +kernel
theorem dX6_restart_10 : decode cX6_restart 10 = .ok (.aload_n 0, 1) := by decide +kernel
theorem dX6_restart_11 : decode cX6_restart 11 = .ok (.iconst 0, 1) := by decide +kernel
theorem dX6_restart_12 : decode cX6_restart 12 = .ok (.aload_n 0, 1) := by decide +kernel
theorem dX6_restart_13 : decode cX6_restart 13 = .ok (.getfield 43, 3) := by decide +kernel
theorem dX6_restart_16 : decode cX6_restart 16 = .ok (.aload_n 0, 1) := by decide +kernel
theorem dX6_restart_17 : decode cX6_restart 17 = .ok (.getfield 46, 3) := by decide +kernel
theorem dX6_restart_20 : decode cX6_restart 20 = .ok (.invokestatic 37, 3) := by decide +kernel
theorem dX6_restart_23 : decode cX6_restart 23 = .ok (.invokestatic 59, 3) := by decide +kernel
theorem dX6_restart_26 : decode cX6_restart 26 = .ok (.putfield 62, 3) := by decide +kernel
theorem dX6_restart_29 : decode cX6_restart 29 = .ok (.iconst 0, 1) := by decide +kernel
theorem dX6_restart_30 : decode cX6_restart 30 = .ok (.istore_n 2, 1) := by decide +kernel
theorem dX6_restart_31 : decode cX6_restart 31 = .ok (.iload_n 2, 1) := by decide +kernel
theorem dX6_restart_32 : decode cX6_restart 32 = .ok (.aload_n 0, 1) := by decide +kernel
theorem dX6_restart_33 : decode cX6_restart 33 = .ok (.getfield 62, 3) := by decide +kernel
theorem dX6_restart_36 : decode cX6_restart 36 = .ok (.if_icmp .gt 20, 3) := by decide +kernel
theorem dX6_restart_39 : decode cX6_restart 39 = .ok (.aload_n 0, 1) := by decide +kernel
theorem dX6_restart_40 : decode cX6_restart 40 = .ok (.getfield 20, 3) := by decide +kernel
theorem dX6_restart_43 : decode cX6_restart 43 = .ok (.iload_n 2, 1) := by decide +kernel
theorem dX6_restart_44 : decode cX6_restart 44 = .ok (.iload_n 2, 1) := by decide +kernel
theorem dX6_restart_45 : decode cX6_restart 45 = .ok (.iload_n 1, 1) := by decide +kernel
theorem dX6_restart_46 : decode cX6_restart 46 = .ok (.invokestatic 65, 3) := by decide +kernel
theorem dX6_restart_49 : decode cX6_restart 49 = .ok (.iastore, 1) := by decide +kernel
theorem dX6_restart_50 : decode cX6_restart 50 = .ok (.iinc 2 1, 3) := by decide +kernel
theorem dX6_restart_53 : decode cX6_restart 53 = .ok (.goto (-22), 3) := by decide +kernel
theorem dX6_restart_56 : decode cX6_restart 56 = .ok (.aload_n 0, 1) := by decide +kernel
theorem dX6_restart_57 : decode cX6_restart 57 = .ok (.aload_n 0, 1) := by decide +kernel
theorem dX6_restart_58 : decode cX6_restart 58 = .ok (.getfield 62, 3) := by decide +kernel
theorem dX6_restart_61 : decode cX6_restart 61 = .ok (.invokevirtual 68, 3) := by decide +kernel
theorem dX6_restart_64 : decode cX6_restart 64 = .ok (.return_, 1) := by decide +kernel
theorem dX6_feed_0 : decode cX6_feed 0 = .ok (.aload_n 0, 1) := by decide +kernel
theorem dX6_feed_1 : decode cX6_feed 1 = .ok (.getfield 27, 3) := by decide +kernel
theorem dX6_feed_4 : decode cX6_feed 4 = .ok (.astore_n 2, 1) := by decide +kernel
theorem dX6_feed_5 : decode cX6_feed 5 = .ok (.aload_n 0, 1) := by decide +kernel
theorem dX6_feed_6 : decode cX6_feed 6 = .ok (.aload_n 0, 1) := by decide +kernel
theorem dX6_feed_7 : decode cX6_feed 7 = .ok (.getfield 24, 3) := by decide +kernel
theorem dX6_feed_10 : decode cX6_feed 10 = .ok (.putfield 27, 3) := by decide +kernel
theorem dX6_feed_13 : decode cX6_feed 13 = .ok (.aload_n 0, 1) := by decide +kernel
theorem dX6_feed_14 : decode cX6_feed 14 = .ok (.aload_n 0, 1) := by decide +kernel
theorem dX6_feed_15 : decode cX6_feed 15 = .ok (.getfield 20, 3) := by decide +kernel
theorem dX6_feed_18 : decode cX6_feed 18 = .ok (.putfield 24, 3) := by decide +kernel
theorem dX6_feed_21 : decode cX6_feed 21 = .ok (.aload_n 0, 1) := by decide +kernel
theorem dX6_feed_22 : decode cX6_feed 22 = .ok (.aload_n 2, 1) := by decide +kernel
theorem dX6_feed_23 : decode cX6_feed 23 = .ok (.putfield 20, 3) := by decide +kernel
theorem dX6_feed_26 : decode cX6_feed 26 = .ok (.aload_n 0, 1) := by decide +kernel
theorem dX6_feed_27 : decode cX6_feed 27 = .ok (.dup, 1) := by decide +kernel
theorem dX6_feed_28 : decode cX6_feed 28 = .ok (.getfield 53, 3) := by decide +kernel
theorem dX6_feed_31 : decode cX6_feed 31 = .ok (.iconst 1, 1) := by decide +kernel
theorem dX6_feed_32 : decode cX6_feed 32 = .ok (.iadd, 1) := by decide +kernel
theorem dX6_feed_33 : decode cX6_feed 33 = .ok (.putfield 53, 3) := by decide +kernel
theorem dX6_feed_36 : decode cX6_feed 36 = .ok (.aload_n 0, 1) := by decide +kernel
theorem dX6_feed_37 : decode cX6_feed 37 = .ok (.dup, 1) := by decide +kernel
theorem dX6_feed_38 : decode cX6_feed 38 = .ok (.getfield 56, 3) := by decide +kernel
theorem dX6_feed_41 : decode cX6_feed 41 = .ok (.iconst 1, 1) := by decide +kernel
theorem dX6_feed_42 : decode cX6_feed 42 = .ok (.iadd, 1) := by decide +kernel
theorem dX6_feed_43 : decode cX6_feed 43 = .ok (.putfield 56, 3) := by decide +kernel
theorem dX6_feed_46 : decode cX6_feed 46 = .ok (.aload_n 0, 1) := by decide +kernel
theorem dX6_feed_47 : decode cX6_feed 47 = .ok (.getfield 43, 3) := by decide +kernel
theorem dX6_feed_50 : decode cX6_feed 50 = .ok (.aload_n 0, 1) := by decide +kernel
theorem dX6_feed_51 : decode cX6_feed 51 = .ok (.getfield 62, 3) := by decide +kernel
theorem dX6_feed_54 : decode cX6_feed 54 = .ok (.iconst 1, 1) := by decide +kernel
theorem dX6_feed_55 : decode cX6_feed 55 = .ok (.iadd, 1) := by decide +kernel
theorem dX6_feed_56 : decode cX6_feed 56 = .ok (.invokestatic 37, 3) := by decide +kernel
theorem dX6_feed_59 : decode cX6_feed 59 = .ok (.istore_n 3, 1) := by decide +kernel
theorem dX6_feed_60 : decode cX6_feed 60 = .ok (.aload_n 0, 1) := by decide +kernel
theorem dX6_feed_61 : decode cX6_feed 61 = .ok (.iload_n 1, 1) := by decide +kernel
theorem dX6_feed_62 : decode cX6_feed 62 = .ok (.iload_n 3, 1) := by decide +kernel
theorem dX6_feed_63 : decode cX6_feed 63 = .ok (.invokevirtual 71, 3) := by decide +kernel
theorem dX6_feed_66 : decode cX6_feed 66 = .ok (.aload_n 0, 1) := by decide +kernel
theorem dX6_feed_67 : decode cX6_feed 67 = .ok (.iload_n 3, 1) := by decide +kernel
theorem dX6_feed_68 : decode cX6_feed 68 = .ok (.invokevirtual 68, 3) := by decide +kernel
theorem dX6_feed_71 : decode cX6_feed 71 = .ok (.aload_n 0, 1) := by decide +kernel
theorem dX6_feed_72 : decode cX6_feed 72 = .ok (.iload_n 3, 1) := by decide +kernel
theorem dX6_feed_73 : decode cX6_feed 73 = .ok (.invokevirtual 75, 3) := by decide +kernel
theorem dX6_feed_76 : decode cX6_feed 76 = .ok (.aload_n 0, 1) := by decide +kernel
theorem dX6_feed_77 : decode cX6_feed 77 = .ok (.iload_n 1, 1) := by decide +kernel
theorem dX6_feed_78 : decode cX6_feed 78 = .ok (.putfield 30, 3) := by decide +kernel
theorem dX6_feed_81 : decode cX6_feed 81 = .ok (.return_, 1) := by decide +kernel
theorem dX6_isHit_0 : decode cX6_isHit 0 = .ok (.aload_n 0, 1) := by decide +kernel
theorem dX6_isHit_1 : decode cX6_isHit 1 = .ok (.getfield 62, 3) := by decide +kernel
theorem dX6_isHit_4 : decode cX6_isHit 4 = .ok (.aload_n 0, 1) := by decide +kernel
theorem dX6_isHit_5 : decode cX6_isHit 5 = .ok (.getfield 43, 3) := by decide +kernel
theorem dX6_isHit_8 : decode cX6_isHit 8 = .ok (.if_icmp .ne 7, 3) := by decide +kernel
theorem dX6_isHit_11 : decode cX6_isHit 11 = .ok (.iconst 1, 1) := by decide +kernel
theorem dX6_isHit_12 : decode cX6_isHit 12 = .ok (.goto 4, 3) := by decide +kernel
theorem dX6_isHit_15 : decode cX6_isHit 15 = .ok (.iconst 0, 1) := by decide +kernel
theorem dX6_isHit_16 : decode cX6_isHit 16 = .ok (.ireturn, 1) := by decide +kernel
theorem dX6_edits_0 : decode cX6_edits 0 = .ok (.aload_n 0, 1) := by decide +kernel
theorem dX6_edits_1 : decode cX6_edits 1 = .ok (.getfield 20, 3) := by decide +kernel
theorem dX6_edits_4 : decode cX6_edits 4 = .ok (.aload_n 0, 1) := by decide +kernel
theorem dX6_edits_5 : decode cX6_edits 5 = .ok (.getfield 43, 3) := by decide +kernel
theorem dX6_edits_8 : decode cX6_edits 8 = .ok (.iaload, 1) := by decide +kernel
theorem dX6_edits_9 : decode cX6_edits 9 = .ok (.sipush 2048, 3) := by decide +kernel
theorem dX6_edits_12 : decode cX6_edits 12 = .ok (.idiv, 1) := by decide +kernel
theorem dX6_edits_13 : decode cX6_edits 13 = .ok (.ireturn, 1) := by decide +kernel
theorem dX6_beginning_0 : decode cX6_beginning 0 = .ok (.sipush 2047, 3) := by decide +kernel
theorem dX6_beginning_3 : decode cX6_beginning 3 = .ok (.aload_n 0, 1) := by decide +kernel
theorem dX6_beginning_4 : decode cX6_beginning 4 = .ok (.getfield 20, 3) := by decide +kernel
theorem dX6_beginning_7 : decode cX6_beginning 7 = .ok (.aload_n 0, 1) := by decide +kernel
theorem dX6_beginning_8 : decode cX6_beginning 8 = .ok (.getfield 43, 3) := by decide +kernel
theorem dX6_beginning_11 : decode cX6_beginning 11 = .ok (.iaload, 1) := by decide +kernel
theorem dX6_beginning_12 : decode cX6_beginning 12 = .ok (.sipush 2048, 3) := by decide +kernel
theorem dX6_beginning_15 : decode cX6_beginning 15 = .ok (.irem, 1) := by decide +kernel
theorem dX6_beginning_16 : decode cX6_beginning 16 = .ok (.isub, 1) := by decide +kernel
theorem dX6_beginning_17 : decode cX6_beginning 17 = .ok (.ireturn, 1) := by decide +kernel
theorem dX6_number_0 : decode cX6_number 0 = .ok (.iload_n 0, 1) := by decide +kernel
theorem dX6_number_1 : decode cX6_number 1 = .ok (.sipush 2048, 3) := by decide +kernel
theorem dX6_number_4 : decode cX6_number 4 = .ok (.imul, 1) := by decide +kernel
theorem dX6_number_5 : decode cX6_number 5 = .ok (.sipush 2047, 3) := by decide +kernel
theorem dX6_number_8 : decode cX6_number 8 = .ok (.iload_n 1, 1) := by decide +kernel
theorem dX6_number_9 : decode cX6_number 9 = .ok (.isub, 1) := by decide +kernel
theorem dX6_number_10 : decode cX6_number 10 = .ok (.iadd, 1) := by decide +kernel
theorem dX6_number_11 : decode cX6_number 11 = .ok (.ireturn, 1) := by decide +kernel
theorem dX6_fillColumn_0 : decode cX6_fillColumn 0 = .ok (.aload_n 0, 1) := by decide +kernel
theorem dX6_fillColumn_1 : decode cX6_fillColumn 1 = .ok (.getfield 14, 3) := by decide +kernel
theorem dX6_fillColumn_4 : decode cX6_fillColumn 4 = .ok (.iload_n 1, 1) := by decide +kernel
theorem dX6_fillColumn_5 : decode cX6_fillColumn 5 = .ok (.invokevirtual 78, 3) := by decide +kernel
theorem dX6_fillColumn_8 : decode cX6_fillColumn 8 = .ok (.astore_n 3, 1) := by decide +kernel
theorem dX6_fillColumn_9 : decode cX6_fillColumn 9 = .ok (.aload_n 0, 1) := by decide +kernel
theorem dX6_fillColumn_10 : decode cX6_fillColumn 10 = .ok (.getfield 14, 3) := by decide +kernel
theorem dX6_fillColumn_13 : decode cX6_fillColumn 13 = .ok (.aload_n 0, 1) := by decide +kernel
theorem dX6_fillColumn_14 : decode cX6_fillColumn 14 = .ok (.getfield 30, 3) := by decide +kernel
theorem dX6_fillColumn_17 : decode cX6_fillColumn 17 = .ok (.invokevirtual 78, 3) := by decide +kernel
theorem dX6_fillColumn_20 : decode cX6_fillColumn 20 = .ok (.astore 4, 2) := by decide +kernel
theorem dX6_fillColumn_22 : decode cX6_fillColumn 22 = .ok (.aload_n 0, 1) := by decide +kernel
theorem dX6_fillColumn_23 : decode cX6_fillColumn 23 = .ok (.getfield 49, 3) := by decide +kernel
theorem dX6_fillColumn_26 : decode cX6_fillColumn 26 = .ok (.ifCond .eq 15, 3) := by decide +kernel
theorem dX6_fillColumn_29 : decode cX6_fillColumn 29 = .ok (.aload_n 0, 1) := by decide +kernel
theorem dX6_fillColumn_30 : decode cX6_fillColumn 30 = .ok (.getfield 56, 3) := by decide +kernel
theorem dX6_fillColumn_33 : decode cX6_fillColumn 33 = .ok (.iconst 1, 1) := by decide +kernel
theorem dX6_fillColumn_34 : decode cX6_fillColumn 34 = .ok (.if_icmp .le 7, 3) := by decide +kernel
theorem dX6_fillColumn_37 : decode cX6_fillColumn 37 = .ok (.iconst 1, 1) := by decide +kernel
theorem dX6_fillColumn_38 : decode cX6_fillColumn 38 = .ok (.goto 4, 3) := by decide +kernel
theorem dX6_fillColumn_41 : decode cX6_fillColumn 41 = .ok (.iconst 0, 1) := by decide +kernel
theorem dX6_fillColumn_42 : decode cX6_fillColumn 42 = .ok (.istore 5, 2) := by decide +kernel
theorem dX6_fillColumn_44 : decode cX6_fillColumn 44 = .ok (.aload_n 0, 1) := by decide +kernel
theorem dX6_fillColumn_45 : decode cX6_fillColumn 45 = .ok (.getfield 20, 3) := by decide +kernel
theorem dX6_fillColumn_48 : decode cX6_fillColumn 48 = .ok (.iconst 0, 1) := by decide +kernel
theorem dX6_fillColumn_49 : decode cX6_fillColumn 49 = .ok (.iconst 0, 1) := by decide +kernel
theorem dX6_fillColumn_50 : decode cX6_fillColumn 50 = .ok (.aload_n 0, 1) := by decide +kernel
theorem dX6_fillColumn_51 : decode cX6_fillColumn 51 = .ok (.getfield 53, 3) := by decide +kernel
theorem dX6_fillColumn_54 : decode cX6_fillColumn 54 = .ok (.invokestatic 65, 3) := by decide +kernel
theorem dX6_fillColumn_57 : decode cX6_fillColumn 57 = .ok (.iastore, 1) := by decide +kernel
theorem dX6_fillColumn_58 : decode cX6_fillColumn 58 = .ok (.iconst 1, 1) := by decide +kernel
theorem dX6_fillColumn_59 : decode cX6_fillColumn 59 = .ok (.istore 6, 2) := by decide +kernel
theorem dX6_fillColumn_61 : decode cX6_fillColumn 61 = .ok (.iload 6, 2) := by decide +kernel
theorem dX6_fillColumn_63 : decode cX6_fillColumn 63 = .ok (.iload_n 2, 1) := by decide +kernel
theorem dX6_fillColumn_64 : decode cX6_fillColumn 64 = .ok (.if_icmp .gt 155, 3) := by decide +kernel
theorem dX6_fillColumn_67 : decode cX6_fillColumn 67 = .ok (.aload_n 0, 1) := by decide +kernel
theorem dX6_fillColumn_68 : decode cX6_fillColumn 68 = .ok (.getfield 24, 3) := by decide +kernel
theorem dX6_fillColumn_71 : decode cX6_fillColumn 71 = .ok (.iload 6, 2) := by decide +kernel
theorem dX6_fillColumn_73 : decode cX6_fillColumn 73 = .ok (.iaload, 1) := by decide +kernel
theorem dX6_fillColumn_74 : decode cX6_fillColumn 74 = .ok (.aload_n 0, 1) := by decide +kernel
theorem dX6_fillColumn_75 : decode cX6_fillColumn 75 = .ok (.getfield 20, 3) := by decide +kernel
theorem dX6_fillColumn_78 : decode cX6_fillColumn 78 = .ok (.iload 6, 2) := by decide +kernel
theorem dX6_fillColumn_80 : decode cX6_fillColumn 80 = .ok (.iconst 1, 1) := by decide +kernel
theorem dX6_fillColumn_81 : decode cX6_fillColumn 81 = .ok (.isub, 1) := by decide +kernel
theorem dX6_fillColumn_82 : decode cX6_fillColumn 82 = .ok (.iaload, 1) := by decide +kernel
theorem dX6_fillColumn_83 : decode cX6_fillColumn 83 = .ok (.invokestatic 37, 3) := by decide +kernel
theorem dX6_fillColumn_86 : decode cX6_fillColumn 86 = .ok (.sipush 2048, 3) := by decide +kernel
theorem dX6_fillColumn_89 : decode cX6_fillColumn 89 = .ok (.iadd, 1) := by decide +kernel
theorem dX6_fillColumn_90 : decode cX6_fillColumn 90 = .ok (.istore 7, 2) := by decide +kernel
theorem dX6_fillColumn_92 : decode cX6_fillColumn 92 = .ok (.iload 7, 2) := by decide +kernel
theorem dX6_fillColumn_94 : decode cX6_fillColumn 94 = .ok (.aload_n 3, 1) := by decide +kernel
theorem dX6_fillColumn_95 : decode cX6_fillColumn 95 = .ok (.iload 6, 2) := by decide +kernel
theorem dX6_fillColumn_97 : decode cX6_fillColumn 97 = .ok (.iconst 1, 1) := by decide +kernel
theorem dX6_fillColumn_98 : decode cX6_fillColumn 98 = .ok (.isub, 1) := by decide +kernel
theorem dX6_fillColumn_99 : decode cX6_fillColumn 99 = .ok (.laload, 1) := by decide +kernel
theorem dX6_fillColumn_100 : decode cX6_fillColumn 100 = .ok (.iload_n 1, 1) := by decide +kernel
theorem dX6_fillColumn_101 : decode cX6_fillColumn 101 = .ok (.lushr, 1) := by decide +kernel
theorem dX6_fillColumn_102 : decode cX6_fillColumn 102 = .ok (.lconst 1, 1) := by decide +kernel
theorem dX6_fillColumn_103 : decode cX6_fillColumn 103 = .ok (.land, 1) := by decide +kernel
theorem dX6_fillColumn_104 : decode cX6_fillColumn 104 = .ok (.lconst 0, 1) := by decide +kernel
theorem dX6_fillColumn_105 : decode cX6_fillColumn 105 = .ok (.lcmp, 1) := by decide +kernel
theorem dX6_fillColumn_106 : decode cX6_fillColumn 106 = .ok (.ifCond .eq 15, 3) := by decide +kernel
theorem dX6_fillColumn_109 : decode cX6_fillColumn 109 = .ok (.aload_n 0, 1) := by decide +kernel
theorem dX6_fillColumn_110 : decode cX6_fillColumn 110 = .ok (.getfield 24, 3) := by decide +kernel
theorem dX6_fillColumn_113 : decode cX6_fillColumn 113 = .ok (.iload 6, 2) := by decide +kernel
theorem dX6_fillColumn_115 : decode cX6_fillColumn 115 = .ok (.iconst 1, 1) := by decide +kernel
theorem dX6_fillColumn_116 : decode cX6_fillColumn 116 = .ok (.isub, 1) := by decide +kernel
theorem dX6_fillColumn_117 : decode cX6_fillColumn 117 = .ok (.iaload, 1) := by decide +kernel
theorem dX6_fillColumn_118 : decode cX6_fillColumn 118 = .ok (.goto 16, 3) := by decide +kernel
theorem dX6_fillColumn_121 : decode cX6_fillColumn 121 = .ok (.aload_n 0, 1) := by decide +kernel
theorem dX6_fillColumn_122 : decode cX6_fillColumn 122 = .ok (.getfield 24, 3) := by decide +kernel
theorem dX6_fillColumn_125 : decode cX6_fillColumn 125 = .ok (.iload 6, 2) := by decide +kernel
theorem dX6_fillColumn_127 : decode cX6_fillColumn 127 = .ok (.iconst 1, 1) := by decide +kernel
theorem dX6_fillColumn_128 : decode cX6_fillColumn 128 = .ok (.isub, 1) := by decide +kernel
theorem dX6_fillColumn_129 : decode cX6_fillColumn 129 = .ok (.iaload, 1) := by decide +kernel
theorem dX6_fillColumn_130 : decode cX6_fillColumn 130 = .ok (.sipush 2048, 3) := by decide +kernel
theorem dX6_fillColumn_133 : decode cX6_fillColumn 133 = .ok (.iadd, 1) := by decide +kernel
theorem dX6_fillColumn_134 : decode cX6_fillColumn 134 = .ok (.invokestatic 37, 3) := by decide +kernel
theorem dX6_fillColumn_137 : decode cX6_fillColumn 137 = .ok (.istore 7, 2) := by decide +kernel
theorem dX6_fillColumn_139 : decode cX6_fillColumn 139 = .ok (.iload 5, 2) := by decide +kernel
theorem dX6_fillColumn_141 : decode cX6_fillColumn 141 = .ok (.ifCond .eq 63, 3) := by decide +kernel
theorem dX6_fillColumn_144 : decode cX6_fillColumn 144 = .ok (.iload 6, 2) := by decide +kernel
theorem dX6_fillColumn_146 : decode cX6_fillColumn 146 = .ok (.iconst 1, 1) := by decide +kernel
theorem dX6_fillColumn_147 : decode cX6_fillColumn 147 = .ok (.if_icmp .le 57, 3) := by decide +kernel
theorem dX6_fillColumn_150 : decode cX6_fillColumn 150 = .ok (.aload_n 3, 1) := by decide +kernel
theorem dX6_fillColumn_151 : decode cX6_fillColumn 151 = .ok (.iload 6, 2) := by decide +kernel
theorem dX6_fillColumn_153 : decode cX6_fillColumn 153 = .ok (.iconst 2, 1) := by decide +kernel
theorem dX6_fillColumn_154 : decode cX6_fillColumn 154 = .ok (.isub, 1) := by decide +kernel
theorem dX6_fillColumn_155 : decode cX6_fillColumn 155 = .ok (.laload, 1) := by decide +kernel
theorem dX6_fillColumn_156 : decode cX6_fillColumn 156 = .ok (.iload_n 1, 1) := by decide +kernel
theorem dX6_fillColumn_157 : decode cX6_fillColumn 157 = .ok (.lushr, 1) := by decide +kernel
theorem dX6_fillColumn_158 : decode cX6_fillColumn 158 = .ok (.lconst 1, 1) := by decide +kernel
theorem dX6_fillColumn_159 : decode cX6_fillColumn 159 = .ok (.land, 1) := by decide +kernel
theorem dX6_fillColumn_160 : decode cX6_fillColumn 160 = .ok (.lconst 0, 1) := by decide +kernel
theorem dX6_fillColumn_161 : decode cX6_fillColumn 161 = .ok (.lcmp, 1) := by decide +kernel
theorem dX6_fillColumn_162 : decode cX6_fillColumn 162 = .ok (.ifCond .eq 42, 3) := by decide +kernel
theorem dX6_fillColumn_165 : decode cX6_fillColumn 165 = .ok (.aload 4, 2) := by decide +kernel
theorem dX6_fillColumn_167 : decode cX6_fillColumn 167 = .ok (.iload 6, 2) := by decide +kernel
theorem dX6_fillColumn_169 : decode cX6_fillColumn 169 = .ok (.iconst 1, 1) := by decide +kernel
theorem dX6_fillColumn_170 : decode cX6_fillColumn 170 = .ok (.isub, 1) := by decide +kernel
theorem dX6_fillColumn_171 : decode cX6_fillColumn 171 = .ok (.laload, 1) := by decide +kernel
theorem dX6_fillColumn_172 : decode cX6_fillColumn 172 = .ok (.aload_n 0, 1) := by decide +kernel
theorem dX6_fillColumn_173 : decode cX6_fillColumn 173 = .ok (.getfield 30, 3) := by decide +kernel
theorem dX6_fillColumn_176 : decode cX6_fillColumn 176 = .ok (.lushr, 1) := by decide +kernel
theorem dX6_fillColumn_177 : decode cX6_fillColumn 177 = .ok (.lconst 1, 1) := by decide +kernel
theorem dX6_fillColumn_178 : decode cX6_fillColumn 178 = .ok (.land, 1) := by decide +kernel
theorem dX6_fillColumn_179 : decode cX6_fillColumn 179 = .ok (.lconst 0, 1) := by decide +kernel
theorem dX6_fillColumn_180 : decode cX6_fillColumn 180 = .ok (.lcmp, 1) := by decide +kernel
theorem dX6_fillColumn_181 : decode cX6_fillColumn 181 = .ok (.ifCond .eq 23, 3) := by decide +kernel
theorem dX6_fillColumn_184 : decode cX6_fillColumn 184 = .ok (.iload 7, 2) := by decide +kernel
theorem dX6_fillColumn_186 : decode cX6_fillColumn 186 = .ok (.aload_n 0, 1) := by decide +kernel
theorem dX6_fillColumn_187 : decode cX6_fillColumn 187 = .ok (.getfield 27, 3) := by decide +kernel
theorem dX6_fillColumn_190 : decode cX6_fillColumn 190 = .ok (.iload 6, 2) := by decide +kernel
theorem dX6_fillColumn_192 : decode cX6_fillColumn 192 = .ok (.iconst 2, 1) := by decide +kernel
theorem dX6_fillColumn_193 : decode cX6_fillColumn 193 = .ok (.isub, 1) := by decide +kernel
theorem dX6_fillColumn_194 : decode cX6_fillColumn 194 = .ok (.iaload, 1) := by decide +kernel
theorem dX6_fillColumn_195 : decode cX6_fillColumn 195 = .ok (.sipush 2048, 3) := by decide +kernel
theorem dX6_fillColumn_198 : decode cX6_fillColumn 198 = .ok (.iadd, 1) := by decide +kernel
theorem dX6_fillColumn_199 : decode cX6_fillColumn 199 = .ok (.invokestatic 37, 3) := by decide +kernel
theorem dX6_fillColumn_202 : decode cX6_fillColumn 202 = .ok (.istore 7, 2) := by decide +kernel
theorem dX6_fillColumn_204 : decode cX6_fillColumn 204 = .ok (.aload_n 0, 1) := by decide +kernel
theorem dX6_fillColumn_205 : decode cX6_fillColumn 205 = .ok (.getfield 20, 3) := by decide +kernel
theorem dX6_fillColumn_208 : decode cX6_fillColumn 208 = .ok (.iload 6, 2) := by decide +kernel
theorem dX6_fillColumn_210 : decode cX6_fillColumn 210 = .ok (.iload 7, 2) := by decide +kernel
theorem dX6_fillColumn_212 : decode cX6_fillColumn 212 = .ok (.iastore, 1) := by decide +kernel
theorem dX6_fillColumn_213 : decode cX6_fillColumn 213 = .ok (.iinc 6 1, 3) := by decide +kernel
theorem dX6_fillColumn_216 : decode cX6_fillColumn 216 = .ok (.goto (-155), 3) := by decide +kernel
theorem dX6_fillColumn_219 : decode cX6_fillColumn 219 = .ok (.return_, 1) := by decide +kernel
theorem dX6_closeAbove_0 : decode cX6_closeAbove 0 = .ok (.iload_n 1, 1) := by decide +kernel
theorem dX6_closeAbove_1 : decode cX6_closeAbove 1 = .ok (.aload_n 0, 1) := by decide +kernel
theorem dX6_closeAbove_2 : decode cX6_closeAbove 2 = .ok (.getfield 43, 3) := by decide +kernel
theorem dX6_closeAbove_5 : decode cX6_closeAbove 5 = .ok (.if_icmp .ge 13, 3) := by decide +kernel
theorem dX6_closeAbove_8 : decode cX6_closeAbove 8 = .ok (.aload_n 0, 1) := by decide +kernel
theorem dX6_closeAbove_9 : decode cX6_closeAbove 9 = .ok (.getfield 20, 3) := by decide +kernel
theorem dX6_closeAbove_12 : decode cX6_closeAbove 12 = .ok (.iload_n 1, 1) := by decide +kernel
theorem dX6_closeAbove_13 : decode cX6_closeAbove 13 = .ok (.iconst 1, 1) := by decide +kernel
theorem dX6_closeAbove_14 : decode cX6_closeAbove 14 = .ok (.iadd, 1) := by decide +kernel
theorem dX6_closeAbove_15 : decode cX6_closeAbove 15 = .ok (.ldc 82, 2) := by decide +kernel
theorem dX6_closeAbove_17 : decode cX6_closeAbove 17 = .ok (.iastore, 1) := by decide +kernel
theorem dX6_closeAbove_18 : decode cX6_closeAbove 18 = .ok (.return_, 1) := by decide +kernel
theorem dX6_lowerTop_0 : decode cX6_lowerTop 0 = .ok (.aload_n 0, 1) := by decide +kernel
theorem dX6_lowerTop_1 : decode cX6_lowerTop 1 = .ok (.iload_n 1, 1) := by decide +kernel
theorem dX6_lowerTop_2 : decode cX6_lowerTop 2 = .ok (.putfield 62, 3) := by decide +kernel
theorem dX6_lowerTop_5 : decode cX6_lowerTop 5 = .ok (.aload_n 0, 1) := by decide +kernel
theorem dX6_lowerTop_6 : decode cX6_lowerTop 6 = .ok (.getfield 62, 3) := by decide +kernel
theorem dX6_lowerTop_9 : decode cX6_lowerTop 9 = .ok (.ifCond .le 36, 3) := by decide +kernel
theorem dX6_lowerTop_12 : decode cX6_lowerTop 12 = .ok (.aload_n 0, 1) := by decide +kernel
theorem dX6_lowerTop_13 : decode cX6_lowerTop 13 = .ok (.getfield 20, 3) := by decide +kernel
theorem dX6_lowerTop_16 : decode cX6_lowerTop 16 = .ok (.aload_n 0, 1) := by decide +kernel
theorem dX6_lowerTop_17 : decode cX6_lowerTop 17 = .ok (.getfield 62, 3) := by decide +kernel
theorem dX6_lowerTop_20 : decode cX6_lowerTop 20 = .ok (.iaload, 1) := by decide +kernel
theorem dX6_lowerTop_21 : decode cX6_lowerTop 21 = .ok (.sipush 2048, 3) := by decide +kernel
theorem dX6_lowerTop_24 : decode cX6_lowerTop 24 = .ok (.idiv, 1) := by decide +kernel
theorem dX6_lowerTop_25 : decode cX6_lowerTop 25 = .ok (.aload_n 0, 1) := by decide +kernel
theorem dX6_lowerTop_26 : decode cX6_lowerTop 26 = .ok (.getfield 46, 3) := by decide +kernel
theorem dX6_lowerTop_29 : decode cX6_lowerTop 29 = .ok (.if_icmp .le 16, 3) := by decide +kernel
theorem dX6_lowerTop_32 : decode cX6_lowerTop 32 = .ok (.aload_n 0, 1) := by decide +kernel
theorem dX6_lowerTop_33 : decode cX6_lowerTop 33 = .ok (.dup, 1) := by decide +kernel
theorem dX6_lowerTop_34 : decode cX6_lowerTop 34 = .ok (.getfield 62, 3) := by decide +kernel
theorem dX6_lowerTop_37 : decode cX6_lowerTop 37 = .ok (.iconst 1, 1) := by decide +kernel
theorem dX6_lowerTop_38 : decode cX6_lowerTop 38 = .ok (.isub, 1) := by decide +kernel
theorem dX6_lowerTop_39 : decode cX6_lowerTop 39 = .ok (.putfield 62, 3) := by decide +kernel
theorem dX6_lowerTop_42 : decode cX6_lowerTop 42 = .ok (.goto (-37), 3) := by decide +kernel
theorem dX6_lowerTop_45 : decode cX6_lowerTop 45 = .ok (.return_, 1) := by decide +kernel
theorem dX7_init_0 : decode cX7_init 0 = .ok (.aload_n 0, 1) := by decide +kernel
theorem dX7_init_1 : decode cX7_init 1 = .ok (.invokespecial 1, 3) := by decide +kernel
theorem dX7_init_4 : decode cX7_init 4 = .ok (.aload_n 0, 1) := by decide +kernel
theorem dX7_init_5 : decode cX7_init 5 = .ok (.iload_n 1, 1) := by decide +kernel
theorem dX7_init_6 : decode cX7_init 6 = .ok (.iconst 0, 1) := by decide +kernel
theorem dX7_init_7 : decode cX7_init 7 = .ok (.invokestatic 7, 3) := by decide +kernel
theorem dX7_init_10 : decode cX7_init 10 = .ok (.newarray .long, 2) := by decide +kernel
theorem dX7_init_12 : decode cX7_init 12 = .ok (.putfield 13, 3) := by decide +kernel
theorem dX7_init_15 : decode cX7_init 15 = .ok (.aload_n 0, 1) := by decide +kernel
theorem dX7_init_16 : decode cX7_init 16 = .ok (.iload_n 1, 1) := by decide +kernel
theorem dX7_init_17 : decode cX7_init 17 = .ok (.iconst 0, 1) := by decide +kernel
theorem dX7_init_18 : decode cX7_init 18 = .ok (.invokestatic 7, 3) := by decide +kernel
theorem dX7_init_21 : decode cX7_init 21 = .ok (.newarray .long, 2) := by decide +kernel
theorem dX7_init_23 : decode cX7_init 23 = .ok (.putfield 19, 3) := by decide +kernel
theorem dX7_init_26 : decode cX7_init 26 = .ok (.return_, 1) := by decide +kernel
theorem dX7_clear_0 : decode cX7_clear 0 = .ok (.aload_n 0, 1) := by decide +kernel
theorem dX7_clear_1 : decode cX7_clear 1 = .ok (.iconst 0, 1) := by decide +kernel
theorem dX7_clear_2 : decode cX7_clear 2 = .ok (.putfield 22, 3) := by decide +kernel
theorem dX7_clear_5 : decode cX7_clear 5 = .ok (.return_, 1) := by decide +kernel
theorem dX7_add_0 : decode cX7_add 0 = .ok (.aload_n 0, 1) := by decide +kernel
theorem dX7_add_1 : decode cX7_add 1 = .ok (.getfield 22, 3) := by decide +kernel
theorem dX7_add_4 : decode cX7_add 4 = .ok (.aload_n 0, 1) := by decide +kernel
theorem dX7_add_5 : decode cX7_add 5 = .ok (.getfield 13, 3) := by decide +kernel
theorem dX7_add_8 : decode cX7_add 8 = .ok (.arraylength, 1) := by decide +kernel
theorem dX7_add_9 : decode cX7_add 9 = .ok (.if_icmp .ge 33, 3) := by decide +kernel
theorem dX7_add_12 : decode cX7_add 12 = .ok (.aload_n 0, 1) := by decide +kernel
theorem dX7_add_13 : decode cX7_add 13 = .ok (.getfield 13, 3) := by decide +kernel
theorem dX7_add_16 : decode cX7_add 16 = .ok (.aload_n 0, 1) := by decide +kernel
theorem dX7_add_17 : decode cX7_add 17 = .ok (.getfield 22, 3) := by decide +kernel
theorem dX7_add_20 : decode cX7_add 20 = .ok (.lload_n 1, 1) := by decide +kernel
theorem dX7_add_21 : decode cX7_add 21 = .ok (.lastore, 1) := by decide +kernel
theorem dX7_add_22 : decode cX7_add 22 = .ok (.aload_n 0, 1) := by decide +kernel
theorem dX7_add_23 : decode cX7_add 23 = .ok (.getfield 19, 3) := by decide +kernel
theorem dX7_add_26 : decode cX7_add 26 = .ok (.aload_n 0, 1) := by decide +kernel
theorem dX7_add_27 : decode cX7_add 27 = .ok (.getfield 22, 3) := by decide +kernel
theorem dX7_add_30 : decode cX7_add 30 = .ok (.lload_n 3, 1) := by decide +kernel
theorem dX7_add_31 : decode cX7_add 31 = .ok (.lastore, 1) := by decide +kernel
theorem dX7_add_32 : decode cX7_add 32 = .ok (.aload_n 0, 1) := by decide +kernel
theorem dX7_add_33 : decode cX7_add 33 = .ok (.dup, 1) := by decide +kernel
theorem dX7_add_34 : decode cX7_add 34 = .ok (.getfield 22, 3) := by decide +kernel
theorem dX7_add_37 : decode cX7_add 37 = .ok (.iconst 1, 1) := by decide +kernel
theorem dX7_add_38 : decode cX7_add 38 = .ok (.iadd, 1) := by decide +kernel
theorem dX7_add_39 : decode cX7_add 39 = .ok (.putfield 22, 3) := by decide +kernel
theorem dX7_add_42 : decode cX7_add 42 = .ok (.return_, 1) := by decide +kernel
theorem dX7_holds_0 : decode cX7_holds 0 = .ok (.iload_n 1, 1) := by decide +kernel
theorem dX7_holds_1 : decode cX7_holds 1 = .ok (.ifCond .lt 31, 3) := by decide +kernel
theorem dX7_holds_4 : decode cX7_holds 4 = .ok (.iload_n 1, 1) := by decide +kernel
theorem dX7_holds_5 : decode cX7_holds 5 = .ok (.aload_n 0, 1) := by decide +kernel
theorem dX7_holds_6 : decode cX7_holds 6 = .ok (.getfield 22, 3) := by decide +kernel
theorem dX7_holds_9 : decode cX7_holds 9 = .ok (.if_icmp .ge 23, 3) := by decide +kernel
theorem dX7_holds_12 : decode cX7_holds 12 = .ok (.aload_n 0, 1) := by decide +kernel
theorem dX7_holds_13 : decode cX7_holds 13 = .ok (.iload_n 2, 1) := by decide +kernel
theorem dX7_holds_14 : decode cX7_holds 14 = .ok (.invokevirtual 26, 3) := by decide +kernel
theorem dX7_holds_17 : decode cX7_holds 17 = .ok (.iload_n 1, 1) := by decide +kernel
theorem dX7_holds_18 : decode cX7_holds 18 = .ok (.laload, 1) := by decide +kernel
theorem dX7_holds_19 : decode cX7_holds 19 = .ok (.iload_n 2, 1) := by decide +kernel
theorem dX7_holds_20 : decode cX7_holds 20 = .ok (.lushr, 1) := by decide +kernel
theorem dX7_holds_21 : decode cX7_holds 21 = .ok (.lconst 1, 1) := by decide +kernel
theorem dX7_holds_22 : decode cX7_holds 22 = .ok (.land, 1) := by decide +kernel
theorem dX7_holds_23 : decode cX7_holds 23 = .ok (.lconst 0, 1) := by decide +kernel
theorem dX7_holds_24 : decode cX7_holds 24 = .ok (.lcmp, 1) := by decide +kernel
theorem dX7_holds_25 : decode cX7_holds 25 = .ok (.ifCond .eq 7, 3) := by decide +kernel
theorem dX7_holds_28 : decode cX7_holds 28 = .ok (.iconst 1, 1) := by decide +kernel
theorem dX7_holds_29 : decode cX7_holds 29 = .ok (.goto 4, 3) := by decide +kernel
theorem dX7_holds_32 : decode cX7_holds 32 = .ok (.iconst 0, 1) := by decide +kernel
theorem dX7_holds_33 : decode cX7_holds 33 = .ok (.ireturn, 1) := by decide +kernel
theorem dX7_half_0 : decode cX7_half 0 = .ok (.iload_n 1, 1) := by decide +kernel
theorem dX7_half_1 : decode cX7_half 1 = .ok (.bipush 64, 2) := by decide +kernel
theorem dX7_half_3 : decode cX7_half 3 = .ok (.if_icmp .ge 10, 3) := by decide +kernel
theorem dX7_half_6 : decode cX7_half 6 = .ok (.aload_n 0, 1) := by decide +kernel
theorem dX7_half_7 : decode cX7_half 7 = .ok (.getfield 13, 3) := by decide +kernel
theorem dX7_half_10 : decode cX7_half 10 = .ok (.goto 7, 3) := by decide +kernel
theorem dX7_half_13 : decode cX7_half 13 = .ok (.aload_n 0, 1) := by decide +kernel
theorem dX7_half_14 : decode cX7_half 14 = .ok (.getfield 19, 3) := by decide +kernel
theorem dX7_half_17 : decode cX7_half 17 = .ok (.areturn, 1) := by decide +kernel
theorem dX7_copyFrom_0 : decode cX7_copyFrom 0 = .ok (.aload_n 0, 1) := by decide +kernel
theorem dX7_copyFrom_1 : decode cX7_copyFrom 1 = .ok (.invokevirtual 30, 3) := by decide +kernel
theorem dX7_copyFrom_4 : decode cX7_copyFrom 4 = .ok (.iconst 0, 1) := by decide +kernel
theorem dX7_copyFrom_5 : decode cX7_copyFrom 5 = .ok (.istore_n 2, 1) := by decide +kernel
theorem dX7_copyFrom_6 : decode cX7_copyFrom 6 = .ok (.iload_n 2, 1) := by decide +kernel
theorem dX7_copyFrom_7 : decode cX7_copyFrom 7 = .ok (.aload_n 1, 1) := by decide +kernel
theorem dX7_copyFrom_8 : decode cX7_copyFrom 8 = .ok (.getfield 22, 3) := by decide +kernel
theorem dX7_copyFrom_11 : decode cX7_copyFrom 11 = .ok (.if_icmp .ge 25, 3) := by decide +kernel
theorem dX7_copyFrom_14 : decode cX7_copyFrom 14 = .ok (.aload_n 0, 1) := by decide +kernel
theorem dX7_copyFrom_15 : decode cX7_copyFrom 15 = .ok (.aload_n 1, 1) := by decide +kernel
theorem dX7_copyFrom_16 : decode cX7_copyFrom 16 = .ok (.getfield 13, 3) := by decide +kernel
theorem dX7_copyFrom_19 : decode cX7_copyFrom 19 = .ok (.iload_n 2, 1) := by decide +kernel
theorem dX7_copyFrom_20 : decode cX7_copyFrom 20 = .ok (.laload, 1) := by decide +kernel
theorem dX7_copyFrom_21 : decode cX7_copyFrom 21 = .ok (.aload_n 1, 1) := by decide +kernel
theorem dX7_copyFrom_22 : decode cX7_copyFrom 22 = .ok (.getfield 19, 3) := by decide +kernel
theorem dX7_copyFrom_25 : decode cX7_copyFrom 25 = .ok (.iload_n 2, 1) := by decide +kernel
theorem dX7_copyFrom_26 : decode cX7_copyFrom 26 = .ok (.laload, 1) := by decide +kernel
theorem dX7_copyFrom_27 : decode cX7_copyFrom 27 = .ok (.invokevirtual 33, 3) := by decide +kernel
theorem dX7_copyFrom_30 : decode cX7_copyFrom 30 = .ok (.iinc 2 1, 3) := by decide +kernel
theorem dX7_copyFrom_33 : decode cX7_copyFrom 33 = .ok (.goto (-27), 3) := by decide +kernel
theorem dX7_copyFrom_36 : decode cX7_copyFrom 36 = .ok (.return_, 1) := by decide +kernel
theorem dX7_copyBytes_0 : decode cX7_copyBytes 0 = .ok (.aload_n 0, 1) := by decide +kernel
theorem dX7_copyBytes_1 : decode cX7_copyBytes 1 = .ok (.invokevirtual 30, 3) := by decide +kernel
theorem dX7_copyBytes_4 : decode cX7_copyBytes 4 = .ok (.iload_n 2, 1) := by decide +kernel
theorem dX7_copyBytes_5 : decode cX7_copyBytes 5 = .ok (.istore 4, 2) := by decide +kernel
theorem dX7_copyBytes_7 : decode cX7_copyBytes 7 = .ok (.iload 4, 2) := by decide +kernel
theorem dX7_copyBytes_9 : decode cX7_copyBytes 9 = .ok (.iload_n 3, 1) := by decide +kernel
theorem dX7_copyBytes_10 : decode cX7_copyBytes 10 = .ok (.if_icmp .ge 51, 3) := by decide +kernel
theorem dX7_copyBytes_13 : decode cX7_copyBytes 13 = .ok (.aload_n 1, 1) := by decide +kernel
theorem dX7_copyBytes_14 : decode cX7_copyBytes 14 = .ok (.iload 4, 2) := by decide +kernel
theorem dX7_copyBytes_16 : decode cX7_copyBytes 16 = .ok (.invokevirtual 37, 3) := by decide +kernel
theorem dX7_copyBytes_19 : decode cX7_copyBytes 19 = .ok (.istore 5, 2) := by decide +kernel
theorem dX7_copyBytes_21 : decode cX7_copyBytes 21 = .ok (.aload_n 0, 1) := by decide +kernel
theorem dX7_copyBytes_22 : decode cX7_copyBytes 22 = .ok (.iload 5, 2) := by decide +kernel
theorem dX7_copyBytes_24 : decode cX7_copyBytes 24 = .ok (.bipush 64, 2) := by decide +kernel
theorem dX7_copyBytes_26 : decode cX7_copyBytes 26 = .ok (.if_icmp .ge 10, 3) := by decide +kernel
theorem dX7_copyBytes_29 : decode cX7_copyBytes 29 = .ok (.lconst 1, 1) := by decide +kernel
theorem dX7_copyBytes_30 : decode cX7_copyBytes 30 = .ok (.iload 5, 2) := by decide +kernel
theorem dX7_copyBytes_32 : decode cX7_copyBytes 32 = .ok (.lshl, 1) := by decide +kernel
theorem dX7_copyBytes_33 : decode cX7_copyBytes 33 = .ok (.goto 4, 3) := by decide +kernel
theorem dX7_copyBytes_36 : decode cX7_copyBytes 36 = .ok (.lconst 0, 1) := by decide +kernel
theorem dX7_copyBytes_37 : decode cX7_copyBytes 37 = .ok (.iload 5, 2) := by decide +kernel
theorem dX7_copyBytes_39 : decode cX7_copyBytes 39 = .ok (.bipush 64, 2) := by decide +kernel
theorem dX7_copyBytes_41 : decode cX7_copyBytes 41 = .ok (.if_icmp .ge 7, 3) := by decide +kernel
theorem dX7_copyBytes_44 : decode cX7_copyBytes 44 = .ok (.lconst 0, 1) := by decide +kernel
theorem dX7_copyBytes_45 : decode cX7_copyBytes 45 = .ok (.goto 7, 3) := by decide +kernel
theorem dX7_copyBytes_48 : decode cX7_copyBytes 48 = .ok (.lconst 1, 1) := by decide +kernel
theorem dX7_copyBytes_49 : decode cX7_copyBytes 49 = .ok (.iload 5, 2) := by decide +kernel
theorem dX7_copyBytes_51 : decode cX7_copyBytes 51 = .ok (.lshl, 1) := by decide +kernel
theorem dX7_copyBytes_52 : decode cX7_copyBytes 52 = .ok (.invokevirtual 33, 3) := by decide +kernel
theorem dX7_copyBytes_55 : decode cX7_copyBytes 55 = .ok (.iinc 4 1, 3) := by decide +kernel
theorem dX7_copyBytes_58 : decode cX7_copyBytes 58 = .ok (.goto (-51), 3) := by decide +kernel
theorem dX7_copyBytes_61 : decode cX7_copyBytes 61 = .ok (.return_, 1) := by decide +kernel
theorem dX8_init_0 : decode cX8_init 0 = .ok (.aload_n 0, 1) := by decide +kernel
theorem dX8_init_1 : decode cX8_init 1 = .ok (.invokespecial 3, 3) := by decide +kernel
theorem dX8_init_4 : decode cX8_init 4 = .ok (.aload_n 0, 1) := by decide +kernel
theorem dX8_init_5 : decode cX8_init 5 = .ok (.sipush 5038, 3) := by decide +kernel
theorem dX8_init_8 : decode cX8_init 8 = .ok (.newarray .long, 2) := by decide +kernel
theorem dX8_init_10 : decode cX8_init 10 = .ok (.putfield 11, 3) := by decide +kernel
theorem dX8_init_13 : decode cX8_init 13 = .ok (.return_, 1) := by decide +kernel
theorem dX8_widen_0 : decode cX8_widen 0 = .ok (.aload_n 0, 1) := by decide +kernel
theorem dX8_widen_1 : decode cX8_widen 1 = .ok (.iload_n 1, 1) := by decide +kernel
theorem dX8_widen_2 : decode cX8_widen 2 = .ok (.putfield 15, 3) := by decide +kernel
theorem dX8_widen_5 : decode cX8_widen 5 = .ok (.aload_n 0, 1) := by decide +kernel
theorem dX8_widen_6 : decode cX8_widen 6 = .ok (.iload_n 2, 1) := by decide +kernel
theorem dX8_widen_7 : decode cX8_widen 7 = .ok (.iload_n 1, 1) := by decide +kernel
theorem dX8_widen_8 : decode cX8_widen 8 = .ok (.isub, 1) := by decide +kernel
theorem dX8_widen_9 : decode cX8_widen 9 = .ok (.iconst 1, 1) := by decide +kernel
theorem dX8_widen_10 : decode cX8_widen 10 = .ok (.iadd, 1) := by decide +kernel
theorem dX8_widen_11 : decode cX8_widen 11 = .ok (.putfield 19, 3) := by decide +kernel
theorem dX8_widen_14 : decode cX8_widen 14 = .ok (.return_, 1) := by decide +kernel
theorem dX8_put_0 : decode cX8_put 0 = .ok (.aload_n 0, 1) := by decide +kernel
theorem dX8_put_1 : decode cX8_put 1 = .ok (.iload_n 1, 1) := by decide +kernel
theorem dX8_put_2 : decode cX8_put 2 = .ok (.iload_n 2, 1) := by decide +kernel
theorem dX8_put_3 : decode cX8_put 3 = .ok (.invokevirtual 22, 3) := by decide +kernel
theorem dX8_put_6 : decode cX8_put 6 = .ok (.istore 4, 2) := by decide +kernel
theorem dX8_put_8 : decode cX8_put 8 = .ok (.iload 4, 2) := by decide +kernel
theorem dX8_put_10 : decode cX8_put 10 = .ok (.ifCond .lt 62, 3) := by decide +kernel
theorem dX8_put_13 : decode cX8_put 13 = .ok (.iload 4, 2) := by decide +kernel
theorem dX8_put_15 : decode cX8_put 15 = .ok (.bipush 16, 2) := by decide +kernel
theorem dX8_put_17 : decode cX8_put 17 = .ok (.idiv, 1) := by decide +kernel
theorem dX8_put_18 : decode cX8_put 18 = .ok (.aload_n 0, 1) := by decide +kernel
theorem dX8_put_19 : decode cX8_put 19 = .ok (.getfield 11, 3) := by decide +kernel
theorem dX8_put_22 : decode cX8_put 22 = .ok (.arraylength, 1) := by decide +kernel
theorem dX8_put_23 : decode cX8_put 23 = .ok (.if_icmp .ge 49, 3) := by decide +kernel
theorem dX8_put_26 : decode cX8_put 26 = .ok (.iload 4, 2) := by decide +kernel
theorem dX8_put_28 : decode cX8_put 28 = .ok (.bipush 16, 2) := by decide +kernel
theorem dX8_put_30 : decode cX8_put 30 = .ok (.irem, 1) := by decide +kernel
theorem dX8_put_31 : decode cX8_put 31 = .ok (.iconst 4, 1) := by decide +kernel
theorem dX8_put_32 : decode cX8_put 32 = .ok (.imul, 1) := by decide +kernel
theorem dX8_put_33 : decode cX8_put 33 = .ok (.istore 5, 2) := by decide +kernel
theorem dX8_put_35 : decode cX8_put 35 = .ok (.aload_n 0, 1) := by decide +kernel
theorem dX8_put_36 : decode cX8_put 36 = .ok (.getfield 11, 3) := by decide +kernel
theorem dX8_put_39 : decode cX8_put 39 = .ok (.iload 4, 2) := by decide +kernel
theorem dX8_put_41 : decode cX8_put 41 = .ok (.bipush 16, 2) := by decide +kernel
theorem dX8_put_43 : decode cX8_put 43 = .ok (.idiv, 1) := by decide +kernel
theorem dX8_put_44 : decode cX8_put 44 = .ok (.aload_n 0, 1) := by decide +kernel
theorem dX8_put_45 : decode cX8_put 45 = .ok (.getfield 11, 3) := by decide +kernel
theorem dX8_put_48 : decode cX8_put 48 = .ok (.iload 4, 2) := by decide +kernel
theorem dX8_put_50 : decode cX8_put 50 = .ok (.bipush 16, 2) := by decide +kernel
theorem dX8_put_52 : decode cX8_put 52 = .ok (.idiv, 1) := by decide +kernel
theorem dX8_put_53 : decode cX8_put 53 = .ok (.laload, 1) := by decide +kernel
theorem dX8_put_54 : decode cX8_put 54 = .ok (.ldc2_w 26, 3) := by decide +kernel
theorem dX8_put_57 : decode cX8_put 57 = .ok (.iload 5, 2) := by decide +kernel
theorem dX8_put_59 : decode cX8_put 59 = .ok (.lshl, 1) := by decide +kernel
theorem dX8_put_60 : decode cX8_put 60 = .ok (.ldc2_w 28, 3) := by decide +kernel
theorem dX8_put_63 : decode cX8_put 63 = .ok (.lxor, 1) := by decide +kernel
theorem dX8_put_64 : decode cX8_put 64 = .ok (.land, 1) := by decide +kernel
theorem dX8_put_65 : decode cX8_put 65 = .ok (.iload_n 3, 1) := by decide +kernel
theorem dX8_put_66 : decode cX8_put 66 = .ok (.i2l, 1) := by decide +kernel
theorem dX8_put_67 : decode cX8_put 67 = .ok (.iload 5, 2) := by decide +kernel
theorem dX8_put_69 : decode cX8_put 69 = .ok (.lshl, 1) := by decide +kernel
theorem dX8_put_70 : decode cX8_put 70 = .ok (.lor, 1) := by decide +kernel
theorem dX8_put_71 : decode cX8_put 71 = .ok (.lastore, 1) := by decide +kernel
theorem dX8_put_72 : decode cX8_put 72 = .ok (.return_, 1) := by decide +kernel
theorem dX8_get_0 : decode cX8_get 0 = .ok (.aload_n 0, 1) := by decide +kernel
theorem dX8_get_1 : decode cX8_get 1 = .ok (.iload_n 1, 1) := by decide +kernel
theorem dX8_get_2 : decode cX8_get 2 = .ok (.iload_n 2, 1) := by decide +kernel
theorem dX8_get_3 : decode cX8_get 3 = .ok (.invokevirtual 22, 3) := by decide +kernel
theorem dX8_get_6 : decode cX8_get 6 = .ok (.istore_n 3, 1) := by decide +kernel
theorem dX8_get_7 : decode cX8_get 7 = .ok (.iload_n 3, 1) := by decide +kernel
theorem dX8_get_8 : decode cX8_get 8 = .ok (.ifCond .lt 15, 3) := by decide +kernel
theorem dX8_get_11 : decode cX8_get 11 = .ok (.iload_n 3, 1) := by decide +kernel
theorem dX8_get_12 : decode cX8_get 12 = .ok (.bipush 16, 2) := by decide +kernel
theorem dX8_get_14 : decode cX8_get 14 = .ok (.idiv, 1) := by decide +kernel
theorem dX8_get_15 : decode cX8_get 15 = .ok (.aload_n 0, 1) := by decide +kernel
theorem dX8_get_16 : decode cX8_get 16 = .ok (.getfield 11, 3) := by decide +kernel
theorem dX8_get_19 : decode cX8_get 19 = .ok (.arraylength, 1) := by decide +kernel
theorem dX8_get_20 : decode cX8_get 20 = .ok (.if_icmp .lt 5, 3) := by decide +kernel
theorem dX8_get_23 : decode cX8_get 23 = .ok (.iconst 0, 1) := by decide +kernel
theorem dX8_get_24 : decode cX8_get 24 = .ok (.ireturn, 1) := by decide +kernel
theorem dX8_get_25 : decode cX8_get 25 = .ok (.aload_n 0, 1) := by decide +kernel
theorem dX8_get_26 : decode cX8_get 26 = .ok (.getfield 11, 3) := by decide +kernel
theorem dX8_get_29 : decode cX8_get 29 = .ok (.iload_n 3, 1) := by decide +kernel
theorem dX8_get_30 : decode cX8_get 30 = .ok (.bipush 16, 2) := by decide +kernel
theorem dX8_get_32 : decode cX8_get 32 = .ok (.idiv, 1) := by decide +kernel
theorem dX8_get_33 : decode cX8_get 33 = .ok (.laload, 1) := by decide +kernel
theorem dX8_get_34 : decode cX8_get 34 = .ok (.iload_n 3, 1) := by decide +kernel
theorem dX8_get_35 : decode cX8_get 35 = .ok (.bipush 16, 2) := by decide +kernel
theorem dX8_get_37 : decode cX8_get 37 = .ok (.irem, 1) := by decide +kernel
theorem dX8_get_38 : decode cX8_get 38 = .ok (.iconst 4, 1) := by decide +kernel
theorem dX8_get_39 : decode cX8_get 39 = .ok (.imul, 1) := by decide +kernel
theorem dX8_get_40 : decode cX8_get 40 = .ok (.lushr, 1) := by decide +kernel
theorem dX8_get_41 : decode cX8_get 41 = .ok (.ldc2_w 26, 3) := by decide +kernel
theorem dX8_get_44 : decode cX8_get 44 = .ok (.land, 1) := by decide +kernel
theorem dX8_get_45 : decode cX8_get 45 = .ok (.l2i, 1) := by decide +kernel
theorem dX8_get_46 : decode cX8_get 46 = .ok (.ireturn, 1) := by decide +kernel
theorem dX8_cellOf_0 : decode cX8_cellOf 0 = .ok (.iload_n 2, 1) := by decide +kernel
theorem dX8_cellOf_1 : decode cX8_cellOf 1 = .ok (.aload_n 0, 1) := by decide +kernel
theorem dX8_cellOf_2 : decode cX8_cellOf 2 = .ok (.getfield 19, 3) := by decide +kernel
theorem dX8_cellOf_5 : decode cX8_cellOf 5 = .ok (.imul, 1) := by decide +kernel
theorem dX8_cellOf_6 : decode cX8_cellOf 6 = .ok (.iload_n 1, 1) := by decide +kernel
theorem dX8_cellOf_7 : decode cX8_cellOf 7 = .ok (.iload_n 2, 1) := by decide +kernel
theorem dX8_cellOf_8 : decode cX8_cellOf 8 = .ok (.isub, 1) := by decide +kernel
theorem dX8_cellOf_9 : decode cX8_cellOf 9 = .ok (.aload_n 0, 1) := by decide +kernel
theorem dX8_cellOf_10 : decode cX8_cellOf 10 = .ok (.getfield 15, 3) := by decide +kernel
theorem dX8_cellOf_13 : decode cX8_cellOf 13 = .ok (.isub, 1) := by decide +kernel
theorem dX8_cellOf_14 : decode cX8_cellOf 14 = .ok (.iadd, 1) := by decide +kernel
theorem dX8_cellOf_15 : decode cX8_cellOf 15 = .ok (.ireturn, 1) := by decide +kernel
theorem dX9_init_0 : decode cX9_init 0 = .ok (.aload_n 0, 1) := by decide +kernel
theorem dX9_init_1 : decode cX9_init 1 = .ok (.invokespecial 3, 3) := by decide +kernel
theorem dX9_init_4 : decode cX9_init 4 = .ok (.aload_n 0, 1) := by decide +kernel
theorem dX9_init_5 : decode cX9_init 5 = .ok (.sipush 400, 3) := by decide +kernel
theorem dX9_init_8 : decode cX9_init 8 = .ok (.newarray .byte, 2) := by decide +kernel
theorem dX9_init_10 : decode cX9_init 10 = .ok (.putfield 9, 3) := by decide +kernel
theorem dX9_init_13 : decode cX9_init 13 = .ok (.return_, 1) := by decide +kernel
theorem dX9_clear_0 : decode cX9_clear 0 = .ok (.aload_n 0, 1) := by decide +kernel
theorem dX9_clear_1 : decode cX9_clear 1 = .ok (.iconst 0, 1) := by decide +kernel
theorem dX9_clear_2 : decode cX9_clear 2 = .ok (.putfield 15, 3) := by decide +kernel
theorem dX9_clear_5 : decode cX9_clear 5 = .ok (.return_, 1) := by decide +kernel
theorem dX9_addBefore_0 : decode cX9_addBefore 0 = .ok (.aload_n 0, 1) := by decide +kernel
theorem dX9_addBefore_1 : decode cX9_addBefore 1 = .ok (.getfield 15, 3) := by decide +kernel
theorem dX9_addBefore_4 : decode cX9_addBefore 4 = .ok (.aload_n 0, 1) := by decide +kernel
theorem dX9_addBefore_5 : decode cX9_addBefore 5 = .ok (.getfield 9, 3) := by decide +kernel
theorem dX9_addBefore_8 : decode cX9_addBefore 8 = .ok (.arraylength, 1) := by decide +kernel
theorem dX9_addBefore_9 : decode cX9_addBefore 9 = .ok (.if_icmp .ge 24, 3) := by decide +kernel
theorem dX9_addBefore_12 : decode cX9_addBefore 12 = .ok (.aload_n 0, 1) := by decide +kernel
theorem dX9_addBefore_13 : decode cX9_addBefore 13 = .ok (.getfield 9, 3) := by decide +kernel
theorem dX9_addBefore_16 : decode cX9_addBefore 16 = .ok (.aload_n 0, 1) := by decide +kernel
theorem dX9_addBefore_17 : decode cX9_addBefore 17 = .ok (.getfield 15, 3) := by decide +kernel
theorem dX9_addBefore_20 : decode cX9_addBefore 20 = .ok (.iload_n 1, 1) := by decide +kernel
theorem dX9_addBefore_21 : decode cX9_addBefore 21 = .ok (.i2b, 1) := by decide +kernel
theorem dX9_addBefore_22 : decode cX9_addBefore 22 = .ok (.bastore, 1) := by decide +kernel
theorem dX9_addBefore_23 : decode cX9_addBefore 23 = .ok (.aload_n 0, 1) := by decide +kernel
theorem dX9_addBefore_24 : decode cX9_addBefore 24 = .ok (.dup, 1) := by decide +kernel
theorem dX9_addBefore_25 : decode cX9_addBefore 25 = .ok (.getfield 15, 3) := by decide +kernel
theorem dX9_addBefore_28 : decode cX9_addBefore 28 = .ok (.iconst 1, 1) := by decide +kernel
theorem dX9_addBefore_29 : decode cX9_addBefore 29 = .ok (.iadd, 1) := by decide +kernel
theorem dX9_addBefore_30 : decode cX9_addBefore 30 = .ok (.putfield 15, 3) := by decide +kernel
theorem dX9_addBefore_33 : decode cX9_addBefore 33 = .ok (.return_, 1) := by decide +kernel
theorem dX9_get_0 : decode cX9_get 0 = .ok (.iload_n 1, 1) := by decide +kernel
theorem dX9_get_1 : decode cX9_get 1 = .ok (.ifCond .lt 27, 3) := by decide +kernel
theorem dX9_get_4 : decode cX9_get 4 = .ok (.iload_n 1, 1) := by decide +kernel
theorem dX9_get_5 : decode cX9_get 5 = .ok (.aload_n 0, 1) := by decide +kernel
theorem dX9_get_6 : decode cX9_get 6 = .ok (.getfield 15, 3) := by decide +kernel
theorem dX9_get_9 : decode cX9_get 9 = .ok (.if_icmp .ge 19, 3) := by decide +kernel
theorem dX9_get_12 : decode cX9_get 12 = .ok (.aload_n 0, 1) := by decide +kernel
theorem dX9_get_13 : decode cX9_get 13 = .ok (.getfield 9, 3) := by decide +kernel
theorem dX9_get_16 : decode cX9_get 16 = .ok (.aload_n 0, 1) := by decide +kernel
theorem dX9_get_17 : decode cX9_get 17 = .ok (.getfield 15, 3) := by decide +kernel
theorem dX9_get_20 : decode cX9_get 20 = .ok (.iconst 1, 1) := by decide +kernel
theorem dX9_get_21 : decode cX9_get 21 = .ok (.isub, 1) := by decide +kernel
theorem dX9_get_22 : decode cX9_get 22 = .ok (.iload_n 1, 1) := by decide +kernel
theorem dX9_get_23 : decode cX9_get 23 = .ok (.isub, 1) := by decide +kernel
theorem dX9_get_24 : decode cX9_get 24 = .ok (.baload, 1) := by decide +kernel
theorem dX9_get_25 : decode cX9_get 25 = .ok (.goto 4, 3) := by decide +kernel
theorem dX9_get_28 : decode cX9_get 28 = .ok (.iconst (-1), 1) := by decide +kernel
theorem dX9_get_29 : decode cX9_get 29 = .ok (.ireturn, 1) := by decide +kernel
theorem dX10_init_0 : decode cX10_init 0 = .ok (.aload_n 0, 1) := by decide +kernel
theorem dX10_init_1 : decode cX10_init 1 = .ok (.invokespecial 3, 3) := by decide +kernel
theorem dX10_init_4 : decode cX10_init 4 = .ok (.aload_n 0, 1) := by decide +kernel
theorem dX10_init_5 : decode cX10_init 5 = .ok (.new 9, 3) := by decide +kernel
theorem dX10_init_8 : decode cX10_init 8 = .ok (.dup, 1) := by decide +kernel
theorem dX10_init_9 : decode cX10_init 9 = .ok (.sipush 400, 3) := by decide +kernel
theorem dX10_init_12 : decode cX10_init 12 = .ok (.invokespecial 11, 3) := by decide +kernel
theorem dX10_init_15 : decode cX10_init 15 = .ok (.putfield 14, 3) := by decide +kernel
theorem dX10_init_18 : decode cX10_init 18 = .ok (.aload_n 0, 1) := by decide +kernel
theorem dX10_init_19 : decode cX10_init 19 = .ok (.new 9, 3) := by decide +kernel
theorem dX10_init_22 : decode cX10_init 22 = .ok (.dup, 1) := by decide +kernel
theorem dX10_init_23 : decode cX10_init 23 = .ok (.sipush 1500, 3) := by decide +kernel
theorem dX10_init_26 : decode cX10_init 26 = .ok (.invokespecial 11, 3) := by decide +kernel
theorem dX10_init_29 : decode cX10_init 29 = .ok (.putfield 18, 3) := by decide +kernel
theorem dX10_init_32 : decode cX10_init 32 = .ok (.aload_n 0, 1) := by decide +kernel
theorem dX10_init_33 : decode cX10_init 33 = .ok (.new 9, 3) := by decide +kernel
theorem dX10_init_36 : decode cX10_init 36 = .ok (.dup, 1) := by decide +kernel
theorem dX10_init_37 : decode cX10_init 37 = .ok (.sipush 1500, 3) := by decide +kernel
theorem dX10_init_40 : decode cX10_init 40 = .ok (.invokespecial 11, 3) := by decide +kernel
theorem dX10_init_43 : decode cX10_init 43 = .ok (.putfield 21, 3) := by decide +kernel
theorem dX10_init_46 : decode cX10_init 46 = .ok (.aload_n 0, 1) := by decide +kernel
theorem dX10_init_47 : decode cX10_init 47 = .ok (.new 24, 3) := by decide +kernel
theorem dX10_init_50 : decode cX10_init 50 = .ok (.dup, 1) := by decide +kernel
theorem dX10_init_51 : decode cX10_init 51 = .ok (.invokespecial 26, 3) := by decide +kernel
theorem dX10_init_54 : decode cX10_init 54 = .ok (.putfield 27, 3) := by decide +kernel
theorem dX10_init_57 : decode cX10_init 57 = .ok (.aload_n 0, 1) := by decide +kernel
theorem dX10_init_58 : decode cX10_init 58 = .ok (.bipush 8, 2) := by decide +kernel
theorem dX10_init_60 : decode cX10_init 60 = .ok (.anewarray 31, 3) := by decide +kernel
theorem dX10_init_63 : decode cX10_init 63 = .ok (.putfield 33, 3) := by decide +kernel
theorem dX10_init_66 : decode cX10_init 66 = .ok (.iconst 0, 1) := by decide +kernel
theorem dX10_init_67 : decode cX10_init 67 = .ok (.istore_n 1, 1) := by decide +kernel
theorem dX10_init_68 : decode cX10_init 68 = .ok (.iload_n 1, 1) := by decide +kernel
theorem dX10_init_69 : decode cX10_init 69 = .ok (.bipush 8, 2) := by decide +kernel
theorem dX10_init_71 : decode cX10_init 71 = .ok (.if_icmp .ge 25, 3) := by decide +kernel
theorem dX10_init_74 : decode cX10_init 74 = .ok (.aload_n 0, 1) := by decide +kernel
theorem dX10_init_75 : decode cX10_init 75 = .ok (.getfield 33, 3) := by decide +kernel
theorem dX10_init_78 : decode cX10_init 78 = .ok (.iload_n 1, 1) := by decide +kernel
theorem dX10_init_79 : decode cX10_init 79 = .ok (.new 31, 3) := by decide +kernel
theorem dX10_init_82 : decode cX10_init 82 = .ok (.dup, 1) := by decide +kernel
theorem dX10_init_83 : decode cX10_init 83 = .ok (.sipush 200, 3) := by decide +kernel
theorem dX10_init_86 : decode cX10_init 86 = .ok (.invokespecial 37, 3) := by decide +kernel
theorem dX10_init_89 : decode cX10_init 89 = .ok (.aastore, 1) := by decide +kernel
theorem dX10_init_90 : decode cX10_init 90 = .ok (.iinc 1 1, 3) := by decide +kernel
theorem dX10_init_93 : decode cX10_init 93 = .ok (.goto (-25), 3) := by decide +kernel
theorem dX10_init_96 : decode cX10_init 96 = .ok (.aload_n 0, 1) := by decide +kernel
theorem dX10_init_97 : decode cX10_init 97 = .ok (.new 31, 3) := by decide +kernel
theorem dX10_init_100 : decode cX10_init 100 = .ok (.dup, 1) := by decide +kernel
theorem dX10_init_101 : decode cX10_init 101 = .ok (.sipush 1500, 3) := by decide +kernel
theorem dX10_init_104 : decode cX10_init 104 = .ok (.invokespecial 37, 3) := by decide +kernel
theorem dX10_init_107 : decode cX10_init 107 = .ok (.putfield 38, 3) := by decide +kernel
theorem dX10_init_110 : decode cX10_init 110 = .ok (.aload_n 0, 1) := by decide +kernel
theorem dX10_init_111 : decode cX10_init 111 = .ok (.new 42, 3) := by decide +kernel
theorem dX10_init_114 : decode cX10_init 114 = .ok (.dup, 1) := by decide +kernel
theorem dX10_init_115 : decode cX10_init 115 = .ok (.invokespecial 44, 3) := by decide +kernel
theorem dX10_init_118 : decode cX10_init 118 = .ok (.putfield 45, 3) := by decide +kernel
theorem dX10_init_121 : decode cX10_init 121 = .ok (.aload_n 0, 1) := by decide +kernel
theorem dX10_init_122 : decode cX10_init 122 = .ok (.new 49, 3) := by decide +kernel
theorem dX10_init_125 : decode cX10_init 125 = .ok (.dup, 1) := by decide +kernel
theorem dX10_init_126 : decode cX10_init 126 = .ok (.invokespecial 51, 3) := by decide +kernel
theorem dX10_init_129 : decode cX10_init 129 = .ok (.putfield 52, 3) := by decide +kernel
theorem dX10_init_132 : decode cX10_init 132 = .ok (.aload_n 0, 1) := by decide +kernel
theorem dX10_init_133 : decode cX10_init 133 = .ok (.new 56, 3) := by decide +kernel
theorem dX10_init_136 : decode cX10_init 136 = .ok (.dup, 1) := by decide +kernel
theorem dX10_init_137 : decode cX10_init 137 = .ok (.invokespecial 58, 3) := by decide +kernel
theorem dX10_init_140 : decode cX10_init 140 = .ok (.putfield 59, 3) := by decide +kernel
theorem dX10_init_143 : decode cX10_init 143 = .ok (.aload_n 0, 1) := by decide +kernel
theorem dX10_init_144 : decode cX10_init 144 = .ok (.new 63, 3) := by decide +kernel
theorem dX10_init_147 : decode cX10_init 147 = .ok (.dup, 1) := by decide +kernel
theorem dX10_init_148 : decode cX10_init 148 = .ok (.invokespecial 65, 3) := by decide +kernel
theorem dX10_init_151 : decode cX10_init 151 = .ok (.putfield 66, 3) := by decide +kernel
theorem dX10_init_154 : decode cX10_init 154 = .ok (.aload_n 0, 1) := by decide +kernel
theorem dX10_init_155 : decode cX10_init 155 = .ok (.new 70, 3) := by decide +kernel
theorem dX10_init_158 : decode cX10_init 158 = .ok (.dup, 1) := by decide +kernel
theorem dX10_init_159 : decode cX10_init 159 = .ok (.invokespecial 72, 3) := by decide +kernel
theorem dX10_init_162 : decode cX10_init 162 = .ok (.putfield 73, 3) := by decide +kernel
theorem dX10_init_165 : decode cX10_init 165 = .ok (.return_, 1) := by decide +kernel
theorem dX10_type_0 : decode cX10_type 0 = .ok (.iload_n 3, 1) := by decide +kernel
theorem dX10_type_1 : decode cX10_type 1 = .ok (.iconst 1, 1) := by decide +kernel
theorem dX10_type_2 : decode cX10_type 2 = .ok (.if_icmp .lt 9, 3) := by decide +kernel
theorem dX10_type_5 : decode cX10_type 5 = .ok (.iload_n 3, 1) := by decide +kernel
theorem dX10_type_6 : decode cX10_type 6 = .ok (.bipush 8, 2) := by decide +kernel
theorem dX10_type_8 : decode cX10_type 8 = .ok (.if_icmp .le 6, 3) := by decide +kernel
theorem dX10_type_11 : decode cX10_type 11 = .ok (.bipush (-2), 2) := by decide +kernel
theorem dX10_type_13 : decode cX10_type 13 = .ok (.ireturn, 1) := by decide +kernel
theorem dX10_type_14 : decode cX10_type 14 = .ok (.iconst 0, 1) := by decide +kernel
theorem dX10_type_15 : decode cX10_type 15 = .ok (.istore 4, 2) := by decide +kernel
theorem dX10_type_17 : decode cX10_type 17 = .ok (.iload 4, 2) := by decide +kernel
theorem dX10_type_19 : decode cX10_type 19 = .ok (.iload_n 3, 1) := by decide +kernel
theorem dX10_type_20 : decode cX10_type 20 = .ok (.if_icmp .ge 24, 3) := by decide +kernel
theorem dX10_type_23 : decode cX10_type 23 = .ok (.lload_n 1, 1) := by decide +kernel
theorem dX10_type_24 : decode cX10_type 24 = .ok (.iload 4, 2) := by decide +kernel
theorem dX10_type_26 : decode cX10_type 26 = .ok (.invokestatic 77, 3) := by decide +kernel
theorem dX10_type_29 : decode cX10_type 29 = .ok (.invokestatic 81, 3) := by decide +kernel
theorem dX10_type_32 : decode cX10_type 32 = .ok (.ifCond .ne 6, 3) := by decide +kernel
theorem dX10_type_35 : decode cX10_type 35 = .ok (.bipush (-2), 2) := by decide +kernel
theorem dX10_type_37 : decode cX10_type 37 = .ok (.ireturn, 1) := by decide +kernel
theorem dX10_type_38 : decode cX10_type 38 = .ok (.iinc 4 1, 3) := by decide +kernel
theorem dX10_type_41 : decode cX10_type 41 = .ok (.goto (-24), 3) := by decide +kernel
theorem dX10_type_44 : decode cX10_type 44 = .ok (.aload_n 0, 1) := by decide +kernel
theorem dX10_type_45 : decode cX10_type 45 = .ok (.getfield 14, 3) := by decide +kernel
theorem dX10_type_48 : decode cX10_type 48 = .ok (.getfield 85, 3) := by decide +kernel
theorem dX10_type_51 : decode cX10_type 51 = .ok (.iload_n 3, 1) := by decide +kernel
theorem dX10_type_52 : decode cX10_type 52 = .ok (.iadd, 1) := by decide +kernel
theorem dX10_type_53 : decode cX10_type 53 = .ok (.sipush 400, 3) := by decide +kernel
theorem dX10_type_56 : decode cX10_type 56 = .ok (.if_icmp .le 6, 3) := by decide +kernel
theorem dX10_type_59 : decode cX10_type 59 = .ok (.bipush (-3), 2) := by decide +kernel
theorem dX10_type_61 : decode cX10_type 61 = .ok (.ireturn, 1) := by decide +kernel
theorem dX10_type_62 : decode cX10_type 62 = .ok (.iconst 0, 1) := by decide +kernel
theorem dX10_type_63 : decode cX10_type 63 = .ok (.istore 4, 2) := by decide +kernel
theorem dX10_type_65 : decode cX10_type 65 = .ok (.iload 4, 2) := by decide +kernel
theorem dX10_type_67 : decode cX10_type 67 = .ok (.iload_n 3, 1) := by decide +kernel
theorem dX10_type_68 : decode cX10_type 68 = .ok (.if_icmp .ge 22, 3) := by decide +kernel
theorem dX10_type_71 : decode cX10_type 71 = .ok (.aload_n 0, 1) := by decide +kernel
theorem dX10_type_72 : decode cX10_type 72 = .ok (.getfield 14, 3) := by decide +kernel
theorem dX10_type_75 : decode cX10_type 75 = .ok (.lload_n 1, 1) := by decide +kernel
theorem dX10_type_76 : decode cX10_type 76 = .ok (.iload 4, 2) := by decide +kernel
theorem dX10_type_78 : decode cX10_type 78 = .ok (.invokestatic 77, 3) := by decide +kernel
theorem dX10_type_81 : decode cX10_type 81 = .ok (.invokevirtual 89, 3) := by decide +kernel
theorem dX10_type_84 : decode cX10_type 84 = .ok (.iinc 4 1, 3) := by decide +kernel
theorem dX10_type_87 : decode cX10_type 87 = .ok (.goto (-22), 3) := by decide +kernel
theorem dX10_type_90 : decode cX10_type 90 = .ok (.aload_n 0, 1) := by decide +kernel
theorem dX10_type_91 : decode cX10_type 91 = .ok (.getfield 14, 3) := by decide +kernel
theorem dX10_type_94 : decode cX10_type 94 = .ok (.getfield 85, 3) := by decide +kernel
theorem dX10_type_97 : decode cX10_type 97 = .ok (.ireturn, 1) := by decide +kernel
theorem dX10_pattern_0 : decode cX10_pattern 0 = .ok (.iload_n 1, 1) := by decide +kernel
theorem dX10_pattern_1 : decode cX10_pattern 1 = .ok (.ifCond .lt 9, 3) := by decide +kernel
theorem dX10_pattern_4 : decode cX10_pattern 4 = .ok (.iload_n 1, 1) := by decide +kernel
theorem dX10_pattern_5 : decode cX10_pattern 5 = .ok (.bipush 8, 2) := by decide +kernel
theorem dX10_pattern_7 : decode cX10_pattern 7 = .ok (.if_icmp .lt 6, 3) := by decide +kernel
theorem dX10_pattern_10 : decode cX10_pattern 10 = .ok (.bipush (-2), 2) := by decide +kernel
theorem dX10_pattern_12 : decode cX10_pattern 12 = .ok (.ireturn, 1) := by decide +kernel
theorem dX10_pattern_13 : decode cX10_pattern 13 = .ok (.aload_n 0, 1) := by decide +kernel
theorem dX10_pattern_14 : decode cX10_pattern 14 = .ok (.getfield 45, 3) := by decide +kernel
theorem dX10_pattern_17 : decode cX10_pattern 17 = .ok (.aload_n 0, 1) := by decide +kernel
theorem dX10_pattern_18 : decode cX10_pattern 18 = .ok (.getfield 14, 3) := by decide +kernel
theorem dX10_pattern_21 : decode cX10_pattern 21 = .ok (.invokevirtual 92, 3) := by decide +kernel
theorem dX10_pattern_24 : decode cX10_pattern 24 = .ok (.aload_n 0, 1) := by decide +kernel
theorem dX10_pattern_25 : decode cX10_pattern 25 = .ok (.getfield 14, 3) := by decide +kernel
theorem dX10_pattern_28 : decode cX10_pattern 28 = .ok (.invokevirtual 96, 3) := by decide +kernel
theorem dX10_pattern_31 : decode cX10_pattern 31 = .ok (.aload_n 0, 1) := by decide +kernel
theorem dX10_pattern_32 : decode cX10_pattern 32 = .ok (.getfield 45, 3) := by decide +kernel
theorem dX10_pattern_35 : decode cX10_pattern 35 = .ok (.getfield 99, 3) := by decide +kernel
theorem dX10_pattern_38 : decode cX10_pattern 38 = .ok (.ifCond .eq 14, 3) := by decide +kernel
theorem dX10_pattern_41 : decode cX10_pattern 41 = .ok (.bipush (-10), 2) := by decide +kernel
theorem dX10_pattern_43 : decode cX10_pattern 43 = .ok (.aload_n 0, 1) := by decide +kernel
theorem dX10_pattern_44 : decode cX10_pattern 44 = .ok (.getfield 45, 3) := by decide +kernel
theorem dX10_pattern_47 : decode cX10_pattern 47 = .ok (.getfield 99, 3) := by decide +kernel
theorem dX10_pattern_50 : decode cX10_pattern 50 = .ok (.isub, 1) := by decide +kernel
theorem dX10_pattern_51 : decode cX10_pattern 51 = .ok (.ireturn, 1) := by decide +kernel
theorem dX10_pattern_52 : decode cX10_pattern 52 = .ok (.aload_n 0, 1) := by decide +kernel
theorem dX10_pattern_53 : decode cX10_pattern 53 = .ok (.getfield 33, 3) := by decide +kernel
theorem dX10_pattern_56 : decode cX10_pattern 56 = .ok (.iload_n 1, 1) := by decide +kernel
theorem dX10_pattern_57 : decode cX10_pattern 57 = .ok (.aaload, 1) := by decide +kernel
theorem dX10_pattern_58 : decode cX10_pattern 58 = .ok (.aload_n 0, 1) := by decide +kernel
theorem dX10_pattern_59 : decode cX10_pattern 59 = .ok (.getfield 45, 3) := by decide +kernel
theorem dX10_pattern_62 : decode cX10_pattern 62 = .ok (.getfield 102, 3) := by decide +kernel
theorem dX10_pattern_65 : decode cX10_pattern 65 = .ok (.invokevirtual 105, 3) := by decide +kernel
theorem dX10_pattern_68 : decode cX10_pattern 68 = .ok (.aload_n 0, 1) := by decide +kernel
theorem dX10_pattern_69 : decode cX10_pattern 69 = .ok (.getfield 33, 3) := by decide +kernel
theorem dX10_pattern_72 : decode cX10_pattern 72 = .ok (.iload_n 1, 1) := by decide +kernel
theorem dX10_pattern_73 : decode cX10_pattern 73 = .ok (.aaload, 1) := by decide +kernel
theorem dX10_pattern_74 : decode cX10_pattern 74 = .ok (.getfield 109, 3) := by decide +kernel
theorem dX10_pattern_77 : decode cX10_pattern 77 = .ok (.ireturn, 1) := by decide +kernel
theorem dX10_place_0 : decode cX10_place 0 = .ok (.aload_n 0, 1) := by decide +kernel
theorem dX10_place_1 : decode cX10_place 1 = .ok (.getfield 45, 3) := by decide +kernel
theorem dX10_place_4 : decode cX10_place 4 = .ok (.getfield 110, 3) := by decide +kernel
theorem dX10_place_7 : decode cX10_place 7 = .ok (.ireturn, 1) := by decide +kernel
theorem dX10_has_0 : decode cX10_has 0 = .ok (.aload_n 0, 1) := by decide +kernel
theorem dX10_has_1 : decode cX10_has 1 = .ok (.iload_n 1, 1) := by decide +kernel
theorem dX10_has_2 : decode cX10_has 2 = .ok (.invokevirtual 113, 3) := by decide +kernel
theorem dX10_has_5 : decode cX10_has 5 = .ok (.ifCond .eq 27, 3) := by decide +kernel
theorem dX10_has_8 : decode cX10_has 8 = .ok (.iload_n 2, 1) := by decide +kernel
theorem dX10_has_9 : decode cX10_has 9 = .ok (.ifCond .lt 23, 3) := by decide +kernel
theorem dX10_has_12 : decode cX10_has 12 = .ok (.iload_n 2, 1) := by decide +kernel
theorem dX10_has_13 : decode cX10_has 13 = .ok (.aload_n 0, 1) := by decide +kernel
theorem dX10_has_14 : decode cX10_has 14 = .ok (.getfield 33, 3) := by decide +kernel
theorem dX10_has_17 : decode cX10_has 17 = .ok (.iload_n 1, 1) := by decide +kernel
theorem dX10_has_18 : decode cX10_has 18 = .ok (.aaload, 1) := by decide +kernel
theorem dX10_has_19 : decode cX10_has 19 = .ok (.getfield 109, 3) := by decide +kernel
theorem dX10_has_22 : decode cX10_has 22 = .ok (.if_icmp .ge 10, 3) := by decide +kernel
theorem dX10_has_25 : decode cX10_has 25 = .ok (.iload_n 3, 1) := by decide +kernel
theorem dX10_has_26 : decode cX10_has 26 = .ok (.invokestatic 81, 3) := by decide +kernel
theorem dX10_has_29 : decode cX10_has 29 = .ok (.ifCond .ne 6, 3) := by decide +kernel
theorem dX10_has_32 : decode cX10_has 32 = .ok (.bipush (-2), 2) := by decide +kernel
theorem dX10_has_34 : decode cX10_has 34 = .ok (.ireturn, 1) := by decide +kernel
theorem dX10_has_35 : decode cX10_has 35 = .ok (.aload_n 0, 1) := by decide +kernel
theorem dX10_has_36 : decode cX10_has 36 = .ok (.getfield 33, 3) := by decide +kernel
theorem dX10_has_39 : decode cX10_has 39 = .ok (.iload_n 1, 1) := by decide +kernel
theorem dX10_has_40 : decode cX10_has 40 = .ok (.aaload, 1) := by decide +kernel
theorem dX10_has_41 : decode cX10_has 41 = .ok (.iload_n 2, 1) := by decide +kernel
theorem dX10_has_42 : decode cX10_has 42 = .ok (.iload_n 3, 1) := by decide +kernel
theorem dX10_has_43 : decode cX10_has 43 = .ok (.invokevirtual 116, 3) := by decide +kernel
theorem dX10_has_46 : decode cX10_has 46 = .ok (.ifCond .eq 7, 3) := by decide +kernel
theorem dX10_has_49 : decode cX10_has 49 = .ok (.iconst 1, 1) := by decide +kernel
theorem dX10_has_50 : decode cX10_has 50 = .ok (.goto 4, 3) := by decide +kernel
theorem dX10_has_53 : decode cX10_has 53 = .ok (.iconst 0, 1) := by decide +kernel
theorem dX10_has_54 : decode cX10_has 54 = .ok (.ireturn, 1) := by decide +kernel
theorem dX10_insert_0 : decode cX10_insert 0 = .ok (.iload_n 1, 1) := by decide +kernel
theorem dX10_insert_1 : decode cX10_insert 1 = .ok (.ifCond .lt 14, 3) := by decide +kernel
theorem dX10_insert_4 : decode cX10_insert 4 = .ok (.iload_n 1, 1) := by decide +kernel
theorem dX10_insert_5 : decode cX10_insert 5 = .ok (.aload_n 0, 1) := by decide +kernel
theorem dX10_insert_6 : decode cX10_insert 6 = .ok (.getfield 18, 3) := by decide +kernel
theorem dX10_insert_9 : decode cX10_insert 9 = .ok (.getfield 85, 3) := by decide +kernel
theorem dX10_insert_12 : decode cX10_insert 12 = .ok (.if_icmp .le 6, 3) := by decide +kernel
theorem dX10_insert_15 : decode cX10_insert 15 = .ok (.bipush (-2), 2) := by decide +kernel
theorem dX10_insert_17 : decode cX10_insert 17 = .ok (.ireturn, 1) := by decide +kernel
theorem dX10_insert_18 : decode cX10_insert 18 = .ok (.aload_n 0, 1) := by decide +kernel
theorem dX10_insert_19 : decode cX10_insert 19 = .ok (.getfield 18, 3) := by decide +kernel
theorem dX10_insert_22 : decode cX10_insert 22 = .ok (.getfield 85, 3) := by decide +kernel
theorem dX10_insert_25 : decode cX10_insert 25 = .ok (.aload_n 0, 1) := by decide +kernel
theorem dX10_insert_26 : decode cX10_insert 26 = .ok (.getfield 14, 3) := by decide +kernel
theorem dX10_insert_29 : decode cX10_insert 29 = .ok (.getfield 85, 3) := by decide +kernel
theorem dX10_insert_32 : decode cX10_insert 32 = .ok (.iadd, 1) := by decide +kernel
theorem dX10_insert_33 : decode cX10_insert 33 = .ok (.sipush 1500, 3) := by decide +kernel
theorem dX10_insert_36 : decode cX10_insert 36 = .ok (.if_icmp .le 6, 3) := by decide +kernel
theorem dX10_insert_39 : decode cX10_insert 39 = .ok (.bipush (-3), 2) := by decide +kernel
theorem dX10_insert_41 : decode cX10_insert 41 = .ok (.ireturn, 1) := by decide +kernel
theorem dX10_insert_42 : decode cX10_insert 42 = .ok (.aload_n 0, 1) := by decide +kernel
theorem dX10_insert_43 : decode cX10_insert 43 = .ok (.getfield 27, 3) := by decide +kernel
theorem dX10_insert_46 : decode cX10_insert 46 = .ok (.aload_n 0, 1) := by decide +kernel
theorem dX10_insert_47 : decode cX10_insert 47 = .ok (.getfield 18, 3) := by decide +kernel
theorem dX10_insert_50 : decode cX10_insert 50 = .ok (.invokevirtual 120, 3) := by decide +kernel
theorem dX10_insert_53 : decode cX10_insert 53 = .ok (.aload_n 0, 1) := by decide +kernel
theorem dX10_insert_54 : decode cX10_insert 54 = .ok (.getfield 18, 3) := by decide +kernel
theorem dX10_insert_57 : decode cX10_insert 57 = .ok (.iload_n 1, 1) := by decide +kernel
theorem dX10_insert_58 : decode cX10_insert 58 = .ok (.aload_n 0, 1) := by decide +kernel
theorem dX10_insert_59 : decode cX10_insert 59 = .ok (.getfield 14, 3) := by decide +kernel
theorem dX10_insert_62 : decode cX10_insert 62 = .ok (.invokevirtual 123, 3) := by decide +kernel
theorem dX10_insert_65 : decode cX10_insert 65 = .ok (.aload_n 0, 1) := by decide +kernel
theorem dX10_insert_66 : decode cX10_insert 66 = .ok (.getfield 14, 3) := by decide +kernel
theorem dX10_insert_69 : decode cX10_insert 69 = .ok (.invokevirtual 96, 3) := by decide +kernel
theorem dX10_insert_72 : decode cX10_insert 72 = .ok (.aload_n 0, 1) := by decide +kernel
theorem dX10_insert_73 : decode cX10_insert 73 = .ok (.getfield 18, 3) := by decide +kernel
theorem dX10_insert_76 : decode cX10_insert 76 = .ok (.getfield 85, 3) := by decide +kernel
theorem dX10_insert_79 : decode cX10_insert 79 = .ok (.ireturn, 1) := by decide +kernel
theorem dX10_cut_0 : decode cX10_cut 0 = .ok (.aload_n 0, 1) := by decide +kernel
theorem dX10_cut_1 : decode cX10_cut 1 = .ok (.getfield 18, 3) := by decide +kernel
theorem dX10_cut_4 : decode cX10_cut 4 = .ok (.iload_n 1, 1) := by decide +kernel
theorem dX10_cut_5 : decode cX10_cut 5 = .ok (.iload_n 2, 1) := by decide +kernel
theorem dX10_cut_6 : decode cX10_cut 6 = .ok (.invokevirtual 127, 3) := by decide +kernel
theorem dX10_cut_9 : decode cX10_cut 9 = .ok (.ifCond .ne 6, 3) := by decide +kernel
theorem dX10_cut_12 : decode cX10_cut 12 = .ok (.bipush (-2), 2) := by decide +kernel
theorem dX10_cut_14 : decode cX10_cut 14 = .ok (.ireturn, 1) := by decide +kernel
theorem dX10_cut_15 : decode cX10_cut 15 = .ok (.aload_n 0, 1) := by decide +kernel
theorem dX10_cut_16 : decode cX10_cut 16 = .ok (.getfield 27, 3) := by decide +kernel
theorem dX10_cut_19 : decode cX10_cut 19 = .ok (.aload_n 0, 1) := by decide +kernel
theorem dX10_cut_20 : decode cX10_cut 20 = .ok (.getfield 18, 3) := by decide +kernel
theorem dX10_cut_23 : decode cX10_cut 23 = .ok (.invokevirtual 120, 3) := by decide +kernel
theorem dX10_cut_26 : decode cX10_cut 26 = .ok (.aload_n 0, 1) := by decide +kernel
theorem dX10_cut_27 : decode cX10_cut 27 = .ok (.getfield 18, 3) := by decide +kernel
theorem dX10_cut_30 : decode cX10_cut 30 = .ok (.iload_n 1, 1) := by decide +kernel
theorem dX10_cut_31 : decode cX10_cut 31 = .ok (.iload_n 2, 1) := by decide +kernel
theorem dX10_cut_32 : decode cX10_cut 32 = .ok (.invokevirtual 130, 3) := by decide +kernel
theorem dX10_cut_35 : decode cX10_cut 35 = .ok (.aload_n 0, 1) := by decide +kernel
theorem dX10_cut_36 : decode cX10_cut 36 = .ok (.getfield 18, 3) := by decide +kernel
theorem dX10_cut_39 : decode cX10_cut 39 = .ok (.getfield 85, 3) := by decide +kernel
theorem dX10_cut_42 : decode cX10_cut 42 = .ok (.ireturn, 1) := by decide +kernel
theorem dX10_undo_0 : decode cX10_undo 0 = .ok (.aload_n 0, 1) := by decide +kernel
theorem dX10_undo_1 : decode cX10_undo 1 = .ok (.getfield 27, 3) := by decide +kernel
theorem dX10_undo_4 : decode cX10_undo 4 = .ok (.aload_n 0, 1) := by decide +kernel
theorem dX10_undo_5 : decode cX10_undo 5 = .ok (.getfield 18, 3) := by decide +kernel
theorem dX10_undo_8 : decode cX10_undo 8 = .ok (.invokevirtual 134, 3) := by decide +kernel
theorem dX10_undo_11 : decode cX10_undo 11 = .ok (.ifCond .eq 13, 3) := by decide +kernel
theorem dX10_undo_14 : decode cX10_undo 14 = .ok (.aload_n 0, 1) := by decide +kernel
theorem dX10_undo_15 : decode cX10_undo 15 = .ok (.getfield 18, 3) := by decide +kernel
theorem dX10_undo_18 : decode cX10_undo 18 = .ok (.getfield 85, 3) := by decide +kernel
theorem dX10_undo_21 : decode cX10_undo 21 = .ok (.goto 4, 3) := by decide +kernel
theorem dX10_undo_24 : decode cX10_undo 24 = .ok (.iconst (-1), 1) := by decide +kernel
theorem dX10_undo_25 : decode cX10_undo 25 = .ok (.ireturn, 1) := by decide +kernel
theorem dX10_byteAt_0 : decode cX10_byteAt 0 = .ok (.aload_n 0, 1) := by decide +kernel
theorem dX10_byteAt_1 : decode cX10_byteAt 1 = .ok (.getfield 18, 3) := by decide +kernel
theorem dX10_byteAt_4 : decode cX10_byteAt 4 = .ok (.iload_n 1, 1) := by decide +kernel
theorem dX10_byteAt_5 : decode cX10_byteAt 5 = .ok (.invokevirtual 138, 3) := by decide +kernel
theorem dX10_byteAt_8 : decode cX10_byteAt 8 = .ok (.ireturn, 1) := by decide +kernel
theorem dX10_length_0 : decode cX10_length 0 = .ok (.aload_n 0, 1) := by decide +kernel
theorem dX10_length_1 : decode cX10_length 1 = .ok (.getfield 18, 3) := by decide +kernel
theorem dX10_length_4 : decode cX10_length 4 = .ok (.getfield 85, 3) := by decide +kernel
theorem dX10_length_7 : decode cX10_length 7 = .ok (.ireturn, 1) := by decide +kernel
theorem dX10_find_0 : decode cX10_find 0 = .ok (.aload_n 0, 1) := by decide +kernel
theorem dX10_find_1 : decode cX10_find 1 = .ok (.iload_n 1, 1) := by decide +kernel
theorem dX10_find_2 : decode cX10_find 2 = .ok (.invokevirtual 113, 3) := by decide +kernel
theorem dX10_find_5 : decode cX10_find 5 = .ok (.ifCond .eq 10, 3) := by decide +kernel
theorem dX10_find_8 : decode cX10_find 8 = .ok (.iload_n 2, 1) := by decide +kernel
theorem dX10_find_9 : decode cX10_find 9 = .ok (.invokestatic 142, 3) := by decide +kernel
theorem dX10_find_12 : decode cX10_find 12 = .ok (.ifCond .ne 6, 3) := by decide +kernel
theorem dX10_find_15 : decode cX10_find 15 = .ok (.bipush (-2), 2) := by decide +kernel
theorem dX10_find_17 : decode cX10_find 17 = .ok (.ireturn, 1) := by decide +kernel
theorem dX10_find_18 : decode cX10_find 18 = .ok (.aload_n 0, 1) := by decide +kernel
theorem dX10_find_19 : decode cX10_find 19 = .ok (.getfield 66, 3) := by decide +kernel
theorem dX10_find_22 : decode cX10_find 22 = .ok (.aload_n 0, 1) := by decide +kernel
theorem dX10_find_23 : decode cX10_find 23 = .ok (.getfield 33, 3) := by decide +kernel
theorem dX10_find_26 : decode cX10_find 26 = .ok (.iload_n 1, 1) := by decide +kernel
theorem dX10_find_27 : decode cX10_find 27 = .ok (.aaload, 1) := by decide +kernel
theorem dX10_find_28 : decode cX10_find 28 = .ok (.aload_n 0, 1) := by decide +kernel
theorem dX10_find_29 : decode cX10_find 29 = .ok (.getfield 18, 3) := by decide +kernel
theorem dX10_find_32 : decode cX10_find 32 = .ok (.iload_n 3, 1) := by decide +kernel
theorem dX10_find_33 : decode cX10_find 33 = .ok (.invokevirtual 145, 3) := by decide +kernel
theorem dX10_find_36 : decode cX10_find 36 = .ok (.aload_n 0, 1) := by decide +kernel
theorem dX10_find_37 : decode cX10_find 37 = .ok (.getfield 52, 3) := by decide +kernel
theorem dX10_find_40 : decode cX10_find 40 = .ok (.aload_n 0, 1) := by decide +kernel
theorem dX10_find_41 : decode cX10_find 41 = .ok (.getfield 33, 3) := by decide +kernel
theorem dX10_find_44 : decode cX10_find 44 = .ok (.iload_n 1, 1) := by decide +kernel
theorem dX10_find_45 : decode cX10_find 45 = .ok (.aaload, 1) := by decide +kernel
theorem dX10_find_46 : decode cX10_find 46 = .ok (.iload_n 2, 1) := by decide +kernel
theorem dX10_find_47 : decode cX10_find 47 = .ok (.iload_n 3, 1) := by decide +kernel
theorem dX10_find_48 : decode cX10_find 48 = .ok (.invokevirtual 149, 3) := by decide +kernel
theorem dX10_find_51 : decode cX10_find 51 = .ok (.aload_n 0, 1) := by decide +kernel
theorem dX10_find_52 : decode cX10_find 52 = .ok (.getfield 52, 3) := by decide +kernel
theorem dX10_find_55 : decode cX10_find 55 = .ok (.iconst 0, 1) := by decide +kernel
theorem dX10_find_56 : decode cX10_find 56 = .ok (.invokevirtual 153, 3) := by decide +kernel
theorem dX10_find_59 : decode cX10_find 59 = .ok (.iconst 1, 1) := by decide +kernel
theorem dX10_find_60 : decode cX10_find 60 = .ok (.istore 4, 2) := by decide +kernel
theorem dX10_find_62 : decode cX10_find 62 = .ok (.iload 4, 2) := by decide +kernel
theorem dX10_find_64 : decode cX10_find 64 = .ok (.aload_n 0, 1) := by decide +kernel
theorem dX10_find_65 : decode cX10_find 65 = .ok (.getfield 18, 3) := by decide +kernel
theorem dX10_find_68 : decode cX10_find 68 = .ok (.getfield 85, 3) := by decide +kernel
theorem dX10_find_71 : decode cX10_find 71 = .ok (.if_icmp .gt 60, 3) := by decide +kernel
theorem dX10_find_74 : decode cX10_find 74 = .ok (.aload_n 0, 1) := by decide +kernel
theorem dX10_find_75 : decode cX10_find 75 = .ok (.getfield 52, 3) := by decide +kernel
theorem dX10_find_78 : decode cX10_find 78 = .ok (.aload_n 0, 1) := by decide +kernel
theorem dX10_find_79 : decode cX10_find 79 = .ok (.getfield 18, 3) := by decide +kernel
theorem dX10_find_82 : decode cX10_find 82 = .ok (.iload 4, 2) := by decide +kernel
theorem dX10_find_84 : decode cX10_find 84 = .ok (.iconst 1, 1) := by decide +kernel
theorem dX10_find_85 : decode cX10_find 85 = .ok (.isub, 1) := by decide +kernel
theorem dX10_find_86 : decode cX10_find 86 = .ok (.invokevirtual 138, 3) := by decide +kernel
theorem dX10_find_89 : decode cX10_find 89 = .ok (.invokevirtual 156, 3) := by decide +kernel
theorem dX10_find_92 : decode cX10_find 92 = .ok (.aload_n 0, 1) := by decide +kernel
theorem dX10_find_93 : decode cX10_find 93 = .ok (.getfield 52, 3) := by decide +kernel
theorem dX10_find_96 : decode cX10_find 96 = .ok (.invokevirtual 159, 3) := by decide +kernel
theorem dX10_find_99 : decode cX10_find 99 = .ok (.ifCond .eq 26, 3) := by decide +kernel
theorem dX10_find_102 : decode cX10_find 102 = .ok (.aload_n 0, 1) := by decide +kernel
theorem dX10_find_103 : decode cX10_find 103 = .ok (.getfield 66, 3) := by decide +kernel
theorem dX10_find_106 : decode cX10_find 106 = .ok (.iload 4, 2) := by decide +kernel
theorem dX10_find_108 : decode cX10_find 108 = .ok (.aload_n 0, 1) := by decide +kernel
theorem dX10_find_109 : decode cX10_find 109 = .ok (.getfield 52, 3) := by decide +kernel
theorem dX10_find_112 : decode cX10_find 112 = .ok (.invokevirtual 163, 3) := by decide +kernel
theorem dX10_find_115 : decode cX10_find 115 = .ok (.aload_n 0, 1) := by decide +kernel
theorem dX10_find_116 : decode cX10_find 116 = .ok (.getfield 52, 3) := by decide +kernel
theorem dX10_find_119 : decode cX10_find 119 = .ok (.invokevirtual 167, 3) := by decide +kernel
theorem dX10_find_122 : decode cX10_find 122 = .ok (.invokevirtual 170, 3) := by decide +kernel
theorem dX10_find_125 : decode cX10_find 125 = .ok (.iinc 4 1, 3) := by decide +kernel
theorem dX10_find_128 : decode cX10_find 128 = .ok (.goto (-66), 3) := by decide +kernel
theorem dX10_find_131 : decode cX10_find 131 = .ok (.aload_n 0, 1) := by decide +kernel
theorem dX10_find_132 : decode cX10_find 132 = .ok (.getfield 66, 3) := by decide +kernel
theorem dX10_find_135 : decode cX10_find 135 = .ok (.getfield 173, 3) := by decide +kernel
theorem dX10_find_138 : decode cX10_find 138 = .ok (.ireturn, 1) := by decide +kernel
theorem dX10_hit_0 : decode cX10_hit 0 = .ok (.iload_n 1, 1) := by decide +kernel
theorem dX10_hit_1 : decode cX10_hit 1 = .ok (.ifCond .lt 14, 3) := by decide +kernel
theorem dX10_hit_4 : decode cX10_hit 4 = .ok (.iload_n 1, 1) := by decide +kernel
theorem dX10_hit_5 : decode cX10_hit 5 = .ok (.aload_n 0, 1) := by decide +kernel
theorem dX10_hit_6 : decode cX10_hit 6 = .ok (.getfield 66, 3) := by decide +kernel
theorem dX10_hit_9 : decode cX10_hit 9 = .ok (.getfield 173, 3) := by decide +kernel
theorem dX10_hit_12 : decode cX10_hit 12 = .ok (.if_icmp .lt 6, 3) := by decide +kernel
theorem dX10_hit_15 : decode cX10_hit 15 = .ok (.bipush (-2), 2) := by decide +kernel
theorem dX10_hit_17 : decode cX10_hit 17 = .ok (.ireturn, 1) := by decide +kernel
theorem dX10_hit_18 : decode cX10_hit 18 = .ok (.iload_n 2, 1) := by decide +kernel
theorem dX10_hit_19 : decode cX10_hit 19 = .ok (.tableswitch 82 0 3 #[29, 39, 49, 59], 29) := by decide +kernel
theorem dX10_hit_48 : decode cX10_hit 48 = .ok (.aload_n 0, 1) := by decide +kernel
theorem dX10_hit_49 : decode cX10_hit 49 = .ok (.getfield 66, 3) := by decide +kernel
theorem dX10_hit_52 : decode cX10_hit 52 = .ok (.getfield 176, 3) := by decide +kernel
theorem dX10_hit_55 : decode cX10_hit 55 = .ok (.iload_n 1, 1) := by decide +kernel
theorem dX10_hit_56 : decode cX10_hit 56 = .ok (.iaload, 1) := by decide +kernel
theorem dX10_hit_57 : decode cX10_hit 57 = .ok (.ireturn, 1) := by decide +kernel
theorem dX10_hit_58 : decode cX10_hit 58 = .ok (.aload_n 0, 1) := by decide +kernel
theorem dX10_hit_59 : decode cX10_hit 59 = .ok (.getfield 66, 3) := by decide +kernel
theorem dX10_hit_62 : decode cX10_hit 62 = .ok (.getfield 180, 3) := by decide +kernel
theorem dX10_hit_65 : decode cX10_hit 65 = .ok (.iload_n 1, 1) := by decide +kernel
theorem dX10_hit_66 : decode cX10_hit 66 = .ok (.iaload, 1) := by decide +kernel
theorem dX10_hit_67 : decode cX10_hit 67 = .ok (.ireturn, 1) := by decide +kernel
theorem dX10_hit_68 : decode cX10_hit 68 = .ok (.aload_n 0, 1) := by decide +kernel
theorem dX10_hit_69 : decode cX10_hit 69 = .ok (.getfield 66, 3) := by decide +kernel
theorem dX10_hit_72 : decode cX10_hit 72 = .ok (.getfield 182, 3) := by decide +kernel
theorem dX10_hit_75 : decode cX10_hit 75 = .ok (.iload_n 1, 1) := by decide +kernel
theorem dX10_hit_76 : decode cX10_hit 76 = .ok (.iaload, 1) := by decide +kernel
theorem dX10_hit_77 : decode cX10_hit 77 = .ok (.ireturn, 1) := by decide +kernel
theorem dX10_hit_78 : decode cX10_hit 78 = .ok (.aload_n 0, 1) := by decide +kernel
theorem dX10_hit_79 : decode cX10_hit 79 = .ok (.getfield 66, 3) := by decide +kernel
theorem dX10_hit_82 : decode cX10_hit 82 = .ok (.iload_n 1, 1) := by decide +kernel
theorem dX10_hit_83 : decode cX10_hit 83 = .ok (.aload_n 0, 1) := by decide +kernel
theorem dX10_hit_84 : decode cX10_hit 84 = .ok (.getfield 59, 3) := by decide +kernel
theorem dX10_hit_87 : decode cX10_hit 87 = .ok (.invokevirtual 185, 3) := by decide +kernel
theorem dX10_hit_90 : decode cX10_hit 90 = .ok (.aload_n 0, 1) := by decide +kernel
theorem dX10_hit_91 : decode cX10_hit 91 = .ok (.getfield 66, 3) := by decide +kernel
theorem dX10_hit_94 : decode cX10_hit 94 = .ok (.getfield 189, 3) := by decide +kernel
theorem dX10_hit_97 : decode cX10_hit 97 = .ok (.getfield 193, 3) := by decide +kernel
theorem dX10_hit_100 : decode cX10_hit 100 = .ok (.ireturn, 1) := by decide +kernel
theorem dX10_hit_101 : decode cX10_hit 101 = .ok (.bipush (-2), 2) := by decide +kernel
theorem dX10_hit_103 : decode cX10_hit 103 = .ok (.ireturn, 1) := by decide +kernel
theorem dX10_step_0 : decode cX10_step 0 = .ok (.iload_n 1, 1) := by decide +kernel
theorem dX10_step_1 : decode cX10_step 1 = .ok (.ifCond .lt 14, 3) := by decide +kernel
theorem dX10_step_4 : decode cX10_step 4 = .ok (.iload_n 1, 1) := by decide +kernel
theorem dX10_step_5 : decode cX10_step 5 = .ok (.aload_n 0, 1) := by decide +kernel
theorem dX10_step_6 : decode cX10_step 6 = .ok (.getfield 66, 3) := by decide +kernel
theorem dX10_step_9 : decode cX10_step 9 = .ok (.getfield 173, 3) := by decide +kernel
theorem dX10_step_12 : decode cX10_step 12 = .ok (.if_icmp .lt 6, 3) := by decide +kernel
theorem dX10_step_15 : decode cX10_step 15 = .ok (.bipush (-2), 2) := by decide +kernel
theorem dX10_step_17 : decode cX10_step 17 = .ok (.ireturn, 1) := by decide +kernel
theorem dX10_step_18 : decode cX10_step 18 = .ok (.aload_n 0, 1) := by decide +kernel
theorem dX10_step_19 : decode cX10_step 19 = .ok (.getfield 66, 3) := by decide +kernel
theorem dX10_step_22 : decode cX10_step 22 = .ok (.iload_n 1, 1) := by decide +kernel
theorem dX10_step_23 : decode cX10_step 23 = .ok (.aload_n 0, 1) := by decide +kernel
theorem dX10_step_24 : decode cX10_step 24 = .ok (.getfield 59, 3) := by decide +kernel
theorem dX10_step_27 : decode cX10_step 27 = .ok (.invokevirtual 185, 3) := by decide +kernel
theorem dX10_step_30 : decode cX10_step 30 = .ok (.aload_n 0, 1) := by decide +kernel
theorem dX10_step_31 : decode cX10_step 31 = .ok (.getfield 66, 3) := by decide +kernel
theorem dX10_step_34 : decode cX10_step 34 = .ok (.getfield 189, 3) := by decide +kernel
theorem dX10_step_37 : decode cX10_step 37 = .ok (.iload_n 2, 1) := by decide +kernel
theorem dX10_step_38 : decode cX10_step 38 = .ok (.invokevirtual 196, 3) := by decide +kernel
theorem dX10_step_41 : decode cX10_step 41 = .ok (.ireturn, 1) := by decide +kernel
theorem dX10_nearest_0 : decode cX10_nearest 0 = .ok (.aload_n 0, 1) := by decide +kernel
theorem dX10_nearest_1 : decode cX10_nearest 1 = .ok (.iload_n 1, 1) := by decide +kernel
theorem dX10_nearest_2 : decode cX10_nearest 2 = .ok (.invokevirtual 113, 3) := by decide +kernel
theorem dX10_nearest_5 : decode cX10_nearest 5 = .ok (.ifCond .eq 12, 3) := by decide +kernel
theorem dX10_nearest_8 : decode cX10_nearest 8 = .ok (.iload_n 3, 1) := by decide +kernel
theorem dX10_nearest_9 : decode cX10_nearest 9 = .ok (.ifCond .lt 8, 3) := by decide +kernel
theorem dX10_nearest_12 : decode cX10_nearest 12 = .ok (.iload_n 3, 1) := by decide +kernel
theorem dX10_nearest_13 : decode cX10_nearest 13 = .ok (.iconst 1, 1) := by decide +kernel
theorem dX10_nearest_14 : decode cX10_nearest 14 = .ok (.if_icmp .le 6, 3) := by decide +kernel
theorem dX10_nearest_17 : decode cX10_nearest 17 = .ok (.bipush (-2), 2) := by decide +kernel
theorem dX10_nearest_19 : decode cX10_nearest 19 = .ok (.ireturn, 1) := by decide +kernel
theorem dX10_nearest_20 : decode cX10_nearest 20 = .ok (.aload_n 0, 1) := by decide +kernel
theorem dX10_nearest_21 : decode cX10_nearest 21 = .ok (.getfield 52, 3) := by decide +kernel
theorem dX10_nearest_24 : decode cX10_nearest 24 = .ok (.aload_n 0, 1) := by decide +kernel
theorem dX10_nearest_25 : decode cX10_nearest 25 = .ok (.getfield 33, 3) := by decide +kernel
theorem dX10_nearest_28 : decode cX10_nearest 28 = .ok (.iload_n 1, 1) := by decide +kernel
theorem dX10_nearest_29 : decode cX10_nearest 29 = .ok (.aaload, 1) := by decide +kernel
theorem dX10_nearest_30 : decode cX10_nearest 30 = .ok (.aload_n 0, 1) := by decide +kernel
theorem dX10_nearest_31 : decode cX10_nearest 31 = .ok (.getfield 33, 3) := by decide +kernel
theorem dX10_nearest_34 : decode cX10_nearest 34 = .ok (.iload_n 1, 1) := by decide +kernel
theorem dX10_nearest_35 : decode cX10_nearest 35 = .ok (.aaload, 1) := by decide +kernel
theorem dX10_nearest_36 : decode cX10_nearest 36 = .ok (.getfield 109, 3) := by decide +kernel
theorem dX10_nearest_39 : decode cX10_nearest 39 = .ok (.iload_n 2, 1) := by decide +kernel
theorem dX10_nearest_40 : decode cX10_nearest 40 = .ok (.invokevirtual 149, 3) := by decide +kernel
theorem dX10_nearest_43 : decode cX10_nearest 43 = .ok (.aload_n 0, 1) := by decide +kernel
theorem dX10_nearest_44 : decode cX10_nearest 44 = .ok (.getfield 52, 3) := by decide +kernel
theorem dX10_nearest_47 : decode cX10_nearest 47 = .ok (.iconst 0, 1) := by decide +kernel
theorem dX10_nearest_48 : decode cX10_nearest 48 = .ok (.invokevirtual 153, 3) := by decide +kernel
theorem dX10_nearest_51 : decode cX10_nearest 51 = .ok (.iconst (-1), 1) := by decide +kernel
theorem dX10_nearest_52 : decode cX10_nearest 52 = .ok (.istore 4, 2) := by decide +kernel
theorem dX10_nearest_54 : decode cX10_nearest 54 = .ok (.iconst (-1), 1) := by decide +kernel
theorem dX10_nearest_55 : decode cX10_nearest 55 = .ok (.istore 5, 2) := by decide +kernel
theorem dX10_nearest_57 : decode cX10_nearest 57 = .ok (.iconst 1, 1) := by decide +kernel
theorem dX10_nearest_58 : decode cX10_nearest 58 = .ok (.istore 6, 2) := by decide +kernel
theorem dX10_nearest_60 : decode cX10_nearest 60 = .ok (.iload 6, 2) := by decide +kernel
theorem dX10_nearest_62 : decode cX10_nearest 62 = .ok (.aload_n 0, 1) := by decide +kernel
theorem dX10_nearest_63 : decode cX10_nearest 63 = .ok (.getfield 18, 3) := by decide +kernel
theorem dX10_nearest_66 : decode cX10_nearest 66 = .ok (.getfield 85, 3) := by decide +kernel
theorem dX10_nearest_69 : decode cX10_nearest 69 = .ok (.if_icmp .gt 66, 3) := by decide +kernel
theorem dX10_nearest_72 : decode cX10_nearest 72 = .ok (.iload 4, 2) := by decide +kernel
theorem dX10_nearest_74 : decode cX10_nearest 74 = .ok (.ifCond .eq 61, 3) := by decide +kernel
theorem dX10_nearest_77 : decode cX10_nearest 77 = .ok (.aload_n 0, 1) := by decide +kernel
theorem dX10_nearest_78 : decode cX10_nearest 78 = .ok (.getfield 52, 3) := by decide +kernel
theorem dX10_nearest_81 : decode cX10_nearest 81 = .ok (.aload_n 0, 1) := by decide +kernel
theorem dX10_nearest_82 : decode cX10_nearest 82 = .ok (.getfield 18, 3) := by decide +kernel
theorem dX10_nearest_85 : decode cX10_nearest 85 = .ok (.iload 6, 2) := by decide +kernel
theorem dX10_nearest_87 : decode cX10_nearest 87 = .ok (.iconst 1, 1) := by decide +kernel
theorem dX10_nearest_88 : decode cX10_nearest 88 = .ok (.isub, 1) := by decide +kernel
theorem dX10_nearest_89 : decode cX10_nearest 89 = .ok (.invokevirtual 138, 3) := by decide +kernel
theorem dX10_nearest_92 : decode cX10_nearest 92 = .ok (.invokevirtual 156, 3) := by decide +kernel
theorem dX10_nearest_95 : decode cX10_nearest 95 = .ok (.aload_n 0, 1) := by decide +kernel
theorem dX10_nearest_96 : decode cX10_nearest 96 = .ok (.getfield 52, 3) := by decide +kernel
theorem dX10_nearest_99 : decode cX10_nearest 99 = .ok (.invokevirtual 159, 3) := by decide +kernel
theorem dX10_nearest_102 : decode cX10_nearest 102 = .ok (.ifCond .eq 27, 3) := by decide +kernel
theorem dX10_nearest_105 : decode cX10_nearest 105 = .ok (.aload_n 0, 1) := by decide +kernel
theorem dX10_nearest_106 : decode cX10_nearest 106 = .ok (.getfield 52, 3) := by decide +kernel
theorem dX10_nearest_109 : decode cX10_nearest 109 = .ok (.invokevirtual 163, 3) := by decide +kernel
theorem dX10_nearest_112 : decode cX10_nearest 112 = .ok (.istore 4, 2) := by decide +kernel
theorem dX10_nearest_114 : decode cX10_nearest 114 = .ok (.iload 6, 2) := by decide +kernel
theorem dX10_nearest_116 : decode cX10_nearest 116 = .ok (.istore 5, 2) := by decide +kernel
theorem dX10_nearest_118 : decode cX10_nearest 118 = .ok (.aload_n 0, 1) := by decide +kernel
theorem dX10_nearest_119 : decode cX10_nearest 119 = .ok (.getfield 52, 3) := by decide +kernel
theorem dX10_nearest_122 : decode cX10_nearest 122 = .ok (.iload 4, 2) := by decide +kernel
theorem dX10_nearest_124 : decode cX10_nearest 124 = .ok (.iconst 1, 1) := by decide +kernel
theorem dX10_nearest_125 : decode cX10_nearest 125 = .ok (.isub, 1) := by decide +kernel
theorem dX10_nearest_126 : decode cX10_nearest 126 = .ok (.invokevirtual 197, 3) := by decide +kernel
theorem dX10_nearest_129 : decode cX10_nearest 129 = .ok (.iinc 6 1, 3) := by decide +kernel
theorem dX10_nearest_132 : decode cX10_nearest 132 = .ok (.goto (-72), 3) := by decide +kernel
theorem dX10_nearest_135 : decode cX10_nearest 135 = .ok (.iload_n 3, 1) := by decide +kernel
theorem dX10_nearest_136 : decode cX10_nearest 136 = .ok (.ifCond .ne 8, 3) := by decide +kernel
theorem dX10_nearest_139 : decode cX10_nearest 139 = .ok (.iload 4, 2) := by decide +kernel
theorem dX10_nearest_141 : decode cX10_nearest 141 = .ok (.goto 5, 3) := by decide +kernel
theorem dX10_nearest_144 : decode cX10_nearest 144 = .ok (.iload 5, 2) := by decide +kernel
theorem dX10_nearest_146 : decode cX10_nearest 146 = .ok (.ireturn, 1) := by decide +kernel
theorem dX10_lines_0 : decode cX10_lines 0 = .ok (.aload_n 0, 1) := by decide +kernel
theorem dX10_lines_1 : decode cX10_lines 1 = .ok (.iload_n 1, 1) := by decide +kernel
theorem dX10_lines_2 : decode cX10_lines 2 = .ok (.invokevirtual 113, 3) := by decide +kernel
theorem dX10_lines_5 : decode cX10_lines 5 = .ok (.ifCond .eq 10, 3) := by decide +kernel
theorem dX10_lines_8 : decode cX10_lines 8 = .ok (.iload_n 2, 1) := by decide +kernel
theorem dX10_lines_9 : decode cX10_lines 9 = .ok (.invokestatic 142, 3) := by decide +kernel
end
section
theorem dX10_lines_12 : decode cX10_lines 12 = .ok (.ifCond .ne 6, 3) := by decide +kernel
theorem dX10_lines_15 : decode cX10_lines 15 = .ok (.bipush (-2), 2) := by decide +kernel
theorem dX10_lines_17 : decode cX10_lines 17 = .ok (.ireturn, 1) := by decide +kernel
theorem dX10_lines_18 : decode cX10_lines 18 = .ok (.aload_n 0, 1) := by decide +kernel
theorem dX10_lines_19 : decode cX10_lines 19 = .ok (.getfield 73, 3) := by decide +kernel
theorem dX10_lines_22 : decode cX10_lines 22 = .ok (.invokevirtual 200, 3) := by decide +kernel
theorem dX10_lines_25 : decode cX10_lines 25 = .ok (.aload_n 0, 1) := by decide +kernel
theorem dX10_lines_26 : decode cX10_lines 26 = .ok (.getfield 52, 3) := by decide +kernel
theorem dX10_lines_29 : decode cX10_lines 29 = .ok (.aload_n 0, 1) := by decide +kernel
theorem dX10_lines_30 : decode cX10_lines 30 = .ok (.getfield 33, 3) := by decide +kernel
theorem dX10_lines_33 : decode cX10_lines 33 = .ok (.iload_n 1, 1) := by decide +kernel
theorem dX10_lines_34 : decode cX10_lines 34 = .ok (.aaload, 1) := by decide +kernel
theorem dX10_lines_35 : decode cX10_lines 35 = .ok (.iload_n 2, 1) := by decide +kernel
theorem dX10_lines_36 : decode cX10_lines 36 = .ok (.iload_n 3, 1) := by decide +kernel
theorem dX10_lines_37 : decode cX10_lines 37 = .ok (.invokevirtual 149, 3) := by decide +kernel
theorem dX10_lines_40 : decode cX10_lines 40 = .ok (.aload_n 0, 1) := by decide +kernel
theorem dX10_lines_41 : decode cX10_lines 41 = .ok (.getfield 52, 3) := by decide +kernel
theorem dX10_lines_44 : decode cX10_lines 44 = .ok (.iconst 0, 1) := by decide +kernel
theorem dX10_lines_45 : decode cX10_lines 45 = .ok (.invokevirtual 153, 3) := by decide +kernel
theorem dX10_lines_48 : decode cX10_lines 48 = .ok (.iconst 0, 1) := by decide +kernel
theorem dX10_lines_49 : decode cX10_lines 49 = .ok (.istore 4, 2) := by decide +kernel
theorem dX10_lines_51 : decode cX10_lines 51 = .ok (.iconst 0, 1) := by decide +kernel
theorem dX10_lines_52 : decode cX10_lines 52 = .ok (.istore 5, 2) := by decide +kernel
theorem dX10_lines_54 : decode cX10_lines 54 = .ok (.iconst 0, 1) := by decide +kernel
theorem dX10_lines_55 : decode cX10_lines 55 = .ok (.istore 6, 2) := by decide +kernel
theorem dX10_lines_57 : decode cX10_lines 57 = .ok (.iload 6, 2) := by decide +kernel
theorem dX10_lines_59 : decode cX10_lines 59 = .ok (.aload_n 0, 1) := by decide +kernel
theorem dX10_lines_60 : decode cX10_lines 60 = .ok (.getfield 18, 3) := by decide +kernel
theorem dX10_lines_63 : decode cX10_lines 63 = .ok (.getfield 85, 3) := by decide +kernel
theorem dX10_lines_66 : decode cX10_lines 66 = .ok (.if_icmp .ge 84, 3) := by decide +kernel
theorem dX10_lines_69 : decode cX10_lines 69 = .ok (.aload_n 0, 1) := by decide +kernel
theorem dX10_lines_70 : decode cX10_lines 70 = .ok (.getfield 18, 3) := by decide +kernel
theorem dX10_lines_73 : decode cX10_lines 73 = .ok (.iload 6, 2) := by decide +kernel
theorem dX10_lines_75 : decode cX10_lines 75 = .ok (.invokevirtual 138, 3) := by decide +kernel
theorem dX10_lines_78 : decode cX10_lines 78 = .ok (.istore 7, 2) := by decide +kernel
theorem dX10_lines_80 : decode cX10_lines 80 = .ok (.iload 7, 2) := by decide +kernel
theorem dX10_lines_82 : decode cX10_lines 82 = .ok (.bipush 10, 2) := by decide +kernel
theorem dX10_lines_84 : decode cX10_lines 84 = .ok (.if_icmp .ne 23, 3) := by decide +kernel
theorem dX10_lines_87 : decode cX10_lines 87 = .ok (.iinc 4 1, 3) := by decide +kernel
theorem dX10_lines_90 : decode cX10_lines 90 = .ok (.iconst 0, 1) := by decide +kernel
theorem dX10_lines_91 : decode cX10_lines 91 = .ok (.istore 5, 2) := by decide +kernel
theorem dX10_lines_93 : decode cX10_lines 93 = .ok (.aload_n 0, 1) := by decide +kernel
theorem dX10_lines_94 : decode cX10_lines 94 = .ok (.getfield 52, 3) := by decide +kernel
theorem dX10_lines_97 : decode cX10_lines 97 = .ok (.iload 6, 2) := by decide +kernel
theorem dX10_lines_99 : decode cX10_lines 99 = .ok (.iconst 1, 1) := by decide +kernel
theorem dX10_lines_100 : decode cX10_lines 100 = .ok (.iadd, 1) := by decide +kernel
theorem dX10_lines_101 : decode cX10_lines 101 = .ok (.invokevirtual 153, 3) := by decide +kernel
theorem dX10_lines_104 : decode cX10_lines 104 = .ok (.goto 40, 3) := by decide +kernel
theorem dX10_lines_107 : decode cX10_lines 107 = .ok (.iload 5, 2) := by decide +kernel
theorem dX10_lines_109 : decode cX10_lines 109 = .ok (.ifCond .ne 35, 3) := by decide +kernel
theorem dX10_lines_112 : decode cX10_lines 112 = .ok (.aload_n 0, 1) := by decide +kernel
theorem dX10_lines_113 : decode cX10_lines 113 = .ok (.getfield 52, 3) := by decide +kernel
theorem dX10_lines_116 : decode cX10_lines 116 = .ok (.iload 7, 2) := by decide +kernel
theorem dX10_lines_118 : decode cX10_lines 118 = .ok (.invokevirtual 156, 3) := by decide +kernel
theorem dX10_lines_121 : decode cX10_lines 121 = .ok (.aload_n 0, 1) := by decide +kernel
theorem dX10_lines_122 : decode cX10_lines 122 = .ok (.getfield 52, 3) := by decide +kernel
theorem dX10_lines_125 : decode cX10_lines 125 = .ok (.invokevirtual 159, 3) := by decide +kernel
theorem dX10_lines_128 : decode cX10_lines 128 = .ok (.istore 5, 2) := by decide +kernel
theorem dX10_lines_130 : decode cX10_lines 130 = .ok (.iload 5, 2) := by decide +kernel
theorem dX10_lines_132 : decode cX10_lines 132 = .ok (.ifCond .eq 12, 3) := by decide +kernel
theorem dX10_lines_135 : decode cX10_lines 135 = .ok (.aload_n 0, 1) := by decide +kernel
theorem dX10_lines_136 : decode cX10_lines 136 = .ok (.getfield 73, 3) := by decide +kernel
theorem dX10_lines_139 : decode cX10_lines 139 = .ok (.iload 4, 2) := by decide +kernel
theorem dX10_lines_141 : decode cX10_lines 141 = .ok (.invokevirtual 201, 3) := by decide +kernel
theorem dX10_lines_144 : decode cX10_lines 144 = .ok (.iinc 6 1, 3) := by decide +kernel
theorem dX10_lines_147 : decode cX10_lines 147 = .ok (.goto (-90), 3) := by decide +kernel
theorem dX10_lines_150 : decode cX10_lines 150 = .ok (.aload_n 0, 1) := by decide +kernel
theorem dX10_lines_151 : decode cX10_lines 151 = .ok (.getfield 73, 3) := by decide +kernel
theorem dX10_lines_154 : decode cX10_lines 154 = .ok (.getfield 202, 3) := by decide +kernel
theorem dX10_lines_157 : decode cX10_lines 157 = .ok (.ireturn, 1) := by decide +kernel
theorem dX10_line_0 : decode cX10_line 0 = .ok (.aload_n 0, 1) := by decide +kernel
theorem dX10_line_1 : decode cX10_line 1 = .ok (.getfield 73, 3) := by decide +kernel
theorem dX10_line_4 : decode cX10_line 4 = .ok (.iload_n 1, 1) := by decide +kernel
theorem dX10_line_5 : decode cX10_line 5 = .ok (.invokevirtual 203, 3) := by decide +kernel
theorem dX10_line_8 : decode cX10_line 8 = .ok (.ireturn, 1) := by decide +kernel
theorem dX10_replace_0 : decode cX10_replace 0 = .ok (.aload_n 0, 1) := by decide +kernel
theorem dX10_replace_1 : decode cX10_replace 1 = .ok (.iload_n 1, 1) := by decide +kernel
theorem dX10_replace_2 : decode cX10_replace 2 = .ok (.invokevirtual 113, 3) := by decide +kernel
theorem dX10_replace_5 : decode cX10_replace 5 = .ok (.ifCond .eq 10, 3) := by decide +kernel
theorem dX10_replace_8 : decode cX10_replace 8 = .ok (.iload_n 2, 1) := by decide +kernel
theorem dX10_replace_9 : decode cX10_replace 9 = .ok (.invokestatic 142, 3) := by decide +kernel
theorem dX10_replace_12 : decode cX10_replace 12 = .ok (.ifCond .ne 6, 3) := by decide +kernel
theorem dX10_replace_15 : decode cX10_replace 15 = .ok (.bipush (-2), 2) := by decide +kernel
theorem dX10_replace_17 : decode cX10_replace 17 = .ok (.ireturn, 1) := by decide +kernel
theorem dX10_replace_18 : decode cX10_replace 18 = .ok (.aload_n 0, 1) := by decide +kernel
theorem dX10_replace_19 : decode cX10_replace 19 = .ok (.getfield 52, 3) := by decide +kernel
theorem dX10_replace_22 : decode cX10_replace 22 = .ok (.aload_n 0, 1) := by decide +kernel
theorem dX10_replace_23 : decode cX10_replace 23 = .ok (.getfield 33, 3) := by decide +kernel
theorem dX10_replace_26 : decode cX10_replace 26 = .ok (.iload_n 1, 1) := by decide +kernel
theorem dX10_replace_27 : decode cX10_replace 27 = .ok (.aaload, 1) := by decide +kernel
theorem dX10_replace_28 : decode cX10_replace 28 = .ok (.iload_n 2, 1) := by decide +kernel
theorem dX10_replace_29 : decode cX10_replace 29 = .ok (.iload_n 3, 1) := by decide +kernel
theorem dX10_replace_30 : decode cX10_replace 30 = .ok (.invokevirtual 149, 3) := by decide +kernel
theorem dX10_replace_33 : decode cX10_replace 33 = .ok (.aload_n 0, 1) := by decide +kernel
theorem dX10_replace_34 : decode cX10_replace 34 = .ok (.invokevirtual 204, 3) := by decide +kernel
theorem dX10_replace_37 : decode cX10_replace 37 = .ok (.istore 4, 2) := by decide +kernel
theorem dX10_replace_39 : decode cX10_replace 39 = .ok (.iload 4, 2) := by decide +kernel
theorem dX10_replace_41 : decode cX10_replace 41 = .ok (.bipush (-3), 2) := by decide +kernel
theorem dX10_replace_43 : decode cX10_replace 43 = .ok (.if_icmp .eq 32, 3) := by decide +kernel
theorem dX10_replace_46 : decode cX10_replace 46 = .ok (.aload_n 0, 1) := by decide +kernel
theorem dX10_replace_47 : decode cX10_replace 47 = .ok (.getfield 27, 3) := by decide +kernel
theorem dX10_replace_50 : decode cX10_replace 50 = .ok (.aload_n 0, 1) := by decide +kernel
theorem dX10_replace_51 : decode cX10_replace 51 = .ok (.getfield 18, 3) := by decide +kernel
theorem dX10_replace_54 : decode cX10_replace 54 = .ok (.invokevirtual 120, 3) := by decide +kernel
theorem dX10_replace_57 : decode cX10_replace 57 = .ok (.aload_n 0, 1) := by decide +kernel
theorem dX10_replace_58 : decode cX10_replace 58 = .ok (.getfield 18, 3) := by decide +kernel
theorem dX10_replace_61 : decode cX10_replace 61 = .ok (.aload_n 0, 1) := by decide +kernel
theorem dX10_replace_62 : decode cX10_replace 62 = .ok (.getfield 21, 3) := by decide +kernel
theorem dX10_replace_65 : decode cX10_replace 65 = .ok (.invokevirtual 207, 3) := by decide +kernel
theorem dX10_replace_68 : decode cX10_replace 68 = .ok (.aload_n 0, 1) := by decide +kernel
theorem dX10_replace_69 : decode cX10_replace 69 = .ok (.getfield 14, 3) := by decide +kernel
theorem dX10_replace_72 : decode cX10_replace 72 = .ok (.invokevirtual 96, 3) := by decide +kernel
theorem dX10_replace_75 : decode cX10_replace 75 = .ok (.iload 4, 2) := by decide +kernel
theorem dX10_replace_77 : decode cX10_replace 77 = .ok (.ireturn, 1) := by decide +kernel
theorem dX10_whole_0 : decode cX10_whole 0 = .ok (.aload_n 0, 1) := by decide +kernel
theorem dX10_whole_1 : decode cX10_whole 1 = .ok (.iload_n 1, 1) := by decide +kernel
theorem dX10_whole_2 : decode cX10_whole 2 = .ok (.invokevirtual 113, 3) := by decide +kernel
theorem dX10_whole_5 : decode cX10_whole 5 = .ok (.ifCond .eq 23, 3) := by decide +kernel
theorem dX10_whole_8 : decode cX10_whole 8 = .ok (.aload_n 0, 1) := by decide +kernel
theorem dX10_whole_9 : decode cX10_whole 9 = .ok (.getfield 18, 3) := by decide +kernel
theorem dX10_whole_12 : decode cX10_whole 12 = .ok (.iload_n 2, 1) := by decide +kernel
theorem dX10_whole_13 : decode cX10_whole 13 = .ok (.iload_n 3, 1) := by decide +kernel
theorem dX10_whole_14 : decode cX10_whole 14 = .ok (.invokevirtual 127, 3) := by decide +kernel
theorem dX10_whole_17 : decode cX10_whole 17 = .ok (.ifCond .eq 11, 3) := by decide +kernel
theorem dX10_whole_20 : decode cX10_whole 20 = .ok (.iload 5, 2) := by decide +kernel
theorem dX10_whole_22 : decode cX10_whole 22 = .ok (.invokestatic 209, 3) := by decide +kernel
theorem dX10_whole_25 : decode cX10_whole 25 = .ok (.ifCond .ne 6, 3) := by decide +kernel
theorem dX10_whole_28 : decode cX10_whole 28 = .ok (.bipush (-2), 2) := by decide +kernel
theorem dX10_whole_30 : decode cX10_whole 30 = .ok (.ireturn, 1) := by decide +kernel
theorem dX10_whole_31 : decode cX10_whole 31 = .ok (.aload_n 0, 1) := by decide +kernel
theorem dX10_whole_32 : decode cX10_whole 32 = .ok (.getfield 59, 3) := by decide +kernel
theorem dX10_whole_35 : decode cX10_whole 35 = .ok (.aload_n 0, 1) := by decide +kernel
theorem dX10_whole_36 : decode cX10_whole 36 = .ok (.getfield 33, 3) := by decide +kernel
theorem dX10_whole_39 : decode cX10_whole 39 = .ok (.iload_n 1, 1) := by decide +kernel
theorem dX10_whole_40 : decode cX10_whole 40 = .ok (.aaload, 1) := by decide +kernel
theorem dX10_whole_41 : decode cX10_whole 41 = .ok (.aload_n 0, 1) := by decide +kernel
theorem dX10_whole_42 : decode cX10_whole 42 = .ok (.getfield 18, 3) := by decide +kernel
theorem dX10_whole_45 : decode cX10_whole 45 = .ok (.iload_n 2, 1) := by decide +kernel
theorem dX10_whole_46 : decode cX10_whole 46 = .ok (.iload_n 3, 1) := by decide +kernel
theorem dX10_whole_47 : decode cX10_whole 47 = .ok (.iload 4, 2) := by decide +kernel
theorem dX10_whole_49 : decode cX10_whole 49 = .ok (.iload 5, 2) := by decide +kernel
theorem dX10_whole_51 : decode cX10_whole 51 = .ok (.invokevirtual 212, 3) := by decide +kernel
theorem dX10_whole_54 : decode cX10_whole 54 = .ok (.istore 6, 2) := by decide +kernel
theorem dX10_whole_56 : decode cX10_whole 56 = .ok (.iload 6, 2) := by decide +kernel
theorem dX10_whole_58 : decode cX10_whole 58 = .ok (.iload 5, 2) := by decide +kernel
theorem dX10_whole_60 : decode cX10_whole 60 = .ok (.if_icmp .le 8, 3) := by decide +kernel
theorem dX10_whole_63 : decode cX10_whole 63 = .ok (.bipush (-4), 2) := by decide +kernel
theorem dX10_whole_65 : decode cX10_whole 65 = .ok (.goto 5, 3) := by decide +kernel
theorem dX10_whole_68 : decode cX10_whole 68 = .ok (.iload 6, 2) := by decide +kernel
theorem dX10_whole_70 : decode cX10_whole 70 = .ok (.ireturn, 1) := by decide +kernel
theorem dX10_which_0 : decode cX10_which 0 = .ok (.aload_n 0, 1) := by decide +kernel
theorem dX10_which_1 : decode cX10_which 1 = .ok (.getfield 18, 3) := by decide +kernel
theorem dX10_which_4 : decode cX10_which 4 = .ok (.iload_n 1, 1) := by decide +kernel
theorem dX10_which_5 : decode cX10_which 5 = .ok (.iload_n 2, 1) := by decide +kernel
theorem dX10_which_6 : decode cX10_which 6 = .ok (.invokevirtual 127, 3) := by decide +kernel
theorem dX10_which_9 : decode cX10_which 9 = .ok (.ifCond .ne 6, 3) := by decide +kernel
theorem dX10_which_12 : decode cX10_which 12 = .ok (.bipush (-2), 2) := by decide +kernel
theorem dX10_which_14 : decode cX10_which 14 = .ok (.ireturn, 1) := by decide +kernel
theorem dX10_which_15 : decode cX10_which 15 = .ok (.iconst (-1), 1) := by decide +kernel
theorem dX10_which_16 : decode cX10_which 16 = .ok (.istore 4, 2) := by decide +kernel
theorem dX10_which_18 : decode cX10_which 18 = .ok (.sipush 2000, 3) := by decide +kernel
theorem dX10_which_21 : decode cX10_which 21 = .ok (.istore 5, 2) := by decide +kernel
theorem dX10_which_23 : decode cX10_which 23 = .ok (.iconst 0, 1) := by decide +kernel
theorem dX10_which_24 : decode cX10_which 24 = .ok (.istore 6, 2) := by decide +kernel
theorem dX10_which_26 : decode cX10_which 26 = .ok (.iload 6, 2) := by decide +kernel
theorem dX10_which_28 : decode cX10_which 28 = .ok (.bipush 8, 2) := by decide +kernel
theorem dX10_which_30 : decode cX10_which 30 = .ok (.if_icmp .ge 60, 3) := by decide +kernel
theorem dX10_which_33 : decode cX10_which 33 = .ok (.aload_n 0, 1) := by decide +kernel
theorem dX10_which_34 : decode cX10_which 34 = .ok (.iload 6, 2) := by decide +kernel
theorem dX10_which_36 : decode cX10_which 36 = .ok (.invokevirtual 113, 3) := by decide +kernel
theorem dX10_which_39 : decode cX10_which 39 = .ok (.ifCond .eq 45, 3) := by decide +kernel
theorem dX10_which_42 : decode cX10_which 42 = .ok (.aload_n 0, 1) := by decide +kernel
theorem dX10_which_43 : decode cX10_which 43 = .ok (.getfield 59, 3) := by decide +kernel
theorem dX10_which_46 : decode cX10_which 46 = .ok (.aload_n 0, 1) := by decide +kernel
theorem dX10_which_47 : decode cX10_which 47 = .ok (.getfield 33, 3) := by decide +kernel
theorem dX10_which_50 : decode cX10_which 50 = .ok (.iload 6, 2) := by decide +kernel
theorem dX10_which_52 : decode cX10_which 52 = .ok (.aaload, 1) := by decide +kernel
theorem dX10_which_53 : decode cX10_which 53 = .ok (.aload_n 0, 1) := by decide +kernel
theorem dX10_which_54 : decode cX10_which 54 = .ok (.getfield 18, 3) := by decide +kernel
theorem dX10_which_57 : decode cX10_which 57 = .ok (.iload_n 1, 1) := by decide +kernel
theorem dX10_which_58 : decode cX10_which 58 = .ok (.iload_n 2, 1) := by decide +kernel
theorem dX10_which_59 : decode cX10_which 59 = .ok (.iload_n 3, 1) := by decide +kernel
theorem dX10_which_60 : decode cX10_which 60 = .ok (.iload 5, 2) := by decide +kernel
theorem dX10_which_62 : decode cX10_which 62 = .ok (.invokevirtual 212, 3) := by decide +kernel
theorem dX10_which_65 : decode cX10_which 65 = .ok (.istore 7, 2) := by decide +kernel
theorem dX10_which_67 : decode cX10_which 67 = .ok (.iload 7, 2) := by decide +kernel
theorem dX10_which_69 : decode cX10_which 69 = .ok (.iload 5, 2) := by decide +kernel
theorem dX10_which_71 : decode cX10_which 71 = .ok (.if_icmp .gt 13, 3) := by decide +kernel
theorem dX10_which_74 : decode cX10_which 74 = .ok (.iload 6, 2) := by decide +kernel
theorem dX10_which_76 : decode cX10_which 76 = .ok (.istore 4, 2) := by decide +kernel
theorem dX10_which_78 : decode cX10_which 78 = .ok (.iload 7, 2) := by decide +kernel
theorem dX10_which_80 : decode cX10_which 80 = .ok (.iconst 1, 1) := by decide +kernel
theorem dX10_which_81 : decode cX10_which 81 = .ok (.isub, 1) := by decide +kernel
theorem dX10_which_82 : decode cX10_which 82 = .ok (.istore 5, 2) := by decide +kernel
theorem dX10_which_84 : decode cX10_which 84 = .ok (.iinc 6 1, 3) := by decide +kernel
theorem dX10_which_87 : decode cX10_which 87 = .ok (.goto (-61), 3) := by decide +kernel
theorem dX10_which_90 : decode cX10_which 90 = .ok (.iload 4, 2) := by decide +kernel
theorem dX10_which_92 : decode cX10_which 92 = .ok (.ireturn, 1) := by decide +kernel
theorem dX10_apart_0 : decode cX10_apart 0 = .ok (.aload_n 0, 1) := by decide +kernel
theorem dX10_apart_1 : decode cX10_apart 1 = .ok (.getfield 18, 3) := by decide +kernel
theorem dX10_apart_4 : decode cX10_apart 4 = .ok (.iload_n 1, 1) := by decide +kernel
theorem dX10_apart_5 : decode cX10_apart 5 = .ok (.iload_n 2, 1) := by decide +kernel
theorem dX10_apart_6 : decode cX10_apart 6 = .ok (.invokevirtual 127, 3) := by decide +kernel
theorem dX10_apart_9 : decode cX10_apart 9 = .ok (.ifCond .eq 24, 3) := by decide +kernel
theorem dX10_apart_12 : decode cX10_apart 12 = .ok (.aload_n 0, 1) := by decide +kernel
theorem dX10_apart_13 : decode cX10_apart 13 = .ok (.getfield 18, 3) := by decide +kernel
theorem dX10_apart_16 : decode cX10_apart 16 = .ok (.iload_n 3, 1) := by decide +kernel
theorem dX10_apart_17 : decode cX10_apart 17 = .ok (.iload 4, 2) := by decide +kernel
theorem dX10_apart_19 : decode cX10_apart 19 = .ok (.invokevirtual 127, 3) := by decide +kernel
theorem dX10_apart_22 : decode cX10_apart 22 = .ok (.ifCond .eq 11, 3) := by decide +kernel
theorem dX10_apart_25 : decode cX10_apart 25 = .ok (.iload 6, 2) := by decide +kernel
theorem dX10_apart_27 : decode cX10_apart 27 = .ok (.invokestatic 209, 3) := by decide +kernel
theorem dX10_apart_30 : decode cX10_apart 30 = .ok (.ifCond .ne 6, 3) := by decide +kernel
theorem dX10_apart_33 : decode cX10_apart 33 = .ok (.bipush (-2), 2) := by decide +kernel
theorem dX10_apart_35 : decode cX10_apart 35 = .ok (.ireturn, 1) := by decide +kernel
theorem dX10_apart_36 : decode cX10_apart 36 = .ok (.aload_n 0, 1) := by decide +kernel
theorem dX10_apart_37 : decode cX10_apart 37 = .ok (.getfield 38, 3) := by decide +kernel
theorem dX10_apart_40 : decode cX10_apart 40 = .ok (.aload_n 0, 1) := by decide +kernel
theorem dX10_apart_41 : decode cX10_apart 41 = .ok (.getfield 18, 3) := by decide +kernel
theorem dX10_apart_44 : decode cX10_apart 44 = .ok (.iload_n 1, 1) := by decide +kernel
theorem dX10_apart_45 : decode cX10_apart 45 = .ok (.iload_n 2, 1) := by decide +kernel
theorem dX10_apart_46 : decode cX10_apart 46 = .ok (.invokevirtual 216, 3) := by decide +kernel
theorem dX10_apart_49 : decode cX10_apart 49 = .ok (.aload_n 0, 1) := by decide +kernel
theorem dX10_apart_50 : decode cX10_apart 50 = .ok (.getfield 59, 3) := by decide +kernel
theorem dX10_apart_53 : decode cX10_apart 53 = .ok (.aload_n 0, 1) := by decide +kernel
theorem dX10_apart_54 : decode cX10_apart 54 = .ok (.getfield 38, 3) := by decide +kernel
theorem dX10_apart_57 : decode cX10_apart 57 = .ok (.aload_n 0, 1) := by decide +kernel
theorem dX10_apart_58 : decode cX10_apart 58 = .ok (.getfield 18, 3) := by decide +kernel
theorem dX10_apart_61 : decode cX10_apart 61 = .ok (.iload_n 3, 1) := by decide +kernel
theorem dX10_apart_62 : decode cX10_apart 62 = .ok (.iload 4, 2) := by decide +kernel
theorem dX10_apart_64 : decode cX10_apart 64 = .ok (.iload 5, 2) := by decide +kernel
theorem dX10_apart_66 : decode cX10_apart 66 = .ok (.iload 6, 2) := by decide +kernel
theorem dX10_apart_68 : decode cX10_apart 68 = .ok (.invokevirtual 212, 3) := by decide +kernel
theorem dX10_apart_71 : decode cX10_apart 71 = .ok (.istore 7, 2) := by decide +kernel
theorem dX10_apart_73 : decode cX10_apart 73 = .ok (.iload 7, 2) := by decide +kernel
theorem dX10_apart_75 : decode cX10_apart 75 = .ok (.iload 6, 2) := by decide +kernel
theorem dX10_apart_77 : decode cX10_apart 77 = .ok (.if_icmp .le 8, 3) := by decide +kernel
theorem dX10_apart_80 : decode cX10_apart 80 = .ok (.bipush (-4), 2) := by decide +kernel
theorem dX10_apart_82 : decode cX10_apart 82 = .ok (.goto 5, 3) := by decide +kernel
theorem dX10_apart_85 : decode cX10_apart 85 = .ok (.iload 7, 2) := by decide +kernel
theorem dX10_apart_87 : decode cX10_apart 87 = .ok (.ireturn, 1) := by decide +kernel
theorem dX10_isPattern_0 : decode cX10_isPattern 0 = .ok (.iload_n 1, 1) := by decide +kernel
theorem dX10_isPattern_1 : decode cX10_isPattern 1 = .ok (.ifCond .lt 25, 3) := by decide +kernel
theorem dX10_isPattern_4 : decode cX10_isPattern 4 = .ok (.iload_n 1, 1) := by decide +kernel
theorem dX10_isPattern_5 : decode cX10_isPattern 5 = .ok (.bipush 8, 2) := by decide +kernel
theorem dX10_isPattern_7 : decode cX10_isPattern 7 = .ok (.if_icmp .ge 19, 3) := by decide +kernel
theorem dX10_isPattern_10 : decode cX10_isPattern 10 = .ok (.aload_n 0, 1) := by decide +kernel
theorem dX10_isPattern_11 : decode cX10_isPattern 11 = .ok (.getfield 33, 3) := by decide +kernel
theorem dX10_isPattern_14 : decode cX10_isPattern 14 = .ok (.iload_n 1, 1) := by decide +kernel
theorem dX10_isPattern_15 : decode cX10_isPattern 15 = .ok (.aaload, 1) := by decide +kernel
theorem dX10_isPattern_16 : decode cX10_isPattern 16 = .ok (.getfield 109, 3) := by decide +kernel
theorem dX10_isPattern_19 : decode cX10_isPattern 19 = .ok (.ifCond .le 7, 3) := by decide +kernel
theorem dX10_isPattern_22 : decode cX10_isPattern 22 = .ok (.iconst 1, 1) := by decide +kernel
theorem dX10_isPattern_23 : decode cX10_isPattern 23 = .ok (.goto 4, 3) := by decide +kernel
theorem dX10_isPattern_26 : decode cX10_isPattern 26 = .ok (.iconst 0, 1) := by decide +kernel
theorem dX10_isPattern_27 : decode cX10_isPattern 27 = .ok (.ireturn, 1) := by decide +kernel
theorem dX10_isEdits_0 : decode cX10_isEdits 0 = .ok (.iload_n 0, 1) := by decide +kernel
theorem dX10_isEdits_1 : decode cX10_isEdits 1 = .ok (.ifCond .lt 14, 3) := by decide +kernel
theorem dX10_isEdits_4 : decode cX10_isEdits 4 = .ok (.iload_n 0, 1) := by decide +kernel
theorem dX10_isEdits_5 : decode cX10_isEdits 5 = .ok (.sipush 200, 3) := by decide +kernel
theorem dX10_isEdits_8 : decode cX10_isEdits 8 = .ok (.if_icmp .gt 7, 3) := by decide +kernel
theorem dX10_isEdits_11 : decode cX10_isEdits 11 = .ok (.iconst 1, 1) := by decide +kernel
theorem dX10_isEdits_12 : decode cX10_isEdits 12 = .ok (.goto 4, 3) := by decide +kernel
theorem dX10_isEdits_15 : decode cX10_isEdits 15 = .ok (.iconst 0, 1) := by decide +kernel
theorem dX10_isEdits_16 : decode cX10_isEdits 16 = .ok (.ireturn, 1) := by decide +kernel
theorem dX10_isLimit_0 : decode cX10_isLimit 0 = .ok (.iload_n 0, 1) := by decide +kernel
theorem dX10_isLimit_1 : decode cX10_isLimit 1 = .ok (.ifCond .lt 14, 3) := by decide +kernel
theorem dX10_isLimit_4 : decode cX10_isLimit 4 = .ok (.iload_n 0, 1) := by decide +kernel
theorem dX10_isLimit_5 : decode cX10_isLimit 5 = .ok (.sipush 2000, 3) := by decide +kernel
theorem dX10_isLimit_8 : decode cX10_isLimit 8 = .ok (.if_icmp .gt 7, 3) := by decide +kernel
theorem dX10_isLimit_11 : decode cX10_isLimit 11 = .ok (.iconst 1, 1) := by decide +kernel
theorem dX10_isLimit_12 : decode cX10_isLimit 12 = .ok (.goto 4, 3) := by decide +kernel
theorem dX10_isLimit_15 : decode cX10_isLimit 15 = .ok (.iconst 0, 1) := by decide +kernel
theorem dX10_isLimit_16 : decode cX10_isLimit 16 = .ok (.ireturn, 1) := by decide +kernel
theorem dX10_isByte_0 : decode cX10_isByte 0 = .ok (.iload_n 0, 1) := by decide +kernel
theorem dX10_isByte_1 : decode cX10_isByte 1 = .ok (.bipush 10, 2) := by decide +kernel
theorem dX10_isByte_3 : decode cX10_isByte 3 = .ok (.if_icmp .eq 15, 3) := by decide +kernel
theorem dX10_isByte_6 : decode cX10_isByte 6 = .ok (.iload_n 0, 1) := by decide +kernel
theorem dX10_isByte_7 : decode cX10_isByte 7 = .ok (.bipush 32, 2) := by decide +kernel
theorem dX10_isByte_9 : decode cX10_isByte 9 = .ok (.if_icmp .lt 13, 3) := by decide +kernel
theorem dX10_isByte_12 : decode cX10_isByte 12 = .ok (.iload_n 0, 1) := by decide +kernel
theorem dX10_isByte_13 : decode cX10_isByte 13 = .ok (.bipush 126, 2) := by decide +kernel
theorem dX10_isByte_15 : decode cX10_isByte 15 = .ok (.if_icmp .gt 7, 3) := by decide +kernel
theorem dX10_isByte_18 : decode cX10_isByte 18 = .ok (.iconst 1, 1) := by decide +kernel
theorem dX10_isByte_19 : decode cX10_isByte 19 = .ok (.goto 4, 3) := by decide +kernel
theorem dX10_isByte_22 : decode cX10_isByte 22 = .ok (.iconst 0, 1) := by decide +kernel
theorem dX10_isByte_23 : decode cX10_isByte 23 = .ok (.ireturn, 1) := by decide +kernel
theorem dX10_byteOfWord_0 : decode cX10_byteOfWord 0 = .ok (.lload_n 0, 1) := by decide +kernel
theorem dX10_byteOfWord_1 : decode cX10_byteOfWord 1 = .ok (.bipush 8, 2) := by decide +kernel
theorem dX10_byteOfWord_3 : decode cX10_byteOfWord 3 = .ok (.iload_n 2, 1) := by decide +kernel
theorem dX10_byteOfWord_4 : decode cX10_byteOfWord 4 = .ok (.imul, 1) := by decide +kernel
theorem dX10_byteOfWord_5 : decode cX10_byteOfWord 5 = .ok (.lushr, 1) := by decide +kernel
theorem dX10_byteOfWord_6 : decode cX10_byteOfWord 6 = .ok (.l2i, 1) := by decide +kernel
theorem dX10_byteOfWord_7 : decode cX10_byteOfWord 7 = .ok (.sipush 255, 3) := by decide +kernel
theorem dX10_byteOfWord_10 : decode cX10_byteOfWord 10 = .ok (.iand, 1) := by decide +kernel
theorem dX10_byteOfWord_11 : decode cX10_byteOfWord 11 = .ok (.ireturn, 1) := by decide +kernel
theorem dX10_draftReplaced_0 : decode cX10_draftReplaced 0 = .ok (.aload_n 0, 1) := by decide +kernel
theorem dX10_draftReplaced_1 : decode cX10_draftReplaced 1 = .ok (.getfield 21, 3) := by decide +kernel
theorem dX10_draftReplaced_4 : decode cX10_draftReplaced 4 = .ok (.invokevirtual 96, 3) := by decide +kernel
theorem dX10_draftReplaced_7 : decode cX10_draftReplaced 7 = .ok (.aload_n 0, 1) := by decide +kernel
theorem dX10_draftReplaced_8 : decode cX10_draftReplaced 8 = .ok (.getfield 52, 3) := by decide +kernel
theorem dX10_draftReplaced_11 : decode cX10_draftReplaced 11 = .ok (.iconst 0, 1) := by decide +kernel
theorem dX10_draftReplaced_12 : decode cX10_draftReplaced 12 = .ok (.invokevirtual 153, 3) := by decide +kernel
theorem dX10_draftReplaced_15 : decode cX10_draftReplaced 15 = .ok (.iconst 0, 1) := by decide +kernel
theorem dX10_draftReplaced_16 : decode cX10_draftReplaced 16 = .ok (.istore_n 1, 1) := by decide +kernel
theorem dX10_draftReplaced_17 : decode cX10_draftReplaced 17 = .ok (.iconst 0, 1) := by decide +kernel
theorem dX10_draftReplaced_18 : decode cX10_draftReplaced 18 = .ok (.istore_n 2, 1) := by decide +kernel
theorem dX10_draftReplaced_19 : decode cX10_draftReplaced 19 = .ok (.iconst 1, 1) := by decide +kernel
theorem dX10_draftReplaced_20 : decode cX10_draftReplaced 20 = .ok (.istore_n 3, 1) := by decide +kernel
theorem dX10_draftReplaced_21 : decode cX10_draftReplaced 21 = .ok (.iload_n 3, 1) := by decide +kernel
theorem dX10_draftReplaced_22 : decode cX10_draftReplaced 22 = .ok (.aload_n 0, 1) := by decide +kernel
theorem dX10_draftReplaced_23 : decode cX10_draftReplaced 23 = .ok (.getfield 18, 3) := by decide +kernel
theorem dX10_draftReplaced_26 : decode cX10_draftReplaced 26 = .ok (.getfield 85, 3) := by decide +kernel
theorem dX10_draftReplaced_29 : decode cX10_draftReplaced 29 = .ok (.if_icmp .gt 107, 3) := by decide +kernel
theorem dX10_draftReplaced_32 : decode cX10_draftReplaced 32 = .ok (.aload_n 0, 1) := by decide +kernel
theorem dX10_draftReplaced_33 : decode cX10_draftReplaced 33 = .ok (.getfield 52, 3) := by decide +kernel
theorem dX10_draftReplaced_36 : decode cX10_draftReplaced 36 = .ok (.aload_n 0, 1) := by decide +kernel
theorem dX10_draftReplaced_37 : decode cX10_draftReplaced 37 = .ok (.getfield 18, 3) := by decide +kernel
theorem dX10_draftReplaced_40 : decode cX10_draftReplaced 40 = .ok (.iload_n 3, 1) := by decide +kernel
theorem dX10_draftReplaced_41 : decode cX10_draftReplaced 41 = .ok (.iconst 1, 1) := by decide +kernel
theorem dX10_draftReplaced_42 : decode cX10_draftReplaced 42 = .ok (.isub, 1) := by decide +kernel
theorem dX10_draftReplaced_43 : decode cX10_draftReplaced 43 = .ok (.invokevirtual 138, 3) := by decide +kernel
theorem dX10_draftReplaced_46 : decode cX10_draftReplaced 46 = .ok (.invokevirtual 156, 3) := by decide +kernel
theorem dX10_draftReplaced_49 : decode cX10_draftReplaced 49 = .ok (.aload_n 0, 1) := by decide +kernel
theorem dX10_draftReplaced_50 : decode cX10_draftReplaced 50 = .ok (.getfield 52, 3) := by decide +kernel
theorem dX10_draftReplaced_53 : decode cX10_draftReplaced 53 = .ok (.invokevirtual 159, 3) := by decide +kernel
theorem dX10_draftReplaced_56 : decode cX10_draftReplaced 56 = .ok (.ifCond .eq 74, 3) := by decide +kernel
theorem dX10_draftReplaced_59 : decode cX10_draftReplaced 59 = .ok (.aload_n 0, 1) := by decide +kernel
theorem dX10_draftReplaced_60 : decode cX10_draftReplaced 60 = .ok (.getfield 52, 3) := by decide +kernel
theorem dX10_draftReplaced_63 : decode cX10_draftReplaced 63 = .ok (.invokevirtual 167, 3) := by decide +kernel
theorem dX10_draftReplaced_66 : decode cX10_draftReplaced 66 = .ok (.iload_n 3, 1) := by decide +kernel
theorem dX10_draftReplaced_67 : decode cX10_draftReplaced 67 = .ok (.if_icmp .ge 63, 3) := by decide +kernel
theorem dX10_draftReplaced_70 : decode cX10_draftReplaced 70 = .ok (.aload_n 0, 1) := by decide +kernel
theorem dX10_draftReplaced_71 : decode cX10_draftReplaced 71 = .ok (.getfield 21, 3) := by decide +kernel
theorem dX10_draftReplaced_74 : decode cX10_draftReplaced 74 = .ok (.aload_n 0, 1) := by decide +kernel
theorem dX10_draftReplaced_75 : decode cX10_draftReplaced 75 = .ok (.getfield 18, 3) := by decide +kernel
theorem dX10_draftReplaced_78 : decode cX10_draftReplaced 78 = .ok (.iload_n 1, 1) := by decide +kernel
theorem dX10_draftReplaced_79 : decode cX10_draftReplaced 79 = .ok (.aload_n 0, 1) := by decide +kernel
theorem dX10_draftReplaced_80 : decode cX10_draftReplaced 80 = .ok (.getfield 52, 3) := by decide +kernel
theorem dX10_draftReplaced_83 : decode cX10_draftReplaced 83 = .ok (.invokevirtual 167, 3) := by decide +kernel
theorem dX10_draftReplaced_86 : decode cX10_draftReplaced 86 = .ok (.invokevirtual 220, 3) := by decide +kernel
theorem dX10_draftReplaced_89 : decode cX10_draftReplaced 89 = .ok (.ifCond .eq 25, 3) := by decide +kernel
theorem dX10_draftReplaced_92 : decode cX10_draftReplaced 92 = .ok (.aload_n 0, 1) := by decide +kernel
theorem dX10_draftReplaced_93 : decode cX10_draftReplaced 93 = .ok (.getfield 21, 3) := by decide +kernel
theorem dX10_draftReplaced_96 : decode cX10_draftReplaced 96 = .ok (.aload_n 0, 1) := by decide +kernel
theorem dX10_draftReplaced_97 : decode cX10_draftReplaced 97 = .ok (.getfield 14, 3) := by decide +kernel
theorem dX10_draftReplaced_100 : decode cX10_draftReplaced 100 = .ok (.iconst 0, 1) := by decide +kernel
theorem dX10_draftReplaced_101 : decode cX10_draftReplaced 101 = .ok (.aload_n 0, 1) := by decide +kernel
theorem dX10_draftReplaced_102 : decode cX10_draftReplaced 102 = .ok (.getfield 14, 3) := by decide +kernel
theorem dX10_draftReplaced_105 : decode cX10_draftReplaced 105 = .ok (.getfield 85, 3) := by decide +kernel
theorem dX10_draftReplaced_108 : decode cX10_draftReplaced 108 = .ok (.invokevirtual 220, 3) := by decide +kernel
theorem dX10_draftReplaced_111 : decode cX10_draftReplaced 111 = .ok (.ifCond .ne 6, 3) := by decide +kernel
theorem dX10_draftReplaced_114 : decode cX10_draftReplaced 114 = .ok (.bipush (-3), 2) := by decide +kernel
theorem dX10_draftReplaced_116 : decode cX10_draftReplaced 116 = .ok (.ireturn, 1) := by decide +kernel
theorem dX10_draftReplaced_117 : decode cX10_draftReplaced 117 = .ok (.iinc 2 1, 3) := by decide +kernel
theorem dX10_draftReplaced_120 : decode cX10_draftReplaced 120 = .ok (.iload_n 3, 1) := by decide +kernel
theorem dX10_draftReplaced_121 : decode cX10_draftReplaced 121 = .ok (.istore_n 1, 1) := by decide +kernel
theorem dX10_draftReplaced_122 : decode cX10_draftReplaced 122 = .ok (.aload_n 0, 1) := by decide +kernel
theorem dX10_draftReplaced_123 : decode cX10_draftReplaced 123 = .ok (.getfield 52, 3) := by decide +kernel
theorem dX10_draftReplaced_126 : decode cX10_draftReplaced 126 = .ok (.iload_n 3, 1) := by decide +kernel
theorem dX10_draftReplaced_127 : decode cX10_draftReplaced 127 = .ok (.invokevirtual 153, 3) := by decide +kernel
theorem dX10_draftReplaced_130 : decode cX10_draftReplaced 130 = .ok (.iinc 3 1, 3) := by decide +kernel
theorem dX10_draftReplaced_133 : decode cX10_draftReplaced 133 = .ok (.goto (-112), 3) := by decide +kernel
theorem dX10_draftReplaced_136 : decode cX10_draftReplaced 136 = .ok (.aload_n 0, 1) := by decide +kernel
theorem dX10_draftReplaced_137 : decode cX10_draftReplaced 137 = .ok (.getfield 21, 3) := by decide +kernel
theorem dX10_draftReplaced_140 : decode cX10_draftReplaced 140 = .ok (.aload_n 0, 1) := by decide +kernel
theorem dX10_draftReplaced_141 : decode cX10_draftReplaced 141 = .ok (.getfield 18, 3) := by decide +kernel
theorem dX10_draftReplaced_144 : decode cX10_draftReplaced 144 = .ok (.iload_n 1, 1) := by decide +kernel
theorem dX10_draftReplaced_145 : decode cX10_draftReplaced 145 = .ok (.aload_n 0, 1) := by decide +kernel
theorem dX10_draftReplaced_146 : decode cX10_draftReplaced 146 = .ok (.getfield 18, 3) := by decide +kernel
theorem dX10_draftReplaced_149 : decode cX10_draftReplaced 149 = .ok (.getfield 85, 3) := by decide +kernel
theorem dX10_draftReplaced_152 : decode cX10_draftReplaced 152 = .ok (.invokevirtual 220, 3) := by decide +kernel
theorem dX10_draftReplaced_155 : decode cX10_draftReplaced 155 = .ok (.ifCond .eq 7, 3) := by decide +kernel
theorem dX10_draftReplaced_158 : decode cX10_draftReplaced 158 = .ok (.iload_n 2, 1) := by decide +kernel
theorem dX10_draftReplaced_159 : decode cX10_draftReplaced 159 = .ok (.goto 5, 3) := by decide +kernel
theorem dX10_draftReplaced_162 : decode cX10_draftReplaced 162 = .ok (.bipush (-3), 2) := by decide +kernel
theorem dX10_draftReplaced_164 : decode cX10_draftReplaced 164 = .ok (.ireturn, 1) := by decide +kernel
theorem dX11_init_0 : decode cX11_init 0 = .ok (.aload_n 0, 1) := by decide +kernel
theorem dX11_init_1 : decode cX11_init 1 = .ok (.invokespecial 1, 3) := by decide +kernel
theorem dX11_init_4 : decode cX11_init 4 = .ok (.aload_n 0, 1) := by decide +kernel
theorem dX11_init_5 : decode cX11_init 5 = .ok (.sipush 400, 3) := by decide +kernel
theorem dX11_init_8 : decode cX11_init 8 = .ok (.newarray .int, 2) := by decide +kernel
theorem dX11_init_10 : decode cX11_init 10 = .ok (.putfield 7, 3) := by decide +kernel
theorem dX11_init_13 : decode cX11_init 13 = .ok (.aload_n 0, 1) := by decide +kernel
theorem dX11_init_14 : decode cX11_init 14 = .ok (.sipush 1500, 3) := by decide +kernel
theorem dX11_init_17 : decode cX11_init 17 = .ok (.newarray .int, 2) := by decide +kernel
theorem dX11_init_19 : decode cX11_init 19 = .ok (.putfield 13, 3) := by decide +kernel
theorem dX11_init_22 : decode cX11_init 22 = .ok (.aload_n 0, 1) := by decide +kernel
theorem dX11_init_23 : decode cX11_init 23 = .ok (.sipush 7500, 3) := by decide +kernel
theorem dX11_init_26 : decode cX11_init 26 = .ok (.newarray .int, 2) := by decide +kernel
theorem dX11_init_28 : decode cX11_init 28 = .ok (.putfield 16, 3) := by decide +kernel
theorem dX11_init_31 : decode cX11_init 31 = .ok (.aload_n 0, 1) := by decide +kernel
theorem dX11_init_32 : decode cX11_init 32 = .ok (.iconst 5, 1) := by decide +kernel
theorem dX11_init_33 : decode cX11_init 33 = .ok (.newarray .int, 2) := by decide +kernel
theorem dX11_init_35 : decode cX11_init 35 = .ok (.putfield 19, 3) := by decide +kernel
theorem dX11_init_38 : decode cX11_init 38 = .ok (.aload_n 0, 1) := by decide +kernel
theorem dX11_init_39 : decode cX11_init 39 = .ok (.sipush 1600, 3) := by decide +kernel
theorem dX11_init_42 : decode cX11_init 42 = .ok (.newarray .long, 2) := by decide +kernel
theorem dX11_init_44 : decode cX11_init 44 = .ok (.putfield 22, 3) := by decide +kernel
theorem dX11_init_47 : decode cX11_init 47 = .ok (.aload_n 0, 1) := by decide +kernel
theorem dX11_init_48 : decode cX11_init 48 = .ok (.sipush 1600, 3) := by decide +kernel
theorem dX11_init_51 : decode cX11_init 51 = .ok (.newarray .long, 2) := by decide +kernel
theorem dX11_init_53 : decode cX11_init 53 = .ok (.putfield 26, 3) := by decide +kernel
theorem dX11_init_56 : decode cX11_init 56 = .ok (.aload_n 0, 1) := by decide +kernel
theorem dX11_init_57 : decode cX11_init 57 = .ok (.bipush 8, 2) := by decide +kernel
theorem dX11_init_59 : decode cX11_init 59 = .ok (.newarray .int, 2) := by decide +kernel
theorem dX11_init_61 : decode cX11_init 61 = .ok (.putfield 29, 3) := by decide +kernel
theorem dX11_init_64 : decode cX11_init 64 = .ok (.aload_n 0, 1) := by decide +kernel
theorem dX11_init_65 : decode cX11_init 65 = .ok (.iconst (-1), 1) := by decide +kernel
theorem dX11_init_66 : decode cX11_init 66 = .ok (.putfield 32, 3) := by decide +kernel
theorem dX11_init_69 : decode cX11_init 69 = .ok (.aload_n 0, 1) := by decide +kernel
theorem dX11_init_70 : decode cX11_init 70 = .ok (.sipush 200, 3) := by decide +kernel
theorem dX11_init_73 : decode cX11_init 73 = .ok (.newarray .long, 2) := by decide +kernel
theorem dX11_init_75 : decode cX11_init 75 = .ok (.putfield 36, 3) := by decide +kernel
theorem dX11_init_78 : decode cX11_init 78 = .ok (.aload_n 0, 1) := by decide +kernel
theorem dX11_init_79 : decode cX11_init 79 = .ok (.sipush 200, 3) := by decide +kernel
theorem dX11_init_82 : decode cX11_init 82 = .ok (.newarray .long, 2) := by decide +kernel
theorem dX11_init_84 : decode cX11_init 84 = .ok (.putfield 39, 3) := by decide +kernel
theorem dX11_init_87 : decode cX11_init 87 = .ok (.aload_n 0, 1) := by decide +kernel
theorem dX11_init_88 : decode cX11_init 88 = .ok (.sipush 1500, 3) := by decide +kernel
theorem dX11_init_91 : decode cX11_init 91 = .ok (.newarray .long, 2) := by decide +kernel
theorem dX11_init_93 : decode cX11_init 93 = .ok (.putfield 42, 3) := by decide +kernel
theorem dX11_init_96 : decode cX11_init 96 = .ok (.aload_n 0, 1) := by decide +kernel
theorem dX11_init_97 : decode cX11_init 97 = .ok (.sipush 1500, 3) := by decide +kernel
theorem dX11_init_100 : decode cX11_init 100 = .ok (.newarray .long, 2) := by decide +kernel
theorem dX11_init_102 : decode cX11_init 102 = .ok (.putfield 45, 3) := by decide +kernel
theorem dX11_init_105 : decode cX11_init 105 = .ok (.aload_n 0, 1) := by decide +kernel
theorem dX11_init_106 : decode cX11_init 106 = .ok (.sipush 1500, 3) := by decide +kernel
theorem dX11_init_109 : decode cX11_init 109 = .ok (.newarray .int, 2) := by decide +kernel
theorem dX11_init_111 : decode cX11_init 111 = .ok (.putfield 48, 3) := by decide +kernel
theorem dX11_init_114 : decode cX11_init 114 = .ok (.aload_n 0, 1) := by decide +kernel
theorem dX11_init_115 : decode cX11_init 115 = .ok (.sipush 1501, 3) := by decide +kernel
theorem dX11_init_118 : decode cX11_init 118 = .ok (.newarray .int, 2) := by decide +kernel
theorem dX11_init_120 : decode cX11_init 120 = .ok (.putfield 51, 3) := by decide +kernel
theorem dX11_init_123 : decode cX11_init 123 = .ok (.aload_n 0, 1) := by decide +kernel
theorem dX11_init_124 : decode cX11_init 124 = .ok (.sipush 1501, 3) := by decide +kernel
theorem dX11_init_127 : decode cX11_init 127 = .ok (.newarray .int, 2) := by decide +kernel
theorem dX11_init_129 : decode cX11_init 129 = .ok (.putfield 54, 3) := by decide +kernel
theorem dX11_init_132 : decode cX11_init 132 = .ok (.aload_n 0, 1) := by decide +kernel
theorem dX11_init_133 : decode cX11_init 133 = .ok (.sipush 1501, 3) := by decide +kernel
theorem dX11_init_136 : decode cX11_init 136 = .ok (.newarray .int, 2) := by decide +kernel
theorem dX11_init_138 : decode cX11_init 138 = .ok (.putfield 57, 3) := by decide +kernel
theorem dX11_init_141 : decode cX11_init 141 = .ok (.aload_n 0, 1) := by decide +kernel
theorem dX11_init_142 : decode cX11_init 142 = .ok (.sipush 1501, 3) := by decide +kernel
theorem dX11_init_145 : decode cX11_init 145 = .ok (.newarray .int, 2) := by decide +kernel
theorem dX11_init_147 : decode cX11_init 147 = .ok (.putfield 60, 3) := by decide +kernel
theorem dX11_init_150 : decode cX11_init 150 = .ok (.aload_n 0, 1) := by decide +kernel
theorem dX11_init_151 : decode cX11_init 151 = .ok (.sipush 1501, 3) := by decide +kernel
theorem dX11_init_154 : decode cX11_init 154 = .ok (.newarray .int, 2) := by decide +kernel
theorem dX11_init_156 : decode cX11_init 156 = .ok (.putfield 63, 3) := by decide +kernel
theorem dX11_init_159 : decode cX11_init 159 = .ok (.aload_n 0, 1) := by decide +kernel
theorem dX11_init_160 : decode cX11_init 160 = .ok (.sipush 1501, 3) := by decide +kernel
theorem dX11_init_163 : decode cX11_init 163 = .ok (.newarray .int, 2) := by decide +kernel
theorem dX11_init_165 : decode cX11_init 165 = .ok (.putfield 66, 3) := by decide +kernel
theorem dX11_init_168 : decode cX11_init 168 = .ok (.aload_n 0, 1) := by decide +kernel
theorem dX11_init_169 : decode cX11_init 169 = .ok (.sipush 1500, 3) := by decide +kernel
theorem dX11_init_172 : decode cX11_init 172 = .ok (.newarray .int, 2) := by decide +kernel
theorem dX11_init_174 : decode cX11_init 174 = .ok (.putfield 69, 3) := by decide +kernel
theorem dX11_init_177 : decode cX11_init 177 = .ok (.aload_n 0, 1) := by decide +kernel
theorem dX11_init_178 : decode cX11_init 178 = .ok (.sipush 1500, 3) := by decide +kernel
theorem dX11_init_181 : decode cX11_init 181 = .ok (.newarray .int, 2) := by decide +kernel
theorem dX11_init_183 : decode cX11_init 183 = .ok (.putfield 72, 3) := by decide +kernel
theorem dX11_init_186 : decode cX11_init 186 = .ok (.aload_n 0, 1) := by decide +kernel
theorem dX11_init_187 : decode cX11_init 187 = .ok (.sipush 1500, 3) := by decide +kernel
theorem dX11_init_190 : decode cX11_init 190 = .ok (.newarray .int, 2) := by decide +kernel
theorem dX11_init_192 : decode cX11_init 192 = .ok (.putfield 75, 3) := by decide +kernel
theorem dX11_init_195 : decode cX11_init 195 = .ok (.aload_n 0, 1) := by decide +kernel
theorem dX11_init_196 : decode cX11_init 196 = .ok (.sipush 1500, 3) := by decide +kernel
theorem dX11_init_199 : decode cX11_init 199 = .ok (.newarray .int, 2) := by decide +kernel
theorem dX11_init_201 : decode cX11_init 201 = .ok (.putfield 78, 3) := by decide +kernel
theorem dX11_init_204 : decode cX11_init 204 = .ok (.aload_n 0, 1) := by decide +kernel
theorem dX11_init_205 : decode cX11_init 205 = .ok (.sipush 200, 3) := by decide +kernel
theorem dX11_init_208 : decode cX11_init 208 = .ok (.newarray .long, 2) := by decide +kernel
theorem dX11_init_210 : decode cX11_init 210 = .ok (.putfield 81, 3) := by decide +kernel
theorem dX11_init_213 : decode cX11_init 213 = .ok (.aload_n 0, 1) := by decide +kernel
theorem dX11_init_214 : decode cX11_init 214 = .ok (.sipush 200, 3) := by decide +kernel
theorem dX11_init_217 : decode cX11_init 217 = .ok (.newarray .long, 2) := by decide +kernel
theorem dX11_init_219 : decode cX11_init 219 = .ok (.putfield 84, 3) := by decide +kernel
theorem dX11_init_222 : decode cX11_init 222 = .ok (.aload_n 0, 1) := by decide +kernel
theorem dX11_init_223 : decode cX11_init 223 = .ok (.ldc 87, 2) := by decide +kernel
theorem dX11_init_225 : decode cX11_init 225 = .ok (.newarray .int, 2) := by decide +kernel
theorem dX11_init_227 : decode cX11_init 227 = .ok (.putfield 88, 3) := by decide +kernel
theorem dX11_init_230 : decode cX11_init 230 = .ok (.aload_n 0, 1) := by decide +kernel
theorem dX11_init_231 : decode cX11_init 231 = .ok (.sipush 800, 3) := by decide +kernel
theorem dX11_init_234 : decode cX11_init 234 = .ok (.newarray .int, 2) := by decide +kernel
theorem dX11_init_236 : decode cX11_init 236 = .ok (.putfield 91, 3) := by decide +kernel
theorem dX11_init_239 : decode cX11_init 239 = .ok (.aload_n 0, 1) := by decide +kernel
theorem dX11_init_240 : decode cX11_init 240 = .ok (.sipush 1501, 3) := by decide +kernel
theorem dX11_init_243 : decode cX11_init 243 = .ok (.newarray .int, 2) := by decide +kernel
theorem dX11_init_245 : decode cX11_init 245 = .ok (.putfield 94, 3) := by decide +kernel
theorem dX11_init_248 : decode cX11_init 248 = .ok (.aload_n 0, 1) := by decide +kernel
theorem dX11_init_249 : decode cX11_init 249 = .ok (.sipush 1501, 3) := by decide +kernel
theorem dX11_init_252 : decode cX11_init 252 = .ok (.newarray .int, 2) := by decide +kernel
theorem dX11_init_254 : decode cX11_init 254 = .ok (.putfield 97, 3) := by decide +kernel
theorem dX11_init_257 : decode cX11_init 257 = .ok (.return_, 1) := by decide +kernel
theorem dX11_in_0 : decode cX11_in 0 = .ok (.iload_n 0, 1) := by decide +kernel
theorem dX11_in_1 : decode cX11_in 1 = .ok (.iload_n 1, 1) := by decide +kernel
theorem dX11_in_2 : decode cX11_in 2 = .ok (.if_icmp .lt 12, 3) := by decide +kernel
theorem dX11_in_5 : decode cX11_in 5 = .ok (.iload_n 0, 1) := by decide +kernel
theorem dX11_in_6 : decode cX11_in 6 = .ok (.iload_n 2, 1) := by decide +kernel
theorem dX11_in_7 : decode cX11_in 7 = .ok (.if_icmp .gt 7, 3) := by decide +kernel
theorem dX11_in_10 : decode cX11_in 10 = .ok (.iconst 1, 1) := by decide +kernel
theorem dX11_in_11 : decode cX11_in 11 = .ok (.goto 4, 3) := by decide +kernel
theorem dX11_in_14 : decode cX11_in 14 = .ok (.iconst 0, 1) := by decide +kernel
theorem dX11_in_15 : decode cX11_in 15 = .ok (.ireturn, 1) := by decide +kernel
theorem dX11_isByte_0 : decode cX11_isByte 0 = .ok (.iload_n 0, 1) := by decide +kernel
theorem dX11_isByte_1 : decode cX11_isByte 1 = .ok (.bipush 10, 2) := by decide +kernel
theorem dX11_isByte_3 : decode cX11_isByte 3 = .ok (.if_icmp .eq 14, 3) := by decide +kernel
theorem dX11_isByte_6 : decode cX11_isByte 6 = .ok (.iload_n 0, 1) := by decide +kernel
theorem dX11_isByte_7 : decode cX11_isByte 7 = .ok (.bipush 32, 2) := by decide +kernel
theorem dX11_isByte_9 : decode cX11_isByte 9 = .ok (.bipush 126, 2) := by decide +kernel
theorem dX11_isByte_11 : decode cX11_isByte 11 = .ok (.invokestatic 100, 3) := by decide +kernel
theorem dX11_isByte_14 : decode cX11_isByte 14 = .ok (.ifCond .eq 7, 3) := by decide +kernel
theorem dX11_isByte_17 : decode cX11_isByte 17 = .ok (.iconst 1, 1) := by decide +kernel
theorem dX11_isByte_18 : decode cX11_isByte 18 = .ok (.goto 4, 3) := by decide +kernel
theorem dX11_isByte_21 : decode cX11_isByte 21 = .ok (.iconst 0, 1) := by decide +kernel
theorem dX11_isByte_22 : decode cX11_isByte 22 = .ok (.ireturn, 1) := by decide +kernel
theorem dX11_type_0 : decode cX11_type 0 = .ok (.iload_n 3, 1) := by decide +kernel
theorem dX11_type_1 : decode cX11_type 1 = .ok (.iconst 1, 1) := by decide +kernel
theorem dX11_type_2 : decode cX11_type 2 = .ok (.bipush 8, 2) := by decide +kernel
theorem dX11_type_4 : decode cX11_type 4 = .ok (.invokestatic 100, 3) := by decide +kernel
theorem dX11_type_7 : decode cX11_type 7 = .ok (.ifCond .ne 6, 3) := by decide +kernel
theorem dX11_type_10 : decode cX11_type 10 = .ok (.bipush (-2), 2) := by decide +kernel
theorem dX11_type_12 : decode cX11_type 12 = .ok (.ireturn, 1) := by decide +kernel
theorem dX11_type_13 : decode cX11_type 13 = .ok (.iconst 0, 1) := by decide +kernel
theorem dX11_type_14 : decode cX11_type 14 = .ok (.istore 4, 2) := by decide +kernel
theorem dX11_type_16 : decode cX11_type 16 = .ok (.iload 4, 2) := by decide +kernel
theorem dX11_type_18 : decode cX11_type 18 = .ok (.iload_n 3, 1) := by decide +kernel
theorem dX11_type_19 : decode cX11_type 19 = .ok (.if_icmp .ge 30, 3) := by decide +kernel
theorem dX11_type_22 : decode cX11_type 22 = .ok (.lload_n 1, 1) := by decide +kernel
theorem dX11_type_23 : decode cX11_type 23 = .ok (.bipush 8, 2) := by decide +kernel
theorem dX11_type_25 : decode cX11_type 25 = .ok (.iload 4, 2) := by decide +kernel
theorem dX11_type_27 : decode cX11_type 27 = .ok (.imul, 1) := by decide +kernel
theorem dX11_type_28 : decode cX11_type 28 = .ok (.lshr, 1) := by decide +kernel
theorem dX11_type_29 : decode cX11_type 29 = .ok (.ldc2_w 104, 3) := by decide +kernel
theorem dX11_type_32 : decode cX11_type 32 = .ok (.land, 1) := by decide +kernel
theorem dX11_type_33 : decode cX11_type 33 = .ok (.l2i, 1) := by decide +kernel
theorem dX11_type_34 : decode cX11_type 34 = .ok (.invokestatic 106, 3) := by decide +kernel
theorem dX11_type_37 : decode cX11_type 37 = .ok (.ifCond .ne 6, 3) := by decide +kernel
theorem dX11_type_40 : decode cX11_type 40 = .ok (.bipush (-2), 2) := by decide +kernel
theorem dX11_type_42 : decode cX11_type 42 = .ok (.ireturn, 1) := by decide +kernel
theorem dX11_type_43 : decode cX11_type 43 = .ok (.iinc 4 1, 3) := by decide +kernel
theorem dX11_type_46 : decode cX11_type 46 = .ok (.goto (-30), 3) := by decide +kernel
theorem dX11_type_49 : decode cX11_type 49 = .ok (.aload_n 0, 1) := by decide +kernel
theorem dX11_type_50 : decode cX11_type 50 = .ok (.getfield 110, 3) := by decide +kernel
theorem dX11_type_53 : decode cX11_type 53 = .ok (.iload_n 3, 1) := by decide +kernel
theorem dX11_type_54 : decode cX11_type 54 = .ok (.iadd, 1) := by decide +kernel
theorem dX11_type_55 : decode cX11_type 55 = .ok (.sipush 400, 3) := by decide +kernel
theorem dX11_type_58 : decode cX11_type 58 = .ok (.if_icmp .le 6, 3) := by decide +kernel
theorem dX11_type_61 : decode cX11_type 61 = .ok (.bipush (-3), 2) := by decide +kernel
theorem dX11_type_63 : decode cX11_type 63 = .ok (.ireturn, 1) := by decide +kernel
theorem dX11_type_64 : decode cX11_type 64 = .ok (.iconst 0, 1) := by decide +kernel
theorem dX11_type_65 : decode cX11_type 65 = .ok (.istore 4, 2) := by decide +kernel
theorem dX11_type_67 : decode cX11_type 67 = .ok (.iload 4, 2) := by decide +kernel
theorem dX11_type_69 : decode cX11_type 69 = .ok (.iload_n 3, 1) := by decide +kernel
theorem dX11_type_70 : decode cX11_type 70 = .ok (.if_icmp .ge 40, 3) := by decide +kernel
theorem dX11_type_73 : decode cX11_type 73 = .ok (.aload_n 0, 1) := by decide +kernel
theorem dX11_type_74 : decode cX11_type 74 = .ok (.getfield 7, 3) := by decide +kernel
theorem dX11_type_77 : decode cX11_type 77 = .ok (.aload_n 0, 1) := by decide +kernel
theorem dX11_type_78 : decode cX11_type 78 = .ok (.getfield 110, 3) := by decide +kernel
theorem dX11_type_81 : decode cX11_type 81 = .ok (.lload_n 1, 1) := by decide +kernel
theorem dX11_type_82 : decode cX11_type 82 = .ok (.bipush 8, 2) := by decide +kernel
theorem dX11_type_84 : decode cX11_type 84 = .ok (.iload 4, 2) := by decide +kernel
theorem dX11_type_86 : decode cX11_type 86 = .ok (.imul, 1) := by decide +kernel
theorem dX11_type_87 : decode cX11_type 87 = .ok (.lshr, 1) := by decide +kernel
theorem dX11_type_88 : decode cX11_type 88 = .ok (.ldc2_w 104, 3) := by decide +kernel
theorem dX11_type_91 : decode cX11_type 91 = .ok (.land, 1) := by decide +kernel
theorem dX11_type_92 : decode cX11_type 92 = .ok (.l2i, 1) := by decide +kernel
theorem dX11_type_93 : decode cX11_type 93 = .ok (.iastore, 1) := by decide +kernel
theorem dX11_type_94 : decode cX11_type 94 = .ok (.aload_n 0, 1) := by decide +kernel
theorem dX11_type_95 : decode cX11_type 95 = .ok (.dup, 1) := by decide +kernel
theorem dX11_type_96 : decode cX11_type 96 = .ok (.getfield 110, 3) := by decide +kernel
theorem dX11_type_99 : decode cX11_type 99 = .ok (.iconst 1, 1) := by decide +kernel
theorem dX11_type_100 : decode cX11_type 100 = .ok (.iadd, 1) := by decide +kernel
theorem dX11_type_101 : decode cX11_type 101 = .ok (.putfield 110, 3) := by decide +kernel
theorem dX11_type_104 : decode cX11_type 104 = .ok (.iinc 4 1, 3) := by decide +kernel
theorem dX11_type_107 : decode cX11_type 107 = .ok (.goto (-40), 3) := by decide +kernel
theorem dX11_type_110 : decode cX11_type 110 = .ok (.aload_n 0, 1) := by decide +kernel
theorem dX11_type_111 : decode cX11_type 111 = .ok (.getfield 110, 3) := by decide +kernel
theorem dX11_type_114 : decode cX11_type 114 = .ok (.ireturn, 1) := by decide +kernel
theorem dX11_blame_0 : decode cX11_blame 0 = .ok (.aload_n 0, 1) := by decide +kernel
theorem dX11_blame_1 : decode cX11_blame 1 = .ok (.iload_n 1, 1) := by decide +kernel
theorem dX11_blame_2 : decode cX11_blame 2 = .ok (.putfield 113, 3) := by decide +kernel
theorem dX11_blame_5 : decode cX11_blame 5 = .ok (.aload_n 0, 1) := by decide +kernel
theorem dX11_blame_6 : decode cX11_blame 6 = .ok (.iload_n 2, 1) := by decide +kernel
theorem dX11_blame_7 : decode cX11_blame 7 = .ok (.putfield 116, 3) := by decide +kernel
theorem dX11_blame_10 : decode cX11_blame 10 = .ok (.iconst 0, 1) := by decide +kernel
theorem dX11_blame_11 : decode cX11_blame 11 = .ok (.ireturn, 1) := by decide +kernel
theorem dX11_put_0 : decode cX11_put 0 = .ok (.iload_n 1, 1) := by decide +kernel
theorem dX11_put_1 : decode cX11_put 1 = .ok (.bipush 64, 2) := by decide +kernel
theorem dX11_put_3 : decode cX11_put 3 = .ok (.if_icmp .ge 18, 3) := by decide +kernel
theorem dX11_put_6 : decode cX11_put 6 = .ok (.aload_n 0, 1) := by decide +kernel
theorem dX11_put_7 : decode cX11_put 7 = .ok (.dup, 1) := by decide +kernel
theorem dX11_put_8 : decode cX11_put 8 = .ok (.getfield 119, 3) := by decide +kernel
theorem dX11_put_11 : decode cX11_put 11 = .ok (.lconst 1, 1) := by decide +kernel
theorem dX11_put_12 : decode cX11_put 12 = .ok (.iload_n 1, 1) := by decide +kernel
theorem dX11_put_13 : decode cX11_put 13 = .ok (.lshl, 1) := by decide +kernel
theorem dX11_put_14 : decode cX11_put 14 = .ok (.lor, 1) := by decide +kernel
theorem dX11_put_15 : decode cX11_put 15 = .ok (.putfield 119, 3) := by decide +kernel
theorem dX11_put_18 : decode cX11_put 18 = .ok (.goto 18, 3) := by decide +kernel
theorem dX11_put_21 : decode cX11_put 21 = .ok (.aload_n 0, 1) := by decide +kernel
theorem dX11_put_22 : decode cX11_put 22 = .ok (.dup, 1) := by decide +kernel
theorem dX11_put_23 : decode cX11_put 23 = .ok (.getfield 123, 3) := by decide +kernel
theorem dX11_put_26 : decode cX11_put 26 = .ok (.lconst 1, 1) := by decide +kernel
theorem dX11_put_27 : decode cX11_put 27 = .ok (.iload_n 1, 1) := by decide +kernel
theorem dX11_put_28 : decode cX11_put 28 = .ok (.bipush 64, 2) := by decide +kernel
theorem dX11_put_30 : decode cX11_put 30 = .ok (.isub, 1) := by decide +kernel
theorem dX11_put_31 : decode cX11_put 31 = .ok (.lshl, 1) := by decide +kernel
theorem dX11_put_32 : decode cX11_put 32 = .ok (.lor, 1) := by decide +kernel
theorem dX11_put_33 : decode cX11_put 33 = .ok (.putfield 123, 3) := by decide +kernel
theorem dX11_put_36 : decode cX11_put 36 = .ok (.return_, 1) := by decide +kernel
theorem dX11_putAll_0 : decode cX11_putAll 0 = .ok (.iconst 0, 1) := by decide +kernel
theorem dX11_putAll_1 : decode cX11_putAll 1 = .ok (.istore_n 3, 1) := by decide +kernel
theorem dX11_putAll_2 : decode cX11_putAll 2 = .ok (.iload_n 3, 1) := by decide +kernel
theorem dX11_putAll_3 : decode cX11_putAll 3 = .ok (.bipush 127, 2) := by decide +kernel
theorem dX11_putAll_5 : decode cX11_putAll 5 = .ok (.if_icmp .ge 31, 3) := by decide +kernel
theorem dX11_putAll_8 : decode cX11_putAll 8 = .ok (.iload_n 3, 1) := by decide +kernel
theorem dX11_putAll_9 : decode cX11_putAll 9 = .ok (.invokestatic 106, 3) := by decide +kernel
theorem dX11_putAll_12 : decode cX11_putAll 12 = .ok (.ifCond .eq 18, 3) := by decide +kernel
theorem dX11_putAll_15 : decode cX11_putAll 15 = .ok (.iload_n 3, 1) := by decide +kernel
theorem dX11_putAll_16 : decode cX11_putAll 16 = .ok (.iload_n 1, 1) := by decide +kernel
theorem dX11_putAll_17 : decode cX11_putAll 17 = .ok (.if_icmp .lt 13, 3) := by decide +kernel
theorem dX11_putAll_20 : decode cX11_putAll 20 = .ok (.iload_n 3, 1) := by decide +kernel
theorem dX11_putAll_21 : decode cX11_putAll 21 = .ok (.iload_n 2, 1) := by decide +kernel
theorem dX11_putAll_22 : decode cX11_putAll 22 = .ok (.if_icmp .gt 8, 3) := by decide +kernel
theorem dX11_putAll_25 : decode cX11_putAll 25 = .ok (.aload_n 0, 1) := by decide +kernel
theorem dX11_putAll_26 : decode cX11_putAll 26 = .ok (.iload_n 3, 1) := by decide +kernel
theorem dX11_putAll_27 : decode cX11_putAll 27 = .ok (.invokevirtual 126, 3) := by decide +kernel
theorem dX11_putAll_30 : decode cX11_putAll 30 = .ok (.iinc 3 1, 3) := by decide +kernel
theorem dX11_putAll_33 : decode cX11_putAll 33 = .ok (.goto (-31), 3) := by decide +kernel
theorem dX11_putAll_36 : decode cX11_putAll 36 = .ok (.return_, 1) := by decide +kernel
theorem dX11_itemByte_0 : decode cX11_itemByte 0 = .ok (.aload_n 0, 1) := by decide +kernel
theorem dX11_itemByte_1 : decode cX11_itemByte 1 = .ok (.getfield 130, 3) := by decide +kernel
theorem dX11_itemByte_4 : decode cX11_itemByte 4 = .ok (.aload_n 0, 1) := by decide +kernel
theorem dX11_itemByte_5 : decode cX11_itemByte 5 = .ok (.getfield 110, 3) := by decide +kernel
theorem dX11_itemByte_8 : decode cX11_itemByte 8 = .ok (.if_icmp .ge 21, 3) := by decide +kernel
theorem dX11_itemByte_11 : decode cX11_itemByte 11 = .ok (.aload_n 0, 1) := by decide +kernel
theorem dX11_itemByte_12 : decode cX11_itemByte 12 = .ok (.getfield 7, 3) := by decide +kernel
theorem dX11_itemByte_15 : decode cX11_itemByte 15 = .ok (.aload_n 0, 1) := by decide +kernel
theorem dX11_itemByte_16 : decode cX11_itemByte 16 = .ok (.getfield 130, 3) := by decide +kernel
theorem dX11_itemByte_19 : decode cX11_itemByte 19 = .ok (.iaload, 1) := by decide +kernel
theorem dX11_itemByte_20 : decode cX11_itemByte 20 = .ok (.bipush 92, 2) := by decide +kernel
theorem dX11_itemByte_22 : decode cX11_itemByte 22 = .ok (.if_icmp .ne 7, 3) := by decide +kernel
theorem dX11_itemByte_25 : decode cX11_itemByte 25 = .ok (.iconst 1, 1) := by decide +kernel
theorem dX11_itemByte_26 : decode cX11_itemByte 26 = .ok (.goto 4, 3) := by decide +kernel
theorem dX11_itemByte_29 : decode cX11_itemByte 29 = .ok (.iconst 0, 1) := by decide +kernel
theorem dX11_itemByte_30 : decode cX11_itemByte 30 = .ok (.istore_n 1, 1) := by decide +kernel
theorem dX11_itemByte_31 : decode cX11_itemByte 31 = .ok (.aload_n 0, 1) := by decide +kernel
theorem dX11_itemByte_32 : decode cX11_itemByte 32 = .ok (.dup, 1) := by decide +kernel
theorem dX11_itemByte_33 : decode cX11_itemByte 33 = .ok (.getfield 130, 3) := by decide +kernel
theorem dX11_itemByte_36 : decode cX11_itemByte 36 = .ok (.iload_n 1, 1) := by decide +kernel
theorem dX11_itemByte_37 : decode cX11_itemByte 37 = .ok (.ifCond .eq 7, 3) := by decide +kernel
theorem dX11_itemByte_40 : decode cX11_itemByte 40 = .ok (.iconst 1, 1) := by decide +kernel
theorem dX11_itemByte_41 : decode cX11_itemByte 41 = .ok (.goto 4, 3) := by decide +kernel
theorem dX11_itemByte_44 : decode cX11_itemByte 44 = .ok (.iconst 0, 1) := by decide +kernel
theorem dX11_itemByte_45 : decode cX11_itemByte 45 = .ok (.iadd, 1) := by decide +kernel
theorem dX11_itemByte_46 : decode cX11_itemByte 46 = .ok (.putfield 130, 3) := by decide +kernel
theorem dX11_itemByte_49 : decode cX11_itemByte 49 = .ok (.aload_n 0, 1) := by decide +kernel
theorem dX11_itemByte_50 : decode cX11_itemByte 50 = .ok (.getfield 130, 3) := by decide +kernel
theorem dX11_itemByte_53 : decode cX11_itemByte 53 = .ok (.aload_n 0, 1) := by decide +kernel
theorem dX11_itemByte_54 : decode cX11_itemByte 54 = .ok (.getfield 110, 3) := by decide +kernel
theorem dX11_itemByte_57 : decode cX11_itemByte 57 = .ok (.if_icmp .lt 13, 3) := by decide +kernel
theorem dX11_itemByte_60 : decode cX11_itemByte 60 = .ok (.aload_n 0, 1) := by decide +kernel
theorem dX11_itemByte_61 : decode cX11_itemByte 61 = .ok (.iconst 3, 1) := by decide +kernel
theorem dX11_itemByte_62 : decode cX11_itemByte 62 = .ok (.aload_n 0, 1) := by decide +kernel
theorem dX11_itemByte_63 : decode cX11_itemByte 63 = .ok (.getfield 110, 3) := by decide +kernel
theorem dX11_itemByte_66 : decode cX11_itemByte 66 = .ok (.invokevirtual 133, 3) := by decide +kernel
theorem dX11_itemByte_69 : decode cX11_itemByte 69 = .ok (.ireturn, 1) := by decide +kernel
theorem dX11_itemByte_70 : decode cX11_itemByte 70 = .ok (.aload_n 0, 1) := by decide +kernel
theorem dX11_itemByte_71 : decode cX11_itemByte 71 = .ok (.dup, 1) := by decide +kernel
theorem dX11_itemByte_72 : decode cX11_itemByte 72 = .ok (.getfield 130, 3) := by decide +kernel
theorem dX11_itemByte_75 : decode cX11_itemByte 75 = .ok (.iconst 1, 1) := by decide +kernel
theorem dX11_itemByte_76 : decode cX11_itemByte 76 = .ok (.iadd, 1) := by decide +kernel
theorem dX11_itemByte_77 : decode cX11_itemByte 77 = .ok (.putfield 130, 3) := by decide +kernel
theorem dX11_itemByte_80 : decode cX11_itemByte 80 = .ok (.aload_n 0, 1) := by decide +kernel
theorem dX11_itemByte_81 : decode cX11_itemByte 81 = .ok (.getfield 7, 3) := by decide +kernel
theorem dX11_itemByte_84 : decode cX11_itemByte 84 = .ok (.aload_n 0, 1) := by decide +kernel
theorem dX11_itemByte_85 : decode cX11_itemByte 85 = .ok (.getfield 130, 3) := by decide +kernel
theorem dX11_itemByte_88 : decode cX11_itemByte 88 = .ok (.iconst 1, 1) := by decide +kernel
theorem dX11_itemByte_89 : decode cX11_itemByte 89 = .ok (.isub, 1) := by decide +kernel
theorem dX11_itemByte_90 : decode cX11_itemByte 90 = .ok (.iaload, 1) := by decide +kernel
theorem dX11_itemByte_91 : decode cX11_itemByte 91 = .ok (.ireturn, 1) := by decide +kernel
theorem dX11_bracket_0 : decode cX11_bracket 0 = .ok (.aload_n 0, 1) := by decide +kernel
theorem dX11_bracket_1 : decode cX11_bracket 1 = .ok (.dup, 1) := by decide +kernel
theorem dX11_bracket_2 : decode cX11_bracket 2 = .ok (.getfield 130, 3) := by decide +kernel
theorem dX11_bracket_5 : decode cX11_bracket 5 = .ok (.iconst 1, 1) := by decide +kernel
theorem dX11_bracket_6 : decode cX11_bracket 6 = .ok (.iadd, 1) := by decide +kernel
theorem dX11_bracket_7 : decode cX11_bracket 7 = .ok (.putfield 130, 3) := by decide +kernel
theorem dX11_bracket_10 : decode cX11_bracket 10 = .ok (.aload_n 0, 1) := by decide +kernel
theorem dX11_bracket_11 : decode cX11_bracket 11 = .ok (.getfield 130, 3) := by decide +kernel
theorem dX11_bracket_14 : decode cX11_bracket 14 = .ok (.aload_n 0, 1) := by decide +kernel
theorem dX11_bracket_15 : decode cX11_bracket 15 = .ok (.getfield 110, 3) := by decide +kernel
theorem dX11_bracket_18 : decode cX11_bracket 18 = .ok (.if_icmp .ge 21, 3) := by decide +kernel
theorem dX11_bracket_21 : decode cX11_bracket 21 = .ok (.aload_n 0, 1) := by decide +kernel
theorem dX11_bracket_22 : decode cX11_bracket 22 = .ok (.getfield 7, 3) := by decide +kernel
theorem dX11_bracket_25 : decode cX11_bracket 25 = .ok (.aload_n 0, 1) := by decide +kernel
theorem dX11_bracket_26 : decode cX11_bracket 26 = .ok (.getfield 130, 3) := by decide +kernel
theorem dX11_bracket_29 : decode cX11_bracket 29 = .ok (.iaload, 1) := by decide +kernel
theorem dX11_bracket_30 : decode cX11_bracket 30 = .ok (.bipush 94, 2) := by decide +kernel
theorem dX11_bracket_32 : decode cX11_bracket 32 = .ok (.if_icmp .ne 7, 3) := by decide +kernel
theorem dX11_bracket_35 : decode cX11_bracket 35 = .ok (.iconst 1, 1) := by decide +kernel
theorem dX11_bracket_36 : decode cX11_bracket 36 = .ok (.goto 4, 3) := by decide +kernel
theorem dX11_bracket_39 : decode cX11_bracket 39 = .ok (.iconst 0, 1) := by decide +kernel
theorem dX11_bracket_40 : decode cX11_bracket 40 = .ok (.istore_n 1, 1) := by decide +kernel
theorem dX11_bracket_41 : decode cX11_bracket 41 = .ok (.aload_n 0, 1) := by decide +kernel
theorem dX11_bracket_42 : decode cX11_bracket 42 = .ok (.dup, 1) := by decide +kernel
theorem dX11_bracket_43 : decode cX11_bracket 43 = .ok (.getfield 130, 3) := by decide +kernel
theorem dX11_bracket_46 : decode cX11_bracket 46 = .ok (.iload_n 1, 1) := by decide +kernel
theorem dX11_bracket_47 : decode cX11_bracket 47 = .ok (.ifCond .eq 7, 3) := by decide +kernel
theorem dX11_bracket_50 : decode cX11_bracket 50 = .ok (.iconst 1, 1) := by decide +kernel
theorem dX11_bracket_51 : decode cX11_bracket 51 = .ok (.goto 4, 3) := by decide +kernel
theorem dX11_bracket_54 : decode cX11_bracket 54 = .ok (.iconst 0, 1) := by decide +kernel
theorem dX11_bracket_55 : decode cX11_bracket 55 = .ok (.iadd, 1) := by decide +kernel
theorem dX11_bracket_56 : decode cX11_bracket 56 = .ok (.putfield 130, 3) := by decide +kernel
theorem dX11_bracket_59 : decode cX11_bracket 59 = .ok (.aload_n 0, 1) := by decide +kernel
theorem dX11_bracket_60 : decode cX11_bracket 60 = .ok (.getfield 130, 3) := by decide +kernel
theorem dX11_bracket_63 : decode cX11_bracket 63 = .ok (.aload_n 0, 1) := by decide +kernel
theorem dX11_bracket_64 : decode cX11_bracket 64 = .ok (.getfield 110, 3) := by decide +kernel
theorem dX11_bracket_67 : decode cX11_bracket 67 = .ok (.if_icmp .ge 28, 3) := by decide +kernel
theorem dX11_bracket_70 : decode cX11_bracket 70 = .ok (.aload_n 0, 1) := by decide +kernel
theorem dX11_bracket_71 : decode cX11_bracket 71 = .ok (.getfield 7, 3) := by decide +kernel
theorem dX11_bracket_74 : decode cX11_bracket 74 = .ok (.aload_n 0, 1) := by decide +kernel
theorem dX11_bracket_75 : decode cX11_bracket 75 = .ok (.getfield 130, 3) := by decide +kernel
theorem dX11_bracket_78 : decode cX11_bracket 78 = .ok (.iaload, 1) := by decide +kernel
theorem dX11_bracket_79 : decode cX11_bracket 79 = .ok (.bipush 93, 2) := by decide +kernel
theorem dX11_bracket_81 : decode cX11_bracket 81 = .ok (.if_icmp .ne 14, 3) := by decide +kernel
theorem dX11_bracket_84 : decode cX11_bracket 84 = .ok (.aload_n 0, 1) := by decide +kernel
theorem dX11_bracket_85 : decode cX11_bracket 85 = .ok (.iconst 2, 1) := by decide +kernel
theorem dX11_bracket_86 : decode cX11_bracket 86 = .ok (.aload_n 0, 1) := by decide +kernel
theorem dX11_bracket_87 : decode cX11_bracket 87 = .ok (.getfield 130, 3) := by decide +kernel
theorem dX11_bracket_90 : decode cX11_bracket 90 = .ok (.invokevirtual 133, 3) := by decide +kernel
theorem dX11_bracket_93 : decode cX11_bracket 93 = .ok (.istore_n 2, 1) := by decide +kernel
theorem dX11_bracket_94 : decode cX11_bracket 94 = .ok (.return_, 1) := by decide +kernel
theorem dX11_bracket_95 : decode cX11_bracket 95 = .ok (.iconst 1, 1) := by decide +kernel
theorem dX11_bracket_96 : decode cX11_bracket 96 = .ok (.istore_n 2, 1) := by decide +kernel
theorem dX11_bracket_97 : decode cX11_bracket 97 = .ok (.iload_n 2, 1) := by decide +kernel
theorem dX11_bracket_98 : decode cX11_bracket 98 = .ok (.ifCond .eq 157, 3) := by decide +kernel
theorem dX11_bracket_101 : decode cX11_bracket 101 = .ok (.aload_n 0, 1) := by decide +kernel
theorem dX11_bracket_102 : decode cX11_bracket 102 = .ok (.getfield 113, 3) := by decide +kernel
theorem dX11_bracket_105 : decode cX11_bracket 105 = .ok (.ifCond .ne 150, 3) := by decide +kernel
theorem dX11_bracket_108 : decode cX11_bracket 108 = .ok (.aload_n 0, 1) := by decide +kernel
theorem dX11_bracket_109 : decode cX11_bracket 109 = .ok (.invokevirtual 137, 3) := by decide +kernel
theorem dX11_bracket_112 : decode cX11_bracket 112 = .ok (.istore_n 3, 1) := by decide +kernel
theorem dX11_bracket_113 : decode cX11_bracket 113 = .ok (.iload_n 3, 1) := by decide +kernel
theorem dX11_bracket_114 : decode cX11_bracket 114 = .ok (.istore 4, 2) := by decide +kernel
theorem dX11_bracket_116 : decode cX11_bracket 116 = .ok (.aload_n 0, 1) := by decide +kernel
theorem dX11_bracket_117 : decode cX11_bracket 117 = .ok (.getfield 113, 3) := by decide +kernel
theorem dX11_bracket_120 : decode cX11_bracket 120 = .ok (.ifCond .ne 73, 3) := by decide +kernel
theorem dX11_bracket_123 : decode cX11_bracket 123 = .ok (.aload_n 0, 1) := by decide +kernel
theorem dX11_bracket_124 : decode cX11_bracket 124 = .ok (.getfield 130, 3) := by decide +kernel
theorem dX11_bracket_127 : decode cX11_bracket 127 = .ok (.aload_n 0, 1) := by decide +kernel
theorem dX11_bracket_128 : decode cX11_bracket 128 = .ok (.getfield 110, 3) := by decide +kernel
theorem dX11_bracket_131 : decode cX11_bracket 131 = .ok (.if_icmp .ge 62, 3) := by decide +kernel
theorem dX11_bracket_134 : decode cX11_bracket 134 = .ok (.aload_n 0, 1) := by decide +kernel
theorem dX11_bracket_135 : decode cX11_bracket 135 = .ok (.getfield 7, 3) := by decide +kernel
theorem dX11_bracket_138 : decode cX11_bracket 138 = .ok (.aload_n 0, 1) := by decide +kernel
theorem dX11_bracket_139 : decode cX11_bracket 139 = .ok (.getfield 130, 3) := by decide +kernel
theorem dX11_bracket_142 : decode cX11_bracket 142 = .ok (.iaload, 1) := by decide +kernel
theorem dX11_bracket_143 : decode cX11_bracket 143 = .ok (.bipush 45, 2) := by decide +kernel
theorem dX11_bracket_145 : decode cX11_bracket 145 = .ok (.if_icmp .ne 48, 3) := by decide +kernel
theorem dX11_bracket_148 : decode cX11_bracket 148 = .ok (.aload_n 0, 1) := by decide +kernel
theorem dX11_bracket_149 : decode cX11_bracket 149 = .ok (.getfield 130, 3) := by decide +kernel
theorem dX11_bracket_152 : decode cX11_bracket 152 = .ok (.iconst 1, 1) := by decide +kernel
theorem dX11_bracket_153 : decode cX11_bracket 153 = .ok (.iadd, 1) := by decide +kernel
theorem dX11_bracket_154 : decode cX11_bracket 154 = .ok (.aload_n 0, 1) := by decide +kernel
theorem dX11_bracket_155 : decode cX11_bracket 155 = .ok (.getfield 110, 3) := by decide +kernel
theorem dX11_bracket_158 : decode cX11_bracket 158 = .ok (.if_icmp .ge 19, 3) := by decide +kernel
theorem dX11_bracket_161 : decode cX11_bracket 161 = .ok (.aload_n 0, 1) := by decide +kernel
theorem dX11_bracket_162 : decode cX11_bracket 162 = .ok (.getfield 7, 3) := by decide +kernel
theorem dX11_bracket_165 : decode cX11_bracket 165 = .ok (.aload_n 0, 1) := by decide +kernel
theorem dX11_bracket_166 : decode cX11_bracket 166 = .ok (.getfield 130, 3) := by decide +kernel
theorem dX11_bracket_169 : decode cX11_bracket 169 = .ok (.iconst 1, 1) := by decide +kernel
theorem dX11_bracket_170 : decode cX11_bracket 170 = .ok (.iadd, 1) := by decide +kernel
theorem dX11_bracket_171 : decode cX11_bracket 171 = .ok (.iaload, 1) := by decide +kernel
theorem dX11_bracket_172 : decode cX11_bracket 172 = .ok (.bipush 93, 2) := by decide +kernel
theorem dX11_bracket_174 : decode cX11_bracket 174 = .ok (.if_icmp .eq 19, 3) := by decide +kernel
theorem dX11_bracket_177 : decode cX11_bracket 177 = .ok (.aload_n 0, 1) := by decide +kernel
theorem dX11_bracket_178 : decode cX11_bracket 178 = .ok (.dup, 1) := by decide +kernel
theorem dX11_bracket_179 : decode cX11_bracket 179 = .ok (.getfield 130, 3) := by decide +kernel
theorem dX11_bracket_182 : decode cX11_bracket 182 = .ok (.iconst 1, 1) := by decide +kernel
theorem dX11_bracket_183 : decode cX11_bracket 183 = .ok (.iadd, 1) := by decide +kernel
theorem dX11_bracket_184 : decode cX11_bracket 184 = .ok (.putfield 130, 3) := by decide +kernel
theorem dX11_bracket_187 : decode cX11_bracket 187 = .ok (.aload_n 0, 1) := by decide +kernel
theorem dX11_bracket_188 : decode cX11_bracket 188 = .ok (.invokevirtual 137, 3) := by decide +kernel
theorem dX11_bracket_191 : decode cX11_bracket 191 = .ok (.istore 4, 2) := by decide +kernel
theorem dX11_bracket_193 : decode cX11_bracket 193 = .ok (.aload_n 0, 1) := by decide +kernel
theorem dX11_bracket_194 : decode cX11_bracket 194 = .ok (.getfield 113, 3) := by decide +kernel
theorem dX11_bracket_197 : decode cX11_bracket 197 = .ok (.ifCond .ne 55, 3) := by decide +kernel
theorem dX11_bracket_200 : decode cX11_bracket 200 = .ok (.aload_n 0, 1) := by decide +kernel
theorem dX11_bracket_201 : decode cX11_bracket 201 = .ok (.iload_n 3, 1) := by decide +kernel
theorem dX11_bracket_202 : decode cX11_bracket 202 = .ok (.iload 4, 2) := by decide +kernel
theorem dX11_bracket_204 : decode cX11_bracket 204 = .ok (.invokevirtual 141, 3) := by decide +kernel
theorem dX11_bracket_207 : decode cX11_bracket 207 = .ok (.aload_n 0, 1) := by decide +kernel
theorem dX11_bracket_208 : decode cX11_bracket 208 = .ok (.getfield 130, 3) := by decide +kernel
theorem dX11_bracket_211 : decode cX11_bracket 211 = .ok (.aload_n 0, 1) := by decide +kernel
theorem dX11_bracket_212 : decode cX11_bracket 212 = .ok (.getfield 110, 3) := by decide +kernel
theorem dX11_bracket_215 : decode cX11_bracket 215 = .ok (.if_icmp .lt 17, 3) := by decide +kernel
theorem dX11_bracket_218 : decode cX11_bracket 218 = .ok (.aload_n 0, 1) := by decide +kernel
theorem dX11_bracket_219 : decode cX11_bracket 219 = .ok (.iconst 3, 1) := by decide +kernel
theorem dX11_bracket_220 : decode cX11_bracket 220 = .ok (.aload_n 0, 1) := by decide +kernel
theorem dX11_bracket_221 : decode cX11_bracket 221 = .ok (.getfield 110, 3) := by decide +kernel
theorem dX11_bracket_224 : decode cX11_bracket 224 = .ok (.invokevirtual 133, 3) := by decide +kernel
theorem dX11_bracket_227 : decode cX11_bracket 227 = .ok (.istore 5, 2) := by decide +kernel
theorem dX11_bracket_229 : decode cX11_bracket 229 = .ok (.goto 23, 3) := by decide +kernel
theorem dX11_bracket_232 : decode cX11_bracket 232 = .ok (.aload_n 0, 1) := by decide +kernel
theorem dX11_bracket_233 : decode cX11_bracket 233 = .ok (.getfield 7, 3) := by decide +kernel
theorem dX11_bracket_236 : decode cX11_bracket 236 = .ok (.aload_n 0, 1) := by decide +kernel
theorem dX11_bracket_237 : decode cX11_bracket 237 = .ok (.getfield 130, 3) := by decide +kernel
theorem dX11_bracket_240 : decode cX11_bracket 240 = .ok (.iaload, 1) := by decide +kernel
theorem dX11_bracket_241 : decode cX11_bracket 241 = .ok (.bipush 93, 2) := by decide +kernel
theorem dX11_bracket_243 : decode cX11_bracket 243 = .ok (.if_icmp .eq 7, 3) := by decide +kernel
theorem dX11_bracket_246 : decode cX11_bracket 246 = .ok (.iconst 1, 1) := by decide +kernel
theorem dX11_bracket_247 : decode cX11_bracket 247 = .ok (.goto 4, 3) := by decide +kernel
theorem dX11_bracket_250 : decode cX11_bracket 250 = .ok (.iconst 0, 1) := by decide +kernel
theorem dX11_bracket_251 : decode cX11_bracket 251 = .ok (.istore_n 2, 1) := by decide +kernel
theorem dX11_bracket_252 : decode cX11_bracket 252 = .ok (.goto (-155), 3) := by decide +kernel
theorem dX11_bracket_255 : decode cX11_bracket 255 = .ok (.aload_n 0, 1) := by decide +kernel
theorem dX11_bracket_256 : decode cX11_bracket 256 = .ok (.dup, 1) := by decide +kernel
theorem dX11_bracket_257 : decode cX11_bracket 257 = .ok (.getfield 130, 3) := by decide +kernel
theorem dX11_bracket_260 : decode cX11_bracket 260 = .ok (.iconst 1, 1) := by decide +kernel
theorem dX11_bracket_261 : decode cX11_bracket 261 = .ok (.iadd, 1) := by decide +kernel
theorem dX11_bracket_262 : decode cX11_bracket 262 = .ok (.putfield 130, 3) := by decide +kernel
theorem dX11_bracket_265 : decode cX11_bracket 265 = .ok (.iload_n 1, 1) := by decide +kernel
theorem dX11_bracket_266 : decode cX11_bracket 266 = .ok (.ifCond .eq 60, 3) := by decide +kernel
theorem dX11_bracket_269 : decode cX11_bracket 269 = .ok (.aload_n 0, 1) := by decide +kernel
theorem dX11_bracket_270 : decode cX11_bracket 270 = .ok (.getfield 119, 3) := by decide +kernel
theorem dX11_bracket_273 : decode cX11_bracket 273 = .ok (.lstore_n 3, 1) := by decide +kernel
theorem dX11_bracket_274 : decode cX11_bracket 274 = .ok (.aload_n 0, 1) := by decide +kernel
theorem dX11_bracket_275 : decode cX11_bracket 275 = .ok (.getfield 123, 3) := by decide +kernel
theorem dX11_bracket_278 : decode cX11_bracket 278 = .ok (.lstore 5, 2) := by decide +kernel
theorem dX11_bracket_280 : decode cX11_bracket 280 = .ok (.aload_n 0, 1) := by decide +kernel
theorem dX11_bracket_281 : decode cX11_bracket 281 = .ok (.lconst 0, 1) := by decide +kernel
theorem dX11_bracket_282 : decode cX11_bracket 282 = .ok (.putfield 119, 3) := by decide +kernel
theorem dX11_bracket_285 : decode cX11_bracket 285 = .ok (.aload_n 0, 1) := by decide +kernel
theorem dX11_bracket_286 : decode cX11_bracket 286 = .ok (.lconst 0, 1) := by decide +kernel
theorem dX11_bracket_287 : decode cX11_bracket 287 = .ok (.putfield 123, 3) := by decide +kernel
theorem dX11_bracket_290 : decode cX11_bracket 290 = .ok (.aload_n 0, 1) := by decide +kernel
theorem dX11_bracket_291 : decode cX11_bracket 291 = .ok (.iconst 0, 1) := by decide +kernel
theorem dX11_bracket_292 : decode cX11_bracket 292 = .ok (.bipush 126, 2) := by decide +kernel
theorem dX11_bracket_294 : decode cX11_bracket 294 = .ok (.invokevirtual 141, 3) := by decide +kernel
theorem dX11_bracket_297 : decode cX11_bracket 297 = .ok (.aload_n 0, 1) := by decide +kernel
theorem dX11_bracket_298 : decode cX11_bracket 298 = .ok (.dup, 1) := by decide +kernel
theorem dX11_bracket_299 : decode cX11_bracket 299 = .ok (.getfield 119, 3) := by decide +kernel
theorem dX11_bracket_302 : decode cX11_bracket 302 = .ok (.lload_n 3, 1) := by decide +kernel
theorem dX11_bracket_303 : decode cX11_bracket 303 = .ok (.ldc2_w 145, 3) := by decide +kernel
theorem dX11_bracket_306 : decode cX11_bracket 306 = .ok (.lxor, 1) := by decide +kernel
theorem dX11_bracket_307 : decode cX11_bracket 307 = .ok (.land, 1) := by decide +kernel
theorem dX11_bracket_308 : decode cX11_bracket 308 = .ok (.putfield 119, 3) := by decide +kernel
theorem dX11_bracket_311 : decode cX11_bracket 311 = .ok (.aload_n 0, 1) := by decide +kernel
theorem dX11_bracket_312 : decode cX11_bracket 312 = .ok (.dup, 1) := by decide +kernel
theorem dX11_bracket_313 : decode cX11_bracket 313 = .ok (.getfield 123, 3) := by decide +kernel
theorem dX11_bracket_316 : decode cX11_bracket 316 = .ok (.lload 5, 2) := by decide +kernel
theorem dX11_bracket_318 : decode cX11_bracket 318 = .ok (.ldc2_w 145, 3) := by decide +kernel
theorem dX11_bracket_321 : decode cX11_bracket 321 = .ok (.lxor, 1) := by decide +kernel
theorem dX11_bracket_322 : decode cX11_bracket 322 = .ok (.land, 1) := by decide +kernel
theorem dX11_bracket_323 : decode cX11_bracket 323 = .ok (.putfield 123, 3) := by decide +kernel
theorem dX11_bracket_326 : decode cX11_bracket 326 = .ok (.return_, 1) := by decide +kernel
theorem dX11_element_0 : decode cX11_element 0 = .ok (.aload_n 0, 1) := by decide +kernel
theorem dX11_element_1 : decode cX11_element 1 = .ok (.getfield 7, 3) := by decide +kernel
theorem dX11_element_4 : decode cX11_element 4 = .ok (.aload_n 0, 1) := by decide +kernel
theorem dX11_element_5 : decode cX11_element 5 = .ok (.getfield 130, 3) := by decide +kernel
theorem dX11_element_8 : decode cX11_element 8 = .ok (.iaload, 1) := by decide +kernel
theorem dX11_element_9 : decode cX11_element 9 = .ok (.istore_n 1, 1) := by decide +kernel
theorem dX11_element_10 : decode cX11_element 10 = .ok (.iload_n 1, 1) := by decide +kernel
theorem dX11_element_11 : decode cX11_element 11 = .ok (.bipush 93, 2) := by decide +kernel
theorem dX11_element_13 : decode cX11_element 13 = .ok (.if_icmp .ne 14, 3) := by decide +kernel
theorem dX11_element_16 : decode cX11_element 16 = .ok (.aload_n 0, 1) := by decide +kernel
theorem dX11_element_17 : decode cX11_element 17 = .ok (.iconst 1, 1) := by decide +kernel
theorem dX11_element_18 : decode cX11_element 18 = .ok (.aload_n 0, 1) := by decide +kernel
theorem dX11_element_19 : decode cX11_element 19 = .ok (.getfield 130, 3) := by decide +kernel
theorem dX11_element_22 : decode cX11_element 22 = .ok (.invokevirtual 133, 3) := by decide +kernel
theorem dX11_element_25 : decode cX11_element 25 = .ok (.istore_n 2, 1) := by decide +kernel
theorem dX11_element_26 : decode cX11_element 26 = .ok (.return_, 1) := by decide +kernel
theorem dX11_element_27 : decode cX11_element 27 = .ok (.aload_n 0, 1) := by decide +kernel
theorem dX11_element_28 : decode cX11_element 28 = .ok (.getfield 147, 3) := by decide +kernel
theorem dX11_element_31 : decode cX11_element 31 = .ok (.sipush 200, 3) := by decide +kernel
theorem dX11_element_34 : decode cX11_element 34 = .ok (.if_icmp .ne 14, 3) := by decide +kernel
theorem dX11_element_37 : decode cX11_element 37 = .ok (.aload_n 0, 1) := by decide +kernel
theorem dX11_element_38 : decode cX11_element 38 = .ok (.iconst 4, 1) := by decide +kernel
theorem dX11_element_39 : decode cX11_element 39 = .ok (.aload_n 0, 1) := by decide +kernel
theorem dX11_element_40 : decode cX11_element 40 = .ok (.getfield 130, 3) := by decide +kernel
theorem dX11_element_43 : decode cX11_element 43 = .ok (.invokevirtual 133, 3) := by decide +kernel
theorem dX11_element_46 : decode cX11_element 46 = .ok (.istore_n 2, 1) := by decide +kernel
theorem dX11_element_47 : decode cX11_element 47 = .ok (.return_, 1) := by decide +kernel
theorem dX11_element_48 : decode cX11_element 48 = .ok (.aload_n 0, 1) := by decide +kernel
theorem dX11_element_49 : decode cX11_element 49 = .ok (.lconst 0, 1) := by decide +kernel
theorem dX11_element_50 : decode cX11_element 50 = .ok (.putfield 119, 3) := by decide +kernel
theorem dX11_element_53 : decode cX11_element 53 = .ok (.aload_n 0, 1) := by decide +kernel
theorem dX11_element_54 : decode cX11_element 54 = .ok (.lconst 0, 1) := by decide +kernel
theorem dX11_element_55 : decode cX11_element 55 = .ok (.putfield 123, 3) := by decide +kernel
theorem dX11_element_58 : decode cX11_element 58 = .ok (.iload_n 1, 1) := by decide +kernel
theorem dX11_element_59 : decode cX11_element 59 = .ok (.bipush 46, 2) := by decide +kernel
theorem dX11_element_61 : decode cX11_element 61 = .ok (.if_icmp .ne 24, 3) := by decide +kernel
theorem dX11_element_64 : decode cX11_element 64 = .ok (.aload_n 0, 1) := by decide +kernel
theorem dX11_element_65 : decode cX11_element 65 = .ok (.bipush 32, 2) := by decide +kernel
theorem dX11_element_67 : decode cX11_element 67 = .ok (.bipush 126, 2) := by decide +kernel
theorem dX11_element_69 : decode cX11_element 69 = .ok (.invokevirtual 141, 3) := by decide +kernel
theorem dX11_element_72 : decode cX11_element 72 = .ok (.aload_n 0, 1) := by decide +kernel
theorem dX11_element_73 : decode cX11_element 73 = .ok (.dup, 1) := by decide +kernel
theorem dX11_element_74 : decode cX11_element 74 = .ok (.getfield 130, 3) := by decide +kernel
theorem dX11_element_77 : decode cX11_element 77 = .ok (.iconst 1, 1) := by decide +kernel
theorem dX11_element_78 : decode cX11_element 78 = .ok (.iadd, 1) := by decide +kernel
theorem dX11_element_79 : decode cX11_element 79 = .ok (.putfield 130, 3) := by decide +kernel
theorem dX11_element_82 : decode cX11_element 82 = .ok (.goto 24, 3) := by decide +kernel
theorem dX11_element_85 : decode cX11_element 85 = .ok (.iload_n 1, 1) := by decide +kernel
theorem dX11_element_86 : decode cX11_element 86 = .ok (.bipush 91, 2) := by decide +kernel
theorem dX11_element_88 : decode cX11_element 88 = .ok (.if_icmp .ne 10, 3) := by decide +kernel
theorem dX11_element_91 : decode cX11_element 91 = .ok (.aload_n 0, 1) := by decide +kernel
theorem dX11_element_92 : decode cX11_element 92 = .ok (.invokevirtual 150, 3) := by decide +kernel
theorem dX11_element_95 : decode cX11_element 95 = .ok (.goto 11, 3) := by decide +kernel
theorem dX11_element_98 : decode cX11_element 98 = .ok (.aload_n 0, 1) := by decide +kernel
theorem dX11_element_99 : decode cX11_element 99 = .ok (.aload_n 0, 1) := by decide +kernel
theorem dX11_element_100 : decode cX11_element 100 = .ok (.invokevirtual 137, 3) := by decide +kernel
theorem dX11_element_103 : decode cX11_element 103 = .ok (.invokevirtual 126, 3) := by decide +kernel
theorem dX11_element_106 : decode cX11_element 106 = .ok (.aload_n 0, 1) := by decide +kernel
theorem dX11_element_107 : decode cX11_element 107 = .ok (.getfield 113, 3) := by decide +kernel
theorem dX11_element_110 : decode cX11_element 110 = .ok (.ifCond .ne 39, 3) := by decide +kernel
theorem dX11_element_113 : decode cX11_element 113 = .ok (.aload_n 0, 1) := by decide +kernel
theorem dX11_element_114 : decode cX11_element 114 = .ok (.getfield 36, 3) := by decide +kernel
theorem dX11_element_117 : decode cX11_element 117 = .ok (.aload_n 0, 1) := by decide +kernel
theorem dX11_element_118 : decode cX11_element 118 = .ok (.getfield 147, 3) := by decide +kernel
theorem dX11_element_121 : decode cX11_element 121 = .ok (.aload_n 0, 1) := by decide +kernel
theorem dX11_element_122 : decode cX11_element 122 = .ok (.getfield 119, 3) := by decide +kernel
theorem dX11_element_125 : decode cX11_element 125 = .ok (.lastore, 1) := by decide +kernel
theorem dX11_element_126 : decode cX11_element 126 = .ok (.aload_n 0, 1) := by decide +kernel
theorem dX11_element_127 : decode cX11_element 127 = .ok (.getfield 39, 3) := by decide +kernel
theorem dX11_element_130 : decode cX11_element 130 = .ok (.aload_n 0, 1) := by decide +kernel
theorem dX11_element_131 : decode cX11_element 131 = .ok (.getfield 147, 3) := by decide +kernel
theorem dX11_element_134 : decode cX11_element 134 = .ok (.aload_n 0, 1) := by decide +kernel
theorem dX11_element_135 : decode cX11_element 135 = .ok (.getfield 123, 3) := by decide +kernel
theorem dX11_element_138 : decode cX11_element 138 = .ok (.lastore, 1) := by decide +kernel
theorem dX11_element_139 : decode cX11_element 139 = .ok (.aload_n 0, 1) := by decide +kernel
theorem dX11_element_140 : decode cX11_element 140 = .ok (.dup, 1) := by decide +kernel
theorem dX11_element_141 : decode cX11_element 141 = .ok (.getfield 147, 3) := by decide +kernel
theorem dX11_element_144 : decode cX11_element 144 = .ok (.iconst 1, 1) := by decide +kernel
theorem dX11_element_145 : decode cX11_element 145 = .ok (.iadd, 1) := by decide +kernel
theorem dX11_element_146 : decode cX11_element 146 = .ok (.putfield 147, 3) := by decide +kernel
theorem dX11_element_149 : decode cX11_element 149 = .ok (.return_, 1) := by decide +kernel
theorem dX11_pattern_0 : decode cX11_pattern 0 = .ok (.iload_n 1, 1) := by decide +kernel
theorem dX11_pattern_1 : decode cX11_pattern 1 = .ok (.iconst 0, 1) := by decide +kernel
theorem dX11_pattern_2 : decode cX11_pattern 2 = .ok (.bipush 7, 2) := by decide +kernel
theorem dX11_pattern_4 : decode cX11_pattern 4 = .ok (.invokestatic 100, 3) := by decide +kernel
theorem dX11_pattern_7 : decode cX11_pattern 7 = .ok (.ifCond .ne 6, 3) := by decide +kernel
theorem dX11_pattern_10 : decode cX11_pattern 10 = .ok (.bipush (-2), 2) := by decide +kernel
theorem dX11_pattern_12 : decode cX11_pattern 12 = .ok (.ireturn, 1) := by decide +kernel
theorem dX11_pattern_13 : decode cX11_pattern 13 = .ok (.aload_n 0, 1) := by decide +kernel
theorem dX11_pattern_14 : decode cX11_pattern 14 = .ok (.iconst 0, 1) := by decide +kernel
theorem dX11_pattern_15 : decode cX11_pattern 15 = .ok (.putfield 130, 3) := by decide +kernel
theorem dX11_pattern_18 : decode cX11_pattern 18 = .ok (.aload_n 0, 1) := by decide +kernel
theorem dX11_pattern_19 : decode cX11_pattern 19 = .ok (.iconst 0, 1) := by decide +kernel
theorem dX11_pattern_20 : decode cX11_pattern 20 = .ok (.putfield 113, 3) := by decide +kernel
theorem dX11_pattern_23 : decode cX11_pattern 23 = .ok (.aload_n 0, 1) := by decide +kernel
theorem dX11_pattern_24 : decode cX11_pattern 24 = .ok (.iconst 0, 1) := by decide +kernel
theorem dX11_pattern_25 : decode cX11_pattern 25 = .ok (.putfield 147, 3) := by decide +kernel
theorem dX11_pattern_28 : decode cX11_pattern 28 = .ok (.aload_n 0, 1) := by decide +kernel
theorem dX11_pattern_29 : decode cX11_pattern 29 = .ok (.getfield 110, 3) := by decide +kernel
theorem dX11_pattern_32 : decode cX11_pattern 32 = .ok (.ifCond .ne 10, 3) := by decide +kernel
theorem dX11_pattern_35 : decode cX11_pattern 35 = .ok (.aload_n 0, 1) := by decide +kernel
theorem dX11_pattern_36 : decode cX11_pattern 36 = .ok (.iconst 3, 1) := by decide +kernel
theorem dX11_pattern_37 : decode cX11_pattern 37 = .ok (.iconst 0, 1) := by decide +kernel
theorem dX11_pattern_38 : decode cX11_pattern 38 = .ok (.invokevirtual 133, 3) := by decide +kernel
theorem dX11_pattern_41 : decode cX11_pattern 41 = .ok (.istore_n 2, 1) := by decide +kernel
theorem dX11_pattern_42 : decode cX11_pattern 42 = .ok (.aload_n 0, 1) := by decide +kernel
theorem dX11_pattern_43 : decode cX11_pattern 43 = .ok (.getfield 113, 3) := by decide +kernel
theorem dX11_pattern_46 : decode cX11_pattern 46 = .ok (.ifCond .ne 21, 3) := by decide +kernel
theorem dX11_pattern_49 : decode cX11_pattern 49 = .ok (.aload_n 0, 1) := by decide +kernel
theorem dX11_pattern_50 : decode cX11_pattern 50 = .ok (.getfield 130, 3) := by decide +kernel
theorem dX11_pattern_53 : decode cX11_pattern 53 = .ok (.aload_n 0, 1) := by decide +kernel
theorem dX11_pattern_54 : decode cX11_pattern 54 = .ok (.getfield 110, 3) := by decide +kernel
theorem dX11_pattern_57 : decode cX11_pattern 57 = .ok (.if_icmp .ge 10, 3) := by decide +kernel
theorem dX11_pattern_60 : decode cX11_pattern 60 = .ok (.aload_n 0, 1) := by decide +kernel
theorem dX11_pattern_61 : decode cX11_pattern 61 = .ok (.invokevirtual 153, 3) := by decide +kernel
theorem dX11_pattern_64 : decode cX11_pattern 64 = .ok (.goto (-22), 3) := by decide +kernel
theorem dX11_pattern_67 : decode cX11_pattern 67 = .ok (.aload_n 0, 1) := by decide +kernel
theorem dX11_pattern_68 : decode cX11_pattern 68 = .ok (.iconst 0, 1) := by decide +kernel
theorem dX11_pattern_69 : decode cX11_pattern 69 = .ok (.putfield 110, 3) := by decide +kernel
theorem dX11_pattern_72 : decode cX11_pattern 72 = .ok (.aload_n 0, 1) := by decide +kernel
theorem dX11_pattern_73 : decode cX11_pattern 73 = .ok (.getfield 113, 3) := by decide +kernel
theorem dX11_pattern_76 : decode cX11_pattern 76 = .ok (.ifCond .le 19, 3) := by decide +kernel
theorem dX11_pattern_79 : decode cX11_pattern 79 = .ok (.aload_n 0, 1) := by decide +kernel
theorem dX11_pattern_80 : decode cX11_pattern 80 = .ok (.aload_n 0, 1) := by decide +kernel
theorem dX11_pattern_81 : decode cX11_pattern 81 = .ok (.getfield 116, 3) := by decide +kernel
theorem dX11_pattern_84 : decode cX11_pattern 84 = .ok (.putfield 32, 3) := by decide +kernel
theorem dX11_pattern_87 : decode cX11_pattern 87 = .ok (.bipush (-10), 2) := by decide +kernel
theorem dX11_pattern_89 : decode cX11_pattern 89 = .ok (.aload_n 0, 1) := by decide +kernel
theorem dX11_pattern_90 : decode cX11_pattern 90 = .ok (.getfield 113, 3) := by decide +kernel
theorem dX11_pattern_93 : decode cX11_pattern 93 = .ok (.isub, 1) := by decide +kernel
theorem dX11_pattern_94 : decode cX11_pattern 94 = .ok (.ireturn, 1) := by decide +kernel
theorem dX11_pattern_95 : decode cX11_pattern 95 = .ok (.aload_n 0, 1) := by decide +kernel
theorem dX11_pattern_96 : decode cX11_pattern 96 = .ok (.iconst (-1), 1) := by decide +kernel
theorem dX11_pattern_97 : decode cX11_pattern 97 = .ok (.putfield 32, 3) := by decide +kernel
theorem dX11_pattern_100 : decode cX11_pattern 100 = .ok (.iconst 0, 1) := by decide +kernel
theorem dX11_pattern_101 : decode cX11_pattern 101 = .ok (.istore_n 2, 1) := by decide +kernel
theorem dX11_pattern_102 : decode cX11_pattern 102 = .ok (.iload_n 2, 1) := by decide +kernel
theorem dX11_pattern_103 : decode cX11_pattern 103 = .ok (.aload_n 0, 1) := by decide +kernel
theorem dX11_pattern_104 : decode cX11_pattern 104 = .ok (.getfield 147, 3) := by decide +kernel
theorem dX11_pattern_107 : decode cX11_pattern 107 = .ok (.if_icmp .ge 45, 3) := by decide +kernel
theorem dX11_pattern_110 : decode cX11_pattern 110 = .ok (.aload_n 0, 1) := by decide +kernel
theorem dX11_pattern_111 : decode cX11_pattern 111 = .ok (.getfield 22, 3) := by decide +kernel
theorem dX11_pattern_114 : decode cX11_pattern 114 = .ok (.sipush 200, 3) := by decide +kernel
theorem dX11_pattern_117 : decode cX11_pattern 117 = .ok (.iload_n 1, 1) := by decide +kernel
theorem dX11_pattern_118 : decode cX11_pattern 118 = .ok (.imul, 1) := by decide +kernel
theorem dX11_pattern_119 : decode cX11_pattern 119 = .ok (.iload_n 2, 1) := by decide +kernel
theorem dX11_pattern_120 : decode cX11_pattern 120 = .ok (.iadd, 1) := by decide +kernel
theorem dX11_pattern_121 : decode cX11_pattern 121 = .ok (.aload_n 0, 1) := by decide +kernel
theorem dX11_pattern_122 : decode cX11_pattern 122 = .ok (.getfield 36, 3) := by decide +kernel
theorem dX11_pattern_125 : decode cX11_pattern 125 = .ok (.iload_n 2, 1) := by decide +kernel
theorem dX11_pattern_126 : decode cX11_pattern 126 = .ok (.laload, 1) := by decide +kernel
theorem dX11_pattern_127 : decode cX11_pattern 127 = .ok (.lastore, 1) := by decide +kernel
theorem dX11_pattern_128 : decode cX11_pattern 128 = .ok (.aload_n 0, 1) := by decide +kernel
theorem dX11_pattern_129 : decode cX11_pattern 129 = .ok (.getfield 26, 3) := by decide +kernel
theorem dX11_pattern_132 : decode cX11_pattern 132 = .ok (.sipush 200, 3) := by decide +kernel
theorem dX11_pattern_135 : decode cX11_pattern 135 = .ok (.iload_n 1, 1) := by decide +kernel
theorem dX11_pattern_136 : decode cX11_pattern 136 = .ok (.imul, 1) := by decide +kernel
theorem dX11_pattern_137 : decode cX11_pattern 137 = .ok (.iload_n 2, 1) := by decide +kernel
theorem dX11_pattern_138 : decode cX11_pattern 138 = .ok (.iadd, 1) := by decide +kernel
theorem dX11_pattern_139 : decode cX11_pattern 139 = .ok (.aload_n 0, 1) := by decide +kernel
theorem dX11_pattern_140 : decode cX11_pattern 140 = .ok (.getfield 39, 3) := by decide +kernel
theorem dX11_pattern_143 : decode cX11_pattern 143 = .ok (.iload_n 2, 1) := by decide +kernel
theorem dX11_pattern_144 : decode cX11_pattern 144 = .ok (.laload, 1) := by decide +kernel
theorem dX11_pattern_145 : decode cX11_pattern 145 = .ok (.lastore, 1) := by decide +kernel
theorem dX11_pattern_146 : decode cX11_pattern 146 = .ok (.iinc 2 1, 3) := by decide +kernel
theorem dX11_pattern_149 : decode cX11_pattern 149 = .ok (.goto (-47), 3) := by decide +kernel
theorem dX11_pattern_152 : decode cX11_pattern 152 = .ok (.aload_n 0, 1) := by decide +kernel
theorem dX11_pattern_153 : decode cX11_pattern 153 = .ok (.getfield 29, 3) := by decide +kernel
theorem dX11_pattern_156 : decode cX11_pattern 156 = .ok (.iload_n 1, 1) := by decide +kernel
theorem dX11_pattern_157 : decode cX11_pattern 157 = .ok (.aload_n 0, 1) := by decide +kernel
theorem dX11_pattern_158 : decode cX11_pattern 158 = .ok (.getfield 147, 3) := by decide +kernel
theorem dX11_pattern_161 : decode cX11_pattern 161 = .ok (.iastore, 1) := by decide +kernel
theorem dX11_pattern_162 : decode cX11_pattern 162 = .ok (.aload_n 0, 1) := by decide +kernel
theorem dX11_pattern_163 : decode cX11_pattern 163 = .ok (.getfield 147, 3) := by decide +kernel
theorem dX11_pattern_166 : decode cX11_pattern 166 = .ok (.ireturn, 1) := by decide +kernel
theorem dX11_place_0 : decode cX11_place 0 = .ok (.aload_n 0, 1) := by decide +kernel
theorem dX11_place_1 : decode cX11_place 1 = .ok (.getfield 32, 3) := by decide +kernel
theorem dX11_place_4 : decode cX11_place 4 = .ok (.ireturn, 1) := by decide +kernel
theorem dX11_isThere_0 : decode cX11_isThere 0 = .ok (.iload_n 1, 1) := by decide +kernel
theorem dX11_isThere_1 : decode cX11_isThere 1 = .ok (.iconst 0, 1) := by decide +kernel
theorem dX11_isThere_2 : decode cX11_isThere 2 = .ok (.bipush 7, 2) := by decide +kernel
theorem dX11_isThere_4 : decode cX11_isThere 4 = .ok (.invokestatic 100, 3) := by decide +kernel
theorem dX11_isThere_7 : decode cX11_isThere 7 = .ok (.ifCond .eq 16, 3) := by decide +kernel
theorem dX11_isThere_10 : decode cX11_isThere 10 = .ok (.aload_n 0, 1) := by decide +kernel
theorem dX11_isThere_11 : decode cX11_isThere 11 = .ok (.getfield 29, 3) := by decide +kernel
theorem dX11_isThere_14 : decode cX11_isThere 14 = .ok (.iload_n 1, 1) := by decide +kernel
theorem dX11_isThere_15 : decode cX11_isThere 15 = .ok (.iaload, 1) := by decide +kernel
theorem dX11_isThere_16 : decode cX11_isThere 16 = .ok (.ifCond .le 7, 3) := by decide +kernel
theorem dX11_isThere_19 : decode cX11_isThere 19 = .ok (.iconst 1, 1) := by decide +kernel
theorem dX11_isThere_20 : decode cX11_isThere 20 = .ok (.goto 4, 3) := by decide +kernel
theorem dX11_isThere_23 : decode cX11_isThere 23 = .ok (.iconst 0, 1) := by decide +kernel
theorem dX11_isThere_24 : decode cX11_isThere 24 = .ok (.ireturn, 1) := by decide +kernel
theorem dX11_has_0 : decode cX11_has 0 = .ok (.aload_n 0, 1) := by decide +kernel
theorem dX11_has_1 : decode cX11_has 1 = .ok (.iload_n 1, 1) := by decide +kernel
theorem dX11_has_2 : decode cX11_has 2 = .ok (.invokevirtual 156, 3) := by decide +kernel
theorem dX11_has_5 : decode cX11_has 5 = .ok (.ifCond .eq 40, 3) := by decide +kernel
theorem dX11_has_8 : decode cX11_has 8 = .ok (.iload_n 2, 1) := by decide +kernel
theorem dX11_has_9 : decode cX11_has 9 = .ok (.iconst 0, 1) := by decide +kernel
theorem dX11_has_10 : decode cX11_has 10 = .ok (.aload_n 0, 1) := by decide +kernel
theorem dX11_has_11 : decode cX11_has 11 = .ok (.getfield 29, 3) := by decide +kernel
theorem dX11_has_14 : decode cX11_has 14 = .ok (.iload_n 1, 1) := by decide +kernel
theorem dX11_has_15 : decode cX11_has 15 = .ok (.iconst 0, 1) := by decide +kernel
theorem dX11_has_16 : decode cX11_has 16 = .ok (.bipush 7, 2) := by decide +kernel
theorem dX11_has_18 : decode cX11_has 18 = .ok (.invokestatic 100, 3) := by decide +kernel
theorem dX11_has_21 : decode cX11_has 21 = .ok (.ifCond .eq 7, 3) := by decide +kernel
theorem dX11_has_24 : decode cX11_has 24 = .ok (.iload_n 1, 1) := by decide +kernel
theorem dX11_has_25 : decode cX11_has 25 = .ok (.goto 4, 3) := by decide +kernel
theorem dX11_has_28 : decode cX11_has 28 = .ok (.iconst 0, 1) := by decide +kernel
theorem dX11_has_29 : decode cX11_has 29 = .ok (.iaload, 1) := by decide +kernel
theorem dX11_has_30 : decode cX11_has 30 = .ok (.iconst 1, 1) := by decide +kernel
theorem dX11_has_31 : decode cX11_has 31 = .ok (.isub, 1) := by decide +kernel
theorem dX11_has_32 : decode cX11_has 32 = .ok (.invokestatic 100, 3) := by decide +kernel
theorem dX11_has_35 : decode cX11_has 35 = .ok (.ifCond .eq 10, 3) := by decide +kernel
theorem dX11_has_38 : decode cX11_has 38 = .ok (.iload_n 3, 1) := by decide +kernel
theorem dX11_has_39 : decode cX11_has 39 = .ok (.invokestatic 106, 3) := by decide +kernel
theorem dX11_has_42 : decode cX11_has 42 = .ok (.ifCond .ne 6, 3) := by decide +kernel
theorem dX11_has_45 : decode cX11_has 45 = .ok (.bipush (-2), 2) := by decide +kernel
theorem dX11_has_47 : decode cX11_has 47 = .ok (.ireturn, 1) := by decide +kernel
theorem dX11_has_48 : decode cX11_has 48 = .ok (.iload_n 3, 1) := by decide +kernel
theorem dX11_has_49 : decode cX11_has 49 = .ok (.bipush 64, 2) := by decide +kernel
theorem dX11_has_51 : decode cX11_has 51 = .ok (.if_icmp .ge 20, 3) := by decide +kernel
theorem dX11_has_54 : decode cX11_has 54 = .ok (.aload_n 0, 1) := by decide +kernel
theorem dX11_has_55 : decode cX11_has 55 = .ok (.getfield 22, 3) := by decide +kernel
theorem dX11_has_58 : decode cX11_has 58 = .ok (.sipush 200, 3) := by decide +kernel
theorem dX11_has_61 : decode cX11_has 61 = .ok (.iload_n 1, 1) := by decide +kernel
theorem dX11_has_62 : decode cX11_has 62 = .ok (.imul, 1) := by decide +kernel
theorem dX11_has_63 : decode cX11_has 63 = .ok (.iload_n 2, 1) := by decide +kernel
theorem dX11_has_64 : decode cX11_has 64 = .ok (.iadd, 1) := by decide +kernel
theorem dX11_has_65 : decode cX11_has 65 = .ok (.laload, 1) := by decide +kernel
theorem dX11_has_66 : decode cX11_has 66 = .ok (.iload_n 3, 1) := by decide +kernel
theorem dX11_has_67 : decode cX11_has 67 = .ok (.lshr, 1) := by decide +kernel
theorem dX11_has_68 : decode cX11_has 68 = .ok (.goto 20, 3) := by decide +kernel
theorem dX11_has_71 : decode cX11_has 71 = .ok (.aload_n 0, 1) := by decide +kernel
theorem dX11_has_72 : decode cX11_has 72 = .ok (.getfield 26, 3) := by decide +kernel
theorem dX11_has_75 : decode cX11_has 75 = .ok (.sipush 200, 3) := by decide +kernel
theorem dX11_has_78 : decode cX11_has 78 = .ok (.iload_n 1, 1) := by decide +kernel
theorem dX11_has_79 : decode cX11_has 79 = .ok (.imul, 1) := by decide +kernel
theorem dX11_has_80 : decode cX11_has 80 = .ok (.iload_n 2, 1) := by decide +kernel
theorem dX11_has_81 : decode cX11_has 81 = .ok (.iadd, 1) := by decide +kernel
theorem dX11_has_82 : decode cX11_has 82 = .ok (.laload, 1) := by decide +kernel
theorem dX11_has_83 : decode cX11_has 83 = .ok (.iload_n 3, 1) := by decide +kernel
theorem dX11_has_84 : decode cX11_has 84 = .ok (.bipush 64, 2) := by decide +kernel
theorem dX11_has_86 : decode cX11_has 86 = .ok (.isub, 1) := by decide +kernel
theorem dX11_has_87 : decode cX11_has 87 = .ok (.lshr, 1) := by decide +kernel
theorem dX11_has_88 : decode cX11_has 88 = .ok (.lstore 4, 2) := by decide +kernel
theorem dX11_has_90 : decode cX11_has 90 = .ok (.lload 4, 2) := by decide +kernel
theorem dX11_has_92 : decode cX11_has 92 = .ok (.lconst 1, 1) := by decide +kernel
theorem dX11_has_93 : decode cX11_has 93 = .ok (.land, 1) := by decide +kernel
theorem dX11_has_94 : decode cX11_has 94 = .ok (.l2i, 1) := by decide +kernel
theorem dX11_has_95 : decode cX11_has 95 = .ok (.ireturn, 1) := by decide +kernel
theorem dX11_remember_0 : decode cX11_remember 0 = .ok (.aload_n 0, 1) := by decide +kernel
theorem dX11_remember_1 : decode cX11_remember 1 = .ok (.getfield 159, 3) := by decide +kernel
theorem dX11_remember_4 : decode cX11_remember 4 = .ok (.iconst 5, 1) := by decide +kernel
theorem dX11_remember_5 : decode cX11_remember 5 = .ok (.if_icmp .ne 84, 3) := by decide +kernel
theorem dX11_remember_8 : decode cX11_remember 8 = .ok (.iconst 1, 1) := by decide +kernel
theorem dX11_remember_9 : decode cX11_remember 9 = .ok (.istore_n 1, 1) := by decide +kernel
theorem dX11_remember_10 : decode cX11_remember 10 = .ok (.iload_n 1, 1) := by decide +kernel
theorem dX11_remember_11 : decode cX11_remember 11 = .ok (.iconst 5, 1) := by decide +kernel
theorem dX11_remember_12 : decode cX11_remember 12 = .ok (.if_icmp .ge 67, 3) := by decide +kernel
theorem dX11_remember_15 : decode cX11_remember 15 = .ok (.aload_n 0, 1) := by decide +kernel
theorem dX11_remember_16 : decode cX11_remember 16 = .ok (.getfield 19, 3) := by decide +kernel
theorem dX11_remember_19 : decode cX11_remember 19 = .ok (.iload_n 1, 1) := by decide +kernel
theorem dX11_remember_20 : decode cX11_remember 20 = .ok (.iconst 1, 1) := by decide +kernel
theorem dX11_remember_21 : decode cX11_remember 21 = .ok (.isub, 1) := by decide +kernel
theorem dX11_remember_22 : decode cX11_remember 22 = .ok (.aload_n 0, 1) := by decide +kernel
theorem dX11_remember_23 : decode cX11_remember 23 = .ok (.getfield 19, 3) := by decide +kernel
theorem dX11_remember_26 : decode cX11_remember 26 = .ok (.iload_n 1, 1) := by decide +kernel
theorem dX11_remember_27 : decode cX11_remember 27 = .ok (.iaload, 1) := by decide +kernel
theorem dX11_remember_28 : decode cX11_remember 28 = .ok (.iastore, 1) := by decide +kernel
theorem dX11_remember_29 : decode cX11_remember 29 = .ok (.iconst 0, 1) := by decide +kernel
theorem dX11_remember_30 : decode cX11_remember 30 = .ok (.istore_n 2, 1) := by decide +kernel
theorem dX11_remember_31 : decode cX11_remember 31 = .ok (.iload_n 2, 1) := by decide +kernel
theorem dX11_remember_32 : decode cX11_remember 32 = .ok (.aload_n 0, 1) := by decide +kernel
theorem dX11_remember_33 : decode cX11_remember 33 = .ok (.getfield 19, 3) := by decide +kernel
theorem dX11_remember_36 : decode cX11_remember 36 = .ok (.iload_n 1, 1) := by decide +kernel
theorem dX11_remember_37 : decode cX11_remember 37 = .ok (.iaload, 1) := by decide +kernel
theorem dX11_remember_38 : decode cX11_remember 38 = .ok (.if_icmp .ge 35, 3) := by decide +kernel
theorem dX11_remember_41 : decode cX11_remember 41 = .ok (.aload_n 0, 1) := by decide +kernel
theorem dX11_remember_42 : decode cX11_remember 42 = .ok (.getfield 16, 3) := by decide +kernel
theorem dX11_remember_45 : decode cX11_remember 45 = .ok (.sipush 1500, 3) := by decide +kernel
theorem dX11_remember_48 : decode cX11_remember 48 = .ok (.iload_n 1, 1) := by decide +kernel
theorem dX11_remember_49 : decode cX11_remember 49 = .ok (.iconst 1, 1) := by decide +kernel
theorem dX11_remember_50 : decode cX11_remember 50 = .ok (.isub, 1) := by decide +kernel
theorem dX11_remember_51 : decode cX11_remember 51 = .ok (.imul, 1) := by decide +kernel
theorem dX11_remember_52 : decode cX11_remember 52 = .ok (.iload_n 2, 1) := by decide +kernel
theorem dX11_remember_53 : decode cX11_remember 53 = .ok (.iadd, 1) := by decide +kernel
theorem dX11_remember_54 : decode cX11_remember 54 = .ok (.aload_n 0, 1) := by decide +kernel
theorem dX11_remember_55 : decode cX11_remember 55 = .ok (.getfield 16, 3) := by decide +kernel
theorem dX11_remember_58 : decode cX11_remember 58 = .ok (.sipush 1500, 3) := by decide +kernel
theorem dX11_remember_61 : decode cX11_remember 61 = .ok (.iload_n 1, 1) := by decide +kernel
theorem dX11_remember_62 : decode cX11_remember 62 = .ok (.imul, 1) := by decide +kernel
theorem dX11_remember_63 : decode cX11_remember 63 = .ok (.iload_n 2, 1) := by decide +kernel
theorem dX11_remember_64 : decode cX11_remember 64 = .ok (.iadd, 1) := by decide +kernel
theorem dX11_remember_65 : decode cX11_remember 65 = .ok (.iaload, 1) := by decide +kernel
theorem dX11_remember_66 : decode cX11_remember 66 = .ok (.iastore, 1) := by decide +kernel
theorem dX11_remember_67 : decode cX11_remember 67 = .ok (.iinc 2 1, 3) := by decide +kernel
theorem dX11_remember_70 : decode cX11_remember 70 = .ok (.goto (-39), 3) := by decide +kernel
theorem dX11_remember_73 : decode cX11_remember 73 = .ok (.iinc 1 1, 3) := by decide +kernel
theorem dX11_remember_76 : decode cX11_remember 76 = .ok (.goto (-66), 3) := by decide +kernel
theorem dX11_remember_79 : decode cX11_remember 79 = .ok (.aload_n 0, 1) := by decide +kernel
theorem dX11_remember_80 : decode cX11_remember 80 = .ok (.dup, 1) := by decide +kernel
theorem dX11_remember_81 : decode cX11_remember 81 = .ok (.getfield 159, 3) := by decide +kernel
theorem dX11_remember_84 : decode cX11_remember 84 = .ok (.iconst 1, 1) := by decide +kernel
theorem dX11_remember_85 : decode cX11_remember 85 = .ok (.isub, 1) := by decide +kernel
theorem dX11_remember_86 : decode cX11_remember 86 = .ok (.putfield 159, 3) := by decide +kernel
theorem dX11_remember_89 : decode cX11_remember 89 = .ok (.iconst 0, 1) := by decide +kernel
theorem dX11_remember_90 : decode cX11_remember 90 = .ok (.istore_n 1, 1) := by decide +kernel
theorem dX11_remember_91 : decode cX11_remember 91 = .ok (.iload_n 1, 1) := by decide +kernel
theorem dX11_remember_92 : decode cX11_remember 92 = .ok (.aload_n 0, 1) := by decide +kernel
theorem dX11_remember_93 : decode cX11_remember 93 = .ok (.getfield 162, 3) := by decide +kernel
theorem dX11_remember_96 : decode cX11_remember 96 = .ok (.if_icmp .ge 30, 3) := by decide +kernel
theorem dX11_remember_99 : decode cX11_remember 99 = .ok (.aload_n 0, 1) := by decide +kernel
theorem dX11_remember_100 : decode cX11_remember 100 = .ok (.getfield 16, 3) := by decide +kernel
theorem dX11_remember_103 : decode cX11_remember 103 = .ok (.sipush 1500, 3) := by decide +kernel
theorem dX11_remember_106 : decode cX11_remember 106 = .ok (.aload_n 0, 1) := by decide +kernel
theorem dX11_remember_107 : decode cX11_remember 107 = .ok (.getfield 159, 3) := by decide +kernel
theorem dX11_remember_110 : decode cX11_remember 110 = .ok (.imul, 1) := by decide +kernel
theorem dX11_remember_111 : decode cX11_remember 111 = .ok (.iload_n 1, 1) := by decide +kernel
theorem dX11_remember_112 : decode cX11_remember 112 = .ok (.iadd, 1) := by decide +kernel
theorem dX11_remember_113 : decode cX11_remember 113 = .ok (.aload_n 0, 1) := by decide +kernel
theorem dX11_remember_114 : decode cX11_remember 114 = .ok (.getfield 13, 3) := by decide +kernel
theorem dX11_remember_117 : decode cX11_remember 117 = .ok (.iload_n 1, 1) := by decide +kernel
theorem dX11_remember_118 : decode cX11_remember 118 = .ok (.iaload, 1) := by decide +kernel
theorem dX11_remember_119 : decode cX11_remember 119 = .ok (.iastore, 1) := by decide +kernel
theorem dX11_remember_120 : decode cX11_remember 120 = .ok (.iinc 1 1, 3) := by decide +kernel
theorem dX11_remember_123 : decode cX11_remember 123 = .ok (.goto (-32), 3) := by decide +kernel
theorem dX11_remember_126 : decode cX11_remember 126 = .ok (.aload_n 0, 1) := by decide +kernel
theorem dX11_remember_127 : decode cX11_remember 127 = .ok (.getfield 19, 3) := by decide +kernel
theorem dX11_remember_130 : decode cX11_remember 130 = .ok (.aload_n 0, 1) := by decide +kernel
theorem dX11_remember_131 : decode cX11_remember 131 = .ok (.getfield 159, 3) := by decide +kernel
theorem dX11_remember_134 : decode cX11_remember 134 = .ok (.aload_n 0, 1) := by decide +kernel
theorem dX11_remember_135 : decode cX11_remember 135 = .ok (.getfield 162, 3) := by decide +kernel
theorem dX11_remember_138 : decode cX11_remember 138 = .ok (.iastore, 1) := by decide +kernel
theorem dX11_remember_139 : decode cX11_remember 139 = .ok (.aload_n 0, 1) := by decide +kernel
theorem dX11_remember_140 : decode cX11_remember 140 = .ok (.dup, 1) := by decide +kernel
theorem dX11_remember_141 : decode cX11_remember 141 = .ok (.getfield 159, 3) := by decide +kernel
theorem dX11_remember_144 : decode cX11_remember 144 = .ok (.iconst 1, 1) := by decide +kernel
theorem dX11_remember_145 : decode cX11_remember 145 = .ok (.iadd, 1) := by decide +kernel
theorem dX11_remember_146 : decode cX11_remember 146 = .ok (.putfield 159, 3) := by decide +kernel
theorem dX11_remember_149 : decode cX11_remember 149 = .ok (.return_, 1) := by decide +kernel
theorem dX11_insert_0 : decode cX11_insert 0 = .ok (.iload_n 1, 1) := by decide +kernel
theorem dX11_insert_1 : decode cX11_insert 1 = .ok (.iconst 0, 1) := by decide +kernel
theorem dX11_insert_2 : decode cX11_insert 2 = .ok (.aload_n 0, 1) := by decide +kernel
end
section
theorem dX11_insert_3 : decode cX11_insert 3 = .ok (.getfield 162, 3) := by decide +kernel
theorem dX11_insert_6 : decode cX11_insert 6 = .ok (.invokestatic 100, 3) := by decide +kernel
theorem dX11_insert_9 : decode cX11_insert 9 = .ok (.ifCond .ne 6, 3) := by decide +kernel
theorem dX11_insert_12 : decode cX11_insert 12 = .ok (.bipush (-2), 2) := by decide +kernel
theorem dX11_insert_14 : decode cX11_insert 14 = .ok (.ireturn, 1) := by decide +kernel
theorem dX11_insert_15 : decode cX11_insert 15 = .ok (.aload_n 0, 1) := by decide +kernel
theorem dX11_insert_16 : decode cX11_insert 16 = .ok (.getfield 162, 3) := by decide +kernel
theorem dX11_insert_19 : decode cX11_insert 19 = .ok (.aload_n 0, 1) := by decide +kernel
theorem dX11_insert_20 : decode cX11_insert 20 = .ok (.getfield 110, 3) := by decide +kernel
theorem dX11_insert_23 : decode cX11_insert 23 = .ok (.iadd, 1) := by decide +kernel
theorem dX11_insert_24 : decode cX11_insert 24 = .ok (.sipush 1500, 3) := by decide +kernel
theorem dX11_insert_27 : decode cX11_insert 27 = .ok (.if_icmp .le 6, 3) := by decide +kernel
theorem dX11_insert_30 : decode cX11_insert 30 = .ok (.bipush (-3), 2) := by decide +kernel
theorem dX11_insert_32 : decode cX11_insert 32 = .ok (.ireturn, 1) := by decide +kernel
theorem dX11_insert_33 : decode cX11_insert 33 = .ok (.aload_n 0, 1) := by decide +kernel
theorem dX11_insert_34 : decode cX11_insert 34 = .ok (.invokevirtual 165, 3) := by decide +kernel
theorem dX11_insert_37 : decode cX11_insert 37 = .ok (.aload_n 0, 1) := by decide +kernel
theorem dX11_insert_38 : decode cX11_insert 38 = .ok (.getfield 162, 3) := by decide +kernel
theorem dX11_insert_41 : decode cX11_insert 41 = .ok (.iconst 1, 1) := by decide +kernel
theorem dX11_insert_42 : decode cX11_insert 42 = .ok (.isub, 1) := by decide +kernel
theorem dX11_insert_43 : decode cX11_insert 43 = .ok (.istore_n 2, 1) := by decide +kernel
theorem dX11_insert_44 : decode cX11_insert 44 = .ok (.iload_n 2, 1) := by decide +kernel
theorem dX11_insert_45 : decode cX11_insert 45 = .ok (.iload_n 1, 1) := by decide +kernel
theorem dX11_insert_46 : decode cX11_insert 46 = .ok (.if_icmp .lt 26, 3) := by decide +kernel
theorem dX11_insert_49 : decode cX11_insert 49 = .ok (.aload_n 0, 1) := by decide +kernel
theorem dX11_insert_50 : decode cX11_insert 50 = .ok (.getfield 13, 3) := by decide +kernel
theorem dX11_insert_53 : decode cX11_insert 53 = .ok (.iload_n 2, 1) := by decide +kernel
theorem dX11_insert_54 : decode cX11_insert 54 = .ok (.aload_n 0, 1) := by decide +kernel
theorem dX11_insert_55 : decode cX11_insert 55 = .ok (.getfield 110, 3) := by decide +kernel
theorem dX11_insert_58 : decode cX11_insert 58 = .ok (.iadd, 1) := by decide +kernel
theorem dX11_insert_59 : decode cX11_insert 59 = .ok (.aload_n 0, 1) := by decide +kernel
theorem dX11_insert_60 : decode cX11_insert 60 = .ok (.getfield 13, 3) := by decide +kernel
theorem dX11_insert_63 : decode cX11_insert 63 = .ok (.iload_n 2, 1) := by decide +kernel
theorem dX11_insert_64 : decode cX11_insert 64 = .ok (.iaload, 1) := by decide +kernel
theorem dX11_insert_65 : decode cX11_insert 65 = .ok (.iastore, 1) := by decide +kernel
theorem dX11_insert_66 : decode cX11_insert 66 = .ok (.iinc 2 (-1), 3) := by decide +kernel
theorem dX11_insert_69 : decode cX11_insert 69 = .ok (.goto (-25), 3) := by decide +kernel
theorem dX11_insert_72 : decode cX11_insert 72 = .ok (.iconst 0, 1) := by decide +kernel
theorem dX11_insert_73 : decode cX11_insert 73 = .ok (.istore_n 2, 1) := by decide +kernel
theorem dX11_insert_74 : decode cX11_insert 74 = .ok (.iload_n 2, 1) := by decide +kernel
theorem dX11_insert_75 : decode cX11_insert 75 = .ok (.aload_n 0, 1) := by decide +kernel
theorem dX11_insert_76 : decode cX11_insert 76 = .ok (.getfield 110, 3) := by decide +kernel
theorem dX11_insert_79 : decode cX11_insert 79 = .ok (.if_icmp .ge 23, 3) := by decide +kernel
theorem dX11_insert_82 : decode cX11_insert 82 = .ok (.aload_n 0, 1) := by decide +kernel
theorem dX11_insert_83 : decode cX11_insert 83 = .ok (.getfield 13, 3) := by decide +kernel
theorem dX11_insert_86 : decode cX11_insert 86 = .ok (.iload_n 1, 1) := by decide +kernel
theorem dX11_insert_87 : decode cX11_insert 87 = .ok (.iload_n 2, 1) := by decide +kernel
theorem dX11_insert_88 : decode cX11_insert 88 = .ok (.iadd, 1) := by decide +kernel
theorem dX11_insert_89 : decode cX11_insert 89 = .ok (.aload_n 0, 1) := by decide +kernel
theorem dX11_insert_90 : decode cX11_insert 90 = .ok (.getfield 7, 3) := by decide +kernel
theorem dX11_insert_93 : decode cX11_insert 93 = .ok (.iload_n 2, 1) := by decide +kernel
theorem dX11_insert_94 : decode cX11_insert 94 = .ok (.iaload, 1) := by decide +kernel
theorem dX11_insert_95 : decode cX11_insert 95 = .ok (.iastore, 1) := by decide +kernel
theorem dX11_insert_96 : decode cX11_insert 96 = .ok (.iinc 2 1, 3) := by decide +kernel
theorem dX11_insert_99 : decode cX11_insert 99 = .ok (.goto (-25), 3) := by decide +kernel
theorem dX11_insert_102 : decode cX11_insert 102 = .ok (.aload_n 0, 1) := by decide +kernel
theorem dX11_insert_103 : decode cX11_insert 103 = .ok (.dup, 1) := by decide +kernel
theorem dX11_insert_104 : decode cX11_insert 104 = .ok (.getfield 162, 3) := by decide +kernel
theorem dX11_insert_107 : decode cX11_insert 107 = .ok (.aload_n 0, 1) := by decide +kernel
theorem dX11_insert_108 : decode cX11_insert 108 = .ok (.getfield 110, 3) := by decide +kernel
theorem dX11_insert_111 : decode cX11_insert 111 = .ok (.iadd, 1) := by decide +kernel
theorem dX11_insert_112 : decode cX11_insert 112 = .ok (.putfield 162, 3) := by decide +kernel
theorem dX11_insert_115 : decode cX11_insert 115 = .ok (.aload_n 0, 1) := by decide +kernel
theorem dX11_insert_116 : decode cX11_insert 116 = .ok (.iconst 0, 1) := by decide +kernel
theorem dX11_insert_117 : decode cX11_insert 117 = .ok (.putfield 110, 3) := by decide +kernel
theorem dX11_insert_120 : decode cX11_insert 120 = .ok (.aload_n 0, 1) := by decide +kernel
theorem dX11_insert_121 : decode cX11_insert 121 = .ok (.getfield 162, 3) := by decide +kernel
theorem dX11_insert_124 : decode cX11_insert 124 = .ok (.ireturn, 1) := by decide +kernel
theorem dX11_isPart_0 : decode cX11_isPart 0 = .ok (.iload_n 1, 1) := by decide +kernel
theorem dX11_isPart_1 : decode cX11_isPart 1 = .ok (.ifCond .lt 20, 3) := by decide +kernel
theorem dX11_isPart_4 : decode cX11_isPart 4 = .ok (.iload_n 1, 1) := by decide +kernel
theorem dX11_isPart_5 : decode cX11_isPart 5 = .ok (.iload_n 2, 1) := by decide +kernel
theorem dX11_isPart_6 : decode cX11_isPart 6 = .ok (.if_icmp .gt 15, 3) := by decide +kernel
theorem dX11_isPart_9 : decode cX11_isPart 9 = .ok (.iload_n 2, 1) := by decide +kernel
theorem dX11_isPart_10 : decode cX11_isPart 10 = .ok (.aload_n 0, 1) := by decide +kernel
theorem dX11_isPart_11 : decode cX11_isPart 11 = .ok (.getfield 162, 3) := by decide +kernel
theorem dX11_isPart_14 : decode cX11_isPart 14 = .ok (.if_icmp .gt 7, 3) := by decide +kernel
theorem dX11_isPart_17 : decode cX11_isPart 17 = .ok (.iconst 1, 1) := by decide +kernel
theorem dX11_isPart_18 : decode cX11_isPart 18 = .ok (.goto 4, 3) := by decide +kernel
theorem dX11_isPart_21 : decode cX11_isPart 21 = .ok (.iconst 0, 1) := by decide +kernel
theorem dX11_isPart_22 : decode cX11_isPart 22 = .ok (.ireturn, 1) := by decide +kernel
theorem dX11_cut_0 : decode cX11_cut 0 = .ok (.aload_n 0, 1) := by decide +kernel
theorem dX11_cut_1 : decode cX11_cut 1 = .ok (.iload_n 1, 1) := by decide +kernel
theorem dX11_cut_2 : decode cX11_cut 2 = .ok (.iload_n 2, 1) := by decide +kernel
theorem dX11_cut_3 : decode cX11_cut 3 = .ok (.invokevirtual 168, 3) := by decide +kernel
theorem dX11_cut_6 : decode cX11_cut 6 = .ok (.ifCond .ne 6, 3) := by decide +kernel
theorem dX11_cut_9 : decode cX11_cut 9 = .ok (.bipush (-2), 2) := by decide +kernel
theorem dX11_cut_11 : decode cX11_cut 11 = .ok (.ireturn, 1) := by decide +kernel
theorem dX11_cut_12 : decode cX11_cut 12 = .ok (.aload_n 0, 1) := by decide +kernel
theorem dX11_cut_13 : decode cX11_cut 13 = .ok (.invokevirtual 165, 3) := by decide +kernel
theorem dX11_cut_16 : decode cX11_cut 16 = .ok (.iload_n 2, 1) := by decide +kernel
theorem dX11_cut_17 : decode cX11_cut 17 = .ok (.istore_n 3, 1) := by decide +kernel
theorem dX11_cut_18 : decode cX11_cut 18 = .ok (.iload_n 3, 1) := by decide +kernel
theorem dX11_cut_19 : decode cX11_cut 19 = .ok (.aload_n 0, 1) := by decide +kernel
theorem dX11_cut_20 : decode cX11_cut 20 = .ok (.getfield 162, 3) := by decide +kernel
theorem dX11_cut_23 : decode cX11_cut 23 = .ok (.if_icmp .ge 25, 3) := by decide +kernel
theorem dX11_cut_26 : decode cX11_cut 26 = .ok (.aload_n 0, 1) := by decide +kernel
theorem dX11_cut_27 : decode cX11_cut 27 = .ok (.getfield 13, 3) := by decide +kernel
theorem dX11_cut_30 : decode cX11_cut 30 = .ok (.iload_n 3, 1) := by decide +kernel
theorem dX11_cut_31 : decode cX11_cut 31 = .ok (.iload_n 2, 1) := by decide +kernel
theorem dX11_cut_32 : decode cX11_cut 32 = .ok (.isub, 1) := by decide +kernel
theorem dX11_cut_33 : decode cX11_cut 33 = .ok (.iload_n 1, 1) := by decide +kernel
theorem dX11_cut_34 : decode cX11_cut 34 = .ok (.iadd, 1) := by decide +kernel
theorem dX11_cut_35 : decode cX11_cut 35 = .ok (.aload_n 0, 1) := by decide +kernel
theorem dX11_cut_36 : decode cX11_cut 36 = .ok (.getfield 13, 3) := by decide +kernel
theorem dX11_cut_39 : decode cX11_cut 39 = .ok (.iload_n 3, 1) := by decide +kernel
theorem dX11_cut_40 : decode cX11_cut 40 = .ok (.iaload, 1) := by decide +kernel
theorem dX11_cut_41 : decode cX11_cut 41 = .ok (.iastore, 1) := by decide +kernel
theorem dX11_cut_42 : decode cX11_cut 42 = .ok (.iinc 3 1, 3) := by decide +kernel
theorem dX11_cut_45 : decode cX11_cut 45 = .ok (.goto (-27), 3) := by decide +kernel
theorem dX11_cut_48 : decode cX11_cut 48 = .ok (.aload_n 0, 1) := by decide +kernel
theorem dX11_cut_49 : decode cX11_cut 49 = .ok (.dup, 1) := by decide +kernel
theorem dX11_cut_50 : decode cX11_cut 50 = .ok (.getfield 162, 3) := by decide +kernel
theorem dX11_cut_53 : decode cX11_cut 53 = .ok (.iload_n 2, 1) := by decide +kernel
theorem dX11_cut_54 : decode cX11_cut 54 = .ok (.iload_n 1, 1) := by decide +kernel
theorem dX11_cut_55 : decode cX11_cut 55 = .ok (.isub, 1) := by decide +kernel
theorem dX11_cut_56 : decode cX11_cut 56 = .ok (.isub, 1) := by decide +kernel
theorem dX11_cut_57 : decode cX11_cut 57 = .ok (.putfield 162, 3) := by decide +kernel
theorem dX11_cut_60 : decode cX11_cut 60 = .ok (.aload_n 0, 1) := by decide +kernel
theorem dX11_cut_61 : decode cX11_cut 61 = .ok (.getfield 162, 3) := by decide +kernel
theorem dX11_cut_64 : decode cX11_cut 64 = .ok (.ireturn, 1) := by decide +kernel
theorem dX11_undo_0 : decode cX11_undo 0 = .ok (.aload_n 0, 1) := by decide +kernel
theorem dX11_undo_1 : decode cX11_undo 1 = .ok (.getfield 159, 3) := by decide +kernel
theorem dX11_undo_4 : decode cX11_undo 4 = .ok (.ifCond .ne 5, 3) := by decide +kernel
theorem dX11_undo_7 : decode cX11_undo 7 = .ok (.iconst (-1), 1) := by decide +kernel
theorem dX11_undo_8 : decode cX11_undo 8 = .ok (.ireturn, 1) := by decide +kernel
theorem dX11_undo_9 : decode cX11_undo 9 = .ok (.aload_n 0, 1) := by decide +kernel
theorem dX11_undo_10 : decode cX11_undo 10 = .ok (.dup, 1) := by decide +kernel
theorem dX11_undo_11 : decode cX11_undo 11 = .ok (.getfield 159, 3) := by decide +kernel
theorem dX11_undo_14 : decode cX11_undo 14 = .ok (.iconst 1, 1) := by decide +kernel
theorem dX11_undo_15 : decode cX11_undo 15 = .ok (.isub, 1) := by decide +kernel
theorem dX11_undo_16 : decode cX11_undo 16 = .ok (.putfield 159, 3) := by decide +kernel
theorem dX11_undo_19 : decode cX11_undo 19 = .ok (.aload_n 0, 1) := by decide +kernel
theorem dX11_undo_20 : decode cX11_undo 20 = .ok (.aload_n 0, 1) := by decide +kernel
theorem dX11_undo_21 : decode cX11_undo 21 = .ok (.getfield 19, 3) := by decide +kernel
theorem dX11_undo_24 : decode cX11_undo 24 = .ok (.aload_n 0, 1) := by decide +kernel
theorem dX11_undo_25 : decode cX11_undo 25 = .ok (.getfield 159, 3) := by decide +kernel
theorem dX11_undo_28 : decode cX11_undo 28 = .ok (.iaload, 1) := by decide +kernel
theorem dX11_undo_29 : decode cX11_undo 29 = .ok (.putfield 162, 3) := by decide +kernel
theorem dX11_undo_32 : decode cX11_undo 32 = .ok (.iconst 0, 1) := by decide +kernel
theorem dX11_undo_33 : decode cX11_undo 33 = .ok (.istore_n 1, 1) := by decide +kernel
theorem dX11_undo_34 : decode cX11_undo 34 = .ok (.iload_n 1, 1) := by decide +kernel
theorem dX11_undo_35 : decode cX11_undo 35 = .ok (.aload_n 0, 1) := by decide +kernel
theorem dX11_undo_36 : decode cX11_undo 36 = .ok (.getfield 162, 3) := by decide +kernel
theorem dX11_undo_39 : decode cX11_undo 39 = .ok (.if_icmp .ge 30, 3) := by decide +kernel
theorem dX11_undo_42 : decode cX11_undo 42 = .ok (.aload_n 0, 1) := by decide +kernel
theorem dX11_undo_43 : decode cX11_undo 43 = .ok (.getfield 13, 3) := by decide +kernel
theorem dX11_undo_46 : decode cX11_undo 46 = .ok (.iload_n 1, 1) := by decide +kernel
theorem dX11_undo_47 : decode cX11_undo 47 = .ok (.aload_n 0, 1) := by decide +kernel
theorem dX11_undo_48 : decode cX11_undo 48 = .ok (.getfield 16, 3) := by decide +kernel
theorem dX11_undo_51 : decode cX11_undo 51 = .ok (.sipush 1500, 3) := by decide +kernel
theorem dX11_undo_54 : decode cX11_undo 54 = .ok (.aload_n 0, 1) := by decide +kernel
theorem dX11_undo_55 : decode cX11_undo 55 = .ok (.getfield 159, 3) := by decide +kernel
theorem dX11_undo_58 : decode cX11_undo 58 = .ok (.imul, 1) := by decide +kernel
theorem dX11_undo_59 : decode cX11_undo 59 = .ok (.iload_n 1, 1) := by decide +kernel
theorem dX11_undo_60 : decode cX11_undo 60 = .ok (.iadd, 1) := by decide +kernel
theorem dX11_undo_61 : decode cX11_undo 61 = .ok (.iaload, 1) := by decide +kernel
theorem dX11_undo_62 : decode cX11_undo 62 = .ok (.iastore, 1) := by decide +kernel
theorem dX11_undo_63 : decode cX11_undo 63 = .ok (.iinc 1 1, 3) := by decide +kernel
theorem dX11_undo_66 : decode cX11_undo 66 = .ok (.goto (-32), 3) := by decide +kernel
theorem dX11_undo_69 : decode cX11_undo 69 = .ok (.aload_n 0, 1) := by decide +kernel
theorem dX11_undo_70 : decode cX11_undo 70 = .ok (.getfield 162, 3) := by decide +kernel
theorem dX11_undo_73 : decode cX11_undo 73 = .ok (.ireturn, 1) := by decide +kernel
theorem dX11_byteAt_0 : decode cX11_byteAt 0 = .ok (.iload_n 1, 1) := by decide +kernel
theorem dX11_byteAt_1 : decode cX11_byteAt 1 = .ok (.iconst 0, 1) := by decide +kernel
theorem dX11_byteAt_2 : decode cX11_byteAt 2 = .ok (.aload_n 0, 1) := by decide +kernel
theorem dX11_byteAt_3 : decode cX11_byteAt 3 = .ok (.getfield 162, 3) := by decide +kernel
theorem dX11_byteAt_6 : decode cX11_byteAt 6 = .ok (.iconst 1, 1) := by decide +kernel
theorem dX11_byteAt_7 : decode cX11_byteAt 7 = .ok (.isub, 1) := by decide +kernel
theorem dX11_byteAt_8 : decode cX11_byteAt 8 = .ok (.invokestatic 100, 3) := by decide +kernel
theorem dX11_byteAt_11 : decode cX11_byteAt 11 = .ok (.ifCond .eq 12, 3) := by decide +kernel
theorem dX11_byteAt_14 : decode cX11_byteAt 14 = .ok (.aload_n 0, 1) := by decide +kernel
theorem dX11_byteAt_15 : decode cX11_byteAt 15 = .ok (.getfield 13, 3) := by decide +kernel
theorem dX11_byteAt_18 : decode cX11_byteAt 18 = .ok (.iload_n 1, 1) := by decide +kernel
theorem dX11_byteAt_19 : decode cX11_byteAt 19 = .ok (.iaload, 1) := by decide +kernel
theorem dX11_byteAt_20 : decode cX11_byteAt 20 = .ok (.goto 4, 3) := by decide +kernel
theorem dX11_byteAt_23 : decode cX11_byteAt 23 = .ok (.iconst (-1), 1) := by decide +kernel
theorem dX11_byteAt_24 : decode cX11_byteAt 24 = .ok (.ireturn, 1) := by decide +kernel
theorem dX11_length_0 : decode cX11_length 0 = .ok (.aload_n 0, 1) := by decide +kernel
theorem dX11_length_1 : decode cX11_length 1 = .ok (.getfield 162, 3) := by decide +kernel
theorem dX11_length_4 : decode cX11_length 4 = .ok (.ireturn, 1) := by decide +kernel
theorem dX11_loadPattern_0 : decode cX11_loadPattern 0 = .ok (.aload_n 0, 1) := by decide +kernel
theorem dX11_loadPattern_1 : decode cX11_loadPattern 1 = .ok (.aload_n 0, 1) := by decide +kernel
theorem dX11_loadPattern_2 : decode cX11_loadPattern 2 = .ok (.getfield 29, 3) := by decide +kernel
theorem dX11_loadPattern_5 : decode cX11_loadPattern 5 = .ok (.iload_n 1, 1) := by decide +kernel
theorem dX11_loadPattern_6 : decode cX11_loadPattern 6 = .ok (.iaload, 1) := by decide +kernel
theorem dX11_loadPattern_7 : decode cX11_loadPattern 7 = .ok (.putfield 172, 3) := by decide +kernel
theorem dX11_loadPattern_10 : decode cX11_loadPattern 10 = .ok (.iconst 0, 1) := by decide +kernel
theorem dX11_loadPattern_11 : decode cX11_loadPattern 11 = .ok (.istore_n 2, 1) := by decide +kernel
theorem dX11_loadPattern_12 : decode cX11_loadPattern 12 = .ok (.iload_n 2, 1) := by decide +kernel
theorem dX11_loadPattern_13 : decode cX11_loadPattern 13 = .ok (.aload_n 0, 1) := by decide +kernel
theorem dX11_loadPattern_14 : decode cX11_loadPattern 14 = .ok (.getfield 172, 3) := by decide +kernel
theorem dX11_loadPattern_17 : decode cX11_loadPattern 17 = .ok (.if_icmp .ge 45, 3) := by decide +kernel
theorem dX11_loadPattern_20 : decode cX11_loadPattern 20 = .ok (.aload_n 0, 1) := by decide +kernel
theorem dX11_loadPattern_21 : decode cX11_loadPattern 21 = .ok (.getfield 42, 3) := by decide +kernel
theorem dX11_loadPattern_24 : decode cX11_loadPattern 24 = .ok (.iload_n 2, 1) := by decide +kernel
theorem dX11_loadPattern_25 : decode cX11_loadPattern 25 = .ok (.aload_n 0, 1) := by decide +kernel
theorem dX11_loadPattern_26 : decode cX11_loadPattern 26 = .ok (.getfield 22, 3) := by decide +kernel
theorem dX11_loadPattern_29 : decode cX11_loadPattern 29 = .ok (.sipush 200, 3) := by decide +kernel
theorem dX11_loadPattern_32 : decode cX11_loadPattern 32 = .ok (.iload_n 1, 1) := by decide +kernel
theorem dX11_loadPattern_33 : decode cX11_loadPattern 33 = .ok (.imul, 1) := by decide +kernel
theorem dX11_loadPattern_34 : decode cX11_loadPattern 34 = .ok (.iload_n 2, 1) := by decide +kernel
theorem dX11_loadPattern_35 : decode cX11_loadPattern 35 = .ok (.iadd, 1) := by decide +kernel
theorem dX11_loadPattern_36 : decode cX11_loadPattern 36 = .ok (.laload, 1) := by decide +kernel
theorem dX11_loadPattern_37 : decode cX11_loadPattern 37 = .ok (.lastore, 1) := by decide +kernel
theorem dX11_loadPattern_38 : decode cX11_loadPattern 38 = .ok (.aload_n 0, 1) := by decide +kernel
theorem dX11_loadPattern_39 : decode cX11_loadPattern 39 = .ok (.getfield 45, 3) := by decide +kernel
theorem dX11_loadPattern_42 : decode cX11_loadPattern 42 = .ok (.iload_n 2, 1) := by decide +kernel
theorem dX11_loadPattern_43 : decode cX11_loadPattern 43 = .ok (.aload_n 0, 1) := by decide +kernel
theorem dX11_loadPattern_44 : decode cX11_loadPattern 44 = .ok (.getfield 26, 3) := by decide +kernel
theorem dX11_loadPattern_47 : decode cX11_loadPattern 47 = .ok (.sipush 200, 3) := by decide +kernel
theorem dX11_loadPattern_50 : decode cX11_loadPattern 50 = .ok (.iload_n 1, 1) := by decide +kernel
theorem dX11_loadPattern_51 : decode cX11_loadPattern 51 = .ok (.imul, 1) := by decide +kernel
theorem dX11_loadPattern_52 : decode cX11_loadPattern 52 = .ok (.iload_n 2, 1) := by decide +kernel
theorem dX11_loadPattern_53 : decode cX11_loadPattern 53 = .ok (.iadd, 1) := by decide +kernel
theorem dX11_loadPattern_54 : decode cX11_loadPattern 54 = .ok (.laload, 1) := by decide +kernel
theorem dX11_loadPattern_55 : decode cX11_loadPattern 55 = .ok (.lastore, 1) := by decide +kernel
theorem dX11_loadPattern_56 : decode cX11_loadPattern 56 = .ok (.iinc 2 1, 3) := by decide +kernel
theorem dX11_loadPattern_59 : decode cX11_loadPattern 59 = .ok (.goto (-47), 3) := by decide +kernel
theorem dX11_loadPattern_62 : decode cX11_loadPattern 62 = .ok (.return_, 1) := by decide +kernel
theorem dX11_loadBytes_0 : decode cX11_loadBytes 0 = .ok (.aload_n 0, 1) := by decide +kernel
theorem dX11_loadBytes_1 : decode cX11_loadBytes 1 = .ok (.iload_n 2, 1) := by decide +kernel
theorem dX11_loadBytes_2 : decode cX11_loadBytes 2 = .ok (.iload_n 1, 1) := by decide +kernel
theorem dX11_loadBytes_3 : decode cX11_loadBytes 3 = .ok (.isub, 1) := by decide +kernel
theorem dX11_loadBytes_4 : decode cX11_loadBytes 4 = .ok (.putfield 175, 3) := by decide +kernel
theorem dX11_loadBytes_7 : decode cX11_loadBytes 7 = .ok (.iconst 0, 1) := by decide +kernel
theorem dX11_loadBytes_8 : decode cX11_loadBytes 8 = .ok (.istore_n 3, 1) := by decide +kernel
theorem dX11_loadBytes_9 : decode cX11_loadBytes 9 = .ok (.iload_n 3, 1) := by decide +kernel
theorem dX11_loadBytes_10 : decode cX11_loadBytes 10 = .ok (.aload_n 0, 1) := by decide +kernel
theorem dX11_loadBytes_11 : decode cX11_loadBytes 11 = .ok (.getfield 175, 3) := by decide +kernel
theorem dX11_loadBytes_14 : decode cX11_loadBytes 14 = .ok (.if_icmp .ge 23, 3) := by decide +kernel
theorem dX11_loadBytes_17 : decode cX11_loadBytes 17 = .ok (.aload_n 0, 1) := by decide +kernel
theorem dX11_loadBytes_18 : decode cX11_loadBytes 18 = .ok (.getfield 48, 3) := by decide +kernel
theorem dX11_loadBytes_21 : decode cX11_loadBytes 21 = .ok (.iload_n 3, 1) := by decide +kernel
theorem dX11_loadBytes_22 : decode cX11_loadBytes 22 = .ok (.aload_n 0, 1) := by decide +kernel
theorem dX11_loadBytes_23 : decode cX11_loadBytes 23 = .ok (.getfield 13, 3) := by decide +kernel
theorem dX11_loadBytes_26 : decode cX11_loadBytes 26 = .ok (.iload_n 1, 1) := by decide +kernel
theorem dX11_loadBytes_27 : decode cX11_loadBytes 27 = .ok (.iload_n 3, 1) := by decide +kernel
theorem dX11_loadBytes_28 : decode cX11_loadBytes 28 = .ok (.iadd, 1) := by decide +kernel
theorem dX11_loadBytes_29 : decode cX11_loadBytes 29 = .ok (.iaload, 1) := by decide +kernel
theorem dX11_loadBytes_30 : decode cX11_loadBytes 30 = .ok (.iastore, 1) := by decide +kernel
theorem dX11_loadBytes_31 : decode cX11_loadBytes 31 = .ok (.iinc 3 1, 3) := by decide +kernel
theorem dX11_loadBytes_34 : decode cX11_loadBytes 34 = .ok (.goto (-25), 3) := by decide +kernel
theorem dX11_loadBytes_37 : decode cX11_loadBytes 37 = .ok (.return_, 1) := by decide +kernel
theorem dX11_fits_0 : decode cX11_fits 0 = .ok (.iload_n 2, 1) := by decide +kernel
theorem dX11_fits_1 : decode cX11_fits 1 = .ok (.bipush 64, 2) := by decide +kernel
theorem dX11_fits_3 : decode cX11_fits 3 = .ok (.if_icmp .ge 14, 3) := by decide +kernel
theorem dX11_fits_6 : decode cX11_fits 6 = .ok (.aload_n 0, 1) := by decide +kernel
theorem dX11_fits_7 : decode cX11_fits 7 = .ok (.getfield 42, 3) := by decide +kernel
theorem dX11_fits_10 : decode cX11_fits 10 = .ok (.iload_n 1, 1) := by decide +kernel
theorem dX11_fits_11 : decode cX11_fits 11 = .ok (.laload, 1) := by decide +kernel
theorem dX11_fits_12 : decode cX11_fits 12 = .ok (.iload_n 2, 1) := by decide +kernel
theorem dX11_fits_13 : decode cX11_fits 13 = .ok (.lshr, 1) := by decide +kernel
theorem dX11_fits_14 : decode cX11_fits 14 = .ok (.goto 14, 3) := by decide +kernel
theorem dX11_fits_17 : decode cX11_fits 17 = .ok (.aload_n 0, 1) := by decide +kernel
theorem dX11_fits_18 : decode cX11_fits 18 = .ok (.getfield 45, 3) := by decide +kernel
theorem dX11_fits_21 : decode cX11_fits 21 = .ok (.iload_n 1, 1) := by decide +kernel
theorem dX11_fits_22 : decode cX11_fits 22 = .ok (.laload, 1) := by decide +kernel
theorem dX11_fits_23 : decode cX11_fits 23 = .ok (.iload_n 2, 1) := by decide +kernel
theorem dX11_fits_24 : decode cX11_fits 24 = .ok (.bipush 64, 2) := by decide +kernel
theorem dX11_fits_26 : decode cX11_fits 26 = .ok (.isub, 1) := by decide +kernel
theorem dX11_fits_27 : decode cX11_fits 27 = .ok (.lshr, 1) := by decide +kernel
theorem dX11_fits_28 : decode cX11_fits 28 = .ok (.lconst 1, 1) := by decide +kernel
theorem dX11_fits_29 : decode cX11_fits 29 = .ok (.land, 1) := by decide +kernel
theorem dX11_fits_30 : decode cX11_fits 30 = .ok (.lconst 1, 1) := by decide +kernel
theorem dX11_fits_31 : decode cX11_fits 31 = .ok (.lcmp, 1) := by decide +kernel
theorem dX11_fits_32 : decode cX11_fits 32 = .ok (.ifCond .ne 7, 3) := by decide +kernel
theorem dX11_fits_35 : decode cX11_fits 35 = .ok (.iconst 1, 1) := by decide +kernel
theorem dX11_fits_36 : decode cX11_fits 36 = .ok (.goto 4, 3) := by decide +kernel
theorem dX11_fits_39 : decode cX11_fits 39 = .ok (.iconst 0, 1) := by decide +kernel
theorem dX11_fits_40 : decode cX11_fits 40 = .ok (.ireturn, 1) := by decide +kernel
theorem dX11_firstColumn_0 : decode cX11_firstColumn 0 = .ok (.iconst 0, 1) := by decide +kernel
theorem dX11_firstColumn_1 : decode cX11_firstColumn 1 = .ok (.istore_n 1, 1) := by decide +kernel
theorem dX11_firstColumn_2 : decode cX11_firstColumn 2 = .ok (.iload_n 1, 1) := by decide +kernel
theorem dX11_firstColumn_3 : decode cX11_firstColumn 3 = .ok (.aload_n 0, 1) := by decide +kernel
theorem dX11_firstColumn_4 : decode cX11_firstColumn 4 = .ok (.getfield 172, 3) := by decide +kernel
theorem dX11_firstColumn_7 : decode cX11_firstColumn 7 = .ok (.if_icmp .gt 23, 3) := by decide +kernel
theorem dX11_firstColumn_10 : decode cX11_firstColumn 10 = .ok (.aload_n 0, 1) := by decide +kernel
theorem dX11_firstColumn_11 : decode cX11_firstColumn 11 = .ok (.getfield 51, 3) := by decide +kernel
theorem dX11_firstColumn_14 : decode cX11_firstColumn 14 = .ok (.iload_n 1, 1) := by decide +kernel
theorem dX11_firstColumn_15 : decode cX11_firstColumn 15 = .ok (.iload_n 1, 1) := by decide +kernel
theorem dX11_firstColumn_16 : decode cX11_firstColumn 16 = .ok (.iastore, 1) := by decide +kernel
theorem dX11_firstColumn_17 : decode cX11_firstColumn 17 = .ok (.aload_n 0, 1) := by decide +kernel
theorem dX11_firstColumn_18 : decode cX11_firstColumn 18 = .ok (.getfield 60, 3) := by decide +kernel
theorem dX11_firstColumn_21 : decode cX11_firstColumn 21 = .ok (.iload_n 1, 1) := by decide +kernel
theorem dX11_firstColumn_22 : decode cX11_firstColumn 22 = .ok (.iconst 0, 1) := by decide +kernel
theorem dX11_firstColumn_23 : decode cX11_firstColumn 23 = .ok (.iastore, 1) := by decide +kernel
theorem dX11_firstColumn_24 : decode cX11_firstColumn 24 = .ok (.iinc 1 1, 3) := by decide +kernel
theorem dX11_firstColumn_27 : decode cX11_firstColumn 27 = .ok (.goto (-25), 3) := by decide +kernel
theorem dX11_firstColumn_30 : decode cX11_firstColumn 30 = .ok (.return_, 1) := by decide +kernel
theorem dX11_better_0 : decode cX11_better 0 = .ok (.iload_n 2, 1) := by decide +kernel
theorem dX11_better_1 : decode cX11_better 1 = .ok (.aload_n 0, 1) := by decide +kernel
theorem dX11_better_2 : decode cX11_better 2 = .ok (.getfield 51, 3) := by decide +kernel
theorem dX11_better_5 : decode cX11_better 5 = .ok (.iload_n 1, 1) := by decide +kernel
theorem dX11_better_6 : decode cX11_better 6 = .ok (.iaload, 1) := by decide +kernel
theorem dX11_better_7 : decode cX11_better 7 = .ok (.if_icmp .lt 23, 3) := by decide +kernel
theorem dX11_better_10 : decode cX11_better 10 = .ok (.iload_n 2, 1) := by decide +kernel
theorem dX11_better_11 : decode cX11_better 11 = .ok (.aload_n 0, 1) := by decide +kernel
theorem dX11_better_12 : decode cX11_better 12 = .ok (.getfield 51, 3) := by decide +kernel
theorem dX11_better_15 : decode cX11_better 15 = .ok (.iload_n 1, 1) := by decide +kernel
theorem dX11_better_16 : decode cX11_better 16 = .ok (.iaload, 1) := by decide +kernel
theorem dX11_better_17 : decode cX11_better 17 = .ok (.if_icmp .ne 27, 3) := by decide +kernel
theorem dX11_better_20 : decode cX11_better 20 = .ok (.iload_n 3, 1) := by decide +kernel
theorem dX11_better_21 : decode cX11_better 21 = .ok (.aload_n 0, 1) := by decide +kernel
theorem dX11_better_22 : decode cX11_better 22 = .ok (.getfield 60, 3) := by decide +kernel
theorem dX11_better_25 : decode cX11_better 25 = .ok (.iload_n 1, 1) := by decide +kernel
theorem dX11_better_26 : decode cX11_better 26 = .ok (.iaload, 1) := by decide +kernel
theorem dX11_better_27 : decode cX11_better 27 = .ok (.if_icmp .le 17, 3) := by decide +kernel
theorem dX11_better_30 : decode cX11_better 30 = .ok (.aload_n 0, 1) := by decide +kernel
theorem dX11_better_31 : decode cX11_better 31 = .ok (.getfield 51, 3) := by decide +kernel
theorem dX11_better_34 : decode cX11_better 34 = .ok (.iload_n 1, 1) := by decide +kernel
theorem dX11_better_35 : decode cX11_better 35 = .ok (.iload_n 2, 1) := by decide +kernel
theorem dX11_better_36 : decode cX11_better 36 = .ok (.iastore, 1) := by decide +kernel
theorem dX11_better_37 : decode cX11_better 37 = .ok (.aload_n 0, 1) := by decide +kernel
theorem dX11_better_38 : decode cX11_better 38 = .ok (.getfield 60, 3) := by decide +kernel
theorem dX11_better_41 : decode cX11_better 41 = .ok (.iload_n 1, 1) := by decide +kernel
theorem dX11_better_42 : decode cX11_better 42 = .ok (.iload_n 3, 1) := by decide +kernel
theorem dX11_better_43 : decode cX11_better 43 = .ok (.iastore, 1) := by decide +kernel
theorem dX11_better_44 : decode cX11_better 44 = .ok (.return_, 1) := by decide +kernel
theorem dX11_column_0 : decode cX11_column 0 = .ok (.iconst 0, 1) := by decide +kernel
theorem dX11_column_1 : decode cX11_column 1 = .ok (.istore_n 3, 1) := by decide +kernel
theorem dX11_column_2 : decode cX11_column 2 = .ok (.iload_n 3, 1) := by decide +kernel
theorem dX11_column_3 : decode cX11_column 3 = .ok (.aload_n 0, 1) := by decide +kernel
theorem dX11_column_4 : decode cX11_column 4 = .ok (.getfield 172, 3) := by decide +kernel
theorem dX11_column_7 : decode cX11_column 7 = .ok (.if_icmp .gt 57, 3) := by decide +kernel
theorem dX11_column_10 : decode cX11_column 10 = .ok (.aload_n 0, 1) := by decide +kernel
theorem dX11_column_11 : decode cX11_column 11 = .ok (.getfield 57, 3) := by decide +kernel
theorem dX11_column_14 : decode cX11_column 14 = .ok (.iload_n 3, 1) := by decide +kernel
theorem dX11_column_15 : decode cX11_column 15 = .ok (.aload_n 0, 1) := by decide +kernel
theorem dX11_column_16 : decode cX11_column 16 = .ok (.getfield 54, 3) := by decide +kernel
theorem dX11_column_19 : decode cX11_column 19 = .ok (.iload_n 3, 1) := by decide +kernel
theorem dX11_column_20 : decode cX11_column 20 = .ok (.iaload, 1) := by decide +kernel
theorem dX11_column_21 : decode cX11_column 21 = .ok (.iastore, 1) := by decide +kernel
theorem dX11_column_22 : decode cX11_column 22 = .ok (.aload_n 0, 1) := by decide +kernel
theorem dX11_column_23 : decode cX11_column 23 = .ok (.getfield 66, 3) := by decide +kernel
theorem dX11_column_26 : decode cX11_column 26 = .ok (.iload_n 3, 1) := by decide +kernel
theorem dX11_column_27 : decode cX11_column 27 = .ok (.aload_n 0, 1) := by decide +kernel
theorem dX11_column_28 : decode cX11_column 28 = .ok (.getfield 63, 3) := by decide +kernel
theorem dX11_column_31 : decode cX11_column 31 = .ok (.iload_n 3, 1) := by decide +kernel
theorem dX11_column_32 : decode cX11_column 32 = .ok (.iaload, 1) := by decide +kernel
theorem dX11_column_33 : decode cX11_column 33 = .ok (.iastore, 1) := by decide +kernel
theorem dX11_column_34 : decode cX11_column 34 = .ok (.aload_n 0, 1) := by decide +kernel
theorem dX11_column_35 : decode cX11_column 35 = .ok (.getfield 54, 3) := by decide +kernel
theorem dX11_column_38 : decode cX11_column 38 = .ok (.iload_n 3, 1) := by decide +kernel
theorem dX11_column_39 : decode cX11_column 39 = .ok (.aload_n 0, 1) := by decide +kernel
theorem dX11_column_40 : decode cX11_column 40 = .ok (.getfield 51, 3) := by decide +kernel
theorem dX11_column_43 : decode cX11_column 43 = .ok (.iload_n 3, 1) := by decide +kernel
theorem dX11_column_44 : decode cX11_column 44 = .ok (.iaload, 1) := by decide +kernel
theorem dX11_column_45 : decode cX11_column 45 = .ok (.iastore, 1) := by decide +kernel
theorem dX11_column_46 : decode cX11_column 46 = .ok (.aload_n 0, 1) := by decide +kernel
theorem dX11_column_47 : decode cX11_column 47 = .ok (.getfield 63, 3) := by decide +kernel
theorem dX11_column_50 : decode cX11_column 50 = .ok (.iload_n 3, 1) := by decide +kernel
theorem dX11_column_51 : decode cX11_column 51 = .ok (.aload_n 0, 1) := by decide +kernel
theorem dX11_column_52 : decode cX11_column 52 = .ok (.getfield 60, 3) := by decide +kernel
theorem dX11_column_55 : decode cX11_column 55 = .ok (.iload_n 3, 1) := by decide +kernel
theorem dX11_column_56 : decode cX11_column 56 = .ok (.iaload, 1) := by decide +kernel
theorem dX11_column_57 : decode cX11_column 57 = .ok (.iastore, 1) := by decide +kernel
theorem dX11_column_58 : decode cX11_column 58 = .ok (.iinc 3 1, 3) := by decide +kernel
theorem dX11_column_61 : decode cX11_column 61 = .ok (.goto (-59), 3) := by decide +kernel
theorem dX11_column_64 : decode cX11_column 64 = .ok (.aload_n 0, 1) := by decide +kernel
theorem dX11_column_65 : decode cX11_column 65 = .ok (.getfield 51, 3) := by decide +kernel
theorem dX11_column_68 : decode cX11_column 68 = .ok (.iconst 0, 1) := by decide +kernel
theorem dX11_column_69 : decode cX11_column 69 = .ok (.iload_n 2, 1) := by decide +kernel
theorem dX11_column_70 : decode cX11_column 70 = .ok (.ifCond .eq 7, 3) := by decide +kernel
theorem dX11_column_73 : decode cX11_column 73 = .ok (.iconst 0, 1) := by decide +kernel
theorem dX11_column_74 : decode cX11_column 74 = .ok (.goto 6, 3) := by decide +kernel
theorem dX11_column_77 : decode cX11_column 77 = .ok (.iload_n 1, 1) := by decide +kernel
theorem dX11_column_78 : decode cX11_column 78 = .ok (.iconst 1, 1) := by decide +kernel
theorem dX11_column_79 : decode cX11_column 79 = .ok (.iadd, 1) := by decide +kernel
theorem dX11_column_80 : decode cX11_column 80 = .ok (.iastore, 1) := by decide +kernel
theorem dX11_column_81 : decode cX11_column 81 = .ok (.aload_n 0, 1) := by decide +kernel
theorem dX11_column_82 : decode cX11_column 82 = .ok (.getfield 60, 3) := by decide +kernel
theorem dX11_column_85 : decode cX11_column 85 = .ok (.iconst 0, 1) := by decide +kernel
theorem dX11_column_86 : decode cX11_column 86 = .ok (.iload_n 2, 1) := by decide +kernel
theorem dX11_column_87 : decode cX11_column 87 = .ok (.ifCond .eq 9, 3) := by decide +kernel
theorem dX11_column_90 : decode cX11_column 90 = .ok (.iload_n 1, 1) := by decide +kernel
theorem dX11_column_91 : decode cX11_column 91 = .ok (.iconst 1, 1) := by decide +kernel
theorem dX11_column_92 : decode cX11_column 92 = .ok (.iadd, 1) := by decide +kernel
theorem dX11_column_93 : decode cX11_column 93 = .ok (.goto 4, 3) := by decide +kernel
theorem dX11_column_96 : decode cX11_column 96 = .ok (.iconst 0, 1) := by decide +kernel
theorem dX11_column_97 : decode cX11_column 97 = .ok (.iastore, 1) := by decide +kernel
theorem dX11_column_98 : decode cX11_column 98 = .ok (.iconst 1, 1) := by decide +kernel
theorem dX11_column_99 : decode cX11_column 99 = .ok (.istore_n 3, 1) := by decide +kernel
theorem dX11_column_100 : decode cX11_column 100 = .ok (.iload_n 3, 1) := by decide +kernel
theorem dX11_column_101 : decode cX11_column 101 = .ok (.aload_n 0, 1) := by decide +kernel
theorem dX11_column_102 : decode cX11_column 102 = .ok (.getfield 172, 3) := by decide +kernel
theorem dX11_column_105 : decode cX11_column 105 = .ok (.if_icmp .gt 174, 3) := by decide +kernel
theorem dX11_column_108 : decode cX11_column 108 = .ok (.aload_n 0, 1) := by decide +kernel
theorem dX11_column_109 : decode cX11_column 109 = .ok (.getfield 51, 3) := by decide +kernel
theorem dX11_column_112 : decode cX11_column 112 = .ok (.iload_n 3, 1) := by decide +kernel
theorem dX11_column_113 : decode cX11_column 113 = .ok (.aload_n 0, 1) := by decide +kernel
theorem dX11_column_114 : decode cX11_column 114 = .ok (.getfield 54, 3) := by decide +kernel
theorem dX11_column_117 : decode cX11_column 117 = .ok (.iload_n 3, 1) := by decide +kernel
theorem dX11_column_118 : decode cX11_column 118 = .ok (.iconst 1, 1) := by decide +kernel
theorem dX11_column_119 : decode cX11_column 119 = .ok (.isub, 1) := by decide +kernel
theorem dX11_column_120 : decode cX11_column 120 = .ok (.iaload, 1) := by decide +kernel
theorem dX11_column_121 : decode cX11_column 121 = .ok (.aload_n 0, 1) := by decide +kernel
theorem dX11_column_122 : decode cX11_column 122 = .ok (.iload_n 3, 1) := by decide +kernel
theorem dX11_column_123 : decode cX11_column 123 = .ok (.iconst 1, 1) := by decide +kernel
theorem dX11_column_124 : decode cX11_column 124 = .ok (.isub, 1) := by decide +kernel
theorem dX11_column_125 : decode cX11_column 125 = .ok (.aload_n 0, 1) := by decide +kernel
theorem dX11_column_126 : decode cX11_column 126 = .ok (.getfield 48, 3) := by decide +kernel
theorem dX11_column_129 : decode cX11_column 129 = .ok (.iload_n 1, 1) := by decide +kernel
theorem dX11_column_130 : decode cX11_column 130 = .ok (.iaload, 1) := by decide +kernel
theorem dX11_column_131 : decode cX11_column 131 = .ok (.invokevirtual 178, 3) := by decide +kernel
theorem dX11_column_134 : decode cX11_column 134 = .ok (.ifCond .eq 7, 3) := by decide +kernel
theorem dX11_column_137 : decode cX11_column 137 = .ok (.iconst 0, 1) := by decide +kernel
theorem dX11_column_138 : decode cX11_column 138 = .ok (.goto 4, 3) := by decide +kernel
theorem dX11_column_141 : decode cX11_column 141 = .ok (.iconst 1, 1) := by decide +kernel
theorem dX11_column_142 : decode cX11_column 142 = .ok (.iadd, 1) := by decide +kernel
theorem dX11_column_143 : decode cX11_column 143 = .ok (.iastore, 1) := by decide +kernel
theorem dX11_column_144 : decode cX11_column 144 = .ok (.aload_n 0, 1) := by decide +kernel
theorem dX11_column_145 : decode cX11_column 145 = .ok (.getfield 60, 3) := by decide +kernel
theorem dX11_column_148 : decode cX11_column 148 = .ok (.iload_n 3, 1) := by decide +kernel
theorem dX11_column_149 : decode cX11_column 149 = .ok (.aload_n 0, 1) := by decide +kernel
theorem dX11_column_150 : decode cX11_column 150 = .ok (.getfield 63, 3) := by decide +kernel
theorem dX11_column_153 : decode cX11_column 153 = .ok (.iload_n 3, 1) := by decide +kernel
theorem dX11_column_154 : decode cX11_column 154 = .ok (.iconst 1, 1) := by decide +kernel
theorem dX11_column_155 : decode cX11_column 155 = .ok (.isub, 1) := by decide +kernel
theorem dX11_column_156 : decode cX11_column 156 = .ok (.iaload, 1) := by decide +kernel
theorem dX11_column_157 : decode cX11_column 157 = .ok (.iastore, 1) := by decide +kernel
theorem dX11_column_158 : decode cX11_column 158 = .ok (.aload_n 0, 1) := by decide +kernel
theorem dX11_column_159 : decode cX11_column 159 = .ok (.iload_n 3, 1) := by decide +kernel
theorem dX11_column_160 : decode cX11_column 160 = .ok (.aload_n 0, 1) := by decide +kernel
theorem dX11_column_161 : decode cX11_column 161 = .ok (.getfield 54, 3) := by decide +kernel
theorem dX11_column_164 : decode cX11_column 164 = .ok (.iload_n 3, 1) := by decide +kernel
theorem dX11_column_165 : decode cX11_column 165 = .ok (.iaload, 1) := by decide +kernel
theorem dX11_column_166 : decode cX11_column 166 = .ok (.iconst 1, 1) := by decide +kernel
theorem dX11_column_167 : decode cX11_column 167 = .ok (.iadd, 1) := by decide +kernel
theorem dX11_column_168 : decode cX11_column 168 = .ok (.aload_n 0, 1) := by decide +kernel
theorem dX11_column_169 : decode cX11_column 169 = .ok (.getfield 63, 3) := by decide +kernel
theorem dX11_column_172 : decode cX11_column 172 = .ok (.iload_n 3, 1) := by decide +kernel
theorem dX11_column_173 : decode cX11_column 173 = .ok (.iaload, 1) := by decide +kernel
theorem dX11_column_174 : decode cX11_column 174 = .ok (.invokevirtual 181, 3) := by decide +kernel
theorem dX11_column_177 : decode cX11_column 177 = .ok (.aload_n 0, 1) := by decide +kernel
theorem dX11_column_178 : decode cX11_column 178 = .ok (.iload_n 3, 1) := by decide +kernel
theorem dX11_column_179 : decode cX11_column 179 = .ok (.aload_n 0, 1) := by decide +kernel
theorem dX11_column_180 : decode cX11_column 180 = .ok (.getfield 51, 3) := by decide +kernel
theorem dX11_column_183 : decode cX11_column 183 = .ok (.iload_n 3, 1) := by decide +kernel
theorem dX11_column_184 : decode cX11_column 184 = .ok (.iconst 1, 1) := by decide +kernel
theorem dX11_column_185 : decode cX11_column 185 = .ok (.isub, 1) := by decide +kernel
theorem dX11_column_186 : decode cX11_column 186 = .ok (.iaload, 1) := by decide +kernel
theorem dX11_column_187 : decode cX11_column 187 = .ok (.iconst 1, 1) := by decide +kernel
theorem dX11_column_188 : decode cX11_column 188 = .ok (.iadd, 1) := by decide +kernel
theorem dX11_column_189 : decode cX11_column 189 = .ok (.aload_n 0, 1) := by decide +kernel
theorem dX11_column_190 : decode cX11_column 190 = .ok (.getfield 60, 3) := by decide +kernel
theorem dX11_column_193 : decode cX11_column 193 = .ok (.iload_n 3, 1) := by decide +kernel
theorem dX11_column_194 : decode cX11_column 194 = .ok (.iconst 1, 1) := by decide +kernel
theorem dX11_column_195 : decode cX11_column 195 = .ok (.isub, 1) := by decide +kernel
theorem dX11_column_196 : decode cX11_column 196 = .ok (.iaload, 1) := by decide +kernel
theorem dX11_column_197 : decode cX11_column 197 = .ok (.invokevirtual 181, 3) := by decide +kernel
theorem dX11_column_200 : decode cX11_column 200 = .ok (.aload_n 0, 1) := by decide +kernel
theorem dX11_column_201 : decode cX11_column 201 = .ok (.getfield 185, 3) := by decide +kernel
theorem dX11_column_204 : decode cX11_column 204 = .ok (.ifCond .eq 69, 3) := by decide +kernel
theorem dX11_column_207 : decode cX11_column 207 = .ok (.iload_n 3, 1) := by decide +kernel
theorem dX11_column_208 : decode cX11_column 208 = .ok (.iconst 1, 1) := by decide +kernel
theorem dX11_column_209 : decode cX11_column 209 = .ok (.if_icmp .le 64, 3) := by decide +kernel
theorem dX11_column_212 : decode cX11_column 212 = .ok (.iload_n 1, 1) := by decide +kernel
theorem dX11_column_213 : decode cX11_column 213 = .ok (.ifCond .le 60, 3) := by decide +kernel
theorem dX11_column_216 : decode cX11_column 216 = .ok (.aload_n 0, 1) := by decide +kernel
theorem dX11_column_217 : decode cX11_column 217 = .ok (.iload_n 3, 1) := by decide +kernel
theorem dX11_column_218 : decode cX11_column 218 = .ok (.iconst 2, 1) := by decide +kernel
theorem dX11_column_219 : decode cX11_column 219 = .ok (.isub, 1) := by decide +kernel
theorem dX11_column_220 : decode cX11_column 220 = .ok (.aload_n 0, 1) := by decide +kernel
theorem dX11_column_221 : decode cX11_column 221 = .ok (.getfield 48, 3) := by decide +kernel
theorem dX11_column_224 : decode cX11_column 224 = .ok (.iload_n 1, 1) := by decide +kernel
theorem dX11_column_225 : decode cX11_column 225 = .ok (.iaload, 1) := by decide +kernel
theorem dX11_column_226 : decode cX11_column 226 = .ok (.invokevirtual 178, 3) := by decide +kernel
theorem dX11_column_229 : decode cX11_column 229 = .ok (.ifCond .eq 44, 3) := by decide +kernel
theorem dX11_column_232 : decode cX11_column 232 = .ok (.aload_n 0, 1) := by decide +kernel
theorem dX11_column_233 : decode cX11_column 233 = .ok (.iload_n 3, 1) := by decide +kernel
theorem dX11_column_234 : decode cX11_column 234 = .ok (.iconst 1, 1) := by decide +kernel
theorem dX11_column_235 : decode cX11_column 235 = .ok (.isub, 1) := by decide +kernel
theorem dX11_column_236 : decode cX11_column 236 = .ok (.aload_n 0, 1) := by decide +kernel
theorem dX11_column_237 : decode cX11_column 237 = .ok (.getfield 48, 3) := by decide +kernel
theorem dX11_column_240 : decode cX11_column 240 = .ok (.iload_n 1, 1) := by decide +kernel
theorem dX11_column_241 : decode cX11_column 241 = .ok (.iconst 1, 1) := by decide +kernel
theorem dX11_column_242 : decode cX11_column 242 = .ok (.isub, 1) := by decide +kernel
theorem dX11_column_243 : decode cX11_column 243 = .ok (.iaload, 1) := by decide +kernel
theorem dX11_column_244 : decode cX11_column 244 = .ok (.invokevirtual 178, 3) := by decide +kernel
theorem dX11_column_247 : decode cX11_column 247 = .ok (.ifCond .eq 26, 3) := by decide +kernel
theorem dX11_column_250 : decode cX11_column 250 = .ok (.aload_n 0, 1) := by decide +kernel
theorem dX11_column_251 : decode cX11_column 251 = .ok (.iload_n 3, 1) := by decide +kernel
theorem dX11_column_252 : decode cX11_column 252 = .ok (.aload_n 0, 1) := by decide +kernel
theorem dX11_column_253 : decode cX11_column 253 = .ok (.getfield 57, 3) := by decide +kernel
theorem dX11_column_256 : decode cX11_column 256 = .ok (.iload_n 3, 1) := by decide +kernel
theorem dX11_column_257 : decode cX11_column 257 = .ok (.iconst 2, 1) := by decide +kernel
theorem dX11_column_258 : decode cX11_column 258 = .ok (.isub, 1) := by decide +kernel
theorem dX11_column_259 : decode cX11_column 259 = .ok (.iaload, 1) := by decide +kernel
theorem dX11_column_260 : decode cX11_column 260 = .ok (.iconst 1, 1) := by decide +kernel
theorem dX11_column_261 : decode cX11_column 261 = .ok (.iadd, 1) := by decide +kernel
theorem dX11_column_262 : decode cX11_column 262 = .ok (.aload_n 0, 1) := by decide +kernel
theorem dX11_column_263 : decode cX11_column 263 = .ok (.getfield 66, 3) := by decide +kernel
theorem dX11_column_266 : decode cX11_column 266 = .ok (.iload_n 3, 1) := by decide +kernel
theorem dX11_column_267 : decode cX11_column 267 = .ok (.iconst 2, 1) := by decide +kernel
theorem dX11_column_268 : decode cX11_column 268 = .ok (.isub, 1) := by decide +kernel
theorem dX11_column_269 : decode cX11_column 269 = .ok (.iaload, 1) := by decide +kernel
theorem dX11_column_270 : decode cX11_column 270 = .ok (.invokevirtual 181, 3) := by decide +kernel
theorem dX11_column_273 : decode cX11_column 273 = .ok (.iinc 3 1, 3) := by decide +kernel
theorem dX11_column_276 : decode cX11_column 276 = .ok (.goto (-176), 3) := by decide +kernel
theorem dX11_column_279 : decode cX11_column 279 = .ok (.return_, 1) := by decide +kernel
theorem dX11_distance_0 : decode cX11_distance 0 = .ok (.aload_n 0, 1) := by decide +kernel
theorem dX11_distance_1 : decode cX11_distance 1 = .ok (.invokevirtual 189, 3) := by decide +kernel
theorem dX11_distance_4 : decode cX11_distance 4 = .ok (.iconst 0, 1) := by decide +kernel
theorem dX11_distance_5 : decode cX11_distance 5 = .ok (.istore_n 1, 1) := by decide +kernel
theorem dX11_distance_6 : decode cX11_distance 6 = .ok (.iload_n 1, 1) := by decide +kernel
theorem dX11_distance_7 : decode cX11_distance 7 = .ok (.aload_n 0, 1) := by decide +kernel
theorem dX11_distance_8 : decode cX11_distance 8 = .ok (.getfield 175, 3) := by decide +kernel
theorem dX11_distance_11 : decode cX11_distance 11 = .ok (.if_icmp .ge 15, 3) := by decide +kernel
theorem dX11_distance_14 : decode cX11_distance 14 = .ok (.aload_n 0, 1) := by decide +kernel
theorem dX11_distance_15 : decode cX11_distance 15 = .ok (.iload_n 1, 1) := by decide +kernel
theorem dX11_distance_16 : decode cX11_distance 16 = .ok (.iconst 0, 1) := by decide +kernel
theorem dX11_distance_17 : decode cX11_distance 17 = .ok (.invokevirtual 192, 3) := by decide +kernel
theorem dX11_distance_20 : decode cX11_distance 20 = .ok (.iinc 1 1, 3) := by decide +kernel
theorem dX11_distance_23 : decode cX11_distance 23 = .ok (.goto (-17), 3) := by decide +kernel
theorem dX11_distance_26 : decode cX11_distance 26 = .ok (.aload_n 0, 1) := by decide +kernel
theorem dX11_distance_27 : decode cX11_distance 27 = .ok (.getfield 51, 3) := by decide +kernel
theorem dX11_distance_30 : decode cX11_distance 30 = .ok (.aload_n 0, 1) := by decide +kernel
theorem dX11_distance_31 : decode cX11_distance 31 = .ok (.getfield 172, 3) := by decide +kernel
theorem dX11_distance_34 : decode cX11_distance 34 = .ok (.iaload, 1) := by decide +kernel
theorem dX11_distance_35 : decode cX11_distance 35 = .ok (.ireturn, 1) := by decide +kernel
theorem dX11_firstHit_0 : decode cX11_firstHit 0 = .ok (.aload_n 0, 1) := by decide +kernel
theorem dX11_firstHit_1 : decode cX11_firstHit 1 = .ok (.invokevirtual 189, 3) := by decide +kernel
theorem dX11_firstHit_4 : decode cX11_firstHit 4 = .ok (.iconst 0, 1) := by decide +kernel
theorem dX11_firstHit_5 : decode cX11_firstHit 5 = .ok (.istore_n 3, 1) := by decide +kernel
theorem dX11_firstHit_6 : decode cX11_firstHit 6 = .ok (.iload_n 3, 1) := by decide +kernel
theorem dX11_firstHit_7 : decode cX11_firstHit 7 = .ok (.aload_n 0, 1) := by decide +kernel
theorem dX11_firstHit_8 : decode cX11_firstHit 8 = .ok (.getfield 175, 3) := by decide +kernel
theorem dX11_firstHit_11 : decode cX11_firstHit 11 = .ok (.if_icmp .ge 49, 3) := by decide +kernel
theorem dX11_firstHit_14 : decode cX11_firstHit 14 = .ok (.aload_n 0, 1) := by decide +kernel
theorem dX11_firstHit_15 : decode cX11_firstHit 15 = .ok (.iload_n 3, 1) := by decide +kernel
theorem dX11_firstHit_16 : decode cX11_firstHit 16 = .ok (.iconst 1, 1) := by decide +kernel
theorem dX11_firstHit_17 : decode cX11_firstHit 17 = .ok (.invokevirtual 192, 3) := by decide +kernel
theorem dX11_firstHit_20 : decode cX11_firstHit 20 = .ok (.aload_n 0, 1) := by decide +kernel
theorem dX11_firstHit_21 : decode cX11_firstHit 21 = .ok (.getfield 51, 3) := by decide +kernel
theorem dX11_firstHit_24 : decode cX11_firstHit 24 = .ok (.aload_n 0, 1) := by decide +kernel
theorem dX11_firstHit_25 : decode cX11_firstHit 25 = .ok (.getfield 172, 3) := by decide +kernel
theorem dX11_firstHit_28 : decode cX11_firstHit 28 = .ok (.iaload, 1) := by decide +kernel
theorem dX11_firstHit_29 : decode cX11_firstHit 29 = .ok (.iload_n 1, 1) := by decide +kernel
theorem dX11_firstHit_30 : decode cX11_firstHit 30 = .ok (.if_icmp .gt 24, 3) := by decide +kernel
theorem dX11_firstHit_33 : decode cX11_firstHit 33 = .ok (.iload_n 2, 1) := by decide +kernel
theorem dX11_firstHit_34 : decode cX11_firstHit 34 = .ok (.ifCond .eq 16, 3) := by decide +kernel
theorem dX11_firstHit_37 : decode cX11_firstHit 37 = .ok (.aload_n 0, 1) := by decide +kernel
theorem dX11_firstHit_38 : decode cX11_firstHit 38 = .ok (.getfield 60, 3) := by decide +kernel
theorem dX11_firstHit_41 : decode cX11_firstHit 41 = .ok (.aload_n 0, 1) := by decide +kernel
theorem dX11_firstHit_42 : decode cX11_firstHit 42 = .ok (.getfield 172, 3) := by decide +kernel
theorem dX11_firstHit_45 : decode cX11_firstHit 45 = .ok (.iaload, 1) := by decide +kernel
theorem dX11_firstHit_46 : decode cX11_firstHit 46 = .ok (.iload_n 3, 1) := by decide +kernel
theorem dX11_firstHit_47 : decode cX11_firstHit 47 = .ok (.if_icmp .gt 7, 3) := by decide +kernel
theorem dX11_firstHit_50 : decode cX11_firstHit 50 = .ok (.iload_n 3, 1) := by decide +kernel
theorem dX11_firstHit_51 : decode cX11_firstHit 51 = .ok (.iconst 1, 1) := by decide +kernel
theorem dX11_firstHit_52 : decode cX11_firstHit 52 = .ok (.iadd, 1) := by decide +kernel
theorem dX11_firstHit_53 : decode cX11_firstHit 53 = .ok (.ireturn, 1) := by decide +kernel
theorem dX11_firstHit_54 : decode cX11_firstHit 54 = .ok (.iinc 3 1, 3) := by decide +kernel
theorem dX11_firstHit_57 : decode cX11_firstHit 57 = .ok (.goto (-51), 3) := by decide +kernel
theorem dX11_firstHit_60 : decode cX11_firstHit 60 = .ok (.iconst (-1), 1) := by decide +kernel
theorem dX11_firstHit_61 : decode cX11_firstHit 61 = .ok (.ireturn, 1) := by decide +kernel
theorem dX11_isEdits_0 : decode cX11_isEdits 0 = .ok (.iload_n 0, 1) := by decide +kernel
theorem dX11_isEdits_1 : decode cX11_isEdits 1 = .ok (.iconst 0, 1) := by decide +kernel
theorem dX11_isEdits_2 : decode cX11_isEdits 2 = .ok (.sipush 200, 3) := by decide +kernel
theorem dX11_isEdits_5 : decode cX11_isEdits 5 = .ok (.invokestatic 100, 3) := by decide +kernel
theorem dX11_isEdits_8 : decode cX11_isEdits 8 = .ok (.ireturn, 1) := by decide +kernel
theorem dX11_find_0 : decode cX11_find 0 = .ok (.aload_n 0, 1) := by decide +kernel
theorem dX11_find_1 : decode cX11_find 1 = .ok (.iload_n 1, 1) := by decide +kernel
theorem dX11_find_2 : decode cX11_find 2 = .ok (.invokevirtual 156, 3) := by decide +kernel
theorem dX11_find_5 : decode cX11_find 5 = .ok (.ifCond .eq 10, 3) := by decide +kernel
theorem dX11_find_8 : decode cX11_find 8 = .ok (.iload_n 2, 1) := by decide +kernel
theorem dX11_find_9 : decode cX11_find 9 = .ok (.invokestatic 196, 3) := by decide +kernel
theorem dX11_find_12 : decode cX11_find 12 = .ok (.ifCond .ne 6, 3) := by decide +kernel
theorem dX11_find_15 : decode cX11_find 15 = .ok (.bipush (-2), 2) := by decide +kernel
theorem dX11_find_17 : decode cX11_find 17 = .ok (.ireturn, 1) := by decide +kernel
theorem dX11_find_18 : decode cX11_find 18 = .ok (.aload_n 0, 1) := by decide +kernel
theorem dX11_find_19 : decode cX11_find 19 = .ok (.iload_n 1, 1) := by decide +kernel
theorem dX11_find_20 : decode cX11_find 20 = .ok (.invokevirtual 199, 3) := by decide +kernel
theorem dX11_find_23 : decode cX11_find 23 = .ok (.aload_n 0, 1) := by decide +kernel
theorem dX11_find_24 : decode cX11_find 24 = .ok (.iconst 0, 1) := by decide +kernel
theorem dX11_find_25 : decode cX11_find 25 = .ok (.aload_n 0, 1) := by decide +kernel
theorem dX11_find_26 : decode cX11_find 26 = .ok (.getfield 162, 3) := by decide +kernel
theorem dX11_find_29 : decode cX11_find 29 = .ok (.invokevirtual 202, 3) := by decide +kernel
theorem dX11_find_32 : decode cX11_find 32 = .ok (.aload_n 0, 1) := by decide +kernel
theorem dX11_find_33 : decode cX11_find 33 = .ok (.iload_n 3, 1) := by decide +kernel
theorem dX11_find_34 : decode cX11_find 34 = .ok (.putfield 185, 3) := by decide +kernel
theorem dX11_find_37 : decode cX11_find 37 = .ok (.aload_n 0, 1) := by decide +kernel
theorem dX11_find_38 : decode cX11_find 38 = .ok (.iconst 0, 1) := by decide +kernel
theorem dX11_find_39 : decode cX11_find 39 = .ok (.putfield 205, 3) := by decide +kernel
theorem dX11_find_42 : decode cX11_find 42 = .ok (.aload_n 0, 1) := by decide +kernel
theorem dX11_find_43 : decode cX11_find 43 = .ok (.iload_n 3, 1) := by decide +kernel
theorem dX11_find_44 : decode cX11_find 44 = .ok (.putfield 208, 3) := by decide +kernel
theorem dX11_find_47 : decode cX11_find 47 = .ok (.aload_n 0, 1) := by decide +kernel
theorem dX11_find_48 : decode cX11_find 48 = .ok (.aload_n 0, 1) := by decide +kernel
theorem dX11_find_49 : decode cX11_find 49 = .ok (.getfield 172, 3) := by decide +kernel
theorem dX11_find_52 : decode cX11_find 52 = .ok (.putfield 211, 3) := by decide +kernel
theorem dX11_find_55 : decode cX11_find 55 = .ok (.iconst 0, 1) := by decide +kernel
theorem dX11_find_56 : decode cX11_find 56 = .ok (.istore 4, 2) := by decide +kernel
theorem dX11_find_58 : decode cX11_find 58 = .ok (.iload 4, 2) := by decide +kernel
theorem dX11_find_60 : decode cX11_find 60 = .ok (.aload_n 0, 1) := by decide +kernel
theorem dX11_find_61 : decode cX11_find 61 = .ok (.getfield 172, 3) := by decide +kernel
theorem dX11_find_64 : decode cX11_find 64 = .ok (.if_icmp .ge 37, 3) := by decide +kernel
theorem dX11_find_67 : decode cX11_find 67 = .ok (.aload_n 0, 1) := by decide +kernel
theorem dX11_find_68 : decode cX11_find 68 = .ok (.getfield 81, 3) := by decide +kernel
theorem dX11_find_71 : decode cX11_find 71 = .ok (.iload 4, 2) := by decide +kernel
theorem dX11_find_73 : decode cX11_find 73 = .ok (.aload_n 0, 1) := by decide +kernel
theorem dX11_find_74 : decode cX11_find 74 = .ok (.getfield 42, 3) := by decide +kernel
theorem dX11_find_77 : decode cX11_find 77 = .ok (.iload 4, 2) := by decide +kernel
theorem dX11_find_79 : decode cX11_find 79 = .ok (.laload, 1) := by decide +kernel
theorem dX11_find_80 : decode cX11_find 80 = .ok (.lastore, 1) := by decide +kernel
theorem dX11_find_81 : decode cX11_find 81 = .ok (.aload_n 0, 1) := by decide +kernel
theorem dX11_find_82 : decode cX11_find 82 = .ok (.getfield 84, 3) := by decide +kernel
theorem dX11_find_85 : decode cX11_find 85 = .ok (.iload 4, 2) := by decide +kernel
theorem dX11_find_87 : decode cX11_find 87 = .ok (.aload_n 0, 1) := by decide +kernel
theorem dX11_find_88 : decode cX11_find 88 = .ok (.getfield 45, 3) := by decide +kernel
theorem dX11_find_91 : decode cX11_find 91 = .ok (.iload 4, 2) := by decide +kernel
theorem dX11_find_93 : decode cX11_find 93 = .ok (.laload, 1) := by decide +kernel
theorem dX11_find_94 : decode cX11_find 94 = .ok (.lastore, 1) := by decide +kernel
theorem dX11_find_95 : decode cX11_find 95 = .ok (.iinc 4 1, 3) := by decide +kernel
theorem dX11_find_98 : decode cX11_find 98 = .ok (.goto (-40), 3) := by decide +kernel
theorem dX11_find_101 : decode cX11_find 101 = .ok (.iconst 0, 1) := by decide +kernel
theorem dX11_find_102 : decode cX11_find 102 = .ok (.istore 4, 2) := by decide +kernel
theorem dX11_find_104 : decode cX11_find 104 = .ok (.iload 4, 2) := by decide +kernel
theorem dX11_find_106 : decode cX11_find 106 = .ok (.aload_n 0, 1) := by decide +kernel
theorem dX11_find_107 : decode cX11_find 107 = .ok (.getfield 162, 3) := by decide +kernel
theorem dX11_find_110 : decode cX11_find 110 = .ok (.if_icmp .ge 23, 3) := by decide +kernel
theorem dX11_find_113 : decode cX11_find 113 = .ok (.aload_n 0, 1) := by decide +kernel
theorem dX11_find_114 : decode cX11_find 114 = .ok (.getfield 78, 3) := by decide +kernel
theorem dX11_find_117 : decode cX11_find 117 = .ok (.iload 4, 2) := by decide +kernel
theorem dX11_find_119 : decode cX11_find 119 = .ok (.aload_n 0, 1) := by decide +kernel
theorem dX11_find_120 : decode cX11_find 120 = .ok (.getfield 13, 3) := by decide +kernel
theorem dX11_find_123 : decode cX11_find 123 = .ok (.iload 4, 2) := by decide +kernel
theorem dX11_find_125 : decode cX11_find 125 = .ok (.iaload, 1) := by decide +kernel
theorem dX11_find_126 : decode cX11_find 126 = .ok (.iastore, 1) := by decide +kernel
theorem dX11_find_127 : decode cX11_find 127 = .ok (.iinc 4 1, 3) := by decide +kernel
theorem dX11_find_130 : decode cX11_find 130 = .ok (.goto (-26), 3) := by decide +kernel
theorem dX11_find_133 : decode cX11_find 133 = .ok (.aload_n 0, 1) := by decide +kernel
theorem dX11_find_134 : decode cX11_find 134 = .ok (.invokevirtual 189, 3) := by decide +kernel
theorem dX11_find_137 : decode cX11_find 137 = .ok (.iconst 0, 1) := by decide +kernel
theorem dX11_find_138 : decode cX11_find 138 = .ok (.istore 4, 2) := by decide +kernel
theorem dX11_find_140 : decode cX11_find 140 = .ok (.iload 4, 2) := by decide +kernel
theorem dX11_find_142 : decode cX11_find 142 = .ok (.aload_n 0, 1) := by decide +kernel
theorem dX11_find_143 : decode cX11_find 143 = .ok (.getfield 175, 3) := by decide +kernel
theorem dX11_find_146 : decode cX11_find 146 = .ok (.if_icmp .ge 88, 3) := by decide +kernel
theorem dX11_find_149 : decode cX11_find 149 = .ok (.aload_n 0, 1) := by decide +kernel
theorem dX11_find_150 : decode cX11_find 150 = .ok (.iload 4, 2) := by decide +kernel
theorem dX11_find_152 : decode cX11_find 152 = .ok (.iconst 1, 1) := by decide +kernel
theorem dX11_find_153 : decode cX11_find 153 = .ok (.invokevirtual 192, 3) := by decide +kernel
theorem dX11_find_156 : decode cX11_find 156 = .ok (.aload_n 0, 1) := by decide +kernel
theorem dX11_find_157 : decode cX11_find 157 = .ok (.getfield 51, 3) := by decide +kernel
theorem dX11_find_160 : decode cX11_find 160 = .ok (.aload_n 0, 1) := by decide +kernel
theorem dX11_find_161 : decode cX11_find 161 = .ok (.getfield 172, 3) := by decide +kernel
theorem dX11_find_164 : decode cX11_find 164 = .ok (.iaload, 1) := by decide +kernel
theorem dX11_find_165 : decode cX11_find 165 = .ok (.iload_n 2, 1) := by decide +kernel
theorem dX11_find_166 : decode cX11_find 166 = .ok (.if_icmp .gt 62, 3) := by decide +kernel
theorem dX11_find_169 : decode cX11_find 169 = .ok (.aload_n 0, 1) := by decide +kernel
theorem dX11_find_170 : decode cX11_find 170 = .ok (.getfield 69, 3) := by decide +kernel
theorem dX11_find_173 : decode cX11_find 173 = .ok (.aload_n 0, 1) := by decide +kernel
theorem dX11_find_174 : decode cX11_find 174 = .ok (.getfield 205, 3) := by decide +kernel
theorem dX11_find_177 : decode cX11_find 177 = .ok (.iload 4, 2) := by decide +kernel
theorem dX11_find_179 : decode cX11_find 179 = .ok (.iconst 1, 1) := by decide +kernel
theorem dX11_find_180 : decode cX11_find 180 = .ok (.iadd, 1) := by decide +kernel
theorem dX11_find_181 : decode cX11_find 181 = .ok (.iastore, 1) := by decide +kernel
theorem dX11_find_182 : decode cX11_find 182 = .ok (.aload_n 0, 1) := by decide +kernel
theorem dX11_find_183 : decode cX11_find 183 = .ok (.getfield 72, 3) := by decide +kernel
theorem dX11_find_186 : decode cX11_find 186 = .ok (.aload_n 0, 1) := by decide +kernel
theorem dX11_find_187 : decode cX11_find 187 = .ok (.getfield 205, 3) := by decide +kernel
theorem dX11_find_190 : decode cX11_find 190 = .ok (.aload_n 0, 1) := by decide +kernel
theorem dX11_find_191 : decode cX11_find 191 = .ok (.getfield 51, 3) := by decide +kernel
theorem dX11_find_194 : decode cX11_find 194 = .ok (.aload_n 0, 1) := by decide +kernel
theorem dX11_find_195 : decode cX11_find 195 = .ok (.getfield 172, 3) := by decide +kernel
theorem dX11_find_198 : decode cX11_find 198 = .ok (.iaload, 1) := by decide +kernel
theorem dX11_find_199 : decode cX11_find 199 = .ok (.iastore, 1) := by decide +kernel
theorem dX11_find_200 : decode cX11_find 200 = .ok (.aload_n 0, 1) := by decide +kernel
theorem dX11_find_201 : decode cX11_find 201 = .ok (.getfield 75, 3) := by decide +kernel
theorem dX11_find_204 : decode cX11_find 204 = .ok (.aload_n 0, 1) := by decide +kernel
theorem dX11_find_205 : decode cX11_find 205 = .ok (.getfield 205, 3) := by decide +kernel
theorem dX11_find_208 : decode cX11_find 208 = .ok (.aload_n 0, 1) := by decide +kernel
theorem dX11_find_209 : decode cX11_find 209 = .ok (.getfield 60, 3) := by decide +kernel
theorem dX11_find_212 : decode cX11_find 212 = .ok (.aload_n 0, 1) := by decide +kernel
theorem dX11_find_213 : decode cX11_find 213 = .ok (.getfield 172, 3) := by decide +kernel
theorem dX11_find_216 : decode cX11_find 216 = .ok (.iaload, 1) := by decide +kernel
theorem dX11_find_217 : decode cX11_find 217 = .ok (.iastore, 1) := by decide +kernel
theorem dX11_find_218 : decode cX11_find 218 = .ok (.aload_n 0, 1) := by decide +kernel
theorem dX11_find_219 : decode cX11_find 219 = .ok (.dup, 1) := by decide +kernel
theorem dX11_find_220 : decode cX11_find 220 = .ok (.getfield 205, 3) := by decide +kernel
theorem dX11_find_223 : decode cX11_find 223 = .ok (.iconst 1, 1) := by decide +kernel
theorem dX11_find_224 : decode cX11_find 224 = .ok (.iadd, 1) := by decide +kernel
theorem dX11_find_225 : decode cX11_find 225 = .ok (.putfield 205, 3) := by decide +kernel
theorem dX11_find_228 : decode cX11_find 228 = .ok (.iinc 4 1, 3) := by decide +kernel
theorem dX11_find_231 : decode cX11_find 231 = .ok (.goto (-91), 3) := by decide +kernel
theorem dX11_find_234 : decode cX11_find 234 = .ok (.aload_n 0, 1) := by decide +kernel
theorem dX11_find_235 : decode cX11_find 235 = .ok (.getfield 205, 3) := by decide +kernel
theorem dX11_find_238 : decode cX11_find 238 = .ok (.ireturn, 1) := by decide +kernel
theorem dX11_findSteps_0 : decode cX11_findSteps 0 = .ok (.aload_n 0, 1) := by decide +kernel
theorem dX11_findSteps_1 : decode cX11_findSteps 1 = .ok (.aload_n 0, 1) := by decide +kernel
theorem dX11_findSteps_2 : decode cX11_findSteps 2 = .ok (.getfield 211, 3) := by decide +kernel
theorem dX11_findSteps_5 : decode cX11_findSteps 5 = .ok (.putfield 172, 3) := by decide +kernel
theorem dX11_findSteps_8 : decode cX11_findSteps 8 = .ok (.aload_n 0, 1) := by decide +kernel
theorem dX11_findSteps_9 : decode cX11_findSteps 9 = .ok (.aload_n 0, 1) := by decide +kernel
theorem dX11_findSteps_10 : decode cX11_findSteps 10 = .ok (.getfield 208, 3) := by decide +kernel
theorem dX11_findSteps_13 : decode cX11_findSteps 13 = .ok (.putfield 185, 3) := by decide +kernel
theorem dX11_findSteps_16 : decode cX11_findSteps 16 = .ok (.iconst 0, 1) := by decide +kernel
theorem dX11_findSteps_17 : decode cX11_findSteps 17 = .ok (.istore_n 2, 1) := by decide +kernel
theorem dX11_findSteps_18 : decode cX11_findSteps 18 = .ok (.iload_n 2, 1) := by decide +kernel
theorem dX11_findSteps_19 : decode cX11_findSteps 19 = .ok (.aload_n 0, 1) := by decide +kernel
theorem dX11_findSteps_20 : decode cX11_findSteps 20 = .ok (.getfield 172, 3) := by decide +kernel
theorem dX11_findSteps_23 : decode cX11_findSteps 23 = .ok (.if_icmp .ge 33, 3) := by decide +kernel
theorem dX11_findSteps_26 : decode cX11_findSteps 26 = .ok (.aload_n 0, 1) := by decide +kernel
theorem dX11_findSteps_27 : decode cX11_findSteps 27 = .ok (.getfield 42, 3) := by decide +kernel
theorem dX11_findSteps_30 : decode cX11_findSteps 30 = .ok (.iload_n 2, 1) := by decide +kernel
theorem dX11_findSteps_31 : decode cX11_findSteps 31 = .ok (.aload_n 0, 1) := by decide +kernel
theorem dX11_findSteps_32 : decode cX11_findSteps 32 = .ok (.getfield 81, 3) := by decide +kernel
theorem dX11_findSteps_35 : decode cX11_findSteps 35 = .ok (.iload_n 2, 1) := by decide +kernel
theorem dX11_findSteps_36 : decode cX11_findSteps 36 = .ok (.laload, 1) := by decide +kernel
theorem dX11_findSteps_37 : decode cX11_findSteps 37 = .ok (.lastore, 1) := by decide +kernel
theorem dX11_findSteps_38 : decode cX11_findSteps 38 = .ok (.aload_n 0, 1) := by decide +kernel
theorem dX11_findSteps_39 : decode cX11_findSteps 39 = .ok (.getfield 45, 3) := by decide +kernel
theorem dX11_findSteps_42 : decode cX11_findSteps 42 = .ok (.iload_n 2, 1) := by decide +kernel
theorem dX11_findSteps_43 : decode cX11_findSteps 43 = .ok (.aload_n 0, 1) := by decide +kernel
theorem dX11_findSteps_44 : decode cX11_findSteps 44 = .ok (.getfield 84, 3) := by decide +kernel
theorem dX11_findSteps_47 : decode cX11_findSteps 47 = .ok (.iload_n 2, 1) := by decide +kernel
theorem dX11_findSteps_48 : decode cX11_findSteps 48 = .ok (.laload, 1) := by decide +kernel
theorem dX11_findSteps_49 : decode cX11_findSteps 49 = .ok (.lastore, 1) := by decide +kernel
theorem dX11_findSteps_50 : decode cX11_findSteps 50 = .ok (.iinc 2 1, 3) := by decide +kernel
theorem dX11_findSteps_53 : decode cX11_findSteps 53 = .ok (.goto (-35), 3) := by decide +kernel
theorem dX11_findSteps_56 : decode cX11_findSteps 56 = .ok (.aload_n 0, 1) := by decide +kernel
theorem dX11_findSteps_57 : decode cX11_findSteps 57 = .ok (.aload_n 0, 1) := by decide +kernel
theorem dX11_findSteps_58 : decode cX11_findSteps 58 = .ok (.getfield 69, 3) := by decide +kernel
theorem dX11_findSteps_61 : decode cX11_findSteps 61 = .ok (.iload_n 1, 1) := by decide +kernel
theorem dX11_findSteps_62 : decode cX11_findSteps 62 = .ok (.iaload, 1) := by decide +kernel
theorem dX11_findSteps_63 : decode cX11_findSteps 63 = .ok (.aload_n 0, 1) := by decide +kernel
theorem dX11_findSteps_64 : decode cX11_findSteps 64 = .ok (.getfield 75, 3) := by decide +kernel
theorem dX11_findSteps_67 : decode cX11_findSteps 67 = .ok (.iload_n 1, 1) := by decide +kernel
theorem dX11_findSteps_68 : decode cX11_findSteps 68 = .ok (.iaload, 1) := by decide +kernel
theorem dX11_findSteps_69 : decode cX11_findSteps 69 = .ok (.isub, 1) := by decide +kernel
theorem dX11_findSteps_70 : decode cX11_findSteps 70 = .ok (.putfield 175, 3) := by decide +kernel
theorem dX11_findSteps_73 : decode cX11_findSteps 73 = .ok (.iconst 0, 1) := by decide +kernel
theorem dX11_findSteps_74 : decode cX11_findSteps 74 = .ok (.istore_n 2, 1) := by decide +kernel
theorem dX11_findSteps_75 : decode cX11_findSteps 75 = .ok (.iload_n 2, 1) := by decide +kernel
theorem dX11_findSteps_76 : decode cX11_findSteps 76 = .ok (.aload_n 0, 1) := by decide +kernel
theorem dX11_findSteps_77 : decode cX11_findSteps 77 = .ok (.getfield 175, 3) := by decide +kernel
theorem dX11_findSteps_80 : decode cX11_findSteps 80 = .ok (.if_icmp .ge 28, 3) := by decide +kernel
theorem dX11_findSteps_83 : decode cX11_findSteps 83 = .ok (.aload_n 0, 1) := by decide +kernel
theorem dX11_findSteps_84 : decode cX11_findSteps 84 = .ok (.getfield 48, 3) := by decide +kernel
theorem dX11_findSteps_87 : decode cX11_findSteps 87 = .ok (.iload_n 2, 1) := by decide +kernel
theorem dX11_findSteps_88 : decode cX11_findSteps 88 = .ok (.aload_n 0, 1) := by decide +kernel
theorem dX11_findSteps_89 : decode cX11_findSteps 89 = .ok (.getfield 78, 3) := by decide +kernel
theorem dX11_findSteps_92 : decode cX11_findSteps 92 = .ok (.aload_n 0, 1) := by decide +kernel
theorem dX11_findSteps_93 : decode cX11_findSteps 93 = .ok (.getfield 75, 3) := by decide +kernel
theorem dX11_findSteps_96 : decode cX11_findSteps 96 = .ok (.iload_n 1, 1) := by decide +kernel
theorem dX11_findSteps_97 : decode cX11_findSteps 97 = .ok (.iaload, 1) := by decide +kernel
theorem dX11_findSteps_98 : decode cX11_findSteps 98 = .ok (.iload_n 2, 1) := by decide +kernel
theorem dX11_findSteps_99 : decode cX11_findSteps 99 = .ok (.iadd, 1) := by decide +kernel
theorem dX11_findSteps_100 : decode cX11_findSteps 100 = .ok (.iaload, 1) := by decide +kernel
theorem dX11_findSteps_101 : decode cX11_findSteps 101 = .ok (.iastore, 1) := by decide +kernel
theorem dX11_findSteps_102 : decode cX11_findSteps 102 = .ok (.iinc 2 1, 3) := by decide +kernel
theorem dX11_findSteps_105 : decode cX11_findSteps 105 = .ok (.goto (-30), 3) := by decide +kernel
theorem dX11_findSteps_108 : decode cX11_findSteps 108 = .ok (.aload_n 0, 1) := by decide +kernel
theorem dX11_findSteps_109 : decode cX11_findSteps 109 = .ok (.invokevirtual 189, 3) := by decide +kernel
theorem dX11_findSteps_112 : decode cX11_findSteps 112 = .ok (.iconst 0, 1) := by decide +kernel
theorem dX11_findSteps_113 : decode cX11_findSteps 113 = .ok (.istore_n 2, 1) := by decide +kernel
theorem dX11_findSteps_114 : decode cX11_findSteps 114 = .ok (.iload_n 2, 1) := by decide +kernel
theorem dX11_findSteps_115 : decode cX11_findSteps 115 = .ok (.aload_n 0, 1) := by decide +kernel
theorem dX11_findSteps_116 : decode cX11_findSteps 116 = .ok (.getfield 172, 3) := by decide +kernel
theorem dX11_findSteps_119 : decode cX11_findSteps 119 = .ok (.if_icmp .gt 25, 3) := by decide +kernel
theorem dX11_findSteps_122 : decode cX11_findSteps 122 = .ok (.aload_n 0, 1) := by decide +kernel
theorem dX11_findSteps_123 : decode cX11_findSteps 123 = .ok (.getfield 88, 3) := by decide +kernel
theorem dX11_findSteps_126 : decode cX11_findSteps 126 = .ok (.sipush 401, 3) := by decide +kernel
theorem dX11_findSteps_129 : decode cX11_findSteps 129 = .ok (.iload_n 2, 1) := by decide +kernel
theorem dX11_findSteps_130 : decode cX11_findSteps 130 = .ok (.imul, 1) := by decide +kernel
theorem dX11_findSteps_131 : decode cX11_findSteps 131 = .ok (.aload_n 0, 1) := by decide +kernel
theorem dX11_findSteps_132 : decode cX11_findSteps 132 = .ok (.getfield 51, 3) := by decide +kernel
theorem dX11_findSteps_135 : decode cX11_findSteps 135 = .ok (.iload_n 2, 1) := by decide +kernel
theorem dX11_findSteps_136 : decode cX11_findSteps 136 = .ok (.iaload, 1) := by decide +kernel
theorem dX11_findSteps_137 : decode cX11_findSteps 137 = .ok (.iastore, 1) := by decide +kernel
theorem dX11_findSteps_138 : decode cX11_findSteps 138 = .ok (.iinc 2 1, 3) := by decide +kernel
theorem dX11_findSteps_141 : decode cX11_findSteps 141 = .ok (.goto (-27), 3) := by decide +kernel
theorem dX11_findSteps_144 : decode cX11_findSteps 144 = .ok (.iconst 0, 1) := by decide +kernel
theorem dX11_findSteps_145 : decode cX11_findSteps 145 = .ok (.istore_n 2, 1) := by decide +kernel
theorem dX11_findSteps_146 : decode cX11_findSteps 146 = .ok (.iload_n 2, 1) := by decide +kernel
theorem dX11_findSteps_147 : decode cX11_findSteps 147 = .ok (.aload_n 0, 1) := by decide +kernel
theorem dX11_findSteps_148 : decode cX11_findSteps 148 = .ok (.getfield 175, 3) := by decide +kernel
theorem dX11_findSteps_151 : decode cX11_findSteps 151 = .ok (.if_icmp .ge 51, 3) := by decide +kernel
theorem dX11_findSteps_154 : decode cX11_findSteps 154 = .ok (.aload_n 0, 1) := by decide +kernel
theorem dX11_findSteps_155 : decode cX11_findSteps 155 = .ok (.iload_n 2, 1) := by decide +kernel
theorem dX11_findSteps_156 : decode cX11_findSteps 156 = .ok (.iconst 0, 1) := by decide +kernel
theorem dX11_findSteps_157 : decode cX11_findSteps 157 = .ok (.invokevirtual 192, 3) := by decide +kernel
theorem dX11_findSteps_160 : decode cX11_findSteps 160 = .ok (.iconst 0, 1) := by decide +kernel
theorem dX11_findSteps_161 : decode cX11_findSteps 161 = .ok (.istore_n 3, 1) := by decide +kernel
theorem dX11_findSteps_162 : decode cX11_findSteps 162 = .ok (.iload_n 3, 1) := by decide +kernel
theorem dX11_findSteps_163 : decode cX11_findSteps 163 = .ok (.aload_n 0, 1) := by decide +kernel
theorem dX11_findSteps_164 : decode cX11_findSteps 164 = .ok (.getfield 172, 3) := by decide +kernel
theorem dX11_findSteps_167 : decode cX11_findSteps 167 = .ok (.if_icmp .gt 29, 3) := by decide +kernel
theorem dX11_findSteps_170 : decode cX11_findSteps 170 = .ok (.aload_n 0, 1) := by decide +kernel
theorem dX11_findSteps_171 : decode cX11_findSteps 171 = .ok (.getfield 88, 3) := by decide +kernel
theorem dX11_findSteps_174 : decode cX11_findSteps 174 = .ok (.sipush 401, 3) := by decide +kernel
theorem dX11_findSteps_177 : decode cX11_findSteps 177 = .ok (.iload_n 3, 1) := by decide +kernel
theorem dX11_findSteps_178 : decode cX11_findSteps 178 = .ok (.imul, 1) := by decide +kernel
theorem dX11_findSteps_179 : decode cX11_findSteps 179 = .ok (.iload_n 2, 1) := by decide +kernel
theorem dX11_findSteps_180 : decode cX11_findSteps 180 = .ok (.iadd, 1) := by decide +kernel
theorem dX11_findSteps_181 : decode cX11_findSteps 181 = .ok (.iconst 1, 1) := by decide +kernel
theorem dX11_findSteps_182 : decode cX11_findSteps 182 = .ok (.iadd, 1) := by decide +kernel
theorem dX11_findSteps_183 : decode cX11_findSteps 183 = .ok (.aload_n 0, 1) := by decide +kernel
theorem dX11_findSteps_184 : decode cX11_findSteps 184 = .ok (.getfield 51, 3) := by decide +kernel
theorem dX11_findSteps_187 : decode cX11_findSteps 187 = .ok (.iload_n 3, 1) := by decide +kernel
theorem dX11_findSteps_188 : decode cX11_findSteps 188 = .ok (.iaload, 1) := by decide +kernel
theorem dX11_findSteps_189 : decode cX11_findSteps 189 = .ok (.iastore, 1) := by decide +kernel
theorem dX11_findSteps_190 : decode cX11_findSteps 190 = .ok (.iinc 3 1, 3) := by decide +kernel
theorem dX11_findSteps_193 : decode cX11_findSteps 193 = .ok (.goto (-31), 3) := by decide +kernel
theorem dX11_findSteps_196 : decode cX11_findSteps 196 = .ok (.iinc 2 1, 3) := by decide +kernel
theorem dX11_findSteps_199 : decode cX11_findSteps 199 = .ok (.goto (-53), 3) := by decide +kernel
theorem dX11_findSteps_202 : decode cX11_findSteps 202 = .ok (.aload_n 0, 1) := by decide +kernel
theorem dX11_findSteps_203 : decode cX11_findSteps 203 = .ok (.iconst 0, 1) := by decide +kernel
theorem dX11_findSteps_204 : decode cX11_findSteps 204 = .ok (.putfield 214, 3) := by decide +kernel
theorem dX11_findSteps_207 : decode cX11_findSteps 207 = .ok (.aload_n 0, 1) := by decide +kernel
theorem dX11_findSteps_208 : decode cX11_findSteps 208 = .ok (.getfield 172, 3) := by decide +kernel
theorem dX11_findSteps_211 : decode cX11_findSteps 211 = .ok (.istore_n 2, 1) := by decide +kernel
theorem dX11_findSteps_212 : decode cX11_findSteps 212 = .ok (.aload_n 0, 1) := by decide +kernel
theorem dX11_findSteps_213 : decode cX11_findSteps 213 = .ok (.getfield 175, 3) := by decide +kernel
theorem dX11_findSteps_216 : decode cX11_findSteps 216 = .ok (.istore_n 3, 1) := by decide +kernel
theorem dX11_findSteps_217 : decode cX11_findSteps 217 = .ok (.iload_n 2, 1) := by decide +kernel
theorem dX11_findSteps_218 : decode cX11_findSteps 218 = .ok (.ifCond .gt 7, 3) := by decide +kernel
theorem dX11_findSteps_221 : decode cX11_findSteps 221 = .ok (.iload_n 3, 1) := by decide +kernel
theorem dX11_findSteps_222 : decode cX11_findSteps 222 = .ok (.ifCond .le 256, 3) := by decide +kernel
theorem dX11_findSteps_225 : decode cX11_findSteps 225 = .ok (.aload_n 0, 1) := by decide +kernel
theorem dX11_findSteps_226 : decode cX11_findSteps 226 = .ok (.getfield 88, 3) := by decide +kernel
theorem dX11_findSteps_229 : decode cX11_findSteps 229 = .ok (.sipush 401, 3) := by decide +kernel
theorem dX11_findSteps_232 : decode cX11_findSteps 232 = .ok (.iload_n 2, 1) := by decide +kernel
theorem dX11_findSteps_233 : decode cX11_findSteps 233 = .ok (.imul, 1) := by decide +kernel
theorem dX11_findSteps_234 : decode cX11_findSteps 234 = .ok (.iload_n 3, 1) := by decide +kernel
theorem dX11_findSteps_235 : decode cX11_findSteps 235 = .ok (.iadd, 1) := by decide +kernel
theorem dX11_findSteps_236 : decode cX11_findSteps 236 = .ok (.iaload, 1) := by decide +kernel
theorem dX11_findSteps_237 : decode cX11_findSteps 237 = .ok (.istore 4, 2) := by decide +kernel
theorem dX11_findSteps_239 : decode cX11_findSteps 239 = .ok (.iload_n 2, 1) := by decide +kernel
theorem dX11_findSteps_240 : decode cX11_findSteps 240 = .ok (.ifCond .le 86, 3) := by decide +kernel
theorem dX11_findSteps_243 : decode cX11_findSteps 243 = .ok (.iload_n 3, 1) := by decide +kernel
theorem dX11_findSteps_244 : decode cX11_findSteps 244 = .ok (.ifCond .le 82, 3) := by decide +kernel
theorem dX11_findSteps_247 : decode cX11_findSteps 247 = .ok (.aload_n 0, 1) := by decide +kernel
theorem dX11_findSteps_248 : decode cX11_findSteps 248 = .ok (.getfield 88, 3) := by decide +kernel
theorem dX11_findSteps_251 : decode cX11_findSteps 251 = .ok (.sipush 401, 3) := by decide +kernel
theorem dX11_findSteps_254 : decode cX11_findSteps 254 = .ok (.iload_n 2, 1) := by decide +kernel
theorem dX11_findSteps_255 : decode cX11_findSteps 255 = .ok (.iconst 1, 1) := by decide +kernel
theorem dX11_findSteps_256 : decode cX11_findSteps 256 = .ok (.isub, 1) := by decide +kernel
theorem dX11_findSteps_257 : decode cX11_findSteps 257 = .ok (.imul, 1) := by decide +kernel
theorem dX11_findSteps_258 : decode cX11_findSteps 258 = .ok (.iload_n 3, 1) := by decide +kernel
theorem dX11_findSteps_259 : decode cX11_findSteps 259 = .ok (.iadd, 1) := by decide +kernel
theorem dX11_findSteps_260 : decode cX11_findSteps 260 = .ok (.iconst 1, 1) := by decide +kernel
theorem dX11_findSteps_261 : decode cX11_findSteps 261 = .ok (.isub, 1) := by decide +kernel
theorem dX11_findSteps_262 : decode cX11_findSteps 262 = .ok (.iaload, 1) := by decide +kernel
theorem dX11_findSteps_263 : decode cX11_findSteps 263 = .ok (.aload_n 0, 1) := by decide +kernel
theorem dX11_findSteps_264 : decode cX11_findSteps 264 = .ok (.iload_n 2, 1) := by decide +kernel
theorem dX11_findSteps_265 : decode cX11_findSteps 265 = .ok (.iconst 1, 1) := by decide +kernel
theorem dX11_findSteps_266 : decode cX11_findSteps 266 = .ok (.isub, 1) := by decide +kernel
theorem dX11_findSteps_267 : decode cX11_findSteps 267 = .ok (.aload_n 0, 1) := by decide +kernel
theorem dX11_findSteps_268 : decode cX11_findSteps 268 = .ok (.getfield 48, 3) := by decide +kernel
theorem dX11_findSteps_271 : decode cX11_findSteps 271 = .ok (.iload_n 3, 1) := by decide +kernel
theorem dX11_findSteps_272 : decode cX11_findSteps 272 = .ok (.iconst 1, 1) := by decide +kernel
theorem dX11_findSteps_273 : decode cX11_findSteps 273 = .ok (.isub, 1) := by decide +kernel
theorem dX11_findSteps_274 : decode cX11_findSteps 274 = .ok (.iaload, 1) := by decide +kernel
theorem dX11_findSteps_275 : decode cX11_findSteps 275 = .ok (.invokevirtual 178, 3) := by decide +kernel
theorem dX11_findSteps_278 : decode cX11_findSteps 278 = .ok (.ifCond .eq 7, 3) := by decide +kernel
theorem dX11_findSteps_281 : decode cX11_findSteps 281 = .ok (.iconst 0, 1) := by decide +kernel
theorem dX11_findSteps_282 : decode cX11_findSteps 282 = .ok (.goto 4, 3) := by decide +kernel
theorem dX11_findSteps_285 : decode cX11_findSteps 285 = .ok (.iconst 1, 1) := by decide +kernel
theorem dX11_findSteps_286 : decode cX11_findSteps 286 = .ok (.iadd, 1) := by decide +kernel
theorem dX11_findSteps_287 : decode cX11_findSteps 287 = .ok (.iload 4, 2) := by decide +kernel
theorem dX11_findSteps_289 : decode cX11_findSteps 289 = .ok (.if_icmp .ne 37, 3) := by decide +kernel
theorem dX11_findSteps_292 : decode cX11_findSteps 292 = .ok (.aload_n 0, 1) := by decide +kernel
theorem dX11_findSteps_293 : decode cX11_findSteps 293 = .ok (.iload_n 2, 1) := by decide +kernel
theorem dX11_findSteps_294 : decode cX11_findSteps 294 = .ok (.iconst 1, 1) := by decide +kernel
theorem dX11_findSteps_295 : decode cX11_findSteps 295 = .ok (.isub, 1) := by decide +kernel
theorem dX11_findSteps_296 : decode cX11_findSteps 296 = .ok (.aload_n 0, 1) := by decide +kernel
theorem dX11_findSteps_297 : decode cX11_findSteps 297 = .ok (.getfield 48, 3) := by decide +kernel
theorem dX11_findSteps_300 : decode cX11_findSteps 300 = .ok (.iload_n 3, 1) := by decide +kernel
theorem dX11_findSteps_301 : decode cX11_findSteps 301 = .ok (.iconst 1, 1) := by decide +kernel
theorem dX11_findSteps_302 : decode cX11_findSteps 302 = .ok (.isub, 1) := by decide +kernel
theorem dX11_findSteps_303 : decode cX11_findSteps 303 = .ok (.iaload, 1) := by decide +kernel
theorem dX11_findSteps_304 : decode cX11_findSteps 304 = .ok (.invokevirtual 178, 3) := by decide +kernel
theorem dX11_findSteps_307 : decode cX11_findSteps 307 = .ok (.ifCond .eq 7, 3) := by decide +kernel
theorem dX11_findSteps_310 : decode cX11_findSteps 310 = .ok (.iconst 0, 1) := by decide +kernel
theorem dX11_findSteps_311 : decode cX11_findSteps 311 = .ok (.goto 4, 3) := by decide +kernel
theorem dX11_findSteps_314 : decode cX11_findSteps 314 = .ok (.iconst 1, 1) := by decide +kernel
theorem dX11_findSteps_315 : decode cX11_findSteps 315 = .ok (.istore 5, 2) := by decide +kernel
theorem dX11_findSteps_317 : decode cX11_findSteps 317 = .ok (.iinc 2 (-1), 3) := by decide +kernel
theorem dX11_findSteps_320 : decode cX11_findSteps 320 = .ok (.iinc 3 (-1), 3) := by decide +kernel
theorem dX11_findSteps_323 : decode cX11_findSteps 323 = .ok (.goto 131, 3) := by decide +kernel
theorem dX11_findSteps_326 : decode cX11_findSteps 326 = .ok (.aload_n 0, 1) := by decide +kernel
theorem dX11_findSteps_327 : decode cX11_findSteps 327 = .ok (.getfield 185, 3) := by decide +kernel
theorem dX11_findSteps_330 : decode cX11_findSteps 330 = .ok (.ifCond .eq 84, 3) := by decide +kernel
theorem dX11_findSteps_333 : decode cX11_findSteps 333 = .ok (.iload_n 2, 1) := by decide +kernel
theorem dX11_findSteps_334 : decode cX11_findSteps 334 = .ok (.iconst 1, 1) := by decide +kernel
theorem dX11_findSteps_335 : decode cX11_findSteps 335 = .ok (.if_icmp .le 79, 3) := by decide +kernel
theorem dX11_findSteps_338 : decode cX11_findSteps 338 = .ok (.iload_n 3, 1) := by decide +kernel
theorem dX11_findSteps_339 : decode cX11_findSteps 339 = .ok (.iconst 1, 1) := by decide +kernel
theorem dX11_findSteps_340 : decode cX11_findSteps 340 = .ok (.if_icmp .le 74, 3) := by decide +kernel
theorem dX11_findSteps_343 : decode cX11_findSteps 343 = .ok (.aload_n 0, 1) := by decide +kernel
theorem dX11_findSteps_344 : decode cX11_findSteps 344 = .ok (.iload_n 2, 1) := by decide +kernel
theorem dX11_findSteps_345 : decode cX11_findSteps 345 = .ok (.iconst 2, 1) := by decide +kernel
theorem dX11_findSteps_346 : decode cX11_findSteps 346 = .ok (.isub, 1) := by decide +kernel
theorem dX11_findSteps_347 : decode cX11_findSteps 347 = .ok (.aload_n 0, 1) := by decide +kernel
theorem dX11_findSteps_348 : decode cX11_findSteps 348 = .ok (.getfield 48, 3) := by decide +kernel
theorem dX11_findSteps_351 : decode cX11_findSteps 351 = .ok (.iload_n 3, 1) := by decide +kernel
theorem dX11_findSteps_352 : decode cX11_findSteps 352 = .ok (.iconst 1, 1) := by decide +kernel
theorem dX11_findSteps_353 : decode cX11_findSteps 353 = .ok (.isub, 1) := by decide +kernel
theorem dX11_findSteps_354 : decode cX11_findSteps 354 = .ok (.iaload, 1) := by decide +kernel
theorem dX11_findSteps_355 : decode cX11_findSteps 355 = .ok (.invokevirtual 178, 3) := by decide +kernel
theorem dX11_findSteps_358 : decode cX11_findSteps 358 = .ok (.ifCond .eq 56, 3) := by decide +kernel
theorem dX11_findSteps_361 : decode cX11_findSteps 361 = .ok (.aload_n 0, 1) := by decide +kernel
theorem dX11_findSteps_362 : decode cX11_findSteps 362 = .ok (.iload_n 2, 1) := by decide +kernel
theorem dX11_findSteps_363 : decode cX11_findSteps 363 = .ok (.iconst 1, 1) := by decide +kernel
theorem dX11_findSteps_364 : decode cX11_findSteps 364 = .ok (.isub, 1) := by decide +kernel
theorem dX11_findSteps_365 : decode cX11_findSteps 365 = .ok (.aload_n 0, 1) := by decide +kernel
theorem dX11_findSteps_366 : decode cX11_findSteps 366 = .ok (.getfield 48, 3) := by decide +kernel
theorem dX11_findSteps_369 : decode cX11_findSteps 369 = .ok (.iload_n 3, 1) := by decide +kernel
theorem dX11_findSteps_370 : decode cX11_findSteps 370 = .ok (.iconst 2, 1) := by decide +kernel
theorem dX11_findSteps_371 : decode cX11_findSteps 371 = .ok (.isub, 1) := by decide +kernel
theorem dX11_findSteps_372 : decode cX11_findSteps 372 = .ok (.iaload, 1) := by decide +kernel
theorem dX11_findSteps_373 : decode cX11_findSteps 373 = .ok (.invokevirtual 178, 3) := by decide +kernel
theorem dX11_findSteps_376 : decode cX11_findSteps 376 = .ok (.ifCond .eq 38, 3) := by decide +kernel
theorem dX11_findSteps_379 : decode cX11_findSteps 379 = .ok (.aload_n 0, 1) := by decide +kernel
theorem dX11_findSteps_380 : decode cX11_findSteps 380 = .ok (.getfield 88, 3) := by decide +kernel
theorem dX11_findSteps_383 : decode cX11_findSteps 383 = .ok (.sipush 401, 3) := by decide +kernel
theorem dX11_findSteps_386 : decode cX11_findSteps 386 = .ok (.iload_n 2, 1) := by decide +kernel
theorem dX11_findSteps_387 : decode cX11_findSteps 387 = .ok (.iconst 2, 1) := by decide +kernel
theorem dX11_findSteps_388 : decode cX11_findSteps 388 = .ok (.isub, 1) := by decide +kernel
theorem dX11_findSteps_389 : decode cX11_findSteps 389 = .ok (.imul, 1) := by decide +kernel
theorem dX11_findSteps_390 : decode cX11_findSteps 390 = .ok (.iload_n 3, 1) := by decide +kernel
theorem dX11_findSteps_391 : decode cX11_findSteps 391 = .ok (.iadd, 1) := by decide +kernel
theorem dX11_findSteps_392 : decode cX11_findSteps 392 = .ok (.iconst 2, 1) := by decide +kernel
theorem dX11_findSteps_393 : decode cX11_findSteps 393 = .ok (.isub, 1) := by decide +kernel
theorem dX11_findSteps_394 : decode cX11_findSteps 394 = .ok (.iaload, 1) := by decide +kernel
theorem dX11_findSteps_395 : decode cX11_findSteps 395 = .ok (.iconst 1, 1) := by decide +kernel
theorem dX11_findSteps_396 : decode cX11_findSteps 396 = .ok (.iadd, 1) := by decide +kernel
theorem dX11_findSteps_397 : decode cX11_findSteps 397 = .ok (.iload 4, 2) := by decide +kernel
theorem dX11_findSteps_399 : decode cX11_findSteps 399 = .ok (.if_icmp .ne 15, 3) := by decide +kernel
theorem dX11_findSteps_402 : decode cX11_findSteps 402 = .ok (.iconst 4, 1) := by decide +kernel
theorem dX11_findSteps_403 : decode cX11_findSteps 403 = .ok (.istore 5, 2) := by decide +kernel
theorem dX11_findSteps_405 : decode cX11_findSteps 405 = .ok (.iinc 2 (-2), 3) := by decide +kernel
theorem dX11_findSteps_408 : decode cX11_findSteps 408 = .ok (.iinc 3 (-2), 3) := by decide +kernel
theorem dX11_findSteps_411 : decode cX11_findSteps 411 = .ok (.goto 43, 3) := by decide +kernel
theorem dX11_findSteps_414 : decode cX11_findSteps 414 = .ok (.iload_n 3, 1) := by decide +kernel
theorem dX11_findSteps_415 : decode cX11_findSteps 415 = .ok (.ifCond .le 33, 3) := by decide +kernel
theorem dX11_findSteps_418 : decode cX11_findSteps 418 = .ok (.aload_n 0, 1) := by decide +kernel
theorem dX11_findSteps_419 : decode cX11_findSteps 419 = .ok (.getfield 88, 3) := by decide +kernel
theorem dX11_findSteps_422 : decode cX11_findSteps 422 = .ok (.sipush 401, 3) := by decide +kernel
theorem dX11_findSteps_425 : decode cX11_findSteps 425 = .ok (.iload_n 2, 1) := by decide +kernel
theorem dX11_findSteps_426 : decode cX11_findSteps 426 = .ok (.imul, 1) := by decide +kernel
theorem dX11_findSteps_427 : decode cX11_findSteps 427 = .ok (.iload_n 3, 1) := by decide +kernel
theorem dX11_findSteps_428 : decode cX11_findSteps 428 = .ok (.iadd, 1) := by decide +kernel
theorem dX11_findSteps_429 : decode cX11_findSteps 429 = .ok (.iconst 1, 1) := by decide +kernel
theorem dX11_findSteps_430 : decode cX11_findSteps 430 = .ok (.isub, 1) := by decide +kernel
theorem dX11_findSteps_431 : decode cX11_findSteps 431 = .ok (.iaload, 1) := by decide +kernel
theorem dX11_findSteps_432 : decode cX11_findSteps 432 = .ok (.iconst 1, 1) := by decide +kernel
theorem dX11_findSteps_433 : decode cX11_findSteps 433 = .ok (.iadd, 1) := by decide +kernel
theorem dX11_findSteps_434 : decode cX11_findSteps 434 = .ok (.iload 4, 2) := by decide +kernel
theorem dX11_findSteps_436 : decode cX11_findSteps 436 = .ok (.if_icmp .ne 12, 3) := by decide +kernel
theorem dX11_findSteps_439 : decode cX11_findSteps 439 = .ok (.iconst 2, 1) := by decide +kernel
theorem dX11_findSteps_440 : decode cX11_findSteps 440 = .ok (.istore 5, 2) := by decide +kernel
theorem dX11_findSteps_442 : decode cX11_findSteps 442 = .ok (.iinc 3 (-1), 3) := by decide +kernel
theorem dX11_findSteps_445 : decode cX11_findSteps 445 = .ok (.goto 9, 3) := by decide +kernel
theorem dX11_findSteps_448 : decode cX11_findSteps 448 = .ok (.iconst 3, 1) := by decide +kernel
theorem dX11_findSteps_449 : decode cX11_findSteps 449 = .ok (.istore 5, 2) := by decide +kernel
theorem dX11_findSteps_451 : decode cX11_findSteps 451 = .ok (.iinc 2 (-1), 3) := by decide +kernel
theorem dX11_findSteps_454 : decode cX11_findSteps 454 = .ok (.aload_n 0, 1) := by decide +kernel
theorem dX11_findSteps_455 : decode cX11_findSteps 455 = .ok (.getfield 91, 3) := by decide +kernel
theorem dX11_findSteps_458 : decode cX11_findSteps 458 = .ok (.aload_n 0, 1) := by decide +kernel
theorem dX11_findSteps_459 : decode cX11_findSteps 459 = .ok (.getfield 214, 3) := by decide +kernel
theorem dX11_findSteps_462 : decode cX11_findSteps 462 = .ok (.iload 5, 2) := by decide +kernel
theorem dX11_findSteps_464 : decode cX11_findSteps 464 = .ok (.iastore, 1) := by decide +kernel
theorem dX11_findSteps_465 : decode cX11_findSteps 465 = .ok (.aload_n 0, 1) := by decide +kernel
theorem dX11_findSteps_466 : decode cX11_findSteps 466 = .ok (.dup, 1) := by decide +kernel
theorem dX11_findSteps_467 : decode cX11_findSteps 467 = .ok (.getfield 214, 3) := by decide +kernel
theorem dX11_findSteps_470 : decode cX11_findSteps 470 = .ok (.iconst 1, 1) := by decide +kernel
theorem dX11_findSteps_471 : decode cX11_findSteps 471 = .ok (.iadd, 1) := by decide +kernel
theorem dX11_findSteps_472 : decode cX11_findSteps 472 = .ok (.putfield 214, 3) := by decide +kernel
theorem dX11_findSteps_475 : decode cX11_findSteps 475 = .ok (.goto (-258), 3) := by decide +kernel
theorem dX11_findSteps_478 : decode cX11_findSteps 478 = .ok (.return_, 1) := by decide +kernel
theorem dX11_hit_0 : decode cX11_hit 0 = .ok (.iload_n 1, 1) := by decide +kernel
theorem dX11_hit_1 : decode cX11_hit 1 = .ok (.iconst 0, 1) := by decide +kernel
theorem dX11_hit_2 : decode cX11_hit 2 = .ok (.aload_n 0, 1) := by decide +kernel
theorem dX11_hit_3 : decode cX11_hit 3 = .ok (.getfield 205, 3) := by decide +kernel
theorem dX11_hit_6 : decode cX11_hit 6 = .ok (.iconst 1, 1) := by decide +kernel
theorem dX11_hit_7 : decode cX11_hit 7 = .ok (.isub, 1) := by decide +kernel
theorem dX11_hit_8 : decode cX11_hit 8 = .ok (.invokestatic 100, 3) := by decide +kernel
theorem dX11_hit_11 : decode cX11_hit 11 = .ok (.ifCond .eq 12, 3) := by decide +kernel
theorem dX11_hit_14 : decode cX11_hit 14 = .ok (.iload_n 2, 1) := by decide +kernel
theorem dX11_hit_15 : decode cX11_hit 15 = .ok (.iconst 0, 1) := by decide +kernel
theorem dX11_hit_16 : decode cX11_hit 16 = .ok (.iconst 3, 1) := by decide +kernel
theorem dX11_hit_17 : decode cX11_hit 17 = .ok (.invokestatic 100, 3) := by decide +kernel
theorem dX11_hit_20 : decode cX11_hit 20 = .ok (.ifCond .ne 6, 3) := by decide +kernel
theorem dX11_hit_23 : decode cX11_hit 23 = .ok (.bipush (-2), 2) := by decide +kernel
theorem dX11_hit_25 : decode cX11_hit 25 = .ok (.ireturn, 1) := by decide +kernel
theorem dX11_hit_26 : decode cX11_hit 26 = .ok (.iload_n 2, 1) := by decide +kernel
theorem dX11_hit_27 : decode cX11_hit 27 = .ok (.iconst 3, 1) := by decide +kernel
theorem dX11_hit_28 : decode cX11_hit 28 = .ok (.if_icmp .ne 13, 3) := by decide +kernel
theorem dX11_hit_31 : decode cX11_hit 31 = .ok (.aload_n 0, 1) := by decide +kernel
theorem dX11_hit_32 : decode cX11_hit 32 = .ok (.iload_n 1, 1) := by decide +kernel
theorem dX11_hit_33 : decode cX11_hit 33 = .ok (.invokevirtual 217, 3) := by decide +kernel
theorem dX11_hit_36 : decode cX11_hit 36 = .ok (.aload_n 0, 1) := by decide +kernel
theorem dX11_hit_37 : decode cX11_hit 37 = .ok (.getfield 214, 3) := by decide +kernel
theorem dX11_hit_40 : decode cX11_hit 40 = .ok (.ireturn, 1) := by decide +kernel
theorem dX11_hit_41 : decode cX11_hit 41 = .ok (.iload_n 2, 1) := by decide +kernel
theorem dX11_hit_42 : decode cX11_hit 42 = .ok (.ifCond .ne 12, 3) := by decide +kernel
theorem dX11_hit_45 : decode cX11_hit 45 = .ok (.aload_n 0, 1) := by decide +kernel
theorem dX11_hit_46 : decode cX11_hit 46 = .ok (.getfield 69, 3) := by decide +kernel
theorem dX11_hit_49 : decode cX11_hit 49 = .ok (.iload_n 1, 1) := by decide +kernel
theorem dX11_hit_50 : decode cX11_hit 50 = .ok (.iaload, 1) := by decide +kernel
theorem dX11_hit_51 : decode cX11_hit 51 = .ok (.goto 23, 3) := by decide +kernel
theorem dX11_hit_54 : decode cX11_hit 54 = .ok (.iload_n 2, 1) := by decide +kernel
theorem dX11_hit_55 : decode cX11_hit 55 = .ok (.iconst 1, 1) := by decide +kernel
theorem dX11_hit_56 : decode cX11_hit 56 = .ok (.if_icmp .ne 12, 3) := by decide +kernel
theorem dX11_hit_59 : decode cX11_hit 59 = .ok (.aload_n 0, 1) := by decide +kernel
theorem dX11_hit_60 : decode cX11_hit 60 = .ok (.getfield 72, 3) := by decide +kernel
theorem dX11_hit_63 : decode cX11_hit 63 = .ok (.iload_n 1, 1) := by decide +kernel
theorem dX11_hit_64 : decode cX11_hit 64 = .ok (.iaload, 1) := by decide +kernel
theorem dX11_hit_65 : decode cX11_hit 65 = .ok (.goto 9, 3) := by decide +kernel
theorem dX11_hit_68 : decode cX11_hit 68 = .ok (.aload_n 0, 1) := by decide +kernel
theorem dX11_hit_69 : decode cX11_hit 69 = .ok (.getfield 75, 3) := by decide +kernel
theorem dX11_hit_72 : decode cX11_hit 72 = .ok (.iload_n 1, 1) := by decide +kernel
theorem dX11_hit_73 : decode cX11_hit 73 = .ok (.iaload, 1) := by decide +kernel
theorem dX11_hit_74 : decode cX11_hit 74 = .ok (.ireturn, 1) := by decide +kernel
theorem dX11_step_0 : decode cX11_step 0 = .ok (.iload_n 1, 1) := by decide +kernel
theorem dX11_step_1 : decode cX11_step 1 = .ok (.iconst 0, 1) := by decide +kernel
theorem dX11_step_2 : decode cX11_step 2 = .ok (.aload_n 0, 1) := by decide +kernel
theorem dX11_step_3 : decode cX11_step 3 = .ok (.getfield 205, 3) := by decide +kernel
theorem dX11_step_6 : decode cX11_step 6 = .ok (.iconst 1, 1) := by decide +kernel
theorem dX11_step_7 : decode cX11_step 7 = .ok (.isub, 1) := by decide +kernel
theorem dX11_step_8 : decode cX11_step 8 = .ok (.invokestatic 100, 3) := by decide +kernel
theorem dX11_step_11 : decode cX11_step 11 = .ok (.ifCond .ne 6, 3) := by decide +kernel
theorem dX11_step_14 : decode cX11_step 14 = .ok (.bipush (-2), 2) := by decide +kernel
theorem dX11_step_16 : decode cX11_step 16 = .ok (.ireturn, 1) := by decide +kernel
theorem dX11_step_17 : decode cX11_step 17 = .ok (.aload_n 0, 1) := by decide +kernel
theorem dX11_step_18 : decode cX11_step 18 = .ok (.iload_n 1, 1) := by decide +kernel
theorem dX11_step_19 : decode cX11_step 19 = .ok (.invokevirtual 217, 3) := by decide +kernel
theorem dX11_step_22 : decode cX11_step 22 = .ok (.iload_n 2, 1) := by decide +kernel
theorem dX11_step_23 : decode cX11_step 23 = .ok (.iconst 0, 1) := by decide +kernel
theorem dX11_step_24 : decode cX11_step 24 = .ok (.aload_n 0, 1) := by decide +kernel
theorem dX11_step_25 : decode cX11_step 25 = .ok (.getfield 214, 3) := by decide +kernel
theorem dX11_step_28 : decode cX11_step 28 = .ok (.iconst 1, 1) := by decide +kernel
theorem dX11_step_29 : decode cX11_step 29 = .ok (.isub, 1) := by decide +kernel
theorem dX11_step_30 : decode cX11_step 30 = .ok (.invokestatic 100, 3) := by decide +kernel
theorem dX11_step_33 : decode cX11_step 33 = .ok (.ifCond .eq 19, 3) := by decide +kernel
theorem dX11_step_36 : decode cX11_step 36 = .ok (.aload_n 0, 1) := by decide +kernel
theorem dX11_step_37 : decode cX11_step 37 = .ok (.getfield 91, 3) := by decide +kernel
theorem dX11_step_40 : decode cX11_step 40 = .ok (.aload_n 0, 1) := by decide +kernel
theorem dX11_step_41 : decode cX11_step 41 = .ok (.getfield 214, 3) := by decide +kernel
theorem dX11_step_44 : decode cX11_step 44 = .ok (.iconst 1, 1) := by decide +kernel
theorem dX11_step_45 : decode cX11_step 45 = .ok (.isub, 1) := by decide +kernel
theorem dX11_step_46 : decode cX11_step 46 = .ok (.iload_n 2, 1) := by decide +kernel
theorem dX11_step_47 : decode cX11_step 47 = .ok (.isub, 1) := by decide +kernel
theorem dX11_step_48 : decode cX11_step 48 = .ok (.iaload, 1) := by decide +kernel
theorem dX11_step_49 : decode cX11_step 49 = .ok (.goto 4, 3) := by decide +kernel
theorem dX11_step_52 : decode cX11_step 52 = .ok (.iconst (-1), 1) := by decide +kernel
theorem dX11_step_53 : decode cX11_step 53 = .ok (.ireturn, 1) := by decide +kernel
theorem dX11_nearest_0 : decode cX11_nearest 0 = .ok (.aload_n 0, 1) := by decide +kernel
theorem dX11_nearest_1 : decode cX11_nearest 1 = .ok (.iload_n 1, 1) := by decide +kernel
theorem dX11_nearest_2 : decode cX11_nearest 2 = .ok (.invokevirtual 156, 3) := by decide +kernel
theorem dX11_nearest_5 : decode cX11_nearest 5 = .ok (.ifCond .eq 12, 3) := by decide +kernel
theorem dX11_nearest_8 : decode cX11_nearest 8 = .ok (.iload_n 3, 1) := by decide +kernel
theorem dX11_nearest_9 : decode cX11_nearest 9 = .ok (.iconst 0, 1) := by decide +kernel
theorem dX11_nearest_10 : decode cX11_nearest 10 = .ok (.iconst 1, 1) := by decide +kernel
theorem dX11_nearest_11 : decode cX11_nearest 11 = .ok (.invokestatic 100, 3) := by decide +kernel
theorem dX11_nearest_14 : decode cX11_nearest 14 = .ok (.ifCond .ne 6, 3) := by decide +kernel
theorem dX11_nearest_17 : decode cX11_nearest 17 = .ok (.bipush (-2), 2) := by decide +kernel
theorem dX11_nearest_19 : decode cX11_nearest 19 = .ok (.ireturn, 1) := by decide +kernel
theorem dX11_nearest_20 : decode cX11_nearest 20 = .ok (.aload_n 0, 1) := by decide +kernel
theorem dX11_nearest_21 : decode cX11_nearest 21 = .ok (.getfield 162, 3) := by decide +kernel
theorem dX11_nearest_24 : decode cX11_nearest 24 = .ok (.ifCond .ne 5, 3) := by decide +kernel
theorem dX11_nearest_27 : decode cX11_nearest 27 = .ok (.iconst (-1), 1) := by decide +kernel
theorem dX11_nearest_28 : decode cX11_nearest 28 = .ok (.ireturn, 1) := by decide +kernel
theorem dX11_nearest_29 : decode cX11_nearest 29 = .ok (.aload_n 0, 1) := by decide +kernel
theorem dX11_nearest_30 : decode cX11_nearest 30 = .ok (.iload_n 1, 1) := by decide +kernel
theorem dX11_nearest_31 : decode cX11_nearest 31 = .ok (.invokevirtual 199, 3) := by decide +kernel
theorem dX11_nearest_34 : decode cX11_nearest 34 = .ok (.aload_n 0, 1) := by decide +kernel
theorem dX11_nearest_35 : decode cX11_nearest 35 = .ok (.iconst 0, 1) := by decide +kernel
theorem dX11_nearest_36 : decode cX11_nearest 36 = .ok (.aload_n 0, 1) := by decide +kernel
theorem dX11_nearest_37 : decode cX11_nearest 37 = .ok (.getfield 162, 3) := by decide +kernel
theorem dX11_nearest_40 : decode cX11_nearest 40 = .ok (.invokevirtual 202, 3) := by decide +kernel
theorem dX11_nearest_43 : decode cX11_nearest 43 = .ok (.aload_n 0, 1) := by decide +kernel
theorem dX11_nearest_44 : decode cX11_nearest 44 = .ok (.iload_n 2, 1) := by decide +kernel
theorem dX11_nearest_45 : decode cX11_nearest 45 = .ok (.putfield 185, 3) := by decide +kernel
theorem dX11_nearest_48 : decode cX11_nearest 48 = .ok (.sipush 10000, 3) := by decide +kernel
theorem dX11_nearest_51 : decode cX11_nearest 51 = .ok (.istore 4, 2) := by decide +kernel
theorem dX11_nearest_53 : decode cX11_nearest 53 = .ok (.iconst 0, 1) := by decide +kernel
theorem dX11_nearest_54 : decode cX11_nearest 54 = .ok (.istore 5, 2) := by decide +kernel
theorem dX11_nearest_56 : decode cX11_nearest 56 = .ok (.aload_n 0, 1) := by decide +kernel
theorem dX11_nearest_57 : decode cX11_nearest 57 = .ok (.invokevirtual 189, 3) := by decide +kernel
theorem dX11_nearest_60 : decode cX11_nearest 60 = .ok (.iconst 0, 1) := by decide +kernel
theorem dX11_nearest_61 : decode cX11_nearest 61 = .ok (.istore 6, 2) := by decide +kernel
theorem dX11_nearest_63 : decode cX11_nearest 63 = .ok (.iload 6, 2) := by decide +kernel
theorem dX11_nearest_65 : decode cX11_nearest 65 = .ok (.aload_n 0, 1) := by decide +kernel
theorem dX11_nearest_66 : decode cX11_nearest 66 = .ok (.getfield 175, 3) := by decide +kernel
theorem dX11_nearest_69 : decode cX11_nearest 69 = .ok (.if_icmp .ge 47, 3) := by decide +kernel
theorem dX11_nearest_72 : decode cX11_nearest 72 = .ok (.aload_n 0, 1) := by decide +kernel
theorem dX11_nearest_73 : decode cX11_nearest 73 = .ok (.iload 6, 2) := by decide +kernel
theorem dX11_nearest_75 : decode cX11_nearest 75 = .ok (.iconst 1, 1) := by decide +kernel
theorem dX11_nearest_76 : decode cX11_nearest 76 = .ok (.invokevirtual 192, 3) := by decide +kernel
theorem dX11_nearest_79 : decode cX11_nearest 79 = .ok (.aload_n 0, 1) := by decide +kernel
theorem dX11_nearest_80 : decode cX11_nearest 80 = .ok (.getfield 51, 3) := by decide +kernel
theorem dX11_nearest_83 : decode cX11_nearest 83 = .ok (.aload_n 0, 1) := by decide +kernel
theorem dX11_nearest_84 : decode cX11_nearest 84 = .ok (.getfield 172, 3) := by decide +kernel
theorem dX11_nearest_87 : decode cX11_nearest 87 = .ok (.iaload, 1) := by decide +kernel
theorem dX11_nearest_88 : decode cX11_nearest 88 = .ok (.iload 4, 2) := by decide +kernel
theorem dX11_nearest_90 : decode cX11_nearest 90 = .ok (.if_icmp .ge 20, 3) := by decide +kernel
theorem dX11_nearest_93 : decode cX11_nearest 93 = .ok (.aload_n 0, 1) := by decide +kernel
theorem dX11_nearest_94 : decode cX11_nearest 94 = .ok (.getfield 51, 3) := by decide +kernel
theorem dX11_nearest_97 : decode cX11_nearest 97 = .ok (.aload_n 0, 1) := by decide +kernel
theorem dX11_nearest_98 : decode cX11_nearest 98 = .ok (.getfield 172, 3) := by decide +kernel
theorem dX11_nearest_101 : decode cX11_nearest 101 = .ok (.iaload, 1) := by decide +kernel
theorem dX11_nearest_102 : decode cX11_nearest 102 = .ok (.istore 4, 2) := by decide +kernel
theorem dX11_nearest_104 : decode cX11_nearest 104 = .ok (.iload 6, 2) := by decide +kernel
theorem dX11_nearest_106 : decode cX11_nearest 106 = .ok (.iconst 1, 1) := by decide +kernel
theorem dX11_nearest_107 : decode cX11_nearest 107 = .ok (.iadd, 1) := by decide +kernel
theorem dX11_nearest_108 : decode cX11_nearest 108 = .ok (.istore 5, 2) := by decide +kernel
theorem dX11_nearest_110 : decode cX11_nearest 110 = .ok (.iinc 6 1, 3) := by decide +kernel
theorem dX11_nearest_113 : decode cX11_nearest 113 = .ok (.goto (-50), 3) := by decide +kernel
theorem dX11_nearest_116 : decode cX11_nearest 116 = .ok (.iload_n 3, 1) := by decide +kernel
theorem dX11_nearest_117 : decode cX11_nearest 117 = .ok (.ifCond .ne 8, 3) := by decide +kernel
theorem dX11_nearest_120 : decode cX11_nearest 120 = .ok (.iload 4, 2) := by decide +kernel
theorem dX11_nearest_122 : decode cX11_nearest 122 = .ok (.goto 5, 3) := by decide +kernel
theorem dX11_nearest_125 : decode cX11_nearest 125 = .ok (.iload 5, 2) := by decide +kernel
theorem dX11_nearest_127 : decode cX11_nearest 127 = .ok (.ireturn, 1) := by decide +kernel
theorem dX11_lines_0 : decode cX11_lines 0 = .ok (.aload_n 0, 1) := by decide +kernel
theorem dX11_lines_1 : decode cX11_lines 1 = .ok (.iload_n 1, 1) := by decide +kernel
theorem dX11_lines_2 : decode cX11_lines 2 = .ok (.invokevirtual 156, 3) := by decide +kernel
theorem dX11_lines_5 : decode cX11_lines 5 = .ok (.ifCond .eq 10, 3) := by decide +kernel
theorem dX11_lines_8 : decode cX11_lines 8 = .ok (.iload_n 2, 1) := by decide +kernel
theorem dX11_lines_9 : decode cX11_lines 9 = .ok (.invokestatic 196, 3) := by decide +kernel
theorem dX11_lines_12 : decode cX11_lines 12 = .ok (.ifCond .ne 6, 3) := by decide +kernel
theorem dX11_lines_15 : decode cX11_lines 15 = .ok (.bipush (-2), 2) := by decide +kernel
theorem dX11_lines_17 : decode cX11_lines 17 = .ok (.ireturn, 1) := by decide +kernel
theorem dX11_lines_18 : decode cX11_lines 18 = .ok (.aload_n 0, 1) := by decide +kernel
theorem dX11_lines_19 : decode cX11_lines 19 = .ok (.iload_n 1, 1) := by decide +kernel
theorem dX11_lines_20 : decode cX11_lines 20 = .ok (.invokevirtual 199, 3) := by decide +kernel
theorem dX11_lines_23 : decode cX11_lines 23 = .ok (.aload_n 0, 1) := by decide +kernel
theorem dX11_lines_24 : decode cX11_lines 24 = .ok (.iload_n 3, 1) := by decide +kernel
theorem dX11_lines_25 : decode cX11_lines 25 = .ok (.putfield 185, 3) := by decide +kernel
theorem dX11_lines_28 : decode cX11_lines 28 = .ok (.aload_n 0, 1) := by decide +kernel
theorem dX11_lines_29 : decode cX11_lines 29 = .ok (.iconst 0, 1) := by decide +kernel
theorem dX11_lines_30 : decode cX11_lines 30 = .ok (.putfield 220, 3) := by decide +kernel
theorem dX11_lines_33 : decode cX11_lines 33 = .ok (.iconst 0, 1) := by decide +kernel
theorem dX11_lines_34 : decode cX11_lines 34 = .ok (.istore 4, 2) := by decide +kernel
theorem dX11_lines_36 : decode cX11_lines 36 = .ok (.iconst 0, 1) := by decide +kernel
theorem dX11_lines_37 : decode cX11_lines 37 = .ok (.istore 5, 2) := by decide +kernel
theorem dX11_lines_39 : decode cX11_lines 39 = .ok (.iconst 0, 1) := by decide +kernel
theorem dX11_lines_40 : decode cX11_lines 40 = .ok (.istore 6, 2) := by decide +kernel
theorem dX11_lines_42 : decode cX11_lines 42 = .ok (.iload 6, 2) := by decide +kernel
theorem dX11_lines_44 : decode cX11_lines 44 = .ok (.aload_n 0, 1) := by decide +kernel
theorem dX11_lines_45 : decode cX11_lines 45 = .ok (.getfield 162, 3) := by decide +kernel
theorem dX11_lines_48 : decode cX11_lines 48 = .ok (.if_icmp .gt 77, 3) := by decide +kernel
theorem dX11_lines_51 : decode cX11_lines 51 = .ok (.iload 6, 2) := by decide +kernel
theorem dX11_lines_53 : decode cX11_lines 53 = .ok (.aload_n 0, 1) := by decide +kernel
theorem dX11_lines_54 : decode cX11_lines 54 = .ok (.getfield 162, 3) := by decide +kernel
theorem dX11_lines_57 : decode cX11_lines 57 = .ok (.if_icmp .eq 15, 3) := by decide +kernel
theorem dX11_lines_60 : decode cX11_lines 60 = .ok (.aload_n 0, 1) := by decide +kernel
theorem dX11_lines_61 : decode cX11_lines 61 = .ok (.getfield 13, 3) := by decide +kernel
theorem dX11_lines_64 : decode cX11_lines 64 = .ok (.iload 6, 2) := by decide +kernel
theorem dX11_lines_66 : decode cX11_lines 66 = .ok (.iaload, 1) := by decide +kernel
theorem dX11_lines_67 : decode cX11_lines 67 = .ok (.bipush 10, 2) := by decide +kernel
theorem dX11_lines_69 : decode cX11_lines 69 = .ok (.if_icmp .ne 50, 3) := by decide +kernel
theorem dX11_lines_72 : decode cX11_lines 72 = .ok (.aload_n 0, 1) := by decide +kernel
theorem dX11_lines_73 : decode cX11_lines 73 = .ok (.iload 5, 2) := by decide +kernel
theorem dX11_lines_75 : decode cX11_lines 75 = .ok (.iload 6, 2) := by decide +kernel
theorem dX11_lines_77 : decode cX11_lines 77 = .ok (.invokevirtual 202, 3) := by decide +kernel
theorem dX11_lines_80 : decode cX11_lines 80 = .ok (.aload_n 0, 1) := by decide +kernel
theorem dX11_lines_81 : decode cX11_lines 81 = .ok (.iload_n 2, 1) := by decide +kernel
theorem dX11_lines_82 : decode cX11_lines 82 = .ok (.iconst 0, 1) := by decide +kernel
theorem dX11_lines_83 : decode cX11_lines 83 = .ok (.invokevirtual 223, 3) := by decide +kernel
theorem dX11_lines_86 : decode cX11_lines 86 = .ok (.ifCond .le 24, 3) := by decide +kernel
theorem dX11_lines_89 : decode cX11_lines 89 = .ok (.aload_n 0, 1) := by decide +kernel
theorem dX11_lines_90 : decode cX11_lines 90 = .ok (.getfield 94, 3) := by decide +kernel
theorem dX11_lines_93 : decode cX11_lines 93 = .ok (.aload_n 0, 1) := by decide +kernel
theorem dX11_lines_94 : decode cX11_lines 94 = .ok (.getfield 220, 3) := by decide +kernel
theorem dX11_lines_97 : decode cX11_lines 97 = .ok (.iload 4, 2) := by decide +kernel
theorem dX11_lines_99 : decode cX11_lines 99 = .ok (.iastore, 1) := by decide +kernel
theorem dX11_lines_100 : decode cX11_lines 100 = .ok (.aload_n 0, 1) := by decide +kernel
theorem dX11_lines_101 : decode cX11_lines 101 = .ok (.dup, 1) := by decide +kernel
theorem dX11_lines_102 : decode cX11_lines 102 = .ok (.getfield 220, 3) := by decide +kernel
theorem dX11_lines_105 : decode cX11_lines 105 = .ok (.iconst 1, 1) := by decide +kernel
theorem dX11_lines_106 : decode cX11_lines 106 = .ok (.iadd, 1) := by decide +kernel
theorem dX11_lines_107 : decode cX11_lines 107 = .ok (.putfield 220, 3) := by decide +kernel
theorem dX11_lines_110 : decode cX11_lines 110 = .ok (.iinc 4 1, 3) := by decide +kernel
theorem dX11_lines_113 : decode cX11_lines 113 = .ok (.iload 6, 2) := by decide +kernel
theorem dX11_lines_115 : decode cX11_lines 115 = .ok (.iconst 1, 1) := by decide +kernel
theorem dX11_lines_116 : decode cX11_lines 116 = .ok (.iadd, 1) := by decide +kernel
theorem dX11_lines_117 : decode cX11_lines 117 = .ok (.istore 5, 2) := by decide +kernel
theorem dX11_lines_119 : decode cX11_lines 119 = .ok (.iinc 6 1, 3) := by decide +kernel
theorem dX11_lines_122 : decode cX11_lines 122 = .ok (.goto (-80), 3) := by decide +kernel
theorem dX11_lines_125 : decode cX11_lines 125 = .ok (.aload_n 0, 1) := by decide +kernel
theorem dX11_lines_126 : decode cX11_lines 126 = .ok (.getfield 220, 3) := by decide +kernel
theorem dX11_lines_129 : decode cX11_lines 129 = .ok (.ireturn, 1) := by decide +kernel
theorem dX11_line_0 : decode cX11_line 0 = .ok (.iload_n 1, 1) := by decide +kernel
theorem dX11_line_1 : decode cX11_line 1 = .ok (.iconst 0, 1) := by decide +kernel
theorem dX11_line_2 : decode cX11_line 2 = .ok (.aload_n 0, 1) := by decide +kernel
theorem dX11_line_3 : decode cX11_line 3 = .ok (.getfield 220, 3) := by decide +kernel
theorem dX11_line_6 : decode cX11_line 6 = .ok (.iconst 1, 1) := by decide +kernel
theorem dX11_line_7 : decode cX11_line 7 = .ok (.isub, 1) := by decide +kernel
theorem dX11_line_8 : decode cX11_line 8 = .ok (.invokestatic 100, 3) := by decide +kernel
theorem dX11_line_11 : decode cX11_line 11 = .ok (.ifCond .eq 12, 3) := by decide +kernel
theorem dX11_line_14 : decode cX11_line 14 = .ok (.aload_n 0, 1) := by decide +kernel
theorem dX11_line_15 : decode cX11_line 15 = .ok (.getfield 94, 3) := by decide +kernel
theorem dX11_line_18 : decode cX11_line 18 = .ok (.iload_n 1, 1) := by decide +kernel
theorem dX11_line_19 : decode cX11_line 19 = .ok (.iaload, 1) := by decide +kernel
end
section
theorem dX11_line_20 : decode cX11_line 20 = .ok (.goto 4, 3) := by decide +kernel
theorem dX11_line_23 : decode cX11_line 23 = .ok (.iconst (-1), 1) := by decide +kernel
theorem dX11_line_24 : decode cX11_line 24 = .ok (.ireturn, 1) := by decide +kernel
theorem dX11_replace_0 : decode cX11_replace 0 = .ok (.aload_n 0, 1) := by decide +kernel
theorem dX11_replace_1 : decode cX11_replace 1 = .ok (.iload_n 1, 1) := by decide +kernel
theorem dX11_replace_2 : decode cX11_replace 2 = .ok (.invokevirtual 156, 3) := by decide +kernel
theorem dX11_replace_5 : decode cX11_replace 5 = .ok (.ifCond .eq 10, 3) := by decide +kernel
theorem dX11_replace_8 : decode cX11_replace 8 = .ok (.iload_n 2, 1) := by decide +kernel
theorem dX11_replace_9 : decode cX11_replace 9 = .ok (.invokestatic 196, 3) := by decide +kernel
theorem dX11_replace_12 : decode cX11_replace 12 = .ok (.ifCond .ne 6, 3) := by decide +kernel
theorem dX11_replace_15 : decode cX11_replace 15 = .ok (.bipush (-2), 2) := by decide +kernel
theorem dX11_replace_17 : decode cX11_replace 17 = .ok (.ireturn, 1) := by decide +kernel
theorem dX11_replace_18 : decode cX11_replace 18 = .ok (.aload_n 0, 1) := by decide +kernel
theorem dX11_replace_19 : decode cX11_replace 19 = .ok (.iload_n 1, 1) := by decide +kernel
theorem dX11_replace_20 : decode cX11_replace 20 = .ok (.invokevirtual 199, 3) := by decide +kernel
theorem dX11_replace_23 : decode cX11_replace 23 = .ok (.aload_n 0, 1) := by decide +kernel
theorem dX11_replace_24 : decode cX11_replace 24 = .ok (.iload_n 3, 1) := by decide +kernel
theorem dX11_replace_25 : decode cX11_replace 25 = .ok (.putfield 185, 3) := by decide +kernel
theorem dX11_replace_28 : decode cX11_replace 28 = .ok (.iconst 0, 1) := by decide +kernel
theorem dX11_replace_29 : decode cX11_replace 29 = .ok (.istore 4, 2) := by decide +kernel
theorem dX11_replace_31 : decode cX11_replace 31 = .ok (.iconst 0, 1) := by decide +kernel
theorem dX11_replace_32 : decode cX11_replace 32 = .ok (.istore 5, 2) := by decide +kernel
theorem dX11_replace_34 : decode cX11_replace 34 = .ok (.iconst 0, 1) := by decide +kernel
theorem dX11_replace_35 : decode cX11_replace 35 = .ok (.istore 6, 2) := by decide +kernel
theorem dX11_replace_37 : decode cX11_replace 37 = .ok (.iconst 1, 1) := by decide +kernel
theorem dX11_replace_38 : decode cX11_replace 38 = .ok (.istore 7, 2) := by decide +kernel
theorem dX11_replace_40 : decode cX11_replace 40 = .ok (.iload 7, 2) := by decide +kernel
theorem dX11_replace_42 : decode cX11_replace 42 = .ok (.ifCond .eq 191, 3) := by decide +kernel
theorem dX11_replace_45 : decode cX11_replace 45 = .ok (.aload_n 0, 1) := by decide +kernel
theorem dX11_replace_46 : decode cX11_replace 46 = .ok (.iload 6, 2) := by decide +kernel
theorem dX11_replace_48 : decode cX11_replace 48 = .ok (.aload_n 0, 1) := by decide +kernel
theorem dX11_replace_49 : decode cX11_replace 49 = .ok (.getfield 162, 3) := by decide +kernel
theorem dX11_replace_52 : decode cX11_replace 52 = .ok (.invokevirtual 202, 3) := by decide +kernel
theorem dX11_replace_55 : decode cX11_replace 55 = .ok (.aload_n 0, 1) := by decide +kernel
theorem dX11_replace_56 : decode cX11_replace 56 = .ok (.iload_n 2, 1) := by decide +kernel
theorem dX11_replace_57 : decode cX11_replace 57 = .ok (.iconst 1, 1) := by decide +kernel
theorem dX11_replace_58 : decode cX11_replace 58 = .ok (.invokevirtual 223, 3) := by decide +kernel
theorem dX11_replace_61 : decode cX11_replace 61 = .ok (.istore 8, 2) := by decide +kernel
theorem dX11_replace_63 : decode cX11_replace 63 = .ok (.iload 8, 2) := by decide +kernel
theorem dX11_replace_65 : decode cX11_replace 65 = .ok (.ifCond .le 7, 3) := by decide +kernel
theorem dX11_replace_68 : decode cX11_replace 68 = .ok (.iconst 1, 1) := by decide +kernel
theorem dX11_replace_69 : decode cX11_replace 69 = .ok (.goto 4, 3) := by decide +kernel
theorem dX11_replace_72 : decode cX11_replace 72 = .ok (.iconst 0, 1) := by decide +kernel
theorem dX11_replace_73 : decode cX11_replace 73 = .ok (.istore 7, 2) := by decide +kernel
theorem dX11_replace_75 : decode cX11_replace 75 = .ok (.iload 7, 2) := by decide +kernel
theorem dX11_replace_77 : decode cX11_replace 77 = .ok (.ifCond .eq 15, 3) := by decide +kernel
theorem dX11_replace_80 : decode cX11_replace 80 = .ok (.aload_n 0, 1) := by decide +kernel
theorem dX11_replace_81 : decode cX11_replace 81 = .ok (.getfield 60, 3) := by decide +kernel
theorem dX11_replace_84 : decode cX11_replace 84 = .ok (.aload_n 0, 1) := by decide +kernel
theorem dX11_replace_85 : decode cX11_replace 85 = .ok (.getfield 172, 3) := by decide +kernel
theorem dX11_replace_88 : decode cX11_replace 88 = .ok (.iaload, 1) := by decide +kernel
theorem dX11_replace_89 : decode cX11_replace 89 = .ok (.goto 7, 3) := by decide +kernel
theorem dX11_replace_92 : decode cX11_replace 92 = .ok (.aload_n 0, 1) := by decide +kernel
theorem dX11_replace_93 : decode cX11_replace 93 = .ok (.getfield 175, 3) := by decide +kernel
theorem dX11_replace_96 : decode cX11_replace 96 = .ok (.istore 9, 2) := by decide +kernel
theorem dX11_replace_98 : decode cX11_replace 98 = .ok (.iconst 0, 1) := by decide +kernel
theorem dX11_replace_99 : decode cX11_replace 99 = .ok (.istore 10, 2) := by decide +kernel
theorem dX11_replace_101 : decode cX11_replace 101 = .ok (.iload 10, 2) := by decide +kernel
theorem dX11_replace_103 : decode cX11_replace 103 = .ok (.iload 9, 2) := by decide +kernel
theorem dX11_replace_105 : decode cX11_replace 105 = .ok (.if_icmp .ge 40, 3) := by decide +kernel
theorem dX11_replace_108 : decode cX11_replace 108 = .ok (.aload_n 0, 1) := by decide +kernel
theorem dX11_replace_109 : decode cX11_replace 109 = .ok (.getfield 97, 3) := by decide +kernel
theorem dX11_replace_112 : decode cX11_replace 112 = .ok (.iload 4, 2) := by decide +kernel
theorem dX11_replace_114 : decode cX11_replace 114 = .ok (.sipush 1500, 3) := by decide +kernel
theorem dX11_replace_117 : decode cX11_replace 117 = .ok (.if_icmp .ge 8, 3) := by decide +kernel
theorem dX11_replace_120 : decode cX11_replace 120 = .ok (.iload 4, 2) := by decide +kernel
theorem dX11_replace_122 : decode cX11_replace 122 = .ok (.goto 6, 3) := by decide +kernel
theorem dX11_replace_125 : decode cX11_replace 125 = .ok (.sipush 1500, 3) := by decide +kernel
theorem dX11_replace_128 : decode cX11_replace 128 = .ok (.aload_n 0, 1) := by decide +kernel
theorem dX11_replace_129 : decode cX11_replace 129 = .ok (.getfield 48, 3) := by decide +kernel
theorem dX11_replace_132 : decode cX11_replace 132 = .ok (.iload 10, 2) := by decide +kernel
theorem dX11_replace_134 : decode cX11_replace 134 = .ok (.iaload, 1) := by decide +kernel
theorem dX11_replace_135 : decode cX11_replace 135 = .ok (.iastore, 1) := by decide +kernel
theorem dX11_replace_136 : decode cX11_replace 136 = .ok (.iinc 4 1, 3) := by decide +kernel
theorem dX11_replace_139 : decode cX11_replace 139 = .ok (.iinc 10 1, 3) := by decide +kernel
theorem dX11_replace_142 : decode cX11_replace 142 = .ok (.goto (-41), 3) := by decide +kernel
theorem dX11_replace_145 : decode cX11_replace 145 = .ok (.iconst 0, 1) := by decide +kernel
theorem dX11_replace_146 : decode cX11_replace 146 = .ok (.istore 10, 2) := by decide +kernel
theorem dX11_replace_148 : decode cX11_replace 148 = .ok (.iload 10, 2) := by decide +kernel
theorem dX11_replace_150 : decode cX11_replace 150 = .ok (.aload_n 0, 1) := by decide +kernel
theorem dX11_replace_151 : decode cX11_replace 151 = .ok (.getfield 110, 3) := by decide +kernel
theorem dX11_replace_154 : decode cX11_replace 154 = .ok (.if_icmp .ge 45, 3) := by decide +kernel
theorem dX11_replace_157 : decode cX11_replace 157 = .ok (.iload 7, 2) := by decide +kernel
theorem dX11_replace_159 : decode cX11_replace 159 = .ok (.ifCond .eq 40, 3) := by decide +kernel
theorem dX11_replace_162 : decode cX11_replace 162 = .ok (.aload_n 0, 1) := by decide +kernel
theorem dX11_replace_163 : decode cX11_replace 163 = .ok (.getfield 97, 3) := by decide +kernel
theorem dX11_replace_166 : decode cX11_replace 166 = .ok (.iload 4, 2) := by decide +kernel
theorem dX11_replace_168 : decode cX11_replace 168 = .ok (.sipush 1500, 3) := by decide +kernel
theorem dX11_replace_171 : decode cX11_replace 171 = .ok (.if_icmp .ge 8, 3) := by decide +kernel
theorem dX11_replace_174 : decode cX11_replace 174 = .ok (.iload 4, 2) := by decide +kernel
theorem dX11_replace_176 : decode cX11_replace 176 = .ok (.goto 6, 3) := by decide +kernel
theorem dX11_replace_179 : decode cX11_replace 179 = .ok (.sipush 1500, 3) := by decide +kernel
theorem dX11_replace_182 : decode cX11_replace 182 = .ok (.aload_n 0, 1) := by decide +kernel
theorem dX11_replace_183 : decode cX11_replace 183 = .ok (.getfield 7, 3) := by decide +kernel
theorem dX11_replace_186 : decode cX11_replace 186 = .ok (.iload 10, 2) := by decide +kernel
theorem dX11_replace_188 : decode cX11_replace 188 = .ok (.iaload, 1) := by decide +kernel
theorem dX11_replace_189 : decode cX11_replace 189 = .ok (.iastore, 1) := by decide +kernel
theorem dX11_replace_190 : decode cX11_replace 190 = .ok (.iinc 4 1, 3) := by decide +kernel
theorem dX11_replace_193 : decode cX11_replace 193 = .ok (.iinc 10 1, 3) := by decide +kernel
theorem dX11_replace_196 : decode cX11_replace 196 = .ok (.goto (-48), 3) := by decide +kernel
theorem dX11_replace_199 : decode cX11_replace 199 = .ok (.iload 5, 2) := by decide +kernel
theorem dX11_replace_201 : decode cX11_replace 201 = .ok (.iload 7, 2) := by decide +kernel
theorem dX11_replace_203 : decode cX11_replace 203 = .ok (.ifCond .eq 7, 3) := by decide +kernel
theorem dX11_replace_206 : decode cX11_replace 206 = .ok (.iconst 1, 1) := by decide +kernel
theorem dX11_replace_207 : decode cX11_replace 207 = .ok (.goto 4, 3) := by decide +kernel
theorem dX11_replace_210 : decode cX11_replace 210 = .ok (.iconst 0, 1) := by decide +kernel
theorem dX11_replace_211 : decode cX11_replace 211 = .ok (.iadd, 1) := by decide +kernel
theorem dX11_replace_212 : decode cX11_replace 212 = .ok (.istore 5, 2) := by decide +kernel
theorem dX11_replace_214 : decode cX11_replace 214 = .ok (.iload 6, 2) := by decide +kernel
theorem dX11_replace_216 : decode cX11_replace 216 = .ok (.iload 7, 2) := by decide +kernel
theorem dX11_replace_218 : decode cX11_replace 218 = .ok (.ifCond .eq 8, 3) := by decide +kernel
theorem dX11_replace_221 : decode cX11_replace 221 = .ok (.iload 8, 2) := by decide +kernel
theorem dX11_replace_223 : decode cX11_replace 223 = .ok (.goto 4, 3) := by decide +kernel
theorem dX11_replace_226 : decode cX11_replace 226 = .ok (.iconst 0, 1) := by decide +kernel
theorem dX11_replace_227 : decode cX11_replace 227 = .ok (.iadd, 1) := by decide +kernel
theorem dX11_replace_228 : decode cX11_replace 228 = .ok (.istore 6, 2) := by decide +kernel
theorem dX11_replace_230 : decode cX11_replace 230 = .ok (.goto (-190), 3) := by decide +kernel
theorem dX11_replace_233 : decode cX11_replace 233 = .ok (.iload 4, 2) := by decide +kernel
theorem dX11_replace_235 : decode cX11_replace 235 = .ok (.sipush 1500, 3) := by decide +kernel
theorem dX11_replace_238 : decode cX11_replace 238 = .ok (.if_icmp .le 6, 3) := by decide +kernel
theorem dX11_replace_241 : decode cX11_replace 241 = .ok (.bipush (-3), 2) := by decide +kernel
theorem dX11_replace_243 : decode cX11_replace 243 = .ok (.ireturn, 1) := by decide +kernel
theorem dX11_replace_244 : decode cX11_replace 244 = .ok (.aload_n 0, 1) := by decide +kernel
theorem dX11_replace_245 : decode cX11_replace 245 = .ok (.invokevirtual 165, 3) := by decide +kernel
theorem dX11_replace_248 : decode cX11_replace 248 = .ok (.iconst 0, 1) := by decide +kernel
theorem dX11_replace_249 : decode cX11_replace 249 = .ok (.istore 8, 2) := by decide +kernel
theorem dX11_replace_251 : decode cX11_replace 251 = .ok (.iload 8, 2) := by decide +kernel
theorem dX11_replace_253 : decode cX11_replace 253 = .ok (.iload 4, 2) := by decide +kernel
theorem dX11_replace_255 : decode cX11_replace 255 = .ok (.if_icmp .ge 23, 3) := by decide +kernel
theorem dX11_replace_258 : decode cX11_replace 258 = .ok (.aload_n 0, 1) := by decide +kernel
theorem dX11_replace_259 : decode cX11_replace 259 = .ok (.getfield 13, 3) := by decide +kernel
theorem dX11_replace_262 : decode cX11_replace 262 = .ok (.iload 8, 2) := by decide +kernel
theorem dX11_replace_264 : decode cX11_replace 264 = .ok (.aload_n 0, 1) := by decide +kernel
theorem dX11_replace_265 : decode cX11_replace 265 = .ok (.getfield 97, 3) := by decide +kernel
theorem dX11_replace_268 : decode cX11_replace 268 = .ok (.iload 8, 2) := by decide +kernel
theorem dX11_replace_270 : decode cX11_replace 270 = .ok (.iaload, 1) := by decide +kernel
theorem dX11_replace_271 : decode cX11_replace 271 = .ok (.iastore, 1) := by decide +kernel
theorem dX11_replace_272 : decode cX11_replace 272 = .ok (.iinc 8 1, 3) := by decide +kernel
theorem dX11_replace_275 : decode cX11_replace 275 = .ok (.goto (-24), 3) := by decide +kernel
theorem dX11_replace_278 : decode cX11_replace 278 = .ok (.aload_n 0, 1) := by decide +kernel
theorem dX11_replace_279 : decode cX11_replace 279 = .ok (.iload 4, 2) := by decide +kernel
theorem dX11_replace_281 : decode cX11_replace 281 = .ok (.putfield 162, 3) := by decide +kernel
theorem dX11_replace_284 : decode cX11_replace 284 = .ok (.aload_n 0, 1) := by decide +kernel
theorem dX11_replace_285 : decode cX11_replace 285 = .ok (.iconst 0, 1) := by decide +kernel
theorem dX11_replace_286 : decode cX11_replace 286 = .ok (.putfield 110, 3) := by decide +kernel
theorem dX11_replace_289 : decode cX11_replace 289 = .ok (.iload 5, 2) := by decide +kernel
theorem dX11_replace_291 : decode cX11_replace 291 = .ok (.ireturn, 1) := by decide +kernel
theorem dX11_whole_0 : decode cX11_whole 0 = .ok (.aload_n 0, 1) := by decide +kernel
theorem dX11_whole_1 : decode cX11_whole 1 = .ok (.iload_n 1, 1) := by decide +kernel
theorem dX11_whole_2 : decode cX11_whole 2 = .ok (.invokevirtual 156, 3) := by decide +kernel
theorem dX11_whole_5 : decode cX11_whole 5 = .ok (.ifCond .eq 24, 3) := by decide +kernel
theorem dX11_whole_8 : decode cX11_whole 8 = .ok (.aload_n 0, 1) := by decide +kernel
theorem dX11_whole_9 : decode cX11_whole 9 = .ok (.iload_n 2, 1) := by decide +kernel
theorem dX11_whole_10 : decode cX11_whole 10 = .ok (.iload_n 3, 1) := by decide +kernel
theorem dX11_whole_11 : decode cX11_whole 11 = .ok (.invokevirtual 168, 3) := by decide +kernel
theorem dX11_whole_14 : decode cX11_whole 14 = .ok (.ifCond .eq 15, 3) := by decide +kernel
theorem dX11_whole_17 : decode cX11_whole 17 = .ok (.iload 5, 2) := by decide +kernel
theorem dX11_whole_19 : decode cX11_whole 19 = .ok (.iconst 0, 1) := by decide +kernel
theorem dX11_whole_20 : decode cX11_whole 20 = .ok (.sipush 2000, 3) := by decide +kernel
theorem dX11_whole_23 : decode cX11_whole 23 = .ok (.invokestatic 100, 3) := by decide +kernel
theorem dX11_whole_26 : decode cX11_whole 26 = .ok (.ifCond .ne 6, 3) := by decide +kernel
theorem dX11_whole_29 : decode cX11_whole 29 = .ok (.bipush (-2), 2) := by decide +kernel
theorem dX11_whole_31 : decode cX11_whole 31 = .ok (.ireturn, 1) := by decide +kernel
theorem dX11_whole_32 : decode cX11_whole 32 = .ok (.aload_n 0, 1) := by decide +kernel
theorem dX11_whole_33 : decode cX11_whole 33 = .ok (.iload_n 1, 1) := by decide +kernel
theorem dX11_whole_34 : decode cX11_whole 34 = .ok (.invokevirtual 199, 3) := by decide +kernel
theorem dX11_whole_37 : decode cX11_whole 37 = .ok (.aload_n 0, 1) := by decide +kernel
theorem dX11_whole_38 : decode cX11_whole 38 = .ok (.iload_n 2, 1) := by decide +kernel
theorem dX11_whole_39 : decode cX11_whole 39 = .ok (.iload_n 3, 1) := by decide +kernel
theorem dX11_whole_40 : decode cX11_whole 40 = .ok (.invokevirtual 202, 3) := by decide +kernel
theorem dX11_whole_43 : decode cX11_whole 43 = .ok (.aload_n 0, 1) := by decide +kernel
theorem dX11_whole_44 : decode cX11_whole 44 = .ok (.iload 4, 2) := by decide +kernel
theorem dX11_whole_46 : decode cX11_whole 46 = .ok (.putfield 185, 3) := by decide +kernel
theorem dX11_whole_49 : decode cX11_whole 49 = .ok (.aload_n 0, 1) := by decide +kernel
theorem dX11_whole_50 : decode cX11_whole 50 = .ok (.invokevirtual 227, 3) := by decide +kernel
theorem dX11_whole_53 : decode cX11_whole 53 = .ok (.istore 6, 2) := by decide +kernel
theorem dX11_whole_55 : decode cX11_whole 55 = .ok (.iload 6, 2) := by decide +kernel
theorem dX11_whole_57 : decode cX11_whole 57 = .ok (.iload 5, 2) := by decide +kernel
theorem dX11_whole_59 : decode cX11_whole 59 = .ok (.if_icmp .le 8, 3) := by decide +kernel
theorem dX11_whole_62 : decode cX11_whole 62 = .ok (.bipush (-4), 2) := by decide +kernel
theorem dX11_whole_64 : decode cX11_whole 64 = .ok (.goto 5, 3) := by decide +kernel
theorem dX11_whole_67 : decode cX11_whole 67 = .ok (.iload 6, 2) := by decide +kernel
theorem dX11_whole_69 : decode cX11_whole 69 = .ok (.ireturn, 1) := by decide +kernel
theorem dX11_which_0 : decode cX11_which 0 = .ok (.aload_n 0, 1) := by decide +kernel
theorem dX11_which_1 : decode cX11_which 1 = .ok (.iload_n 1, 1) := by decide +kernel
theorem dX11_which_2 : decode cX11_which 2 = .ok (.iload_n 2, 1) := by decide +kernel
theorem dX11_which_3 : decode cX11_which 3 = .ok (.invokevirtual 168, 3) := by decide +kernel
theorem dX11_which_6 : decode cX11_which 6 = .ok (.ifCond .ne 6, 3) := by decide +kernel
theorem dX11_which_9 : decode cX11_which 9 = .ok (.bipush (-2), 2) := by decide +kernel
theorem dX11_which_11 : decode cX11_which 11 = .ok (.ireturn, 1) := by decide +kernel
theorem dX11_which_12 : decode cX11_which 12 = .ok (.iconst (-1), 1) := by decide +kernel
theorem dX11_which_13 : decode cX11_which 13 = .ok (.istore 4, 2) := by decide +kernel
theorem dX11_which_15 : decode cX11_which 15 = .ok (.iconst 0, 1) := by decide +kernel
theorem dX11_which_16 : decode cX11_which 16 = .ok (.istore 5, 2) := by decide +kernel
theorem dX11_which_18 : decode cX11_which 18 = .ok (.iconst 0, 1) := by decide +kernel
theorem dX11_which_19 : decode cX11_which 19 = .ok (.istore 6, 2) := by decide +kernel
theorem dX11_which_21 : decode cX11_which 21 = .ok (.iload 6, 2) := by decide +kernel
theorem dX11_which_23 : decode cX11_which 23 = .ok (.bipush 8, 2) := by decide +kernel
theorem dX11_which_25 : decode cX11_which 25 = .ok (.if_icmp .ge 62, 3) := by decide +kernel
theorem dX11_which_28 : decode cX11_which 28 = .ok (.aload_n 0, 1) := by decide +kernel
theorem dX11_which_29 : decode cX11_which 29 = .ok (.getfield 29, 3) := by decide +kernel
theorem dX11_which_32 : decode cX11_which 32 = .ok (.iload 6, 2) := by decide +kernel
theorem dX11_which_34 : decode cX11_which 34 = .ok (.iaload, 1) := by decide +kernel
theorem dX11_which_35 : decode cX11_which 35 = .ok (.ifCond .le 46, 3) := by decide +kernel
theorem dX11_which_38 : decode cX11_which 38 = .ok (.aload_n 0, 1) := by decide +kernel
theorem dX11_which_39 : decode cX11_which 39 = .ok (.iload 6, 2) := by decide +kernel
theorem dX11_which_41 : decode cX11_which 41 = .ok (.invokevirtual 199, 3) := by decide +kernel
theorem dX11_which_44 : decode cX11_which 44 = .ok (.aload_n 0, 1) := by decide +kernel
theorem dX11_which_45 : decode cX11_which 45 = .ok (.iload_n 1, 1) := by decide +kernel
theorem dX11_which_46 : decode cX11_which 46 = .ok (.iload_n 2, 1) := by decide +kernel
theorem dX11_which_47 : decode cX11_which 47 = .ok (.invokevirtual 202, 3) := by decide +kernel
theorem dX11_which_50 : decode cX11_which 50 = .ok (.aload_n 0, 1) := by decide +kernel
theorem dX11_which_51 : decode cX11_which 51 = .ok (.iload_n 3, 1) := by decide +kernel
theorem dX11_which_52 : decode cX11_which 52 = .ok (.putfield 185, 3) := by decide +kernel
theorem dX11_which_55 : decode cX11_which 55 = .ok (.aload_n 0, 1) := by decide +kernel
theorem dX11_which_56 : decode cX11_which 56 = .ok (.invokevirtual 227, 3) := by decide +kernel
theorem dX11_which_59 : decode cX11_which 59 = .ok (.istore 7, 2) := by decide +kernel
theorem dX11_which_61 : decode cX11_which 61 = .ok (.iload 4, 2) := by decide +kernel
theorem dX11_which_63 : decode cX11_which 63 = .ok (.ifCond .lt 10, 3) := by decide +kernel
theorem dX11_which_66 : decode cX11_which 66 = .ok (.iload 7, 2) := by decide +kernel
theorem dX11_which_68 : decode cX11_which 68 = .ok (.iload 5, 2) := by decide +kernel
theorem dX11_which_70 : decode cX11_which 70 = .ok (.if_icmp .ge 11, 3) := by decide +kernel
theorem dX11_which_73 : decode cX11_which 73 = .ok (.iload 6, 2) := by decide +kernel
theorem dX11_which_75 : decode cX11_which 75 = .ok (.istore 4, 2) := by decide +kernel
theorem dX11_which_77 : decode cX11_which 77 = .ok (.iload 7, 2) := by decide +kernel
theorem dX11_which_79 : decode cX11_which 79 = .ok (.istore 5, 2) := by decide +kernel
theorem dX11_which_81 : decode cX11_which 81 = .ok (.iinc 6 1, 3) := by decide +kernel
theorem dX11_which_84 : decode cX11_which 84 = .ok (.goto (-63), 3) := by decide +kernel
theorem dX11_which_87 : decode cX11_which 87 = .ok (.iload 4, 2) := by decide +kernel
theorem dX11_which_89 : decode cX11_which 89 = .ok (.ireturn, 1) := by decide +kernel
theorem dX11_apart_0 : decode cX11_apart 0 = .ok (.aload_n 0, 1) := by decide +kernel
theorem dX11_apart_1 : decode cX11_apart 1 = .ok (.iload_n 1, 1) := by decide +kernel
theorem dX11_apart_2 : decode cX11_apart 2 = .ok (.iload_n 2, 1) := by decide +kernel
theorem dX11_apart_3 : decode cX11_apart 3 = .ok (.invokevirtual 168, 3) := by decide +kernel
theorem dX11_apart_6 : decode cX11_apart 6 = .ok (.ifCond .eq 25, 3) := by decide +kernel
theorem dX11_apart_9 : decode cX11_apart 9 = .ok (.aload_n 0, 1) := by decide +kernel
theorem dX11_apart_10 : decode cX11_apart 10 = .ok (.iload_n 3, 1) := by decide +kernel
theorem dX11_apart_11 : decode cX11_apart 11 = .ok (.iload 4, 2) := by decide +kernel
theorem dX11_apart_13 : decode cX11_apart 13 = .ok (.invokevirtual 168, 3) := by decide +kernel
theorem dX11_apart_16 : decode cX11_apart 16 = .ok (.ifCond .eq 15, 3) := by decide +kernel
theorem dX11_apart_19 : decode cX11_apart 19 = .ok (.iload 6, 2) := by decide +kernel
theorem dX11_apart_21 : decode cX11_apart 21 = .ok (.iconst 0, 1) := by decide +kernel
theorem dX11_apart_22 : decode cX11_apart 22 = .ok (.sipush 2000, 3) := by decide +kernel
theorem dX11_apart_25 : decode cX11_apart 25 = .ok (.invokestatic 100, 3) := by decide +kernel
theorem dX11_apart_28 : decode cX11_apart 28 = .ok (.ifCond .ne 6, 3) := by decide +kernel
theorem dX11_apart_31 : decode cX11_apart 31 = .ok (.bipush (-2), 2) := by decide +kernel
theorem dX11_apart_33 : decode cX11_apart 33 = .ok (.ireturn, 1) := by decide +kernel
theorem dX11_apart_34 : decode cX11_apart 34 = .ok (.aload_n 0, 1) := by decide +kernel
theorem dX11_apart_35 : decode cX11_apart 35 = .ok (.iload_n 2, 1) := by decide +kernel
theorem dX11_apart_36 : decode cX11_apart 36 = .ok (.iload_n 1, 1) := by decide +kernel
theorem dX11_apart_37 : decode cX11_apart 37 = .ok (.isub, 1) := by decide +kernel
theorem dX11_apart_38 : decode cX11_apart 38 = .ok (.putfield 172, 3) := by decide +kernel
theorem dX11_apart_41 : decode cX11_apart 41 = .ok (.iconst 0, 1) := by decide +kernel
theorem dX11_apart_42 : decode cX11_apart 42 = .ok (.istore 7, 2) := by decide +kernel
theorem dX11_apart_44 : decode cX11_apart 44 = .ok (.iload 7, 2) := by decide +kernel
theorem dX11_apart_46 : decode cX11_apart 46 = .ok (.aload_n 0, 1) := by decide +kernel
theorem dX11_apart_47 : decode cX11_apart 47 = .ok (.getfield 172, 3) := by decide +kernel
theorem dX11_apart_50 : decode cX11_apart 50 = .ok (.if_icmp .ge 67, 3) := by decide +kernel
theorem dX11_apart_53 : decode cX11_apart 53 = .ok (.aload_n 0, 1) := by decide +kernel
theorem dX11_apart_54 : decode cX11_apart 54 = .ok (.getfield 13, 3) := by decide +kernel
theorem dX11_apart_57 : decode cX11_apart 57 = .ok (.iload_n 1, 1) := by decide +kernel
theorem dX11_apart_58 : decode cX11_apart 58 = .ok (.iload 7, 2) := by decide +kernel
theorem dX11_apart_60 : decode cX11_apart 60 = .ok (.iadd, 1) := by decide +kernel
theorem dX11_apart_61 : decode cX11_apart 61 = .ok (.iaload, 1) := by decide +kernel
theorem dX11_apart_62 : decode cX11_apart 62 = .ok (.istore 8, 2) := by decide +kernel
theorem dX11_apart_64 : decode cX11_apart 64 = .ok (.aload_n 0, 1) := by decide +kernel
theorem dX11_apart_65 : decode cX11_apart 65 = .ok (.getfield 42, 3) := by decide +kernel
theorem dX11_apart_68 : decode cX11_apart 68 = .ok (.iload 7, 2) := by decide +kernel
theorem dX11_apart_70 : decode cX11_apart 70 = .ok (.iload 8, 2) := by decide +kernel
theorem dX11_apart_72 : decode cX11_apart 72 = .ok (.bipush 64, 2) := by decide +kernel
theorem dX11_apart_74 : decode cX11_apart 74 = .ok (.if_icmp .ge 10, 3) := by decide +kernel
theorem dX11_apart_77 : decode cX11_apart 77 = .ok (.lconst 1, 1) := by decide +kernel
theorem dX11_apart_78 : decode cX11_apart 78 = .ok (.iload 8, 2) := by decide +kernel
theorem dX11_apart_80 : decode cX11_apart 80 = .ok (.lshl, 1) := by decide +kernel
theorem dX11_apart_81 : decode cX11_apart 81 = .ok (.goto 4, 3) := by decide +kernel
theorem dX11_apart_84 : decode cX11_apart 84 = .ok (.lconst 0, 1) := by decide +kernel
theorem dX11_apart_85 : decode cX11_apart 85 = .ok (.lastore, 1) := by decide +kernel
theorem dX11_apart_86 : decode cX11_apart 86 = .ok (.aload_n 0, 1) := by decide +kernel
theorem dX11_apart_87 : decode cX11_apart 87 = .ok (.getfield 45, 3) := by decide +kernel
theorem dX11_apart_90 : decode cX11_apart 90 = .ok (.iload 7, 2) := by decide +kernel
theorem dX11_apart_92 : decode cX11_apart 92 = .ok (.iload 8, 2) := by decide +kernel
theorem dX11_apart_94 : decode cX11_apart 94 = .ok (.bipush 64, 2) := by decide +kernel
theorem dX11_apart_96 : decode cX11_apart 96 = .ok (.if_icmp .ge 7, 3) := by decide +kernel
theorem dX11_apart_99 : decode cX11_apart 99 = .ok (.lconst 0, 1) := by decide +kernel
theorem dX11_apart_100 : decode cX11_apart 100 = .ok (.goto 10, 3) := by decide +kernel
theorem dX11_apart_103 : decode cX11_apart 103 = .ok (.lconst 1, 1) := by decide +kernel
theorem dX11_apart_104 : decode cX11_apart 104 = .ok (.iload 8, 2) := by decide +kernel
theorem dX11_apart_106 : decode cX11_apart 106 = .ok (.bipush 64, 2) := by decide +kernel
theorem dX11_apart_108 : decode cX11_apart 108 = .ok (.isub, 1) := by decide +kernel
theorem dX11_apart_109 : decode cX11_apart 109 = .ok (.lshl, 1) := by decide +kernel
theorem dX11_apart_110 : decode cX11_apart 110 = .ok (.lastore, 1) := by decide +kernel
theorem dX11_apart_111 : decode cX11_apart 111 = .ok (.iinc 7 1, 3) := by decide +kernel
theorem dX11_apart_114 : decode cX11_apart 114 = .ok (.goto (-70), 3) := by decide +kernel
theorem dX11_apart_117 : decode cX11_apart 117 = .ok (.aload_n 0, 1) := by decide +kernel
theorem dX11_apart_118 : decode cX11_apart 118 = .ok (.iload_n 3, 1) := by decide +kernel
theorem dX11_apart_119 : decode cX11_apart 119 = .ok (.iload 4, 2) := by decide +kernel
theorem dX11_apart_121 : decode cX11_apart 121 = .ok (.invokevirtual 202, 3) := by decide +kernel
theorem dX11_apart_124 : decode cX11_apart 124 = .ok (.aload_n 0, 1) := by decide +kernel
theorem dX11_apart_125 : decode cX11_apart 125 = .ok (.iload 5, 2) := by decide +kernel
theorem dX11_apart_127 : decode cX11_apart 127 = .ok (.putfield 185, 3) := by decide +kernel
theorem dX11_apart_130 : decode cX11_apart 130 = .ok (.aload_n 0, 1) := by decide +kernel
theorem dX11_apart_131 : decode cX11_apart 131 = .ok (.invokevirtual 227, 3) := by decide +kernel
theorem dX11_apart_134 : decode cX11_apart 134 = .ok (.istore 7, 2) := by decide +kernel
theorem dX11_apart_136 : decode cX11_apart 136 = .ok (.iload 7, 2) := by decide +kernel
theorem dX11_apart_138 : decode cX11_apart 138 = .ok (.iload 6, 2) := by decide +kernel
theorem dX11_apart_140 : decode cX11_apart 140 = .ok (.if_icmp .le 8, 3) := by decide +kernel
theorem dX11_apart_143 : decode cX11_apart 143 = .ok (.bipush (-4), 2) := by decide +kernel
theorem dX11_apart_145 : decode cX11_apart 145 = .ok (.goto 5, 3) := by decide +kernel
theorem dX11_apart_148 : decode cX11_apart 148 = .ok (.iload 7, 2) := by decide +kernel
theorem dX11_apart_150 : decode cX11_apart 150 = .ok (.ireturn, 1) := by decide +kernel
theorem dL_law_0 : decode cL_law 0 = .ok (.new 7, 3) := by decide +kernel
theorem dL_law_3 : decode cL_law 3 = .ok (.dup, 1) := by decide +kernel
theorem dL_law_4 : decode cL_law 4 = .ok (.invokespecial 9, 3) := by decide +kernel
theorem dL_law_7 : decode cL_law 7 = .ok (.astore_n 1, 1) := by decide +kernel
theorem dL_law_8 : decode cL_law 8 = .ok (.new 10, 3) := by decide +kernel
theorem dL_law_11 : decode cL_law 11 = .ok (.dup, 1) := by decide +kernel
theorem dL_law_12 : decode cL_law 12 = .ok (.invokespecial 12, 3) := by decide +kernel
theorem dL_law_15 : decode cL_law 15 = .ok (.astore_n 2, 1) := by decide +kernel
theorem dL_law_16 : decode cL_law 16 = .ok (.iconst 0, 1) := by decide +kernel
theorem dL_law_17 : decode cL_law 17 = .ok (.istore_n 3, 1) := by decide +kernel
theorem dL_law_18 : decode cL_law 18 = .ok (.iload_n 3, 1) := by decide +kernel
theorem dL_law_19 : decode cL_law 19 = .ok (.aload_n 0, 1) := by decide +kernel
theorem dL_law_20 : decode cL_law 20 = .ok (.arraylength, 1) := by decide +kernel
theorem dL_law_21 : decode cL_law 21 = .ok (.bipush 7, 2) := by decide +kernel
theorem dL_law_23 : decode cL_law 23 = .ok (.isub, 1) := by decide +kernel
theorem dL_law_24 : decode cL_law 24 = .ok (.if_icmp .gt 907, 3) := by decide +kernel
theorem dL_law_27 : decode cL_law 27 = .ok (.aload_n 0, 1) := by decide +kernel
theorem dL_law_28 : decode cL_law 28 = .ok (.iload_n 3, 1) := by decide +kernel
theorem dL_law_29 : decode cL_law 29 = .ok (.iaload, 1) := by decide +kernel
theorem dL_law_30 : decode cL_law 30 = .ok (.bipush 31, 2) := by decide +kernel
theorem dL_law_32 : decode cL_law 32 = .ok (.iand, 1) := by decide +kernel
theorem dL_law_33 : decode cL_law 33 = .ok (.tableswitch 892 0 18 #[91, 154, 177, 190, 233, 256, 289, 302, 325, 338, 397, 430, 463, 522, 581, 604, 663, 742, 801], 91) := by decide +kernel
theorem dL_law_124 : decode cL_law 124 = .ok (.aload_n 1, 1) := by decide +kernel
theorem dL_law_125 : decode cL_law 125 = .ok (.aload_n 0, 1) := by decide +kernel
theorem dL_law_126 : decode cL_law 126 = .ok (.iload_n 3, 1) := by decide +kernel
theorem dL_law_127 : decode cL_law 127 = .ok (.iconst 1, 1) := by decide +kernel
theorem dL_law_128 : decode cL_law 128 = .ok (.iadd, 1) := by decide +kernel
theorem dL_law_129 : decode cL_law 129 = .ok (.iaload, 1) := by decide +kernel
theorem dL_law_130 : decode cL_law 130 = .ok (.i2l, 1) := by decide +kernel
theorem dL_law_131 : decode cL_law 131 = .ok (.bipush 32, 2) := by decide +kernel
theorem dL_law_133 : decode cL_law 133 = .ok (.lshl, 1) := by decide +kernel
theorem dL_law_134 : decode cL_law 134 = .ok (.aload_n 0, 1) := by decide +kernel
theorem dL_law_135 : decode cL_law 135 = .ok (.iload_n 3, 1) := by decide +kernel
theorem dL_law_136 : decode cL_law 136 = .ok (.iconst 2, 1) := by decide +kernel
theorem dL_law_137 : decode cL_law 137 = .ok (.iadd, 1) := by decide +kernel
theorem dL_law_138 : decode cL_law 138 = .ok (.iaload, 1) := by decide +kernel
theorem dL_law_139 : decode cL_law 139 = .ok (.i2l, 1) := by decide +kernel
theorem dL_law_140 : decode cL_law 140 = .ok (.ldc2_w 13, 3) := by decide +kernel
theorem dL_law_143 : decode cL_law 143 = .ok (.land, 1) := by decide +kernel
theorem dL_law_144 : decode cL_law 144 = .ok (.lor, 1) := by decide +kernel
theorem dL_law_145 : decode cL_law 145 = .ok (.aload_n 0, 1) := by decide +kernel
theorem dL_law_146 : decode cL_law 146 = .ok (.iload_n 3, 1) := by decide +kernel
theorem dL_law_147 : decode cL_law 147 = .ok (.iconst 3, 1) := by decide +kernel
theorem dL_law_148 : decode cL_law 148 = .ok (.iadd, 1) := by decide +kernel
theorem dL_law_149 : decode cL_law 149 = .ok (.iaload, 1) := by decide +kernel
theorem dL_law_150 : decode cL_law 150 = .ok (.invokevirtual 15, 3) := by decide +kernel
theorem dL_law_153 : decode cL_law 153 = .ok (.aload_n 2, 1) := by decide +kernel
theorem dL_law_154 : decode cL_law 154 = .ok (.aload_n 0, 1) := by decide +kernel
theorem dL_law_155 : decode cL_law 155 = .ok (.iload_n 3, 1) := by decide +kernel
theorem dL_law_156 : decode cL_law 156 = .ok (.iconst 1, 1) := by decide +kernel
theorem dL_law_157 : decode cL_law 157 = .ok (.iadd, 1) := by decide +kernel
theorem dL_law_158 : decode cL_law 158 = .ok (.iaload, 1) := by decide +kernel
theorem dL_law_159 : decode cL_law 159 = .ok (.i2l, 1) := by decide +kernel
theorem dL_law_160 : decode cL_law 160 = .ok (.bipush 32, 2) := by decide +kernel
theorem dL_law_162 : decode cL_law 162 = .ok (.lshl, 1) := by decide +kernel
theorem dL_law_163 : decode cL_law 163 = .ok (.aload_n 0, 1) := by decide +kernel
theorem dL_law_164 : decode cL_law 164 = .ok (.iload_n 3, 1) := by decide +kernel
theorem dL_law_165 : decode cL_law 165 = .ok (.iconst 2, 1) := by decide +kernel
theorem dL_law_166 : decode cL_law 166 = .ok (.iadd, 1) := by decide +kernel
theorem dL_law_167 : decode cL_law 167 = .ok (.iaload, 1) := by decide +kernel
theorem dL_law_168 : decode cL_law 168 = .ok (.i2l, 1) := by decide +kernel
theorem dL_law_169 : decode cL_law 169 = .ok (.ldc2_w 13, 3) := by decide +kernel
theorem dL_law_172 : decode cL_law 172 = .ok (.land, 1) := by decide +kernel
theorem dL_law_173 : decode cL_law 173 = .ok (.lor, 1) := by decide +kernel
theorem dL_law_174 : decode cL_law 174 = .ok (.aload_n 0, 1) := by decide +kernel
theorem dL_law_175 : decode cL_law 175 = .ok (.iload_n 3, 1) := by decide +kernel
theorem dL_law_176 : decode cL_law 176 = .ok (.iconst 3, 1) := by decide +kernel
theorem dL_law_177 : decode cL_law 177 = .ok (.iadd, 1) := by decide +kernel
theorem dL_law_178 : decode cL_law 178 = .ok (.iaload, 1) := by decide +kernel
theorem dL_law_179 : decode cL_law 179 = .ok (.invokevirtual 19, 3) := by decide +kernel
theorem dL_law_182 : decode cL_law 182 = .ok (.if_icmp .eq 743, 3) := by decide +kernel
theorem dL_law_185 : decode cL_law 185 = .ok (.iconst 0, 1) := by decide +kernel
theorem dL_law_186 : decode cL_law 186 = .ok (.ireturn, 1) := by decide +kernel
theorem dL_law_187 : decode cL_law 187 = .ok (.aload_n 1, 1) := by decide +kernel
theorem dL_law_188 : decode cL_law 188 = .ok (.aload_n 0, 1) := by decide +kernel
theorem dL_law_189 : decode cL_law 189 = .ok (.iload_n 3, 1) := by decide +kernel
theorem dL_law_190 : decode cL_law 190 = .ok (.iconst 1, 1) := by decide +kernel
theorem dL_law_191 : decode cL_law 191 = .ok (.iadd, 1) := by decide +kernel
theorem dL_law_192 : decode cL_law 192 = .ok (.iaload, 1) := by decide +kernel
theorem dL_law_193 : decode cL_law 193 = .ok (.invokevirtual 20, 3) := by decide +kernel
theorem dL_law_196 : decode cL_law 196 = .ok (.aload_n 2, 1) := by decide +kernel
theorem dL_law_197 : decode cL_law 197 = .ok (.aload_n 0, 1) := by decide +kernel
theorem dL_law_198 : decode cL_law 198 = .ok (.iload_n 3, 1) := by decide +kernel
theorem dL_law_199 : decode cL_law 199 = .ok (.iconst 1, 1) := by decide +kernel
theorem dL_law_200 : decode cL_law 200 = .ok (.iadd, 1) := by decide +kernel
theorem dL_law_201 : decode cL_law 201 = .ok (.iaload, 1) := by decide +kernel
theorem dL_law_202 : decode cL_law 202 = .ok (.invokevirtual 24, 3) := by decide +kernel
theorem dL_law_205 : decode cL_law 205 = .ok (.if_icmp .eq 720, 3) := by decide +kernel
theorem dL_law_208 : decode cL_law 208 = .ok (.iconst 0, 1) := by decide +kernel
theorem dL_law_209 : decode cL_law 209 = .ok (.ireturn, 1) := by decide +kernel
theorem dL_law_210 : decode cL_law 210 = .ok (.aload_n 1, 1) := by decide +kernel
theorem dL_law_211 : decode cL_law 211 = .ok (.invokevirtual 25, 3) := by decide +kernel
theorem dL_law_214 : decode cL_law 214 = .ok (.aload_n 2, 1) := by decide +kernel
theorem dL_law_215 : decode cL_law 215 = .ok (.invokevirtual 29, 3) := by decide +kernel
theorem dL_law_218 : decode cL_law 218 = .ok (.if_icmp .eq 707, 3) := by decide +kernel
theorem dL_law_221 : decode cL_law 221 = .ok (.iconst 0, 1) := by decide +kernel
theorem dL_law_222 : decode cL_law 222 = .ok (.ireturn, 1) := by decide +kernel
theorem dL_law_223 : decode cL_law 223 = .ok (.aload_n 1, 1) := by decide +kernel
theorem dL_law_224 : decode cL_law 224 = .ok (.aload_n 0, 1) := by decide +kernel
theorem dL_law_225 : decode cL_law 225 = .ok (.iload_n 3, 1) := by decide +kernel
theorem dL_law_226 : decode cL_law 226 = .ok (.iconst 1, 1) := by decide +kernel
theorem dL_law_227 : decode cL_law 227 = .ok (.iadd, 1) := by decide +kernel
theorem dL_law_228 : decode cL_law 228 = .ok (.iaload, 1) := by decide +kernel
theorem dL_law_229 : decode cL_law 229 = .ok (.aload_n 0, 1) := by decide +kernel
theorem dL_law_230 : decode cL_law 230 = .ok (.iload_n 3, 1) := by decide +kernel
theorem dL_law_231 : decode cL_law 231 = .ok (.iconst 2, 1) := by decide +kernel
theorem dL_law_232 : decode cL_law 232 = .ok (.iadd, 1) := by decide +kernel
theorem dL_law_233 : decode cL_law 233 = .ok (.iaload, 1) := by decide +kernel
theorem dL_law_234 : decode cL_law 234 = .ok (.aload_n 0, 1) := by decide +kernel
theorem dL_law_235 : decode cL_law 235 = .ok (.iload_n 3, 1) := by decide +kernel
theorem dL_law_236 : decode cL_law 236 = .ok (.iconst 3, 1) := by decide +kernel
theorem dL_law_237 : decode cL_law 237 = .ok (.iadd, 1) := by decide +kernel
theorem dL_law_238 : decode cL_law 238 = .ok (.iaload, 1) := by decide +kernel
theorem dL_law_239 : decode cL_law 239 = .ok (.invokevirtual 30, 3) := by decide +kernel
theorem dL_law_242 : decode cL_law 242 = .ok (.aload_n 2, 1) := by decide +kernel
theorem dL_law_243 : decode cL_law 243 = .ok (.aload_n 0, 1) := by decide +kernel
theorem dL_law_244 : decode cL_law 244 = .ok (.iload_n 3, 1) := by decide +kernel
theorem dL_law_245 : decode cL_law 245 = .ok (.iconst 1, 1) := by decide +kernel
theorem dL_law_246 : decode cL_law 246 = .ok (.iadd, 1) := by decide +kernel
theorem dL_law_247 : decode cL_law 247 = .ok (.iaload, 1) := by decide +kernel
theorem dL_law_248 : decode cL_law 248 = .ok (.aload_n 0, 1) := by decide +kernel
theorem dL_law_249 : decode cL_law 249 = .ok (.iload_n 3, 1) := by decide +kernel
theorem dL_law_250 : decode cL_law 250 = .ok (.iconst 2, 1) := by decide +kernel
theorem dL_law_251 : decode cL_law 251 = .ok (.iadd, 1) := by decide +kernel
theorem dL_law_252 : decode cL_law 252 = .ok (.iaload, 1) := by decide +kernel
theorem dL_law_253 : decode cL_law 253 = .ok (.aload_n 0, 1) := by decide +kernel
theorem dL_law_254 : decode cL_law 254 = .ok (.iload_n 3, 1) := by decide +kernel
theorem dL_law_255 : decode cL_law 255 = .ok (.iconst 3, 1) := by decide +kernel
theorem dL_law_256 : decode cL_law 256 = .ok (.iadd, 1) := by decide +kernel
theorem dL_law_257 : decode cL_law 257 = .ok (.iaload, 1) := by decide +kernel
theorem dL_law_258 : decode cL_law 258 = .ok (.invokevirtual 34, 3) := by decide +kernel
theorem dL_law_261 : decode cL_law 261 = .ok (.if_icmp .eq 664, 3) := by decide +kernel
theorem dL_law_264 : decode cL_law 264 = .ok (.iconst 0, 1) := by decide +kernel
theorem dL_law_265 : decode cL_law 265 = .ok (.ireturn, 1) := by decide +kernel
theorem dL_law_266 : decode cL_law 266 = .ok (.aload_n 1, 1) := by decide +kernel
theorem dL_law_267 : decode cL_law 267 = .ok (.aload_n 0, 1) := by decide +kernel
theorem dL_law_268 : decode cL_law 268 = .ok (.iload_n 3, 1) := by decide +kernel
theorem dL_law_269 : decode cL_law 269 = .ok (.iconst 1, 1) := by decide +kernel
theorem dL_law_270 : decode cL_law 270 = .ok (.iadd, 1) := by decide +kernel
theorem dL_law_271 : decode cL_law 271 = .ok (.iaload, 1) := by decide +kernel
theorem dL_law_272 : decode cL_law 272 = .ok (.invokevirtual 35, 3) := by decide +kernel
theorem dL_law_275 : decode cL_law 275 = .ok (.aload_n 2, 1) := by decide +kernel
theorem dL_law_276 : decode cL_law 276 = .ok (.aload_n 0, 1) := by decide +kernel
theorem dL_law_277 : decode cL_law 277 = .ok (.iload_n 3, 1) := by decide +kernel
theorem dL_law_278 : decode cL_law 278 = .ok (.iconst 1, 1) := by decide +kernel
theorem dL_law_279 : decode cL_law 279 = .ok (.iadd, 1) := by decide +kernel
theorem dL_law_280 : decode cL_law 280 = .ok (.iaload, 1) := by decide +kernel
theorem dL_law_281 : decode cL_law 281 = .ok (.invokevirtual 38, 3) := by decide +kernel
theorem dL_law_284 : decode cL_law 284 = .ok (.if_icmp .eq 641, 3) := by decide +kernel
theorem dL_law_287 : decode cL_law 287 = .ok (.iconst 0, 1) := by decide +kernel
theorem dL_law_288 : decode cL_law 288 = .ok (.ireturn, 1) := by decide +kernel
theorem dL_law_289 : decode cL_law 289 = .ok (.aload_n 1, 1) := by decide +kernel
theorem dL_law_290 : decode cL_law 290 = .ok (.aload_n 0, 1) := by decide +kernel
theorem dL_law_291 : decode cL_law 291 = .ok (.iload_n 3, 1) := by decide +kernel
theorem dL_law_292 : decode cL_law 292 = .ok (.iconst 1, 1) := by decide +kernel
theorem dL_law_293 : decode cL_law 293 = .ok (.iadd, 1) := by decide +kernel
theorem dL_law_294 : decode cL_law 294 = .ok (.iaload, 1) := by decide +kernel
theorem dL_law_295 : decode cL_law 295 = .ok (.aload_n 0, 1) := by decide +kernel
theorem dL_law_296 : decode cL_law 296 = .ok (.iload_n 3, 1) := by decide +kernel
theorem dL_law_297 : decode cL_law 297 = .ok (.iconst 2, 1) := by decide +kernel
theorem dL_law_298 : decode cL_law 298 = .ok (.iadd, 1) := by decide +kernel
theorem dL_law_299 : decode cL_law 299 = .ok (.iaload, 1) := by decide +kernel
theorem dL_law_300 : decode cL_law 300 = .ok (.invokevirtual 39, 3) := by decide +kernel
theorem dL_law_303 : decode cL_law 303 = .ok (.aload_n 2, 1) := by decide +kernel
theorem dL_law_304 : decode cL_law 304 = .ok (.aload_n 0, 1) := by decide +kernel
theorem dL_law_305 : decode cL_law 305 = .ok (.iload_n 3, 1) := by decide +kernel
theorem dL_law_306 : decode cL_law 306 = .ok (.iconst 1, 1) := by decide +kernel
theorem dL_law_307 : decode cL_law 307 = .ok (.iadd, 1) := by decide +kernel
theorem dL_law_308 : decode cL_law 308 = .ok (.iaload, 1) := by decide +kernel
theorem dL_law_309 : decode cL_law 309 = .ok (.aload_n 0, 1) := by decide +kernel
theorem dL_law_310 : decode cL_law 310 = .ok (.iload_n 3, 1) := by decide +kernel
theorem dL_law_311 : decode cL_law 311 = .ok (.iconst 2, 1) := by decide +kernel
theorem dL_law_312 : decode cL_law 312 = .ok (.iadd, 1) := by decide +kernel
theorem dL_law_313 : decode cL_law 313 = .ok (.iaload, 1) := by decide +kernel
theorem dL_law_314 : decode cL_law 314 = .ok (.invokevirtual 43, 3) := by decide +kernel
theorem dL_law_317 : decode cL_law 317 = .ok (.if_icmp .eq 608, 3) := by decide +kernel
theorem dL_law_320 : decode cL_law 320 = .ok (.iconst 0, 1) := by decide +kernel
theorem dL_law_321 : decode cL_law 321 = .ok (.ireturn, 1) := by decide +kernel
theorem dL_law_322 : decode cL_law 322 = .ok (.aload_n 1, 1) := by decide +kernel
theorem dL_law_323 : decode cL_law 323 = .ok (.invokevirtual 44, 3) := by decide +kernel
theorem dL_law_326 : decode cL_law 326 = .ok (.aload_n 2, 1) := by decide +kernel
theorem dL_law_327 : decode cL_law 327 = .ok (.invokevirtual 47, 3) := by decide +kernel
theorem dL_law_330 : decode cL_law 330 = .ok (.if_icmp .eq 595, 3) := by decide +kernel
theorem dL_law_333 : decode cL_law 333 = .ok (.iconst 0, 1) := by decide +kernel
theorem dL_law_334 : decode cL_law 334 = .ok (.ireturn, 1) := by decide +kernel
theorem dL_law_335 : decode cL_law 335 = .ok (.aload_n 1, 1) := by decide +kernel
theorem dL_law_336 : decode cL_law 336 = .ok (.aload_n 0, 1) := by decide +kernel
theorem dL_law_337 : decode cL_law 337 = .ok (.iload_n 3, 1) := by decide +kernel
theorem dL_law_338 : decode cL_law 338 = .ok (.iconst 1, 1) := by decide +kernel
theorem dL_law_339 : decode cL_law 339 = .ok (.iadd, 1) := by decide +kernel
theorem dL_law_340 : decode cL_law 340 = .ok (.iaload, 1) := by decide +kernel
theorem dL_law_341 : decode cL_law 341 = .ok (.invokevirtual 48, 3) := by decide +kernel
theorem dL_law_344 : decode cL_law 344 = .ok (.aload_n 2, 1) := by decide +kernel
theorem dL_law_345 : decode cL_law 345 = .ok (.aload_n 0, 1) := by decide +kernel
theorem dL_law_346 : decode cL_law 346 = .ok (.iload_n 3, 1) := by decide +kernel
theorem dL_law_347 : decode cL_law 347 = .ok (.iconst 1, 1) := by decide +kernel
theorem dL_law_348 : decode cL_law 348 = .ok (.iadd, 1) := by decide +kernel
theorem dL_law_349 : decode cL_law 349 = .ok (.iaload, 1) := by decide +kernel
theorem dL_law_350 : decode cL_law 350 = .ok (.invokevirtual 51, 3) := by decide +kernel
theorem dL_law_353 : decode cL_law 353 = .ok (.if_icmp .eq 572, 3) := by decide +kernel
theorem dL_law_356 : decode cL_law 356 = .ok (.iconst 0, 1) := by decide +kernel
theorem dL_law_357 : decode cL_law 357 = .ok (.ireturn, 1) := by decide +kernel
theorem dL_law_358 : decode cL_law 358 = .ok (.aload_n 1, 1) := by decide +kernel
theorem dL_law_359 : decode cL_law 359 = .ok (.invokevirtual 52, 3) := by decide +kernel
theorem dL_law_362 : decode cL_law 362 = .ok (.aload_n 2, 1) := by decide +kernel
theorem dL_law_363 : decode cL_law 363 = .ok (.invokevirtual 55, 3) := by decide +kernel
theorem dL_law_366 : decode cL_law 366 = .ok (.if_icmp .eq 559, 3) := by decide +kernel
theorem dL_law_369 : decode cL_law 369 = .ok (.iconst 0, 1) := by decide +kernel
theorem dL_law_370 : decode cL_law 370 = .ok (.ireturn, 1) := by decide +kernel
theorem dL_law_371 : decode cL_law 371 = .ok (.aload_n 1, 1) := by decide +kernel
theorem dL_law_372 : decode cL_law 372 = .ok (.aload_n 0, 1) := by decide +kernel
theorem dL_law_373 : decode cL_law 373 = .ok (.iload_n 3, 1) := by decide +kernel
theorem dL_law_374 : decode cL_law 374 = .ok (.iconst 1, 1) := by decide +kernel
theorem dL_law_375 : decode cL_law 375 = .ok (.iadd, 1) := by decide +kernel
theorem dL_law_376 : decode cL_law 376 = .ok (.iaload, 1) := by decide +kernel
theorem dL_law_377 : decode cL_law 377 = .ok (.aload_n 0, 1) := by decide +kernel
theorem dL_law_378 : decode cL_law 378 = .ok (.iload_n 3, 1) := by decide +kernel
theorem dL_law_379 : decode cL_law 379 = .ok (.iconst 2, 1) := by decide +kernel
theorem dL_law_380 : decode cL_law 380 = .ok (.iadd, 1) := by decide +kernel
theorem dL_law_381 : decode cL_law 381 = .ok (.iaload, 1) := by decide +kernel
theorem dL_law_382 : decode cL_law 382 = .ok (.aload_n 0, 1) := by decide +kernel
theorem dL_law_383 : decode cL_law 383 = .ok (.iload_n 3, 1) := by decide +kernel
theorem dL_law_384 : decode cL_law 384 = .ok (.iconst 3, 1) := by decide +kernel
theorem dL_law_385 : decode cL_law 385 = .ok (.iadd, 1) := by decide +kernel
theorem dL_law_386 : decode cL_law 386 = .ok (.iaload, 1) := by decide +kernel
theorem dL_law_387 : decode cL_law 387 = .ok (.ifCond .eq 7, 3) := by decide +kernel
theorem dL_law_390 : decode cL_law 390 = .ok (.iconst 1, 1) := by decide +kernel
theorem dL_law_391 : decode cL_law 391 = .ok (.goto 4, 3) := by decide +kernel
theorem dL_law_394 : decode cL_law 394 = .ok (.iconst 0, 1) := by decide +kernel
theorem dL_law_395 : decode cL_law 395 = .ok (.invokevirtual 56, 3) := by decide +kernel
theorem dL_law_398 : decode cL_law 398 = .ok (.aload_n 2, 1) := by decide +kernel
theorem dL_law_399 : decode cL_law 399 = .ok (.aload_n 0, 1) := by decide +kernel
theorem dL_law_400 : decode cL_law 400 = .ok (.iload_n 3, 1) := by decide +kernel
theorem dL_law_401 : decode cL_law 401 = .ok (.iconst 1, 1) := by decide +kernel
theorem dL_law_402 : decode cL_law 402 = .ok (.iadd, 1) := by decide +kernel
theorem dL_law_403 : decode cL_law 403 = .ok (.iaload, 1) := by decide +kernel
theorem dL_law_404 : decode cL_law 404 = .ok (.aload_n 0, 1) := by decide +kernel
theorem dL_law_405 : decode cL_law 405 = .ok (.iload_n 3, 1) := by decide +kernel
theorem dL_law_406 : decode cL_law 406 = .ok (.iconst 2, 1) := by decide +kernel
theorem dL_law_407 : decode cL_law 407 = .ok (.iadd, 1) := by decide +kernel
theorem dL_law_408 : decode cL_law 408 = .ok (.iaload, 1) := by decide +kernel
theorem dL_law_409 : decode cL_law 409 = .ok (.aload_n 0, 1) := by decide +kernel
theorem dL_law_410 : decode cL_law 410 = .ok (.iload_n 3, 1) := by decide +kernel
theorem dL_law_411 : decode cL_law 411 = .ok (.iconst 3, 1) := by decide +kernel
theorem dL_law_412 : decode cL_law 412 = .ok (.iadd, 1) := by decide +kernel
theorem dL_law_413 : decode cL_law 413 = .ok (.iaload, 1) := by decide +kernel
theorem dL_law_414 : decode cL_law 414 = .ok (.ifCond .eq 7, 3) := by decide +kernel
theorem dL_law_417 : decode cL_law 417 = .ok (.iconst 1, 1) := by decide +kernel
theorem dL_law_418 : decode cL_law 418 = .ok (.goto 4, 3) := by decide +kernel
theorem dL_law_421 : decode cL_law 421 = .ok (.iconst 0, 1) := by decide +kernel
theorem dL_law_422 : decode cL_law 422 = .ok (.invokevirtual 60, 3) := by decide +kernel
theorem dL_law_425 : decode cL_law 425 = .ok (.if_icmp .eq 500, 3) := by decide +kernel
theorem dL_law_428 : decode cL_law 428 = .ok (.iconst 0, 1) := by decide +kernel
theorem dL_law_429 : decode cL_law 429 = .ok (.ireturn, 1) := by decide +kernel
theorem dL_law_430 : decode cL_law 430 = .ok (.aload_n 1, 1) := by decide +kernel
theorem dL_law_431 : decode cL_law 431 = .ok (.aload_n 0, 1) := by decide +kernel
theorem dL_law_432 : decode cL_law 432 = .ok (.iload_n 3, 1) := by decide +kernel
theorem dL_law_433 : decode cL_law 433 = .ok (.iconst 1, 1) := by decide +kernel
theorem dL_law_434 : decode cL_law 434 = .ok (.iadd, 1) := by decide +kernel
theorem dL_law_435 : decode cL_law 435 = .ok (.iaload, 1) := by decide +kernel
theorem dL_law_436 : decode cL_law 436 = .ok (.aload_n 0, 1) := by decide +kernel
theorem dL_law_437 : decode cL_law 437 = .ok (.iload_n 3, 1) := by decide +kernel
theorem dL_law_438 : decode cL_law 438 = .ok (.iconst 2, 1) := by decide +kernel
theorem dL_law_439 : decode cL_law 439 = .ok (.iadd, 1) := by decide +kernel
theorem dL_law_440 : decode cL_law 440 = .ok (.iaload, 1) := by decide +kernel
theorem dL_law_441 : decode cL_law 441 = .ok (.invokevirtual 61, 3) := by decide +kernel
theorem dL_law_444 : decode cL_law 444 = .ok (.aload_n 2, 1) := by decide +kernel
theorem dL_law_445 : decode cL_law 445 = .ok (.aload_n 0, 1) := by decide +kernel
theorem dL_law_446 : decode cL_law 446 = .ok (.iload_n 3, 1) := by decide +kernel
theorem dL_law_447 : decode cL_law 447 = .ok (.iconst 1, 1) := by decide +kernel
theorem dL_law_448 : decode cL_law 448 = .ok (.iadd, 1) := by decide +kernel
theorem dL_law_449 : decode cL_law 449 = .ok (.iaload, 1) := by decide +kernel
theorem dL_law_450 : decode cL_law 450 = .ok (.aload_n 0, 1) := by decide +kernel
theorem dL_law_451 : decode cL_law 451 = .ok (.iload_n 3, 1) := by decide +kernel
theorem dL_law_452 : decode cL_law 452 = .ok (.iconst 2, 1) := by decide +kernel
theorem dL_law_453 : decode cL_law 453 = .ok (.iadd, 1) := by decide +kernel
theorem dL_law_454 : decode cL_law 454 = .ok (.iaload, 1) := by decide +kernel
theorem dL_law_455 : decode cL_law 455 = .ok (.invokevirtual 64, 3) := by decide +kernel
theorem dL_law_458 : decode cL_law 458 = .ok (.if_icmp .eq 467, 3) := by decide +kernel
theorem dL_law_461 : decode cL_law 461 = .ok (.iconst 0, 1) := by decide +kernel
theorem dL_law_462 : decode cL_law 462 = .ok (.ireturn, 1) := by decide +kernel
theorem dL_law_463 : decode cL_law 463 = .ok (.aload_n 1, 1) := by decide +kernel
theorem dL_law_464 : decode cL_law 464 = .ok (.aload_n 0, 1) := by decide +kernel
theorem dL_law_465 : decode cL_law 465 = .ok (.iload_n 3, 1) := by decide +kernel
theorem dL_law_466 : decode cL_law 466 = .ok (.iconst 1, 1) := by decide +kernel
theorem dL_law_467 : decode cL_law 467 = .ok (.iadd, 1) := by decide +kernel
theorem dL_law_468 : decode cL_law 468 = .ok (.iaload, 1) := by decide +kernel
theorem dL_law_469 : decode cL_law 469 = .ok (.aload_n 0, 1) := by decide +kernel
theorem dL_law_470 : decode cL_law 470 = .ok (.iload_n 3, 1) := by decide +kernel
theorem dL_law_471 : decode cL_law 471 = .ok (.iconst 2, 1) := by decide +kernel
theorem dL_law_472 : decode cL_law 472 = .ok (.iadd, 1) := by decide +kernel
theorem dL_law_473 : decode cL_law 473 = .ok (.iaload, 1) := by decide +kernel
theorem dL_law_474 : decode cL_law 474 = .ok (.invokevirtual 65, 3) := by decide +kernel
theorem dL_law_477 : decode cL_law 477 = .ok (.aload_n 2, 1) := by decide +kernel
theorem dL_law_478 : decode cL_law 478 = .ok (.aload_n 0, 1) := by decide +kernel
theorem dL_law_479 : decode cL_law 479 = .ok (.iload_n 3, 1) := by decide +kernel
theorem dL_law_480 : decode cL_law 480 = .ok (.iconst 1, 1) := by decide +kernel
theorem dL_law_481 : decode cL_law 481 = .ok (.iadd, 1) := by decide +kernel
theorem dL_law_482 : decode cL_law 482 = .ok (.iaload, 1) := by decide +kernel
theorem dL_law_483 : decode cL_law 483 = .ok (.aload_n 0, 1) := by decide +kernel
theorem dL_law_484 : decode cL_law 484 = .ok (.iload_n 3, 1) := by decide +kernel
theorem dL_law_485 : decode cL_law 485 = .ok (.iconst 2, 1) := by decide +kernel
theorem dL_law_486 : decode cL_law 486 = .ok (.iadd, 1) := by decide +kernel
theorem dL_law_487 : decode cL_law 487 = .ok (.iaload, 1) := by decide +kernel
theorem dL_law_488 : decode cL_law 488 = .ok (.invokevirtual 68, 3) := by decide +kernel
theorem dL_law_491 : decode cL_law 491 = .ok (.if_icmp .eq 434, 3) := by decide +kernel
theorem dL_law_494 : decode cL_law 494 = .ok (.iconst 0, 1) := by decide +kernel
theorem dL_law_495 : decode cL_law 495 = .ok (.ireturn, 1) := by decide +kernel
theorem dL_law_496 : decode cL_law 496 = .ok (.aload_n 1, 1) := by decide +kernel
theorem dL_law_497 : decode cL_law 497 = .ok (.aload_n 0, 1) := by decide +kernel
theorem dL_law_498 : decode cL_law 498 = .ok (.iload_n 3, 1) := by decide +kernel
theorem dL_law_499 : decode cL_law 499 = .ok (.iconst 1, 1) := by decide +kernel
theorem dL_law_500 : decode cL_law 500 = .ok (.iadd, 1) := by decide +kernel
theorem dL_law_501 : decode cL_law 501 = .ok (.iaload, 1) := by decide +kernel
theorem dL_law_502 : decode cL_law 502 = .ok (.aload_n 0, 1) := by decide +kernel
theorem dL_law_503 : decode cL_law 503 = .ok (.iload_n 3, 1) := by decide +kernel
theorem dL_law_504 : decode cL_law 504 = .ok (.iconst 2, 1) := by decide +kernel
theorem dL_law_505 : decode cL_law 505 = .ok (.iadd, 1) := by decide +kernel
theorem dL_law_506 : decode cL_law 506 = .ok (.iaload, 1) := by decide +kernel
theorem dL_law_507 : decode cL_law 507 = .ok (.ifCond .eq 7, 3) := by decide +kernel
theorem dL_law_510 : decode cL_law 510 = .ok (.iconst 1, 1) := by decide +kernel
theorem dL_law_511 : decode cL_law 511 = .ok (.goto 4, 3) := by decide +kernel
theorem dL_law_514 : decode cL_law 514 = .ok (.iconst 0, 1) := by decide +kernel
theorem dL_law_515 : decode cL_law 515 = .ok (.aload_n 0, 1) := by decide +kernel
theorem dL_law_516 : decode cL_law 516 = .ok (.iload_n 3, 1) := by decide +kernel
theorem dL_law_517 : decode cL_law 517 = .ok (.iconst 3, 1) := by decide +kernel
theorem dL_law_518 : decode cL_law 518 = .ok (.iadd, 1) := by decide +kernel
theorem dL_law_519 : decode cL_law 519 = .ok (.iaload, 1) := by decide +kernel
theorem dL_law_520 : decode cL_law 520 = .ok (.invokevirtual 69, 3) := by decide +kernel
theorem dL_law_523 : decode cL_law 523 = .ok (.aload_n 2, 1) := by decide +kernel
theorem dL_law_524 : decode cL_law 524 = .ok (.aload_n 0, 1) := by decide +kernel
theorem dL_law_525 : decode cL_law 525 = .ok (.iload_n 3, 1) := by decide +kernel
theorem dL_law_526 : decode cL_law 526 = .ok (.iconst 1, 1) := by decide +kernel
theorem dL_law_527 : decode cL_law 527 = .ok (.iadd, 1) := by decide +kernel
theorem dL_law_528 : decode cL_law 528 = .ok (.iaload, 1) := by decide +kernel
theorem dL_law_529 : decode cL_law 529 = .ok (.aload_n 0, 1) := by decide +kernel
theorem dL_law_530 : decode cL_law 530 = .ok (.iload_n 3, 1) := by decide +kernel
theorem dL_law_531 : decode cL_law 531 = .ok (.iconst 2, 1) := by decide +kernel
theorem dL_law_532 : decode cL_law 532 = .ok (.iadd, 1) := by decide +kernel
theorem dL_law_533 : decode cL_law 533 = .ok (.iaload, 1) := by decide +kernel
theorem dL_law_534 : decode cL_law 534 = .ok (.ifCond .eq 7, 3) := by decide +kernel
theorem dL_law_537 : decode cL_law 537 = .ok (.iconst 1, 1) := by decide +kernel
theorem dL_law_538 : decode cL_law 538 = .ok (.goto 4, 3) := by decide +kernel
theorem dL_law_541 : decode cL_law 541 = .ok (.iconst 0, 1) := by decide +kernel
theorem dL_law_542 : decode cL_law 542 = .ok (.aload_n 0, 1) := by decide +kernel
theorem dL_law_543 : decode cL_law 543 = .ok (.iload_n 3, 1) := by decide +kernel
theorem dL_law_544 : decode cL_law 544 = .ok (.iconst 3, 1) := by decide +kernel
theorem dL_law_545 : decode cL_law 545 = .ok (.iadd, 1) := by decide +kernel
theorem dL_law_546 : decode cL_law 546 = .ok (.iaload, 1) := by decide +kernel
theorem dL_law_547 : decode cL_law 547 = .ok (.invokevirtual 73, 3) := by decide +kernel
theorem dL_law_550 : decode cL_law 550 = .ok (.if_icmp .eq 375, 3) := by decide +kernel
theorem dL_law_553 : decode cL_law 553 = .ok (.iconst 0, 1) := by decide +kernel
theorem dL_law_554 : decode cL_law 554 = .ok (.ireturn, 1) := by decide +kernel
theorem dL_law_555 : decode cL_law 555 = .ok (.aload_n 1, 1) := by decide +kernel
theorem dL_law_556 : decode cL_law 556 = .ok (.aload_n 0, 1) := by decide +kernel
theorem dL_law_557 : decode cL_law 557 = .ok (.iload_n 3, 1) := by decide +kernel
theorem dL_law_558 : decode cL_law 558 = .ok (.iconst 1, 1) := by decide +kernel
theorem dL_law_559 : decode cL_law 559 = .ok (.iadd, 1) := by decide +kernel
theorem dL_law_560 : decode cL_law 560 = .ok (.iaload, 1) := by decide +kernel
theorem dL_law_561 : decode cL_law 561 = .ok (.aload_n 0, 1) := by decide +kernel
theorem dL_law_562 : decode cL_law 562 = .ok (.iload_n 3, 1) := by decide +kernel
theorem dL_law_563 : decode cL_law 563 = .ok (.iconst 2, 1) := by decide +kernel
theorem dL_law_564 : decode cL_law 564 = .ok (.iadd, 1) := by decide +kernel
theorem dL_law_565 : decode cL_law 565 = .ok (.iaload, 1) := by decide +kernel
theorem dL_law_566 : decode cL_law 566 = .ok (.aload_n 0, 1) := by decide +kernel
theorem dL_law_567 : decode cL_law 567 = .ok (.iload_n 3, 1) := by decide +kernel
theorem dL_law_568 : decode cL_law 568 = .ok (.iconst 3, 1) := by decide +kernel
theorem dL_law_569 : decode cL_law 569 = .ok (.iadd, 1) := by decide +kernel
theorem dL_law_570 : decode cL_law 570 = .ok (.iaload, 1) := by decide +kernel
theorem dL_law_571 : decode cL_law 571 = .ok (.ifCond .eq 7, 3) := by decide +kernel
theorem dL_law_574 : decode cL_law 574 = .ok (.iconst 1, 1) := by decide +kernel
theorem dL_law_575 : decode cL_law 575 = .ok (.goto 4, 3) := by decide +kernel
theorem dL_law_578 : decode cL_law 578 = .ok (.iconst 0, 1) := by decide +kernel
theorem dL_law_579 : decode cL_law 579 = .ok (.invokevirtual 74, 3) := by decide +kernel
theorem dL_law_582 : decode cL_law 582 = .ok (.aload_n 2, 1) := by decide +kernel
theorem dL_law_583 : decode cL_law 583 = .ok (.aload_n 0, 1) := by decide +kernel
theorem dL_law_584 : decode cL_law 584 = .ok (.iload_n 3, 1) := by decide +kernel
theorem dL_law_585 : decode cL_law 585 = .ok (.iconst 1, 1) := by decide +kernel
theorem dL_law_586 : decode cL_law 586 = .ok (.iadd, 1) := by decide +kernel
theorem dL_law_587 : decode cL_law 587 = .ok (.iaload, 1) := by decide +kernel
theorem dL_law_588 : decode cL_law 588 = .ok (.aload_n 0, 1) := by decide +kernel
theorem dL_law_589 : decode cL_law 589 = .ok (.iload_n 3, 1) := by decide +kernel
theorem dL_law_590 : decode cL_law 590 = .ok (.iconst 2, 1) := by decide +kernel
theorem dL_law_591 : decode cL_law 591 = .ok (.iadd, 1) := by decide +kernel
theorem dL_law_592 : decode cL_law 592 = .ok (.iaload, 1) := by decide +kernel
theorem dL_law_593 : decode cL_law 593 = .ok (.aload_n 0, 1) := by decide +kernel
theorem dL_law_594 : decode cL_law 594 = .ok (.iload_n 3, 1) := by decide +kernel
theorem dL_law_595 : decode cL_law 595 = .ok (.iconst 3, 1) := by decide +kernel
theorem dL_law_596 : decode cL_law 596 = .ok (.iadd, 1) := by decide +kernel
theorem dL_law_597 : decode cL_law 597 = .ok (.iaload, 1) := by decide +kernel
theorem dL_law_598 : decode cL_law 598 = .ok (.ifCond .eq 7, 3) := by decide +kernel
theorem dL_law_601 : decode cL_law 601 = .ok (.iconst 1, 1) := by decide +kernel
theorem dL_law_602 : decode cL_law 602 = .ok (.goto 4, 3) := by decide +kernel
theorem dL_law_605 : decode cL_law 605 = .ok (.iconst 0, 1) := by decide +kernel
theorem dL_law_606 : decode cL_law 606 = .ok (.invokevirtual 77, 3) := by decide +kernel
theorem dL_law_609 : decode cL_law 609 = .ok (.if_icmp .eq 316, 3) := by decide +kernel
theorem dL_law_612 : decode cL_law 612 = .ok (.iconst 0, 1) := by decide +kernel
theorem dL_law_613 : decode cL_law 613 = .ok (.ireturn, 1) := by decide +kernel
theorem dL_law_614 : decode cL_law 614 = .ok (.aload_n 1, 1) := by decide +kernel
theorem dL_law_615 : decode cL_law 615 = .ok (.aload_n 0, 1) := by decide +kernel
theorem dL_law_616 : decode cL_law 616 = .ok (.iload_n 3, 1) := by decide +kernel
theorem dL_law_617 : decode cL_law 617 = .ok (.iconst 1, 1) := by decide +kernel
theorem dL_law_618 : decode cL_law 618 = .ok (.iadd, 1) := by decide +kernel
theorem dL_law_619 : decode cL_law 619 = .ok (.iaload, 1) := by decide +kernel
theorem dL_law_620 : decode cL_law 620 = .ok (.invokevirtual 78, 3) := by decide +kernel
theorem dL_law_623 : decode cL_law 623 = .ok (.aload_n 2, 1) := by decide +kernel
theorem dL_law_624 : decode cL_law 624 = .ok (.aload_n 0, 1) := by decide +kernel
theorem dL_law_625 : decode cL_law 625 = .ok (.iload_n 3, 1) := by decide +kernel
theorem dL_law_626 : decode cL_law 626 = .ok (.iconst 1, 1) := by decide +kernel
theorem dL_law_627 : decode cL_law 627 = .ok (.iadd, 1) := by decide +kernel
theorem dL_law_628 : decode cL_law 628 = .ok (.iaload, 1) := by decide +kernel
theorem dL_law_629 : decode cL_law 629 = .ok (.invokevirtual 81, 3) := by decide +kernel
theorem dL_law_632 : decode cL_law 632 = .ok (.if_icmp .eq 293, 3) := by decide +kernel
theorem dL_law_635 : decode cL_law 635 = .ok (.iconst 0, 1) := by decide +kernel
theorem dL_law_636 : decode cL_law 636 = .ok (.ireturn, 1) := by decide +kernel
theorem dL_law_637 : decode cL_law 637 = .ok (.aload_n 1, 1) := by decide +kernel
theorem dL_law_638 : decode cL_law 638 = .ok (.aload_n 0, 1) := by decide +kernel
theorem dL_law_639 : decode cL_law 639 = .ok (.iload_n 3, 1) := by decide +kernel
theorem dL_law_640 : decode cL_law 640 = .ok (.iconst 1, 1) := by decide +kernel
theorem dL_law_641 : decode cL_law 641 = .ok (.iadd, 1) := by decide +kernel
theorem dL_law_642 : decode cL_law 642 = .ok (.iaload, 1) := by decide +kernel
theorem dL_law_643 : decode cL_law 643 = .ok (.aload_n 0, 1) := by decide +kernel
theorem dL_law_644 : decode cL_law 644 = .ok (.iload_n 3, 1) := by decide +kernel
theorem dL_law_645 : decode cL_law 645 = .ok (.iconst 2, 1) := by decide +kernel
theorem dL_law_646 : decode cL_law 646 = .ok (.iadd, 1) := by decide +kernel
theorem dL_law_647 : decode cL_law 647 = .ok (.iaload, 1) := by decide +kernel
theorem dL_law_648 : decode cL_law 648 = .ok (.aload_n 0, 1) := by decide +kernel
theorem dL_law_649 : decode cL_law 649 = .ok (.iload_n 3, 1) := by decide +kernel
theorem dL_law_650 : decode cL_law 650 = .ok (.iconst 3, 1) := by decide +kernel
theorem dL_law_651 : decode cL_law 651 = .ok (.iadd, 1) := by decide +kernel
theorem dL_law_652 : decode cL_law 652 = .ok (.iaload, 1) := by decide +kernel
theorem dL_law_653 : decode cL_law 653 = .ok (.ifCond .eq 7, 3) := by decide +kernel
theorem dL_law_656 : decode cL_law 656 = .ok (.iconst 1, 1) := by decide +kernel
theorem dL_law_657 : decode cL_law 657 = .ok (.goto 4, 3) := by decide +kernel
theorem dL_law_660 : decode cL_law 660 = .ok (.iconst 0, 1) := by decide +kernel
theorem dL_law_661 : decode cL_law 661 = .ok (.invokevirtual 82, 3) := by decide +kernel
theorem dL_law_664 : decode cL_law 664 = .ok (.aload_n 2, 1) := by decide +kernel
theorem dL_law_665 : decode cL_law 665 = .ok (.aload_n 0, 1) := by decide +kernel
theorem dL_law_666 : decode cL_law 666 = .ok (.iload_n 3, 1) := by decide +kernel
theorem dL_law_667 : decode cL_law 667 = .ok (.iconst 1, 1) := by decide +kernel
theorem dL_law_668 : decode cL_law 668 = .ok (.iadd, 1) := by decide +kernel
theorem dL_law_669 : decode cL_law 669 = .ok (.iaload, 1) := by decide +kernel
theorem dL_law_670 : decode cL_law 670 = .ok (.aload_n 0, 1) := by decide +kernel
theorem dL_law_671 : decode cL_law 671 = .ok (.iload_n 3, 1) := by decide +kernel
theorem dL_law_672 : decode cL_law 672 = .ok (.iconst 2, 1) := by decide +kernel
theorem dL_law_673 : decode cL_law 673 = .ok (.iadd, 1) := by decide +kernel
theorem dL_law_674 : decode cL_law 674 = .ok (.iaload, 1) := by decide +kernel
theorem dL_law_675 : decode cL_law 675 = .ok (.aload_n 0, 1) := by decide +kernel
theorem dL_law_676 : decode cL_law 676 = .ok (.iload_n 3, 1) := by decide +kernel
theorem dL_law_677 : decode cL_law 677 = .ok (.iconst 3, 1) := by decide +kernel
theorem dL_law_678 : decode cL_law 678 = .ok (.iadd, 1) := by decide +kernel
theorem dL_law_679 : decode cL_law 679 = .ok (.iaload, 1) := by decide +kernel
theorem dL_law_680 : decode cL_law 680 = .ok (.ifCond .eq 7, 3) := by decide +kernel
theorem dL_law_683 : decode cL_law 683 = .ok (.iconst 1, 1) := by decide +kernel
theorem dL_law_684 : decode cL_law 684 = .ok (.goto 4, 3) := by decide +kernel
theorem dL_law_687 : decode cL_law 687 = .ok (.iconst 0, 1) := by decide +kernel
theorem dL_law_688 : decode cL_law 688 = .ok (.invokevirtual 85, 3) := by decide +kernel
theorem dL_law_691 : decode cL_law 691 = .ok (.if_icmp .eq 234, 3) := by decide +kernel
theorem dL_law_694 : decode cL_law 694 = .ok (.iconst 0, 1) := by decide +kernel
theorem dL_law_695 : decode cL_law 695 = .ok (.ireturn, 1) := by decide +kernel
theorem dL_law_696 : decode cL_law 696 = .ok (.aload_n 1, 1) := by decide +kernel
theorem dL_law_697 : decode cL_law 697 = .ok (.aload_n 0, 1) := by decide +kernel
theorem dL_law_698 : decode cL_law 698 = .ok (.iload_n 3, 1) := by decide +kernel
theorem dL_law_699 : decode cL_law 699 = .ok (.iconst 1, 1) := by decide +kernel
theorem dL_law_700 : decode cL_law 700 = .ok (.iadd, 1) := by decide +kernel
theorem dL_law_701 : decode cL_law 701 = .ok (.iaload, 1) := by decide +kernel
theorem dL_law_702 : decode cL_law 702 = .ok (.aload_n 0, 1) := by decide +kernel
theorem dL_law_703 : decode cL_law 703 = .ok (.iload_n 3, 1) := by decide +kernel
theorem dL_law_704 : decode cL_law 704 = .ok (.iconst 2, 1) := by decide +kernel
theorem dL_law_705 : decode cL_law 705 = .ok (.iadd, 1) := by decide +kernel
theorem dL_law_706 : decode cL_law 706 = .ok (.iaload, 1) := by decide +kernel
theorem dL_law_707 : decode cL_law 707 = .ok (.aload_n 0, 1) := by decide +kernel
theorem dL_law_708 : decode cL_law 708 = .ok (.iload_n 3, 1) := by decide +kernel
theorem dL_law_709 : decode cL_law 709 = .ok (.iconst 3, 1) := by decide +kernel
theorem dL_law_710 : decode cL_law 710 = .ok (.iadd, 1) := by decide +kernel
theorem dL_law_711 : decode cL_law 711 = .ok (.iaload, 1) := by decide +kernel
theorem dL_law_712 : decode cL_law 712 = .ok (.aload_n 0, 1) := by decide +kernel
theorem dL_law_713 : decode cL_law 713 = .ok (.iload_n 3, 1) := by decide +kernel
theorem dL_law_714 : decode cL_law 714 = .ok (.iconst 4, 1) := by decide +kernel
theorem dL_law_715 : decode cL_law 715 = .ok (.iadd, 1) := by decide +kernel
theorem dL_law_716 : decode cL_law 716 = .ok (.iaload, 1) := by decide +kernel
theorem dL_law_717 : decode cL_law 717 = .ok (.ifCond .eq 7, 3) := by decide +kernel
theorem dL_law_720 : decode cL_law 720 = .ok (.iconst 1, 1) := by decide +kernel
theorem dL_law_721 : decode cL_law 721 = .ok (.goto 4, 3) := by decide +kernel
theorem dL_law_724 : decode cL_law 724 = .ok (.iconst 0, 1) := by decide +kernel
theorem dL_law_725 : decode cL_law 725 = .ok (.aload_n 0, 1) := by decide +kernel
theorem dL_law_726 : decode cL_law 726 = .ok (.iload_n 3, 1) := by decide +kernel
theorem dL_law_727 : decode cL_law 727 = .ok (.iconst 5, 1) := by decide +kernel
theorem dL_law_728 : decode cL_law 728 = .ok (.iadd, 1) := by decide +kernel
theorem dL_law_729 : decode cL_law 729 = .ok (.iaload, 1) := by decide +kernel
theorem dL_law_730 : decode cL_law 730 = .ok (.invokevirtual 86, 3) := by decide +kernel
theorem dL_law_733 : decode cL_law 733 = .ok (.aload_n 2, 1) := by decide +kernel
theorem dL_law_734 : decode cL_law 734 = .ok (.aload_n 0, 1) := by decide +kernel
theorem dL_law_735 : decode cL_law 735 = .ok (.iload_n 3, 1) := by decide +kernel
theorem dL_law_736 : decode cL_law 736 = .ok (.iconst 1, 1) := by decide +kernel
theorem dL_law_737 : decode cL_law 737 = .ok (.iadd, 1) := by decide +kernel
theorem dL_law_738 : decode cL_law 738 = .ok (.iaload, 1) := by decide +kernel
theorem dL_law_739 : decode cL_law 739 = .ok (.aload_n 0, 1) := by decide +kernel
theorem dL_law_740 : decode cL_law 740 = .ok (.iload_n 3, 1) := by decide +kernel
theorem dL_law_741 : decode cL_law 741 = .ok (.iconst 2, 1) := by decide +kernel
theorem dL_law_742 : decode cL_law 742 = .ok (.iadd, 1) := by decide +kernel
theorem dL_law_743 : decode cL_law 743 = .ok (.iaload, 1) := by decide +kernel
theorem dL_law_744 : decode cL_law 744 = .ok (.aload_n 0, 1) := by decide +kernel
theorem dL_law_745 : decode cL_law 745 = .ok (.iload_n 3, 1) := by decide +kernel
theorem dL_law_746 : decode cL_law 746 = .ok (.iconst 3, 1) := by decide +kernel
theorem dL_law_747 : decode cL_law 747 = .ok (.iadd, 1) := by decide +kernel
theorem dL_law_748 : decode cL_law 748 = .ok (.iaload, 1) := by decide +kernel
theorem dL_law_749 : decode cL_law 749 = .ok (.aload_n 0, 1) := by decide +kernel
theorem dL_law_750 : decode cL_law 750 = .ok (.iload_n 3, 1) := by decide +kernel
theorem dL_law_751 : decode cL_law 751 = .ok (.iconst 4, 1) := by decide +kernel
theorem dL_law_752 : decode cL_law 752 = .ok (.iadd, 1) := by decide +kernel
theorem dL_law_753 : decode cL_law 753 = .ok (.iaload, 1) := by decide +kernel
theorem dL_law_754 : decode cL_law 754 = .ok (.ifCond .eq 7, 3) := by decide +kernel
theorem dL_law_757 : decode cL_law 757 = .ok (.iconst 1, 1) := by decide +kernel
theorem dL_law_758 : decode cL_law 758 = .ok (.goto 4, 3) := by decide +kernel
theorem dL_law_761 : decode cL_law 761 = .ok (.iconst 0, 1) := by decide +kernel
theorem dL_law_762 : decode cL_law 762 = .ok (.aload_n 0, 1) := by decide +kernel
theorem dL_law_763 : decode cL_law 763 = .ok (.iload_n 3, 1) := by decide +kernel
theorem dL_law_764 : decode cL_law 764 = .ok (.iconst 5, 1) := by decide +kernel
theorem dL_law_765 : decode cL_law 765 = .ok (.iadd, 1) := by decide +kernel
theorem dL_law_766 : decode cL_law 766 = .ok (.iaload, 1) := by decide +kernel
theorem dL_law_767 : decode cL_law 767 = .ok (.invokevirtual 90, 3) := by decide +kernel
theorem dL_law_770 : decode cL_law 770 = .ok (.if_icmp .eq 155, 3) := by decide +kernel
theorem dL_law_773 : decode cL_law 773 = .ok (.iconst 0, 1) := by decide +kernel
theorem dL_law_774 : decode cL_law 774 = .ok (.ireturn, 1) := by decide +kernel
theorem dL_law_775 : decode cL_law 775 = .ok (.aload_n 1, 1) := by decide +kernel
theorem dL_law_776 : decode cL_law 776 = .ok (.aload_n 0, 1) := by decide +kernel
theorem dL_law_777 : decode cL_law 777 = .ok (.iload_n 3, 1) := by decide +kernel
theorem dL_law_778 : decode cL_law 778 = .ok (.iconst 1, 1) := by decide +kernel
theorem dL_law_779 : decode cL_law 779 = .ok (.iadd, 1) := by decide +kernel
theorem dL_law_780 : decode cL_law 780 = .ok (.iaload, 1) := by decide +kernel
theorem dL_law_781 : decode cL_law 781 = .ok (.aload_n 0, 1) := by decide +kernel
theorem dL_law_782 : decode cL_law 782 = .ok (.iload_n 3, 1) := by decide +kernel
theorem dL_law_783 : decode cL_law 783 = .ok (.iconst 2, 1) := by decide +kernel
theorem dL_law_784 : decode cL_law 784 = .ok (.iadd, 1) := by decide +kernel
theorem dL_law_785 : decode cL_law 785 = .ok (.iaload, 1) := by decide +kernel
theorem dL_law_786 : decode cL_law 786 = .ok (.aload_n 0, 1) := by decide +kernel
theorem dL_law_787 : decode cL_law 787 = .ok (.iload_n 3, 1) := by decide +kernel
theorem dL_law_788 : decode cL_law 788 = .ok (.iconst 3, 1) := by decide +kernel
theorem dL_law_789 : decode cL_law 789 = .ok (.iadd, 1) := by decide +kernel
theorem dL_law_790 : decode cL_law 790 = .ok (.iaload, 1) := by decide +kernel
theorem dL_law_791 : decode cL_law 791 = .ok (.ifCond .eq 7, 3) := by decide +kernel
theorem dL_law_794 : decode cL_law 794 = .ok (.iconst 1, 1) := by decide +kernel
theorem dL_law_795 : decode cL_law 795 = .ok (.goto 4, 3) := by decide +kernel
theorem dL_law_798 : decode cL_law 798 = .ok (.iconst 0, 1) := by decide +kernel
theorem dL_law_799 : decode cL_law 799 = .ok (.invokevirtual 91, 3) := by decide +kernel
theorem dL_law_802 : decode cL_law 802 = .ok (.aload_n 2, 1) := by decide +kernel
theorem dL_law_803 : decode cL_law 803 = .ok (.aload_n 0, 1) := by decide +kernel
theorem dL_law_804 : decode cL_law 804 = .ok (.iload_n 3, 1) := by decide +kernel
theorem dL_law_805 : decode cL_law 805 = .ok (.iconst 1, 1) := by decide +kernel
theorem dL_law_806 : decode cL_law 806 = .ok (.iadd, 1) := by decide +kernel
theorem dL_law_807 : decode cL_law 807 = .ok (.iaload, 1) := by decide +kernel
theorem dL_law_808 : decode cL_law 808 = .ok (.aload_n 0, 1) := by decide +kernel
theorem dL_law_809 : decode cL_law 809 = .ok (.iload_n 3, 1) := by decide +kernel
theorem dL_law_810 : decode cL_law 810 = .ok (.iconst 2, 1) := by decide +kernel
theorem dL_law_811 : decode cL_law 811 = .ok (.iadd, 1) := by decide +kernel
theorem dL_law_812 : decode cL_law 812 = .ok (.iaload, 1) := by decide +kernel
theorem dL_law_813 : decode cL_law 813 = .ok (.aload_n 0, 1) := by decide +kernel
theorem dL_law_814 : decode cL_law 814 = .ok (.iload_n 3, 1) := by decide +kernel
theorem dL_law_815 : decode cL_law 815 = .ok (.iconst 3, 1) := by decide +kernel
theorem dL_law_816 : decode cL_law 816 = .ok (.iadd, 1) := by decide +kernel
theorem dL_law_817 : decode cL_law 817 = .ok (.iaload, 1) := by decide +kernel
theorem dL_law_818 : decode cL_law 818 = .ok (.ifCond .eq 7, 3) := by decide +kernel
theorem dL_law_821 : decode cL_law 821 = .ok (.iconst 1, 1) := by decide +kernel
theorem dL_law_822 : decode cL_law 822 = .ok (.goto 4, 3) := by decide +kernel
theorem dL_law_825 : decode cL_law 825 = .ok (.iconst 0, 1) := by decide +kernel
theorem dL_law_826 : decode cL_law 826 = .ok (.invokevirtual 94, 3) := by decide +kernel
theorem dL_law_829 : decode cL_law 829 = .ok (.if_icmp .eq 96, 3) := by decide +kernel
theorem dL_law_832 : decode cL_law 832 = .ok (.iconst 0, 1) := by decide +kernel
theorem dL_law_833 : decode cL_law 833 = .ok (.ireturn, 1) := by decide +kernel
theorem dL_law_834 : decode cL_law 834 = .ok (.aload_n 1, 1) := by decide +kernel
theorem dL_law_835 : decode cL_law 835 = .ok (.aload_n 0, 1) := by decide +kernel
theorem dL_law_836 : decode cL_law 836 = .ok (.iload_n 3, 1) := by decide +kernel
theorem dL_law_837 : decode cL_law 837 = .ok (.iconst 1, 1) := by decide +kernel
theorem dL_law_838 : decode cL_law 838 = .ok (.iadd, 1) := by decide +kernel
theorem dL_law_839 : decode cL_law 839 = .ok (.iaload, 1) := by decide +kernel
theorem dL_law_840 : decode cL_law 840 = .ok (.aload_n 0, 1) := by decide +kernel
theorem dL_law_841 : decode cL_law 841 = .ok (.iload_n 3, 1) := by decide +kernel
theorem dL_law_842 : decode cL_law 842 = .ok (.iconst 2, 1) := by decide +kernel
theorem dL_law_843 : decode cL_law 843 = .ok (.iadd, 1) := by decide +kernel
theorem dL_law_844 : decode cL_law 844 = .ok (.iaload, 1) := by decide +kernel
theorem dL_law_845 : decode cL_law 845 = .ok (.aload_n 0, 1) := by decide +kernel
theorem dL_law_846 : decode cL_law 846 = .ok (.iload_n 3, 1) := by decide +kernel
theorem dL_law_847 : decode cL_law 847 = .ok (.iconst 3, 1) := by decide +kernel
theorem dL_law_848 : decode cL_law 848 = .ok (.iadd, 1) := by decide +kernel
theorem dL_law_849 : decode cL_law 849 = .ok (.iaload, 1) := by decide +kernel
theorem dL_law_850 : decode cL_law 850 = .ok (.aload_n 0, 1) := by decide +kernel
theorem dL_law_851 : decode cL_law 851 = .ok (.iload_n 3, 1) := by decide +kernel
theorem dL_law_852 : decode cL_law 852 = .ok (.iconst 4, 1) := by decide +kernel
theorem dL_law_853 : decode cL_law 853 = .ok (.iadd, 1) := by decide +kernel
theorem dL_law_854 : decode cL_law 854 = .ok (.iaload, 1) := by decide +kernel
theorem dL_law_855 : decode cL_law 855 = .ok (.aload_n 0, 1) := by decide +kernel
theorem dL_law_856 : decode cL_law 856 = .ok (.iload_n 3, 1) := by decide +kernel
theorem dL_law_857 : decode cL_law 857 = .ok (.iconst 5, 1) := by decide +kernel
theorem dL_law_858 : decode cL_law 858 = .ok (.iadd, 1) := by decide +kernel
theorem dL_law_859 : decode cL_law 859 = .ok (.iaload, 1) := by decide +kernel
theorem dL_law_860 : decode cL_law 860 = .ok (.ifCond .eq 7, 3) := by decide +kernel
theorem dL_law_863 : decode cL_law 863 = .ok (.iconst 1, 1) := by decide +kernel
theorem dL_law_864 : decode cL_law 864 = .ok (.goto 4, 3) := by decide +kernel
theorem dL_law_867 : decode cL_law 867 = .ok (.iconst 0, 1) := by decide +kernel
theorem dL_law_868 : decode cL_law 868 = .ok (.aload_n 0, 1) := by decide +kernel
theorem dL_law_869 : decode cL_law 869 = .ok (.iload_n 3, 1) := by decide +kernel
theorem dL_law_870 : decode cL_law 870 = .ok (.bipush 6, 2) := by decide +kernel
theorem dL_law_872 : decode cL_law 872 = .ok (.iadd, 1) := by decide +kernel
theorem dL_law_873 : decode cL_law 873 = .ok (.iaload, 1) := by decide +kernel
theorem dL_law_874 : decode cL_law 874 = .ok (.invokevirtual 95, 3) := by decide +kernel
theorem dL_law_877 : decode cL_law 877 = .ok (.aload_n 2, 1) := by decide +kernel
theorem dL_law_878 : decode cL_law 878 = .ok (.aload_n 0, 1) := by decide +kernel
theorem dL_law_879 : decode cL_law 879 = .ok (.iload_n 3, 1) := by decide +kernel
theorem dL_law_880 : decode cL_law 880 = .ok (.iconst 1, 1) := by decide +kernel
theorem dL_law_881 : decode cL_law 881 = .ok (.iadd, 1) := by decide +kernel
theorem dL_law_882 : decode cL_law 882 = .ok (.iaload, 1) := by decide +kernel
theorem dL_law_883 : decode cL_law 883 = .ok (.aload_n 0, 1) := by decide +kernel
theorem dL_law_884 : decode cL_law 884 = .ok (.iload_n 3, 1) := by decide +kernel
theorem dL_law_885 : decode cL_law 885 = .ok (.iconst 2, 1) := by decide +kernel
theorem dL_law_886 : decode cL_law 886 = .ok (.iadd, 1) := by decide +kernel
theorem dL_law_887 : decode cL_law 887 = .ok (.iaload, 1) := by decide +kernel
theorem dL_law_888 : decode cL_law 888 = .ok (.aload_n 0, 1) := by decide +kernel
theorem dL_law_889 : decode cL_law 889 = .ok (.iload_n 3, 1) := by decide +kernel
theorem dL_law_890 : decode cL_law 890 = .ok (.iconst 3, 1) := by decide +kernel
theorem dL_law_891 : decode cL_law 891 = .ok (.iadd, 1) := by decide +kernel
theorem dL_law_892 : decode cL_law 892 = .ok (.iaload, 1) := by decide +kernel
theorem dL_law_893 : decode cL_law 893 = .ok (.aload_n 0, 1) := by decide +kernel
theorem dL_law_894 : decode cL_law 894 = .ok (.iload_n 3, 1) := by decide +kernel
theorem dL_law_895 : decode cL_law 895 = .ok (.iconst 4, 1) := by decide +kernel
theorem dL_law_896 : decode cL_law 896 = .ok (.iadd, 1) := by decide +kernel
theorem dL_law_897 : decode cL_law 897 = .ok (.iaload, 1) := by decide +kernel
theorem dL_law_898 : decode cL_law 898 = .ok (.aload_n 0, 1) := by decide +kernel
theorem dL_law_899 : decode cL_law 899 = .ok (.iload_n 3, 1) := by decide +kernel
theorem dL_law_900 : decode cL_law 900 = .ok (.iconst 5, 1) := by decide +kernel
theorem dL_law_901 : decode cL_law 901 = .ok (.iadd, 1) := by decide +kernel
theorem dL_law_902 : decode cL_law 902 = .ok (.iaload, 1) := by decide +kernel
theorem dL_law_903 : decode cL_law 903 = .ok (.ifCond .eq 7, 3) := by decide +kernel
theorem dL_law_906 : decode cL_law 906 = .ok (.iconst 1, 1) := by decide +kernel
theorem dL_law_907 : decode cL_law 907 = .ok (.goto 4, 3) := by decide +kernel
theorem dL_law_910 : decode cL_law 910 = .ok (.iconst 0, 1) := by decide +kernel
theorem dL_law_911 : decode cL_law 911 = .ok (.aload_n 0, 1) := by decide +kernel
theorem dL_law_912 : decode cL_law 912 = .ok (.iload_n 3, 1) := by decide +kernel
theorem dL_law_913 : decode cL_law 913 = .ok (.bipush 6, 2) := by decide +kernel
theorem dL_law_915 : decode cL_law 915 = .ok (.iadd, 1) := by decide +kernel
theorem dL_law_916 : decode cL_law 916 = .ok (.iaload, 1) := by decide +kernel
theorem dL_law_917 : decode cL_law 917 = .ok (.invokevirtual 99, 3) := by decide +kernel
theorem dL_law_920 : decode cL_law 920 = .ok (.if_icmp .eq 5, 3) := by decide +kernel
theorem dL_law_923 : decode cL_law 923 = .ok (.iconst 0, 1) := by decide +kernel
theorem dL_law_924 : decode cL_law 924 = .ok (.ireturn, 1) := by decide +kernel
theorem dL_law_925 : decode cL_law 925 = .ok (.iinc 3 7, 3) := by decide +kernel
theorem dL_law_928 : decode cL_law 928 = .ok (.goto (-910), 3) := by decide +kernel
theorem dL_law_931 : decode cL_law 931 = .ok (.iconst 1, 1) := by decide +kernel
theorem dL_law_932 : decode cL_law 932 = .ok (.ireturn, 1) := by decide +kernel
end
section
/-! THE HEAP AS A FUNCTION: h a = some cell for the cells from b0 on that we speak of; N is the heap's size. An array's class stands there as a number t, K t is the class -/
abbrev zh_H : Type := Nat → Option va_E
def zh_up (h : zh_H) (a : Nat) (x : va_E) : zh_H := fun q => if q = a then some x else h q
theorem zh_us {h : zh_H} {a : Nat} {x : va_E} : zh_up h a x a = some x := if_pos rfl
theorem zh_un {h : zh_H} {a q : Nat} {x : va_E} (hne : q ≠ a) : zh_up h a x q = h q := if_neg hne
def zh_c (K : Nat → ClassId) (x : va_E) : va_E := match x with
  | .inl a => .inl (K a.1, a.2)
  | .inr o => .inr o
def zh_ok (x : va_E) : Prop := ∀ (n : Nat) (f : Nat → Int32), x = .inl (0, n, .inl f) → ∀ j, fits .byte (.int (f j)) = true
def zh_R (D : va_G) (K : Nat → ClassId) (b0 N : Nat) (h : zh_H) (H : Heap) : Prop := H.size = N ∧ b0 ≤ N ∧ ∀ (a : Nat) (x : va_E), h a = some x → b0 ≤ a ∧ va_at D vwCl (a, zh_c K x) H ∧ zh_ok x
/-- the heap now, and what has become of the heap H0 since -/
def zh_G (D : va_G) (K : Nat → ClassId) (b0 N : Nat) (h : zh_H) (H0 H : Heap) (locs : List Loc) : Prop := zh_R D K b0 N h H ∧ va_S (fun q => b0 ≤ q) H0 H locs
theorem zh_R.lt {D : va_G} {K : Nat → ClassId} {b0 N : Nat} {h : zh_H} {H : Heap} (g : zh_R D K b0 N h H) {a : Nat} {x : va_E} (ha : h a = some x) : a < N := by
  have h1 := (g.2.2 a x ha).2.1.lt
  rw [g.1] at h1
  exact h1
theorem zh_G.at {D : va_G} {K : Nat → ClassId} {b0 N : Nat} {h : zh_H} {H0 H : Heap} {locs : List Loc} (g : zh_G D K b0 N h H0 H locs) {a : Nat} {x : va_E} (ha : h a = some x) : va_P D vwCl [(a, zh_c K x)] H := by
  intro k q hk
  cases k with
  | zero => cases hk; exact (g.1.2.2 a x ha).2.1
  | succ k => simp at hk
theorem zh_G.set {D : va_G} {K : Nat → ClassId} {b0 N : Nat} {h : zh_H} {H0 H H1 : Heap} {locs : List Loc} (g : zh_G D K b0 N h H0 H locs) {a k : Nat} {x y : va_E} (ha : h a = some x) (e : va_at D vwCl (a, zh_c K y) H1) (hok : zh_ok y) (z : H1.size = H.size) (oq : ∀ q : Nat, q ≠ a → H1[q]? = H[q]?) : zh_G D K b0 N (zh_up h a y) H0 H1 (locs ++ [⟨a, k⟩]) := by
  have hb := (g.1.2.2 a x ha).1
  refine ⟨⟨z.trans g.1.1, g.1.2.1, fun q w hq => ?_⟩, g.2.put z oq hb⟩
  by_cases hqa : q = a
  · subst hqa
    rw [zh_us] at hq
    cases hq
    exact ⟨hb, e, hok⟩
  · rw [zh_un hqa] at hq
    exact ⟨(g.1.2.2 q w hq).1, (g.1.2.2 q w hq).2.1.kept (oq q hqa), (g.1.2.2 q w hq).2.2⟩
theorem zh_G.push {D : va_G} {K : Nat → ClassId} {b0 N : Nat} {h : zh_H} {H0 H H1 : Heap} {locs : List Loc} (g : zh_G D K b0 N h H0 H locs) {y : va_E} (e : va_at D vwCl (N, zh_c K y) H1) (hok : zh_ok y) (z : H1.size = N + 1) (oq : ∀ q : Nat, q < N → H1[q]? = H[q]?) : zh_G D K b0 (N + 1) (zh_up h N y) H0 H1 locs := by
  refine ⟨⟨z, Nat.le_succ_of_le g.1.2.1, fun q w hq => ?_⟩, ?_⟩
  · by_cases hqa : q = N
    · subst hqa
      rw [zh_us] at hq
      cases hq
      exact ⟨g.1.2.1, e, hok⟩
    · rw [zh_un hqa] at hq
      exact ⟨(g.1.2.2 q w hq).1, (g.1.2.2 q w hq).2.1.kept (oq q (g.1.lt hq)), (g.1.2.2 q w hq).2.2⟩
  · have hs : H.size = N := g.1.1
    refine ⟨by have := g.2.1; omega, fun q h1 h2 => ?_, g.2.2.2⟩
    rw [oq q (by have := g.2.1; omega)]
    exact g.2.2.1 q h1 h2
theorem zh_ok_o {o : Nat × List Value} : zh_ok (.inr o) := fun _ _ q => by cases q
theorem zh_ok_l {t n : Nat} {f : Nat → Int64} : zh_ok (.inl (t, n, .inr (.inl f))) := fun _ _ q => by cases q
theorem zh_ok_q {t n : Nat} {f : Nat → Option Nat} : zh_ok (.inl (t, n, .inr (.inr (.inr (.inr f))))) := fun _ _ q => by cases q
theorem zh_ok_i {n : Nat} {f : Nat → Int32} : zh_ok (.inl (1, n, .inl f)) := fun _ _ q => by cases q
theorem zh_ok_b {n : Nat} {f : Nat → Int32} (hf : ∀ j, fits .byte (.int (f j)) = true) : zh_ok (.inl (0, n, .inl f)) := fun _ _ q => by cases q; exact hf
/-! what a method does, as functions over that heap: none where the machine itself would throw -/
def gI (h : zh_H) (a ci k : Nat) : Option Int32 := match h a with
  | some (.inr (c, fs)) => if c = ci then (match fs[k]? with | some (.int v) => some v | _ => none) else none
  | _ => none
def gL (h : zh_H) (a ci k : Nat) : Option Int64 := match h a with
  | some (.inr (c, fs)) => if c = ci then (match fs[k]? with | some (.long v) => some v | _ => none) else none
  | _ => none
def gR (h : zh_H) (a ci k : Nat) : Option Nat := match h a with
  | some (.inr (c, fs)) => if c = ci then (match fs[k]? with | some (.ref v) => some v | _ => none) else none
  | _ => none
def pV (h : zh_H) (a ci k : Nat) (v : Value) : Option zh_H := match h a with
  | some (.inr (c, fs)) => if c = ci ∧ k < fs.length then some (zh_up h a (.inr (ci, fs.set k v))) else none
  | _ => none
def pZ (h : zh_H) (a ci k : Nat) (v : Int32) : Option zh_H := if v = 0 ∨ v = 1 then pV h a ci k (.int v) else none
def aI (h : zh_H) (t a : Nat) (i : Int32) : Option Int32 := match h a with
  | some (.inl (c, n, .inl f)) => if c = t ∧ ¬ (i < 0 ∨ n ≤ i.toNatClampNeg) then some (f i.toNatClampNeg) else none
  | _ => none
def aL (h : zh_H) (a : Nat) (i : Int32) : Option Int64 := match h a with
  | some (.inl (c, n, .inr (.inl f))) => if c = 2 ∧ ¬ (i < 0 ∨ n ≤ i.toNatClampNeg) then some (f i.toNatClampNeg) else none
  | _ => none
def aR (h : zh_H) (t a : Nat) (i : Int32) : Option Nat := match h a with
  | some (.inl (c, n, .inr (.inr (.inr (.inr f))))) => if c = t ∧ ¬ (i < 0 ∨ n ≤ i.toNatClampNeg) then f i.toNatClampNeg else none
  | _ => none
def aN (h : zh_H) (t a : Nat) : Option Int32 := match h a with
  | some (.inl (c, n, _)) => if c = t then some (nI n) else none
  | _ => none
def sI (h : zh_H) (a : Nat) (i x : Int32) : Option zh_H := match h a with
  | some (.inl (c, n, .inl f)) => if c = 1 ∧ ¬ (i < 0 ∨ n ≤ i.toNatClampNeg) then some (zh_up h a (.inl (1, n, .inl (upd f i.toNatClampNeg x)))) else none
  | _ => none
def sB (h : zh_H) (a : Nat) (i x : Int32) : Option zh_H := match h a with
  | some (.inl (c, n, .inl f)) => if c = 0 ∧ ¬ (i < 0 ∨ n ≤ i.toNatClampNeg) then some (zh_up h a (.inl (0, n, .inl (upd f i.toNatClampNeg x.toInt8.toInt32)))) else none
  | _ => none
def sL (h : zh_H) (a : Nat) (i : Int32) (x : Int64) : Option zh_H := match h a with
  | some (.inl (c, n, .inr (.inl f))) => if c = 2 ∧ ¬ (i < 0 ∨ n ≤ i.toNatClampNeg) then some (zh_up h a (.inl (2, n, .inr (.inl (vp_updL f i.toNatClampNeg x))))) else none
  | _ => none
def sR (h : zh_H) (t ci a : Nat) (i : Int32) (v : Nat) : Option zh_H := match h a, h v with
  | some (.inl (c, n, .inr (.inr (.inr (.inr f))))), some (.inr (cj, _)) => if c = t ∧ cj = ci ∧ ¬ (i < 0 ∨ n ≤ i.toNatClampNeg) then some (zh_up h a (.inl (t, n, .inr (.inr (.inr (.inr (va_up f i.toNatClampNeg (some v)))))))) else none
  | _, _ => none
def cpB (h : zh_H) (a0 : Nat) (sp : Int32) (a : Nat) (dp n : Int32) : Option zh_H := match h a0, h a with
  | some (.inl (c0, n0, .inl f)), some (.inl (c1, n1, .inl g)) => if (c0 = 0 ∧ c1 = 0) ∧ (¬ sp < 0 ∧ ¬ dp < 0 ∧ ¬ n < 0) ∧ sp.toNatClampNeg + n.toNatClampNeg ≤ n0 ∧ dp.toNatClampNeg + n.toNatClampNeg ≤ n1 then some (zh_up h a (.inl (0, n1, .inl (va_cpy f g sp.toNatClampNeg dp.toNatClampNeg n.toNatClampNeg)))) else none
  | _, _ => none
def isO (h : zh_H) (a ci : Nat) : Option Unit := match h a with
  | some (.inr (c, _)) => if c = ci then some () else none
  | _ => none
/-- x or none: x, where c -/
def zif {α : Type} (c : Prop) [Decidable c] (x : Option α) : Option α := if c then x else none
theorem zb {α β : Type} {x : Option α} {f : α → Option β} {y : β} (h : x.bind f = some y) : ∃ v, x = some v ∧ f v = some y := by
  cases x with
  | none => cases h
  | some v => exact ⟨v, rfl, h⟩
theorem zif_s {α : Type} {c : Prop} [Decidable c] {x : Option α} {y : α} (h : zif c x = some y) : c ∧ x = some y := by
  unfold zif at h
  by_cases hc : c
  · rw [if_pos hc] at h; exact ⟨hc, h⟩
  · rw [if_neg hc] at h; cases h
abbrev zmin (x y : Int32) : Int32 := if y < x then y else x
abbrev zmax (x y : Int32) : Int32 := if x < y then y else x
abbrev zabs (x : Int32) : Int32 := if 0 ≤ x then x else 0 - x
theorem gI_s {h : zh_H} {a ci k : Nat} {v : Int32} (g : gI h a ci k = some v) : ∃ fs, h a = some (.inr (ci, fs)) ∧ fs[k]? = some (.int v) := by
  unfold gI at g
  split at g
  · next c fs e =>
    split at g
    · next hc =>
      subst hc
      split at g
      · next w e2 => cases g; exact ⟨fs, e, e2⟩
      · cases g
    · cases g
  · cases g
theorem gL_s {h : zh_H} {a ci k : Nat} {v : Int64} (g : gL h a ci k = some v) : ∃ fs, h a = some (.inr (ci, fs)) ∧ fs[k]? = some (.long v) := by
  unfold gL at g
  split at g
  · next c fs e =>
    split at g
    · next hc =>
      subst hc
      split at g
      · next w e2 => cases g; exact ⟨fs, e, e2⟩
      · cases g
    · cases g
  · cases g
theorem gR_s {h : zh_H} {a ci k : Nat} {v : Nat} (g : gR h a ci k = some v) : ∃ fs, h a = some (.inr (ci, fs)) ∧ fs[k]? = some (.ref v) := by
  unfold gR at g
  split at g
  · next c fs e =>
    split at g
    · next hc =>
      subst hc
      split at g
      · next w e2 => cases g; exact ⟨fs, e, e2⟩
      · cases g
    · cases g
  · cases g
theorem pV_s {h h1 : zh_H} {a ci k : Nat} {v : Value} (g : pV h a ci k v = some h1) : ∃ fs, h a = some (.inr (ci, fs)) ∧ k < fs.length ∧ h1 = zh_up h a (.inr (ci, fs.set k v)) := by
  unfold pV at g
  split at g
  · next c fs e =>
    split at g
    · next hc => cases g; exact ⟨fs, by rw [e, hc.1], hc.2, rfl⟩
    · cases g
  · cases g
theorem pZ_s {h h1 : zh_H} {a ci k : Nat} {v : Int32} (g : pZ h a ci k v = some h1) : (v = 0 ∨ v = 1) ∧ pV h a ci k (.int v) = some h1 := by
  unfold pZ at g
  split at g
  · next hc => exact ⟨hc, g⟩
  · cases g
theorem aI_s {h : zh_H} {t a : Nat} {i v : Int32} (g : aI h t a i = some v) : ∃ n f, h a = some (.inl (t, n, .inl f)) ∧ vp_in i n ∧ v = f i.toNatClampNeg := by
  unfold aI at g
  split at g
  · next c n f e =>
    split at g
    · next hc => cases g; exact ⟨n, f, by rw [e, hc.1], hc.2, rfl⟩
    · cases g
  · cases g
theorem aL_s {h : zh_H} {a : Nat} {i : Int32} {v : Int64} (g : aL h a i = some v) : ∃ n f, h a = some (.inl (2, n, .inr (.inl f))) ∧ vp_in i n ∧ v = f i.toNatClampNeg := by
  unfold aL at g
  split at g
  · next c n f e =>
    split at g
    · next hc => cases g; exact ⟨n, f, by rw [e, hc.1], hc.2, rfl⟩
    · cases g
  · cases g
theorem aR_s {h : zh_H} {t a : Nat} {i : Int32} {v : Nat} (g : aR h t a i = some v) : ∃ n f, h a = some (.inl (t, n, .inr (.inr (.inr (.inr f))))) ∧ vp_in i n ∧ f i.toNatClampNeg = some v := by
  unfold aR at g
  split at g
  · next c n f e =>
    split at g
    · next hc => exact ⟨n, f, by rw [e, hc.1], hc.2, g⟩
    · cases g
  · cases g
theorem aN_s {h : zh_H} {t a : Nat} {v : Int32} (g : aN h t a = some v) : ∃ x : vp_A, h a = some (.inl (t, x)) ∧ v = nI x.1 := by
  unfold aN at g
  split at g
  · next c n f e =>
    split at g
    · next hc => cases g; exact ⟨(n, f), by rw [e, hc], rfl⟩
    · cases g
  · cases g
theorem sI_s {h h1 : zh_H} {a : Nat} {i x : Int32} (g : sI h a i x = some h1) : ∃ n f, h a = some (.inl (1, n, .inl f)) ∧ vp_in i n ∧ h1 = zh_up h a (.inl (1, n, .inl (upd f i.toNatClampNeg x))) := by
  unfold sI at g
  split at g
  · next c n f e =>
    split at g
    · next hc => cases g; exact ⟨n, f, by rw [e, hc.1], hc.2, rfl⟩
    · cases g
  · cases g
theorem sB_s {h h1 : zh_H} {a : Nat} {i x : Int32} (g : sB h a i x = some h1) : ∃ n f, h a = some (.inl (0, n, .inl f)) ∧ vp_in i n ∧ h1 = zh_up h a (.inl (0, n, .inl (upd f i.toNatClampNeg x.toInt8.toInt32))) := by
  unfold sB at g
  split at g
  · next c n f e =>
    split at g
    · next hc => cases g; exact ⟨n, f, by rw [e, hc.1], hc.2, rfl⟩
    · cases g
  · cases g
theorem sL_s {h h1 : zh_H} {a : Nat} {i : Int32} {x : Int64} (g : sL h a i x = some h1) : ∃ n f, h a = some (.inl (2, n, .inr (.inl f))) ∧ vp_in i n ∧ h1 = zh_up h a (.inl (2, n, .inr (.inl (vp_updL f i.toNatClampNeg x)))) := by
  unfold sL at g
  split at g
  · next c n f e =>
    split at g
    · next hc => cases g; exact ⟨n, f, by rw [e, hc.1], hc.2, rfl⟩
    · cases g
  · cases g
theorem sR_s {h h1 : zh_H} {t ci a : Nat} {i : Int32} {v : Nat} (g : sR h t ci a i v = some h1) : ∃ n f vs, h a = some (.inl (t, n, .inr (.inr (.inr (.inr f))))) ∧ h v = some (.inr (ci, vs)) ∧ vp_in i n ∧ h1 = zh_up h a (.inl (t, n, .inr (.inr (.inr (.inr (va_up f i.toNatClampNeg (some v))))))) := by
  unfold sR at g
  split at g
  · next c n f cj vs e1 e2 =>
    split at g
    · next hc => cases g; exact ⟨n, f, vs, by rw [e1, hc.1], by rw [e2, hc.2.1], hc.2.2, rfl⟩
    · cases g
  · cases g
theorem cpB_s {h h1 : zh_H} {a0 a : Nat} {sp dp n : Int32} (g : cpB h a0 sp a dp n = some h1) : ∃ n0 n1 f k, h a0 = some (.inl (0, n0, .inl f)) ∧ h a = some (.inl (0, n1, .inl k)) ∧ (¬ sp < 0 ∧ ¬ dp < 0 ∧ ¬ n < 0) ∧ sp.toNatClampNeg + n.toNatClampNeg ≤ n0 ∧ dp.toNatClampNeg + n.toNatClampNeg ≤ n1 ∧ h1 = zh_up h a (.inl (0, n1, .inl (va_cpy f k sp.toNatClampNeg dp.toNatClampNeg n.toNatClampNeg))) := by
  unfold cpB at g
  split at g
  · next c0 n0 f c1 n1 k e1 e2 =>
    split at g
    · next hc => cases g; exact ⟨n0, n1, f, k, by rw [e1, hc.1.1], by rw [e2, hc.1.2], hc.2.1, hc.2.2.1, hc.2.2.2, rfl⟩
    · cases g
  · cases g
theorem isO_s {h : zh_H} {a ci : Nat} {u : Unit} (g : isO h a ci = some u) : ∃ fs, h a = some (.inr (ci, fs)) := by
  unfold isO at g
  split at g
  · next c fs e =>
    split at g
    · next hc => exact ⟨fs, by rw [e, hc]⟩
    · cases g
  · cases g
/-! CONTRACTS. All methods have the tables' words; d: how deep calls go below -/
def zc_tb : List Cond := lw_tbl.filter goodWord
theorem zin {w : Cond} (h : w ∈ lw_tbl) (hg : goodWord w = true) : w ∈ zc_tb := List.mem_filter.mpr ⟨h, hg⟩
def zt (K : Nat → ClassId) : List (ClassId × FieldType) := [(K 0, .byte), (K 1, .int), (K 2, .long), (K 3, .object "EditFinder$ByteRow"), (K 4, .object "EditFinder$SetRow")]
abbrev zNest : Cond := .methodLinkNest RX4 88 yX10_isByte RX10
def zK (D : va_G) (K : Nat → ClassId) (U : State) : Prop := va_K D vwCl (zt K) U ∧ va_Nw zNest U ∧ va_AO "EditFinder$ByteRow" U ∧ va_AO "EditFinder$SetRow" U
theorem zK.warm {D : va_G} {K : Nat → ClassId} {s U : State} (hW : s.WarmedH U.vm) (h : zK D K s) : zK D K U := ⟨va_K.moved hW.alike h.1, va_Nw.warmM hW h.2.1, va_AO.moved hW.alike h.2.2.1, va_AO.moved hW.alike h.2.2.2⟩
def zc_w (y : MethodName) (b : ByteArray) (mL : Nat) (ret : Option FieldType) : List Cond := Cond.code y b mL ret :: zc_tb
def zc_rm (d mc ms : Nat) : Room := { frames := d, cells := mc, slots := ms, locals := 36 * d }
def zc_P (D : va_G) (K : Nat → ClassId) (b0 N : Nat) (h : zh_H) (as : List Value) : Array Value → State → Prop := fun v U => v = as.toArray ∧ zh_R D K b0 N h U.heap ∧ zK D K U
def zq (v : Option Value) (N1 : Nat) (h1 : zh_H) : Option Value → Nat → zh_H → Prop := fun r N h => r = v ∧ N = N1 ∧ h = h1
def zc_Q (D : va_G) (K : Nat → ClassId) (b0 : Nat) (post : Option Value → Nat → zh_H → Prop) : Array Value → State → Outcome → State → Prop := fun _ st oc t => (∃ (r : Option Value) (N : Nat) (h : zh_H), oc = .returned r ∧ post r N h ∧ zh_R D K b0 N h t.heap) ∧ va_F (fun q => b0 ≤ q) st t
def zc (l : Launch) (y : MethodName) (b : ByteArray) (mL : Nat) (ret : Option FieldType) (d mc ms : Nat) (D : va_G) (K : Nat → ClassId) (b0 N : Nat) (h : zh_H) (as : List Value) (post : Option Value → Nat → zh_H → Prop) : Prop :=
  Met l y (zc_w y b mL ret) (zc_rm d mc ms) (zc_P D K b0 N h as) (zc_Q D K b0 post) mc ms (fun q => b0 ≤ q)
theorem zc_blind {D : va_G} {K : Nat → ClassId} {b0 N : Nat} {h : zh_H} {as : List Value} : FrameBlind (zc_P D K b0 N h as) := by
  intro a U g mk q
  obtain ⟨q1, q2, q3⟩ := q
  exact ⟨q1, q2, va_K.moved (u := U) (U := U.calling g mk a) (Vm.Alike.refl U.vm) q3.1, va_Nw.same (u := U) (U := U.calling g mk a) rfl rfl q3.2.1, va_AO.moved (u := U) (U := U.calling g mk a) (Vm.Alike.refl U.vm) q3.2.2.1, va_AO.moved (u := U) (U := U.calling g mk a) (Vm.Alike.refl U.vm) q3.2.2.2⟩
/-- what stands fast inside a method's body -/
def zc_B (p : Program) (s : State) (m : MethodId) (args : Array Value) (meth : Method) (c : Code) (cc : ByteArray) (mL : Nat) (own : String) (ret : Option FieldType) (D : va_G) (K : Nat → ClassId) : Prop :=
  p.tables.exec = Jvm.exec ∧ c.code = cc ∧ c.maxLocals = mL ∧ s.vm.findClass own = some m.cls ∧ (∀ w ∈ zc_tb, w.before args s = true) ∧ meth.sig.returnType = ret ∧ meth.locks = false ∧ zK D K s
theorem zc.of {l : Launch} {y : MethodName} {b : ByteArray} {mL : Nat} {ret : Option FieldType} {d mc ms : Nat} {D : va_G} {K : Nat → ClassId} {b0 N : Nat} {h : zh_H} {as : List Value} {post : Option Value → Nat → zh_H → Prop} (lv : List (Nat × Value)) (hy : plainName y.cls = true) (hlv : lv_args 0 as = lv) (hlen : (lg_sl as).length ≤ mL)
    (body : ∀ (p : Program) (e : Env) (s : State) (m : MethodId) (args : Array Value) (below : List Frame) (meth : Method) (c : Code), zc_B p s m args meth c b mL y.cls ret D K → meth.name = y.name → zh_G D K b0 N h s.heap s.heap [] → ∀ ls : Array Slot, lv_has ls mL lv →
      W p l e (zc_rm d mc ms) s m args below meth c s.heap [] 0 0 (MQ below (zc_Q D K b0 post) args s mc ms (fun q => b0 ≤ q)) (F0 m 0 ls [])) : zc l y b mL ret d mc ms D K b0 N h as post := by
  refine Met.ofW (cc := b) (maxL := mL) (ret := ret) hy rfl ?_
  intro p e s m args below meth c s₁ B hml hv
  obtain ⟨rfl, hR, hK⟩ := hv
  have hts := atoms_spec (ws := zc_w y b mL ret) B.pre
  have hown : s.vm.findClass y.cls = some m.cls := findClass_of_methodNamed B.named
  have hl := lv_entry as (n := mL) hlen
  rw [lg_entry_eq]
  rw [hlv] at hl
  exact body p e s m as.toArray below meth c ⟨B.exec, B.bytes, hml, hown, fun w hw => hts w (List.mem_cons_of_mem _ hw), B.returns, B.notSynchronized, hK⟩ (name_of_methodNamed B.named B.method).1 ⟨hR, va_S.rf⟩ _ hl
/-- a class by its number: its names, the tables' words of its fields -/
def zF (ci : Nat) (C : String) (T : u_T) (Nf : Nat) (ty0 : Nat → FieldType) : Prop := vwCl[ci]? = some (C, T, Nf) ∧ (∀ w ∈ u_ws C T Nf, w ∈ lw_tbl) ∧ (∀ k, k < Nf → parseFieldDescriptor (T k).2.2.1 = some (ty0 k)) ∧ (∀ a, a < Nf → ∀ b, b < Nf → a ≠ b → (T a).2.1 ≠ (T b).2.1)
theorem u_ws_good {C : String} {T : u_T} {Nf : Nat} (h : ∀ w ∈ u_ws C T Nf, w ∈ lw_tbl) : ∀ w ∈ u_ws C T Nf, w ∈ zc_tb := by
  intro w hw
  refine zin (h w hw) ?_
  obtain ⟨k, -, rfl⟩ := List.mem_map.mp hw
  unfold u_lay
  split <;> rfl
def zSB (own : String) (idx : Nat) (y : MethodName) (b : ByteArray) (mL : Nat) (ret : Option FieldType) (n : Nat) : Prop := Cond.methodLink own idx y ∈ lw_tbl ∧ Cond.code y b mL ret ∈ lw_tbl ∧ Cond.initialized y.cls ∈ lw_tbl ∧ (y.cls ≠ "java/lang/invoke/MethodHandle" ∧ y.cls ≠ "java/lang/invoke/VarHandle" ∧ (parseMethodDescriptor y.desc).map (fun d => d.parameters.length) = some n)
def zSV (own : String) (idx : Nat) (y : MethodName) (b : ByteArray) (mL : Nat) (ret : Option FieldType) (n ci : Nat) : Prop := zSB own idx y b mL ret n ∧ Cond.instanceMethod y ∈ lw_tbl ∧ Cond.selects y.cls y y ∈ lw_tbl ∧ ∃ r : vw_C, vwCl[ci]? = some r ∧ r.1 = y.cls
def zSS (own : String) (idx : Nat) (y : MethodName) (b : ByteArray) (mL : Nat) (ret : Option FieldType) (n : Nat) : Prop := zSB own idx y b mL ret n ∧ Cond.static y ∈ lw_tbl
def zSI (own : String) (idx : Nat) (y : MethodName) (b : ByteArray) (mL : Nat) (n : Nat) : Prop := zSB own idx y b mL none n ∧ Cond.instanceMethod y ∈ lw_tbl ∧ y.name = "<init>"
theorem zgood {y : MethodName} {b : ByteArray} {mL : Nat} {ret : Option FieldType} (h : Cond.code y b mL ret ∈ lw_tbl) : GoodIn zc_tb (zc_w y b mL ret) := by
  intro w hw
  rcases List.mem_cons.mp hw with rfl | hw
  · exact ⟨zin h rfl, good_of_word rfl⟩
  · exact ⟨hw, good_of_word (List.mem_filter.mp hw).2⟩
section ZH
variable {p : Program} {l : Launch} {e : Env} {R : Room} {s : State} {m : MethodId} {args : Array Value} {below : List Frame} {meth : Method} {c : Code} {H : Heap} {locs : List Loc} {cells slots : Nat} {Q : State → Prop}
variable {cc : ByteArray} {pc : Nat} {ls : Array Slot} {rest : List Value} {D : va_G} {K : Nat → ClassId} {a : Nat} {b0 N : Nat} {h h1 : zh_H} {mL : Nat} {own : String} {ret : Option FieldType}
variable {C : String} {T : u_T} {Nf ci index k t : Nat} {ty0 : Nat → FieldType}
theorem zr_get0 (hB : zc_B p s m args meth c cc mL own ret D K) (hG : zh_G D K b0 N h s.heap H locs) (F : zF ci C T Nf ty0) (hk : k < Nf) (hl : Cond.fieldLink own index (T k).1 (T k).2.1 (T k).2.2.1 ∈ lw_tbl) {fs : List Value} {v : Value} (he : h a = some (.inr (ci, fs))) (hv : fs[k]? = some v) (hdg : decode cc pc = .ok (.getfield index, 3))
    (kk : W p l e R s m args below meth c H locs cells slots Q (F0 m (pc + 3) ls (v :: rest))) : W p l e R s m args below meth c H locs cells slots Q (F0 m pc ls (.ref a :: rest)) := by
  obtain ⟨hx, hb, hml, hown, hts, hr, hlocks, hK, hNw⟩ := hB
  exact va_get hx hb hts (u_ws_good F.2.1) hown hK (hG.at he) 0 rfl F.1 k hk (hts _ (zin hl rfl)) (fun _ q => q) hv hdg kk
theorem zr_getI {v : Int32} (hB : zc_B p s m args meth c cc mL own ret D K) (hG : zh_G D K b0 N h s.heap H locs) (F : zF ci C T Nf ty0) (hk : k < Nf) (hl : Cond.fieldLink own index (T k).1 (T k).2.1 (T k).2.2.1 ∈ lw_tbl) (hg : gI h a ci k = some v) (hdg : decode cc pc = .ok (.getfield index, 3))
    (kk : W p l e R s m args below meth c H locs cells slots Q (F0 m (pc + 3) ls (.int v :: rest))) : W p l e R s m args below meth c H locs cells slots Q (F0 m pc ls (.ref a :: rest)) := by
  obtain ⟨fs, he, hv⟩ := gI_s hg
  exact zr_get0 hB hG F hk hl he hv hdg kk
theorem zr_getL {v : Int64} (hB : zc_B p s m args meth c cc mL own ret D K) (hG : zh_G D K b0 N h s.heap H locs) (F : zF ci C T Nf ty0) (hk : k < Nf) (hl : Cond.fieldLink own index (T k).1 (T k).2.1 (T k).2.2.1 ∈ lw_tbl) (hg : gL h a ci k = some v) (hdg : decode cc pc = .ok (.getfield index, 3))
    (kk : W p l e R s m args below meth c H locs cells slots Q (F0 m (pc + 3) ls (.long v :: rest))) : W p l e R s m args below meth c H locs cells slots Q (F0 m pc ls (.ref a :: rest)) := by
  obtain ⟨fs, he, hv⟩ := gL_s hg
  exact zr_get0 hB hG F hk hl he hv hdg kk
theorem zr_getR {v : Nat} (hB : zc_B p s m args meth c cc mL own ret D K) (hG : zh_G D K b0 N h s.heap H locs) (F : zF ci C T Nf ty0) (hk : k < Nf) (hl : Cond.fieldLink own index (T k).1 (T k).2.1 (T k).2.2.1 ∈ lw_tbl) (hg : gR h a ci k = some v) (hdg : decode cc pc = .ok (.getfield index, 3))
    (kk : W p l e R s m args below meth c H locs cells slots Q (F0 m (pc + 3) ls (.ref v :: rest))) : W p l e R s m args below meth c H locs cells slots Q (F0 m pc ls (.ref a :: rest)) := by
  obtain ⟨fs, he, hv⟩ := gR_s hg
  exact zr_get0 hB hG F hk hl he hv hdg kk
theorem zr_put {v : Value} (hB : zc_B p s m args meth c cc mL own ret D K) (hG : zh_G D K b0 N h s.heap H locs) (F : zF ci C T Nf ty0) (hk : k < Nf) (hl : Cond.fieldLink own index (T k).1 (T k).2.1 (T k).2.2.1 ∈ lw_tbl) (hfin : (T k).2.2.2 = false) (hn : narrow (ty0 k) v = v) (hfit : fits (ty0 k) v = true) (hg : pV h a ci k v = some h1) (hdg : decode cc pc = .ok (.putfield index, 3))
    (kk : ∀ (H1 : Heap) (locs1 : List Loc), zh_G D K b0 N h1 s.heap H1 locs1 → W p l e R s m args below meth c H1 locs1 cells slots Q (F0 m (pc + 3) ls rest)) : W p l e R s m args below meth c H locs cells slots Q (F0 m pc ls (v :: .ref a :: rest)) := by
  obtain ⟨fs, he, hlen, rfl⟩ := pV_s hg
  obtain ⟨hx, hb, hml, hown, hts, hr, hlocks, hK, hNw⟩ := hB
  obtain ⟨hc, hin0, hty, hnm⟩ := F
  have hin := u_ws_good hin0
  have hap := va_apart (own := own) hts hin ty0 hty hnm hK hc
  obtain ⟨r, h1, cell, q1, q2, q3, q4⟩ := (hG.1.2.2 a _ he).2.1
  have hr : r = (C, T, Nf) := Option.some.inj (h1.symm.trans hc)
  subst hr
  obtain ⟨hS, hfc, kC, hkC, hkind⟩ := hK.1 ci _ hc
  obtain ⟨cf, kf, fi, f, hi, hsl⟩ := hS k hk
  have hlay := hts _ (hin _ (u_in_lay hk))
  unfold u_lay at hlay
  rw [if_neg (by rw [hfin]; decide)] at hlay
  have hst := (u_facts hfc hkC (u_lays hts hin hk) hi).1
  have h6 := u_store hfc hkC hkind hlay hi (hty k hk) hn hfit
  refine W.putK hx hb (f := f) ⟨hown, hts _ (zin hl rfl), ⟨_, _, _, hi⟩, hst⟩ (by rw [q2]; exact h6) q1 q3 (by rw [hsl]; exact k2_hasslot (q4 k hk)) rfl rfl hdg fun H' e1 e2 e3 => ?_
  rw [hsl] at e1 ⊢
  exact kk H' _ (hG.set he ⟨_, hc, t_OB.to (V := updV (vp_V fs) k v) ⟨_, e1, q2, q3, t_set q4 hap hk v⟩ (fun j _ => vp_updV_set hlen v j)⟩ zh_ok_o e2 e3)
theorem zr_putZ {v : Int32} (hB : zc_B p s m args meth c cc mL own ret D K) (hG : zh_G D K b0 N h s.heap H locs) (F : zF ci C T Nf ty0) (hk : k < Nf) (hl : Cond.fieldLink own index (T k).1 (T k).2.1 (T k).2.2.1 ∈ lw_tbl) (hfin : (T k).2.2.2 = false) (hz : ty0 k = .boolean) (hg : pZ h a ci k v = some h1) (hdg : decode cc pc = .ok (.putfield index, 3))
    (kk : ∀ (H1 : Heap) (locs1 : List Loc), zh_G D K b0 N h1 s.heap H1 locs1 → W p l e R s m args below meth c H1 locs1 cells slots Q (F0 m (pc + 3) ls rest)) : W p l e R s m args below meth c H locs cells slots Q (F0 m pc ls (.int v :: .ref a :: rest)) := by
  obtain ⟨hv, hg⟩ := pZ_s hg
  refine zr_put hB hG F hk hl hfin ?_ ?_ hg hdg kk
  · rw [hz]
    rcases hv with rfl | rfl <;> rfl
  · rw [hz]
    rcases hv with rfl | rfl <;> rfl
theorem zr_putF {v : Value} (hB : zc_B p s m args meth c cc mL own ret D K) (hG : zh_G D K b0 N h s.heap H locs) (F : zF ci C T Nf ty0) (hk : k < Nf) (hl : Cond.fieldLink own index (T k).1 (T k).2.1 (T k).2.2.1 ∈ lw_tbl) (hfin : (T k).2.2.2 = true) (hin2 : meth.name = "<init>") (hdecl : (T k).1 = own) (hn : narrow (ty0 k) v = v) (hfit : fits (ty0 k) v = true) (hg : pV h a ci k v = some h1) (hdg : decode cc pc = .ok (.putfield index, 3))
    (kk : ∀ (H1 : Heap) (locs1 : List Loc), zh_G D K b0 N h1 s.heap H1 locs1 → W p l e R s m args below meth c H1 locs1 cells slots Q (F0 m (pc + 3) ls rest)) : W p l e R s m args below meth c H locs cells slots Q (F0 m pc ls (v :: .ref a :: rest)) := by
  obtain ⟨fs, he, hlen, rfl⟩ := pV_s hg
  obtain ⟨hx, hb, hml, hown, hts, hr, hlocks, hK, hNw⟩ := hB
  obtain ⟨hc, hin0, hty, hnm⟩ := F
  have hin := u_ws_good hin0
  have hap := va_apart (own := own) hts hin ty0 hty hnm hK hc
  obtain ⟨r, h1, cell, q1, q2, q3, q4⟩ := (hG.1.2.2 a _ he).2.1
  have hr : r = (C, T, Nf) := Option.some.inj (h1.symm.trans hc)
  subst hr
  obtain ⟨hS, hfc, kC, hkC, hkind⟩ := hK.1 ci _ hc
  obtain ⟨cf, kf, fi, f, hi, hsl⟩ := hS k hk
  have hlay := hts _ (hin _ (u_in_lay hk))
  unfold u_lay at hlay
  rw [if_pos hfin] at hlay
  have hst := (u_facts hfc hkC (u_lays hts hin hk) hi).1
  have hcf : m.cls = cf := by
    obtain ⟨_, _, c', _, _, _, -, -, hf', -, -, -, hown2, -⟩ := Cond.laysFinal_spec hlay
    have e1 : c' = cf := by have := hi.symm.trans hf'; simp at this; exact this.1.symm
    rw [hdecl] at hown2
    rw [← e1]; exact Option.some.inj (hown.symm.trans hown2)
  have h6 := u_fits hfc hkC hkind (Or.inr hlay) hi (hty k hk) hn hfit
  refine W.putFinK hx hb hown (hts _ (zin hl rfl)) hi hst hcf hin2 (by rw [q2]; exact h6) q1 q3 (by rw [hsl]; exact k2_hasslot (q4 k hk)) rfl rfl hdg fun H' e1 e2 e3 => ?_
  rw [hsl] at e1 ⊢
  exact kk H' _ (hG.set he ⟨_, hc, t_OB.to (V := updV (vp_V fs) k v) ⟨_, e1, q2, q3, t_set q4 hap hk v⟩ (fun j _ => vp_updV_set hlen v j)⟩ zh_ok_o e2 e3)
end ZH
end
section
section ZJ
variable {p : Program} {l : Launch} {e : Env} {R : Room} {s : State} {m : MethodId} {args : Array Value} {below : List Frame} {meth : Method} {c : Code} {H : Heap} {locs : List Loc} {cells slots : Nat} {Q : State → Prop}
variable {cc : ByteArray} {pc : Nat} {ls : Array Slot} {rest st0 : List Value} {D : va_G} {K : Nat → ClassId} {a : Nat} {b0 N : Nat} {h h1 : zh_H} {mL : Nat} {own : String} {ret : Option FieldType}
variable {C : String} {T : u_T} {Nf ci index k t : Nat} {ty0 : Nat → FieldType}
theorem zr_iald {i v : Int32} (hB : zc_B p s m args meth c cc mL own ret D K) (hG : zh_G D K b0 N h s.heap H locs) (hg : aI h 1 a i = some v) (hdg : decode cc pc = .ok (.iaload, 1))
    (kk : W p l e R s m args below meth c H locs cells slots Q (F0 m (pc + 1) ls (.int v :: rest))) : W p l e R s m args below meth c H locs cells slots Q (F0 m pc ls (.int i :: .ref a :: rest)) := by
  obtain ⟨n, f, ha, hin, rfl⟩ := aI_s hg
  obtain ⟨hx, hb, hml, hown, hts, hr, hlocks, hK, hNw⟩ := hB
  exact va_iald hx hb hK (hG.at ha) 0 1 rfl rfl hin hdg kk
theorem zr_bald {i v : Int32} (hB : zc_B p s m args meth c cc mL own ret D K) (hG : zh_G D K b0 N h s.heap H locs) (hg : aI h 0 a i = some v) (hdg : decode cc pc = .ok (.baload, 1))
    (kk : W p l e R s m args below meth c H locs cells slots Q (F0 m (pc + 1) ls (.int v :: rest))) : W p l e R s m args below meth c H locs cells slots Q (F0 m pc ls (.int i :: .ref a :: rest)) := by
  obtain ⟨n, f, ha, hin, rfl⟩ := aI_s hg
  obtain ⟨hx, hb, hml, hown, hts, hr, hlocks, hK, hNw⟩ := hB
  exact va_bald hx hb hK (hG.at ha) 0 0 rfl rfl hin hdg kk
theorem zr_lald {i : Int32} {v : Int64} (hB : zc_B p s m args meth c cc mL own ret D K) (hG : zh_G D K b0 N h s.heap H locs) (hg : aL h a i = some v) (hdg : decode cc pc = .ok (.laload, 1))
    (kk : W p l e R s m args below meth c H locs cells slots Q (F0 m (pc + 1) ls (.long v :: rest))) : W p l e R s m args below meth c H locs cells slots Q (F0 m pc ls (.int i :: .ref a :: rest)) := by
  obtain ⟨n, f, ha, hin, rfl⟩ := aL_s hg
  obtain ⟨hx, hb, hml, hown, hts, hr, hlocks, hK, hNw⟩ := hB
  exact va_lald hx hb hK (hG.at ha) 0 2 rfl rfl hin hdg kk
theorem zr_aald {i : Int32} {v : Nat} (ht : ∃ E : String, (zt K)[t]? = some (K t, .object E)) (hB : zc_B p s m args meth c cc mL own ret D K) (hG : zh_G D K b0 N h s.heap H locs) (hg : aR h t a i = some v) (hdg : decode cc pc = .ok (.aaload, 1))
    (kk : W p l e R s m args below meth c H locs cells slots Q (F0 m (pc + 1) ls (.ref v :: rest))) : W p l e R s m args below meth c H locs cells slots Q (F0 m pc ls (.int i :: .ref a :: rest)) := by
  obtain ⟨n, f, ha, hin, hv⟩ := aR_s hg
  obtain ⟨hx, hb, hml, hown, hts, hr, hlocks, hK, hNw⟩ := hB
  obtain ⟨E, ht⟩ := ht
  refine va_aldq hx hb hK (hG.at ha) 0 t rfl ht hin hdg ?_
  rw [hv]
  exact kk
theorem zr_alen {v : Int32} (ht : ∃ ty : FieldType, (zt K)[t]? = some (K t, ty)) (hB : zc_B p s m args meth c cc mL own ret D K) (hG : zh_G D K b0 N h s.heap H locs) (hg : aN h t a = some v) (hdg : decode cc pc = .ok (.arraylength, 1))
    (kk : W p l e R s m args below meth c H locs cells slots Q (F0 m (pc + 1) ls (.int v :: rest))) : W p l e R s m args below meth c H locs cells slots Q (F0 m pc ls (.ref a :: rest)) := by
  obtain ⟨x, ha, rfl⟩ := aN_s hg
  obtain ⟨hx, hb, hml, hown, hts, hr, hlocks, hK, hNw⟩ := hB
  obtain ⟨ty, ht⟩ := ht
  exact va_alen hx hb hK (hG.at ha) 0 t rfl ht rfl hdg kk
theorem zr_iast {i x : Int32} (hB : zc_B p s m args meth c cc mL own ret D K) (hG : zh_G D K b0 N h s.heap H locs) (hg : sI h a i x = some h1) (hdg : decode cc pc = .ok (.iastore, 1))
    (kk : ∀ (H1 : Heap) (locs1 : List Loc), zh_G D K b0 N h1 s.heap H1 locs1 → W p l e R s m args below meth c H1 locs1 cells slots Q (F0 m (pc + 1) ls rest)) : W p l e R s m args below meth c H locs cells slots Q (F0 m pc ls (.int x :: .int i :: .ref a :: rest)) := by
  obtain ⟨n, f, ha, hin, rfl⟩ := sI_s hg
  obtain ⟨hx, hb, hml, hown, hts, hr, hlocks, hK, hNw⟩ := hB
  refine W.iast hx hb (hG.1.2.2 a _ ha).2.1 ((hK.2 1 _ rfl).1 n (fun j => .int (f j))) (fun q => by cases q) (by show ¬ (i < 0 ∨ (arrV _ _ _).slots.size ≤ _); rw [arrV_size]; exact hin) rfl rfl hdg fun H1 e z oq => ?_
  refine kk H1 _ (hG.set ha ?_ zh_ok_i z oq)
  show H1[a]? = some (vp_cell _ _)
  rw [e]
  rw [vp_cell_i, vp_cell_i, arrV_store]
  congr 2
  funext q
  by_cases hq : q = i.toNatClampNeg
  · subst hq
    simp [updV, upd]
  · simp [updV, upd, hq]
theorem zr_bast {i x : Int32} (hB : zc_B p s m args meth c cc mL own ret D K) (hG : zh_G D K b0 N h s.heap H locs) (hg : sB h a i x = some h1) (hdg : decode cc pc = .ok (.bastore, 1))
    (kk : ∀ (H1 : Heap) (locs1 : List Loc), zh_G D K b0 N h1 s.heap H1 locs1 → W p l e R s m args below meth c H1 locs1 cells slots Q (F0 m (pc + 1) ls rest)) : W p l e R s m args below meth c H locs cells slots Q (F0 m pc ls (.int x :: .int i :: .ref a :: rest)) := by
  obtain ⟨n, f, ha, hin, rfl⟩ := sB_s hg
  obtain ⟨hx, hb, hml, hown, hts, hr, hlocks, hK, hNw⟩ := hB
  have hok := (hG.1.2.2 a _ ha).2.2 n f rfl
  refine W.bast hx hb (hG.1.2.2 a _ ha).2.1 ((hK.2 0 _ rfl).1 n (fun j => .int (f j))) (fun q => by cases q) (by show ¬ (i < 0 ∨ (arrV _ _ _).slots.size ≤ _); rw [arrV_size]; exact hin) rfl rfl hdg fun H1 e z oq => ?_
  refine kk H1 _ (hG.set ha ?_ (zh_ok_b fun j => ?_) z oq)
  · show H1[a]? = some (vp_cell _ _)
    rw [e]
    rw [vp_cell_i, vp_cell_i, arrV_store]
    congr 2
    funext q
    by_cases hq : q = i.toNatClampNeg
    · subst hq
      simp [updV, upd]
      try rfl
    · simp [updV, upd, hq]
  · by_cases hj : j = i.toNatClampNeg
    · subst hj
      rw [pk_us]
      exact pk_fb x
    · rw [pk_un hj]
      exact hok j
theorem zr_last {i : Int32} {x : Int64} (hB : zc_B p s m args meth c cc mL own ret D K) (hG : zh_G D K b0 N h s.heap H locs) (hg : sL h a i x = some h1) (hdg : decode cc pc = .ok (.lastore, 1))
    (kk : ∀ (H1 : Heap) (locs1 : List Loc), zh_G D K b0 N h1 s.heap H1 locs1 → W p l e R s m args below meth c H1 locs1 cells slots Q (F0 m (pc + 1) ls rest)) : W p l e R s m args below meth c H locs cells slots Q (F0 m pc ls (.long x :: .int i :: .ref a :: rest)) := by
  obtain ⟨n, f, ha, hin, rfl⟩ := sL_s hg
  obtain ⟨hx, hb, hml, hown, hts, hr, hlocks, hK, hNw⟩ := hB
  refine W.last hx hb (hG.1.2.2 a _ ha).2.1 ((hK.2 2 _ rfl).1 n (fun j => .long (f j))) (fun q => by cases q) (by show ¬ (i < 0 ∨ (arrV _ _ _).slots.size ≤ _); rw [arrV_size]; exact hin) rfl rfl hdg fun H1 e z oq => ?_
  refine kk H1 _ (hG.set ha ?_ zh_ok_l z oq)
  show H1[a]? = some (vp_cell _ _)
  rw [e]
  rw [vp_cell_l, vp_cell_l, arrV_store]
  congr 2
  funext q
  by_cases hq : q = i.toNatClampNeg
  · subst hq
    simp [updV, vp_updL]
  · simp [updV, vp_updL, hq]
theorem zr_aast {i : Int32} {v : Nat} {r : vw_C} (ht : (zt K)[t]? = some (K t, .object r.1)) (hc : vwCl[ci]? = some r) (hB : zc_B p s m args meth c cc mL own ret D K) (hG : zh_G D K b0 N h s.heap H locs) (hg : sR h t ci a i v = some h1) (hdg : decode cc pc = .ok (.aastore, 1))
    (kk : ∀ (H1 : Heap) (locs1 : List Loc), zh_G D K b0 N h1 s.heap H1 locs1 → W p l e R s m args below meth c H1 locs1 cells slots Q (F0 m (pc + 1) ls rest)) : W p l e R s m args below meth c H locs cells slots Q (F0 m pc ls (.ref v :: .int i :: .ref a :: rest)) := by
  obtain ⟨n, f, vs, ha, hv, hin, rfl⟩ := sR_s hg
  obtain ⟨hx, hb, hml, hown, hts, hr, hlocks, hK, hNw⟩ := hB
  have hlt : i.toNatClampNeg < n := Nat.not_le.mp fun q => hin (Or.inr q)
  have h0 : ¬ i < 0 := fun q => hin (Or.inl q)
  obtain ⟨r', hr', cellV, g1, g2, g3, -⟩ := (hG.1.2.2 v _ hv).2.1
  have hcls := (hK.1 ci r hc).2
  obtain ⟨kA, comp, k1, k2, k3, -⟩ := (hK.2 t _ ht).2
  have hcomp : comp = D.1 ci := Option.some.inj (k3.symm.trans hcls.1)
  subst hcomp
  obtain ⟨kC, hkC, -⟩ := hcls.2
  refine W.aast hx hb (hG.1.2.2 a _ ha).2.1 (fun q h => by cases h) (fun h => by cases h) k1 k2 rfl hkC ⟨h0, by show _ < (arrV _ _ _).slots.size; rw [arrV_size]; exact hlt⟩ g1 (fun q h => by rw [g3] at h; cases h) (by rw [g2]; exact hkC) (by rw [g2]; exact va_assign hcls) rfl rfl hdg fun H1 e z oq => ?_
  refine kk H1 _ (hG.set ha ?_ zh_ok_q z oq)
  show H1[a]? = some (vp_cell _ _)
  rw [e]
  rw [vp_cell_q, vp_cell_q, arrV_store]
  congr 2
  funext q
  by_cases hq : q = i.toNatClampNeg
  · subst hq
    simp [updV, va_up, va_rf]
  · simp [updV, va_up, hq]
theorem zr_copy {a0 : Nat} {sp dp n : Int32} (hlink : Cond.methodLink own index arraycopyName ∈ lw_tbl) (hnat : Cond.native arraycopyName ∈ lw_tbl) (hstat : Cond.static arraycopyName ∈ lw_tbl) (hini : Cond.initialized "java/lang/System" ∈ lw_tbl) (hls : ls.size = mL) (hB : zc_B p s m args meth c cc mL own ret D K) (hG : zh_G D K b0 N h s.heap H locs) (hg : cpB h a0 sp a dp n = some h1)
    (hframes : 1 ≤ R.frames) (hlocals : (rest.map fun v => v.category).sum + (nativeFrameWords "java/lang/System" "arraycopy" 5 + 11) ≤ R.locals) (hdg : decode cc pc = .ok (.invokestatic index, 3))
    (kk : ∀ (H1 : Heap) (locs1 : List Loc), zh_G D K b0 N h1 s.heap H1 locs1 → W p l e R s m args below meth c H1 locs1 cells slots Q (F0 m (pc + 3) ls rest)) : W p l e R s m args below meth c H locs cells slots Q (F0 m pc ls (.int n :: .int dp :: .ref a :: .int sp :: .ref a0 :: rest)) := by
  obtain ⟨n0, n1, f, g, ha0, ha1, ⟨e1, e2, e3⟩, h4, h5, rfl⟩ := cpB_s hg
  obtain ⟨hx, hb, hml, hown, hts, hr, hlocks, hK, hNw⟩ := hB
  have nn : ∀ z : Int32, ¬ z < 0 → z.toInt = (z.toNatClampNeg : Int) := by
    intro z hz
    have hz0 : (0 : Int) ≤ z.toInt := by
      have := Int32.not_lt.mp hz
      simpa using Int32.le_iff_toInt_le.mp this
    show z.toInt = ((z.toInt.toNat : Nat) : Int)
    omega
  intro T hT X
  have hc0 : H[a0]? = some (vp_cell (K 0) (n0, .inl f)) := (hG.1.2.2 a0 _ ha0).2.1
  have hc1 : H[a]? = some (vp_cell (K 0) (n1, .inl g)) := (hG.1.2.2 a _ ha1).2.1
  have ok0 := (hG.1.2.2 a0 _ ha0).2.2 n0 f rfl
  have ok1 := (hG.1.2.2 a _ ha1).2.2 n1 g rfl
  obtain ⟨-, k0, hk0, cm0, hkk0⟩ := (hK.2 0 _ rfl).1 n0 (fun j => .int (f j))
  obtain ⟨-, k1, hk1, cm1, hkk1⟩ := (hK.2 0 _ rfl).1 n1 (fun j => .int (g j))
  obtain ⟨vm', X', step⟩ := X.arraycopy hx hown (hts _ (zin hlink rfl)) (hts _ (zin hnat rfl)) (hts _ (zin hstat rfl)) (hts _ (zin hini rfl)) (src := a0) (dst := a) (cs := vp_cell (K 0) (n0, .inl f)) (cd := vp_cell (K 0) (n1, .inl g)) (srcPos := sp) (destPos := dp) (n := n) (by rw [hT]; exact hc0) (by rw [hT]; exact hc1)
    (fun _ h => by cases h) (fun _ h => by cases h) (fun h => by cases h) (fun h => by cases h) hk0 hk1 hkk0 hkk1 (by simp [refKind]) e1 e2 e3
    (by rw [nn sp e1, nn n e3]; show ¬ _ > ((arrV (K 0) n0 (fun j => .int (f j))).slots.size : Int); rw [arrV_size]; omega)
    (by rw [nn dp e2, nn n e3]; show ¬ _ > ((arrV (K 0) n1 (fun j => .int (g j))).slots.size : Int); rw [arrV_size]; omega)
    (fun vm₁ _ i hi => by
      have e : (vp_cell (K 0) (n0, .inl f)).slots.getD (sp.toNatClampNeg + i) .null = .int (f (sp.toNatClampNeg + i)) := by
        show (arrV (K 0) n0 (fun j => .int (f j))).slots.getD _ _ = _
        rw [Array.getD_eq_getD_getElem?, arrV_read _ _ (by omega)]
        rfl
      refine ⟨?_, ?_⟩
      · rw [e]
        exact ok0 _
      · rw [e]
        exact trivial)
    (g := F0 m pc ls (.int n :: .int dp :: .ref a :: .int sp :: .ref a0 :: rest)) rfl (by rw [hml, hls]) (rest := rest) rfl (by rw [hb]; exact hdg) hframes (by show 2 * 0 + _ + _ ≤ _; omega)
  have e1 : copied (vp_cell (K 0) (n0, .inl f)) (vp_cell (K 0) (n1, .inl g)) sp dp n = vp_cell (K 0) (n1, .inl (va_cpy f g sp.toNatClampNeg dp.toNatClampNeg n.toNatClampNeg)) := va_copied (fun z => .int z) (K 0) (K 0) f g h4
  rw [e1] at X' step
  have hl : a < H.size := (Array.getElem?_eq_some_iff.mp hc1).1
  have hheap : ((T.setVm vm').setCell a (vp_cell (K 0) (n1, .inl (va_cpy f g sp.toNatClampNeg dp.toNatClampNeg n.toNatClampNeg)))).heap = H.setIfInBounds a (vp_cell (K 0) (n1, .inl (va_cpy f g sp.toNatClampNeg dp.toNatClampNeg n.toNatClampNeg))) := by rw [← hT]; rfl
  have oq : ∀ q : Nat, q ≠ a → (H.setIfInBounds a (vp_cell (K 0) (n1, .inl (va_cpy f g sp.toNatClampNeg dp.toNatClampNeg n.toNatClampNeg))))[q]? = H[q]? := fun q hq => by simp [Array.getElem?_setIfInBounds, Ne.symm hq]
  have hba := (hG.1.2.2 a _ ha1).1
  have hG1 := hG.set (k := 0) (y := .inl (0, n1, .inl (va_cpy f g sp.toNatClampNeg dp.toNatClampNeg n.toNatClampNeg))) ha1 (show (H.setIfInBounds a _)[a]? = some _ by simp [Array.getElem?_setIfInBounds, hl]) (zh_ok_b fun j => by unfold va_cpy; split; exact ok0 _; exact ok1 _) (by simp) oq
  obtain ⟨t, a1, b1⟩ := kk _ _ ⟨hG1.1, ⟨hG1.2.1, hG1.2.2.1, fun q hq => by
      rcases List.mem_append.mp hq with h | h
      · exact hG.2.2.2 q h
      · obtain ⟨z, -, hz⟩ := List.mem_map.mp h
        rw [← hz]
        exact hba⟩⟩ _ hheap X'
  exact ⟨t, step t a1, b1⟩
theorem zr_new {fs : List Value} (hB : zc_B p s m args meth c cc mL own ret D K) (hG : zh_G D K b0 N h s.heap H locs) (F : zF ci C T Nf ty0) (hcl : Cond.classLink own index C ∈ lw_tbl) (hinst : Cond.instantiable C Nf ∈ lw_tbl) (hini : Cond.initialized C ∈ lw_tbl) (hfs : ∀ j, j < Nf → defaultValue (ty0 j) = vp_V fs j) (hroom : cells + 1 ≤ R.cells ∧ slots + Nf ≤ R.slots) (hdg : decode cc pc = .ok (.new index, 3))
    (kk : ∀ (H1 : Heap), zh_G D K b0 (N + 1) (zh_up h N (.inr (ci, fs))) s.heap H1 locs → W p l e R s m args below meth c H1 locs (cells + 1) (slots + Nf) Q (F0 m (pc + 3) ls (.ref N :: rest))) : W p l e R s m args below meth c H locs cells slots Q (F0 m pc ls rest) := by
  obtain ⟨hx, hb, hml, hown, hts, hr, hlocks, hK, hNw⟩ := hB
  obtain ⟨hc, hin0, hty, hnm⟩ := F
  have hKn := hK.1 ci _ hc
  refine W.newcK hx hb hown (hts _ (zin hcl rfl)) (hts _ (zin hinst rfl)) (hts _ (zin hini rfl)) rfl hdg hroom.1 hroom.2 hKn.2.1 hG.1.1 fun H1 kC hkC e1 z1 o1 => ?_
  exact kk H1 (hG.push ⟨_, hc, (u_born ty0 hts (u_ws_good hin0) hKn hkC e1 hty).to hfs⟩ zh_ok_o z1 o1)
theorem zr_newa {atype : ArrayType} {ty : FieldType} {n : Int32} {a0 : vp_A} (harr : Cond.arrayClass (newarray.typeOf atype) ∈ lw_tbl) (hty : newarray.typeOf atype = ty) (ht : (zt K)[t]? = some (K t, ty)) (hB : zc_B p s m args meth c cc mL own ret D K) (hG : zh_G D K b0 N h s.heap H locs)
    (ha : ∀ cA : ClassId, vp_cell cA a0 = arrV cA n.toNatClampNeg (fun _ => defaultValue ty)) (hok : zh_ok (.inl (t, a0))) (hn : ¬ n < 0 ∧ n.toNatClampNeg * componentBytes ty ≤ 536870912) (hroom : cells + 1 ≤ R.cells ∧ slots + n.toNatClampNeg ≤ R.slots) (hdg : decode cc pc = .ok (.newarray atype, 2))
    (kk : ∀ (H1 : Heap), zh_G D K b0 (N + 1) (zh_up h N (.inl (t, a0))) s.heap H1 locs → W p l e R s m args below meth c H1 locs (cells + 1) (slots + n.toNatClampNeg) Q (F0 m (pc + 2) ls (.ref N :: rest))) : W p l e R s m args below meth c H locs cells slots Q (F0 m pc ls (.int n :: rest)) := by
  obtain ⟨hx, hb, hml, hown, hts, hr, hlocks, hK, hNw⟩ := hB
  subst hty
  refine va_newaK hx hb (hts _ (zin harr rfl)) rfl hdg rfl hn.1 rfl hn.2 hroom.1 hroom.2 hG.1.1 fun H1 cA' e1 z1 o1 hAr hNm => ?_
  have hra : s.vm.findClass ("[" ++ (newarray.typeOf atype).toString) = some (K t) := by
    have := (hK.2 t _ ht).2
    cases atype <;> exact this
  have hcc : cA' = K t := Option.some.inj (hNm.symm.trans hra)
  subst hcc
  refine kk H1 (hG.push ?_ hok z1 o1)
  show H1[N]? = some (vp_cell _ _)
  rw [ha]
  exact e1
theorem zr_newq {n : Int32} {E : String} (hclink : Cond.classLink own index E ∈ lw_tbl) (hover : E = "EditFinder$ByteRow" ∨ E = "EditFinder$SetRow") (ht : (zt K)[t]? = some (K t, .object E)) (hB : zc_B p s m args meth c cc mL own ret D K) (hG : zh_G D K b0 N h s.heap H locs)
    (hn : ¬ n < 0 ∧ n.toNatClampNeg * 4 ≤ 536870912) (hroom : cells + 1 ≤ R.cells ∧ slots + n.toNatClampNeg ≤ R.slots) (hdg : decode cc pc = .ok (.anewarray index, 3))
    (kk : ∀ (H1 : Heap), zh_G D K b0 (N + 1) (zh_up h N (.inl (t, n.toNatClampNeg, .inr (.inr (.inr (.inr (fun _ => none))))))) s.heap H1 locs → W p l e R s m args below meth c H1 locs (cells + 1) (slots + n.toNatClampNeg) Q (F0 m (pc + 3) ls (.ref N :: rest))) : W p l e R s m args below meth c H locs cells slots Q (F0 m pc ls (.int n :: rest)) := by
  obtain ⟨hx, hb, hml, hown, hts, hr, hlocks, hK, hNw⟩ := hB
  have hao : va_AO E s := by
    rcases hover with rfl | rfl
    · exact hNw.2.1
    · exact hNw.2.2
  refine W.anew hx hb hown (hts _ (zin hclink rfl)) (va_AO.use hao) rfl hdg rfl hn.1 hn.2 hroom.1 hroom.2 fun cA' kA comp f1 f2 f3 f4 => ?_
  have hs : H.size = N := hG.1.1
  generalize hH1 : H.push ({ cls := cA', slots := Array.replicate n.toNatClampNeg .null, vm := .none } : Cell) = H1
  have z1 : H1.size = N + 1 := by rw [← hH1, Array.size_push, hs]
  have e1 : H1[N]? = some (arrV cA' n.toNatClampNeg (fun _ => .null)) := by rw [← hH1, ← hs, Array.getElem?_push_size, ← arrV_new]
  have o1 : ∀ q : Nat, q < N → H1[q]? = H[q]? := fun q hq => by rw [← hH1, Array.getElem?_push, if_neg (by omega)]
  obtain ⟨-, _, _, -, -, -, hra⟩ := (hK.2 t _ ht)
  have hcc : cA' = K t := Option.some.inj (f1.symm.trans hra)
  subst hcc
  rw [hs]
  refine kk H1 (hG.push ?_ zh_ok_q z1 o1)
  show H1[N]? = some (vp_cell _ _)
  rw [vp_cell_q]
  exact e1
theorem zr_oinit {idx : Nat} (hl : Cond.methodLink own idx Lib.objectInit ∈ lw_tbl) (hi : Cond.instanceMethod Lib.objectInit ∈ lw_tbl) (hcd : Cond.code Lib.objectInit ⟨#[0xb1]⟩ 1 none ∈ lw_tbl) (hls : ls.size = mL) (hB : zc_B p s m args meth c cc mL own ret D K) (hdg : decode cc pc = .ok (.invokespecial idx, 3)) (hframes : 1 ≤ R.frames) (hlocals : (rest.map fun v => v.category).sum + 12 ≤ R.locals)
    (kk : W p l e R s m args below meth c H locs cells slots Q (F0 m (pc + 3) ls rest)) : W p l e R s m args below meth c H locs cells slots Q (F0 m pc ls (.ref a :: rest)) := by
  obtain ⟨hx, hb, hml, hown, hts, hr, hlocks, hK, hNw⟩ := hB
  refine W.objInit hx hb hown (hts _ (zin hl rfl)) (hts _ (zin hi rfl)) (hts _ (zin hcd rfl)) rfl (by rw [hml]; exact hls) rfl hdg hframes (by show 2 * 0 + _ + 12 ≤ _; omega) ?_
  exact W.eq (g2 := F0 m (pc + 3) ls rest) rfl kk
theorem zr_min {x y : Int32} {idx : Nat} (hl : Cond.methodLink own idx Lib.Math.min.name ∈ lw_tbl) (hst : Cond.static Lib.Math.min.name ∈ lw_tbl) (hi : Cond.initialized "java/lang/Math" ∈ lw_tbl) (hcd : Cond.code Lib.Math.min.name Lib.Math.min.code 2 (some .int) ∈ lw_tbl) (hls : ls.size = mL) (hB : zc_B p s m args meth c cc mL own ret D K) (hdg : decode cc pc = .ok (.invokestatic idx, 3)) (hframes : 1 ≤ R.frames) (hlocals : (rest.map fun v => v.category).sum + 13 ≤ R.locals) (hcs : cells ≤ R.cells ∧ slots ≤ R.slots)
    (kk : W p l e R s m args below meth c H locs cells slots Q (F0 m (pc + 3) ls (.int (zmin x y) :: rest))) : W p l e R s m args below meth c H locs cells slots Q (F0 m pc ls (.int y :: .int x :: rest)) := by
  obtain ⟨hx, hb, hml, hown, hts, hr, hlocks, hK, hNw⟩ := hB
  exact va_mmin hx hb (hml.trans hls.symm) hown (hts _ (zin hl rfl)) (hts _ (zin hst rfl)) (hts _ (zin hi rfl)) (hts _ (zin hcd rfl)) hframes hlocals hcs.1 hcs.2 hdg kk
theorem zr_max {x y : Int32} {idx : Nat} (hl : Cond.methodLink own idx Lib.Math.max.name ∈ lw_tbl) (hst : Cond.static Lib.Math.max.name ∈ lw_tbl) (hi : Cond.initialized "java/lang/Math" ∈ lw_tbl) (hcd : Cond.code Lib.Math.max.name Lib.Math.max.code 2 (some .int) ∈ lw_tbl) (hls : ls.size = mL) (hB : zc_B p s m args meth c cc mL own ret D K) (hdg : decode cc pc = .ok (.invokestatic idx, 3)) (hframes : 1 ≤ R.frames) (hlocals : (rest.map fun v => v.category).sum + 13 ≤ R.locals) (hcs : cells ≤ R.cells ∧ slots ≤ R.slots)
    (kk : W p l e R s m args below meth c H locs cells slots Q (F0 m (pc + 3) ls (.int (zmax x y) :: rest))) : W p l e R s m args below meth c H locs cells slots Q (F0 m pc ls (.int y :: .int x :: rest)) := by
  obtain ⟨hx, hb, hml, hown, hts, hr, hlocks, hK, hNw⟩ := hB
  exact va_mmax hx hb (hml.trans hls.symm) hown (hts _ (zin hl rfl)) (hts _ (zin hst rfl)) (hts _ (zin hi rfl)) (hts _ (zin hcd rfl)) hframes hlocals hcs.1 hcs.2 hdg kk
theorem zr_abs {x : Int32} {idx : Nat} (hl : Cond.methodLink own idx Lib.Math.abs.name ∈ lw_tbl) (hst : Cond.static Lib.Math.abs.name ∈ lw_tbl) (hi : Cond.initialized "java/lang/Math" ∈ lw_tbl) (hcd : Cond.code Lib.Math.abs.name Lib.Math.abs.code 1 (some .int) ∈ lw_tbl) (hls : ls.size = mL) (hB : zc_B p s m args meth c cc mL own ret D K) (hdg : decode cc pc = .ok (.invokestatic idx, 3)) (hframes : 1 ≤ R.frames) (hlocals : (rest.map fun v => v.category).sum + 13 ≤ R.locals) (hcs : cells ≤ R.cells ∧ slots ≤ R.slots)
    (kk : W p l e R s m args below meth c H locs cells slots Q (F0 m (pc + 3) ls (.int (zabs x) :: rest))) : W p l e R s m args below meth c H locs cells slots Q (F0 m pc ls (.int x :: rest)) := by
  obtain ⟨hx, hb, hml, hown, hts, hr, hlocks, hK, hNw⟩ := hB
  exact va_mabs hx hb (hml.trans hls.symm) hown (hts _ (zin hl rfl)) (hts _ (zin hst rfl)) (hts _ (zin hi rfl)) (hts _ (zin hcd rfl)) hframes hlocals hcs.1 hcs.2 hdg kk
/-! ends -/
theorem zr_iret {post : Option Value → Nat → zh_H → Prop} {v : Int32} (hB : zc_B p s m args meth c cc mL own (some .int) D K) (hG : zh_G D K b0 N h s.heap H locs) (hq : post (some (.int v)) N h) (hdg : decode cc pc = .ok (.ireturn, 1)) : W p l e R s m args below meth c H locs cells slots (MQ below (zc_Q D K b0 post) args s cells slots (fun q => b0 ≤ q)) (F0 m pc ls [.int v]) := by
  obtain ⟨hx, hb, hml, hown, hts, hr, hlocks, hK⟩ := hB
  exact W.iret hx hb hr (fun t ht hW => ⟨⟨_, N, h, rfl, hq, by rw [ht]; exact hG.1⟩, hG.2.F ht⟩) hG.2.2.2 hdg
theorem zr_zret {post : Option Value → Nat → zh_H → Prop} {v : Int32} (hB : zc_B p s m args meth c cc mL own (some .boolean) D K) (hG : zh_G D K b0 N h s.heap H locs) (hn : v = 0 ∨ v = 1) (hq : post (some (.int v)) N h) (hdg : decode cc pc = .ok (.ireturn, 1)) : W p l e R s m args below meth c H locs cells slots (MQ below (zc_Q D K b0 post) args s cells slots (fun q => b0 ≤ q)) (F0 m pc ls [.int v]) := by
  obtain ⟨hx, hb, hml, hown, hts, hr, hlocks, hK⟩ := hB
  exact W.zret hx hb hr (by rcases hn with rfl | rfl <;> rfl) (fun t ht hW => ⟨⟨_, N, h, rfl, hq, by rw [ht]; exact hG.1⟩, hG.2.F ht⟩) hG.2.2.2 hdg
theorem zr_vret {post : Option Value → Nat → zh_H → Prop} (hB : zc_B p s m args meth c cc mL own none D K) (hG : zh_G D K b0 N h s.heap H locs) (hq : post none N h) (hdg : decode cc pc = .ok (.return_, 1)) : W p l e R s m args below meth c H locs cells slots (MQ below (zc_Q D K b0 post) args s cells slots (fun q => b0 ≤ q)) (F0 m pc ls []) := by
  obtain ⟨hx, hb, hml, hown, hts, hr, hlocks, hK⟩ := hB
  exact W.vret hx hb hr (fun t ht hW => ⟨⟨_, N, h, rfl, hq, by rw [ht]; exact hG.1⟩, hG.2.F ht⟩) hG.2.2.2 hdg
theorem zr_aret {post : Option Value → Nat → zh_H → Prop} {v : Nat} {rt : FieldType} (hB : zc_B p s m args meth c cc mL own (some (.array rt)) D K) (hG : zh_G D K b0 N h s.heap H locs) (hq : post (some (.ref v)) N h) (hdg : decode cc pc = .ok (.areturn, 1)) : W p l e R s m args below meth c H locs cells slots (MQ below (zc_Q D K b0 post) args s cells slots (fun q => b0 ≤ q)) (F0 m pc ls [.ref v]) := by
  obtain ⟨hx, hb, hml, hown, hts, hr, hlocks, hK⟩ := hB
  exact W.aret hx hb hr (Or.inr ⟨_, rfl⟩) (Or.inr ⟨_, rfl⟩) (fun t ht hW => ⟨⟨_, N, h, rfl, hq, by rw [ht]; exact hG.1⟩, hG.2.F ht⟩) hG.2.2.2 hdg
/-! calls -/
theorem zr_back {post : Option Value → Nat → zh_H → Prop} {mc ms : Nat} {av : Array Value} (hr : va_Run p l e R s m args below meth c H locs cells slots mc ms (F0 m pc ls st0) rest (zc_Q D K b0 post av) (fun q => b0 ≤ q)) (hG : zh_G D K b0 N h s.heap H locs)
    (kk : ∀ (r : Option Value) (N1 : Nat) (h1 : zh_H) (H1 : Heap) (locs1 : List Loc), post r N1 h1 → zh_G D K b0 N1 h1 s.heap H1 locs1 → W p l e R s m args below meth c H1 locs1 (cells + mc) (slots + ms) Q (F0 m (pc + 3) ls (r.toList ++ rest))) : W p l e R s m args below meth c H locs cells slots Q (F0 m pc ls st0) := by
  intro T hT X
  obtain ⟨v, st₀, t, T', L, h0, X', hL, e1, e2, ⟨⟨r, N1, h1, hv, hp, hR⟩, hz, hk⟩, st⟩ := hr T hT X
  cases hv
  rw [h0] at hz hk
  obtain ⟨t2, a1, b1⟩ := kk v N1 h1 T'.heap (locs ++ L) hp ⟨by rw [e1]; exact hR, Nat.le_trans hG.2.1 (by rw [e1]; exact hz), fun q g1 g2 => by rw [e1, hk q (Nat.lt_of_lt_of_le g1 hG.2.1) g2]; exact hG.2.2.1 q g1 g2, fun q hq => by
      rcases List.mem_append.mp hq with h | h
      · exact hG.2.2.2 q h
      · exact hL q h⟩ T' rfl X'
  exact ⟨t2, st t2 a1, b1⟩
theorem zr_pre {y : MethodName} {as : List Value} (hB : zc_B p s m args meth c cc mL own ret D K) (hG : zh_G D K b0 N h s.heap H locs) : PreS s H (zc_P D K b0 N h as) as := by
  obtain ⟨hx, hb, hml, hown, hts, hr, hlocks, hK⟩ := hB
  exact ⟨zc_blind, fun U hU hW => ⟨rfl, by rw [hU]; exact hG.1, hK.warm hW⟩⟩
variable {y : MethodName} {b : ByteArray} {mL' n d' mc ms o N1 : Nat} {ret' : Option FieldType} {As : List Value} {v : Option Value} {w : Value}
theorem zr_cb (S : zSB own index y b mL' ret' n) (hB : zc_B p s m args meth c cc mL own ret D K) (hroom : d' + 1 ≤ R.frames ∧ 8 + (mL' + 11) + 36 * d' ≤ R.locals) : CallB R s args own index y b mL' ret' (zc_w y b mL' ret') (zc_rm d' mc ms) mc ms n := by
  obtain ⟨hx, hb, hml, hown, hts, hr, hlocks, hK⟩ := hB
  exact callB_of n hts (zgood S.2.1) rfl rfl rfl (hts _ (zin S.2.2.1 rfl)) (hts _ (zin S.1 rfl)) S.2.2.2 hroom
theorem zr_fix (hB : zc_B p s m args meth c cc mL own ret D K) : CallFix p m c cc mL s args zc_tb own := by
  obtain ⟨hx, hb, hml, hown, hts, hr, hlocks, hK⟩ := hB
  exact ⟨hx, hb, hml, hown, hts⟩
theorem zr_callV0 (S : zSV own index y b mL' ret' n ci) (hB : zc_B p s m args meth c cc mL own ret D K) (hG : zh_G D K b0 N h s.heap H locs) (hC : zc l y b mL' ret' d' mc ms D K b0 N h (.ref o :: As) (zq v N1 h1)) {u : Unit} (ho : isO h o ci = some u) (hn : As.length = n) (hls : ls.size = mL) (hst : st0 = As.reverse ++ .ref o :: rest) (hroom : d' + 1 ≤ R.frames ∧ 8 + (mL' + 11) + 36 * d' ≤ R.locals) (hW : (rest.map fun v => v.category).sum ≤ 8) (hcs : cells + mc ≤ R.cells ∧ slots + ms ≤ R.slots) (hdg : decode cc pc = .ok (.invokevirtual index, 3))
    (kk : ∀ (H1 : Heap) (locs1 : List Loc), zh_G D K b0 N1 h1 s.heap H1 locs1 → W p l e R s m args below meth c H1 locs1 (cells + mc) (slots + ms) Q (F0 m (pc + 3) ls (v.toList ++ rest))) : W p l e R s m args below meth c H locs cells slots Q (F0 m pc ls st0) := by
  obtain ⟨fs, he⟩ := isO_s ho
  obtain ⟨S1, hi, hse, r, hc, hrn⟩ := S
  have hts := hB.2.2.2.2.1
  have hp := zr_pre (y := y) (as := .ref o :: As) hB hG
  refine zr_back (va_runV (C := y.cls) (zr_fix hB) hC ⟨zr_cb S1 hB hroom, hts _ (zin hi rfl), hts _ (zin hse rfl)⟩ ⟨hp.1, ?_, hp.2⟩ rfl hn hls hst (by show 2 * 0 + _ ≤ 8; omega) hdg hcs) hG ?_
  · have h2 := va_recv hB.2.2.2.2.2.2.2.1 (hG.at he) hc (q0 := 0) rfl
    rw [hrn] at h2
    exact h2
  · intro r2 N2 h2 H2 locs2 hq hG2
    obtain ⟨rfl, rfl, rfl⟩ := hq
    exact kk H2 locs2 hG2
theorem zr_callV (S : zSV own index y b mL' ret' n ci) (hB : zc_B p s m args meth c cc mL own ret D K) (hG : zh_G D K b0 N h s.heap H locs) (hC : zc l y b mL' ret' d' mc ms D K b0 N h (.ref o :: As) (zq (some w) N1 h1)) {u : Unit} (ho : isO h o ci = some u) (hn : As.length = n) (hls : ls.size = mL) (hst : st0 = As.reverse ++ .ref o :: rest) (hroom : d' + 1 ≤ R.frames ∧ 8 + (mL' + 11) + 36 * d' ≤ R.locals) (hW : (rest.map fun v => v.category).sum ≤ 8) (hcs : cells + mc ≤ R.cells ∧ slots + ms ≤ R.slots) (hdg : decode cc pc = .ok (.invokevirtual index, 3))
    (kk : ∀ (H1 : Heap) (locs1 : List Loc), zh_G D K b0 N1 h1 s.heap H1 locs1 → W p l e R s m args below meth c H1 locs1 (cells + mc) (slots + ms) Q (F0 m (pc + 3) ls (w :: rest))) : W p l e R s m args below meth c H locs cells slots Q (F0 m pc ls st0) :=
  zr_callV0 S hB hG hC ho hn hls hst hroom hW hcs hdg kk
theorem zr_callVv (S : zSV own index y b mL' ret' n ci) (hB : zc_B p s m args meth c cc mL own ret D K) (hG : zh_G D K b0 N h s.heap H locs) (hC : zc l y b mL' ret' d' mc ms D K b0 N h (.ref o :: As) (zq none N1 h1)) {u : Unit} (ho : isO h o ci = some u) (hn : As.length = n) (hls : ls.size = mL) (hst : st0 = As.reverse ++ .ref o :: rest) (hroom : d' + 1 ≤ R.frames ∧ 8 + (mL' + 11) + 36 * d' ≤ R.locals) (hW : (rest.map fun v => v.category).sum ≤ 8) (hcs : cells + mc ≤ R.cells ∧ slots + ms ≤ R.slots) (hdg : decode cc pc = .ok (.invokevirtual index, 3))
    (kk : ∀ (H1 : Heap) (locs1 : List Loc), zh_G D K b0 N1 h1 s.heap H1 locs1 → W p l e R s m args below meth c H1 locs1 (cells + mc) (slots + ms) Q (F0 m (pc + 3) ls rest)) : W p l e R s m args below meth c H locs cells slots Q (F0 m pc ls st0) :=
  zr_callV0 S hB hG hC ho hn hls hst hroom hW hcs hdg kk
theorem zr_callS (S : zSS own index y b mL' ret' n) (hB : zc_B p s m args meth c cc mL own ret D K) (hG : zh_G D K b0 N h s.heap H locs) (hC : zc l y b mL' ret' d' mc ms D K b0 N h As (zq (some w) N1 h1)) (hn : As.length = n) (hls : ls.size = mL) (hst : st0 = As.reverse ++ rest) (hroom : d' + 1 ≤ R.frames ∧ 8 + (mL' + 11) + 36 * d' ≤ R.locals) (hW : (rest.map fun v => v.category).sum ≤ 8) (hcs : cells + mc ≤ R.cells ∧ slots + ms ≤ R.slots) (hdg : decode cc pc = .ok (.invokestatic index, 3))
    (kk : ∀ (H1 : Heap) (locs1 : List Loc), zh_G D K b0 N1 h1 s.heap H1 locs1 → W p l e R s m args below meth c H1 locs1 (cells + mc) (slots + ms) Q (F0 m (pc + 3) ls (w :: rest))) : W p l e R s m args below meth c H locs cells slots Q (F0 m pc ls st0) := by
  have hts := hB.2.2.2.2.1
  refine zr_back (va_runS (zr_fix hB) hC ⟨zr_cb S.1 hB hroom, hts _ (zin S.2 rfl)⟩ (zr_pre (y := y) hB hG) rfl hn hls hst (by show 2 * 0 + _ ≤ 8; omega) hdg hcs) hG ?_
  intro r2 N2 h2 H2 locs2 hq hG2
  obtain ⟨rfl, rfl, rfl⟩ := hq
  exact kk H2 locs2 hG2
theorem zr_callI (S : zSI own index y b mL' n) (hB : zc_B p s m args meth c cc mL own ret D K) (hG : zh_G D K b0 N h s.heap H locs) (hC : zc l y b mL' none d' mc ms D K b0 N h (.ref o :: As) (zq none N1 h1)) (hn : As.length = n) (hls : ls.size = mL) (hst : st0 = As.reverse ++ .ref o :: rest) (hroom : d' + 1 ≤ R.frames ∧ 8 + (mL' + 11) + 36 * d' ≤ R.locals) (hW : (rest.map fun v => v.category).sum ≤ 8) (hcs : cells + mc ≤ R.cells ∧ slots + ms ≤ R.slots) (hdg : decode cc pc = .ok (.invokespecial index, 3))
    (kk : ∀ (H1 : Heap) (locs1 : List Loc), zh_G D K b0 N1 h1 s.heap H1 locs1 → W p l e R s m args below meth c H1 locs1 (cells + mc) (slots + ms) Q (F0 m (pc + 3) ls rest)) : W p l e R s m args below meth c H locs cells slots Q (F0 m pc ls st0) := by
  have hts := hB.2.2.2.2.1
  refine zr_back (va_runI (zr_fix hB) hC ⟨zr_cb S.1 hB hroom, S.2.2, hts _ (zin S.2.1 rfl)⟩ (zr_pre (y := y) hB hG) rfl hn hls hst (by show 2 * 0 + _ ≤ 8; omega) hdg hcs) hG ?_
  intro r2 N2 h2 H2 locs2 hq hG2
  obtain ⟨rfl, rfl, rfl⟩ := hq
  exact kk H2 locs2 hG2
/-- EditFinder.isByte, called by its nest mate -/
theorem zr_callN {st : Cond.static yX10_isByte ∈ lw_tbl} {hcode : Cond.code yX10_isByte cX10_isByte 1 (some .boolean) ∈ lw_tbl} {hini : Cond.initialized RX10 ∈ lw_tbl} {x : Int32} (hB : zc_B p s m args meth c cc mL RX4 ret D K) (hG : zh_G D K b0 N h s.heap H locs) (hC : zc l yX10_isByte cX10_isByte 1 (some .boolean) d' mc ms D K b0 N h [.int x] (zq (some w) N1 h1)) (hls : ls.size = mL) (hst : st0 = [Value.int x] ++ rest) (hroom : d' + 1 ≤ R.frames ∧ 8 + (1 + 11) + 36 * d' ≤ R.locals) (hW : (rest.map fun v => v.category).sum ≤ 8) (hcs : cells + mc ≤ R.cells ∧ slots + ms ≤ R.slots) (hdg : decode cc pc = .ok (.invokestatic 88, 3))
    (kk : ∀ (H1 : Heap) (locs1 : List Loc), zh_G D K b0 N1 h1 s.heap H1 locs1 → W p l e R s m args below meth c H1 locs1 (cells + mc) (slots + ms) Q (F0 m (pc + 3) ls (w :: rest))) : W p l e R s m args below meth c H locs cells slots Q (F0 m pc ls st0) := by
  have hts := hB.2.2.2.2.1
  have hNw := hB.2.2.2.2.2.2.2.2.1
  refine zr_back (va_runSN (n := 1) (host := RX10) (index := 88) (zr_fix hB) hC ⟨va_cnB 1 hts (zgood hcode) rfl rfl rfl hNw (hts _ (zin hini rfl)) (by decide +kernel) hroom, hts _ (zin st rfl), trivial⟩ (zr_pre (y := yX10_isByte) hB hG) rfl rfl hls hst (by show 2 * 0 + _ ≤ 8; omega) hdg hcs) hG ?_
  intro r2 N2 h2 H2 locs2 hq hG2
  obtain ⟨rfl, rfl, rfl⟩ := hq
  exact kk H2 locs2 hG2
end ZJ
end
